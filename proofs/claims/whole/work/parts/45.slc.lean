-- ===== slices: a stretch that is narrowed =====
abbrev zSl : Type := Bool × zFr × zFr
def nwL (f : zFr) (a q : Int) : zFr := if a < 0 ∧ q * f.2 < f.1 * a then fRed q a else f
def nwH (f : zFr) (a q : Int) : zFr := if 0 < a ∧ q * f.2 < f.1 * a then fRed q a else f
def nw (st : zSl) (a q : Int) : zSl := (st.1 && decide (a ≠ 0 ∨ 0 ≤ q), nwL st.2.1 a q, nwH st.2.2 a q)
def clo (st : zSl) : zSl := (st.1 && !fLt st.2.2 st.2.1, st.2.1, st.2.2)
theorem fRed_1 (n : Int) : fRed n 1 = (n, 1) := fRed_id (f := (n, 1)) ⟨show (0 : Int) < 1 by decide, Nat.gcd_one_right _⟩
-- ===== the class's slices =====
def slF (past : Nat → Nat) (s p l u : Nat) : Prop := (p = 135 + 3 * s ∧ l = 136 + 3 * s ∧ u = 137 + 3 * s) ∧ Nat.beq (zKd zK0 p).1 9 = true ∧ zR0 past p 1 = some l ∧ zR0 past p 2 = some u ∧ Nat.beq (zKd zK0 l).1 6 = true ∧ Nat.beq (zKd zK0 u).1 6 = true
theorem slF_a : ∀ s, s < 42 → Nat.beq (135 + 3 * s) 26 = false ∧ Nat.beq (zKd zK0 (135 + 3 * s)).1 9 = true ∧ zNth none (zNth [] zRt0 (135 + 3 * s)) 1 = some (136 + 3 * s) ∧ zNth none (zNth [] zRt0 (135 + 3 * s)) 2 = some (137 + 3 * s) ∧ Nat.beq (zKd zK0 (136 + 3 * s)).1 6 = true ∧ Nat.beq (zKd zK0 (137 + 3 * s)).1 6 = true ∧ zNth none (zNth [] zRt0 131) s = some (135 + 3 * s) := by decide +kernel
theorem slF_of (past : Nat → Nat) {s : Nat} (hs : s < 42) : ∃ p l u, slF past s p l u := by
  obtain ⟨a, b, c, d, e, f, _⟩ := slF_a s hs
  exact ⟨_, _, _, ⟨rfl, rfl, rfl⟩, b, by rw [zR0_t a]; exact c, by rw [zR0_t a]; exact d, e, f⟩
theorem slF_r (past : Nat → Nat) {s : Nat} (hs : s < 42) : zR0 past 131 s = some (135 + 3 * s) := by
  rw [zR0_t (by decide)]; exact (slF_a s hs).2.2.2.2.2.2
theorem fM_id {s : Nat} (hs : s < 42) : fM (nI s) (Int32.ofNat 42) = nI s := by
  have e42 : (Int32.ofNat 42).toInt = 42 := by decide
  have r := z_irem (x := nI s) (y := Int32.ofNat 42) (by rw [e42]; omega)
  have es := nI_toInt (n := s) (by omega)
  rw [e42, es, Int.tmod_eq_of_lt (by omega) (by omega)] at r
  unfold fM
  rw [if_neg (by rw [Int32.lt_iff_toInt_lt, r, Int32.toInt_zero]; omega), z_i_eq, r, es]
theorem c_at {G : zG} (hG : zGok G) {k' : Nat} (hk : 2 ≤ k') {I : Nat → Nat → Int32} {J : Nat → Nat → Int64} {past : Nat → Nat} {Q : zRt} (r w k : Nat) (hr : r < 3) (hw : w < 2) (hkk : k < 7) {R W K : Int32} (eR : R = nI r) (eW : W = nI w) (eK : K = nI k) (h : ∀ p l u, slF past (14 * r + 7 * w + k) p l u → Q (some (.ref p)) (zK0, I, J, zR0 past)) : zCalls G k' yX7_at [.ref 130, .int R, .int W, .int K] (zK0, I, J, zR0 past) Q := by
  subst eR
  subst eW
  subst eK
  have e : (nI r * 2 + nI w) * 7 + nI k = nI (14 * r + 7 * w + k) := by
    rw [show (2 : Int32) = nI 2 from rfl, show (7 : Int32) = nI 7 from rfl, pk_mul, nI_add, pk_mul, nI_add]; congr 1; omega
  obtain ⟨p, l, u, hf⟩ := slF_of past (s := 14 * r + 7 * w + k) (by omega)
  have hp := hf.1.1
  refine rnX7_at hG hk 130 _ _ _ ?_
  refine sgX7_at hG [] 60 0 ?_
  refine j_floorMod hG (by decide) _ _ (by decide) ?_
  have e2 : fM ((nI r * 2 + nI w) * 7 + nI k) (Int32.ofNat 42) = nI (14 * r + 7 * w + k) := by rw [e]; exact fM_id (by omega)
  refine And.intro (by rw [e2]; exact vp_in_nI (by omega) (by omega)) ⟨p, ?_, h p l u hf⟩
  rw [e2, nI_clamp (by omega), slF_r past (by omega), hp]
/-- the numbers as they are -/
def cSl (I : Nat → Nat → Int32) (J : Nat → Nat → Int64) (p l u : Nat) (st : zSl) : Prop := I p 0 = zb (!st.1) ∧ cFx J l st.2.1 ∧ cFx J u st.2.2
theorem c_fill {G : zG} (hG : zGok G) {k' : Nat} (hk : 4 ≤ k') {I : Nat → Nat → Int32} {J : Nat → Nat → Int64} {past : Nat → Nat} {Q : zRt} {s p l u : Nat} (hf : slF past s p l u) (h : ∀ I' J', (∀ x, x ≠ p → I' x = I x) → (∀ x, x ≠ l → x ≠ u → J' x = J x) → cSl I' J' p l u (true, (0, 1), (6, 1)) → Q none (zK0, I', J', zR0 past)) : zCalls G k' yX9_fill [.ref p] (zK0, I, J, zR0 past) Q := by
  obtain ⟨⟨ep, el, eu⟩, p9, r1, r2, l6, u6⟩ := hf
  refine rnX9_fill hG hk p ?_
  refine sgX9_fill hG [] 60 0 ?_
  refine zB_in p9 (And.intro (Or.inl rfl) ?_)
  refine zB_in p9 (op_in r1 ?_)
  refine zB_in l6 ?_
  refine c_putI hG (by decide) l l6 (a := 0) (b := 1) rfl rfl (by decide) (by decide) (by decide) (fun J1 f1 q1 => ?_)
  refine zB_in p9 (op_in r2 ?_)
  refine zB_in u6 ?_
  refine c_putI hG (by decide) u u6 (a := 6) (b := 1) rfl rfl (by decide) (by decide) (by decide) (fun J2 f2 q2 => ?_)
  rw [fRed_1] at q1 q2
  exact h _ J2 (fun x hx => z_upI_ne hx) (fun x a b => (f2 x b).trans (f1 x a)) ⟨uI_s, cFx_fr q1 (f2 l (by omega)), q2⟩
theorem c_capBy {G : zG} (hG : zGok G) {k' : Nat} (hk : 4 ≤ k') {I : Nat → Nat → Int32} {J : Nat → Nat → Int64} {past : Nat → Nat} {Q : zRt} {s p l u : Nat} (hf : slF past s p l u) {st : zSl} (hs : cSl I J p l u st) (A : Int32) {R : Int64} {q : Int} (eR : R = Int64.ofInt q) (bl : fB st.2.1) (bu : fB st.2.2) (ba : fB (q, A.toInt)) (h : ∀ I' J', (∀ x, x ≠ p → I' x = I x) → (∀ x, x ≠ l → x ≠ u → J' x = J x) → cSl I' J' p l u (nw st A.toInt q) → Q none (zK0, I', J', zR0 past)) : zCalls G k' yX9_capBy [.ref p, .int A, .long R] (zK0, I, J, zR0 past) Q := by
  obtain ⟨⟨ep, el, eu⟩, p9, r1, r2, l6, u6⟩ := hf
  subst eR
  obtain ⟨s0, s1, s2⟩ := hs
  have tA := t64 A
  have ba1 := ba.1
  have ba2 := ba.2
  have m1 := fB_m ba bl
  have m2 := fB_m bl ba
  have m3 := fB_m ba bu
  have m4 := fB_m bu ba
  have cH : Int64.ofInt q * J u 1 < J u 0 * A.toInt64 ↔ q * st.2.2.2 < st.2.2.1 * A.toInt := by
    rw [s2.1, s2.2, tA, ← Int64.ofInt_mul, ← Int64.ofInt_mul]
    exact lI_lt (Nat.lt_of_le_of_lt m3 (by decide)) (Nat.lt_of_le_of_lt m4 (by decide))
  have cL : Int64.ofInt q * J l 1 < J l 0 * A.toInt64 ↔ q * st.2.1.2 < st.2.1.1 * A.toInt := by
    rw [s1.1, s1.2, tA, ← Int64.ofInt_mul, ← Int64.ofInt_mul]
    exact lI_lt (Nat.lt_of_le_of_lt m1 (by decide)) (Nat.lt_of_le_of_lt m2 (by decide))
  have a0 : A ≤ 0 ↔ A.toInt ≤ 0 := by rw [Int32.le_iff_toInt_le, Int32.toInt_zero]
  have a1 : 0 ≤ A ↔ 0 ≤ A.toInt := by rw [Int32.le_iff_toInt_le, Int32.toInt_zero]
  have a2 : A = 0 ↔ A.toInt = 0 := by rw [z_i_eq, Int32.toInt_zero]
  have q0 : 0 ≤ Int64.ofInt q ↔ 0 ≤ q := by
    have : q.natAbs < 2 ^ 63 := Nat.lt_of_le_of_lt ba1 (by decide)
    rw [Int64.le_iff_toInt_le, lI_T this, Int64.toInt_zero]
  have same : A.toInt ≠ 0 → ¬ (A.toInt < 0 ∧ q * st.2.1.2 < st.2.1.1 * A.toInt) → ¬ (0 < A.toInt ∧ q * st.2.2.2 < st.2.2.1 * A.toInt) → Q none (zK0, I, J, zR0 past) := by
    intro n0 c d
    refine h I J (fun _ _ => rfl) (fun _ _ _ => rfl) ?_
    unfold nw nwL nwH
    rw [if_neg c, if_neg d, decide_eq_true (Or.inl n0), Bool.and_true]
    exact ⟨s0, s1, s2⟩
  refine rnX9_capBy hG hk p _ _ ?_
  refine sgX9_capBy hG [40, 80] 60 0 ?_
  have z80 : (A.toInt ≠ 0 → ¬ (A.toInt < 0 ∧ q * st.2.1.2 < st.2.1.1 * A.toInt) ∧ ¬ (0 < A.toInt ∧ q * st.2.2.2 < st.2.2.1 * A.toInt)) → aX9_capBy G Q 80 [some (.ref p), some (.int A), some (.long (Int64.ofInt q)), none] [] (zK0, I, J, zR0 past) := by
    intro n0
    refine sgX9_capBy hG [40] 60 80 ?_
    refine And.intro (fun c => ?_) (fun c => ?_)
    · rw [a2] at c
      exact same c (n0 c).1 (n0 c).2
    · rw [a2] at c
      have e1 : nwL st.2.1 A.toInt q = st.2.1 := by unfold nwL; rw [if_neg (fun z => by omega)]
      have e2 : nwH st.2.2 A.toInt q = st.2.2 := by unfold nwH; rw [if_neg (fun z => by omega)]
      refine And.intro (fun d => ?_) (fun d => ?_)
      · rw [q0] at d
        refine h I J (fun _ _ => rfl) (fun _ _ _ => rfl) ?_
        unfold nw
        rw [e1, e2, decide_eq_true (Or.inr d), Bool.and_true]
        exact ⟨s0, s1, s2⟩
      · rw [q0] at d
        refine zB_in p9 (And.intro (Or.inr rfl) ?_)
        refine h _ J (fun x hx => z_upI_ne hx) (fun _ _ _ => rfl) ?_
        unfold nw
        rw [e1, e2, decide_eq_false (fun z => by rcases z with z | z <;> omega), Bool.and_false]
        exact ⟨uI_s, s1, s2⟩
  have z40 : ¬ (0 < A.toInt ∧ q * st.2.2.2 < st.2.2.1 * A.toInt) → aX9_capBy G Q 40 [some (.ref p), some (.int A), some (.long (Int64.ofInt q)), none] [] (zK0, I, J, zR0 past) := by
    intro nH
    refine sgX9_capBy hG [40, 80] 60 40 ?_
    refine And.intro (fun c => ?_) (fun c => ?_)
    · rw [a1] at c
      exact z80 (fun n0 => ⟨fun z => by omega, nH⟩)
    · rw [a1] at c
      refine zB_in p9 (op_in r1 ?_)
      refine zB_in l6 ?_
      refine zB_in p9 (op_in r1 ?_)
      refine zB_in l6 ?_
      refine And.intro (fun d => ?_) (fun d => ?_)
      · have d : ¬ Int64.ofInt q * J l 1 < J l 0 * A.toInt64 := Int64.not_lt.mpr d
        rw [cL] at d
        exact z80 (fun n0 => ⟨fun z => d z.2, nH⟩)
      · have d : Int64.ofInt q * J l 1 < J l 0 * A.toInt64 := Int64.not_le.mp d
        rw [cL] at d
        refine zB_in p9 (op_in r1 ?_)
        refine zB_in l6 ?_
        refine c_putI hG (by decide) l l6 rfl tA (Nat.lt_of_le_of_lt ba1 (by decide)) (Nat.lt_of_le_of_lt ba2 (by decide)) (by omega) (fun J1 f1 q1 => ?_)
        refine h I J1 (fun _ _ => rfl) (fun x z _ => f1 x z) ?_
        unfold nw nwL nwH
        rw [if_pos ⟨by omega, d⟩, if_neg nH, decide_eq_true (Or.inl (by omega)), Bool.and_true]
        exact ⟨s0, q1, cFx_fr s2 (f1 u (by omega))⟩
  refine And.intro (fun c => ?_) (fun c => ?_)
  · rw [a0] at c
    exact z40 (fun z => by omega)
  · rw [a0] at c
    refine zB_in p9 (op_in r2 ?_)
    refine zB_in u6 ?_
    refine zB_in p9 (op_in r2 ?_)
    refine zB_in u6 ?_
    refine And.intro (fun d => ?_) (fun d => ?_)
    · have d : ¬ Int64.ofInt q * J u 1 < J u 0 * A.toInt64 := Int64.not_lt.mpr d
      rw [cH] at d
      exact z40 (fun z => d z.2)
    · have d : Int64.ofInt q * J u 1 < J u 0 * A.toInt64 := Int64.not_le.mp d
      rw [cH] at d
      refine zB_in p9 (op_in r2 ?_)
      refine zB_in u6 ?_
      refine c_putI hG (by decide) u u6 rfl tA (Nat.lt_of_le_of_lt ba1 (by decide)) (Nat.lt_of_le_of_lt ba2 (by decide)) (by omega) (fun J1 f1 q1 => ?_)
      refine h I J1 (fun _ _ => rfl) (fun x _ z => f1 x z) ?_
      unfold nw nwL nwH
      rw [if_neg (fun z => by omega), if_pos ⟨by omega, d⟩, decide_eq_true (Or.inl (by omega)), Bool.and_true]
      exact ⟨s0, cFx_fr s1 (f1 l (by omega)), q1⟩
theorem c_emptyIfCrossed {G : zG} (hG : zGok G) {k' : Nat} (hk : 2 ≤ k') {I : Nat → Nat → Int32} {J : Nat → Nat → Int64} {past : Nat → Nat} {Q : zRt} {s p l u : Nat} (hf : slF past s p l u) {st : zSl} (hs : cSl I J p l u st) (bl : fB st.2.1) (bu : fB st.2.2) (h : ∀ I', (∀ x, x ≠ p → I' x = I x) → cSl I' J p l u (clo st) → Q none (zK0, I', J, zR0 past)) : zCalls G k' yX9_emptyIfCrossed [.ref p] (zK0, I, J, zR0 past) Q := by
  obtain ⟨⟨ep, el, eu⟩, p9, r1, r2, l6, u6⟩ := hf
  obtain ⟨s0, s1, s2⟩ := hs
  refine rnX9_emptyIfCrossed hG hk p ?_
  refine sgX9_emptyIfCrossed hG [] 60 0 ?_
  refine zB_in p9 (op_in r2 ?_)
  refine zB_in p9 (op_in r1 ?_)
  refine zB_in u6 ?_
  refine c_isBelowI hG (by decide) u l u6 l6 s2 s1 bu bl ?_
  refine And.intro (fun c => ?_) (fun c => ?_)
  · have c := (zb_eq0 _).mp c
    refine h I (fun _ _ => rfl) ?_
    unfold clo
    rw [c]
    refine ⟨?_, s1, s2⟩
    rw [s0]
    cases st.1 <;> rfl
  · have c := z_nb1 (x := 0) c
    refine zB_in p9 (And.intro (Or.inr rfl) ?_)
    refine h _ (fun x hx => z_upI_ne hx) ?_
    unfold clo
    rw [c]
    refine ⟨?_, s1, s2⟩
    rw [uI_s]
    cases st.1 <;> rfl
