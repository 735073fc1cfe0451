-- ===== rows are small =====
theorem okRow_bd {a b c : Int32} (h : okRow a b c) : a.toInt.natAbs ≤ 5 ∧ b.toInt.natAbs ≤ 5 ∧ c.toInt.natAbs ≤ 50 := by
  obtain ⟨⟨a1, a2⟩, ⟨b1, b2⟩, ⟨c1, c2⟩, _⟩ := h
  have e1 : (-5 : Int32).toInt = -5 := by decide
  have e2 : (5 : Int32).toInt = 5 := by decide
  have e3 : (-50 : Int32).toInt = -50 := by decide
  have e4 : (50 : Int32).toInt = 50 := by decide
  rw [Int32.le_iff_toInt_le] at a1 a2 b1 b2 c1 c2
  omega
theorem zBx_bd : ∀ j, j < 4 → (zBx (3 * j)).toInt.natAbs ≤ 5 ∧ (zBx (3 * j + 1)).toInt.natAbs ≤ 5 ∧ (zBx (3 * j + 2)).toInt.natAbs ≤ 50 := by decide
theorem pR_bd {π : zPl} (hv : vRw π) {k : Nat} (hk : k < π.1 + 4) : (pR π k 0).toInt.natAbs ≤ 5 ∧ (pR π k 1).toInt.natAbs ≤ 5 ∧ (pR π k 2).toInt.natAbs ≤ 50 := by
  unfold pR
  by_cases c : k < π.1
  · rw [if_pos c, if_pos c, if_pos c]
    exact okRow_bd (hv.2 k c)
  · rw [if_neg c, if_neg c, if_neg c]
    exact zBx_bd (k - π.1) (by omega)
theorem pR_w {π : zPl} (hv : vRw π) {k w : Nat} (hk : k < π.1 + 4) (hw : w < 2) : (pR π k w).toInt.natAbs ≤ 5 := by
  have := pR_bd hv hk
  rcases (show w = 0 ∨ w = 1 by omega) with rfl | rfl
  · exact this.1
  · exact this.2.1
def zRs (π : zPl) (w k i : Nat) : Int := (pR π i 2).toInt - (pR π i w).toInt * k
theorem zRs_bd {π : zPl} (hv : vRw π) {w k i : Nat} (hi : i < π.1 + 4) (hw : w < 2) (hk : k < 7) : (zRs π w k i).natAbs ≤ 80 := by
  have a := (pR_bd hv hi).2.2
  have b := bd_mul (pR_w hv hi hw) (show ((k : Nat) : Int).natAbs ≤ 6 by omega)
  have c := bd_sub a b
  exact c
theorem zRs_I {π : zPl} (hv : vRw π) {w k i : Nat} (hi : i < π.1 + 4) (hw : w < 2) (hk : k < 7) : (pR π i 2 - pR π i w * nI k).toInt64 = Int64.ofInt (zRs π w k i) := by
  have a := (pR_bd hv hi).2.2
  have b := bd_mul (pR_w hv hi hw) (show ((k : Nat) : Int).natAbs ≤ 6 by omega)
  have c := zRs_bd hv hi hw hk
  have e : pR π i 2 - pR π i w * nI k = Int32.ofInt (zRs π w k i) := by
    unfold zRs
    rw [Int32.ofInt_sub, Int32.ofInt_mul, ← i_of, ← i_of, nI_I]
  rw [e, iI_l (by omega)]
-- ===== REGION 0 =====
def nwF (π : zPl) (w k : Nat) : Nat → zSl
  | 0 => (true, (0, 1), (6, 1))
  | i + 1 => nw (nwF π w k i) (pR π i (1 - w)).toInt (zRs π w k i)
def sT0 (π : zPl) (w k : Nat) : zSl := clo (nwF π w k (π.1 + 4))
def inv0 (st : zSl) : Prop := (isR st.2.1 ∧ isR st.2.2) ∧ (st.2.1.2 ≤ 5 ∧ st.2.2.2 ≤ 5) ∧ (st.2.1.1.natAbs ≤ 80 ∧ st.2.2.1.natAbs ≤ 80) ∧ 0 ≤ st.2.1.1 ∧ st.2.2.1 ≤ 6 * st.2.2.2
theorem inv0_nw {st : zSl} (h : inv0 st) {a q : Int} (ha : a.natAbs ≤ 5) (hq : q.natAbs ≤ 80) : inv0 (nw st a q) := by
  obtain ⟨⟨r1, r2⟩, ⟨d1, d2⟩, ⟨u1, u2⟩, z1, z2⟩ := h
  unfold nw nwL nwH
  have key : a ≠ 0 → isR (fRed q a) ∧ (fRed q a).2 ≤ 5 ∧ (fRed q a).1.natAbs ≤ 80 := by
    intro n
    have r := fRed_R (a := q) n
    have b := fRed_bd (a := q) n
    have := r.1
    exact ⟨r, by omega, by omega⟩
  have p1 := r1.1
  have p2 := r2.1
  refine ⟨⟨?_, ?_⟩, ⟨?_, ?_⟩, ⟨?_, ?_⟩, ?_, ?_⟩
  · show isR (if _ then _ else _)
    split
    · rename_i c; exact (key (by omega)).1
    · exact r1
  · show isR (if _ then _ else _)
    split
    · rename_i c; exact (key (by omega)).1
    · exact r2
  · show (if _ then _ else _ : zFr).2 ≤ 5
    split
    · rename_i c; exact (key (by omega)).2.1
    · exact d1
  · show (if _ then _ else _ : zFr).2 ≤ 5
    split
    · rename_i c; exact (key (by omega)).2.1
    · exact d2
  · show (if _ then _ else _ : zFr).1.natAbs ≤ 80
    split
    · rename_i c; exact (key (by omega)).2.2
    · exact u1
  · show (if _ then _ else _ : zFr).1.natAbs ≤ 80
    split
    · rename_i c; exact (key (by omega)).2.2
    · exact u2
  · show 0 ≤ (if _ then _ else _ : zFr).1
    split
    · rename_i c
      have n : a ≠ 0 := by omega
      obtain ⟨s0, s1, s2, s3, s4, s5⟩ := fS_f (a := q) n
      have sn := s4 c.1
      have hq0 : q < 0 := by
        have : st.2.1.1 * a ≤ 0 := Int.mul_nonpos_of_nonneg_of_nonpos z1 (by omega)
        rcases Int.lt_or_le q 0 with t | t
        · exact t
        · have := Int.mul_nonneg t (Int.le_of_lt p1); omega
      rcases Int.lt_or_le (fRed q a).1 0 with t | t
      · have := Int.mul_pos_of_neg_of_neg sn t; omega
      · exact t
    · exact z1
  · show (if _ then _ else _ : zFr).1 ≤ 6 * (if _ then _ else _ : zFr).2
    split
    · rename_i c
      have n : a ≠ 0 := by omega
      obtain ⟨s0, s1, s2, s3, s4, s5⟩ := fS_f (a := q) n
      have sp := s3 c.1
      have k1 : st.2.2.1 * a ≤ 6 * st.2.2.2 * a := Int.mul_le_mul_of_nonneg_right z2 (by omega)
      have k2 : q < 6 * a := by
        refine Int.lt_of_mul_lt_mul_right (a := st.2.2.2) ?_ (by omega)
        have : 6 * a * st.2.2.2 = 6 * st.2.2.2 * a := by grind
        omega
      refine Int.le_of_mul_le_mul_left (a := fS q a) ?_ sp
      have e : fS q a * (6 * (fRed q a).2) = 6 * (fS q a * (fRed q a).2) := by grind
      rw [e, s1, s2]
      omega
    · exact z2
theorem inv0_F {π : zPl} (hv : vRw π) {w k : Nat} (hw : w < 2) (hk : k < 7) : ∀ i, i ≤ π.1 + 4 → inv0 (nwF π w k i)
  | 0, _ => by
    show inv0 (true, ((0 : Int), (1 : Int)), ((6 : Int), (1 : Int)))
    refine ⟨⟨⟨?_, ?_⟩, ?_, ?_⟩, ⟨?_, ?_⟩, ⟨?_, ?_⟩, ?_, ?_⟩
    all_goals decide
  | i + 1, h => inv0_nw (inv0_F hv hw hk i (by omega)) (pR_w hv (by omega) (by omega)) (zRs_bd hv (by omega) hw hk)
theorem inv0_B {st : zSl} (h : inv0 st) : fB st.2.1 ∧ fB st.2.2 := by
  obtain ⟨⟨r1, r2⟩, ⟨d1, d2⟩, ⟨u1, u2⟩, z1, z2⟩ := h
  have p1 := r1.1
  have p2 := r2.1
  exact ⟨⟨by omega, by omega⟩, ⟨by omega, by omega⟩⟩
/-- a slice that stands: of small numbers, between 0 and 6 -/
def fW (B : Nat) (f : zFr) : Prop := isR f ∧ f.2 ≤ B ∧ 0 ≤ f.1 ∧ f.1 ≤ 6 * f.2
def slW (B : Nat) (st : zSl) : Prop := st.1 = true → (fW B st.2.1 ∧ fW B st.2.2) ∧ st.2.1.1 * st.2.2.2 ≤ st.2.2.1 * st.2.1.2
theorem fW_B {B : Nat} (hB : B ≤ 135000) {f : zFr} (h : fW B f) : fB f := by
  obtain ⟨r, a, b, c⟩ := h
  have := r.1
  exact ⟨by omega, by omega⟩
theorem sT0_W {π : zPl} (hv : vRw π) {w k : Nat} (hw : w < 2) (hk : k < 7) : slW 5 (sT0 π w k) := by
  obtain ⟨⟨r1, r2⟩, ⟨d1, d2⟩, ⟨u1, u2⟩, z1, z2⟩ := inv0_F hv hw hk (π.1 + 4) (Nat.le_refl _)
  unfold sT0 clo
  intro h
  generalize nwF π w k (π.1 + 4) = st at *
  have h : (st.1 && !fLt st.2.2 st.2.1) = true := h
  rw [Bool.and_eq_true] at h
  have c := h.2
  unfold fLt at c
  rw [Bool.not_eq_true', decide_eq_false_iff_not] at c
  have p1 := r1.1
  have p2 := r2.1
  refine ⟨⟨⟨r1, d1, z1, ?_⟩, ⟨r2, d2, ?_, z2⟩⟩, by show st.2.1.1 * st.2.2.2 ≤ st.2.2.1 * st.2.1.2; omega⟩
  · show st.2.1.1 ≤ 6 * st.2.1.2
    refine Int.le_of_mul_le_mul_right (a := st.2.2.2) ?_ p2
    have k1 : st.2.2.1 * st.2.1.2 ≤ 6 * st.2.2.2 * st.2.1.2 := Int.mul_le_mul_of_nonneg_right z2 (by omega)
    have : 6 * st.2.1.2 * st.2.2.2 = 6 * st.2.2.2 * st.2.1.2 := by grind
    omega
  · show 0 ≤ st.2.2.1
    have k1 := Int.mul_nonneg z1 (Int.le_of_lt p2)
    rcases Int.lt_or_le st.2.2.1 0 with t | t
    · have := Int.mul_neg_of_neg_of_pos t p1; omega
    · exact t
-- ===== the class: REGION 0 =====
def cSlT (I : Nat → Nat → Int32) (J : Nat → Nat → Int64) (s : Nat) (st : zSl) : Prop := I (135 + 3 * s) 0 = zb (!st.1) ∧ (st.1 = true → cFx J (136 + 3 * s) st.2.1 ∧ cFx J (137 + 3 * s) st.2.2)
def cTb (I : Nat → Nat → Int32) (J : Nat → Nat → Int64) (T : Nat → Nat → Nat → zSl) (n : Nat) : Prop := ∀ r w k, w < 2 → k < 7 → 14 * r + 7 * w + k < n → cSlT I J (14 * r + 7 * w + k) (T r w k)
theorem cSl_T {I : Nat → Nat → Int32} {J : Nat → Nat → Int64} {past : Nat → Nat} {s p l u : Nat} {st : zSl} (hf : slF past s p l u) (h : cSl I J p l u st) : cSlT I J s st := by
  obtain ⟨⟨rfl, rfl, rfl⟩, _⟩ := hf
  exact ⟨h.1, fun _ => h.2⟩
theorem cSlT_fr {I I1 : Nat → Nat → Int32} {J J1 : Nat → Nat → Int64} {s : Nat} {st : zSl} (h : cSlT I J s st) (h1 : I1 (135 + 3 * s) = I (135 + 3 * s)) (h2 : J1 (136 + 3 * s) = J (136 + 3 * s)) (h3 : J1 (137 + 3 * s) = J (137 + 3 * s)) : cSlT I1 J1 s st := ⟨by rw [h1]; exact h.1, fun c => ⟨cFx_fr (h.2 c).1 h2, cFx_fr (h.2 c).2 h3⟩⟩
theorem c_boundByRows {G : zG} (hG : zGok G) {k' : Nat} (hk : 5 ≤ k') {I : Nat → Nat → Int32} {J : Nat → Nat → Int64} {past : Nat → Nat} {Q : zRt} {π : zPl} (hc : cPl I J 1 π) (hv : vPl π) {w k : Nat} (hw : w < 2) (hkk : k < 7) {W K : Int32} (eW : W = nI w) (eK : K = nI k) (h : ∀ I' J', (∀ x, x ≠ 135 + 3 * (7 * w + k) → I' x = I x) → (∀ x, x ≠ 136 + 3 * (7 * w + k) → x ≠ 137 + 3 * (7 * w + k) → J' x = J x) → cSlT I' J' (7 * w + k) (sT0 π w k) → Q none (zK0, I', J', zR0 past)) : zCalls G k' yX7_boundByRows [.ref 130, .ref 1, .int W, .int K] (zK0, I, J, zR0 past) Q := by
  subst eW
  subst eK
  have h6 := hv.1.1
  have h8 := hv.2.1
  refine rnX7_boundByRows hG hk 130 1 _ _ ?_
  refine sgX7_boundByRows hG [17] 60 0 ?_
  refine c_at hG (by decide) 0 w k (by decide) hw hkk rfl rfl rfl (fun p l u hf => ?_)
  rw [show 14 * 0 + 7 * w + k = 7 * w + k by omega] at hf
  have hf' := hf
  obtain ⟨⟨ep, el, eu⟩, p9, r1, r2, l6, u6⟩ := hf'
  rw [← ep, ← el, ← eu] at h
  refine zB_in p9 ?_
  refine c_fill hG (by decide) hf (fun I1 J1 f1 g1 c1 => ?_)
  have loop : ∀ (r i : Nat) (v : Int32) (I' : Nat → Nat → Int32) (J' : Nat → Nat → Int64), v = nI i → i + r = π.1 + 4 → (∀ x, x ≠ p → I' x = I x) → (∀ x, x ≠ l → x ≠ u → J' x = J x) → cSl I' J' p l u (nwF π w k i) → aX7_boundByRows G Q 17 [some (.ref 130), some (.ref 1), some (.int (nI w)), some (.int (nI k)), some (.ref p), some (.int v)] [] (zK0, I', J', zR0 past) := by
    intro r
    induction r with
    | zero =>
      intro i v I' J' ev hi fI fJ cs
      subst ev
      have ei : i = π.1 + 4 := by omega
      subst ei
      have hc' : cPl I' J' 1 π := cPl_rg hc h8 (fun x a b => ⟨fI x (by omega), fJ x (by omega) (by omega)⟩)
      have iv := inv0_B (inv0_F hv.1 hw hkk (π.1 + 4) (Nat.le_refl _))
      refine sgX7_boundByRows hG [17] 60 17 ?_
      refine c_allRows hG (by decide) (π := π) (Or.inl rfl) hc'.1 ?_
      refine And.intro (fun _ => ?_) (fun q => absurd (by rw [nI_leI (by omega) (by omega)]; omega) q)
      refine zB_in p9 ?_
      refine c_emptyIfCrossed hG (by decide) hf cs iv.1 iv.2 (fun I2 f2 c2 => ?_)
      exact h I2 J' (fun x hx => (f2 x hx).trans (fI x hx)) fJ (cSl_T hf c2)
    | succ r ih =>
      intro i v I' J' ev hi fI fJ cs
      subst ev
      have hc' : cPl I' J' 1 π := cPl_rg hc h8 (fun x a b => ⟨fI x (by omega), fJ x (by omega) (by omega)⟩)
      have iv := inv0_B (inv0_F hv.1 hw hkk i (by omega))
      have b1 := pR_w hv.1 (k := i) (w := 1 - w) (by omega) (by omega)
      have b2 := zRs_bd hv.1 (i := i) (by omega) hw hkk
      refine sgX7_boundByRows hG [17] 60 17 ?_
      refine c_allRows hG (by decide) (π := π) (Or.inl rfl) hc'.1 ?_
      refine And.intro (fun q => absurd q (by rw [nI_leI (by omega) (by omega)]; omega)) (fun _ => ?_)
      refine z_arg (args' := [.ref 1, .int (nI i), .int (nI (1 - w))]) (by rw [show (1 : Int32) = nI 1 from rfl, pk_sub (by omega)]) ?_
      refine c_part hG (by decide) (Or.inl rfl) hc' h6 i (1 - w) (by omega) (by omega) ?_
      refine c_part hG (by decide) (Or.inl rfl) hc' h6 i 2 (by omega) (by omega) ?_
      refine c_part hG (by decide) (Or.inl rfl) hc' h6 i w (by omega) (by omega) ?_
      refine zB_in p9 ?_
      refine c_capBy hG (by decide) hf cs _ (zRs_I hv.1 (by omega) hw hkk) iv.1 iv.2 ⟨by show (zRs π w k i).natAbs ≤ _; omega, by show (pR π i (1 - w)).toInt.natAbs ≤ _; omega⟩ (fun I2 J2 f2 g2 c2 => ?_)
      exact ih (i + 1) _ I2 J2 (by rw [nI_1]) (by omega) (fun x hx => (f2 x hx).trans (fI x hx)) (fun x a b => (g2 x a b).trans (fJ x a b)) c2
  exact loop (π.1 + 4) 0 0 I1 J1 rfl (by omega) f1 g1 c1
/-- a call that works slices out touches these alone -/
def cRg (I : Nat → Nat → Int32) (J : Nat → Nat → Int64) (I' : Nat → Nat → Int32) (J' : Nat → Nat → Int64) : Prop := ∀ x, x < 132 ∨ 261 ≤ x → I' x = I x ∧ J' x = J x
theorem cRg_tr {I I1 I2 : Nat → Nat → Int32} {J J1 J2 : Nat → Nat → Int64} (h1 : cRg I J I1 J1) (h2 : cRg I1 J1 I2 J2) : cRg I J I2 J2 := fun x hx => ⟨(h2 x hx).1.trans (h1 x hx).1, (h2 x hx).2.trans (h1 x hx).2⟩
theorem cRg_Q {I I1 : Nat → Nat → Int32} {J J1 : Nat → Nat → Int64} (h : cRg I J I1 J1) : cQ I J I1 J1 := fun x hx => h x (by omega)
def sTf (π : zPl) (f : Nat → Nat → Nat → zSl) : Nat → Nat → Nat → zSl := fun r w k => if r = 0 then sT0 π w k else f r w k
theorem c_workOutFirst {G : zG} (hG : zGok G) {k' : Nat} (hk : 6 ≤ k') {I : Nat → Nat → Int32} {J : Nat → Nat → Int64} {past : Nat → Nat} {Q : zRt} {π : zPl} (hc : cPl I J 1 π) (hv : vPl π) (T : Nat → Nat → Nat → zSl) (hT : ∀ w k, T 0 w k = sT0 π w k) (h : ∀ I' J', cRg I J I' J' → cTb I' J' T 14 → Q none (zK0, I', J', zR0 past)) : zCalls G k' yX7_workOutFirst [.ref 130, .ref 1] (zK0, I, J, zR0 past) Q := by
  have h8 := hv.2.1
  have outer : ∀ (rw w : Nat) (vw : Int32) (ok : Option Value) (I' : Nat → Nat → Int32) (J' : Nat → Nat → Int64), (ok = none ∨ ∃ z, ok = some (.int z)) → vw = nI w → w + rw = 2 → cRg I J I' J' → cTb I' J' T (7 * w) → aX7_workOutFirst G Q 2 [some (.ref 130), some (.ref 1), some (.int vw), ok] [] (zK0, I', J', zR0 past) := by
    intro rw
    induction rw with
    | zero =>
      intro w vw ok I' J' _ ev hw hf ht
      subst ev
      have e : w = 2 := by omega
      subst e
      refine sgX7_workOutFirst hG [2, 9] 60 2 ?_
      refine And.intro (fun _ => ?_) (fun c => absurd (by decide) c)
      exact h I' J' hf ht
    | succ rw ihw =>
      have inner : ∀ (rk k w : Nat) (vw vk : Int32) (I' : Nat → Nat → Int32) (J' : Nat → Nat → Int64), vw = nI w → vk = nI k → w + (rw + 1) = 2 → k + rk = 7 → cRg I J I' J' → cTb I' J' T (7 * w + k) → aX7_workOutFirst G Q 9 [some (.ref 130), some (.ref 1), some (.int vw), some (.int vk)] [] (zK0, I', J', zR0 past) := by
        intro rk
        induction rk with
        | zero =>
          intro k w vw vk I' J' ew ek hw hk hf ht
          subst ek
          have e : k = 7 := by omega
          subst e
          refine sgX7_workOutFirst hG [2, 9] 60 9 ?_
          refine And.intro (fun _ => ?_) (fun c => absurd (by decide) c)
          exact ihw (w + 1) _ _ I' J' (Or.inr ⟨_, rfl⟩) (by rw [ew, nI_1]) (by omega) hf (by rw [show 7 * (w + 1) = 7 * w + 7 by omega]; exact ht)
        | succ rk ihk =>
          intro k w vw vk I' J' ew ek hw hk hf ht
          have hc' : cPl I' J' 1 π := cPl_rg hc h8 (fun x a b => hf x (by omega))
          refine sgX7_workOutFirst hG [2, 9] 60 9 ?_
          refine And.intro (fun c => absurd c (by rw [ek, show (7 : Int32) = nI 7 from rfl, nI_leI (by omega) (by omega)]; omega)) (fun _ => ?_)
          refine c_boundByRows hG (by decide) hc' hv (w := w) (k := k) (by omega) (by omega) ew ek (fun I2 J2 f2 g2 c2 => ?_)
          refine ihk (k + 1) w vw _ I2 J2 ew (by rw [ek, nI_1]) hw (by omega) (fun x hx => ⟨(f2 x (by omega)).trans (hf x hx).1, (g2 x (by omega) (by omega)).trans (hf x hx).2⟩) ?_
          intro r' w' k' a b c
          have r0 : r' = 0 := by omega
          subst r0
          by_cases e : 7 * w' + k' = 7 * w + k
          · have e1 : w' = w := by omega
            have e2 : k' = k := by omega
            subst e1
            subst e2
            rw [hT, show 14 * 0 + 7 * w' + k' = 7 * w' + k' by omega]
            exact c2
          · exact cSlT_fr (ht 0 w' k' a b (by omega)) (f2 _ (by omega)) (g2 _ (by omega) (by omega)) (g2 _ (by omega) (by omega))
      intro w vw ok I' J' ho ev hw hf ht
      subst ev
      refine sgX7_workOutFirst hG [2, 9] 60 2 ?_
      refine And.intro (fun c => absurd c (by rw [show (2 : Int32) = nI 2 from rfl, nI_leI (by omega) (by omega)]; omega)) (fun _ => ?_)
      rcases ho with rfl | ⟨z, rfl⟩
      all_goals exact inner 7 0 w (nI w) 0 I' J' rfl rfl hw (by omega) hf ht
  refine rnX7_workOutFirst hG hk 130 1 ?_
  refine sgX7_workOutFirst hG [2, 9] 60 0 ?_
  exact outer 2 0 0 none I J (Or.inl rfl) rfl (by omega) (fun _ _ => ⟨rfl, rfl⟩) (fun r w k _ _ c => absurd c (by omega))
