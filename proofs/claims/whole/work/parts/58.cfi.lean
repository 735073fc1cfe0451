-- ===== the class: finding a cut =====
theorem c_putTimes {G : zG} (hG : zGok G) {k' : Nat} (hk : 4 ≤ k') {I : Nat → Nat → Int32} {J : Nat → Nat → Int64} {past : Nat → Nat} {Q : zRt} {p : Nat} (hp : p < 14) {P : Int32} (eP : P = nI p) {a b : Int} {A B : Int64} (eA : A = Int64.ofInt a) (eB : B = Int64.ofInt b) (ha : a.natAbs < 2 ^ 62) (hb : b.natAbs < 2 ^ 49) (h0 : b ≠ 0) (h : ∀ J', (∀ x, x ≠ 262 → x ≠ 263 → J' x = J x) → (∀ j, j ≠ p → j ≠ p + 1 → J' 262 j = J 262 j) → J' 262 p = Int64.ofInt (fRed a b).1 → J' 262 (p + 1) = Int64.ofInt (fRed a b).2 → Q none (zK0, I, J', zR0 past)) : zCalls G k' yX0_putTimes [.ref 261, .int P, .long A, .long B] (zK0, I, J, zR0 past) Q := by
  subst eP
  have n0 := nI_clamp (n := p) (by omega)
  have e1 := nI_1 p
  have n1 : (nI p + 1).toNatClampNeg = p + 1 := by rw [e1, nI_clamp (by omega)]
  refine rnX0_putTimes hG hk 261 _ _ _ ?_
  refine sgX0_putTimes hG [] 60 0 ?_
  refine c_putI hG (by decide) 263 rfl eA eB ha hb h0 (fun J1 f1 q1 => ?_)
  refine And.intro (fun c => absurd c (nI_pos (by omega))) (fun _ => ?_)
  refine And.intro (fun c => absurd c (by rw [e1, show Int32.ofNat 15 = nI 15 from rfl, nI_leI (by omega) (by omega)]; omega)) (fun _ => ?_)
  refine And.intro (by exact vp_in_nI (by omega) (by omega)) ?_
  refine And.intro (by rw [e1]; exact vp_in_nI (by omega) (by omega)) ?_
  rw [n0, n1]
  refine h _ (fun x x1 x2 => by rw [z_upJ_ne x1, z_upJ_ne x1]; exact f1 x x2) (fun j j1 j2 => by rw [uJ_k j2, uJ_k j1, f1 262 (by decide)]) ?_ ?_
  · rw [uJ_k (by omega), uJ_s]; exact q1.1
  · rw [uJ_s, uJ_p (by decide)]; exact q1.2
theorem zRs_L {π : zPl} (hv : vRw π) {w k x : Nat} (hx : x < π.1 + 4) (hw : w < 2) (hk : k < 7) : (pR π x 2).toInt64 - (pR π x w).toInt64 * Int64.ofInt k = Int64.ofInt (zRs π w k x) := by
  unfold zRs
  rw [t64, t64, Int64.ofInt_sub, Int64.ofInt_mul]
theorem c_firstBounding {G : zG} (hG : zGok G) {k' : Nat} (hk : 3 ≤ k') {I : Nat → Nat → Int32} {J : Nat → Nat → Int64} {past : Nat → Nat} {Q : zRt} {π : zPl} (hc : cPl I J 1 π) (hv : vPl π) (e : Nat) (e6 : Nat.beq (zKd zK0 e).1 6 = true) {f : zFr} (qe : cFx J e f) (wf : fW 5 f) {w sd k hf : Nat} (hw : w < 2) (hsd : sd < 2) (hk6 : k < 6) (hhf : hf < 2) (e13 : J 262 13 = Int64.ofInt w) (e14 : J 262 14 = Int64.ofInt k) {SD HF : Int32} (eS : SD = nI sd) (eH : HF = nI hf) (hb : bnI π w sd (k + hf) f < π.1 + 4) (h : Q (some (.int (nI (bnI π w sd (k + hf) f)))) (zK0, I, J, zR0 past)) : zCalls G k' yX0_firstBounding [.ref 261, .ref 1, .ref e, .int SD, .int HF] (zK0, I, J, zR0 past) Q := by
  subst eS
  subst eH
  have h6 := hv.1.1
  obtain ⟨fp, fb1, fb2⟩ := fW_p wf
  have loop : ∀ (q x : Nat) (v : Int32) (z : Int64) (o9 o10 o11 : Option Value), v = nI x → z = Int64.ofInt (k + hf : Nat) → x + q = π.1 + 4 → fst1 (bnP π w sd (k + hf) f) x q = bnI π w sd (k + hf) f → aX0_firstBounding G Q 26 [some (.ref 261), some (.ref 1), some (.ref e), some (.int (nI sd)), some (.int (nI hf)), some (.int (nI w)), some (.long z), none, some (.int v), o9, o10, o11] [] (zK0, I, J, zR0 past) := by
    intro q
    induction q with
    | zero =>
      intro x v z o9 o10 o11 ev ez hx hq
      have hq : x = bnI π w sd (k + hf) f := hq
      omega
    | succ q ih =>
      intro x v z o9 o10 o11 ev ez hx hq
      subst ev
      subst ez
      have hq : (if bnP π w sd (k + hf) f x then x else fst1 (bnP π w sd (k + hf) f) (x + 1) q) = bnI π w sd (k + hf) f := hq
      have a5 := pR_w hv.1 (k := x) (w := 1 - w) (by omega) (by omega)
      have a6 := zRs_bd hv.1 (i := x) (w := w) (k := k + hf) (by omega) hw (by omega)
      have tA := t64 (pR π x (1 - w))
      have gt : (pR π x (1 - w)).toInt64 ≤ 0 ↔ ¬ 0 < (pR π x (1 - w)).toInt := by
        rw [tA, Int64.le_iff_toInt_le, lI_T (by omega), Int64.toInt_zero]; omega
      have lt : 0 ≤ (pR π x (1 - w)).toInt64 ↔ ¬ (pR π x (1 - w)).toInt < 0 := by
        rw [tA, Int64.le_iff_toInt_le, lI_T (by omega), Int64.toInt_zero]; omega
      have m1 := bd_mul a5 fb1
      have m2 := bd_mul a6 fb2
      have eq : (pR π x (1 - w)).toInt64 * J e 0 = ((pR π x 2).toInt64 - (pR π x w).toInt64 * Int64.ofInt (k + hf : Nat)) * J e 1 ↔ (pR π x (1 - w)).toInt * f.1 = zRs π w (k + hf) x * f.2 := by
        rw [zRs_L hv.1 (by omega) hw (by omega), tA, qe.1, qe.2, ← Int64.ofInt_mul, ← Int64.ofInt_mul]
        exact lI_eq (by omega) (by omega)
      have z126 : bnP π w sd (k + hf) f x = false → ∀ (o9 o10 o11 : Option Value), aX0_firstBounding G Q 126 [some (.ref 261), some (.ref 1), some (.ref e), some (.int (nI sd)), some (.int (nI hf)), some (.int (nI w)), some (.long (Int64.ofInt (k + hf : Nat))), none, some (.int (nI x)), o9, o10, o11] [] (zK0, I, J, zR0 past) := by
        intro c o9 o10 o11
        rw [c] at hq
        refine sgX0_firstBounding hG [26] 60 126 ?_
        exact ih (x + 1) _ _ o9 o10 o11 (by rw [nI_1]) rfl (by omega) hq
      have z79 : ∀ b : Bool, b = (if sd = 0 then decide (0 < (pR π x (1 - w)).toInt) else decide ((pR π x (1 - w)).toInt < 0)) → ∀ B : Int32, B = zb b → aX0_firstBounding G Q 81 [some (.ref 261), some (.ref 1), some (.ref e), some (.int (nI sd)), some (.int (nI hf)), some (.int (nI w)), some (.long (Int64.ofInt (k + hf : Nat))), none, some (.int (nI x)), some (.long (pR π x (1 - w)).toInt64), none, some (.int B)] [] (zK0, I, J, zR0 past) := by
        intro b eb B eB
        subst eB
        refine sgX0_firstBounding hG [126] 60 81 ?_
        refine And.intro (fun c => ?_) (fun c => ?_)
        · have c := (zb_eq0 _).mp c
          exact z126 (by unfold bnP; rw [← eb, c]; rfl) _ _ _
        have c := z_nb1 (x := 0) c
        refine zB_in e6 ?_
        refine c_part hG (by decide) (Or.inl rfl) hc h6 x 2 (by omega) (by omega) ?_
        refine c_part hG (by decide) (Or.inl rfl) hc h6 x w (by omega) (by omega) ?_
        refine zB_in e6 ?_
        refine And.intro (fun d => ?_) (fun d => ?_)
        · have d : ¬ (pR π x (1 - w)).toInt * f.1 = zRs π w (k + hf) x * f.2 := fun q => d (eq.mpr q)
          exact z126 (by unfold bnP; rw [decide_eq_false d, Bool.and_false]) _ _ _
        · have d := eq.mp d
          have t : bnP π w sd (k + hf) f x = true := by unfold bnP; rw [← eb, c, decide_eq_true d]; rfl
          rw [t] at hq
          rw [← hq] at h
          exact h
      refine sgX0_firstBounding hG [67, 81, 126] 60 26 ?_
      refine c_allRows hG (by decide) (π := π) (Or.inl rfl) hc.1 ?_
      refine And.intro (fun c => absurd c (by rw [nI_leI (by omega) (by omega)]; omega)) (fun _ => ?_)
      refine z_arg (args' := [.ref 1, .int (nI x), .int (nI (1 - w))]) (by rw [show (1 : Int32) = nI 1 from rfl, pk_sub (by omega)]) ?_
      refine c_part hG (by decide) (Or.inl rfl) hc h6 x (1 - w) (by omega) (by omega) ?_
      rcases (show sd = 0 ∨ sd = 1 by omega) with s0 | s0
      · rw [if_pos s0] at z79
        refine And.intro (fun c => absurd (by rw [s0]; rfl) c) (fun _ => ?_)
        refine And.intro (fun c => ?_) (fun c => ?_)
        · exact z79 false (by rw [decide_eq_false (gt.mp c)]) 0 rfl
        · exact z79 true (by rw [decide_eq_true (Classical.not_not.mp (fun q => c (gt.mpr q)))]) 1 rfl
      · rw [if_neg (by omega)] at z79
        refine And.intro (fun _ => ?_) (fun c => absurd c (by rw [s0]; decide))
        refine sgX0_firstBounding hG [81] 60 67 ?_
        refine And.intro (fun c => ?_) (fun c => ?_)
        · exact z79 false (by rw [decide_eq_false (lt.mp c)]) 0 rfl
        · exact z79 true (by rw [decide_eq_true (Classical.not_not.mp (fun q => c (lt.mpr q)))]) 1 rfl
  have z10 : ∀ W : Int32, W = nI w → aX0_firstBounding G Q 10 [some (.ref 261), some (.ref 1), some (.ref e), some (.int (nI sd)), some (.int (nI hf)), some (.int W), none, none, none, none, none, none] [] (zK0, I, J, zR0 past) := by
    intro W eW
    subst eW
    refine sgX0_firstBounding hG [26] 60 10 ?_
    refine And.intro (by unfold vp_in; decide) ?_
    exact loop (π.1 + 4) 0 0 _ none none none rfl (by
      show J 262 14 + (nI hf).toInt64 = _
      rw [e14, nI_L (by omega), ← Int64.ofInt_add]
      congr 1) (by omega) rfl
  refine rnX0_firstBounding hG hk 261 1 e _ _ ?_
  refine sgX0_firstBounding hG [10] 60 0 ?_
  refine And.intro (by unfold vp_in; decide) ?_
  refine z10 _ ?_
  show (J 262 13).toInt32 = _
  rw [e13, lI_i, nI_I]
theorem c_putProof {G : zG} (hG : zGok G) {k' : Nat} (hk : 5 ≤ k') {I : Nat → Nat → Int32} {J : Nat → Nat → Int64} {past : Nat → Nat} {Q : zRt} {π : zPl} (hc : cPl I J 1 π) (hv : vPl π) (e : Nat) (e6 : Nat.beq (zKd zK0 e).1 6 = true) {f : zFr} (qe : cFx J e f) (wf : fW 5 f) {w sd k hf : Nat} (hw : w < 2) (hsd : sd < 2) (hk6 : k < 6) (hhf : hf < 2) (e13 : J 262 13 = Int64.ofInt w) (e14 : J 262 14 = Int64.ofInt k) {o s : Int} (e0 : J 262 0 = Int64.ofInt (if w = 0 then s else o)) (e1 : J 262 1 = Int64.ofInt (if w = 0 then o else s)) (bo : o.natAbs ≤ 25) (bs : s.natAbs ≤ 300) {SD HF : Int32} (eS : SD = nI sd) (eH : HF = nI hf) (hb : bnI π w sd (k + hf) f < π.1 + 4) (hn : (pR π (bnI π w sd (k + hf) f) (1 - w)).toInt ≠ 0) (h : ∀ J', (∀ x, x ≠ 262 → x ≠ 263 → J' x = J x) → (∀ j, j ≠ 3 + hf → (j < 5 + 4 * hf ∨ 9 + 4 * hf ≤ j) → J' 262 j = J 262 j) → J' 262 (3 + hf) = Int64.ofInt (bnI π w sd (k + hf) f : Nat) → (J' 262 (5 + 4 * hf) = Int64.ofInt (ctU π w (bnI π w sd (k + hf) f) o).1 ∧ J' 262 (6 + 4 * hf) = Int64.ofInt (ctU π w (bnI π w sd (k + hf) f) o).2) → (J' 262 (7 + 4 * hf) = Int64.ofInt (ctT π w (bnI π w sd (k + hf) f) hf o s).1 ∧ J' 262 (8 + 4 * hf) = Int64.ofInt (ctT π w (bnI π w sd (k + hf) f) hf o s).2) → Q none (zK0, I, J', zR0 past)) : zCalls G k' yX0_putProof [.ref 261, .ref 1, .ref e, .int SD, .int HF] (zK0, I, J, zR0 past) Q := by
  subst eS
  subst eH
  have h6 := hv.1.1
  have fb := c_firstBounding (Q := fun v σ' => match v with | some v => aX0_putProof G Q 19 [some (.ref 261), some (.ref 1), some (.ref e), some (.int (nI sd)), some (.int (nI hf)), some (.int (nI w)), none, none, none, none, none, none, none, none, none, none, none] [v] σ' | none => False) (k' := 4) (past := past) hG (by decide) hc hv e e6 qe wf hw hsd hk6 hhf e13 e14 rfl rfl hb
  generalize bnI π w sd (k + hf) f = x at *
  have p1 := pR_w hv.1 (k := x) (w := 1 - w) hb (by omega)
  have tb := ctT_bd hv.1 hw hb bo bs hf
  have tO := t64 (pR π x (1 - w))
  have tZ := t64 (pR π x w)
  have z45 : ∀ (z y t : Int64), z = Int64.ofInt s → y = Int64.ofInt o → t = Int64.ofInt (if hf = 0 then 1 else -1) → aX0_putProof G Q 103 [some (.ref 261), some (.ref 1), some (.ref e), some (.int (nI sd)), some (.int (nI hf)), some (.int (nI w)), some (.int (nI x)), some (.long (pR π x w).toInt64), none, some (.long (pR π x (1 - w)).toInt64), none, some (.long z), none, some (.long y), none, some (.long t), none] [] (zK0, I, J, zR0 past) := by
    intro z y t ez ey et
    have eT : t * (z * (pR π x (1 - w)).toInt64 - y * (pR π x w).toInt64) = Int64.ofInt ((if hf = 0 then 1 else -1) * (s * (pR π x (1 - w)).toInt - o * (pR π x w).toInt)) := by
      rw [et, ez, ey, tO, tZ, Int64.ofInt_mul, Int64.ofInt_sub, Int64.ofInt_mul, Int64.ofInt_mul]
    have e3 : (3 : Int32) + nI hf = nI (3 + hf) := by rw [show (3 : Int32) = nI 3 from rfl, nI_add]
    have n3 : ((3 : Int32) + nI hf).toNatClampNeg = 3 + hf := by rw [e3, nI_clamp (by omega)]
    refine sgX0_putProof hG [115] 60 103 ?_
    refine And.intro (by rw [e3]; exact vp_in_nI (by omega) (by omega)) ?_
    have fin : aX0_putProof G Q 115 [some (.ref 261), some (.ref 1), some (.ref e), some (.int (nI sd)), some (.int (nI hf)), some (.int (nI w)), some (.int (nI x)), some (.long (pR π x w).toInt64), none, some (.long (pR π x (1 - w)).toInt64), none, some (.long z), none, some (.long y), none, some (.long t), none] [] (zK0, I, z_upJ J 262 (3 + hf) (nI x).toInt64, zR0 past) := by
      have tail : ∀ J1 J2 : Nat → Nat → Int64, (∀ y, y ≠ 262 → y ≠ 263 → J1 y = z_upJ J 262 (3 + hf) (nI x).toInt64 y) → (∀ j, j ≠ 5 + 4 * hf → j ≠ 5 + 4 * hf + 1 → J1 262 j = z_upJ J 262 (3 + hf) (nI x).toInt64 262 j) → J1 262 (5 + 4 * hf) = Int64.ofInt (ctU π w x o).1 → J1 262 (5 + 4 * hf + 1) = Int64.ofInt (ctU π w x o).2 → (∀ y, y ≠ 262 → y ≠ 263 → J2 y = J1 y) → (∀ j, j ≠ 7 + 4 * hf → j ≠ 7 + 4 * hf + 1 → J2 262 j = J1 262 j) → J2 262 (7 + 4 * hf) = Int64.ofInt (ctT π w x hf o s).1 → J2 262 (7 + 4 * hf + 1) = Int64.ofInt (ctT π w x hf o s).2 → Q none (zK0, I, J2, zR0 past) := by
        intro J1 J2 f1 g1 q1 q2 f2 g2 q3 q4
        refine h J2 (fun y x1 x2 => by rw [f2 y x1 x2, f1 y x1 x2, z_upJ_ne x1]) (fun j j1 j2 => ?_) ?_ ⟨?_, ?_⟩ ⟨q3, ?_⟩
        · rw [g2 j (by omega) (by omega), g1 j (by omega) (by omega), uJ_k j1]
        · rw [g2 _ (by omega) (by omega), g1 _ (by omega) (by omega), uJ_s, nI_L (by omega)]
        · rw [g2 _ (by omega) (by omega)]; exact q1
        · rw [g2 _ (by omega) (by omega), show 6 + 4 * hf = 5 + 4 * hf + 1 by omega]; exact q2
        · rw [show 8 + 4 * hf = 7 + 4 * hf + 1 by omega]; exact q4
      rcases (show hf = 0 ∨ hf = 1 by omega) with rfl | rfl
      · refine sgX0_putProof hG [] 60 115 ?_
        refine And.intro (fun c => absurd rfl c) (fun _ => ?_)
        refine c_putTimes hG (by decide) (p := 5 + 4 * 0) (by omega) rfl ey tO (by omega) (by omega) hn (fun J1 f1 g1 q1 q2 => ?_)
        refine And.intro (fun c => absurd rfl c) (fun _ => ?_)
        refine c_putTimes hG (by decide) (p := 7 + 4 * 0) (by omega) rfl eT tO (Nat.lt_of_le_of_lt tb (by decide)) (by omega) hn (fun J2 f2 g2 q3 q4 => ?_)
        exact tail J1 J2 f1 g1 q1 q2 f2 g2 q3 q4
      · refine sgX0_putProof hG [] 60 115 ?_
        refine And.intro (fun _ => ?_) (fun c => absurd c (by decide))
        refine c_putTimes hG (by decide) (p := 5 + 4 * 1) (by omega) rfl ey tO (by omega) (by omega) hn (fun J1 f1 g1 q1 q2 => ?_)
        refine And.intro (fun _ => ?_) (fun c => absurd c (by decide))
        refine c_putTimes hG (by decide) (p := 7 + 4 * 1) (by omega) rfl eT tO (Nat.lt_of_le_of_lt tb (by decide)) (by omega) hn (fun J2 f2 g2 q3 q4 => ?_)
        exact tail J1 J2 f1 g1 q1 q2 f2 g2 q3 q4
    rw [← n3] at fin
    exact fin
  have z89 : ∀ (z y : Int64), z = Int64.ofInt s → y = Int64.ofInt o → aX0_putProof G Q 89 [some (.ref 261), some (.ref 1), some (.ref e), some (.int (nI sd)), some (.int (nI hf)), some (.int (nI w)), some (.int (nI x)), some (.long (pR π x w).toInt64), none, some (.long (pR π x (1 - w)).toInt64), none, some (.long z), none, some (.long y), none, none, none] [] (zK0, I, J, zR0 past) := by
    intro z y ez ey
    refine sgX0_putProof hG [103] 60 89 ?_
    rcases (show hf = 0 ∨ hf = 1 by omega) with rfl | rfl
    · refine And.intro (fun c => absurd rfl c) (fun _ => ?_)
      exact z45 z y 1 ez ey rfl
    · refine And.intro (fun _ => ?_) (fun c => absurd c (by decide))
      exact z45 z y (-1) ez ey rfl
  have z10 : ∀ W : Int32, W = nI w → aX0_putProof G Q 10 [some (.ref 261), some (.ref 1), some (.ref e), some (.int (nI sd)), some (.int (nI hf)), some (.int W), none, none, none, none, none, none, none, none, none, none, none] [] (zK0, I, J, zR0 past) := by
    intro W eW
    subst eW
    refine sgX0_putProof hG [19] 60 10 ?_
    refine fb ?_
    refine sgX0_putProof hG [45, 67, 89] 60 19 ?_
    refine c_part hG (by decide) (Or.inl rfl) hc h6 x w hb (by omega) ?_
    refine z_arg (args' := [.ref 1, .int (nI x), .int (nI (1 - w))]) (by rw [show (1 : Int32) = nI 1 from rfl, pk_sub (by omega)]) ?_
    refine c_part hG (by decide) (Or.inl rfl) hc h6 x (1 - w) hb (by omega) ?_
    rcases (show w = 0 ∨ w = 1 by omega) with rfl | rfl
    · refine sgX0_putProof hG [67, 89] 60 45 ?_
      refine And.intro (fun c => absurd rfl c) (fun _ => ?_)
      refine And.intro (by unfold vp_in; decide) ?_
      refine sgX0_putProof hG [89] 60 67 ?_
      refine And.intro (fun c => absurd rfl c) (fun _ => ?_)
      refine And.intro (by unfold vp_in; decide) ?_
      exact z89 _ _ e0 e1
    · refine sgX0_putProof hG [67, 89] 60 45 ?_
      refine And.intro (fun _ => ?_) (fun c => absurd c (by decide))
      refine And.intro (by unfold vp_in; decide) ?_
      refine sgX0_putProof hG [89] 60 67 ?_
      refine And.intro (fun _ => ?_) (fun c => absurd c (by decide))
      refine And.intro (by unfold vp_in; decide) ?_
      exact z89 _ _ e1 e0
  refine rnX0_putProof hG hk 261 1 e _ _ ?_
  refine sgX0_putProof hG [10] 60 0 ?_
  refine And.intro (by unfold vp_in; decide) ?_
  refine z10 _ ?_
  show (J 262 13).toInt32 = _
  rw [e13, lI_i, nI_I]
theorem gcd_cm (a b c : Nat) : Nat.gcd (Nat.gcd a b) c = Nat.gcd (Nat.gcd b a) c := by rw [Nat.gcd_comm a b]
theorem c_putLine {G : zG} (hG : zGok G) {k' : Nat} (hk : 3 ≤ k') {I : Nat → Nat → Int32} {J : Nat → Nat → Int64} {past : Nat → Nat} {Q : zRt} (a b : Nat) (a6 : Nat.beq (zKd zK0 a).1 6 = true) (b6 : Nat.beq (zKd zK0 b).1 6 = true) {f g : zFr} (qa : cFx J a f) (qb : cFx J b g) (na : a ≠ 262) (nb : b ≠ 262) (wf : fW 5 f) (wg : fW 5 g) {w sd k : Nat} (hw : w < 2) (hsd : sd < 2) (hk6 : k < 6) (e13 : J 262 13 = Int64.ofInt w) (e14 : J 262 14 = Int64.ofInt k) {SD : Int32} (eS : SD = nI sd) (h : ∀ J', (∀ x, x ≠ 262 → J' x = J x) → (∀ j, 3 ≤ j → J' 262 j = J 262 j) → J' 262 0 = Int64.ofInt (if w = 0 then ctS f g k sd else ctO f g k sd) → J' 262 1 = Int64.ofInt (if w = 0 then ctO f g k sd else ctS f g k sd) → J' 262 2 = Int64.ofInt (ctB f g k sd) → Q none (zK0, I, J', zR0 past)) : zCalls G k' yX0_putLine [.ref 261, .ref a, .ref b, .int SD] (zK0, I, J, zR0 past) Q := by
  subst eS
  obtain ⟨⟨n0, p0⟩, ⟨b1, b2, b3⟩, _⟩ := ct_bd wf wg (k := k) (by omega) sd
  have z128 : ∀ (Z Y B : Int64) (o5 o6 o13 o14 : Option Value), Z = Int64.ofInt (ctS f g k sd) → Y = Int64.ofInt (ctO f g k sd) → B = Int64.ofInt (ctB f g k sd) → aX0_putLine G Q 128 [some (.ref 261), some (.ref a), some (.ref b), some (.int (nI sd)), some (.int (nI w)), o5, o6, some (.long Z), none, some (.long Y), none, some (.long B), none, o13, o14] [] (zK0, I, J, zR0 past) := by
    intro Z Y B o5 o6 o13 o14 eZ eY eB
    have fin : ∀ X0 X1 : Int64, X0 = Int64.ofInt (if w = 0 then ctS f g k sd else ctO f g k sd) → X1 = Int64.ofInt (if w = 0 then ctO f g k sd else ctS f g k sd) → Q none (zK0, I, z_upJ (z_upJ (z_upJ J 262 0 X0) 262 1 X1) 262 2 B, zR0 past) := by
      intro X0 X1 e0 e1
      refine h _ (fun x hx => by rw [z_upJ_ne hx, z_upJ_ne hx, z_upJ_ne hx]) (fun j hj => by rw [uJ_k (by omega), uJ_k (by omega), uJ_k (by omega)]) ?_ ?_ ?_
      · rw [uJ_k (by decide), uJ_k (by decide), uJ_s]; exact e0
      · rw [uJ_k (by decide), uJ_s]; exact e1
      · rw [uJ_s]; exact eB
    rcases (show w = 0 ∨ w = 1 by omega) with rfl | rfl
    · refine sgX0_putLine hG [] 60 128 ?_
      refine And.intro (fun c => absurd rfl c) (fun _ => ?_)
      refine And.intro (by unfold vp_in; decide) ?_
      refine And.intro (fun c => absurd rfl c) (fun _ => ?_)
      refine And.intro (by unfold vp_in; decide) ?_
      refine And.intro (by unfold vp_in; decide) ?_
      exact fin Z Y eZ eY
    · refine sgX0_putLine hG [] 60 128 ?_
      refine And.intro (fun _ => ?_) (fun c => absurd c (by decide))
      refine And.intro (by unfold vp_in; decide) ?_
      refine And.intro (fun _ => ?_) (fun c => absurd c (by decide))
      refine And.intro (by unfold vp_in; decide) ?_
      refine And.intro (by unfold vp_in; decide) ?_
      exact fin Y Z eY eZ
  have z23 : ∀ t : Int64, t = Int64.ofInt (ctG sd) → aX0_putLine G Q 23 [some (.ref 261), some (.ref a), some (.ref b), some (.int (nI sd)), some (.int (nI w)), some (.long t), none, none, none, none, none, none, none, none, none] [] (zK0, I, J, zR0 past) := by
    intro t et
    have hsg : (ctG sd).natAbs = 1 := by unfold ctG; split <;> decide
    have eZ : t * (J a 0 * J b 1 - J b 0 * J a 1) = Int64.ofInt (-(ctG sd * bwS f g)) := by
      rw [et, qa.1, qa.2, qb.1, qb.2, ← Int64.ofInt_mul, ← Int64.ofInt_mul, ← Int64.ofInt_sub, ← Int64.ofInt_mul]
      congr 1
      unfold bwS
      grind
    have eY : t * J a 1 * J b 1 = Int64.ofInt (ctG sd * (f.2 * g.2)) := by
      rw [et, qa.2, qb.2, ← Int64.ofInt_mul, ← Int64.ofInt_mul]
      congr 1
      grind
    have eB : t * (J a 0 * J b 1 - J b 0 * J a 1) * J 262 14 + t * J a 0 * J b 1 = Int64.ofInt (ctG sd * ctM f g k) := by
      rw [eZ, e14, et, qa.1, qb.2, ← Int64.ofInt_mul, ← Int64.ofInt_mul, ← Int64.ofInt_mul, ← Int64.ofInt_add]
      congr 1
      unfold ctM
      grind
    have aZ : (-(ctG sd * bwS f g)).natAbs = (bwS f g).natAbs := by rw [Int.natAbs_neg, Int.natAbs_mul, hsg, Nat.one_mul]
    have aY : (ctG sd * (f.2 * g.2)).natAbs = (f.2 * g.2).natAbs := by rw [Int.natAbs_mul, hsg, Nat.one_mul]
    have aB : (ctG sd * ctM f g k).natAbs = (ctM f g k).natAbs := by rw [Int.natAbs_mul, hsg, Nat.one_mul]
    have tZ := lI_T (a := -(ctG sd * bwS f g)) (by omega)
    have tY := lI_T (a := ctG sd * (f.2 * g.2)) (by omega)
    have tB := lI_T (a := ctG sd * ctM f g k) (by omega)
    have g1 : zgcd (Int64.ofInt (-(ctG sd * bwS f g))) (Int64.ofInt (ctG sd * (f.2 * g.2))) = lN (Nat.gcd (bwS f g).natAbs (f.2 * g.2).natAbs) := by unfold zgcd; rw [tZ, tY, aZ, aY]
    have gl : Nat.gcd (bwS f g).natAbs (f.2 * g.2).natAbs ≤ 25 := Nat.le_trans (Nat.gcd_le_right _ (by omega)) b1
    have g2 : zgcd (lN (Nat.gcd (bwS f g).natAbs (f.2 * g.2).natAbs)) (Int64.ofInt (ctG sd * ctM f g k)) = lN (ctN f g k) := by
      unfold zgcd ctN
      rw [pk_lT (by omega), tB, aB, Int.natAbs_natCast, gcd_cm]
    have nl : ctN f g k ≤ 25 := Nat.le_trans (Nat.gcd_le_left _ (Nat.gcd_pos_of_pos_left _ (by omega))) (Nat.le_trans (Nat.gcd_le_left _ (by omega)) b1)
    have tN := pk_lT (n := ctN f g k) (by omega)
    refine sgX0_putLine hG [100, 128] 60 23 ?_
    refine zB_in a6 ?_
    refine zB_in b6 ?_
    refine zB_in b6 ?_
    refine zB_in a6 ?_
    refine zB_in a6 ?_
    refine zB_in b6 ?_
    refine And.intro (by unfold vp_in; decide) ?_
    refine zB_in a6 ?_
    refine zB_in b6 ?_
    refine z_arg (args' := [.long (Int64.ofInt (-(ctG sd * bwS f g))), .long (Int64.ofInt (ctG sd * (f.2 * g.2)))]) (by rw [← eZ, ← eY]) ?_
    refine c_gd hG (by decide) _ _ (by omega) (by omega) ?_
    rw [g1]
    refine z_arg (args' := [.long (lN (Nat.gcd (bwS f g).natAbs (f.2 * g.2).natAbs)), .long (Int64.ofInt (ctG sd * ctM f g k))]) (by rw [← eB]; rfl) ?_
    refine c_gd hG (by decide) _ _ (by rw [pk_lT (by omega)]; omega) (by omega) ?_
    rw [g2]
    have dv : ∀ x : Int, x.natAbs ≤ 1950 → Int64.ofInt x / lN (ctN f g k) = Int64.ofInt (x.tdiv (ctN f g k)) := by
      intro x hx
      have tx := lI_T (a := x) (by omega)
      have := tdiv_bd x (ctN f g k)
      rw [z_l_eq, z_ldiv (by omega), tx, tN, lI_T (by omega)]
    have nz : ¬ lN (ctN f g k) = 0 := by rw [← z_lN0, pk_lEQ (by omega) (by omega)]; omega
    refine sgX0_putLine hG [128] 60 100 ?_
    refine And.intro (fun c => ?_) (fun c => ?_)
    · have c1 : ctN f g k = 1 := by
        rw [show (1 : Int64) = lN 1 from rfl, pk_lLE (by omega) (by omega)] at c
        omega
      have e1 : ∀ x : Int, x.tdiv (ctN f g k) = x := by intro x; rw [c1]; exact Int.tdiv_one x
      refine z128 _ _ _ _ _ _ _ ?_ ?_ ?_
      · exact eZ.trans (by unfold ctS; rw [e1])
      · exact eY.trans (by unfold ctO; rw [e1])
      · exact eB.trans (by unfold ctB; rw [e1])
    · refine And.intro nz ?_
      refine And.intro nz ?_
      refine And.intro nz ?_
      refine z128 _ _ _ _ _ _ _ ?_ ?_ ?_
      · exact (congrArg (· / lN (ctN f g k)) eZ).trans (dv _ (by omega))
      · exact (congrArg (· / lN (ctN f g k)) eY).trans (dv _ (by omega))
      · exact (congrArg (· / lN (ctN f g k)) eB).trans (dv _ (by omega))
  have z10 : ∀ W : Int32, W = nI w → aX0_putLine G Q 10 [some (.ref 261), some (.ref a), some (.ref b), some (.int (nI sd)), some (.int W), none, none, none, none, none, none, none, none, none, none] [] (zK0, I, J, zR0 past) := by
    intro W eW
    subst eW
    refine sgX0_putLine hG [23] 60 10 ?_
    rcases (show sd = 0 ∨ sd = 1 by omega) with rfl | rfl
    · refine And.intro (fun c => absurd rfl c) (fun _ => ?_)
      exact z23 1 rfl
    · refine And.intro (fun _ => ?_) (fun c => absurd c (by decide))
      exact z23 (-1) rfl
  refine rnX0_putLine hG hk 261 a b _ ?_
  refine sgX0_putLine hG [10] 60 0 ?_
  refine And.intro (by unfold vp_in; decide) ?_
  refine z10 _ ?_
  show (J 262 13).toInt32 = _
  rw [e13, lI_i, nI_I]
