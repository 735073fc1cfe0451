-- ===== the model: bounding(), layCut(), cut() =====
theorem m_bounding {G : zG} (hG : zGok G) {k' : Nat} (hk : 2 ≤ k') {I : Nat → Nat → Int32} {J : Nat → Nat → Int64} {past : Nat → Nat} {Q : zRt} {π : zPl} (hm : mPl I 306 0 π) (hv : vPl π) {f : zFr} (wf : fW 5 f) {w sd k : Nat} (hw : w < 2) (hsd : sd < 2) (hk7 : k < 7) {W SD K : Int32} {A B : Int64} (eW : W = nI w) (eS : SD = nI sd) (eK : K = nI k) (eA : A = Int64.ofInt f.1) (eB : B = Int64.ofInt f.2) (hb : bnI π w sd k f < π.1 + 4) (h : Q (some (.int (nI (bnI π w sd k f)))) (zK0, I, J, zR0 past)) : zCalls G k' yX12_bounding [.ref 305, .int W, .int SD, .int K, .long A, .long B] (zK0, I, J, zR0 past) Q := by
  subst eW
  subst eS
  subst eK
  subst eA
  subst eB
  have h6 := hv.1.1
  obtain ⟨fp, fb1, fb2⟩ := fW_p wf
  have loop : ∀ (q x : Nat) (v : Int32) (o9 : Option Value), v = nI x → x + q = π.1 + 4 → fst1 (bnP π w sd k f) x q = bnI π w sd k f → aX12_bounding G Q 3 [some (.ref 305), some (.int (nI w)), some (.int (nI sd)), some (.int (nI k)), some (.long (Int64.ofInt f.1)), none, some (.long (Int64.ofInt f.2)), none, some (.int v), o9] [] (zK0, I, J, zR0 past) := by
    intro q
    induction q with
    | zero =>
      intro x v o9 ev hx hq
      have hq : x = bnI π w sd k f := hq
      omega
    | succ q ih =>
      intro x v o9 ev hx hq
      subst ev
      have hq : (if bnP π w sd k f x then x else fst1 (bnP π w sd k f) (x + 1) q) = bnI π w sd k f := hq
      have a5 := pR_w hv.1 (k := x) (w := 1 - w) (by omega) (by omega)
      have a6 := zRs_bd hv.1 (i := x) (w := w) (k := k) (by omega) hw hk7
      have tA := t64 (pR π x (1 - w))
      have gt : 0 < pR π x (1 - w) ↔ 0 < (pR π x (1 - w)).toInt := by rw [Int32.lt_iff_toInt_lt, Int32.toInt_zero]
      have lt : pR π x (1 - w) < 0 ↔ (pR π x (1 - w)).toInt < 0 := by rw [Int32.lt_iff_toInt_lt, Int32.toInt_zero]
      have eR : (pR π x w * nI k - pR π x 2).toInt64 = Int64.ofInt (-(zRs π w k x)) := by
        have e : pR π x w * nI k - pR π x 2 = Int32.ofInt (-(zRs π w k x)) := by
          unfold zRs
          rw [show -((pR π x 2).toInt - (pR π x w).toInt * (k : Int)) = (pR π x w).toInt * (k : Int) - (pR π x 2).toInt by omega, Int32.ofInt_sub, Int32.ofInt_mul, ← i_of, ← i_of, nI_I]
        rw [e, iI_l (by omega)]
      have m1 := bd_mul a5 fb1
      have m2 := bd_mul a6 fb2
      have eq : (pR π x (1 - w)).toInt64 * Int64.ofInt f.1 + (pR π x w * nI k - pR π x 2).toInt64 * Int64.ofInt f.2 = 0 ↔ (pR π x (1 - w)).toInt * f.1 = zRs π w k x * f.2 := by
        rw [eR, tA, ← Int64.ofInt_mul, ← Int64.ofInt_mul, ← Int64.ofInt_add, Int.neg_mul, z_l_eq, lI_T (by omega), Int64.toInt_zero]
        omega
      have z79 : bnP π w sd k f x = false → ∀ (o9 : Option Value), aX12_bounding G Q 79 [some (.ref 305), some (.int (nI w)), some (.int (nI sd)), some (.int (nI k)), some (.long (Int64.ofInt f.1)), none, some (.long (Int64.ofInt f.2)), none, some (.int (nI x)), o9] [] (zK0, I, J, zR0 past) := by
        intro c o9
        rw [c] at hq
        refine sgX12_bounding hG [3] 60 79 ?_
        exact ih (x + 1) _ o9 (by rw [nI_1]) (by omega) hq
      have z43 : (if sd = 0 then decide (0 < (pR π x (1 - w)).toInt) else decide ((pR π x (1 - w)).toInt < 0)) = true → aX12_bounding G Q 43 [some (.ref 305), some (.int (nI w)), some (.int (nI sd)), some (.int (nI k)), some (.long (Int64.ofInt f.1)), none, some (.long (Int64.ofInt f.2)), none, some (.int (nI x)), some (.int (pR π x (1 - w)))] [] (zK0, I, J, zR0 past) := by
        intro c
        refine sgX12_bounding hG [79] 60 43 ?_
        refine m_of hG (by decide) hm h6 x w (by omega) (by omega) ?_
        refine m_of hG (by decide) hm h6 x 2 (by omega) (by omega) ?_
        refine And.intro (fun d => ?_) (fun d => ?_)
        · have d : ¬ (pR π x (1 - w)).toInt * f.1 = zRs π w k x * f.2 := fun q => d (eq.mpr q)
          exact z79 (by unfold bnP; rw [decide_eq_false d, Bool.and_false]) _
        · have d := eq.mp d
          have t : bnP π w sd k f x = true := by unfold bnP; rw [c, decide_eq_true d]; rfl
          rw [t] at hq
          rw [← hq] at h
          exact h
      refine sgX12_bounding hG [35, 43, 79] 60 3 ?_
      refine m_lines2 hG (by decide) hm ?_
      refine And.intro (fun c => absurd c (by rw [nI_leI (by omega) (by omega)]; omega)) (fun _ => ?_)
      refine z_arg (args' := [.ref 305, .int (nI x), .int (nI (1 - w))]) (by rw [show (1 : Int32) = nI 1 from rfl, pk_sub (by omega)]) ?_
      refine m_of hG (by decide) hm h6 x (1 - w) (by omega) (by omega) ?_
      rcases (show sd = 0 ∨ sd = 1 by omega) with s0 | s0
      · rw [if_pos s0] at z43
        refine And.intro (fun c => absurd (by rw [s0]; rfl) c) (fun _ => ?_)
        refine And.intro (fun c => ?_) (fun c => ?_)
        · exact z43 (decide_eq_true (gt.mp c))
        · exact z79 (by unfold bnP; rw [if_pos s0, decide_eq_false (fun q => c (gt.mpr q))]; rfl) _
      · rw [if_neg (by omega)] at z43
        refine And.intro (fun _ => ?_) (fun c => absurd c (by rw [s0]; decide))
        refine sgX12_bounding hG [43, 79] 60 35 ?_
        refine And.intro (fun c => ?_) (fun c => ?_)
        · exact z43 (decide_eq_true (lt.mp c))
        · exact z79 (by unfold bnP; rw [if_neg (by omega), decide_eq_false (fun q => c (lt.mpr q))]; rfl) _
  refine rnX12_bounding hG hk 305 _ _ _ _ _ ?_
  refine sgX12_bounding hG [3] 60 0 ?_
  exact loop (π.1 + 4) 0 0 none rfl (by omega) rfl
theorem m_putFraction {G : zG} (hG : zGok G) {k' : Nat} (hk : 3 ≤ k') {I : Nat → Nat → Int32} {J : Nat → Nat → Int64} {past : Nat → Nat} {Q : zRt} {p : Nat} (hp : p < 14) {P : Int32} (eP : P = nI p) {a b : Int} {A B : Int64} (eA : A = Int64.ofInt a) (eB : B = Int64.ofInt b) (ha : a.natAbs < 2 ^ 62) (hb : b.natAbs < 2 ^ 62) (h0 : b ≠ 0) (h : ∀ I' J', mJf J J' → (∀ x, x ≠ 315 → I' x = I x) → (∀ j, j ≠ p → j ≠ p + 1 → I' 315 j = I 315 j) → I' 315 p = Int32.ofInt (fRed a b).1 → I' 315 (p + 1) = Int32.ofInt (fRed a b).2 → Q none (zK0, I', J', zR0 past)) : zCalls G k' yX12_putFraction [.ref 305, .int P, .long A, .long B] (zK0, I, J, zR0 past) Q := by
  subst eP
  have n0 := nI_clamp (n := p) (by omega)
  have e1 := nI_1 p
  have n1 : (nI p + 1).toNatClampNeg = p + 1 := by rw [e1, nI_clamp (by omega)]
  refine rnX12_putFraction hG hk 305 _ _ _ ?_
  refine sgX12_putFraction hG [] 60 0 ?_
  refine m_setI hG (by decide) eA eB ha hb h0 (fun J1 f1 g1 q1 q2 => ?_)
  refine And.intro (by exact vp_in_nI (by omega) (by omega)) ?_
  refine And.intro (by rw [e1]; exact vp_in_nI (by omega) (by omega)) ?_
  rw [n0, n1]
  refine h _ J1 ⟨f1, fun j hj => g1 j (by omega) (by omega)⟩ (fun x hx => by rw [z_upI_ne hx, z_upI_ne hx]) (fun j j1 j2 => by rw [uI_k j2, uI_k j1]) ?_ ?_
  · rw [uI_k (by omega), uI_s, q1, lI_i]
  · rw [uI_s, q2, lI_i]
theorem tdiv_sg {s a n : Int} (hs : s = 1 ∨ s = -1) : a.tdiv (n * s) = (s * a).tdiv n := by
  rcases hs with rfl | rfl
  · rw [Int.mul_one, Int.one_mul]
  · rw [show n * -1 = -n by omega, show -1 * a = -a by omega, Int.tdiv_neg, Int.neg_tdiv]
theorem m_layCut211 {G : zG} (hG : zGok G) {I : Nat → Nat → Int32} {J : Nat → Nat → Int64} {past : Nat → Nat} {Q : zRt} {π : zPl} (hm : mPl I 306 0 π) (hv : vPl π) {w sd k : Nat} (hw : w < 2) (hsd : sd < 2) (hk6 : k < 6) {f g : zFr} (wf : fW 5 f) (wg : fW 5 g) (i1 : bnI π w sd k f < π.1 + 4) (i2 : (pR π (bnI π w sd k f) (1 - w)).toInt ≠ 0) (j1 : bnI π w sd (k + 1) g < π.1 + 4) (j2 : (pR π (bnI π w sd (k + 1) g) (1 - w)).toInt ≠ 0) (c0 : I 315 0 = Int32.ofInt (if w = 0 then ctS f g k sd else ctO f g k sd)) (c1 : I 315 1 = Int32.ofInt (if w = 0 then ctO f g k sd else ctS f g k sd)) (c2 : I 315 2 = Int32.ofInt (ctB f g k sd)) (c3 : I 315 3 = Int32.ofInt w) (c4 : I 315 4 = Int32.ofInt k) {o4 o5 o14 o15 o16 o17 o18 o19 o20 o21 o22 o23 o26 : Option Value} {O S : Int32} (eO : O = Int32.ofInt (ctO f g k sd)) (eS : S = Int32.ofInt (ctS f g k sd)) (hp4 : ∃ z, o4 = some (.ref z)) (p26 : ∃ z, o26 = some (.int z)) (h : ∀ I' J', mJf J J' → (∀ x, x ≠ 315 → I' x = I x) → (∀ j, j < 15 → I' 315 j = Int32.ofInt (ctQ π w sd k f g j)) → Q none (zK0, I', J', zR0 past)) : aX12_layCut G Q 211 [some (.ref 305), some (.int (nI w)), some (.int (nI sd)), some (.int (nI k)), o4, o5, some (.long (Int64.ofInt f.1)), none, some (.long (Int64.ofInt f.2)), none, some (.long (Int64.ofInt g.1)), none, some (.long (Int64.ofInt g.2)), none, o14, o15, o16, o17, o18, o19, o20, o21, o22, o23, some (.int O), some (.int S), o26, none, none] [] (zK0, I, J, zR0 past) := by
  subst eO
  subst eS
  obtain ⟨z26, rfl⟩ := p26
  have h6 := hv.1.1
  obtain ⟨_, _, o1, o2, o3⟩ := ct_bd wf wg (k := k) (by omega) sd
  have sO : (Int32.ofInt (ctO f g k sd)).toInt64 = Int64.ofInt (ctO f g k sd) := iI_l (by omega)
  have sS : (Int32.ofInt (ctS f g k sd)).toInt64 = Int64.ofInt (ctS f g k sd) := iI_l (by omega)
  have mb1 := m_bounding (Q := fun v σ' => match v with | some v => aX12_layCut G Q 222 [some (.ref 305), some (.int (nI w)), some (.int (nI sd)), some (.int (nI k)), o4, o5, some (.long (Int64.ofInt f.1)), none, some (.long (Int64.ofInt f.2)), none, some (.long (Int64.ofInt g.1)), none, some (.long (Int64.ofInt g.2)), none, o14, o15, o16, o17, o18, o19, o20, o21, o22, o23, some (.int (Int32.ofInt (ctO f g k sd))), some (.int (Int32.ofInt (ctS f g k sd))), some (.int z26), none, none] [v] σ' | none => False) (k' := 3) (J := J) (past := past) hG (by decide) hm hv wf hw hsd (k := k) (by omega) rfl rfl rfl rfl rfl i1
  have mb2 := m_bounding (Q := fun v σ' => match v with | some v => aX12_layCut G Q 237 [some (.ref 305), some (.int (nI w)), some (.int (nI sd)), some (.int (nI k)), o4, o5, some (.long (Int64.ofInt f.1)), none, some (.long (Int64.ofInt f.2)), none, some (.long (Int64.ofInt g.1)), none, some (.long (Int64.ofInt g.2)), none, o14, o15, o16, o17, o18, o19, o20, o21, o22, o23, some (.int (Int32.ofInt (ctO f g k sd))), some (.int (Int32.ofInt (ctS f g k sd))), some (.int z26), some (.int (nI (bnI π w sd k f))), none] [v] σ' | none => False) (k' := 3) (J := J) (past := past) hG (by decide) hm hv wg hw hsd (k := k + 1) (by omega) rfl rfl (nI_1 k) rfl rfl j1
  obtain ⟨x0, x1, x2, x3, x4, x13, x14⟩ := @ctQ_a π w sd k f g
  obtain ⟨⟨x5, x6⟩, ⟨x7, x8⟩, ⟨x9, x10⟩, ⟨x11, x12⟩⟩ := @ctQ_b π w sd k f g
  refine sgX12_layCut hG [222] 60 211 ?_
  refine mb1 ?_
  refine sgX12_layCut hG [237] 60 222 ?_
  refine mb2 ?_
  generalize bnI π w sd k f = i at *
  generalize bnI π w sd (k + 1) g = j at *
  have p1 := pR_w hv.1 (k := i) (w := 1 - w) i1 (by omega)
  have p2 := pR_w hv.1 (k := j) (w := 1 - w) j1 (by omega)
  have tb1 := ctT_bd hv.1 hw i1 o1 o2 0
  have tb2 := ctT_bd hv.1 hw j1 o1 o2 1
  have e1w : (1 : Int32) - nI w = nI (1 - w) := by rw [show (1 : Int32) = nI 1 from rfl, pk_sub (by omega)]
  have fr0 : ∀ x, x ≠ 315 → z_upI (z_upI I 315 5 (nI i)) 315 6 (nI j) x = I x := fun x hx => by rw [z_upI_ne hx, z_upI_ne hx]
  refine sgX12_layCut hG [] 130 237 ?_
  refine And.intro (by unfold vp_in; decide) ?_
  refine And.intro (by unfold vp_in; decide) ?_
  have hm1 : mPl (z_upI (z_upI I 315 5 (nI i)) 315 6 (nI j)) 306 0 π := mPl_fr hm (fr0 306 (by decide))
  refine z_arg (args' := [.ref 305, .int (nI i), .int (nI (1 - w))]) (by rw [e1w]) ?_
  refine m_of hG (by decide) hm1 h6 i (1 - w) i1 (by omega) ?_
  refine m_putFraction hG (by decide) (p := 7) (by decide) rfl (a := ctO f g k sd) (b := (pR π i (1 - w)).toInt) sO (t64 _) (by omega) (by omega) i2 (fun I2 J2 f2 g2 k2 y7 y8 => ?_)
  have hm2 : mPl I2 306 0 π := mPl_fr hm1 (g2 306 (by decide))
  refine z_arg (args' := [.ref 305, .int (nI i), .int (nI (1 - w))]) (by rw [e1w]) ?_
  refine m_of hG (by decide) hm2 h6 i (1 - w) i1 (by omega) ?_
  refine m_of hG (by decide) hm2 h6 i w i1 (by omega) ?_
  refine z_arg (args' := [.ref 305, .int (nI i), .int (nI (1 - w))]) (by rw [e1w]) ?_
  refine m_of hG (by decide) hm2 h6 i (1 - w) i1 (by omega) ?_
  refine m_putFraction hG (by decide) (p := 9) (by decide) rfl (a := (if 0 = 0 then 1 else -1) * (ctS f g k sd * (pR π i (1 - w)).toInt - ctO f g k sd * (pR π i w).toInt)) (b := (pR π i (1 - w)).toInt) (by rw [sO, sS, t64, t64, if_pos rfl, Int.one_mul, Int64.ofInt_sub, Int64.ofInt_mul, Int64.ofInt_mul]) (t64 _) (Nat.lt_of_le_of_lt tb1 (by decide)) (by omega) i2 (fun I3 J3 f3 g3 k3 y9 y10 => ?_)
  have hm3 : mPl I3 306 0 π := mPl_fr hm2 (g3 306 (by decide))
  refine z_arg (args' := [.ref 305, .int (nI j), .int (nI (1 - w))]) (by rw [e1w]) ?_
  refine m_of hG (by decide) hm3 h6 j (1 - w) j1 (by omega) ?_
  refine m_putFraction hG (by decide) (p := 11) (by decide) rfl (a := ctO f g k sd) (b := (pR π j (1 - w)).toInt) sO (t64 _) (by omega) (by omega) j2 (fun I4 J4 f4 g4 k4 y11 y12 => ?_)
  have hm4 : mPl I4 306 0 π := mPl_fr hm3 (g4 306 (by decide))
  refine m_of hG (by decide) hm4 h6 j w j1 (by omega) ?_
  refine z_arg (args' := [.ref 305, .int (nI j), .int (nI (1 - w))]) (by rw [e1w]) ?_
  refine m_of hG (by decide) hm4 h6 j (1 - w) j1 (by omega) ?_
  refine z_arg (args' := [.ref 305, .int (nI j), .int (nI (1 - w))]) (by rw [e1w]) ?_
  refine m_of hG (by decide) hm4 h6 j (1 - w) j1 (by omega) ?_
  refine m_putFraction hG (by decide) (p := 13) (by decide) rfl (a := (if 1 = 0 then 1 else -1) * (ctS f g k sd * (pR π j (1 - w)).toInt - ctO f g k sd * (pR π j w).toInt)) (b := (pR π j (1 - w)).toInt) (by
    rw [sO, sS, t64, t64, if_neg (by decide), ← Int64.ofInt_mul, ← Int64.ofInt_mul, ← Int64.ofInt_sub]
    congr 1
    omega) (t64 _) (Nat.lt_of_le_of_lt tb2 (by decide)) (by omega) j2 (fun I5 J5 f5 g5 k5 y13 y14 => ?_)
  refine h I5 J5 (mJf_tr (mJf_tr (mJf_tr f2 f3) f4) f5) (fun x hx => by rw [g5 x hx, g4 x hx, g3 x hx, g2 x hx, fr0 x hx]) (fun n hn => ?_)
  have u5 : I2 315 5 = nI i := by
    rw [k2 5 (by decide) (by decide)]
    show z_upI (z_upI I 315 5 (nI i)) 315 6 (nI j) 315 5 = _
    rw [uI_k (by decide), uI_s]
  have u6 : I2 315 6 = nI j := by
    rw [k2 6 (by decide) (by decide)]
    show z_upI (z_upI I 315 5 (nI i)) 315 6 (nI j) 315 6 = _
    rw [uI_s]
  have lo : ∀ n, n < 5 → I5 315 n = I 315 n := by
    intro n hn
    rw [k5 n (by omega) (by omega), k4 n (by omega) (by omega), k3 n (by omega) (by omega), k2 n (by omega) (by omega)]
    show z_upI (z_upI I 315 5 (nI i)) 315 6 (nI j) 315 n = _
    rw [uI_k (by omega), uI_k (by omega)]
  rcases (show n = 0 ∨ n = 1 ∨ n = 2 ∨ n = 3 ∨ n = 4 ∨ n = 5 ∨ n = 6 ∨ n = 7 ∨ n = 8 ∨ n = 9 ∨ n = 10 ∨ n = 11 ∨ n = 12 ∨ n = 13 ∨ n = 14 by omega) with rfl | rfl | rfl | rfl | rfl | rfl | rfl | rfl | rfl | rfl | rfl | rfl | rfl | rfl | rfl
  · rw [lo 0 (by decide), c0]; exact congrArg Int32.ofInt x0.symm
  · rw [lo 1 (by decide), c1]; exact congrArg Int32.ofInt x1.symm
  · rw [lo 2 (by decide), c2]; exact congrArg Int32.ofInt x2.symm
  · rw [lo 3 (by decide), c3]; exact congrArg Int32.ofInt x13.symm
  · rw [lo 4 (by decide), c4]; exact congrArg Int32.ofInt x14.symm
  · rw [k5 5 (by decide) (by decide), k4 5 (by decide) (by decide), k3 5 (by decide) (by decide), u5, nI_I]; exact congrArg Int32.ofInt x3.symm
  · rw [k5 6 (by decide) (by decide), k4 6 (by decide) (by decide), k3 6 (by decide) (by decide), u6, nI_I]; exact congrArg Int32.ofInt x4.symm
  · rw [k5 7 (by decide) (by decide), k4 7 (by decide) (by decide), k3 7 (by decide) (by decide), y7]; exact congrArg Int32.ofInt x5.symm
  · rw [k5 8 (by decide) (by decide), k4 8 (by decide) (by decide), k3 8 (by decide) (by decide)]; exact y8.trans (congrArg Int32.ofInt x6.symm)
  · rw [k5 9 (by decide) (by decide), k4 9 (by decide) (by decide), y9]; exact congrArg Int32.ofInt x7.symm
  · rw [k5 10 (by decide) (by decide), k4 10 (by decide) (by decide)]; exact y10.trans (congrArg Int32.ofInt x8.symm)
  · rw [k5 11 (by decide) (by decide), y11]; exact congrArg Int32.ofInt x9.symm
  · rw [k5 12 (by decide) (by decide)]; exact y12.trans (congrArg Int32.ofInt x10.symm)
  · rw [y13]; exact congrArg Int32.ofInt x11.symm
  · exact y14.trans (congrArg Int32.ofInt x12.symm)
theorem m_layCut {G : zG} (hG : zGok G) {k' : Nat} (hk : 4 ≤ k') {I : Nat → Nat → Int32} {J : Nat → Nat → Int64} {past : Nat → Nat} {Q : zRt} {π : zPl} (hm : mPl I 306 0 π) (hv : vPl π) {w sd k : Nat} (hw : w < 2) (hsd : sd < 2) (hk6 : k < 6) (t1 : mSl I J (14 * 0 + 7 * w + k) (sT0 π w k)) (t2 : mSl I J (14 * 0 + 7 * w + (k + 1)) (sT0 π w (k + 1))) (c1 : (sT0 π w k).1 = true) (c2 : (sT0 π w (k + 1)).1 = true) {W SD K : Int32} (eW : W = nI w) (eS : SD = nI sd) (eK : K = nI k) (h : ∀ I' J', mJf J J' → (∀ x, x ≠ 315 → I' x = I x) → (∀ j, j < 15 → I' 315 j = sCt π w sd k j) → Q none (zK0, I', J', zR0 past)) : zCalls G k' yX12_layCut [.ref 305, .int W, .int SD, .int K] (zK0, I, J, zR0 past) Q := by
  subst eW
  subst eS
  subst eK
  have wf := ctE_W (sd := sd) (sT0_W hv.1 hw (k := k) (by omega)) c1
  have wg := ctE_W (sd := sd) (sT0_W hv.1 hw (k := k + 1) (by omega)) c2
  obtain ⟨i1, i2⟩ := bnI_f π (w := w) (sd := sd) (k := k) hw hsd
  obtain ⟨j1, j2⟩ := bnI_f π (w := w) (sd := sd) (k := k + 1) hw hsd
  obtain ⟨⟨l1, l2⟩, u1, u2⟩ := t1.2 c1
  obtain ⟨⟨l3, l4⟩, u3, u4⟩ := t2.2 c2
  have h' : ∀ I' J', mJf J J' → (∀ x, x ≠ 315 → I' x = I x) → (∀ j, j < 15 → I' 315 j = Int32.ofInt (ctQ π w sd k (ctE sd (sT0 π w k)) (ctE sd (sT0 π w (k + 1))) j)) → Q none (zK0, I', J', zR0 past) := h
  have fe : ∃ f, f = ctE sd (sT0 π w k) := ⟨_, rfl⟩
  have ge : ∃ g, g = ctE sd (sT0 π w (k + 1)) := ⟨_, rfl⟩
  obtain ⟨f, ef⟩ := fe
  obtain ⟨g, eg⟩ := ge
  rw [← ef] at wf i1 i2 h'
  rw [← eg] at wg j1 j2 h'
  obtain ⟨⟨n0, p0⟩, ⟨b1, b2, b3⟩, o1, o2, o3⟩ := ct_bd wf wg (k := k) (by omega) sd
  obtain ⟨fp, fb1, fb2⟩ := fW_p wf
  obtain ⟨gp, gb1, gb2⟩ := fW_p wg
  have hsg : ctG sd = 1 ∨ ctG sd = -1 := by unfold ctG; split; exact Or.inl rfl; exact Or.inr rfl
  have nl : ctN f g k ≤ 25 := Nat.le_trans (Nat.gcd_le_left _ (Nat.gcd_pos_of_pos_left _ (by omega))) (Nat.le_trans (Nat.gcd_le_left _ (by omega)) b1)
  have z111 : ∀ (o : Nat) (t : Int64), t = Int64.ofInt (ctG sd) → aX12_layCut G Q 113 [some (.ref 305), some (.int (nI w)), some (.int (nI sd)), some (.int (nI k)), some (.ref o), some (.int (nI (14 * 0 + 7 * w + k))), some (.long (Int64.ofInt f.1)), none, some (.long (Int64.ofInt f.2)), none, some (.long (Int64.ofInt g.1)), none, some (.long (Int64.ofInt g.2)), none, some (.long (Int64.ofInt (f.2 * g.2))), none, some (.long (Int64.ofInt (bwS f g))), none, some (.long (Int64.ofInt (ctM f g k))), none, some (.long t), none, none, none, none, none, none, none, none] [] (zK0, I, J, zR0 past) := by
    intro o t et
    have tY := lI_T (a := f.2 * g.2) (by omega)
    have tZ := lI_T (a := bwS f g) (by omega)
    have tB := lI_T (a := ctM f g k) (by omega)
    have g1 : zgcd (Int64.ofInt (f.2 * g.2)) (Int64.ofInt (bwS f g)) = lN (Nat.gcd (f.2 * g.2).natAbs (bwS f g).natAbs) := by unfold zgcd; rw [tZ, tY]
    have gl : Nat.gcd (f.2 * g.2).natAbs (bwS f g).natAbs ≤ 25 := Nat.le_trans (Nat.gcd_le_left _ (by omega)) b1
    have g2 : zgcd (lN (Nat.gcd (f.2 * g.2).natAbs (bwS f g).natAbs)) (Int64.ofInt (ctM f g k)) = lN (ctN f g k) := by
      unfold zgcd ctN
      rw [pk_lT (by omega), tB, Int.natAbs_natCast]
    have eBy : lN (ctN f g k) * t = Int64.ofInt ((ctN f g k : Int) * ctG sd) := by rw [et, lN_I, Int64.ofInt_mul]
    have bBy : ((ctN f g k : Int) * ctG sd).natAbs ≤ 25 := by rcases hsg with e | e <;> rw [e] <;> omega
    have tBy := lI_T (a := (ctN f g k : Int) * ctG sd) (by omega)
    have nBy : ¬ lN (ctN f g k) * t = 0 := by
      rw [eBy, z_l_eq, tBy, Int64.toInt_zero]
      rcases hsg with e | e <;> rw [e] <;> omega
    have dv : ∀ x : Int, x.natAbs ≤ 1950 → (Int64.ofInt x / (lN (ctN f g k) * t)).toInt32 = Int32.ofInt ((ctG sd * x).tdiv (ctN f g k)) := by
      intro x hx
      have tx := lI_T (a := x) (by omega)
      have e : Int64.ofInt x / (lN (ctN f g k) * t) = Int64.ofInt ((ctG sd * x).tdiv (ctN f g k)) := by
        have bb := tdiv_bd (ctG sd * x) (ctN f g k)
        have b3 : (ctG sd * x).natAbs ≤ 1950 := by rcases hsg with e | e <;> rw [e] <;> omega
        rw [eBy, z_l_eq, z_ldiv (by omega), tx, tBy, lI_T (by omega), tdiv_sg hsg]
      rw [e, lI_i]
    have eO : (Int64.ofInt (f.2 * g.2) / (lN (ctN f g k) * t)).toInt32 = Int32.ofInt (ctO f g k sd) := dv _ (by omega)
    have eSp : (-Int64.ofInt (bwS f g) / (lN (ctN f g k) * t)).toInt32 = Int32.ofInt (ctS f g k sd) := by
      rw [← Int64.ofInt_neg, dv _ (by omega)]
      unfold ctS
      rw [Int.mul_neg]
    have eBd : (Int64.ofInt (ctM f g k) / (lN (ctN f g k) * t)).toInt32 = Int32.ofInt (ctB f g k sd) := dv _ (by omega)
    refine sgX12_layCut hG [155] 60 113 ?_
    refine m_common hG (by decide) _ _ (by omega) (by omega) ?_
    rw [g1]
    refine m_common hG (by decide) _ _ (by rw [pk_lT (by omega)]; omega) (by omega) ?_
    rw [g2]
    refine And.intro nBy ?_
    refine And.intro nBy ?_
    refine And.intro nBy ?_
    have z155 : ∀ (by9 : Int64) (O S B : Int32), O = Int32.ofInt (ctO f g k sd) → S = Int32.ofInt (ctS f g k sd) → B = Int32.ofInt (ctB f g k sd) → aX12_layCut G Q 155 [some (.ref 305), some (.int (nI w)), some (.int (nI sd)), some (.int (nI k)), some (.ref o), some (.int (nI (14 * 0 + 7 * w + k))), some (.long (Int64.ofInt f.1)), none, some (.long (Int64.ofInt f.2)), none, some (.long (Int64.ofInt g.1)), none, some (.long (Int64.ofInt g.2)), none, some (.long (Int64.ofInt (f.2 * g.2))), none, some (.long (Int64.ofInt (bwS f g))), none, some (.long (Int64.ofInt (ctM f g k))), none, some (.long t), none, some (.long by9), none, some (.int O), some (.int S), some (.int B), none, none] [] (zK0, I, J, zR0 past) := by
      intro by9 O S B eO eS eB
      have fin : ∀ X0 X1 : Int32, X0 = Int32.ofInt (if w = 0 then ctS f g k sd else ctO f g k sd) → X1 = Int32.ofInt (if w = 0 then ctO f g k sd else ctS f g k sd) → aX12_layCut G Q 211 [some (.ref 305), some (.int (nI w)), some (.int (nI sd)), some (.int (nI k)), some (.ref o), some (.int (nI (14 * 0 + 7 * w + k))), some (.long (Int64.ofInt f.1)), none, some (.long (Int64.ofInt f.2)), none, some (.long (Int64.ofInt g.1)), none, some (.long (Int64.ofInt g.2)), none, some (.long (Int64.ofInt (f.2 * g.2))), none, some (.long (Int64.ofInt (bwS f g))), none, some (.long (Int64.ofInt (ctM f g k))), none, some (.long t), none, some (.long by9), none, some (.int O), some (.int S), some (.int B), none, none] [] (zK0, z_upI (z_upI (z_upI (z_upI (z_upI I 315 0 X0) 315 1 X1) 315 2 B) 315 3 (nI w)) 315 4 (nI k), J, zR0 past) := by
        intro X0 X1 e0 e1
        have fr : ∀ x, x ≠ 315 → z_upI (z_upI (z_upI (z_upI (z_upI I 315 0 X0) 315 1 X1) 315 2 B) 315 3 (nI w)) 315 4 (nI k) x = I x := fun x hx => by rw [z_upI_ne hx, z_upI_ne hx, z_upI_ne hx, z_upI_ne hx, z_upI_ne hx]
        refine m_layCut211 hG (mPl_fr hm (fr 306 (by decide))) hv hw hsd hk6 wf wg i1 i2 j1 j2 ?_ ?_ ?_ ?_ ?_ eO eS ⟨_, rfl⟩ ⟨_, rfl⟩ (fun I' J' f1 f2 q => h' I' J' f1 (fun x hx => (f2 x hx).trans (fr x hx)) q)
        · rw [uI_k (by decide), uI_k (by decide), uI_k (by decide), uI_k (by decide), uI_s]; exact e0
        · rw [uI_k (by decide), uI_k (by decide), uI_k (by decide), uI_s]; exact e1
        · rw [uI_k (by decide), uI_k (by decide), uI_s]; exact eB
        · rw [uI_k (by decide), uI_s, nI_I]
        · rw [uI_s, nI_I]
      rcases (show w = 0 ∨ w = 1 by omega) with rfl | rfl
      · refine sgX12_layCut hG [211] 60 155 ?_
        refine And.intro (fun c => absurd rfl c) (fun _ => ?_)
        refine And.intro (by unfold vp_in; decide) ?_
        refine And.intro (fun c => absurd rfl c) (fun _ => ?_)
        refine And.intro (by unfold vp_in; decide) ?_
        refine And.intro (by unfold vp_in; decide) ?_
        refine And.intro (by unfold vp_in; decide) ?_
        refine And.intro (by unfold vp_in; decide) ?_
        exact fin S O eS eO
      · refine sgX12_layCut hG [211] 60 155 ?_
        refine And.intro (fun _ => ?_) (fun c => absurd c (by decide))
        refine And.intro (by unfold vp_in; decide) ?_
        refine And.intro (fun _ => ?_) (fun c => absurd c (by decide))
        refine And.intro (by unfold vp_in; decide) ?_
        refine And.intro (by unfold vp_in; decide) ?_
        refine And.intro (by unfold vp_in; decide) ?_
        refine And.intro (by unfold vp_in; decide) ?_
        exact fin O S eO eS
    exact z155 _ _ _ _ eO eSp eBd
  have z67 : ∀ (o : Nat) (A B C D : Int64), A = Int64.ofInt f.1 → B = Int64.ofInt f.2 → C = Int64.ofInt g.1 → D = Int64.ofInt g.2 → aX12_layCut G Q 67 [some (.ref 305), some (.int (nI w)), some (.int (nI sd)), some (.int (nI k)), some (.ref o), some (.int (nI (14 * 0 + 7 * w + k))), some (.long A), none, some (.long B), none, some (.long C), none, some (.long D), none, none, none, none, none, none, none, none, none, none, none, none, none, none, none, none] [] (zK0, I, J, zR0 past) := by
    intro o A B C D eA eB eC eD
    subst eA
    subst eB
    subst eC
    subst eD
    have z100 : ∀ (X Y Z : Int64), X = Int64.ofInt (f.2 * g.2) → Y = Int64.ofInt (bwS f g) → Z = Int64.ofInt (ctM f g k) → aX12_layCut G Q 100 [some (.ref 305), some (.int (nI w)), some (.int (nI sd)), some (.int (nI k)), some (.ref o), some (.int (nI (14 * 0 + 7 * w + k))), some (.long (Int64.ofInt f.1)), none, some (.long (Int64.ofInt f.2)), none, some (.long (Int64.ofInt g.1)), none, some (.long (Int64.ofInt g.2)), none, some (.long X), none, some (.long Y), none, some (.long Z), none, none, none, none, none, none, none, none, none, none] [] (zK0, I, J, zR0 past) := by
      intro X Y Z eX eY eZ
      subst eX
      subst eY
      subst eZ
      refine sgX12_layCut hG [113] 60 100 ?_
      rcases (show sd = 0 ∨ sd = 1 by omega) with s0 | s0
      · refine And.intro (fun c => absurd (by rw [s0]; rfl) c) (fun _ => ?_)
        exact z111 o 1 (by rw [s0]; rfl)
      · refine And.intro (fun _ => ?_) (fun c => absurd c (by rw [s0]; decide))
        exact z111 o (-1) (by rw [s0]; rfl)
    refine sgX12_layCut hG [100] 60 67 ?_
    refine z100 _ _ _ ?_ ?_ ?_
    · rw [Int64.ofInt_mul]
    · unfold bwS; rw [Int64.ofInt_sub, Int64.ofInt_mul, Int64.ofInt_mul]
    · unfold ctM bwS
      rw [nI_L (by omega), Int64.ofInt_sub, Int64.ofInt_mul, Int64.ofInt_mul, Int64.ofInt_sub, Int64.ofInt_mul, Int64.ofInt_mul]
  have z17 : ∀ o : Nat, o = 313 ∨ o = 314 → J o (2 * (14 * 0 + 7 * w + k)) = Int64.ofInt f.1 → J o (2 * (14 * 0 + 7 * w + k) + 1) = Int64.ofInt f.2 → J o (2 * (14 * 0 + 7 * w + (k + 1))) = Int64.ofInt g.1 → J o (2 * (14 * 0 + 7 * w + (k + 1)) + 1) = Int64.ofInt g.2 → aX12_layCut G Q 17 [some (.ref 305), some (.int (nI w)), some (.int (nI sd)), some (.int (nI k)), some (.ref o), none, none, none, none, none, none, none, none, none, none, none, none, none, none, none, none, none, none, none, none, none, none, none, none] [] (zK0, I, J, zR0 past) := by
    intro o ho q1 q2 q3 q4
    rw [show 2 * (14 * 0 + 7 * w + (k + 1)) = 2 * (14 * 0 + 7 * w + k) + 2 by omega] at q3 q4
    have ix0 : (2 : Int32) * nI (14 * 0 + 7 * w + k) = nI (2 * (14 * 0 + 7 * w + k)) := by rw [show (2 : Int32) = nI 2 from rfl, pk_mul]
    have ix1 : (2 : Int32) * nI (14 * 0 + 7 * w + k) + 1 = nI (2 * (14 * 0 + 7 * w + k) + 1) := by rw [ix0, nI_1]
    have ix2 : (2 : Int32) * nI (14 * 0 + 7 * w + k) + 2 = nI (2 * (14 * 0 + 7 * w + k) + 2) := by rw [ix0, show (2 : Int32) = nI 2 from rfl, nI_add]
    have ix3 : (2 : Int32) * nI (14 * 0 + 7 * w + k) + 3 = nI (2 * (14 * 0 + 7 * w + k) + 3) := by rw [ix0, show (3 : Int32) = nI 3 from rfl, nI_add]
    have v0 : vp_in ((2 : Int32) * nI (14 * 0 + 7 * w + k)) 84 := by rw [ix0]; exact vp_in_nI (by omega) (by omega)
    have v1 : vp_in ((2 : Int32) * nI (14 * 0 + 7 * w + k) + 1) 84 := by rw [ix1]; exact vp_in_nI (by omega) (by omega)
    have v2 : vp_in ((2 : Int32) * nI (14 * 0 + 7 * w + k) + 2) 84 := by rw [ix2]; exact vp_in_nI (by omega) (by omega)
    have v3 : vp_in ((2 : Int32) * nI (14 * 0 + 7 * w + k) + 3) 84 := by rw [ix3]; exact vp_in_nI (by omega) (by omega)
    rcases ho with rfl | rfl
    all_goals
      refine sgX12_layCut hG [67] 60 17 ?_
      refine m_sliceAt hG (by decide) 0 w k rfl rfl rfl ?_
      refine And.intro v0 ?_
      refine And.intro v1 ?_
      refine And.intro v2 ?_
      refine And.intro v3 ?_
      refine z67 _ _ _ _ _ ?_ ?_ ?_ ?_
      · rw [ix0, nI_clamp (by omega)]; exact q1
      · rw [ix1, nI_clamp (by omega)]; exact q2
      · rw [ix2, nI_clamp (by omega)]; exact q3
      · rw [ix3, nI_clamp (by omega)]; exact q4
  refine rnX12_layCut hG hk 305 _ _ _ ?_
  refine sgX12_layCut hG [17] 60 0 ?_
  rcases (show sd = 0 ∨ sd = 1 by omega) with rfl | rfl
  · rw [ctE_0] at ef eg
    refine And.intro (fun c => absurd rfl c) (fun _ => ?_)
    exact z17 314 (Or.inr rfl) (by rw [ef]; exact u1) (by rw [ef]; exact u2) (by rw [eg]; exact u3) (by rw [eg]; exact u4)
  · rw [ctE_1] at ef eg
    refine And.intro (fun _ => ?_) (fun c => absurd c (by decide))
    exact z17 313 (Or.inl rfl) (by rw [ef]; exact l1) (by rw [ef]; exact l2) (by rw [eg]; exact l3) (by rw [eg]; exact l4)
/-- the model's word for it: 0, not 1 -/
theorem m_refusesCut {G : zG} (hG : zGok G) {k' : Nat} (hk : 6 ≤ k') {I : Nat → Nat → Int32} {J : Nat → Nat → Int64} {past : Nat → Nat} {Q : zRt} {π : zPl} (hm : mPl I 306 0 π) (hv : vPl π) (w sd k : Int32) (h : ∀ I' J', mLy I J I' J' → (rfC π w sd k = 1 → mTb I' J' (sTb π) 14) → Q (some (.int (if rfC π w sd k = 1 then 0 else rfC π w sd k))) (zK0, I', J', zR0 past)) : zCalls G k' yX12_refusesCut [.ref 305, .int w, .int sd, .int k] (zK0, I, J, zR0 past) Q := by
  have no : (bUp 1 w && (bUp 1 sd && bUp 5 k)) = false → aX12_refusesCut G Q 27 [some (.ref 305), some (.int w), some (.int sd), some (.int k)] [] (zK0, I, J, zR0 past) := by
    intro e
    have e2 : rfC π w sd k = -1 := by unfold rfC; rw [e]; rfl
    rw [e2] at h
    refine sgX12_refusesCut hG [] 60 27 ?_
    exact h I J mLy_rfl (fun c => absurd c (by decide))
  refine rnX12_refusesCut hG hk 305 w sd k ?_
  refine sgX12_refusesCut hG [27, 29] 60 0 ?_
  refine m_inU hG (by decide) w 1 ?_
  refine And.intro (fun c => no (by rw [(zb_eq0 _).mp c]; rfl)) (fun c => ?_)
  have b1 := z_nb1 (x := 0) c
  refine m_inU hG (by decide) sd 1 ?_
  refine And.intro (fun c => no (by rw [(zb_eq0 _).mp c, Bool.false_and, Bool.and_false])) (fun c => ?_)
  have b2 := z_nb1 (x := 0) c
  refine m_inU hG (by decide) k 5 ?_
  refine And.intro (fun c => ?_) (fun c => no (by rw [(zb_eq0 _).mp c, Bool.and_false, Bool.and_false]))
  have b3 := z_nb1 (x := 0) c
  obtain ⟨wn, a1, rfl⟩ := bUp_in (n := 1) (by decide) b1
  obtain ⟨sn, a2, rfl⟩ := bUp_in (n := 1) (by decide) b2
  obtain ⟨kn, a3, rfl⟩ := bUp_in (n := 5) (by decide) b3
  unfold rfC at h
  rw [b1, b2, b3, nI_clamp (by omega), nI_clamp (by omega)] at h
  have no2 : ∀ I1 J1, mLy I J I1 J1 → ((sT0 π wn kn).1 && (sT0 π wn (kn + 1)).1) = false → aX12_refusesCut G Q 67 [some (.ref 305), some (.int (nI wn)), some (.int (nI sn)), some (.int (nI kn))] [] (zK0, I1, J1, zR0 past) := by
    intro I1 J1 f1 e
    rw [e] at h
    refine sgX12_refusesCut hG [] 60 67 ?_
    exact h I1 J1 f1 (fun c => absurd c (by decide))
  refine sgX12_refusesCut hG [67] 60 29 ?_
  refine m_layFirst hG (by decide) hm hv (sTb π) (fun _ _ => rfl) (fun I1 J1 f1 t1 => ?_)
  refine m_sliceAt hG (by decide) 0 wn kn rfl rfl rfl ?_
  have s1 := t1 0 wn kn (by omega) (by omega) (by omega)
  have s2 := t1 0 wn (kn + 1) (by omega) (by omega) (by omega)
  have s1 : I1 312 (14 * 0 + 7 * wn + kn) = zb (sT0 π wn kn).1 := s1.1
  have s2 : I1 312 (14 * 0 + 7 * wn + (kn + 1)) = zb (sT0 π wn (kn + 1)).1 := s2.1
  refine And.intro (by exact vp_in_nI (by omega) (by omega)) ?_
  refine And.intro (fun c => ?_) (fun c => ?_)
  · have c : I1 312 (nI (14 * 0 + 7 * wn + kn)).toNatClampNeg = 0 := c
    rw [nI_clamp (by omega), s1] at c
    exact no2 I1 J1 f1 (by rw [(zb_eq0 _).mp c]; rfl)
  have c : ¬ I1 312 (nI (14 * 0 + 7 * wn + kn)).toNatClampNeg = 0 := c
  rw [nI_clamp (by omega), s1] at c
  have c1 := z_nb1 (x := 0) c
  refine m_sliceAt hG (by decide) 0 wn (kn + 1) rfl rfl (nI_1 kn) ?_
  refine And.intro (by exact vp_in_nI (by omega) (by omega)) ?_
  refine And.intro (fun c => ?_) (fun c => ?_)
  · have c : I1 312 (nI (14 * 0 + 7 * wn + (kn + 1))).toNatClampNeg = 0 := c
    rw [nI_clamp (by omega), s2] at c
    exact no2 I1 J1 f1 (by rw [(zb_eq0 _).mp c, Bool.and_false])
  have c : ¬ I1 312 (nI (14 * 0 + 7 * wn + (kn + 1))).toNatClampNeg = 0 := c
  rw [nI_clamp (by omega), s2] at c
  have c2 := z_nb1 (x := 0) c
  rw [c1, c2] at h
  exact h I1 J1 f1 (fun _ => t1)
theorem zPerm_lo {j : Nat} (h : j < 3) : zPerm j = j := by
  rcases (show j = 0 ∨ j = 1 ∨ j = 2 by omega) with rfl | rfl | rfl <;> rfl
theorem zPerm_hi : ∀ j, j < 10 → zPerm (3 + j) = 5 + j := by decide
theorem m_cut {G : zG} (hG : zGok G) {k' : Nat} (hk : 7 ≤ k') {I : Nat → Nat → Int32} {J : Nat → Nat → Int64} {past : Nat → Nat} {Q : zRt} {S : zS} (hS : mSt I J S) (hv : vS S) (w sd k : Int32) (h : ∀ I' J', mSt I' J' (sOut S ( sCut S.1 w sd k)) → mFr I J I' J' → Q (some (.int ( sCut S.1 w sd k).1)) (zK0, I', J', zR0 past)) : zCalls G k' yX12_cut [.ref 305, .int w, .int sd, .int k] (zK0, I, J, zR0 past) Q := by
  have hS0 := mSt_thr (v := 0) hS
  have hQ0 : mQ I J (z_upI I 305 5 0) J := mQ_u (by omega)
  refine rnX12_cut hG hk 305 w sd k ?_
  refine sgX12_cut hG [37, 64] 60 0 ?_
  refine m_refusesCut hG (by decide) hS0.1 hv.1 w sd k (fun I1 J1 f1 t1 => ?_)
  by_cases r1 : rfC S.1 w sd k = 1
  · have es : sCut S.1 w sd k = (1, some (tlL (fun j => (sCv S.1 w sd k (zPerm j)).toInt64) 13)) := by unfold sCut; rw [if_pos r1, r1]
    rw [es] at h
    have tt := t1 r1
    rw [if_pos r1]
    obtain ⟨wn, sn, kn, ⟨rfl, rfl, rfl⟩, ⟨a1, a2, a3⟩, c1, c2⟩ := rfC_1 r1
    refine And.intro (fun _ => ?_) (fun c => absurd (by decide) c)
    refine m_layCut hG (by decide) (mLy_pl f1 hS0.1) hv.1 (w := wn) (sd := sn) (k := kn) a1 a2 a3 (tt 0 wn kn (by omega) (by omega) (by omega)) (tt 0 wn (kn + 1) (by omega) (by omega) (by omega)) c1 c2 rfl rfl rfl (fun I2 J2 f2 g2 q2 => ?_)
    have ev : ∀ j, sCv S.1 (nI wn) (nI sn) (nI kn) j = sCt S.1 wn sn kn j := by
      intro j
      unfold sCv
      rw [nI_clamp (by omega), nI_clamp (by omega), nI_clamp (by omega)]
    have q0 : mQ I J I2 J2 := mQ_tr (mQ_tr hQ0 (mLy_Q f1)) ⟨fun x hx => ⟨g2 x (by omega), by
      by_cases z : x = 305
      · omega
      · exact f2.1 x z⟩, by rw [g2 305 (by decide)], by rw [g2 305 (by decide)]⟩
    have lp2 : ∀ (q j : Nat) (v : Int32) (I' : Nat → Nat → Int32) (J' : Nat → Nat → Int64), v = nI (5 + j) → j + q = 10 → (∀ x, x ≠ 305 → I' x = I2 x) → (∀ j, j ≠ 4 → I' 305 j = I2 305 j) → (∀ x, x ≠ 308 → J' x = J2 x) → mNm I' J' (tlL (fun j => (sCv S.1 (nI wn) (nI sn) (nI kn) (zPerm j)).toInt64) (3 + j)) → aX12_cut G Q 64 [some (.ref 305), some (.int (nI wn)), some (.int (nI sn)), some (.int (nI kn)), some (.int 0), some (.int v)] [] (zK0, I', J', zR0 past) := by
      intro q
      induction q with
      | zero =>
        intro j v I' J' ev2 hj fi gi fj nn
        subst ev2
        have e : j = 10 := by omega
        subst e
        refine sgX12_cut hG [64] 60 64 ?_
        refine And.intro (fun _ => ?_) (fun c => absurd (by decide) c)
        have qq : mQ I J I' J' := mQ_tr q0 ⟨fun x hx => ⟨by
          by_cases z : x = 305
          · omega
          · exact fi x z, fj x (by omega)⟩, gi _ (by decide), gi _ (by decide)⟩
        exact h I' J' (mSt_tel hS qq nn) (mQ_fr qq)
      | succ q ih =>
        intro j v I' J' ev2 hj fi gi fj nn
        subst ev2
        refine sgX12_cut hG [64] 60 64 ?_
        refine And.intro (fun c => absurd c (by rw [show (15 : Int32) = nI 15 from rfl, nI_leI (by omega) (by omega)]; omega)) (fun _ => ?_)
        refine And.intro (by exact vp_in_nI (by omega) (by omega)) ?_
        refine m_tellL hG (by decide) nn (by rw [tlL_len]; omega) _ (fun I3 J3 f3 g3 k3 n3 => ?_)
        have e9 : I' 315 (nI (5 + j)).toNatClampNeg = sCv S.1 (nI wn) (nI sn) (nI kn) (zPerm (3 + j)) := by rw [nI_clamp (by omega), fi 315 (by decide), ev, zPerm_hi j (by omega)]; exact q2 (5 + j) (by omega)
        rw [e9, ← tlL_s (fun j => (sCv S.1 (nI wn) (nI sn) (nI kn) (zPerm j)).toInt64) (3 + j)] at n3
        exact ih (j + 1) _ I3 J3 (by rw [nI_1]; rfl) (by omega) (fun x hx => (f3 x hx).trans (fi x hx)) (fun x hx => (g3 x hx).trans (gi x hx)) (fun x hx => (k3 x hx).trans (fj x hx)) n3
    have lp1 : ∀ (q j : Nat) (v : Int32) (I' : Nat → Nat → Int32) (J' : Nat → Nat → Int64), v = nI j → j + q = 3 → (∀ x, x ≠ 305 → I' x = I2 x) → (∀ j, j ≠ 4 → I' 305 j = I2 305 j) → (∀ x, x ≠ 308 → J' x = J2 x) → mNm I' J' (tlL (fun j => (sCv S.1 (nI wn) (nI sn) (nI kn) (zPerm j)).toInt64) j) → aX12_cut G Q 37 [some (.ref 305), some (.int (nI wn)), some (.int (nI sn)), some (.int (nI kn)), some (.int 0), some (.int v)] [] (zK0, I', J', zR0 past) := by
      intro q
      induction q with
      | zero =>
        intro j v I' J' ev2 hj fi gi fj nn
        subst ev2
        have e : j = 3 := by omega
        subst e
        refine sgX12_cut hG [64] 60 37 ?_
        refine And.intro (fun _ => ?_) (fun c => absurd (by decide) c)
        exact lp2 10 0 5 I' J' rfl (by omega) fi gi fj nn
      | succ q ih =>
        intro j v I' J' ev2 hj fi gi fj nn
        subst ev2
        refine sgX12_cut hG [37] 60 37 ?_
        refine And.intro (fun c => absurd c (by rw [show (3 : Int32) = nI 3 from rfl, nI_leI (by omega) (by omega)]; omega)) (fun _ => ?_)
        refine And.intro (by exact vp_in_nI (by omega) (by omega)) ?_
        refine m_tellL hG (by decide) nn (by rw [tlL_len]; omega) _ (fun I3 J3 f3 g3 k3 n3 => ?_)
        have e9 : I' 315 (nI j).toNatClampNeg = sCv S.1 (nI wn) (nI sn) (nI kn) (zPerm j) := by rw [nI_clamp (by omega), fi 315 (by decide), ev, zPerm_lo (by omega)]; exact q2 j (by omega)
        rw [e9, ← tlL_s (fun j => (sCv S.1 (nI wn) (nI sn) (nI kn) (zPerm j)).toInt64) j] at n3
        exact ih (j + 1) _ I3 J3 (by rw [nI_1]) (by omega) (fun x hx => (f3 x hx).trans (fi x hx)) (fun x hx => (g3 x hx).trans (gi x hx)) (fun x hx => (k3 x hx).trans (fj x hx)) n3
    exact lp1 3 0 0 _ J2 rfl (by omega) (fun x hx => z_upI_ne hx) (fun j hj => uI_k hj) (fun _ _ => rfl) mNm_0
  · have es : sCut S.1 w sd k = (rfC S.1 w sd k, none) := by unfold sCut; rw [if_neg r1]
    rw [es] at h
    rw [if_neg r1]
    refine And.intro (fun c => ?_) (fun _ => ?_)
    · exfalso
      revert c
      rcases rfC_3 S.1 w sd k with e | e | e
      · exact absurd e r1
      · rw [e]; decide
      · rw [e]; decide
    · exact h I1 J1 (mLy_same hS0 f1) (mQ_fr (mQ_tr hQ0 (mLy_Q f1)))
