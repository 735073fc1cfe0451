-- ===== stored cuts =====
theorem vCt_bd {g : Nat → Int32} (h : vCt g) {j : Nat} (hj : j < 15) : (g j).toInt.natAbs ≤ 1000000 := by have := h.1 j hj; omega
def bSt (π : zPl) (i : Int32) : Bool := decide (0 ≤ i) && decide (i < nI π.2.2.1)
theorem bSt_in {π : zPl} {i : Int32} (h : bSt π i = true) (h8 : π.2.2.1 ≤ 8) : ∃ n, n < π.2.2.1 ∧ i = nI n := by
  unfold bSt at h
  rw [Bool.and_eq_true, decide_eq_true_eq, decide_eq_true_eq] at h
  obtain ⟨j, h1, h2⟩ := nI_of (x := i) (Int32.not_lt.mpr h.1)
  refine ⟨j, ?_, h2⟩
  rw [h2, nI_ltI h1 (by omega)] at h
  exact h.2
theorem bSt_n {π : zPl} {n : Nat} (h : n < π.2.2.1) (h8 : π.2.2.1 ≤ 8) : bSt π (nI n) = true := by
  unfold bSt
  rw [decide_eq_true (nI_pos' (by omega)), decide_eq_true (nI_lt h (by omega))]; rfl
theorem c_hasCut {G : zG} (hG : zGok G) {k' : Nat} (hk : 1 ≤ k') {I : Nat → Nat → Int32} {J : Nat → Nat → Int64} {past : Nat → Nat} {Q : zRt} {π : zPl} (hc : I 1 1 = nI π.2.2.1) (h8 : π.2.2.1 ≤ 8) (i : Int32) (h : Q (some (.int (zb (bSt π i)))) (zK0, I, J, zR0 past)) : zCalls G k' yX5_hasCut [.ref 1, .int i] (zK0, I, J, zR0 past) Q := by
  refine rnX5_hasCut hG hk 1 i ?_
  refine sgX5_hasCut hG [] 60 0 ?_
  refine And.intro (fun c => ?_) (fun c => ?_)
  · refine And.intro (Or.inl rfl) ?_
    have e : bSt π i = false := by simp [bSt, Int32.not_le.mpr c]
    rw [e] at h; exact h
  · refine And.intro (fun c2 => ?_) (fun c2 => ?_)
    · refine And.intro (Or.inl rfl) ?_
      rw [hc] at c2
      have e : bSt π i = false := by simp [bSt, Int32.not_lt.mpr c2]
      rw [e] at h; exact h
    · rw [hc] at c2
      have s8 : nI π.2.2.1 ≤ (8 : Int32) := by rw [show (8 : Int32) = nI 8 from rfl, nI_leI (by omega) (by omega)]; exact h8
      refine And.intro (fun c3 => absurd (Int32.le_trans s8 c3) c2) (fun _ => ?_)
      refine And.intro (Or.inr rfl) ?_
      have e : bSt π i = true := by simp [bSt, Int32.not_lt.mp c, Int32.not_le.mp c2]
      rw [e] at h; exact h
/-- the row of a stored cut -/
theorem cCt {past : Nat → Nat} {i : Nat} (hi : i < 8) : ∃ q, q = 4 + i ∧ zR0 past 3 (nI i).toNatClampNeg = some q ∧ Nat.beq (zKd zK0 q).1 15 = true ∧ ∀ j, j < 15 → ∀ x : Int32, x = nI j → vp_in x (zKd zK0 q).2 := by
  have z := (zPlc_of (past := past) (p := 1) (by decide)).2.2.2.2.2 i hi
  refine ⟨4 + i, rfl, ?_, ?_, fun j hj x hx => ?_⟩
  · rw [nI_clamp (by omega)]; exact z.1
  · have e : zKd zK0 (4 + i) = (15, 15) := z.2
    rw [e]; rfl
  · have e : zKd zK0 (4 + i) = (15, 15) := z.2
    rw [e, hx]; exact vp_in_nI (by omega) (by omega)
def zEx (g : Nat → Int32) (x y d : Int32) : Int64 := (g 0).toInt64 * x.toInt64 + (g 1).toInt64 * y.toInt64 - (g 2).toInt64 * d.toInt64
theorem c_cutExcess {G : zG} (hG : zGok G) {k' : Nat} (hk : 2 ≤ k') {I : Nat → Nat → Int32} {J : Nat → Nat → Int64} {past : Nat → Nat} {Q : zRt} {π : zPl} (hc : cPl I J 1 π) (h8 : π.2.2.1 ≤ 8) {i : Nat} (hi : i < π.2.2.1) (x y d : Int32) (h : Q (some (.long (zEx (π.2.2.2 i) x y d))) (zK0, I, J, zR0 past)) : zCalls G k' yX5_cutExcess [.ref 1, .int (nI i), .int x, .int y, .int d] (zK0, I, J, zR0 past) Q := by
  obtain ⟨q, hq, w1, w2, w3⟩ := cCt (past := past) (i := i) (by omega)
  have a0 := hc.2.2.2 i hi 0 (by omega)
  have a1 := hc.2.2.2 i hi 1 (by omega)
  have a2 := hc.2.2.2 i hi 2 (by omega)
  rw [show 1 + 3 + i = 4 + i from rfl, ← hq] at a0 a1 a2
  refine rnX5_cutExcess hG hk 1 _ x y d ?_
  refine sgX5_cutExcess hG [] 60 0 ?_
  refine c_hasCut hG (by decide) (π := π) hc.2.1 h8 _ ?_
  rw [bSt_n hi h8]
  refine And.intro (fun c => absurd c (by decide)) (fun _ => ?_)
  refine And.intro (by exact vp_in_nI (by omega) (by omega)) ⟨q, w1, ?_⟩
  refine zB_in w2 (And.intro (w3 0 (by omega) _ rfl) ?_)
  refine And.intro (by exact vp_in_nI (by omega) (by omega)) ⟨q, w1, ?_⟩
  refine zB_in w2 (And.intro (w3 1 (by omega) _ rfl) ?_)
  refine And.intro (by exact vp_in_nI (by omega) (by omega)) ⟨q, w1, ?_⟩
  refine zB_in w2 (And.intro (w3 2 (by omega) _ rfl) ?_)
  have e : J q (0 : Int32).toNatClampNeg * x.toInt64 + J q (1 : Int32).toNatClampNeg * y.toInt64 - J q (2 : Int32).toNatClampNeg * d.toInt64 = zEx (π.2.2.2 i) x y d := by
    rw [show J q (0 : Int32).toNatClampNeg = _ from a0, show J q (1 : Int32).toNatClampNeg = _ from a1, show J q (2 : Int32).toNatClampNeg = _ from a2]; rfl
  rw [← e] at h
  exact h
theorem m_stored {G : zG} (hG : zGok G) {k' : Nat} (hk : 1 ≤ k') {I : Nat → Nat → Int32} {J : Nat → Nat → Int64} {past : Nat → Nat} {Q : zRt} {π : zPl} (hm : mPl I 306 0 π) (h8 : π.2.2.1 ≤ 8) {i : Nat} (hi : i < π.2.2.1) {w : Int32} {j : Nat} (hw : w = nI j) (hj : j < 15) (h : Q (some (.int (π.2.2.2 i j))) (zK0, I, J, zR0 past)) : zCalls G k' yX12_stored [.ref 305, .int (nI i), .int w] (zK0, I, J, zR0 past) Q := by
  subst hw
  have e : (20 : Int32) + 15 * nI i + nI j = nI (0 + 20 + 15 * i + j) := by rw [show (20 : Int32) = nI 20 from rfl, show (15 : Int32) = nI 15 from rfl, pk_mul, nI_add, nI_add]
  refine rnX12_stored hG hk 305 _ _ ?_
  refine sgX12_stored hG [] 60 0 ?_
  refine And.intro (by rw [e]; exact vp_in_nI (by omega) (by omega)) ?_
  have e2 : I 306 ((20 : Int32) + 15 * nI i + nI j).toNatClampNeg = π.2.2.2 i j := by rw [e, nI_clamp (by omega)]; exact hm.2.2.2 i hi j hj
  rw [← e2] at h
  exact h
theorem m_isStored {G : zG} (hG : zGok G) {k' : Nat} (hk : 2 ≤ k') {I : Nat → Nat → Int32} {J : Nat → Nat → Int64} {past : Nat → Nat} {Q : zRt} {π : zPl} (hc : I 306 19 = nI π.2.2.1) (h8 : π.2.2.1 ≤ 8) (i : Int32) (h : Q (some (.int (zb (bSt π i)))) (zK0, I, J, zR0 past)) : zCalls G k' yX12_isStored [.ref 305, .int i] (zK0, I, J, zR0 past) Q := by
  refine rnX12_isStored hG hk 305 i ?_
  refine sgX12_isStored hG [] 60 0 ?_
  refine And.intro (by unfold vp_in; decide) ?_
  refine m_in hG (by decide) _ _ _ ?_
  have e : (if 0 ≤ i ∧ i ≤ I 306 (19 : Int32).toNatClampNeg - 1 then (1 : Int32) else 0) = zb (bSt π i) := by
    rw [show I 306 (19 : Int32).toNatClampNeg = nI π.2.2.1 from hc, z_ifb]
    unfold bSt
    congr 2
    exact decide_eq_decide.mpr (z_pred (by omega) i)
  rw [e]
  exact And.intro (zb_01 _) h
-- ===== a half of a proof =====
def prS (h : Nat) : Int64 := if h = 0 then 1 else -1
def prE (π : zPl) (g : Nat → Int32) (h x : Nat) : Bool := decide ((g (7 + 4 * h)).toInt64 * (pR π (g (5 + h)).toNatClampNeg x).toInt64 * (g (10 + 4 * h)).toInt64 + (if nI x = g 3 then (g (9 + 4 * h)).toInt64 * prS h * (g (8 + 4 * h)).toInt64 else 0) = (g x).toInt64 * (g (8 + 4 * h)).toInt64 * (g (10 + 4 * h)).toInt64)
def prL (π : zPl) (g : Nat → Int32) (h : Nat) : Bool := decide ((g (7 + 4 * h)).toInt64 * (pR π (g (5 + h)).toNatClampNeg 2).toInt64 * (g (10 + 4 * h)).toInt64 + (g (9 + 4 * h)).toInt64 * prS h * (g 4 + nI h).toInt64 * (g (8 + 4 * h)).toInt64 ≤ (g 2).toInt64 * (g (8 + 4 * h)).toInt64 * (g (10 + 4 * h)).toInt64)
def prH (π : zPl) (g : Nat → Int32) (h : Nat) : Bool := (decide (0 ≤ g (5 + h)) && decide (g (5 + h) < nI (π.1 + 4))) && (prE π g h 0 && (prE π g h 1 && prL π g h))
theorem r_1 (u t p s v z : Int64) : u * t * p + s * v * z = u * p * t + s * z * v := by
  rw [Int64.mul_assoc u t p, Int64.mul_comm t p, ← Int64.mul_assoc, Int64.mul_assoc s v z, Int64.mul_comm v z, ← Int64.mul_assoc]
theorem r_2 (u t p s v : Int64) : u * t * p + s * v * 0 = u * p * t + 0 := by
  rw [Int64.mul_assoc u t p, Int64.mul_comm t p, ← Int64.mul_assoc, Int64.mul_zero]
theorem r_3 (u t p s v z c : Int64) : u * t * p + s * v * (z * c) = u * p * t + s * z * c * v := by
  rw [r_1]
  congr 1
  rw [← Int64.mul_assoc s z c]
theorem z_ll (x : Int32) : x.toInt64 < 0 ↔ x < 0 := by rw [Int64.lt_iff_toInt_lt, Int32.lt_iff_toInt_lt, z_i2l, Int64.toInt_zero, Int32.toInt_zero]
theorem z_ll2 (x y : Int32) : x.toInt64 < y.toInt64 ↔ x < y := by rw [Int64.lt_iff_toInt_lt, Int32.lt_iff_toInt_lt, z_i2l, z_i2l]
theorem z_li (x : Int32) : x.toInt64.toInt32 = x := by
  have := lI_i x.toInt
  rw [z_l_eq.mpr (show x.toInt64.toInt = (Int64.ofInt x.toInt).toInt by rw [z_i2l, lI_T (by have := Int32.le_toInt x; have := Int32.toInt_lt x; omega)]), this, ← i_of]
theorem c_halfChecks {G : zG} (hG : zGok G) {k' : Nat} (hk : 3 ≤ k') {I : Nat → Nat → Int32} {J : Nat → Nat → Int64} {past : Nat → Nat} {Q : zRt} {π : zPl} (hc : cPl I J 1 π) (hv : vPl π) {i : Nat} (hi : i < π.2.2.1) (q : Nat) (hq : q = 4 + i) (w2 : Nat.beq (zKd zK0 q).1 15 = true) (w3 : ∀ j, j < 15 → ∀ x : Int32, x = nI j → vp_in x (zKd zK0 q).2) (hf : Nat) (hf2 : hf < 2) (h : Q (some (.int (zb (prH π (π.2.2.2 i) hf)))) (zK0, I, J, zR0 past)) : zCalls G k' yX5_halfChecks [.ref 1, .ref q, .int (nI hf)] (zK0, I, J, zR0 past) Q := by
  have h6 := hv.1.1
  have h8 := hv.2.1
  have hg := hv.2.2 i hi
  have rd : ∀ j, j < 15 → J q j = (π.2.2.2 i (zPerm j)).toInt64 := fun j hj => by have := hc.2.2.2 i hi j hj; rw [show 1 + 3 + i = 4 + i from rfl, ← hq] at this; exact this
  generalize π.2.2.2 i = g at *
  have no : prH π g hf = false → Q (some (.int 0)) (zK0, I, J, zR0 past) := fun e => by rw [e] at h; exact h
  have c4 : (g 4 + nI hf).toInt64 = (g 4).toInt64 + (nI hf).toInt64 := by
    have b4 := vCt_bd hg (j := 4) (by omega)
    have e1 := nI_toInt (n := hf) (by omega)
    have e2 : (g 4 + nI hf).toInt = (g 4).toInt + hf := by rw [z_iadd (by omega) (by omega), e1]
    rw [z_l_eq, z_i2l, e2, z_ladd (by rw [z_i2l, z_i2l]; omega) (by rw [z_i2l, z_i2l]; omega), z_i2l, z_i2l, e1]
  have h01 := hg.2.2
  have r0 := rd 0 (by omega)
  have r1 := rd 1 (by omega)
  have r2 := rd 2 (by omega)
  have r13 := rd 13 (by omega)
  have r14 := rd 14 (by omega)
  have n10 : ¬ nI 1 = nI 0 := by decide
  have n01 : ¬ nI 0 = nI 1 := by decide
  have tail : ∀ (U V S T K : Int64), U = (g (7 + 4 * hf)).toInt64 → V = (g (8 + 4 * hf)).toInt64 → S = (g (9 + 4 * hf)).toInt64 → T = (g (10 + 4 * hf)).toInt64 → K = (g (5 + hf)).toInt64 → 0 ≤ g (5 + hf) → g (5 + hf) < nI (π.1 + 4) → ∀ (o5 o6 : Option Value), aX5_halfChecks G Q 137 [some (.ref 1), some (.ref q), some (.int (nI hf)), some (.long K), none, o5, o6, some (.long (U * T)), none, some (.long (S * V)), none, some (.long (V * T)), none, some (.long (prS hf)), none, some (.long (if g 3 = 0 then prS hf else 0)), none, some (.long (if g 3 = 0 then 0 else prS hf)), none, none, none] [] (zK0, I, J, zR0 past) := by
    intro U V S T K eU eV eS eT eK k0 kn o5 o6
    obtain ⟨n, hn, en⟩ := nI_of (x := g (5 + hf)) (Int32.not_lt.mpr k0)
    have hn2 : n < π.1 + 4 := by rw [en, nI_ltI hn (by omega)] at kn; exact kn
    have eK2 : K.toInt32 = nI n := by rw [eK, z_li, en]
    have eN : (g (5 + hf)).toNatClampNeg = n := by rw [en, nI_clamp (by omega)]
    have hb : (decide (0 ≤ g (5 + hf)) && decide (g (5 + hf) < nI (π.1 + 4))) = true := by rw [decide_eq_true k0, decide_eq_true kn]; rfl
    have E0 : prE π g hf 0 = decide (U * T * (pR π n 0).toInt64 + S * V * (if g 3 = 0 then prS hf else 0) = (g 0).toInt64 * (V * T)) := by
      unfold prE
      rw [eN, ← eU, ← eV, ← eS, ← eT, ← Int64.mul_assoc]
      congr 1
      rcases h01 with z | z
      · rw [if_pos z, if_pos (by rw [z]; rfl), r_1]
      · rw [if_neg (by rw [z]; decide), if_neg (by rw [z]; decide), r_2]
    have E1 : prE π g hf 1 = decide (U * T * (pR π n 1).toInt64 + S * V * (if g 3 = 0 then 0 else prS hf) = (g 1).toInt64 * (V * T)) := by
      unfold prE
      rw [eN, ← eU, ← eV, ← eS, ← eT, ← Int64.mul_assoc]
      congr 1
      rcases h01 with z | z
      · rw [if_pos z, if_neg (by rw [z]; decide), r_2]
      · rw [if_pos (show nI 1 = g 3 by rw [z]; rfl), if_neg (show ¬ g 3 = 0 by rw [z]; decide), r_1]
    have E2 : prL π g hf = decide (U * T * (pR π n 2).toInt64 + S * V * (prS hf * ((g 4).toInt64 + (nI hf).toInt64)) ≤ (g 2).toInt64 * (V * T)) := by
      unfold prL
      rw [eN, ← eU, ← eV, ← eS, ← eT, c4, r_3, Int64.mul_assoc (g 2).toInt64 V T]
    refine sgX5_halfChecks hG [] 100 137 ?_
    refine zB_in w2 (And.intro (w3 14 (by omega) _ rfl) ?_)
    refine z_arg (args' := [.ref 1, .int (nI n), .int (nI 0)]) (by rw [eK2]; rfl) ?_
    refine c_part hG (by decide) (Or.inl rfl) hc h6 n 0 hn2 (by omega) ?_
    refine zB_in w2 (And.intro (w3 0 (by omega) _ rfl) ?_)
    have F0 : J q (0 : Int32).toNatClampNeg = (g 0).toInt64 := r0
    have F1 : J q (1 : Int32).toNatClampNeg = (g 1).toInt64 := r1
    have F2 : J q (2 : Int32).toNatClampNeg = (g 2).toInt64 := r2
    have F4 : J q (14 : Int32).toNatClampNeg = (g 4).toInt64 := r14
    refine And.intro (fun c => ?_) (fun c => ?_)
    · refine And.intro (Or.inl rfl) (no ?_)
      unfold prH
      rw [F0] at c
      rw [E0, decide_eq_false c]; simp
    have c : U * T * (pR π n 0).toInt64 + S * V * (if g 3 = 0 then prS hf else 0) = (g 0).toInt64 * (V * T) := by rw [← F0]; exact c
    refine z_arg (args' := [.ref 1, .int (nI n), .int (nI 1)]) (by rw [eK2]; rfl) ?_
    refine c_part hG (by decide) (Or.inl rfl) hc h6 n 1 hn2 (by omega) ?_
    refine zB_in w2 (And.intro (w3 1 (by omega) _ rfl) ?_)
    refine And.intro (fun d => ?_) (fun d => ?_)
    · refine And.intro (Or.inl rfl) (no ?_)
      unfold prH
      rw [F1] at d
      rw [E1, decide_eq_false d]; simp
    have d : U * T * (pR π n 1).toInt64 + S * V * (if g 3 = 0 then 0 else prS hf) = (g 1).toInt64 * (V * T) := by rw [← F1]; exact d
    refine z_arg (args' := [.ref 1, .int (nI n), .int (nI 2)]) (by rw [eK2]; rfl) ?_
    refine c_part hG (by decide) (Or.inl rfl) hc h6 n 2 hn2 (by omega) ?_
    refine zB_in w2 (And.intro (w3 2 (by omega) _ rfl) ?_)
    refine And.intro (fun e => ?_) (fun e => ?_)
    · refine And.intro (Or.inl rfl) (no ?_)
      unfold prH
      rw [F2, F4] at e
      rw [E2, decide_eq_false (Int64.not_le.mpr e)]; simp
    · refine And.intro (Or.inr rfl) ?_
      rw [F2, F4] at e
      have : prH π g hf = true := by
        unfold prH
        rw [hb, E0, E1, E2, decide_eq_true c, decide_eq_true d, decide_eq_true (Int64.not_lt.mp e)]; rfl
      rw [this] at h
      exact h
  have hway : J q (13 : Int32).toNatClampNeg = (g 3).toInt64 := r13
  have way0 : J q (13 : Int32).toNatClampNeg = 0 ↔ g 3 = 0 := by
    rw [hway]
    rcases h01 with z | z
    · rw [z]; decide
    · rw [z]; decide
  have e4 : (nI (π.1 + 4)).toInt64 = (nI (π.1 + 4)).toInt64 := rfl
  rcases (show hf = 0 ∨ hf = 1 by omega) with rfl | rfl
  · refine rnX5_halfChecks hG hk 1 q _ ?_
    refine sgX5_halfChecks hG [137] 150 0 ?_
    refine zB_in w2 (And.intro (w3 3 (by omega) _ (by decide)) ?_)
    have eI : J q ((3 : Int32) + nI 0).toNatClampNeg = (g 5).toInt64 := rd 3 (by omega)
    refine And.intro (fun c => ?_) (fun c => ?_)
    · refine And.intro (Or.inl rfl) (no ?_)
      unfold prH
      rw [eI, z_ll] at c
      rw [decide_eq_false (Int32.not_le.mpr c)]; rfl
    rw [eI, z_ll] at c
    refine c_allRows hG (by decide) (π := π) (Or.inl rfl) hc.1 ?_
    refine And.intro (fun d => ?_) (fun d => ?_)
    · rw [eI, z_ll2] at d
      refine And.intro (fun c => absurd rfl c) (fun _ => ?_)
      refine And.intro (fun c => absurd rfl c) (fun _ => ?_)
      refine zB_in w2 (And.intro (w3 5 (by omega) _ (by decide)) ?_)
      refine zB_in w2 (And.intro (w3 8 (by omega) _ (by decide)) ?_)
      refine zB_in w2 (And.intro (w3 7 (by omega) _ (by decide)) ?_)
      refine zB_in w2 (And.intro (w3 6 (by omega) _ (by decide)) ?_)
      refine zB_in w2 (And.intro (w3 6 (by omega) _ (by decide)) ?_)
      refine zB_in w2 (And.intro (w3 8 (by omega) _ (by decide)) ?_)
      refine And.intro (fun c => absurd rfl c) (fun _ => ?_)
      refine zB_in w2 (And.intro (w3 13 (by omega) _ (by decide)) ?_)
      have t := tail (J q (5 : Int32).toNatClampNeg) (J q ((5 : Int32) + 1).toNatClampNeg) (J q (7 : Int32).toNatClampNeg) (J q ((7 : Int32) + 1).toNatClampNeg) (J q ((3 : Int32) + nI 0).toNatClampNeg) (rd 5 (by omega)) (rd 6 (by omega)) (rd 7 (by omega)) (rd 8 (by omega)) eI (Int32.not_lt.mp c) d (some (.int 5)) (some (.int 7))
      refine And.intro (fun w => ?_) (fun w => ?_)
      · rw [way0] at w
        refine zB_in w2 (And.intro (w3 13 (by omega) _ (by decide)) ?_)
        rw [if_neg w, if_neg w] at t
        exact And.intro (fun _ => t) (fun w2 => absurd (way0.mp w2) w)
      · rw [way0] at w
        refine zB_in w2 (And.intro (w3 13 (by omega) _ (by decide)) ?_)
        rw [if_pos w, if_pos w] at t
        exact And.intro (fun w2 => absurd (way0.mpr w) w2) (fun _ => t)
    · refine And.intro (Or.inl rfl) (no ?_)
      unfold prH
      rw [eI, z_ll2] at d
      rw [decide_eq_false d]; simp
  · refine rnX5_halfChecks hG hk 1 q _ ?_
    refine sgX5_halfChecks hG [137] 150 0 ?_
    refine zB_in w2 (And.intro (w3 4 (by omega) _ (by decide)) ?_)
    have eI : J q ((3 : Int32) + nI 1).toNatClampNeg = (g 6).toInt64 := rd 4 (by omega)
    refine And.intro (fun c => ?_) (fun c => ?_)
    · refine And.intro (Or.inl rfl) (no ?_)
      unfold prH
      rw [eI, z_ll] at c
      rw [decide_eq_false (Int32.not_le.mpr c)]; rfl
    rw [eI, z_ll] at c
    refine c_allRows hG (by decide) (π := π) (Or.inl rfl) hc.1 ?_
    refine And.intro (fun d => ?_) (fun d => ?_)
    · rw [eI, z_ll2] at d
      refine And.intro (fun _ => ?_) (fun c => absurd c (by decide))
      refine And.intro (fun _ => ?_) (fun c => absurd c (by decide))
      refine zB_in w2 (And.intro (w3 9 (by omega) _ (by decide)) ?_)
      refine zB_in w2 (And.intro (w3 12 (by omega) _ (by decide)) ?_)
      refine zB_in w2 (And.intro (w3 11 (by omega) _ (by decide)) ?_)
      refine zB_in w2 (And.intro (w3 10 (by omega) _ (by decide)) ?_)
      refine zB_in w2 (And.intro (w3 10 (by omega) _ (by decide)) ?_)
      refine zB_in w2 (And.intro (w3 12 (by omega) _ (by decide)) ?_)
      refine And.intro (fun _ => ?_) (fun c => absurd c (by decide))
      refine zB_in w2 (And.intro (w3 13 (by omega) _ (by decide)) ?_)
      have t := tail (J q (9 : Int32).toNatClampNeg) (J q ((9 : Int32) + 1).toNatClampNeg) (J q (11 : Int32).toNatClampNeg) (J q ((11 : Int32) + 1).toNatClampNeg) (J q ((3 : Int32) + nI 1).toNatClampNeg) (rd 9 (by omega)) (rd 10 (by omega)) (rd 11 (by omega)) (rd 12 (by omega)) eI (Int32.not_lt.mp c) d (some (.int 9)) (some (.int 11))
      refine And.intro (fun w => ?_) (fun w => ?_)
      · rw [way0] at w
        refine zB_in w2 (And.intro (w3 13 (by omega) _ (by decide)) ?_)
        rw [if_neg w, if_neg w] at t
        exact And.intro (fun _ => t) (fun w2 => absurd (way0.mp w2) w)
      · rw [way0] at w
        refine zB_in w2 (And.intro (w3 13 (by omega) _ (by decide)) ?_)
        rw [if_pos w, if_pos w] at t
        exact And.intro (fun w2 => absurd (way0.mpr w) w2) (fun _ => t)
    · refine And.intro (Or.inl rfl) (no ?_)
      unfold prH
      rw [eI, z_ll2] at d
      rw [decide_eq_false d]; simp
theorem c_proofChecks {G : zG} (hG : zGok G) {k' : Nat} (hk : 4 ≤ k') {I : Nat → Nat → Int32} {J : Nat → Nat → Int64} {past : Nat → Nat} {Q : zRt} {π : zPl} (hc : cPl I J 1 π) (hv : vPl π) {i : Nat} (hi : i < π.2.2.1) (h : Q (some (.int (zb (prH π (π.2.2.2 i) 0 && prH π (π.2.2.2 i) 1)))) (zK0, I, J, zR0 past)) : zCalls G k' yX5_proofChecks [.ref 1, .int (nI i)] (zK0, I, J, zR0 past) Q := by
  have h8 := hv.2.1
  obtain ⟨q, hq, w1, w2, w3⟩ := cCt (past := past) (i := i) (by omega)
  refine rnX5_proofChecks hG hk 1 _ ?_
  refine sgX5_proofChecks hG [] 60 0 ?_
  refine c_hasCut hG (by decide) (π := π) hc.2.1 h8 _ ?_
  rw [bSt_n hi h8]
  refine And.intro (fun c => absurd c (by decide)) (fun _ => ?_)
  refine And.intro (by exact vp_in_nI (by omega) (by omega)) ⟨q, w1, ?_⟩
  refine c_halfChecks hG (by decide) hc hv hi q hq w2 w3 0 (by omega) ?_
  refine And.intro (fun c => ?_) (fun c => ?_)
  · have c := (zb_eq0 _).mp c
    rw [c] at h
    exact And.intro (Or.inl rfl) h
  have c := z_nb1 (x := 0) c
  refine And.intro (by exact vp_in_nI (by omega) (by omega)) ⟨q, w1, ?_⟩
  refine c_halfChecks hG (by decide) hc hv hi q hq w2 w3 1 (by omega) ?_
  refine And.intro (fun d => ?_) (fun d => ?_)
  · have d := (zb_eq0 _).mp d
    rw [c, d] at h
    exact And.intro (Or.inl rfl) h
  have d := z_nb1 (x := 0) d
  rw [c, d] at h
  exact And.intro (Or.inr rfl) h
