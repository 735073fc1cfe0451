-- ===== row and told, of the class =====
theorem bRo_k {π : zPl} {k w : Int32} (h : k < 0) : bRo π k w = false := by
  unfold bRo
  rw [Bool.and_eq_false_iff, decide_eq_false_iff_not]
  exact Or.inl (fun q => absurd q.1 (Int32.not_le.mpr h))
theorem bRo_K {π : zPl} (h6 : π.1 ≤ 6) {k w : Int32} (h : nI (π.1 + 4) ≤ k) : bRo π k w = false := by
  unfold bRo
  rw [Bool.and_eq_false_iff, decide_eq_false_iff_not]
  refine Or.inl (fun q => ?_)
  have := Int32.le_trans h q.2
  rw [nI_leI (by omega) (by omega)] at this
  omega
theorem bRo_w {π : zPl} {k w : Int32} (h : w < 0) : bRo π k w = false := by
  unfold bRo
  rw [Bool.and_eq_false_iff, decide_eq_false_iff_not, decide_eq_false_iff_not]
  exact Or.inr (fun q => absurd q.1 (Int32.not_le.mpr h))
theorem bRo_W {π : zPl} {k w : Int32} (h : ¬ w ≤ 2) : bRo π k w = false := by
  unfold bRo
  rw [Bool.and_eq_false_iff, decide_eq_false_iff_not, decide_eq_false_iff_not]
  exact Or.inr (fun q => h q.2)
theorem bRo_y {π : zPl} (h6 : π.1 ≤ 6) {k w : Int32} (a : ¬ k < 0) (b : ¬ nI (π.1 + 4) ≤ k) (c : ¬ w < 0) (d : w ≤ 2) : bRo π k w = true := by
  unfold bRo
  rw [Bool.and_eq_true, decide_eq_true_eq, decide_eq_true_eq]
  refine ⟨⟨Int32.not_lt.mp a, ?_⟩, Int32.not_lt.mp c, d⟩
  obtain ⟨j, hj, rfl⟩ := nI_of a
  rw [nI_leI (by omega) hj] at b
  rw [nI_leI hj (by omega)]
  omega
theorem bTo_k {n : Nat} {i : Int32} (h : i < 0) : bTo n i = false := by
  unfold bTo
  rw [decide_eq_false_iff_not]
  exact fun q => absurd q.1 (Int32.not_le.mpr h)
theorem bTo_K {n : Nat} (h40 : n ≤ 40) {i : Int32} (h : ¬ i < nI n) : bTo n i = false := by
  cases e : bTo n i with
  | false => rfl
  | true =>
    obtain ⟨a, ha, rfl⟩ := bTo_in h40 e
    rw [nI_ltI (by omega) (by omega)] at h
    exact absurd ha h
theorem bTo_y {n : Nat} (h40 : n ≤ 40) {i : Int32} (a : ¬ i < 0) (b : i < nI n) : bTo n i = true := by
  obtain ⟨j, hj, rfl⟩ := nI_of a
  rw [nI_ltI hj (by omega)] at b
  unfold bTo
  rw [decide_eq_true_eq]
  refine ⟨Int32.not_lt.mp a, ?_⟩
  cases n with
  | zero => omega
  | succ n =>
    rw [show (nI (n + 1) - 1 : Int32) = nI n by rw [← nI_1, Int32.add_sub_cancel], nI_leI hj (by omega)]
    omega
theorem c_rowX {G : zG} (hT : zTok G) (hG : zGok G) {I : Nat → Nat → Int32} {J : Nat → Nat → Int64} {past : Nat → Nat} {S : zS} (hS : cSt I J past S) (hv : vS S) (k w : Int32) : vx_Met (zgL G) yX11_row (Cond.code yX11_row cX11_row 3 (some .int) :: zWs) zRx (zPre G [.ref 0, .int k, .int w] (zK0, I, J, zR0 past)) (zQc G (fun r σ => bRo S.1 k w = true ∧ r = some (.int (pR S.1 k.toNatClampNeg w.toNatClampNeg)) ∧ σ = (zK0, I, J, zR0 past))) (zXC G (fun σ => bRo S.1 k w = false ∧ σ = (zK0, I, J, zR0 past))) 1 6 (zA G) := by
  have h6 := hv.1.1.1
  refine zMethodX (by decide +kernel) cdX11_row _ rfl (Nat.le_of_ble_eq_true rfl) ?_
  refine zStep (pkX11_row hT hG _ _) [] 60 0 ?_
  refine And.intro (fun c => ⟨bRo_k c, rfl⟩) (fun c1 => ?_)
  refine c_allRows hG (by decide) (π := S.1) (Or.inl rfl) hS.1.1 ?_
  refine And.intro (fun c => ⟨bRo_K h6 c, rfl⟩) (fun c2 => ?_)
  refine And.intro (fun c => ⟨bRo_w c, rfl⟩) (fun c3 => ?_)
  refine And.intro (fun c4 => ?_) (fun c => ⟨bRo_W c, rfl⟩)
  have e := bRo_y h6 c1 c2 c3 c4
  obtain ⟨a, b, ha, hb, rfl, rfl⟩ := bRo_in h6 e
  refine c_part hG (by decide) (Or.inl rfl) hS.1 h6 a b ha hb ?_
  refine ⟨e, ?_, rfl⟩
  rw [nI_clamp (by omega), nI_clamp (by omega)]
theorem c_nAt {G : zG} (hG : zGok G) {k' : Nat} (hk : 1 ≤ k') {I : Nat → Nat → Int32} {J : Nat → Nat → Int64} {past : Nat → Nat} {Q : zRt} {n a : Nat} (hn : I 128 0 = nI n) (h40 : n ≤ 40) (ha : a < n) (h : Q (some (.long (J 129 a))) (zK0, I, J, zR0 past)) : zCalls G k' yX4_at [.ref 128, .int (nI a)] (zK0, I, J, zR0 past) Q := by
  refine rnX4_at hG hk 128 (nI a) ?_
  refine sgX4_at hG [] 60 0 ?_
  refine And.intro (fun c => absurd c (nI_pos (by omega))) (fun _ => ?_)
  refine And.intro (fun c => ?_) (fun _ => ?_)
  · rw [show I 128 0 = nI n from hn, nI_leI (by omega) (by omega)] at c
    omega
  refine And.intro (fun q => absurd q (by rw [show Int32.ofNat 98 = nI 98 from rfl, nI_leI (by omega) (by omega)]; omega)) (fun _ => ?_)
  refine And.intro (vp_in_nI (by omega) (by omega)) ?_
  rw [nI_clamp (by omega)]
  exact h
theorem c_toldX {G : zG} (hT : zTok G) (hG : zGok G) {I : Nat → Nat → Int32} {J : Nat → Nat → Int64} {past : Nat → Nat} {S : zS} (hS : cSt I J past S) (hv : vS S) (i : Int32) : vx_Met (zgL G) yX11_told (Cond.code yX11_told cX11_told 2 (some .long) :: zWs) zRx (zPre G [.ref 0, .int i] (zK0, I, J, zR0 past)) (zQc G (fun r σ => bTo S.2.2.2.2.1 i = true ∧ r = some (.long (S.2.2.2.2.2 i.toNatClampNeg)) ∧ σ = (zK0, I, J, zR0 past))) (zXC G (fun σ => bTo S.2.2.2.2.1 i = false ∧ σ = (zK0, I, J, zR0 past))) 1 6 (zA G) := by
  have h40 := hv.2.2.2.2
  have e0 : I 128 0 = nI S.2.2.2.2.1 := hS.2.2.2.2.1
  refine zMethodX (by decide +kernel) cdX11_told _ rfl (Nat.le_of_ble_eq_true rfl) ?_
  refine zStep (pkX11_told hT hG _ _) [] 60 0 ?_
  refine And.intro (fun c => ⟨bTo_k c, rfl⟩) (fun c1 => ?_)
  refine And.intro (fun c2 => ?_) (fun c => ?_)
  · rw [e0] at c2
    have e := bTo_y h40 c1 c2
    obtain ⟨a, ha, rfl⟩ := bTo_in h40 e
    refine c_nAt hG (by decide) e0 h40 ha ?_
    refine ⟨e, ?_, rfl⟩
    rw [nI_clamp (by omega), show J 129 a = S.2.2.2.2.2 a from hS.2.2.2.2.2.1 a ha]
  · rw [e0] at c
    exact ⟨bTo_K h40 c, rfl⟩
