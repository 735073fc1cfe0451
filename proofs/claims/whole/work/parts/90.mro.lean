-- ===== row and told, of the model =====
def bRo (π : zPl) (k w : Int32) : Bool := decide (0 ≤ k ∧ k ≤ nI (π.1 + 3)) && decide (0 ≤ w ∧ w ≤ 2)
def bTo (n : Nat) (i : Int32) : Bool := decide (0 ≤ i ∧ i ≤ nI n - 1)
theorem bRo_in {π : zPl} (h6 : π.1 ≤ 6) {k w : Int32} (h : bRo π k w = true) : ∃ a b, a < π.1 + 4 ∧ b < 3 ∧ k = nI a ∧ w = nI b := by
  unfold bRo at h
  rw [Bool.and_eq_true, decide_eq_true_eq, decide_eq_true_eq] at h
  obtain ⟨⟨k1, k2⟩, w1, w2⟩ := h
  obtain ⟨a, ha, rfl⟩ := nI_of (Int32.not_lt.mpr k1)
  obtain ⟨b, hb, rfl⟩ := nI_of (Int32.not_lt.mpr w1)
  rw [nI_leI ha (by omega)] at k2
  rw [show (2 : Int32) = nI 2 from rfl, nI_leI hb (by omega)] at w2
  exact ⟨a, b, by omega, by omega, rfl, rfl⟩
theorem bTo_in {n : Nat} (h40 : n ≤ 40) {i : Int32} (h : bTo n i = true) : ∃ a, a < n ∧ i = nI a := by
  unfold bTo at h
  rw [decide_eq_true_eq] at h
  obtain ⟨k1, k2⟩ := h
  obtain ⟨a, ha, rfl⟩ := nI_of (Int32.not_lt.mpr k1)
  cases n with
  | zero =>
    exfalso
    rw [show (nI 0 - 1 : Int32) = -1 from rfl] at k2
    exact absurd (Int32.le_trans k1 k2) (by decide)
  | succ n =>
    rw [show (nI (n + 1) - 1 : Int32) = nI n by rw [← nI_1, Int32.add_sub_cancel], nI_leI ha (by omega)] at k2
    exact ⟨a, by omega, rfl⟩
theorem m_thrown {G : zG} (hG : zGok G) {k' : Nat} (hk : 1 ≤ k') {I : Nat → Nat → Int32} {J : Nat → Nat → Int64} {past : Nat → Nat} {Q : zRt} (h : Q (some (.int (I 305 5))) (zK0, I, J, zR0 past)) : zCalls G k' yX12_thrown [.ref 305] (zK0, I, J, zR0 past) Q := by
  refine rnX12_thrown hG hk 305 ?_
  refine sgX12_thrown hG [] 40 0 ?_
  exact h
theorem m_lost {G : zG} (hG : zGok G) {k' : Nat} (hk : 1 ≤ k') {I : Nat → Nat → Int32} {J : Nat → Nat → Int64} {past : Nat → Nat} {Q : zRt} (h : Q (some (.int 0)) (zK0, z_upI I 305 5 1, J, zR0 past)) : zCalls G k' yX12_lost [.ref 305] (zK0, I, J, zR0 past) Q := by
  refine rnX12_lost hG hk 305 ?_
  refine sgX12_lost hG [] 40 0 ?_
  exact h
theorem mFr_thr {I : Nat → Nat → Int32} {J : Nat → Nat → Int64} (v : Int32) : mFr I J (z_upI I 305 5 v) J := fun x hx => ⟨z_upI_ne (by omega), rfl⟩
theorem mFr_thr2 {I : Nat → Nat → Int32} {J : Nat → Nat → Int64} (v w : Int32) : mFr I J (z_upI (z_upI I 305 5 v) 305 5 w) J := fun x hx => ⟨by rw [z_upI_ne (by omega), z_upI_ne (by omega)], rfl⟩
theorem m_row {G : zG} (hG : zGok G) {k' : Nat} (hk : 2 ≤ k') {I : Nat → Nat → Int32} {J : Nat → Nat → Int64} {past : Nat → Nat} {Q : zRt} {S : zS} (hS : mSt I J S) (hv : vS S) (k w : Int32) (h : ∀ I', mSt I' J S → mFr I J I' J → I' 305 5 = zb (!bRo S.1 k w) → Q (some (.int (if bRo S.1 k w then pR S.1 k.toNatClampNeg w.toNatClampNeg else 0))) (zK0, I', J, zR0 past)) : zCalls G k' yX12_row [.ref 305, .int k, .int w] (zK0, I, J, zR0 past) Q := by
  have hS0 := mSt_thr (v := 0) hS
  have h6 := hv.1.1.1
  have no : bRo S.1 k w = false → Q (some (.int 0)) (zK0, z_upI (z_upI I 305 5 0) 305 5 1, J, zR0 past) := fun e => by
    have := h _ (mSt_thr (v := 1) hS0) (mFr_thr2 0 1) (by rw [e, uI_s]; rfl)
    rw [e] at this
    exact this
  refine rnX12_row hG hk 305 k w ?_
  refine sgX12_row hG [] 60 0 ?_
  refine m_lines2 hG (by decide) (π := S.1) hS0.1 ?_
  refine m_in hG (by decide) _ _ _ ?_
  rw [zb_if]
  have e3 : (nI (S.1.1 + 4) - 1 : Int32) = nI (S.1.1 + 3) := by rw [← nI_1, Int32.add_sub_cancel]
  rw [e3]
  refine And.intro (fun c => ?_) (fun c => ?_)
  · have c := (zb_eq0 _).mp c
    refine m_lost hG (by decide) ?_
    exact no (by unfold bRo; rw [c, Bool.false_and])
  · have c1 := z_nb1 (x := 0) c
    refine m_in hG (by decide) _ _ _ ?_
    rw [zb_if]
    refine And.intro (fun c => ?_) (fun c => ?_)
    · have c := (zb_eq0 _).mp c
      refine m_lost hG (by decide) ?_
      exact no (by unfold bRo; rw [c, Bool.and_false])
    · have c2 := z_nb1 (x := 0) c
      have e : bRo S.1 k w = true := by unfold bRo; rw [c1, c2]; rfl
      have q := h _ hS0 (mFr_thr 0) (by rw [e, uI_s]; rfl)
      rw [e] at q
      obtain ⟨a, b, ha, hb, rfl, rfl⟩ := bRo_in h6 e
      rw [nI_clamp (by omega), nI_clamp (by omega)] at q
      exact m_of hG (by decide) hS0.1 h6 a b ha hb q
theorem m_told {G : zG} (hG : zGok G) {k' : Nat} (hk : 2 ≤ k') {I : Nat → Nat → Int32} {J : Nat → Nat → Int64} {past : Nat → Nat} {Q : zRt} {S : zS} (hS : mSt I J S) (hv : vS S) (i : Int32) (h : ∀ I', mSt I' J S → mFr I J I' J → I' 305 5 = zb (!bTo S.2.2.2.2.1 i) → Q (some (.long (if bTo S.2.2.2.2.1 i then S.2.2.2.2.2 i.toNatClampNeg else 0))) (zK0, I', J, zR0 past)) : zCalls G k' yX12_told [.ref 305, .int i] (zK0, I, J, zR0 past) Q := by
  have hS0 := mSt_thr (v := 0) hS
  have h40 := hv.2.2.2.2
  have e4 : z_upI I 305 5 0 305 4 = nI S.2.2.2.2.1 := hS0.2.2.2.2.1
  refine rnX12_told hG hk 305 i ?_
  refine sgX12_told hG [] 60 0 ?_
  refine m_in hG (by decide) _ _ _ ?_
  rw [zb_if, e4]
  refine And.intro (fun c => ?_) (fun c => ?_)
  · have c := (zb_eq0 _).mp c
    refine m_lost hG (by decide) ?_
    have e : bTo S.2.2.2.2.1 i = false := c
    have := h _ (mSt_thr (v := 1) hS0) (mFr_thr2 0 1) (by rw [e, uI_s]; rfl)
    rw [e] at this
    exact this
  · have c1 := z_nb1 (x := 0) c
    have e : bTo S.2.2.2.2.1 i = true := c1
    have q := h _ hS0 (mFr_thr 0) (by rw [e, uI_s]; rfl)
    rw [e] at q
    obtain ⟨a, ha, rfl⟩ := bTo_in h40 e
    rw [nI_clamp (by omega)] at q
    have e8 : J 308 a = S.2.2.2.2.2 a := hS0.2.2.2.2.2 a ha
    refine And.intro (vp_in_nI (by omega) (by omega)) ?_
    rw [nI_clamp (by omega), e8]
    exact q
