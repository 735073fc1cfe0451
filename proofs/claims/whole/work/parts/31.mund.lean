-- ===== undo, keep, again, sign, end of the model =====
theorem m_undo {G : zG} (hG : zGok G) {k' : Nat} (hk : 1 ≤ k') {I : Nat → Nat → Int32} {J : Nat → Nat → Int64} {past : Nat → Nat} {Q : zRt} {S : zS} (hS : mSt I J S) (hv : vS S) (h : ∀ I', mSt I' J (sUnd S).2 → mFr I J I' J → Q (some (.int (sUnd S).1)) (zK0, I', J, zR0 past)) : zCalls G k' yX12_undo [.ref 305] (zK0, I, J, zR0 past) Q := by
  obtain ⟨v6, v8, vh, vn⟩ := vS_6 hv
  have hS0 := mSt_thr (v := 0) hS
  have e13 : I 305 13 = nI S.2.1.1 := hS.2.1.1
  refine rnX12_undo hG hk 305 ?_
  refine sgX12_undo hG [26] 60 0 ?_
  refine And.intro (fun c => ?_) (fun c => ?_)
  · have c : ¬ nI S.2.1.1 = nI 0 := by rw [← e13]; exact c
    rw [nI_eq (by omega) (by omega)] at c
    have e : sUnd S = (nI (S.2.1.1 - 1), (S.2.1.2 (S.2.1.1 - 1), (S.2.1.1 - 1, S.2.1.2), S.2.2)) := if_neg c
    rw [e] at h
    have vq := vh (S.2.1.1 - 1) (by omega)
    have em : I 305 13 - 1 = nI (S.2.1.1 - 1) := by rw [e13, show (1 : Int32) = nI 1 from rfl, pk_sub (by omega)]
    have loop : ∀ (r i : Nat) (v : Int32) (I' : Nat → Nat → Int32), v = nI i → i + r = 140 → (∀ x, x ≠ 305 → x ≠ 306 → I' x = I x) → (∀ j, j ≠ 5 → j ≠ 13 → I' 305 j = I 305 j) → I' 305 13 = nI (S.2.1.1 - 1) → (∀ j, j < i → I' 306 j = I 310 (140 * (S.2.1.1 - 1) + j)) → aX12_undo G Q 26 [some (.ref 305), some (.int v)] [] (zK0, I', J, zR0 past) := by
      intro r
      induction r with
      | zero =>
        intro i v I' ev hir g1 g2 g3 g4
        subst ev
        have e : i = 140 := by omega
        subst e
        refine sgX12_undo hG [26] 60 26 ?_
        refine And.intro (fun _ => ?_) (fun c => absurd (by decide) c)
        obtain ⟨h1, h2, h3, h4, h5⟩ := hS
        have k := h I' ⟨mPl_seg (h2.2 (S.2.1.1 - 1) (by omega)) vq.1 vq.2 (fun j hj => by rw [Nat.zero_add]; exact g4 j hj), ⟨g3, fun i hi => mPl_fr (h2.2 i (by have hi : i < S.2.1.1 - 1 := hi; omega)) (g1 310 (by decide) (by decide))⟩, mKep_fr h3 (g1 319 (by decide) (by decide)) (g1 318 (by decide) (by decide)), mTxt_fr h4 (g2 2 (by decide) (by decide)) (g1 307 (by decide) (by decide)), mNum_fr h5 (g2 4 (by decide) (by decide)) rfl⟩ (fun x hx => ⟨g1 x (by omega) (by omega), rfl⟩)
        rw [← g3] at k
        exact k
      | succ r ih =>
        intro i v I' ev hir g1 g2 g3 g4
        subst ev
        have en : (nI i).toNatClampNeg = i := nI_clamp (by omega)
        have ei : (140 : Int32) * I' 305 13 + nI i = nI (140 * (S.2.1.1 - 1) + i) := by rw [g3, show (140 : Int32) = nI 140 from rfl, pk_mul, nI_add]
        have ec : ((140 : Int32) * I' 305 13 + nI i).toNatClampNeg = 140 * (S.2.1.1 - 1) + i := by rw [ei, nI_clamp (by omega)]
        refine sgX12_undo hG [26] 60 26 ?_
        refine And.intro (fun c => absurd c (by rw [show (140 : Int32) = nI 140 from rfl, nI_leI (by omega) (by omega)]; omega)) (fun _ => ?_)
        refine And.intro (by rw [ei]; exact vp_in_nI (by omega) (by omega)) ?_
        refine And.intro (by exact vp_in_nI (by omega) (by omega)) ?_
        rw [en, ec]
        refine ih (i + 1) _ _ (by rw [nI_1]) (by omega) (fun x a b => by rw [z_upI_ne b]; exact g1 x a b) (fun j a b => by rw [z_upI_ne (by decide)]; exact g2 j a b) (by rw [z_upI_ne (by decide)]; exact g3) (fun j hj => ?_)
        by_cases x : j = i
        · subst x; rw [uI_s, g1 310 (by decide) (by decide)]
        · rw [uI_k x]; exact g4 j (by omega)
    refine loop 140 0 0 _ rfl (by omega) (fun x a b => by rw [z_upI_ne a, z_upI_ne a]) (fun j a b => by rw [uI_k b, uI_k a]) (by rw [uI_s]; exact em) (fun j hj => absurd hj (Nat.not_lt_zero j))
  · have c : nI S.2.1.1 = nI 0 := by rw [← e13]; exact c
    rw [nI_eq (by omega) (by omega)] at c
    have e : sUnd S = (-1, S) := if_pos c
    rw [e] at h
    exact h _ hS0 (fun x hx => ⟨z_upI_ne (by omega), rfl⟩)
theorem z_two {i : Int32} : (if (0 : Int32) ≤ i ∧ i ≤ 1 then (1 : Int32) else 0) = zb (bTwo i) := by
  rw [z_ifb]
  unfold bTwo
  congr 2
  exact decide_eq_decide.mpr (z_pred (n := 2) (by omega) i)
theorem m_keep {G : zG} (hG : zGok G) {k' : Nat} (hk : 2 ≤ k') {I : Nat → Nat → Int32} {J : Nat → Nat → Int64} {past : Nat → Nat} {Q : zRt} {S : zS} (hS : mSt I J S) (hv : vS S) (i : Int32) (h : ∀ I', mSt I' J (sKee S i).2 → mFr I J I' J → Q (some (.int (sKee S i).1)) (zK0, I', J, zR0 past)) : zCalls G k' yX12_keep [.ref 305, .int i] (zK0, I, J, zR0 past) Q := by
  obtain ⟨v6, v8, vh, vn⟩ := vS_6 hv
  have hS0 := mSt_thr (v := 0) hS
  refine rnX12_keep hG hk 305 i ?_
  refine sgX12_keep hG [25] 60 0 ?_
  refine m_in hG (by decide) _ _ _ ?_
  rw [z_two]
  refine And.intro (fun c => ?_) (fun c => ?_)
  · have t := z_nb1 (x := 0) c
    obtain ⟨n, hn, rfl⟩ := bTwo_in t
    have en : (nI n).toNatClampNeg = n := nI_clamp (by omega)
    have e2 : sKee S (nI n) = (1, (S.1, S.2.1, ((fun j => if j = n then true else S.2.2.1.1 j), va_up S.2.2.1.2 n S.1), S.2.2.2)) := by unfold sKee; rw [t, en]; rfl
    rw [e2] at h
    have loop : ∀ (r i : Nat) (v : Int32) (I' : Nat → Nat → Int32), v = nI i → i + r = 140 → (∀ x, x ≠ 305 → x ≠ 318 → x ≠ 319 → I' x = I x) → (∀ j, j ≠ 5 → I' 305 j = I 305 j) → (∀ j, j < 2 → I' 319 j = if j = n then 1 else I 319 j) → (∀ j, j < 280 → I' 318 j = if 140 * n ≤ j ∧ j < 140 * n + i then I 306 (j - 140 * n) else I 318 j) → aX12_keep G Q 25 [some (.ref 305), some (.int (nI n)), some (.int v)] [] (zK0, I', J, zR0 past) := by
      intro r
      induction r with
      | zero =>
        intro i v I' ev hir g1 g2 g3 g4
        subst ev
        have e : i = 140 := by omega
        subst e
        refine sgX12_keep hG [25] 60 25 ?_
        refine And.intro (fun _ => ?_) (fun c => absurd (by decide) c)
        refine And.intro (Or.inr rfl) ?_
        obtain ⟨h1, h2, h3, h4, h5⟩ := hS
        refine h I' ⟨mPl_fr h1 (g1 306 (by decide) (by decide) (by decide)), mHis_fr h2 (g2 13 (by decide)) (g1 310 (by decide) (by decide) (by decide)), fun j hj => ?_, mTxt_fr h4 (g2 2 (by decide)) (g1 307 (by decide) (by decide) (by decide)), mNum_fr h5 (g2 4 (by decide)) rfl⟩ (fun x hx => ⟨g1 x (by omega) (by omega) (by omega), rfl⟩)
        show I' 319 j = zb (if j = n then true else S.2.2.1.1 j) ∧ ((if j = n then true else S.2.2.1.1 j) = true → mPl I' 318 (140 * j) (va_up S.2.2.1.2 n S.1 j))
        rw [g3 j hj]
        by_cases x : j = n
        · subst x
          rw [if_pos rfl, if_pos rfl, va_up_self]
          refine ⟨rfl, fun _ => mPl_seg h1 v6 v8 (fun k hk => ?_)⟩
          rw [g4 _ (by omega), if_pos (by omega), show 140 * j + k - 140 * j = 0 + k by omega]
        · rw [if_neg x, if_neg x, va_up_ne2 x]
          refine ⟨(h3 j hj).1, fun c => mPl_seg ((h3 j hj).2 c) (hv.2.2.1 j hj c).1.1 (hv.2.2.1 j hj c).2.1 (fun k hk => ?_)⟩
          rw [g4 _ (by omega), if_neg (by omega)]
      | succ r ih =>
        intro i v I' ev hir g1 g2 g3 g4
        subst ev
        have en : (nI i).toNatClampNeg = i := nI_clamp (by omega)
        have ei : (140 : Int32) * nI n + nI i = nI (140 * n + i) := by rw [show (140 : Int32) = nI 140 from rfl, pk_mul, nI_add]
        have ec : ((140 : Int32) * nI n + nI i).toNatClampNeg = 140 * n + i := by rw [ei, nI_clamp (by omega)]
        refine sgX12_keep hG [25] 60 25 ?_
        refine And.intro (fun c => absurd c (by rw [show (140 : Int32) = nI 140 from rfl, nI_leI (by omega) (by omega)]; omega)) (fun _ => ?_)
        refine And.intro (by exact vp_in_nI (by omega) (by omega)) ?_
        refine And.intro (by rw [ei]; exact vp_in_nI (by omega) (by omega)) ?_
        rw [en, ec]
        refine ih (i + 1) _ _ (by rw [nI_1]) (by omega) (fun x a b c => by rw [z_upI_ne b]; exact g1 x a b c) (fun j a => by rw [z_upI_ne (by decide)]; exact g2 j a) (fun j hj => by rw [z_upI_ne (by decide)]; exact g3 j hj) (fun j hj => ?_)
        by_cases x : j = 140 * n + i
        · subst x; rw [uI_s, if_pos (by omega), g1 306 (by decide) (by decide) (by decide), show 140 * n + i - 140 * n = i by omega]
        · rw [uI_k x, g4 j hj]
          by_cases y : 140 * n ≤ j ∧ j < 140 * n + i
          · rw [if_pos y, if_pos (by omega)]
          · rw [if_neg y, if_neg (by omega)]
    refine And.intro (by exact vp_in_nI (by omega) (by omega)) ?_
    rw [en]
    refine loop 140 0 0 _ rfl (by omega) (fun x a b c => by rw [z_upI_ne c, z_upI_ne a]) (fun j a => by rw [z_upI_ne (by decide), uI_k a]) (fun j hj => ?_) (fun j hj => by rw [z_upI_ne (by decide), z_upI_ne (by decide), if_neg (by omega)])
    by_cases x : j = n
    · subst x; rw [uI_s, if_pos rfl]; decide
    · rw [uI_k x, if_neg x, z_upI_ne (by decide)]
  · have t := (zb_eq0 _).mp c
    have e2 : sKee S i = (0, S) := by unfold sKee; rw [t]; rfl
    rw [e2] at h
    exact And.intro (Or.inl rfl) (h _ hS0 (fun x hx => ⟨z_upI_ne (by omega), rfl⟩))
theorem m_again {G : zG} (hG : zGok G) {k' : Nat} (hk : 2 ≤ k') {I : Nat → Nat → Int32} {J : Nat → Nat → Int64} {past : Nat → Nat} {Q : zRt} {S : zS} (hS : mSt I J S) (hv : vS S) (i : Int32) (h : ∀ I', mSt I' J (sAga S i).2 → mFr I J I' J → Q (some (.int (sAga S i).1)) (zK0, I', J, zR0 past)) : zCalls G k' yX12_again [.ref 305, .int i] (zK0, I, J, zR0 past) Q := by
  obtain ⟨v6, v8, vh, vn⟩ := vS_6 hv
  have hS0 := mSt_thr (v := 0) hS
  have no : (bTwo i && S.2.2.1.1 i.toNatClampNeg) = false → Q (some (.int 0)) (zK0, z_upI I 305 5 0, J, zR0 past) := by
    intro e
    have e2 : sAga S i = (0, S) := by unfold sAga; rw [e]; rfl
    rw [e2] at h
    exact h _ hS0 (fun x hx => ⟨z_upI_ne (by omega), rfl⟩)
  refine rnX12_again hG hk 305 i ?_
  refine sgX12_again hG [27] 60 0 ?_
  refine m_in hG (by decide) _ _ _ ?_
  rw [z_two]
  refine And.intro (fun c => ?_) (fun c => ?_)
  · exact And.intro (Or.inl rfl) (no (by rw [(zb_eq0 _).mp c]; rfl))
  have t := z_nb1 (x := 0) c
  obtain ⟨n, hn, rfl⟩ := bTwo_in t
  have en : (nI n).toNatClampNeg = n := nI_clamp (by omega)
  rw [en] at no
  have ek : z_upI I 305 5 0 319 (nI n).toNatClampNeg = zb (S.2.2.1.1 n) := by rw [en, z_upI_ne (by decide)]; exact (hS.2.2.1 n hn).1
  refine And.intro (by exact vp_in_nI (by omega) (by omega)) ?_
  refine And.intro (fun c3 => ?_) (fun c3 => ?_)
  · have c3 : S.2.2.1.1 n = true := z_nb1 (x := 0) (by rw [← ek]; exact c3)
    have e2 : sAga S (nI n) = (1, (S.2.2.1.2 n, (0, S.2.1.2), S.2.2)) := by unfold sAga; rw [t, en, c3]; rfl
    rw [e2] at h
    have loop : ∀ (r i : Nat) (v : Int32) (I' : Nat → Nat → Int32), v = nI i → i + r = 140 → (∀ x, x ≠ 305 → x ≠ 306 → I' x = I x) → (∀ j, j ≠ 5 → I' 305 j = I 305 j) → (∀ j, j < i → I' 306 j = I 318 (140 * n + j)) → aX12_again G Q 27 [some (.ref 305), some (.int (nI n)), some (.int v)] [] (zK0, I', J, zR0 past) := by
      intro r
      induction r with
      | zero =>
        intro i v I' ev hir g1 g2 g4
        subst ev
        have e : i = 140 := by omega
        subst e
        refine sgX12_again hG [27] 60 27 ?_
        refine And.intro (fun _ => ?_) (fun c => absurd (by decide) c)
        refine And.intro (Or.inr rfl) ?_
        obtain ⟨h1, h2, h3, h4, h5⟩ := hS
        have vq := hv.2.2.1 n hn c3
        refine h _ ⟨mPl_seg ((h3 n hn).2 c3) vq.1.1 vq.2.1 (fun j hj => by rw [z_upI_ne (by decide), Nat.zero_add]; exact g4 j hj), ⟨uI_s, fun i hi => absurd hi (Nat.not_lt_zero i)⟩, mKep_fr h3 (by rw [z_upI_ne (by decide)]; exact g1 319 (by decide) (by decide)) (by rw [z_upI_ne (by decide)]; exact g1 318 (by decide) (by decide)), mTxt_fr h4 (by rw [uI_k (by decide)]; exact g2 2 (by decide)) (by rw [z_upI_ne (by decide)]; exact g1 307 (by decide) (by decide)), mNum_fr h5 (by rw [uI_k (by decide)]; exact g2 4 (by decide)) rfl⟩ (fun x hx => ⟨by rw [z_upI_ne (by omega)]; exact g1 x (by omega) (by omega), rfl⟩)
      | succ r ih =>
        intro i v I' ev hir g1 g2 g4
        subst ev
        have en : (nI i).toNatClampNeg = i := nI_clamp (by omega)
        have ei : (140 : Int32) * nI n + nI i = nI (140 * n + i) := by rw [show (140 : Int32) = nI 140 from rfl, pk_mul, nI_add]
        have ec : ((140 : Int32) * nI n + nI i).toNatClampNeg = 140 * n + i := by rw [ei, nI_clamp (by omega)]
        refine sgX12_again hG [27] 60 27 ?_
        refine And.intro (fun c => absurd c (by rw [show (140 : Int32) = nI 140 from rfl, nI_leI (by omega) (by omega)]; omega)) (fun _ => ?_)
        refine And.intro (by rw [ei]; exact vp_in_nI (by omega) (by omega)) ?_
        refine And.intro (by exact vp_in_nI (by omega) (by omega)) ?_
        rw [en, ec]
        refine ih (i + 1) _ _ (by rw [nI_1]) (by omega) (fun x a b => by rw [z_upI_ne b]; exact g1 x a b) (fun j a => by rw [z_upI_ne (by decide)]; exact g2 j a) (fun j hj => ?_)
        by_cases x : j = i
        · subst x; rw [uI_s, g1 318 (by decide) (by decide)]
        · rw [uI_k x]; exact g4 j (by omega)
    exact loop 140 0 0 _ rfl (by omega) (fun x a b => by rw [z_upI_ne a]) (fun j a => by rw [uI_k a]) (fun j hj => absurd hj (Nat.not_lt_zero j))
  · have c3 : S.2.2.1.1 n = false := (zb_eq0 _).mp (by rw [← ek]; exact c3)
    exact And.intro (Or.inl rfl) (no (by rw [c3, Bool.and_false]))
theorem m_endS {G : zG} (hG : zGok G) {k' : Nat} (hk : 2 ≤ k') {I : Nat → Nat → Int32} {J : Nat → Nat → Int64} {past : Nat → Nat} {Q : zRt} {S : zS} (hS : mSt I J S) (hv : vS S) (n : Int32) (h : ∀ I', mSt I' J (sEnd S n).2 → mFr I J I' J → Q (some (.int (sEnd S n).1)) (zK0, I', J, zR0 past)) : zCalls G k' yX12_end [.ref 305, .int n] (zK0, I, J, zR0 past) Q := by
  have hS0 := mSt_thr (v := 0) hS
  have e2 : z_upI I 305 5 0 305 2 = nI S.2.2.2.1.1 := hS0.2.2.2.1.1
  refine rnX12_end hG hk 305 n ?_
  refine sgX12_end hG [] 60 0 ?_
  refine m_in hG (by decide) _ _ _ ?_
  rw [zb_if]
  refine And.intro (fun c => ?_) (fun c => ?_)
  · have c := z_nb1 (x := 0) c
    rw [decide_eq_true_eq, e2] at c
    have e : sEnd S n = (1, (S.1, S.2.1, S.2.2.1, (n.toNatClampNeg, S.2.2.2.1.2), S.2.2.2.2)) := if_neg (fun q => q.elim (Int32.not_lt.mpr c.1) (Int32.not_lt.mpr c.2))
    rw [e] at h
    refine And.intro (Or.inr rfl) ?_
    obtain ⟨j, hj, rfl⟩ := nI_of (Int32.not_lt.mpr c.1)
    have c2 := c.2
    have h80 := hv.2.2.2.1.1
    rw [nI_leI hj (by omega)] at c2
    obtain ⟨h1, h2, h3, h4, h5⟩ := hS0
    refine h _ ⟨mPl_fr h1 (z_upI_ne (by decide)), mHis_fr h2 (uI_k (by decide)) (z_upI_ne (by decide)), mKep_fr h3 (z_upI_ne (by decide)) (z_upI_ne (by decide)), ⟨by rw [uI_s, nI_clamp hj], fun i hi => ?_⟩, mNum_fr h5 (uI_k (by decide)) rfl⟩ (fun x hx => ⟨by rw [z_upI_ne (by omega), z_upI_ne (by omega)], rfl⟩)
    have hi : i < (nI j).toNatClampNeg := hi
    rw [nI_clamp hj] at hi
    rw [z_upI_ne (by decide)]
    exact h4.2 i (by omega)
  · have c := (zb_eq0 _).mp c
    rw [decide_eq_false_iff_not, e2] at c
    have e : sEnd S n = (0, S) := if_pos (by
      by_cases x : n < 0
      · exact Or.inl x
      · refine Or.inr (Int32.not_le.mp (fun y => c ⟨Int32.not_lt.mp x, y⟩)))
    rw [e] at h
    exact And.intro (Or.inl rfl) (h _ hS0 (fun x hx => ⟨z_upI_ne (by omega), rfl⟩))
-- ===== bytes =====
def bt (x : Int32) (i : Nat) : Bool := x.toBitVec.getLsbD i
theorem b_big {x : Int32} {i : Nat} (h : 32 ≤ i) : bt x i = false := BitVec.getLsbD_of_ge _ _ h
theorem b_and (x y : Int32) (i : Nat) : bt (x &&& y) i = (bt x i && bt y i) := by unfold bt; rw [Int32.toBitVec_and, BitVec.getLsbD_and]
theorem b_255 (i : Nat) : bt 255 i = decide (i < 8) := by
  rcases Nat.lt_or_ge i 32 with h | h
  · exact (by decide +kernel : ∀ i, i < 32 → bt 255 i = decide (i < 8)) i h
  · rw [b_big h, decide_eq_false (by omega)]
theorem s_l : ∀ n, n < 32 → ((nI n &&& 31).toBitVec.smod 32).toNat = n := by decide +kernel
theorem s_u : ∀ n, n < 32 → (((nI n).toUInt32 &&& Int32.toUInt32 31).toBitVec % 32).toNat = n := by decide +kernel
theorem b_ushr (n : Nat) (hn : n < 32) (x : Int32) (i : Nat) : bt ((x.toUInt32 >>> ((nI n).toUInt32 &&& Int32.toUInt32 31)).toInt32) i = bt x (n + i) := by
  show (x.toUInt32 >>> ((nI n).toUInt32 &&& Int32.toUInt32 31)).toBitVec.getLsbD i = x.toUInt32.toBitVec.getLsbD (n + i)
  rw [UInt32.toBitVec_shiftRight]
  show (x.toUInt32.toBitVec >>> (((nI n).toUInt32 &&& Int32.toUInt32 31).toBitVec % 32).toNat).getLsbD i = _
  rw [s_u n hn, BitVec.getLsbD_ushiftRight]
theorem b_sshr (n : Nat) (hn : n < 32) (x : Int32) {i : Nat} (hi : i < 32) : bt (x >>> (nI n &&& 31)) i = if n + i < 32 then bt x (n + i) else bt x 31 := by
  unfold bt
  rw [Int32.toBitVec_shiftRight]
  show (x.toBitVec.sshiftRight ((nI n &&& 31).toBitVec.smod 32).toNat).getLsbD i = _
  rw [s_l n hn, BitVec.getLsbD_sshiftRight, BitVec.msb_eq_getLsbD_last]
  simp [hi]
theorem b_t8 {x y : Int32} (h : ∀ i, i < 8 → bt x i = bt y i) : x.toInt8 = y.toInt8 := by
  apply Int8.toBitVec_inj.mp
  apply BitVec.eq_of_getLsbD_eq
  intro i hi
  have := h i hi
  unfold bt at this
  rw [Int32.toBitVec_toInt8, Int32.toBitVec_toInt8, BitVec.getLsbD_signExtend, BitVec.getLsbD_signExtend, if_pos (by omega), if_pos (by omega), this]
theorem z_byte (v : Int32) (k : Nat) (hk : k < 4) : (v >>> (nI (24 - 8 * k) &&& 31)).toInt8 = (zByt v k).toInt8 := by
  apply b_t8
  intro i hi
  unfold zByt
  rw [b_and, b_255, b_ushr _ (by omega), b_sshr _ (by omega) _ (by omega), if_pos (by omega), decide_eq_true hi, Bool.and_true]
theorem zByt_in (v : Int32) (k : Nat) : ∃ n, n < 256 ∧ zByt v k = nI n := by
  unfold zByt
  generalize (v.toUInt32 >>> ((nI (24 - 8 * k)).toUInt32 &&& Int32.toUInt32 31)).toInt32 = x
  refine ⟨(x &&& 255).toBitVec.toNat, ?_, ?_⟩
  · rw [Int32.toBitVec_and, BitVec.toNat_and]
    exact Nat.lt_of_le_of_lt Nat.and_le_right (by decide)
  · apply Int32.toBitVec_inj.mp
    show _ = BitVec.ofNat 32 _
    rw [BitVec.ofNat_toNat, BitVec.setWidth_eq]
theorem z_bb (x : Int8) : (x.toInt32).toInt8 = x := by simp
theorem m_sign {G : zG} (hG : zGok G) {k' : Nat} (hk : 1 ≤ k') {I : Nat → Nat → Int32} {J : Nat → Nat → Int64} {past : Nat → Nat} {Q : zRt} {S : zS} (hS : mSt I J S) (hv : vS S) (v : Int32) (h : ∀ I', mSt I' J (sSgn S v).2 → mFr I J I' J → Q (some (.int (sSgn S v).1)) (zK0, I', J, zR0 past)) : zCalls G k' yX12_sign [.ref 305, .int v] (zK0, I, J, zR0 past) Q := by
  have hS0 := mSt_thr (v := 0) hS
  obtain ⟨h1, h2, h3, h4, h5⟩ := id hS
  have en : I 305 2 = nI S.2.2.2.1.1 := h4.1
  have e4 : I 305 2 + 4 = nI (S.2.2.2.1.1 + 4) := by rw [en, show (4 : Int32) = nI 4 from rfl, nI_add]
  have h80 := hv.2.2.2.1.1
  refine rnX12_sign hG hk 305 v ?_
  refine sgX12_sign hG [20] 60 0 ?_
  refine And.intro (fun c => ?_) (fun c => ?_)
  · have c : nI (S.2.2.2.1.1 + 4) ≤ 80 := by rw [← e4]; exact c
    rw [show (80 : Int32) = nI 80 from rfl, nI_leI (by omega) (by omega)] at c
    have e : sSgn S v = (nI (S.2.2.2.1.1 + 4), (S.1, S.2.1, S.2.2.1, (S.2.2.2.1.1 + 4, fun j => if j < S.2.2.2.1.1 then S.2.2.2.1.2 j else zByt v (j - S.2.2.2.1.1)), S.2.2.2.2)) := if_neg (by omega)
    rw [e] at h
    generalize hn : S.2.2.2.1.1 = n at *
    have step : ∀ (i : Nat) (w : Int32) (I' : Nat → Nat → Int32), i < 4 → w = nI (3 - i) → I' 305 2 = nI (n + i) → (aX12_sign G Q 20 [some (.ref 305), some (.int v), some (.int (w + -1))] [] (zK0, z_upI (z_upI I' 305 2 (nI (n + i + 1))) 307 (n + i) (zByt v i).toInt8.toInt32, J, zR0 past)) → aX12_sign G Q 20 [some (.ref 305), some (.int v), some (.int w)] [] (zK0, I', J, zR0 past) := by
      intro i w I' hi hw h2 k
      have e8 : (8 : Int32) * nI (3 - i) = nI (24 - 8 * i) := by rw [show (8 : Int32) = nI 8 from rfl, pk_mul]; congr 1; omega
      refine sgX12_sign hG [20] 60 20 ?_
      refine And.intro (fun c => absurd c (by rw [hw]; exact nI_pos (by omega))) (fun _ => ?_)
      refine And.intro (by rw [h2]; exact vp_in_nI (by omega) (by omega)) ?_
      subst hw
      have ev : vp_nar .byte ((v >>> ((8 : Int32) * nI (3 - i) &&& 31)).toInt8.toInt32) = (zByt v i).toInt8.toInt32 := by
        rw [e8, z_byte v i hi]
        show ((zByt v i).toInt8.toInt32).toInt8.toInt32 = _
        rw [z_bb]
      have e1 : I' 305 2 + 1 = nI (n + i + 1) := by rw [h2, nI_1]
      have e0 : (I' 305 2).toNatClampNeg = n + i := by rw [h2, nI_clamp (by omega)]
      rw [← ev, ← e1, ← e0] at k
      exact k
    have m1 : (3 : Int32) + -1 = nI 2 := by decide
    refine step 0 3 _ (by omega) rfl (by rw [uI_k (by decide)]; exact en) ?_
    refine step 1 _ _ (by omega) (by decide) (by rw [z_upI_ne (by decide), uI_s]) ?_
    refine step 2 _ _ (by omega) (by decide) (by rw [z_upI_ne (by decide), uI_s]) ?_
    refine step 3 _ _ (by omega) (by decide) (by rw [z_upI_ne (by decide), uI_s]) ?_
    refine sgX12_sign hG [20] 60 20 ?_
    refine And.intro (fun _ => ?_) (fun c => absurd (by decide) c)
    have fr : ∀ (I2 : Nat → Nat → Int32), (∀ x, x ≠ 305 → x ≠ 307 → I2 x = I x) → (∀ j, j ≠ 2 → j ≠ 5 → I2 305 j = I 305 j) → I2 305 2 = nI (n + 4) → (∀ j, j < n + 4 → I2 307 j = if j < n then I 307 j else (zByt v (j - n)).toInt8.toInt32) → Q (some (.int (I2 305 2))) (zK0, I2, J, zR0 past) := by
      intro I2 f1 f2 f3 f4
      rw [f3]
      refine h I2 ⟨mPl_fr h1 (f1 306 (by decide) (by decide)), mHis_fr h2 (f2 13 (by decide) (by decide)) (f1 310 (by decide) (by decide)), mKep_fr h3 (f1 319 (by decide) (by decide)) (f1 318 (by decide) (by decide)), ⟨f3, fun j hj => ?_⟩, mNum_fr h5 (f2 4 (by decide) (by decide)) rfl⟩ (fun x hx => ⟨f1 x (by omega) (by omega), rfl⟩)
      have hj : j < n + 4 := hj
      show I2 307 j = (if j < n then S.2.2.2.1.2 j else zByt v (j - n)).toInt8.toInt32
      rw [f4 j hj]
      by_cases x : j < n
      · rw [if_pos x, if_pos x]; exact h4.2 j (by omega)
      · rw [if_neg x, if_neg x]
    have e9 : ∀ (f : Nat → Nat → Int32) (a b : Nat) (w : Int32), z_upI (z_upI f 305 2 (nI (n + 3 + 1))) 307 a w 305 2 = nI (n + 4) := fun f a b w => by rw [z_upI_ne (by decide), uI_s]
    refine fr _ (fun x a b => ?_) (fun j a b => ?_) (e9 _ _ 0 _) (fun j hj => ?_)
    · rw [z_upI_ne b, z_upI_ne a, z_upI_ne b, z_upI_ne a, z_upI_ne b, z_upI_ne a, z_upI_ne b, z_upI_ne a, z_upI_ne a]
    · rw [z_upI_ne (by decide), uI_k a, z_upI_ne (by decide), uI_k a, z_upI_ne (by decide), uI_k a, z_upI_ne (by decide), uI_k a, uI_k b]
    · by_cases x3 : j = n + 3
      · subst x3; rw [uI_s, if_neg (by omega), show n + 3 - n = 3 by omega]
      rw [uI_k x3, uI_p (by decide)]
      by_cases x2 : j = n + 2
      · subst x2; rw [uI_s, if_neg (by omega), show n + 2 - n = 2 by omega]
      rw [uI_k x2, uI_p (by decide)]
      by_cases x1 : j = n + 1
      · subst x1; rw [uI_s, if_neg (by omega), show n + 1 - n = 1 by omega]
      rw [uI_k x1, uI_p (by decide)]
      by_cases x0 : j = n
      · subst x0; simp only [Nat.add_zero]; rw [uI_s, if_neg (by omega), show j - j = 0 by omega]
      simp only [Nat.add_zero]; rw [uI_k x0, uI_p (by decide), uI_p (by decide), if_pos (by omega)]
  · have c : ¬ nI (S.2.2.2.1.1 + 4) ≤ 80 := by rw [← e4]; exact c
    rw [show (80 : Int32) = nI 80 from rfl, nI_leI (by omega) (by omega)] at c
    have e : sSgn S v = (-1, S) := if_pos (by omega)
    rw [e] at h
    exact h _ hS0 (fun x hx => ⟨z_upI_ne (by omega), rfl⟩)
