theorem m_add {G : zG} (hG : zGok G) {k' : Nat} (hk : 1 ≤ k') {I : Nat → Nat → Int32} {J : Nat → Nat → Int64} {past : Nat → Nat} {Q : zRt} {π : zPl} (hm : mPl I 306 0 π) (h6 : π.1 < 6) (h8 : π.2.2.1 ≤ 8) (a b c : Int32) (h : ∀ I', (∀ x, x ≠ 306 → I' x = I x) → mPl I' 306 0 (π.1 + 1, upd (upd (upd π.2.1 (3 * π.1) a) (3 * π.1 + 1) b) (3 * π.1 + 2) c, π.2.2) → Q none (zK0, I', J, zR0 past)) : zCalls G k' yX12_add [.ref 305, .int a, .int b, .int c] (zK0, I, J, zR0 past) Q := by
  have e0 : I 306 0 = nI π.1 := hm.1
  have ez : I 306 (0 : Int32).toNatClampNeg = nI π.1 := hm.1
  have e1 : (1 : Int32) + 3 * nI π.1 = nI (1 + 3 * π.1) := by rw [show (1 : Int32) = nI 1 from rfl, show (3 : Int32) = nI 3 from rfl, pk_mul, nI_add]
  have e2 : nI (1 + 3 * π.1) + 2 = nI (3 + 3 * π.1) := by rw [show (2 : Int32) = nI 2 from rfl, nI_add]; congr 1; omega
  have e3 : nI (1 + 3 * π.1) + 1 = nI (2 + 3 * π.1) := by rw [nI_1]; congr 1; omega
  have fin : mPl (z_upI (z_upI (z_upI (z_upI I 306 (1 + 3 * π.1) a) 306 (2 + 3 * π.1) b) 306 (3 + 3 * π.1) c) 306 0 (nI (π.1 + 1))) 306 0 (π.1 + 1, upd (upd (upd π.2.1 (3 * π.1) a) (3 * π.1 + 1) b) (3 * π.1 + 2) c, π.2.2) := by
    refine ⟨uI_s, ?_, fun j hj => ?_, fun i hi j hj => ?_⟩
    · simp (disch := omega) only [uI_s, uI_k, uI_p, uJ_s, uJ_k, uJ_p]; exact hm.2.1
    · show _ = upd (upd (upd π.2.1 (3 * π.1) a) (3 * π.1 + 1) b) (3 * π.1 + 2) c j
      have hj : j < 3 * (π.1 + 1) := hj
      by_cases x2 : j = 3 * π.1 + 2
      · subst x2; rw [pk_us, show 0 + 1 + (3 * π.1 + 2) = 3 + 3 * π.1 by omega]; simp (disch := omega) only [uI_s, uI_k, uI_p, uJ_s, uJ_k, uJ_p]
      · rw [pk_un x2]
        by_cases x1 : j = 3 * π.1 + 1
        · subst x1; rw [pk_us, show 0 + 1 + (3 * π.1 + 1) = 2 + 3 * π.1 by omega]; simp (disch := omega) only [uI_s, uI_k, uI_p, uJ_s, uJ_k, uJ_p]
        · rw [pk_un x1]
          by_cases x0 : j = 3 * π.1
          · subst x0; rw [pk_us, show 0 + 1 + 3 * π.1 = 1 + 3 * π.1 by omega]; simp (disch := omega) only [uI_s, uI_k, uI_p, uJ_s, uJ_k, uJ_p]
          · rw [pk_un x0]; simp (disch := omega) only [uI_s, uI_k, uI_p, uJ_s, uJ_k, uJ_p]; exact hm.2.2.1 j (by omega)
    · have hi : i < π.2.2.1 := hi
      simp (disch := omega) only [uI_s, uI_k, uI_p, uJ_s, uJ_k, uJ_p]; exact hm.2.2.2 i hi j hj
  refine rnX12_add hG hk 305 a b c ?_
  refine sgX12_add hG [] 60 0 ?_
  refine And.intro (by unfold vp_in; decide) ?_
  refine And.intro (by rw [ez, e1]; exact vp_in_nI (by omega) (by omega)) ?_
  refine And.intro (by rw [ez, e1, e3]; exact vp_in_nI (by omega) (by omega)) ?_
  refine And.intro (by rw [ez, e1, e2]; exact vp_in_nI (by omega) (by omega)) ?_
  refine And.intro (by unfold vp_in; decide) ?_
  refine And.intro (by unfold vp_in; decide) ?_
  refine h _ (fun x hx => by rw [z_upI_ne hx, z_upI_ne hx, z_upI_ne hx, z_upI_ne hx]) ?_
  simp only [show (0 : Int32).toNatClampNeg = 0 from by decide, e0, e1, e2, e3, nI_clamp (show 1 + 3 * π.1 < 2 ^ 31 by omega), nI_clamp (show 2 + 3 * π.1 < 2 ^ 31 by omega), nI_clamp (show 3 + 3 * π.1 < 2 ^ 31 by omega)]
  rw [show z_upI (z_upI (z_upI I 306 (1 + 3 * π.1) a) 306 (2 + 3 * π.1) b) 306 (3 + 3 * π.1) c 306 0 + 1 = nI (π.1 + 1) from by simp (disch := omega) only [uI_s, uI_k, uI_p, uJ_s, uJ_k, uJ_p]; rw [e0, nI_1]]
  exact fin
theorem m_adds {G : zG} (hG : zGok G) {k' : Nat} (hk : 4 ≤ k') {I : Nat → Nat → Int32} {J : Nat → Nat → Int64} {past : Nat → Nat} {Q : zRt} {S : zS} (hS : mSt I J S) (hv : vS S) (a b c : Int32) (h : ∀ I', mSt I' J (sChg S (sAdd S.1 a b c)) → mFr I J I' J → Q (some (.int (sAdd S.1 a b c).1)) (zK0, I', J, zR0 past)) : zCalls G k' yX12_adds [.ref 305, .int a, .int b, .int c] (zK0, I, J, zR0 past) Q := by
  obtain ⟨v6, v8, vh, vn⟩ := vS_6 hv
  have hS0 := mSt_thr (v := 0) hS
  refine rnX12_adds hG hk 305 a b c ?_
  refine sgX12_adds hG [] 60 0 ?_
  refine m_refusesAdd hG (by decide) hS0.1 v6 a b c ?_
  by_cases t : bRw a b c = true
  · rw [if_pos t]
    by_cases u : S.1.1 = 6
    · rw [if_pos u]
      have e2 : sAdd S.1 a b c = (-2, S.1) := by unfold sAdd; rw [if_pos t, if_pos u]
      rw [e2, show sChg S (-2, S.1) = S from if_neg (show ¬ (0 : Int32) ≤ -2 by decide)] at h
      refine And.intro (fun q => absurd q (by decide)) (fun _ => ?_)
      exact h _ hS0 (fun x hx => ⟨z_upI_ne (by omega), rfl⟩)
    · rw [if_neg u]
      have e2 : sAdd S.1 a b c = (nI (S.1.1 + 1), (S.1.1 + 1, upd (upd (upd S.1.2.1 (3 * S.1.1) a) (3 * S.1.1 + 1) b) (3 * S.1.1 + 2) c, S.1.2.2)) := by unfold sAdd; rw [if_pos t, if_neg u]
      rw [e2, show sChg S (nI (S.1.1 + 1), (S.1.1 + 1, upd (upd (upd S.1.2.1 (3 * S.1.1) a) (3 * S.1.1 + 1) b) (3 * S.1.1 + 2) c, S.1.2.2)) = ((S.1.1 + 1, upd (upd (upd S.1.2.1 (3 * S.1.1) a) (3 * S.1.1 + 1) b) (3 * S.1.1 + 2) c, S.1.2.2), hPush S.2.1.1 S.2.1.2 S.1, S.2.2) from if_pos (show 0 ≤ nI (S.1.1 + 1) from nI_pos' (by omega))] at h
      refine And.intro (fun _ => ?_) (fun q => absurd (by decide) q)
      refine m_change hG (by decide) hS0.1 hS0.2.1 vn vh ⟨v6, v8⟩ (fun I1 f1 f2 f3 => ?_)
      have hS1 := mSt_chg (hn := hPush S.2.1.1 S.2.1.2 S.1) hS0 f1 f2 f3
      have hS1' : mPl I1 306 0 S.1 := hS1.1
      refine m_add hG (by decide) hS1' (by omega) v8 a b c (fun I2 g1 g2 => ?_)
      refine And.intro (by unfold vp_in; decide) ?_
      have k := h I2 (mSt_pl hS1 g1 g2) (fun x hx => ⟨by rw [g1 x (by omega), f1 x (by omega) (by omega) (by omega), z_upI_ne (by omega)], rfl⟩)
      have e3 : I2 306 (0 : Int32).toNatClampNeg = nI (S.1.1 + 1) := g2.1
      rw [← e3] at k
      exact k
  · have t : bRw a b c = false := by simpa using t
    have e2 : sAdd S.1 a b c = (-1, S.1) := by unfold sAdd; rw [t]; rfl
    rw [if_neg (show ¬ bRw a b c = true by rw [t]; decide)]
    rw [e2, show sChg S (-1, S.1) = S from if_neg (show ¬ (0 : Int32) ≤ -1 by decide)] at h
    refine And.intro (fun q => absurd q (by decide)) (fun _ => ?_)
    exact h _ hS0 (fun x hx => ⟨z_upI_ne (by omega), rfl⟩)
theorem m_drop {G : zG} (hG : zGok G) {k' : Nat} (hk : 1 ≤ k') {I : Nat → Nat → Int32} {J : Nat → Nat → Int64} {past : Nat → Nat} {Q : zRt} {π : zPl} (hm : mPl I 306 0 π) (h6 : π.1 ≤ 6) (h8 : π.2.2.1 ≤ 8) (n : Nat) (hn : n < π.1) (h : ∀ I', (∀ x, x ≠ 306 → I' x = I x) → mPl I' 306 0 (π.1 - 1, (fun j => if j < 3 * n then π.2.1 j else π.2.1 (j + 3)), π.2.2) → Q none (zK0, I', J, zR0 past)) : zCalls G k' yX12_drop [.ref 305, .int (nI n)] (zK0, I, J, zR0 past) Q := by
  have e0 : I 306 0 = nI π.1 := hm.1
  have loop : ∀ (r i : Nat) (v : Int32) (I' : Nat → Nat → Int32), v = nI i → 3 * n ≤ i → i + r = 18 → (∀ x, x ≠ 306 → I' x = I x) → I' 306 0 = nI (π.1 - 1) → (∀ j, 19 ≤ j → I' 306 j = I 306 j) → (∀ j, j < 18 → I' 306 (1 + j) = if j < 3 * n then I 306 (1 + j) else if j < i then (if j < 3 * (π.1 - 1) then I 306 (4 + j) else 0) else I 306 (1 + j)) → aX12_drop G Q 14 [some (.ref 305), some (.int (nI n)), some (.int v)] [] (zK0, I', J, zR0 past) := by
    intro r
    induction r with
    | zero =>
      intro i v I' ev hi hir g1 g2 g3 g4
      subst ev
      have e : i = 18 := by omega
      subst e
      refine sgX12_drop hG [14] 60 14 ?_
      refine And.intro (fun _ => ?_) (fun c => absurd (by decide) c)
      refine h I' g1 ⟨g2, by rw [g3 _ (by omega)]; exact hm.2.1, fun j hj => ?_, fun i hi j hj => ?_⟩
      · have hj : j < 3 * (π.1 - 1) := hj
        show _ = if j < 3 * n then π.2.1 j else π.2.1 (j + 3)
        rw [Nat.zero_add, g4 j (by omega)]
        by_cases x : j < 3 * n
        · rw [if_pos x, if_pos x]
          have := hm.2.2.1 j (by omega); rw [Nat.zero_add] at this; exact this
        · rw [if_neg x, if_neg x, if_pos (by omega), if_pos hj]
          have := hm.2.2.1 (j + 3) (by omega); rw [Nat.zero_add, show 1 + (j + 3) = 4 + j by omega] at this; exact this
      · have hi : i < π.2.2.1 := hi
        rw [g3 _ (by omega)]; exact hm.2.2.2 i hi j hj
    | succ r ih =>
      intro i v I' ev hi hir g1 g2 g3 g4
      subst ev
      have ei : (1 : Int32) + nI i = nI (1 + i) := by rw [show (1 : Int32) = nI 1 from rfl, nI_add]
      have ec : ((1 : Int32) + nI i).toNatClampNeg = 1 + i := by rw [ei, nI_clamp (by omega)]
      have ei4 : (1 : Int32) + nI i + 3 = nI (4 + i) := by rw [ei, show (3 : Int32) = nI 3 from rfl, nI_add]; congr 1; omega
      have ec4 : ((1 : Int32) + nI i + 3).toNatClampNeg = 4 + i := by rw [ei4, nI_clamp (by omega)]
      have em : (3 : Int32) * I' 306 (0 : Int32).toNatClampNeg = nI (3 * (π.1 - 1)) := by rw [show I' 306 (0 : Int32).toNatClampNeg = nI (π.1 - 1) from g2, show (3 : Int32) = nI 3 from rfl, pk_mul]
      have nxt : ∀ w, w = (if i < 3 * (π.1 - 1) then I 306 (4 + i) else 0) → aX12_drop G Q 14 [some (.ref 305), some (.int (nI n)), some (.int (nI i + 1))] [] (zK0, z_upI I' 306 (1 + i) w, J, zR0 past) := by
        intro w hw
        refine ih (i + 1) _ _ (by rw [nI_1]) (by omega) (by omega) (fun x hx => by rw [z_upI_ne hx]; exact g1 x hx) (by rw [uI_k (by omega)]; exact g2) (fun j hj => by rw [uI_k (by omega)]; exact g3 j hj) (fun j hj => ?_)
        by_cases x : j = i
        · subst x; rw [uI_s, if_neg (by omega), if_pos (by omega)]; exact hw
        · rw [uI_k (by omega), g4 j hj]
          by_cases y : j < 3 * n
          · rw [if_pos y, if_pos y]
          · rw [if_neg y, if_neg y]
            by_cases z : j < i
            · rw [if_pos z, if_pos (show j < i + 1 by omega)]
            · rw [if_neg z, if_neg (show ¬ j < i + 1 by omega)]
      refine sgX12_drop hG [14] 60 14 ?_
      refine And.intro (fun c => absurd c (by rw [show (18 : Int32) = nI 18 from rfl, nI_leI (by omega) (by omega)]; omega)) (fun _ => ?_)
      refine And.intro (by unfold vp_in; decide) ?_
      refine And.intro (fun c => ?_) (fun c => ?_)
      · rw [em, nI_leI (by omega) (by omega)] at c
        refine And.intro (by rw [ei]; exact vp_in_nI (by omega) (by omega)) ?_
        rw [ec]
        exact nxt 0 (by rw [if_neg (by omega)])
      · rw [em, nI_leI (by omega) (by omega)] at c
        refine And.intro (by rw [ei4]; exact vp_in_nI (by omega) (by omega)) ?_
        refine And.intro (by rw [ei]; exact vp_in_nI (by omega) (by omega)) ?_
        rw [ec, ec4]
        refine nxt _ ?_
        rw [if_pos (by omega), show 4 + i = 1 + (i + 3) by omega, g4 (i + 3) (by omega), if_neg (by omega), if_neg (by omega)]
  refine rnX12_drop hG hk 305 (nI n) ?_
  refine sgX12_drop hG [14] 60 0 ?_
  refine And.intro (by unfold vp_in; decide) ?_
  refine And.intro (by unfold vp_in; decide) ?_
  have em : I 306 (0 : Int32).toNatClampNeg - 1 = nI (π.1 - 1) := by rw [show I 306 (0 : Int32).toNatClampNeg = nI π.1 from e0, show (1 : Int32) = nI 1 from rfl, pk_sub (by omega)]
  refine loop (18 - 3 * n) (3 * n) _ _ (by rw [show (3 : Int32) = nI 3 from rfl, pk_mul]) (by omega) (by omega) (fun x hx => z_upI_ne hx) (by show z_upI I 306 0 _ 306 0 = _; rw [uI_s, em]) (fun j hj => by show z_upI I 306 0 _ 306 j = _; rw [uI_k (by omega)]) (fun j hj => ?_)
  show z_upI I 306 0 _ 306 (1 + j) = _
  rw [uI_k (by omega)]
  by_cases x : j < 3 * n
  · rw [if_pos x]
  · rw [if_neg x, if_neg (by omega)]
theorem m_drops {G : zG} (hG : zGok G) {k' : Nat} (hk : 3 ≤ k') {I : Nat → Nat → Int32} {J : Nat → Nat → Int64} {past : Nat → Nat} {Q : zRt} {S : zS} (hS : mSt I J S) (hv : vS S) (k : Int32) (h : ∀ I', mSt I' J (sChg S (sDrp S.1 k)) → mFr I J I' J → Q (some (.int (sDrp S.1 k).1)) (zK0, I', J, zR0 past)) : zCalls G k' yX12_drops [.ref 305, .int k] (zK0, I, J, zR0 past) Q := by
  obtain ⟨v6, v8, vh, vn⟩ := vS_6 hv
  have hS0 := mSt_thr (v := 0) hS
  refine rnX12_drops hG hk 305 k ?_
  refine sgX12_drops hG [] 60 0 ?_
  refine m_isTold hG (by decide) hS0.1.1 v6 k ?_
  refine And.intro (fun c => ?_) (fun c => ?_)
  · have t := z_nb1 (x := 0) c
    have t0 := t
    obtain ⟨n, hn, rfl⟩ := bTl_in t v6
    have ec : (nI n).toNatClampNeg = n := nI_clamp (by omega)
    have e2 : sDrp S.1 (nI n) = (nI (S.1.1 - 1), (S.1.1 - 1, (fun j => if j < 3 * n then S.1.2.1 j else S.1.2.1 (j + 3)), S.1.2.2)) := by unfold sDrp; rw [if_pos t0, ec]
    rw [e2, show sChg S (nI (S.1.1 - 1), (S.1.1 - 1, (fun j => if j < 3 * n then S.1.2.1 j else S.1.2.1 (j + 3)), S.1.2.2)) = ((S.1.1 - 1, (fun j => if j < 3 * n then S.1.2.1 j else S.1.2.1 (j + 3)), S.1.2.2), hPush S.2.1.1 S.2.1.2 S.1, S.2.2) from if_pos (show 0 ≤ nI (S.1.1 - 1) from nI_pos' (by omega))] at h
    refine m_change hG (by decide) hS0.1 hS0.2.1 vn vh ⟨v6, v8⟩ (fun I1 f1 f2 f3 => ?_)
    have hS1 := mSt_chg (hn := hPush S.2.1.1 S.2.1.2 S.1) hS0 f1 f2 f3
    have hS1' : mPl I1 306 0 S.1 := hS1.1
    refine m_drop hG (by decide) hS1' v6 v8 n hn (fun I2 g1 g2 => ?_)
    refine And.intro (by unfold vp_in; decide) ?_
    have k := h I2 (mSt_pl hS1 g1 g2) (fun x hx => ⟨by rw [g1 x (by omega), f1 x (by omega) (by omega) (by omega), z_upI_ne (by omega)], rfl⟩)
    have e3 : I2 306 (0 : Int32).toNatClampNeg = nI (S.1.1 - 1) := g2.1
    rw [← e3] at k
    exact k
  · have t := (zb_eq0 _).mp c
    have e2 : sDrp S.1 k = (-1, S.1) := by unfold sDrp; rw [t]; rfl
    rw [e2, show sChg S (-1, S.1) = S from if_neg (show ¬ (0 : Int32) ≤ -1 by decide)] at h
    exact h _ hS0 (fun x hx => ⟨z_upI_ne (by omega), rfl⟩)
theorem m_clears {G : zG} (hG : zGok G) {k' : Nat} (hk : 3 ≤ k') {I : Nat → Nat → Int32} {J : Nat → Nat → Int64} {past : Nat → Nat} {Q : zRt} {S : zS} (hS : mSt I J S) (hv : vS S) (h : ∀ I', mSt I' J (sChg S (sClr S.1)) → mFr I J I' J → Q (some (.int (sClr S.1).1)) (zK0, I', J, zR0 past)) : zCalls G k' yX12_clears [.ref 305] (zK0, I, J, zR0 past) Q := by
  obtain ⟨v6, v8, vh, vn⟩ := vS_6 hv
  have hS0 := mSt_thr (v := 0) hS
  rw [show sChg S (sClr S.1) = ((sClr S.1).2, hPush S.2.1.1 S.2.1.2 S.1, S.2.2) from if_pos (sClr_pos hv.1)] at h
  refine rnX12_clears hG hk 305 ?_
  refine sgX12_clears hG [27] 60 0 ?_
  refine m_change hG (by decide) hS0.1 hS0.2.1 vn vh ⟨v6, v8⟩ (fun I1 f1 f2 f3 => ?_)
  have hS1 := mSt_chg (hn := hPush S.2.1.1 S.2.1.2 S.1) hS0 f1 f2 f3
  have hS1' : mPl I1 306 0 S.1 := hS1.1
  have e19 : I1 306 (19 : Int32).toNatClampNeg = (sClr S.1).1 := hS1'.2.1
  have loop : ∀ (r i : Nat) (v : Int32) (I' : Nat → Nat → Int32), v = nI i → i + r = 120 → (∀ x, x ≠ 306 → I' x = I1 x) → I' 306 19 = 0 → (∀ j, j < 19 → I' 306 j = I1 306 j) → aX12_clears G Q 27 [some (.ref 305), some (.int (sClr S.1).1), some (.int v)] [] (zK0, I', J, zR0 past) := by
    intro r
    induction r with
    | zero =>
      intro i v I' ev hir g1 g2 g3
      subst ev
      have e : i = 120 := by omega
      subst e
      refine sgX12_clears hG [27] 60 27 ?_
      refine And.intro (fun _ => ?_) (fun c => absurd (by decide) c)
      refine h I' (mSt_pl hS1 g1 ⟨by rw [g3 0 (by omega)]; exact hS1'.1, g2, fun j hj => ?_, fun i hi => absurd hi (Nat.not_lt_zero i)⟩) (fun x hx => ⟨by rw [g1 x (by omega), f1 x (by omega) (by omega) (by omega), z_upI_ne (by omega)], rfl⟩)
      have hj : j < 3 * S.1.1 := hj
      rw [g3 _ (by omega)]; exact hS1'.2.2.1 j hj
    | succ r ih =>
      intro i v I' ev hir g1 g2 g3
      subst ev
      have ei : (20 : Int32) + nI i = nI (20 + i) := by rw [show (20 : Int32) = nI 20 from rfl, nI_add]
      have ec : ((20 : Int32) + nI i).toNatClampNeg = 20 + i := by rw [ei, nI_clamp (by omega)]
      refine sgX12_clears hG [27] 60 27 ?_
      refine And.intro (fun c => absurd c (by rw [show (120 : Int32) = nI 120 from rfl, nI_leI (by omega) (by omega)]; omega)) (fun _ => ?_)
      refine And.intro (by rw [ei]; exact vp_in_nI (by omega) (by omega)) ?_
      rw [ec]
      exact ih (i + 1) _ _ (by rw [nI_1]) (by omega) (fun x hx => by rw [z_upI_ne hx]; exact g1 x hx) (by rw [uI_k (by omega)]; exact g2) (fun j hj => by rw [uI_k (by omega)]; exact g3 j hj)
  refine And.intro (by unfold vp_in; decide) ?_
  refine And.intro (by unfold vp_in; decide) ?_
  rw [e19]
  exact loop 120 0 0 _ rfl (by omega) (fun x hx => z_upI_ne hx) uI_s (fun j hj => uI_k (by show j ≠ 19; omega))
