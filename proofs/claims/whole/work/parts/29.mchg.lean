-- ===== changes of the model's plan =====
theorem z_pred {n : Nat} (h : n < 1000) (k : Int32) : k ≤ nI n - 1 ↔ k < nI n := by
  have e : (nI n - 1).toInt = (n : Int) - 1 := by
    have h1 : (1 : Int32).toInt = 1 := by decide
    have h2 := nI_toInt (n := n) (by omega)
    rw [z_isub (by rw [h1, h2]; omega) (by rw [h1, h2]; omega), h1, h2]
  rw [Int32.le_iff_toInt_le, Int32.lt_iff_toInt_lt, e, nI_toInt (by omega)]
  omega
theorem z_ifb {a b v : Int32} : (if a ≤ v ∧ v ≤ b then (1 : Int32) else 0) = zb (decide (a ≤ v) && decide (v ≤ b)) := by
  rw [zb_if]
  congr 1
  by_cases x : a ≤ v <;> by_cases y : v ≤ b <;> simp [x, y]
theorem m_isTold {G : zG} (hG : zGok G) {k' : Nat} (hk : 2 ≤ k') {I : Nat → Nat → Int32} {J : Nat → Nat → Int64} {past : Nat → Nat} {Q : zRt} {π : zPl} (hc : I 306 0 = nI π.1) (h6 : π.1 ≤ 6) (k : Int32) (h : Q (some (.int (zb (bTl π k)))) (zK0, I, J, zR0 past)) : zCalls G k' yX12_isTold [.ref 305, .int k] (zK0, I, J, zR0 past) Q := by
  refine rnX12_isTold hG hk 305 k ?_
  refine sgX12_isTold hG [] 60 0 ?_
  refine And.intro (by unfold vp_in; decide) ?_
  refine m_in hG (by decide) _ _ _ ?_
  have e : (if 0 ≤ k ∧ k ≤ I 306 (0 : Int32).toNatClampNeg - 1 then (1 : Int32) else 0) = zb (bTl π k) := by
    rw [show I 306 (0 : Int32).toNatClampNeg = nI π.1 from hc, z_ifb]
    unfold bTl
    congr 2
    exact decide_eq_decide.mpr (z_pred (by omega) k)
  rw [e]
  exact And.intro (zb_01 _) h
theorem m_canBe {G : zG} (hG : zGok G) {k' : Nat} (hk : 2 ≤ k') {σ : zSt} {Q : zRt} (a b c : Int32) (h : Q (some (.int (zb (bRw a b c)))) σ) : zCalls G k' yX12_canBe [.int a, .int b, .int c] σ Q := by
  have no : bRw a b c = false → Q (some (.int 0)) σ := fun e => by rw [e] at h; exact h
  refine rnX12_canBe hG hk a b c ?_
  refine sgX12_canBe hG [] 60 0 ?_
  refine m_in hG (by decide) _ _ _ ?_
  rw [z_ifb]
  refine And.intro (fun c1 => ?_) (fun c1 => ?_)
  · have c1 := (zb_eq0 _).mp c1
    exact And.intro (Or.inl rfl) (no (by unfold bRw; rw [c1]; rfl))
  have c1 := z_nb1 (x := 0) c1
  refine m_in hG (by decide) _ _ _ ?_
  rw [z_ifb]
  refine And.intro (fun c2 => ?_) (fun c2 => ?_)
  · have c2 := (zb_eq0 _).mp c2
    exact And.intro (Or.inl rfl) (no (by unfold bRw; rw [c1, c2]; rfl))
  have c2 := z_nb1 (x := 0) c2
  refine m_in hG (by decide) _ _ _ ?_
  rw [z_ifb]
  refine And.intro (fun c3 => ?_) (fun c3 => ?_)
  · have c3 := (zb_eq0 _).mp c3
    exact And.intro (Or.inl rfl) (no (by unfold bRw bBd; rw [c1, c2, c3]; rfl))
  have c3 := z_nb1 (x := 0) c3
  refine And.intro (fun c4 => ?_) (fun c4 => ?_)
  · refine And.intro (Or.inr rfl) ?_
    have e : bRw a b c = true := by unfold bRw bBd; rw [c1, c2, c3]; simp [c4]
    rw [e] at h; exact h
  · refine And.intro (fun c5 => ?_) (fun c5 => ?_)
    · exact And.intro (Or.inl rfl) (no (by unfold bRw; simp [c4, c5]))
    · refine And.intro (Or.inr rfl) ?_
      have e : bRw a b c = true := by unfold bRw bBd; rw [c1, c2, c3]; simp [c5]
      rw [e] at h; exact h
def sBecN (π : zPl) (k c : Int32) : Int32 := if bTl π k && bBd c then (if π.2.1 (3 * k.toNatClampNeg + 2) = c then -2 else 0) else -1
theorem m_refusesBecome {G : zG} (hG : zGok G) {k' : Nat} (hk : 3 ≤ k') {I : Nat → Nat → Int32} {J : Nat → Nat → Int64} {past : Nat → Nat} {Q : zRt} {π : zPl} (hm : mPl I 306 0 π) (h6 : π.1 ≤ 6) (k c : Int32) (h : Q (some (.int (sBecN π k c))) (zK0, I, J, zR0 past)) : zCalls G k' yX12_refusesBecome [.ref 305, .int k, .int c] (zK0, I, J, zR0 past) Q := by
  have no : (bTl π k && bBd c) = false → Q (some (.int (-1))) (zK0, I, J, zR0 past) := fun e => by
    have e2 : sBecN π k c = -1 := by unfold sBecN; rw [e]; rfl
    rw [e2] at h; exact h
  refine rnX12_refusesBecome hG hk 305 k c ?_
  refine sgX12_refusesBecome hG [] 60 0 ?_
  refine m_isTold hG (by decide) hm.1 h6 k ?_
  refine And.intro (fun c1 => ?_) (fun c1 => ?_)
  · exact no (by rw [(zb_eq0 _).mp c1]; rfl)
  have t1 := z_nb1 (x := 0) c1
  refine m_in hG (by decide) _ _ _ ?_
  rw [z_ifb]
  refine And.intro (fun c2 => ?_) (fun c2 => ?_)
  · have t2 : bBd c = true := z_nb1 (x := 0) c2
    obtain ⟨n, hn, rfl⟩ := bTl_in t1 h6
    refine m_of hG (by decide) hm h6 n 2 (by omega) (by omega) ?_
    have ep : pR π n 2 = π.2.1 (3 * n + 2) := by unfold pR; rw [if_pos hn]
    have ec : (nI n).toNatClampNeg = n := nI_clamp (by omega)
    rw [ep]
    have e2 : sBecN π (nI n) c = if π.2.1 (3 * n + 2) = c then -2 else 0 := by unfold sBecN; rw [t1, t2, ec]; rfl
    rw [e2] at h
    refine And.intro (fun c3 => ?_) (fun c3 => ?_)
    · rw [if_neg c3] at h; exact h
    · rw [if_pos c3] at h; exact h
  · exact no (by rw [show bBd c = false from (zb_eq0 _).mp c2, Bool.and_false])
theorem m_refusesAdd {G : zG} (hG : zGok G) {k' : Nat} (hk : 3 ≤ k') {I : Nat → Nat → Int32} {J : Nat → Nat → Int64} {past : Nat → Nat} {Q : zRt} {π : zPl} (hm : mPl I 306 0 π) (h6 : π.1 ≤ 6) (a b c : Int32) (h : Q (some (.int (if bRw a b c then (if π.1 = 6 then -2 else 0) else -1))) (zK0, I, J, zR0 past)) : zCalls G k' yX12_refusesAdd [.ref 305, .int a, .int b, .int c] (zK0, I, J, zR0 past) Q := by
  have e0 : I 306 (0 : Int32).toNatClampNeg = nI π.1 := hm.1
  refine rnX12_refusesAdd hG hk 305 a b c ?_
  refine sgX12_refusesAdd hG [] 60 0 ?_
  refine m_canBe hG (by decide) a b c ?_
  refine And.intro (fun c1 => ?_) (fun c1 => ?_)
  · rw [if_pos (z_nb1 (x := 0) c1)] at h
    refine And.intro (by unfold vp_in; decide) ?_
    refine And.intro (fun c2 => ?_) (fun c2 => ?_)
    · rw [e0, show (6 : Int32) = nI 6 from rfl, nI_eq (by omega) (by omega)] at c2
      rw [if_neg c2] at h; exact h
    · rw [e0, show (6 : Int32) = nI 6 from rfl, nI_eq (by omega) (by omega)] at c2
      rw [if_pos c2] at h; exact h
  · rw [(zb_eq0 _).mp c1] at h; exact h
/-- the model's thrown is put out, or another number of it that is no part of its state -/
theorem mSt_thr {I : Nat → Nat → Int32} {J : Nat → Nat → Int64} {S : zS} {v : Int32} (h : mSt I J S) : mSt (z_upI I 305 5 v) J S := by
  obtain ⟨h1, h2, h3, h4, h5⟩ := h
  exact ⟨mPl_fr h1 (z_upI_ne (by decide)), mHis_fr h2 (uI_k (by decide)) (z_upI_ne (by decide)), mKep_fr h3 (z_upI_ne (by decide)) (z_upI_ne (by decide)), mTxt_fr h4 (uI_k (by decide)) (z_upI_ne (by decide)), mNum_fr h5 (uI_k (by decide)) rfl⟩
/-- behind change() -/
theorem mSt_chg {I I1 : Nat → Nat → Int32} {J : Nat → Nat → Int64} {S : zS} {hn : Nat × (Nat → zPl)} (hS : mSt I J S) (hf : ∀ x, x ≠ 305 → x ≠ 310 → x ≠ 311 → I1 x = I x) (hg : ∀ j, j ≠ 13 → I1 305 j = I 305 j) (hh : mHis I1 hn.1 hn.2) : mSt I1 J (S.1, hn, S.2.2) := by
  obtain ⟨h1, h2, h3, h4, h5⟩ := hS
  exact ⟨mPl_fr h1 (hf 306 (by decide) (by decide) (by decide)), hh, mKep_fr h3 (hf 319 (by decide) (by decide) (by decide)) (hf 318 (by decide) (by decide) (by decide)), mTxt_fr h4 (hg 2 (by decide)) (hf 307 (by decide) (by decide) (by decide)), mNum_fr h5 (hg 4 (by decide)) rfl⟩
/-- the plan is another one -/
theorem mSt_pl {I I1 : Nat → Nat → Int32} {J : Nat → Nat → Int64} {S : zS} {π' : zPl} (hS : mSt I J S) (hf : ∀ x, x ≠ 306 → I1 x = I x) (hq : mPl I1 306 0 π') : mSt I1 J (π', S.2) := by
  obtain ⟨h1, h2, h3, h4, h5⟩ := hS
  exact ⟨hq, mHis_fr h2 (by rw [hf 305 (by decide)]) (hf 310 (by decide)), mKep_fr h3 (hf 319 (by decide)) (hf 318 (by decide)), mTxt_fr h4 (by rw [hf 305 (by decide)]) (hf 307 (by decide)), mNum_fr h5 (by rw [hf 305 (by decide)]) rfl⟩
theorem vS_6 {S : zS} (hv : vS S) : S.1.1 ≤ 6 ∧ S.1.2.2.1 ≤ 8 ∧ (∀ i, i < S.2.1.1 → (S.2.1.2 i).1 ≤ 6 ∧ (S.2.1.2 i).2.2.1 ≤ 8) ∧ S.2.1.1 ≤ 8 := ⟨hv.1.1.1, hv.1.2.1, fun i hi => ⟨(hv.2.1.2 i hi).1.1, (hv.2.1.2 i hi).2.1⟩, hv.2.1.1⟩
theorem m_becomes {G : zG} (hG : zGok G) {k' : Nat} (hk : 4 ≤ k') {I : Nat → Nat → Int32} {J : Nat → Nat → Int64} {past : Nat → Nat} {Q : zRt} {S : zS} (hS : mSt I J S) (hv : vS S) (k c : Int32) (h : ∀ I', mSt I' J (sChg S (sBec S.1 k c)) → mFr I J I' J → Q (some (.int (sBec S.1 k c).1)) (zK0, I', J, zR0 past)) : zCalls G k' yX12_becomes [.ref 305, .int k, .int c] (zK0, I, J, zR0 past) Q := by
  obtain ⟨v6, v8, vh, vn⟩ := vS_6 hv
  have hS0 := mSt_thr (v := 0) hS
  refine rnX12_becomes hG hk 305 k c ?_
  refine sgX12_becomes hG [] 60 0 ?_
  refine m_refusesBecome hG (by decide) hS0.1 v6 k c ?_
  by_cases t : (bTl S.1 k && bBd c) = true
  · have t0 := t
    rw [Bool.and_eq_true] at t
    obtain ⟨n, hn, rfl⟩ := bTl_in t.1 v6
    have ec : (nI n).toNatClampNeg = n := nI_clamp (by omega)
    by_cases u : S.1.2.1 (3 * n + 2) = c
    · have e1 : sBecN S.1 (nI n) c = -2 := by unfold sBecN; rw [if_pos t0, ec, if_pos u]
      have e2 : sBec S.1 (nI n) c = (-2, S.1) := by unfold sBec; rw [if_pos t0, ec, if_pos u]
      rw [e1]
      rw [e2, show sChg S (-2, S.1) = S from if_neg (show ¬ (0 : Int32) ≤ -2 by decide)] at h
      refine And.intro (fun q => absurd q (by decide)) (fun _ => ?_)
      exact h _ hS0 (fun x hx => ⟨z_upI_ne (by omega), rfl⟩)
    · have e1 : sBecN S.1 (nI n) c = 0 := by unfold sBecN; rw [if_pos t0, ec, if_neg u]
      have e2 : sBec S.1 (nI n) c = (100 + S.1.2.1 (3 * n + 2), (S.1.1, upd S.1.2.1 (3 * n + 2) c, S.1.2.2)) := by unfold sBec; rw [if_pos t0, ec, if_neg u]
      have pos : 0 ≤ 100 + S.1.2.1 (3 * n + 2) := by
        have := (Classical.em (0 ≤ (sBec S.1 (nI n) c).1))
        rcases this with q | q
        · rw [e2] at q; exact q
        · have z := sBec_no hv.1 q
          rw [e2] at z
          have z2 : upd S.1.2.1 (3 * n + 2) c = S.1.2.1 := congrArg (fun π : zPl => π.2.1) z
          exact absurd (by rw [← z2, pk_us]) u
      rw [e1]
      rw [e2, show sChg S (100 + S.1.2.1 (3 * n + 2), (S.1.1, upd S.1.2.1 (3 * n + 2) c, S.1.2.2)) = ((S.1.1, upd S.1.2.1 (3 * n + 2) c, S.1.2.2), hPush S.2.1.1 S.2.1.2 S.1, S.2.2) from if_pos pos] at h
      refine And.intro (fun _ => ?_) (fun q => absurd (by decide) q)
      refine m_change hG (by decide) hS0.1 hS0.2.1 vn vh ⟨v6, v8⟩ (fun I1 f1 f2 f3 => ?_)
      have hS1 := mSt_chg (hn := hPush S.2.1.1 S.2.1.2 S.1) hS0 f1 f2 f3
      have hS1' : mPl I1 306 0 S.1 := hS1.1
      refine m_of hG (by decide) hS1' v6 n 2 (by omega) (by omega) ?_
      have ep : pR S.1 n 2 = S.1.2.1 (3 * n + 2) := by unfold pR; rw [if_pos hn]
      have ei : (1 : Int32) + 3 * nI n + 2 = nI (3 + 3 * n) := by rw [show (2 : Int32) = nI 2 from rfl, z_13kw n 2]; congr 1; omega
      have ec2 : ((1 : Int32) + 3 * nI n + 2).toNatClampNeg = 3 + 3 * n := by rw [ei, nI_clamp (by omega)]
      refine And.intro (by rw [ei]; exact vp_in_nI (by omega) (by omega)) ?_
      show Q (some (.int (100 + pR S.1 n 2))) (zK0, z_upI I1 306 ((1 : Int32) + 3 * nI n + 2).toNatClampNeg c, J, zR0 past)
      rw [ep, ec2]
      refine h _ (mSt_pl hS1 (fun x hx => z_upI_ne hx) ⟨?_, ?_, fun j hj => ?_, fun i hi j hj => ?_⟩) (fun x hx => ⟨by rw [z_upI_ne (by omega), f1 x (by omega) (by omega) (by omega), z_upI_ne (by omega)], rfl⟩)
      · rw [uI_k (by omega)]; exact hS1.1.1
      · rw [uI_k (by omega)]; exact hS1.1.2.1
      · show _ = upd S.1.2.1 (3 * n + 2) c j
        have hj : j < 3 * S.1.1 := hj
        by_cases x : j = 3 * n + 2
        · subst x; rw [pk_us, show 0 + 1 + (3 * n + 2) = 3 + 3 * n by omega, uI_s]
        · rw [pk_un x, uI_k (by omega)]; exact hS1.1.2.2.1 j hj
      · have hi : i < S.1.2.2.1 := hi
        rw [uI_k (by omega)]; exact hS1.1.2.2.2 i hi j hj
  · have t : (bTl S.1 k && bBd c) = false := by simpa using t
    have e1 : sBecN S.1 k c = -1 := by unfold sBecN; rw [t]; rfl
    have e2 : sBec S.1 k c = (-1, S.1) := by unfold sBec; rw [t]; rfl
    rw [e1]
    rw [e2, show sChg S (-1, S.1) = S from if_neg (show ¬ (0 : Int32) ≤ -1 by decide)] at h
    refine And.intro (fun q => absurd q (by decide)) (fun _ => ?_)
    exact h _ hS0 (fun x hx => ⟨z_upI_ne (by omega), rfl⟩)
