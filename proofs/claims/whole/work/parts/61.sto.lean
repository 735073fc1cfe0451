-- ===== stores =====
def plC (π : zPl) (g : Nat → Int32) : zPl := (π.1, π.2.1, π.2.2.1 + 1, fun i => if i = π.2.2.1 then g else π.2.2.2 i)
def sSto (π : zPl) (w sd k : Int32) : Int32 × zPl := if rfC π w sd k = 1 then (if π.2.2.1 = 8 then (-3, π) else (nI (π.2.2.1 + 1), plC π (sCv π w sd k))) else (rfC π w sd k, π)
theorem sCv_v {π : zPl} (hv : vRw π) {w sd k : Int32} (h : rfC π w sd k = 1) : vCt (sCv π w sd k) := by
  obtain ⟨wn, sn, kn, ⟨rfl, rfl, rfl⟩, ⟨a1, a2, a3⟩, c1, c2⟩ := rfC_1 h
  unfold sCv
  rw [nI_clamp (by omega), nI_clamp (by omega), nI_clamp (by omega)]
  exact sCt_v hv a1 a2 a3 c1 c2
theorem plC_v {π : zPl} (hv : vPl π) (h8 : π.2.2.1 < 8) {g : Nat → Int32} (hg : vCt g) : vPl (plC π g) := by
  refine ⟨hv.1, h8, fun i hi => ?_⟩
  have hi : i < π.2.2.1 + 1 := hi
  show vCt (if i = π.2.2.1 then g else π.2.2.2 i)
  split
  · exact hg
  · exact hv.2.2 i (by omega)
theorem sSto_v {π : zPl} (hv : vPl π) (w sd k : Int32) : vPl (sSto π w sd k).2 := by
  unfold sSto
  split
  · rename_i r1
    split
    · exact hv
    · rename_i n8
      have := hv.2.1
      exact plC_v hv (by omega) (sCv_v hv.1 r1)
  · exact hv
theorem sSto_no {π : zPl} (hv : vPl π) {w sd k : Int32} (h : ¬ 0 ≤ (sSto π w sd k).1) : (sSto π w sd k).2 = π := by
  unfold sSto at h ⊢
  split
  · rename_i r1
    rw [if_pos r1] at h
    split
    · rfl
    · rename_i n8
      rw [if_neg n8] at h
      exact absurd (nI_pos' (by have := hv.2.1; omega)) h
  · rfl
theorem c_addCut {G : zG} (hG : zGok G) {k' : Nat} (hk : 2 ≤ k') {I : Nat → Nat → Int32} {J : Nat → Nat → Int64} {past : Nat → Nat} {Q : zRt} {π : zPl} (hc : cPl I J 1 π) (hv : vPl π) {g : Nat → Int32} (hg : ∀ j, j < 15 → J 262 j = (g (zPerm j)).toInt64) (h8 : π.2.2.1 = 8 → Q (some (.int (-3))) (zK0, I, J, zR0 past)) (h : π.2.2.1 < 8 → ∀ I' J', (∀ x, x ≠ 1 → I' x = I x) → (∀ x, x < 4 ∨ 12 ≤ x → J' x = J x) → cPl I' J' 1 (plC π g) → Q (some (.int (nI (π.2.2.1 + 1)))) (zK0, I', J', zR0 past)) : zCalls G k' yX5_addCut [.ref 1, .ref 262] (zK0, I, J, zR0 past) Q := by
  have e11 : I 1 1 = nI π.2.2.1 := hc.2.1
  have v8 := hv.2.1
  refine rnX5_addCut hG hk 1 262 ?_
  refine sgX5_addCut hG [19] 60 0 ?_
  refine And.intro (fun c => absurd c (by rw [e11]; exact nI_pos (by omega))) (fun _ => ?_)
  refine And.intro (fun c => ?_) (fun c => ?_)
  rotate_left
  · rw [e11, show (8 : Int32) = nI 8 from rfl, nI_ltI (by omega) (by omega)] at c
    exact h8 (by omega)
  rw [e11, show (8 : Int32) = nI 8 from rfl, nI_ltI (by omega) (by omega)] at c
  have z := (zPlc_of (past := past) (p := 1) (by decide)).2.2.2.2.2 π.2.2.1 c
  obtain ⟨q, hq⟩ : ∃ q, q = 4 + π.2.2.1 := ⟨_, rfl⟩
  have z1 : zR0 past 3 π.2.2.1 = some q := by rw [hq]; exact z.1
  have z2 : zKd zK0 q = (15, 15) := by rw [hq]; exact z.2
  have w1 : zR0 past 3 (I 1 1).toNatClampNeg = some q := by rw [e11, nI_clamp (by omega)]; exact z1
  have w8 : Nat.beq (zKd zK0 q).1 15 = true := by rw [z2]; rfl
  have w9 : ¬ (0 : Int32) < 0 ∧ ¬ (0 : Int32) < 0 ∧ ¬ (15 : Int32) < 0 ∧ (0 : Int32).toNatClampNeg + (15 : Int32).toNatClampNeg ≤ 15 ∧ (0 : Int32).toNatClampNeg + (15 : Int32).toNatClampNeg ≤ (zKd zK0 q).2 := by rw [z2]; decide
  refine sgX5_addCut hG [] 60 19 ?_
  refine And.intro (by rw [e11]; exact vp_in_nI (by omega) (by omega)) ⟨q, w1, ?_⟩
  refine zB_in w8 ?_
  refine And.intro w9 ?_
  have fin := h c (z_upI I 1 1 (nI (π.2.2.1 + 1))) (va_up J q (va_cpy (J 262) (J q) 0 0 15)) (fun x hx => z_upI_ne hx) (fun x hx => va_up_ne2 (by omega)) ⟨?_, uI_s, ?_, ?_⟩
  · have e : I 1 1 + 1 = nI (π.2.2.1 + 1) := by rw [e11, nI_1]
    refine (show Q (some (.int (z_upI I 1 1 (I 1 1 + 1) 1 1))) (zK0, z_upI I 1 1 (I 1 1 + 1), va_up J q (va_cpy (J 262) (J q) 0 0 15), zR0 past) from ?_)
    rw [uI_s, e]
    exact fin
  · show z_upI I 1 1 _ 1 0 = _
    rw [uI_k (by decide)]; exact hc.1
  · intro j hj
    show z_upI I 1 1 _ (1 + 1) j = _
    rw [uI_p (by decide)]; exact hc.2.2.1 j hj
  · intro i hi j hj
    have hi : i < π.2.2.1 + 1 := hi
    show va_up J q (va_cpy (J 262) (J q) 0 0 15) (1 + 3 + i) j = ((if i = π.2.2.1 then g else π.2.2.2 i) (zPerm j)).toInt64
    by_cases e : i = π.2.2.1
    · rw [if_pos e, e, show 1 + 3 + π.2.2.1 = q by omega, va_up_self, cpy15 hj]; exact hg j hj
    · rw [if_neg e, va_up_ne2 (by omega)]; exact hc.2.2.2 i (by omega) j hj
theorem c_storeFound {G : zG} (hG : zGok G) {k' : Nat} (hk : 3 ≤ k') {I : Nat → Nat → Int32} {J : Nat → Nat → Int64} {past : Nat → Nat} {Q : zRt} {π : zPl} (hc : cPl I J 1 π) (hv : vPl π) {w sd k : Int32} (hg : rfC π w sd k = 1 → ∀ j, j < 15 → J 262 j = (sCv π w sd k (zPerm j)).toInt64) (h : ∀ I' J', (∀ x, x ≠ 1 → I' x = I x) → (∀ x, x < 4 ∨ 12 ≤ x → J' x = J x) → cPl I' J' 1 (sSto π w sd k).2 → Q (some (.int (sSto π w sd k).1)) (zK0, I', J', zR0 past)) : zCalls G k' yX11_storeFound [.ref 0, .int (rfC π w sd k)] (zK0, I, J, zR0 past) Q := by
  refine rnX11_storeFound hG hk 0 _ ?_
  refine sgX11_storeFound hG [] 60 0 ?_
  unfold sSto at h
  by_cases r1 : rfC π w sd k = 1
  · rw [if_pos r1] at h
    refine And.intro (fun _ => ?_) (fun c => absurd (by rw [r1]; decide) c)
    refine c_addCut hG (by decide) hc hv (hg r1) (fun e => ?_) (fun e I' J' f1 f2 q => ?_)
    · rw [if_pos e] at h
      exact h I J (fun _ _ => rfl) (fun _ _ => rfl) hc
    · rw [if_neg (by omega)] at h
      exact h I' J' f1 f2 q
  · rw [if_neg r1] at h
    refine And.intro (fun c => ?_) (fun _ => ?_)
    · exfalso
      revert c
      rcases rfC_3 π w sd k with e | e | e
      · exact absurd e r1
      · rw [e]; decide
      · rw [e]; decide
    · exact h I J (fun _ _ => rfl) (fun _ _ => rfl) hc
theorem cSt_chg2 {I I1 : Nat → Nat → Int32} {J J1 : Nat → Nat → Int64} {past : Nat → Nat} {S : zS} {π' : zPl} (hS : cSt I J past S) (hv : vS S) (hf : ∀ x, x ≠ 1 → x ≠ 2 → I1 x = I x) (hj : ∀ x, x < 4 ∨ 12 ≤ x → J1 x = J x) (hq : cPl I1 J1 1 π') : cSt I1 J1 past (π', S.2) := by
  obtain ⟨h1, h2, h3, h4, h5⟩ := hS
  obtain ⟨v1, v2, v3, v4, v5⟩ := hv
  refine ⟨hq, cHis_fr h2 (fun i hi => (v2.2 i hi).2.1) (fun x hx => ⟨hf x ?_ ?_, hj x ?_⟩), cKep_fr h3 (fun i hi c => (v3 i hi c).2.1) (fun x hx => ⟨hf x (by omega) (by omega), hj x (by omega)⟩), cTxt_fr h4 (hf 126 (by omega) (by omega)) (hf 127 (by omega) (by omega)), cNum_fr h5 (hf 128 (by omega) (by omega)) (hj 129 (by omega)) (hf 12 (by omega) (by omega))⟩
  all_goals
    rcases hx with rfl | ⟨i, h6, h7, h8⟩
    · omega
    · have h6 : i < S.2.1.1 := h6
      have := zS9_in (h2.2.2.1 i (by omega)); omega
theorem c_stores {G : zG} (hG : zGok G) {k' : Nat} (hk : 8 ≤ k') {I : Nat → Nat → Int32} {J : Nat → Nat → Int64} {past : Nat → Nat} {Q : zRt} {S : zS} (hS : cSt I J past S) (hv : vS S) (w sd k : Int32) (h : ∀ I' J' past', cSt I' J' past' (sChg S (sSto S.1 w sd k)) → cFr I J I' J' → Q (some (.int (sSto S.1 w sd k).1)) (zK0, I', J', zR0 past')) : zCalls G k' yX11_stores [.ref 0, .int w, .int sd, .int k] (zK0, I, J, zR0 past) Q := by
  refine rnX11_stores hG hk 0 w sd k ?_
  refine sgX11_stores hG [] 60 0 ?_
  refine c_open hG (by decide) hS.1 hv.1.1.1 hv.1.2.1 hS.2.1 (fun I1 J1 hf1 hq1 => ?_)
  obtain ⟨hS1, fr1⟩ := cSt_open hS hv hf1
  have hi := zS9_in (hS.2.1.2.2.1 S.2.1.1 (by have := hv.2.1.1; omega))
  refine c_findCut hG (by decide) hS1.1 hv.1 w sd k (fun I2 J2 f2 q2 => ?_)
  have hS2 := cFd_same hS1 hv f2
  have hπ2 : cPl I2 J2 (past S.2.1.1) S.1 := cPl_rg hq1 hv.1.2.1 (fun x a b => f2 x (by omega))
  refine c_storeFound hG (by decide) hS2.1 hv.1 q2 (fun I3 J3 f3 g3 c3 => ?_)
  have hS3 := cSt_chg2 hS2 hv (fun x a _ => f3 x a) g3 c3
  have hπ3 : cPl I3 J3 (past S.2.1.1) S.1 := cPl_rg hπ2 hv.1.2.1 (fun x a b => ⟨f3 x (by omega), g3 x (by omega)⟩)
  have fr3 : cFr I J I3 J3 := fun x hx => ⟨(f3 x (by omega)).trans ((f2 x (by omega)).1.trans (fr1 x hx).1), (g3 x (by omega)).trans ((f2 x (by omega)).2.trans (fr1 x hx).2)⟩
  refine c_noted hG (by decide) _ hS3.2.1 hπ3 (fun i hi => (hv.2.1.2 i hi).2.1) hv.1.2.1 (fun cc => ?_) (fun cc I4 past' hf4 hq4 => ?_)
  · have e : sChg S (sSto S.1 w sd k) = S := if_neg cc
    have e2 : (sSto S.1 w sd k).2 = S.1 := sSto_no hv.1 cc
    rw [e] at h
    rw [e2] at hS3
    exact h I3 J3 past hS3 fr3
  · have e : sChg S (sSto S.1 w sd k) = ((sSto S.1 w sd k).2, hPush S.2.1.1 S.2.1.2 S.1, S.2.2) := if_pos cc
    rw [e] at h
    refine h I4 J3 past' (cSt_noted hS3 ⟨sSto_v hv.1 w sd k, hv.2.2.1⟩ hf4 hq4) (fun x hx => ⟨(hf4 x (by omega)).trans (fr3 x hx).1, (fr3 x hx).2⟩)
-- ===== the model =====
def rfS (π : zPl) (w sd k : Int32) : Int32 := if rfC π w sd k = 1 then (if π.2.2.1 = 8 then -3 else 0) else rfC π w sd k
theorem m_refusesStore {G : zG} (hG : zGok G) {k' : Nat} (hk : 7 ≤ k') {I : Nat → Nat → Int32} {J : Nat → Nat → Int64} {past : Nat → Nat} {Q : zRt} {π : zPl} (hm : mPl I 306 0 π) (hv : vPl π) (w sd k : Int32) (h : ∀ I' J', mLy I J I' J' → (rfC π w sd k = 1 → mTb I' J' (sTb π) 14) → Q (some (.int (rfS π w sd k))) (zK0, I', J', zR0 past)) : zCalls G k' yX12_refusesStore [.ref 305, .int w, .int sd, .int k] (zK0, I, J, zR0 past) Q := by
  have v8 := hv.2.1
  refine rnX12_refusesStore hG hk 305 w sd k ?_
  refine sgX12_refusesStore hG [] 60 0 ?_
  refine m_refusesCut hG (by decide) hm hv w sd k (fun I1 J1 f1 t1 => ?_)
  have e19 : I1 306 (19 : Int32).toNatClampNeg = nI π.2.2.1 := (mLy_pl f1 hm).2.1
  have h := h I1 J1 f1 t1
  unfold rfS at h
  by_cases r1 : rfC π w sd k = 1
  · rw [if_pos r1] at h ⊢
    refine And.intro (fun _ => ?_) (fun c => absurd (by decide) c)
    refine And.intro (by unfold vp_in; decide) ?_
    refine And.intro (fun c => ?_) (fun c => ?_)
    · rw [e19, show (8 : Int32) = nI 8 from rfl, nI_eq (by omega) (by omega)] at c
      rw [if_neg c] at h
      exact h
    · rw [e19, show (8 : Int32) = nI 8 from rfl, nI_eq (by omega) (by omega)] at c
      rw [if_pos c] at h
      exact h
  · rw [if_neg r1] at h ⊢
    refine And.intro (fun c => ?_) (fun _ => ?_)
    · exfalso
      revert c
      rcases rfC_3 π w sd k with e | e | e
      · exact absurd e r1
      · rw [e]; decide
      · rw [e]; decide
    · exact h
theorem m_store {G : zG} (hG : zGok G) {k' : Nat} (hk : 5 ≤ k') {I : Nat → Nat → Int32} {J : Nat → Nat → Int64} {past : Nat → Nat} {Q : zRt} {π : zPl} (hm : mPl I 306 0 π) (hv : vPl π) (h8 : π.2.2.1 < 8) {w sd k : Int32} (r1 : rfC π w sd k = 1) (tt : mTb I J (sTb π) 14) (h : ∀ I' J', mJf J J' → (∀ x, x ≠ 306 → x ≠ 315 → I' x = I x) → mPl I' 306 0 (plC π (sCv π w sd k)) → Q none (zK0, I', J', zR0 past)) : zCalls G k' yX12_store [.ref 305, .int w, .int sd, .int k] (zK0, I, J, zR0 past) Q := by
  obtain ⟨wn, sn, kn, ⟨rfl, rfl, rfl⟩, ⟨a1, a2, a3⟩, c1, c2⟩ := rfC_1 r1
  have ev : sCv π (nI wn) (nI sn) (nI kn) = sCt π wn sn kn := by
    unfold sCv
    rw [nI_clamp (by omega), nI_clamp (by omega), nI_clamp (by omega)]
  rw [ev] at h
  have h6 := hv.1.1
  refine rnX12_store hG hk 305 _ _ _ ?_
  refine sgX12_store hG [10] 60 0 ?_
  refine m_layCut hG (by decide) hm hv (w := wn) (sd := sn) (k := kn) a1 a2 a3 (tt 0 wn kn (by omega) (by omega) (by omega)) (tt 0 wn (kn + 1) (by omega) (by omega) (by omega)) c1 c2 rfl rfl rfl (fun I2 J2 f2 g2 q2 => ?_)
  have hm2 : mPl I2 306 0 π := mPl_fr hm (g2 306 (by decide))
  have loop : ∀ (q j : Nat) (v : Int32) (I' : Nat → Nat → Int32), v = nI j → j + q = 15 → (∀ x, x ≠ 306 → I' x = I2 x) → (∀ n, n < 20 + 15 * π.2.2.1 → I' 306 n = I2 306 n) → (∀ n, n < j → I' 306 (20 + 15 * π.2.2.1 + n) = sCt π wn sn kn n) → aX12_store G Q 10 [some (.ref 305), some (.int (nI wn)), some (.int (nI sn)), some (.int (nI kn)), some (.int v)] [] (zK0, I', J2, zR0 past) := by
    intro q
    induction q with
    | zero =>
      intro j v I' ev hj fi gi ci
      subst ev
      have e : j = 15 := by omega
      subst e
      have e19 : I' 306 (19 : Int32).toNatClampNeg = nI π.2.2.1 := by
        show I' 306 19 = _
        rw [gi 19 (by omega)]; exact hm2.2.1
      refine sgX12_store hG [10] 60 10 ?_
      refine And.intro (fun _ => ?_) (fun c => absurd (by decide) c)
      refine And.intro (by unfold vp_in; decide) ?_
      refine And.intro (by unfold vp_in; decide) ?_
      rw [e19, nI_1]
      refine h _ J2 f2 (fun x a b => by rw [z_upI_ne a, fi x a, g2 x b]) ⟨?_, uI_s, ?_, ?_⟩
      · show z_upI I' 306 19 _ 306 0 = _
        rw [uI_k (by decide), gi 0 (by omega)]; exact hm2.1
      · intro j hj
        have hj : j < 3 * π.1 := hj
        show z_upI I' 306 19 _ 306 (0 + 1 + j) = _
        rw [uI_k (by omega), gi _ (by omega)]; exact hm2.2.2.1 j hj
      · intro i hi j hj
        have hi : i < π.2.2.1 + 1 := hi
        show z_upI I' 306 19 _ 306 (0 + 20 + 15 * i + j) = (if i = π.2.2.1 then sCt π wn sn kn else π.2.2.2 i) j
        rw [uI_k (by omega)]
        by_cases e : i = π.2.2.1
        · rw [if_pos e, e, show 0 + 20 + 15 * π.2.2.1 + j = 20 + 15 * π.2.2.1 + j by omega]; exact ci j hj
        · rw [if_neg e, gi _ (by omega)]; exact hm2.2.2.2 i (by omega) j hj
    | succ q ih =>
      intro j v I' ev hj fi gi ci
      subst ev
      have e19 : I' 306 (19 : Int32).toNatClampNeg = nI π.2.2.1 := by
        show I' 306 19 = _
        rw [gi 19 (by omega)]; exact hm2.2.1
      have ei : (20 : Int32) + 15 * I' 306 (19 : Int32).toNatClampNeg + nI j = nI (20 + 15 * π.2.2.1 + j) := by
        rw [e19, show (15 : Int32) = nI 15 from rfl, show (20 : Int32) = nI 20 from rfl, pk_mul, nI_add, nI_add]
      have ec : ((20 : Int32) + 15 * I' 306 (19 : Int32).toNatClampNeg + nI j).toNatClampNeg = 20 + 15 * π.2.2.1 + j := by rw [ei, nI_clamp (by omega)]
      refine sgX12_store hG [10] 60 10 ?_
      refine And.intro (fun c => absurd c (by rw [show (15 : Int32) = nI 15 from rfl, nI_leI (by omega) (by omega)]; omega)) (fun _ => ?_)
      refine And.intro (by unfold vp_in; decide) ?_
      refine And.intro (by exact vp_in_nI (by omega) (by omega)) ?_
      refine And.intro (by rw [ei]; exact vp_in_nI (by omega) (by omega)) ?_
      rw [ec]
      refine ih (j + 1) _ _ (by rw [nI_1]) (by omega) (fun x hx => by rw [z_upI_ne hx]; exact fi x hx) (fun n hn => by rw [uI_k (by omega)]; exact gi n hn) (fun n hn => ?_)
      by_cases e : n = j
      · subst e
        rw [uI_s, nI_clamp (by omega), fi 315 (by decide)]; exact q2 n (by omega)
      · rw [uI_k (by omega)]; exact ci n (by omega)
  exact loop 15 0 0 I2 rfl (by omega) (fun _ _ => rfl) (fun _ _ => rfl) (fun n hn => absurd hn (Nat.not_lt_zero n))
theorem rfS_s {π : zPl} (hv : vPl π) (w sd k : Int32) : (rfS π w sd k < 0 ∧ sSto π w sd k = (rfS π w sd k, π)) ∨ (rfS π w sd k = 0 ∧ rfC π w sd k = 1 ∧ π.2.2.1 < 8 ∧ sSto π w sd k = (nI (π.2.2.1 + 1), plC π (sCv π w sd k))) := by
  have v8 := hv.2.1
  unfold rfS sSto
  by_cases r1 : rfC π w sd k = 1
  · rw [if_pos r1, if_pos r1]
    by_cases e : π.2.2.1 = 8
    · rw [if_pos e, if_pos e]; exact Or.inl ⟨by decide, rfl⟩
    · rw [if_neg e, if_neg e]; exact Or.inr ⟨rfl, r1, by omega, rfl⟩
  · rw [if_neg r1, if_neg r1]
    left
    refine ⟨?_, rfl⟩
    rcases rfC_3 π w sd k with e | e | e
    · exact absurd e r1
    · rw [e]; decide
    · rw [e]; decide
theorem mSt_pl2 {I I1 : Nat → Nat → Int32} {J J1 : Nat → Nat → Int64} {S : zS} {π' : zPl} (hS : mSt I J S) (hf : ∀ x, x ≠ 306 → x ≠ 315 → I1 x = I x) (hj : mJf J J1) (hq : mPl I1 306 0 π') : mSt I1 J1 (π', S.2) := by
  obtain ⟨h1, h2, h3, h4, h5⟩ := hS
  exact ⟨hq, mHis_fr h2 (by rw [hf 305 (by decide) (by decide)]) (hf 310 (by decide) (by decide)), mKep_fr h3 (hf 319 (by decide) (by decide)) (hf 318 (by decide) (by decide)), mTxt_fr h4 (by rw [hf 305 (by decide) (by decide)]) (hf 307 (by decide) (by decide)), mNum_fr h5 (by rw [hf 305 (by decide) (by decide)]) (hj.1 308 (by decide))⟩
theorem m_stores {G : zG} (hG : zGok G) {k' : Nat} (hk : 8 ≤ k') {I : Nat → Nat → Int32} {J : Nat → Nat → Int64} {past : Nat → Nat} {Q : zRt} {S : zS} (hS : mSt I J S) (hv : vS S) (w sd k : Int32) (h : ∀ I' J', mSt I' J' (sChg S (sSto S.1 w sd k)) → mFr I J I' J' → Q (some (.int (sSto S.1 w sd k).1)) (zK0, I', J', zR0 past)) : zCalls G k' yX12_stores [.ref 305, .int w, .int sd, .int k] (zK0, I, J, zR0 past) Q := by
  obtain ⟨v6, v8, vh, vn⟩ := vS_6 hv
  have hS0 := mSt_thr (v := 0) hS
  have hQ0 : mQ I J (z_upI I 305 5 0) J := mQ_u (by omega)
  refine rnX12_stores hG hk 305 w sd k ?_
  refine sgX12_stores hG [] 60 0 ?_
  refine m_refusesStore hG (by decide) hS0.1 hv.1 w sd k (fun I1 J1 f1 t1 => ?_)
  have hS1 := mLy_same hS0 f1
  have fr1 := mQ_fr (mQ_tr hQ0 (mLy_Q f1))
  rcases rfS_s hv.1 w sd k with ⟨e1, e2⟩ | ⟨e1, r1, n8, e2⟩
  · have ec : sChg S (sSto S.1 w sd k) = S := by rw [e2]; exact if_neg (Int32.not_le.mpr e1)
    rw [ec, e2] at h
    refine And.intro (fun c => absurd c (Int32.not_le.mpr e1)) (fun _ => ?_)
    exact h I1 J1 hS1 fr1
  · have ec : sChg S (sSto S.1 w sd k) = (plC S.1 (sCv S.1 w sd k), hPush S.2.1.1 S.2.1.2 S.1, S.2.2) := by rw [e2]; exact if_pos (nI_pos' (by omega))
    rw [ec, e2] at h
    refine And.intro (fun _ => ?_) (fun c => absurd (by rw [e1]; decide) c)
    refine m_change hG (by decide) hS1.1 hS1.2.1 vn vh ⟨v6, v8⟩ (fun I2 f2 g2 k2 => ?_)
    have hS2 := mSt_chg (hn := hPush S.2.1.1 S.2.1.2 S.1) hS1 f2 g2 k2
    refine m_store hG (by decide) hS2.1 hv.1 n8 r1 (mTb_fr (t1 r1) (f2 312 (by decide) (by decide) (by decide)) rfl rfl) (fun I3 J3 f3 g3 c3 => ?_)
    have e19 : I3 306 (19 : Int32).toNatClampNeg = nI (S.1.2.2.1 + 1) := c3.2.1
    refine And.intro (by unfold vp_in; decide) ?_
    rw [e19]
    refine h I3 J3 (mSt_pl2 hS2 g3 f3 c3) (fun x hx => ⟨?_, ?_⟩)
    · rw [g3 x (by omega) (by omega), f2 x (by omega) (by omega) (by omega)]; exact (fr1 x hx).1
    · rw [f3.1 x (by omega)]; exact (fr1 x hx).2
