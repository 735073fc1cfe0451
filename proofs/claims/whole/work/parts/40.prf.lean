-- ===== the model's half of a proof =====
theorem m_proves {G : zG} (hG : zGok G) {k' : Nat} (hk : 2 ≤ k') {I : Nat → Nat → Int32} {J : Nat → Nat → Int64} {past : Nat → Nat} {Q : zRt} {π : zPl} (hm : mPl I 306 0 π) (hv : vPl π) {i : Nat} (hi : i < π.2.2.1) (hf : Nat) (hf2 : hf < 2) (h : Q (some (.int (zb (prH π (π.2.2.2 i) hf)))) (zK0, I, J, zR0 past)) : zCalls G k' yX12_proves [.ref 305, .int (nI i), .int (π.2.2.2 i (5 + hf)), .int (nI (7 + 4 * hf)), .int (if hf = 0 then 1 else -1), .int (π.2.2.2 i 4 + nI hf)] (zK0, I, J, zR0 past) Q := by
  have h6 := hv.1.1
  have h8 := hv.2.1
  have no : prH π (π.2.2.2 i) hf = false → Q (some (.int 0)) (zK0, I, J, zR0 past) := fun e => by rw [e] at h; exact h
  have es : (if hf = 0 then (1 : Int32) else -1).toInt64 = prS hf := by
    unfold prS
    rcases (show hf = 0 ∨ hf = 1 by omega) with rfl | rfl <;> rfl
  refine rnX12_proves hG hk 305 _ _ _ _ _ ?_
  refine sgX12_proves hG [69] 100 0 ?_
  refine m_lines2 hG (by decide) hm ?_
  refine m_in hG (by decide) _ _ _ ?_
  have e : (if 0 ≤ π.2.2.2 i (5 + hf) ∧ π.2.2.2 i (5 + hf) ≤ nI (π.1 + 4) - 1 then (1 : Int32) else 0) = zb (decide (0 ≤ π.2.2.2 i (5 + hf)) && decide (π.2.2.2 i (5 + hf) < nI (π.1 + 4))) := by
    rw [z_ifb]
    congr 2
    exact decide_eq_decide.mpr (z_pred (by omega) _)
  rw [e]
  refine And.intro (fun c => ?_) (fun c => ?_)
  · have c := z_nb1 (x := 0) c
    have cc := c
    rw [Bool.and_eq_true, decide_eq_true_eq, decide_eq_true_eq] at cc
    obtain ⟨n, hn, en⟩ := nI_of (x := π.2.2.2 i (5 + hf)) (Int32.not_lt.mpr cc.1)
    have hn2 : n < π.1 + 4 := by have := cc.2; rw [en, nI_ltI hn (by omega)] at this; exact this
    have eN : (π.2.2.2 i (5 + hf)).toNatClampNeg = n := by rw [en, nI_clamp (by omega)]
    refine m_stored hG (by decide) hm h8 hi (j := 3) rfl (by omega) ?_
    refine m_stored hG (by decide) hm h8 hi (j := 7 + 4 * hf) rfl (by omega) ?_
    refine m_stored hG (by decide) hm h8 hi (j := 8 + 4 * hf) (by rw [nI_1]; congr 1; omega) (by omega) ?_
    refine m_stored hG (by decide) hm h8 hi (j := 9 + 4 * hf) (by rw [show (2 : Int32) = nI 2 from rfl, nI_add]; congr 1; omega) (by omega) ?_
    refine m_stored hG (by decide) hm h8 hi (j := 10 + 4 * hf) (by rw [show (3 : Int32) = nI 3 from rfl, nI_add]; congr 1; omega) (by omega) ?_
    have step : ∀ (x : Nat) (w : Int32) (o16 o17 : Option Value), x < 2 → w = nI x → (prE π (π.2.2.2 i) hf x = true → ∀ (w' : Int32) (o o' : Option Value), w' = nI (x + 1) → aX12_proves G Q 69 [some (.ref 305), some (.int (nI i)), some (.int (π.2.2.2 i (5 + hf))), some (.int (nI (7 + 4 * hf))), some (.int (if hf = 0 then 1 else -1)), some (.int (π.2.2.2 i 4 + nI hf)), some (.int (π.2.2.2 i 3)), some (.long (π.2.2.2 i (7 + 4 * hf)).toInt64), none, some (.long (π.2.2.2 i (8 + 4 * hf)).toInt64), none, some (.long (π.2.2.2 i (9 + 4 * hf)).toInt64), none, some (.long (π.2.2.2 i (10 + 4 * hf)).toInt64), none, some (.int w'), o, o'] [] (zK0, I, J, zR0 past)) → (prE π (π.2.2.2 i) hf x = false → Q (some (.int 0)) (zK0, I, J, zR0 past)) → aX12_proves G Q 69 [some (.ref 305), some (.int (nI i)), some (.int (π.2.2.2 i (5 + hf))), some (.int (nI (7 + 4 * hf))), some (.int (if hf = 0 then 1 else -1)), some (.int (π.2.2.2 i 4 + nI hf)), some (.int (π.2.2.2 i 3)), some (.long (π.2.2.2 i (7 + 4 * hf)).toInt64), none, some (.long (π.2.2.2 i (8 + 4 * hf)).toInt64), none, some (.long (π.2.2.2 i (9 + 4 * hf)).toInt64), none, some (.long (π.2.2.2 i (10 + 4 * hf)).toInt64), none, some (.int w), o16, o17] [] (zK0, I, J, zR0 past) := by
      intro x w o16 o17 hx ew nx nn
      subst ew
      refine sgX12_proves hG [69] 100 69 ?_
      refine And.intro (fun q => absurd q (by rw [show (2 : Int32) = nI 2 from rfl, nI_leI (by omega) (by omega)]; omega)) (fun _ => ?_)
      refine z_arg (args' := [.ref 305, .int (nI n), .int (nI x)]) (by rw [en]) ?_
      refine m_of hG (by decide) hm h6 n x hn2 (by omega) ?_
      have E : prE π (π.2.2.2 i) hf x = decide ((π.2.2.2 i (7 + 4 * hf)).toInt64 * (pR π n x).toInt64 * (π.2.2.2 i (10 + 4 * hf)).toInt64 + (if nI x = π.2.2.2 i 3 then (π.2.2.2 i (9 + 4 * hf)).toInt64 * prS hf * (π.2.2.2 i (8 + 4 * hf)).toInt64 else 0) = (π.2.2.2 i x).toInt64 * (π.2.2.2 i (8 + 4 * hf)).toInt64 * (π.2.2.2 i (10 + 4 * hf)).toInt64) := by
        unfold prE; rw [eN]
      refine And.intro (fun d => ?_) (fun d => ?_)
      · rw [if_neg d] at E
        refine m_stored hG (by decide) hm h8 hi (j := x) rfl (by omega) ?_
        refine And.intro (fun f => ?_) (fun f => ?_)
        · exact nx (by rw [E]; exact decide_eq_true f) _ _ _ (by rw [nI_1])
        · exact And.intro (Or.inl rfl) (nn (by rw [E]; exact decide_eq_false f))
      · rw [if_pos d, ← es] at E
        refine m_stored hG (by decide) hm h8 hi (j := x) rfl (by omega) ?_
        refine And.intro (fun f => ?_) (fun f => ?_)
        · exact nx (by rw [E]; exact decide_eq_true f) _ _ _ (by rw [nI_1])
        · exact And.intro (Or.inl rfl) (nn (by rw [E]; exact decide_eq_false f))
    refine step 0 0 none none (by omega) rfl (fun t0 w1 o1 o2 ew1 => ?_) (fun f0 => no (by unfold prH; rw [f0]; simp))
    refine step 1 w1 o1 o2 (by omega) ew1 (fun t1 w2 o3 o4 ew2 => ?_) (fun f1 => no (by unfold prH; rw [f1]; simp))
    subst ew2
    have E : prL π (π.2.2.2 i) hf = decide ((π.2.2.2 i (7 + 4 * hf)).toInt64 * (pR π n 2).toInt64 * (π.2.2.2 i (10 + 4 * hf)).toInt64 + (π.2.2.2 i (9 + 4 * hf)).toInt64 * (if hf = 0 then (1 : Int32) else -1).toInt64 * (π.2.2.2 i 4 + nI hf).toInt64 * (π.2.2.2 i (8 + 4 * hf)).toInt64 ≤ (π.2.2.2 i 2).toInt64 * (π.2.2.2 i (8 + 4 * hf)).toInt64 * (π.2.2.2 i (10 + 4 * hf)).toInt64) := by
      unfold prL; rw [eN, es]
    refine sgX12_proves hG [69] 100 69 ?_
    refine And.intro (fun _ => ?_) (fun q => absurd (by decide) q)
    refine z_arg (args' := [.ref 305, .int (nI n), .int (nI 2)]) (by rw [en]; rfl) ?_
    refine m_of hG (by decide) hm h6 n 2 hn2 (by omega) ?_
    refine m_stored hG (by decide) hm h8 hi (j := 2) rfl (by omega) ?_
    refine And.intro (fun f => ?_) (fun f => ?_)
    · exact And.intro (Or.inl rfl) (no (by unfold prH; rw [E, decide_eq_false (Int64.not_le.mpr f)]; simp))
    · refine And.intro (Or.inr rfl) ?_
      have : prH π (π.2.2.2 i) hf = true := by
        unfold prH
        rw [c, t0, t1, E, decide_eq_true (Int64.not_lt.mp f)]; rfl
      rw [this] at h
      exact h
  · have c := (zb_eq0 _).mp c
    exact And.intro (Or.inl rfl) (no (by unfold prH; rw [c]; rfl))
def prP (π : zPl) (i : Nat) : Bool := prH π (π.2.2.2 i) 0 && prH π (π.2.2.2 i) 1
theorem m_isProven {G : zG} (hG : zGok G) {k' : Nat} (hk : 3 ≤ k') {I : Nat → Nat → Int32} {J : Nat → Nat → Int64} {past : Nat → Nat} {Q : zRt} {π : zPl} (hm : mPl I 306 0 π) (hv : vPl π) {i : Nat} (hi : i < π.2.2.1) (h : Q (some (.int (zb (prP π i)))) (zK0, I, J, zR0 past)) : zCalls G k' yX12_isProven [.ref 305, .int (nI i)] (zK0, I, J, zR0 past) Q := by
  have h8 := hv.2.1
  unfold prP at h
  refine rnX12_isProven hG hk 305 _ ?_
  refine sgX12_isProven hG [] 60 0 ?_
  refine m_stored hG (by decide) hm h8 hi (j := 4) rfl (by omega) ?_
  refine m_stored hG (by decide) hm h8 hi (j := 5) rfl (by omega) ?_
  refine z_arg (args' := [.ref 305, .int (nI i), .int (π.2.2.2 i (5 + 0)), .int (nI (7 + 4 * 0)), .int (if 0 = 0 then 1 else -1), .int (π.2.2.2 i 4 + nI 0)]) (by rw [show nI 0 = (0 : Int32) from rfl, Int32.add_zero]; rfl) ?_
  refine m_proves hG (by decide) hm hv hi 0 (by omega) ?_
  refine And.intro (fun c => ?_) (fun c => ?_)
  · have c := (zb_eq0 _).mp c
    rw [c] at h
    exact And.intro (Or.inl rfl) h
  have c := z_nb1 (x := 0) c
  refine m_stored hG (by decide) hm h8 hi (j := 6) rfl (by omega) ?_
  refine z_arg (args' := [.ref 305, .int (nI i), .int (π.2.2.2 i (5 + 1)), .int (nI (7 + 4 * 1)), .int (if 1 = 0 then 1 else -1), .int (π.2.2.2 i 4 + nI 1)]) (by rfl) ?_
  refine m_proves hG (by decide) hm hv hi 1 (by omega) ?_
  refine And.intro (fun d => ?_) (fun d => ?_)
  · have d := (zb_eq0 _).mp d
    rw [c, d] at h
    exact And.intro (Or.inl rfl) h
  have d := z_nb1 (x := 0) d
  rw [c, d] at h
  exact And.intro (Or.inr rfl) h
-- ===== checks =====
def sChk (π : zPl) (i : Int32) : Int32 × Option (List Int64) := if bSt π i then (zb (prP π i.toNatClampNeg), some [(π.2.2.2 i.toNatClampNeg 0).toInt64, (π.2.2.2 i.toNatClampNeg 1).toInt64, (π.2.2.2 i.toNatClampNeg 2).toInt64]) else (-1, none)
theorem c_checks {G : zG} (hG : zGok G) {k' : Nat} (hk : 5 ≤ k') {I : Nat → Nat → Int32} {J : Nat → Nat → Int64} {past : Nat → Nat} {Q : zRt} {S : zS} (hS : cSt I J past S) (hv : vS S) (i : Int32) (h : ∀ I' J', cSt I' J' past (sOut S ( sChk S.1 i)) → cFr I J I' J' → Q (some (.int ( sChk S.1 i).1)) (zK0, I', J', zR0 past)) : zCalls G k' yX11_checks [.ref 0, .int i] (zK0, I, J, zR0 past) Q := by
  refine rnX11_checks hG hk 0 i ?_
  refine sgX11_checks hG [] 100 0 ?_
  refine c_hasCut hG (by decide) (π := S.1) hS.1.2.1 hv.1.2.1 _ ?_
  refine And.intro (fun c => ?_) (fun c => ?_)
  · have t := z_nb1 (x := 0) c
    have h8 := hv.1.2.1
    obtain ⟨n, hn, rfl⟩ := bSt_in t h8
    unfold sChk at h
    rw [if_pos t, nI_clamp (by omega)] at h
    obtain ⟨q, hq, w1, w2, w3⟩ := cCt (past := past) (i := n) (by omega)
    have rd : ∀ j, j < 15 → J q j = (S.1.2.2.2 n (zPerm j)).toInt64 := fun j hj => by have := hS.1.2.2.2 n hn j hj; rw [show 1 + 3 + n = 4 + n from rfl, ← hq] at this; exact this
    have hq2 : q ≠ 129 := by omega
    refine c_clear hG (by decide) (fun I1 f1 n1 => ?_)
    refine And.intro (fun c => absurd c (by decide)) (fun _ => ?_)
    refine And.intro (by exact vp_in_nI (by omega) (by omega)) ⟨q, w1, zB_in w2 (And.intro (w3 0 (by omega) _ (by decide)) ?_)⟩
    refine c_tell hG (by decide) n1 (by decide) _ (fun I2 J2 f2 g2 n2 => ?_)
    refine And.intro (fun c => absurd c (by decide)) (fun _ => ?_)
    refine And.intro (by exact vp_in_nI (by omega) (by omega)) ⟨q, w1, zB_in w2 (And.intro (w3 1 (by omega) _ (by decide)) ?_)⟩
    refine c_tell hG (by decide) n2 (by simp) _ (fun I3 J3 f3 g3 n3 => ?_)
    refine And.intro (fun c => absurd c (by decide)) (fun _ => ?_)
    refine And.intro (by exact vp_in_nI (by omega) (by omega)) ⟨q, w1, zB_in w2 (And.intro (w3 2 (by omega) _ (by decide)) ?_)⟩
    refine c_tell hG (by decide) n3 (by simp) _ (fun I4 J4 f4 g4 n4 => ?_)
    refine And.intro (fun _ => ?_) (fun c => absurd (by decide) c)
    have q4 : cQ I J I4 J4 := fun x hx => ⟨by rw [f4 x (by omega), f3 x (by omega), f2 x (by omega), f1 x (by omega)], by rw [g4 x (by omega), g3 x (by omega), g2 x (by omega)]⟩
    have v0 : J q (0 : Int32).toNatClampNeg = (S.1.2.2.2 n 0).toInt64 := rd 0 (by omega)
    have v1 : J2 q ((0 : Int32) + 1).toNatClampNeg = (S.1.2.2.2 n 1).toInt64 := by rw [g2 q hq2]; exact rd 1 (by omega)
    have v2 : J3 q ((0 : Int32) + 1 + 1).toNatClampNeg = (S.1.2.2.2 n 2).toInt64 := by rw [g3 q hq2, g2 q hq2]; exact rd 2 (by omega)
    rw [v0, v1, v2] at n4
    have fin := h I4 J4 (cSt_tel hS hv q4 n4) (cQ_fr q4)
    refine c_proofChecks hG (by decide) (cQ_pl q4 h8 hS.1) hv.1 hn ?_
    refine And.intro (fun d => ?_) (fun d => ?_)
    · have d := (zb_eq0 _).mp d
      have e : prP S.1 n = false := d
      rw [e] at fin
      exact fin
    · have d := z_nb1 (x := 0) d
      have e : prP S.1 n = true := d
      rw [e] at fin
      exact fin
  · have t := (zb_eq0 _).mp c
    have e : sChk S.1 i = (-1, none) := by unfold sChk; rw [t]; rfl
    rw [e] at h
    exact h I J hS (fun _ _ => ⟨rfl, rfl⟩)
theorem m_checks {G : zG} (hG : zGok G) {k' : Nat} (hk : 4 ≤ k') {I : Nat → Nat → Int32} {J : Nat → Nat → Int64} {past : Nat → Nat} {Q : zRt} {S : zS} (hS : mSt I J S) (hv : vS S) (i : Int32) (h : ∀ I' J', mSt I' J' (sOut S ( sChk S.1 i)) → mFr I J I' J' → Q (some (.int ( sChk S.1 i).1)) (zK0, I', J', zR0 past)) : zCalls G k' yX12_checks [.ref 305, .int i] (zK0, I, J, zR0 past) Q := by
  have hS0 := mSt_thr (v := 0) hS
  have hQ0 : mQ I J (z_upI I 305 5 0) J := mQ_u (by omega)
  refine rnX12_checks hG hk 305 i ?_
  refine sgX12_checks hG [] 100 0 ?_
  have h8 := hv.1.2.1
  refine m_isStored hG (by decide) (π := S.1) hS0.1.2.1 h8 _ ?_
  refine And.intro (fun c => ?_) (fun c => ?_)
  · have t := z_nb1 (x := 0) c
    obtain ⟨n, hn, rfl⟩ := bSt_in t h8
    unfold sChk at h
    rw [if_pos t, nI_clamp (by omega)] at h
    have m1 : mPl (z_upI (z_upI I 305 5 0) 305 4 0) 306 0 S.1 := mPl_fr hS0.1 (z_upI_ne (by decide))
    refine And.intro (fun c => absurd c (by decide)) (fun _ => ?_)
    refine m_stored hG (by decide) m1 h8 hn (j := 0) rfl (by omega) ?_
    refine m_tellL hG (by decide) mNm_0 (by decide) _ (fun I2 J2 f2 g2 k2 n2 => ?_)
    have m2 : mPl I2 306 0 S.1 := mPl_fr m1 (f2 306 (by decide))
    refine And.intro (fun c => absurd c (by decide)) (fun _ => ?_)
    refine m_stored hG (by decide) m2 h8 hn (j := 1) (by decide) (by omega) ?_
    refine m_tellL hG (by decide) n2 (by simp) _ (fun I3 J3 f3 g3 k3 n3 => ?_)
    have m3 : mPl I3 306 0 S.1 := mPl_fr m2 (f3 306 (by decide))
    refine And.intro (fun c => absurd c (by decide)) (fun _ => ?_)
    refine m_stored hG (by decide) m3 h8 hn (j := 2) (by decide) (by omega) ?_
    refine m_tellL hG (by decide) n3 (by simp) _ (fun I4 J4 f4 g4 k4 n4 => ?_)
    have m4 : mPl I4 306 0 S.1 := mPl_fr m3 (f4 306 (by decide))
    refine And.intro (fun _ => ?_) (fun c => absurd (by decide) c)
    have q4 : mQ I J I4 J4 := mQ_tr hQ0 (mQ_tr (J1 := J) (I1 := z_upI (z_upI I 305 5 0) 305 4 0) (mQ_u (by omega)) ⟨fun x hx => ⟨by rw [f4 x (by omega), f3 x (by omega), f2 x (by omega)], by rw [k4 x (by omega), k3 x (by omega), k2 x (by omega)]⟩, by rw [g4 _ (by decide), g3 _ (by decide), g2 _ (by decide)], by rw [g4 _ (by decide), g3 _ (by decide), g2 _ (by decide)]⟩)
    have fin := h I4 J4 (mSt_tel hS q4 n4) (mQ_fr q4)
    refine m_isProven hG (by decide) m4 hv.1 hn ?_
    refine And.intro (fun d => ?_) (fun d => ?_)
    · have d := (zb_eq0 _).mp d
      rw [d] at fin
      exact fin
    · have d := z_nb1 (x := 0) d
      rw [d] at fin
      exact fin
  · have t := (zb_eq0 _).mp c
    have e : sChk S.1 i = (-1, none) := by unfold sChk; rw [t]; rfl
    rw [e] at h
    exact h _ J hS0 (mQ_fr hQ0)
