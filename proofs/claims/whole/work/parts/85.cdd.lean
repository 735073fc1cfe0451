-- ===== day (class) =====
theorem c_closeH {G : zG} (hG : zGok G) {k' : Nat} (hk : 1 ≤ k') {I : Nat → Nat → Int32} {J : Nat → Nat → Int64} {past : Nat → Nat} {Q : zRt} {π : zPl} {hs : Nat} {Hf : Nat → zPl} (hh : cHis I J past hs Hf) (hπ : cPl I J (past hs) π) (h2 : ∀ I' past', (∀ x, x ≠ 25 → I' x = I x) → cHis I' J past' (hPush hs Hf π).1 (hPush hs Hf π).2 → Q none (zK0, I', J, zR0 past')) : zCalls G k' yX2_close [.ref 25] (zK0, I, J, zR0 past) Q := by
  obtain ⟨e0, hb, hc, hd, he⟩ := hh
  refine c_close hG hk e0 hb hc (fun c8 => ?_) (fun c8 past' hp => ?_)
  · refine h2 _ past (fun x hx => z_upI_ne hx) ?_
    have e : hPush hs Hf π = (hs + 1, va_up Hf hs π) := if_pos c8
    rw [e]
    refine ⟨uI_s, c8, hc, hd, fun i hi => ?_⟩
    have hi : i < hs + 1 := hi
    have h27 := zS9_in (hc i (by omega))
    show cPl _ J (past i) (va_up Hf hs π i)
    by_cases x : i = hs
    · subst x
      rw [va_up_self]
      exact cPl_fr hπ (z_upI_ne (by omega)) (z_upI_ne (by omega)) (fun _ _ => rfl)
    · rw [va_up_ne2 x]
      exact cPl_fr (he i (by omega)) (z_upI_ne (by omega)) (z_upI_ne (by omega)) (fun _ _ => rfl)
  · refine h2 I past' (fun x hx => rfl) ?_
    have e : hPush hs Hf π = (8, fun i => if i < 7 then Hf (i + 1) else π) := if_neg (by omega)
    rw [e]
    subst c8
    have hz : ∀ i, i < 9 → past' i = past (if i = 8 then 0 else i + 1) := by
      intro i hi
      rw [hp i hi]
      unfold zRot
      by_cases x : i = 8
      · subst x; rfl
      · rw [if_pos (by omega), if_neg x]
    refine ⟨e0, Nat.le_refl 8, fun i hi => ?_, fun i j hi hj hij => ?_, fun i hi => ?_⟩
    · rw [hz i hi]
      exact hc _ (by split <;> omega)
    · rw [hz i hi, hz j hj] at hij
      have := hd _ _ (by split <;> omega) (by split <;> omega) hij
      split at this <;> split at this <;> omega
    · have hi : i < 8 := hi
      show cPl I J (past' i) (if i < 7 then Hf (i + 1) else π)
      rw [hz i (by omega), if_neg (by omega)]
      by_cases x : i < 7
      · rw [if_pos x]; exact he (i + 1) (by omega)
      · rw [if_neg x]
        have : i = 7 := by omega
        subst this
        exact hπ
theorem c_ssize {G : zG} (hG : zGok G) {k' : Nat} (hk : 1 ≤ k') {I : Nat → Nat → Int32} {J : Nat → Nat → Int64} {past : Nat → Nat} {Q : zRt} {tn : Nat} {tf : Nat → Int32} (ht : cTxt I tn tf) (h : Q (some (.int (nI tn))) (zK0, I, J, zR0 past)) : zCalls G k' yX8_size [.ref 126] (zK0, I, J, zR0 past) Q := by
  refine rnX8_size hG hk 126 ?_
  refine sgX8_size hG [] 60 0 ?_
  rw [← ht.1] at h
  exact h
theorem cSt_dx {I I1 : Nat → Nat → Int32} {J J1 : Nat → Nat → Int64} {past : Nat → Nat} {S : zS} {π : zPl} (hS : cSt I J past S) (hv : vS S) (hf : cDx I J I1 J1) (hc : cPl I1 J1 1 π) : cSt I1 J1 past (π, S.2) := by
  obtain ⟨h1, h2, h3, h4, h5⟩ := hS
  obtain ⟨v1, v2, v3, v4, v5⟩ := hv
  refine ⟨hc, cHis_fr h2 (fun i hi => (v2.2 i hi).2.1) (fun x hx => hf x ?_), cKep_fr h3 (fun i hi c => (v3 i hi c).2.1) (fun x hx => hf x (by omega)), cTxt_fr h4 (hf 126 (by omega)).1 (hf 127 (by omega)).1, cNum_fr h5 (hf 128 (by omega)).1 (hf 129 (by omega)).2 (hf 12 (by omega)).1⟩
  rcases hx with rfl | ⟨i, h6, h7, h8⟩
  · omega
  · have h6 : i < S.2.1.1 := h6
    have := zS9_in (h2.2.2.1 i (by omega)); omega
theorem c_day {G : zG} (hs : zSok G) (hG : zGok G) {k' : Nat} (hk : 9 ≤ k') {I : Nat → Nat → Int32} {J : Nat → Nat → Int64} {past : Nat → Nat} {Q : zRt} {S : zS} (hS : cSt I J past S) (hv : vS S) (h : ∀ I' J' past', cSt I' J' past' (sDay S).2 → cFr I J I' J' → Q (some (.int (sDay S).1)) (zK0, I', J', zR0 past')) : zCalls G k' yX11_day [.ref 0] (zK0, I, J, zR0 past) Q := by
  obtain ⟨tn, etn⟩ : ∃ tn, tn = S.2.2.2.1.1 := ⟨_, rfl⟩
  obtain ⟨tf, etf⟩ : ∃ tf, tf = S.2.2.2.1.2 := ⟨_, rfl⟩
  obtain ⟨T, eT⟩ : ∃ T, T = tAt tn tf := ⟨_, rfl⟩
  have ht : cTxt I tn tf := by rw [etn, etf]; exact hS.2.2.2.1
  have h80 : tn ≤ 80 := by rw [etn]; exact hv.2.2.2.1.1
  have eX : sDx S = dyX T tn 80 0 S.1 0 := by unfold sDx; rw [← etn, ← etf, ← eT]
  unfold sDay at h
  rw [← etn, ← etf, ← eT, eX] at h
  refine rnX11_day hG hk 0 ?_
  refine sgX11_day hG [26] 60 0 ?_
  refine c_dayFault hs hG (by decide) ht h80 ?_
  rw [← eT]
  cases eF : dyF T tn 80 0 with
  | some e =>
    rw [eF] at h
    have eb := dyF_b h80 _ _ _ eF
    refine And.intro (fun q => absurd q (nI_m1 eb)) (fun _ => ?_)
    refine c_shorten hG (by decide) 0 (fun q => ?_) (fun _ _ => ?_)
    · exfalso
      rcases q with q | q
      · exact absurd q (by decide)
      · rw [ht.1] at q; exact absurd q (nI_pos (by omega))
    · exact h _ J past (cSt_tx hS hv (fun x hx => z_upI_ne hx) uI_s) (fun x hx => ⟨z_upI_ne (by omega), rfl⟩)
  | none =>
    rw [eF] at h
    refine And.intro (fun _ => ?_) (fun q => absurd rfl q)
    refine sgX11_day hG [44] 60 26 ?_
    refine c_open hG (by decide) hS.1 hv.1.1.1 hv.1.2.1 hS.2.1 (fun I1 J1 hf1 hq1 => ?_)
    obtain ⟨hS1, fr1⟩ := cSt_open hS hv hf1
    have hi := zS9_in (hS.2.1.2.2.1 S.2.1.1 (by have := hv.2.1.1; omega))
    -- the end
    have z90 : ∀ (π : zPl) (d p : Nat) (I2 : Nat → Nat → Int32) (J2 : Nat → Nat → Int64) (o4 : Option Value), dyX T tn 80 0 S.1 0 = (π, d, p) → vPl π → d ≤ 80 → p < 100 → cDx I1 J1 I2 J2 → cPl I2 J2 1 π → aX11_day G Q 90 [some (.ref 0), some (.int (oI none)), some (.int (nI d)), some (.int (nI p)), o4] [] (zK0, I2, J2, zR0 past) := by
      intro π d p I2 J2 o4 ex vπ hd hp f2 c2
      rw [ex] at h
      have hS2 : cSt I2 J2 past (π, S.2) := cSt_dx hS1 hv f2 c2
      have hπ2 : cPl I2 J2 (past S.2.1.1) S.1 := cPl_rg hq1 hv.1.2.1 (fun x a b => f2 x (by omega))
      have fr2 : cFr I J I2 J2 := fun x hx => ⟨(f2 x (by omega)).1.trans (fr1 x hx).1, (f2 x (by omega)).2.trans (fr1 x hx).2⟩
      -- behind the history
      have z101 : ∀ (I3 : Nat → Nat → Int32) (past' : Nat → Nat) (hn : Nat × (Nat → zPl)), hn = (if 0 < d then hPush S.2.1.1 S.2.1.2 S.1 else S.2.1) → cSt I3 J2 past' (π, hn, S.2.2) → cFr I J I3 J2 → cTxt I3 tn tf → (∀ i, i < 9 → past' i ∈ [27, 38, 49, 60, 71, 82, 93, 104, 115]) → (hn.1 ≤ 8 ∧ ∀ i, i < hn.1 → vPl (hn.2 i)) → aX11_day G Q 101 [some (.ref 0), some (.int (oI none)), some (.int (nI d)), some (.int (nI p)), o4] [] (zK0, I3, J2, zR0 past') := by
        intro I3 past' hn en hS3 fr3 ht3 hp9 vh
        have hv3 : vS (π, hn, S.2.2) := ⟨vπ, vh, hv.2.2⟩
        refine sgX11_day hG [128] 60 101 ?_
        refine c_clear hG (by decide) (fun I4 f4 n4 => ?_)
        have ht4 : cTxt I4 tn tf := cTxt_fr ht3 (f4 126 (by decide)) (f4 127 (by decide))
        have z128 : ∀ (x : Int64), x = lN (if p < tn then 1 else 0) → aX11_day G Q 128 [some (.ref 0), some (.int (oI none)), some (.int (nI d)), some (.int (nI p)), o4] [.long x, .ref 128] (zK0, I4, J2, zR0 past') := by
          intro x ex
          subst ex
          refine sgX11_day hG [] 60 128 ?_
          refine c_tell hG (by decide) n4 (by decide) _ (fun I5 J5 f5 g5 n5 => ?_)
          have q5 : cQ I3 J2 I5 J5 := fun x hx => ⟨by rw [f5 x (by omega), f4 x (by omega)], by rw [g5 x (by omega)]⟩
          have hS5 := cSt_tel hS3 hv3 q5 n5
          have hv5 : vS (sTel (π, hn, S.2.2) [lN (if p < tn then 1 else 0)]) := ⟨hv3.1, hv3.2.1, hv3.2.2.1, hv3.2.2.2.1, by show 1 ≤ 40; decide⟩
          have ht5 : cTxt I5 tn tf := cTxt_fr ht4 (f5 126 (by decide)) (f5 127 (by decide))
          refine c_shorten hG (by decide) 0 (fun q => ?_) (fun _ _ => ?_)
          · exfalso
            rcases q with q | q
            · exact absurd q (by decide)
            · rw [ht5.1] at q; exact absurd q (nI_pos (by omega))
          · have hS6 := cSt_tx (I1 := z_upI I5 126 0 0) hS5 hv5 (fun x hx => z_upI_ne hx) uI_s
            rw [← en] at h
            exact h _ J5 past' hS6 (fun x hx => ⟨by rw [z_upI_ne (by omega), f5 x (by omega), f4 x (by omega)]; exact (fr3 x hx).1, by rw [g5 x (by omega)]; exact (fr3 x hx).2⟩)
        refine c_ssize hG (by decide) ht4 ?_
        refine And.intro (fun c => ?_) (fun c => ?_)
        · rw [nI_leI (by omega) (by omega)] at c
          exact z128 0 (by rw [if_neg (by omega)]; rfl)
        · rw [nI_leI (by omega) (by omega)] at c
          exact z128 1 (by rw [if_pos (by omega)]; rfl)
      have ht2 : cTxt I2 tn tf := by rw [etn, etf]; exact hS2.2.2.2.1
      refine sgX11_day hG [101] 60 90 ?_
      refine And.intro (fun c => ?_) (fun c => ?_)
      · rw [show (0 : Int32) = nI 0 from rfl, nI_leI (by omega) (by omega)] at c
        exact z101 I2 past S.2.1 (by rw [if_neg (by omega)]) hS2 fr2 ht2 hS2.2.1.2.2.1 ⟨hv.2.1.1, hv.2.1.2⟩
      · rw [show (0 : Int32) = nI 0 from rfl, nI_leI (by omega) (by omega)] at c
        refine c_closeH hG (by decide) hS2.2.1 hπ2 (fun I3 past' f3 q3 => ?_)
        refine z101 I3 past' (hPush S.2.1.1 S.2.1.2 S.1) (by rw [if_pos (by omega)]) (cSt_noted hS2 ⟨vπ, hv.2.2.1⟩ f3 q3) (fun x hx => ⟨by rw [f3 x (by omega)]; exact (fr2 x hx).1, (fr2 x hx).2⟩) (cTxt_fr ht2 (f3 126 (by decide)) (f3 127 (by decide))) q3.2.2.1 ⟨q3.2.1, fun i hi => ?_⟩
        revert hi
        unfold hPush
        split
        · rename_i z
          intro hi
          have hi : i < S.2.1.1 + 1 := hi
          show vPl (va_up S.2.1.2 S.2.1.1 S.1 i)
          by_cases x : i = S.2.1.1
          · rw [x, va_up_self]; exact hv.1
          · rw [va_up_ne2 x]; exact hv.2.1.2 i (by omega)
        · rename_i z
          intro hi
          have hi : i < 8 := hi
          show vPl (if i < 7 then S.2.1.2 (i + 1) else S.1)
          have := hv.2.1.1
          split
          · exact hv.2.1.2 (i + 1) (by omega)
          · exact hv.1
    have loop : ∀ (r a d p : Nat) (va vd vp : Int32) (π : zPl) (I2 : Nat → Nat → Int32) (J2 : Nat → Nat → Int64), va = nI a → vd = nI d → vp = nI p → a + r = 80 → d ≤ a → p < 100 → vPl π → dyX T tn 80 0 S.1 0 = dyX T tn r p π d → cDx I1 J1 I2 J2 → cPl I2 J2 1 π → aX11_day G Q 44 [some (.ref 0), some (.int (oI none)), some (.int vd), some (.int vp), some (.int va)] [] (zK0, I2, J2, zR0 past) := by
      intro r
      induction r with
      | zero =>
        intro a d p va vd vp π I2 J2 ea ed ep ha hd hp vπ ex f2 c2
        subst ea
        subst ed
        subst ep
        have e : a = 80 := by omega
        subst e
        refine sgX11_day hG [90] 60 44 ?_
        refine And.intro (fun _ => ?_) (fun c => absurd (by decide) c)
        exact z90 π d p I2 J2 _ ex vπ (by omega) hp f2 c2
      | succ r ih =>
        intro a d p va vd vp π I2 J2 ea ed ep ha hd hp vπ ex f2 c2
        subst ea
        subst ed
        subst ep
        obtain ⟨a5, l1, l5⟩ := aF_5 (T p)
        have ht2 : cTxt I2 tn tf := cTxt_fr (cTxt_fr ht (hf1 126 (by omega)).1 (hf1 127 (by omega)).1) (f2 126 (by omega)).1 (f2 127 (by omega)).1
        have e1 : dyX T tn (r + 1) p π d = if p < tn then (if 0 ≤ (dyA T p π).1 then dyX T tn r (p + aLn (T p)) (dyA T p π).2 (d + 1) else (π, d, p)) else (π, d, p) := rfl
        rw [e1] at ex
        refine sgX11_day hG [44, 90] 60 44 ?_
        refine And.intro (fun c => absurd c (by rw [show (80 : Int32) = nI 80 from rfl, nI_leI (by omega) (by omega)]; omega)) (fun _ => ?_)
        refine c_ssize hG (by decide) ht2 ?_
        refine And.intro (fun c => ?_) (fun c => ?_)
        · rw [nI_leI (by omega) (by omega)] at c
          rw [if_neg (by omega)] at ex
          exact z90 π d p I2 J2 _ ex vπ (by omega) hp f2 c2
        rw [nI_leI (by omega) (by omega)] at c
        rw [if_pos (by omega)] at ex
        refine c_act hG (by decide) ht2 h80 c2 vπ (p := p) (by omega) rfl (fun I3 J3 f3 c3 => ?_)
        rw [← eT] at c3 ⊢
        have f4 : cDx I1 J1 I3 J3 := fun x hx => ⟨(f3 x hx).1.trans (f2 x hx).1, (f3 x hx).2.trans (f2 x hx).2⟩
        refine And.intro (fun q => ?_) (fun q => ?_)
        · rw [if_neg (Int32.not_le.mpr q)] at ex
          rw [dyA_no vπ (Int32.not_le.mpr q)] at c3
          exact z90 π d p I3 J3 _ ex vπ (by omega) hp f4 c3
        · rw [if_pos (Int32.not_lt.mp q)] at ex
          have ht3 : cTxt I3 tn tf := cTxt_fr ht2 (f3 126 (by omega)).1 (f3 127 (by omega)).1
          refine c_actLength hs hG (by decide) ht3 h80 (p := p) (by omega) rfl ?_
          rw [← eT]
          exact ih (a + 1) (d + 1) (p + aLn (T p)) _ _ _ _ I3 J3 (by rw [nI_1]) (by rw [nI_1]) (by rw [nI_add]) (by omega) (by omega) (by omega) (dyA_v vπ) ex f4 c3
    exact loop 80 0 0 0 0 0 0 S.1 I1 J1 rfl rfl rfl rfl (Nat.le_refl _) (by decide) hv.1 rfl (fun _ _ => ⟨rfl, rfl⟩) hS1.1
