theorem c_keep {G : zG} (hG : zGok G) {k' : Nat} (hk : 4 ≤ k') {I : Nat → Nat → Int32} {J : Nat → Nat → Int64} {past : Nat → Nat} {Q : zRt} {S : zS} (hS : cSt I J past S) (hv : vS S) (i : Int32) (h : ∀ I' J', cSt I' J' past (sKee S i).2 → cFr I J I' J' → Q (some (.int (sKee S i).1)) (zK0, I', J', zR0 past)) : zCalls G k' yX11_keep [.ref 0, .int i] (zK0, I, J, zR0 past) Q := by
  have no : bTwo i = false → Q (some (.int 0)) (zK0, I, J, zR0 past) := by
    intro e
    have e2 : sKee S i = (0, S) := by unfold sKee; rw [e]; rfl
    rw [e2] at h
    exact h I J hS (fun _ _ => ⟨rfl, rfl⟩)
  obtain ⟨h1, h2, h3, h4, h5⟩ := hS
  obtain ⟨v1, v2, v3, v4, v5⟩ := hv
  refine rnX11_keep hG hk 0 i ?_
  refine sgX11_keep hG [] 60 0 ?_
  refine And.intro (fun c => ?_) (fun c => ?_)
  · exact And.intro (Or.inl rfl) (no (by simp [bTwo, Int32.not_le.mpr c]))
  refine And.intro (fun c2 => ?_) (fun c2 => ?_)
  · have t : bTwo i = true := by simp [bTwo, Int32.not_lt.mp c, c2]
    obtain ⟨n, hn, rfl⟩ := bTwo_in t
    have en : (nI n).toNatClampNeg = n := nI_clamp (by omega)
    have hz : 271 + 11 * n ∈ zPS := by rcases (show n = 0 ∨ n = 1 by omega) with rfl | rfl <;> decide
    have hr : zR0 past 23 (nI n).toNatClampNeg = some (271 + 11 * n) := by rw [en]; rcases (show n = 0 ∨ n = 1 by omega) with rfl | rfl <;> rfl
    have hkd := (zPlc_of (past := past) hz).1
    refine And.intro (vp_in_nI (by omega) (by omega)) ⟨271 + 11 * n, hr, ?_⟩
    refine zB_in hkd ?_
    refine c_copy hG (by decide) (271 + 11 * n) 1 hz (by decide) (by omega) h1 v1.1.1 v1.2.1 (fun I' J' hf hq => ?_)
    refine And.intro (vp_in_nI (by omega) (by omega)) ?_
    refine And.intro (Or.inr rfl) ?_
    have e2 : sKee S (nI n) = (1, (S.1, S.2.1, ((fun j => if j = n then true else S.2.2.1.1 j), va_up S.2.2.1.2 n S.1), S.2.2.2)) := by unfold sKee; rw [t, en]; rfl
    rw [e2] at h
    have en2 : (nI n).toNatClampNeg = n := en
    have fr : ∀ x, x < 271 ∨ 293 ≤ x → x ≠ 24 → z_upI I' 24 (nI n).toNatClampNeg (vp_nar .boolean 1) x = I x ∧ J' x = J x := fun x a b => ⟨by rw [z_upI_ne b]; exact (hf x (by omega)).1, (hf x (by omega)).2⟩
    refine h _ J' ⟨cPl_rg h1 v1.2.1 (fun x a b => fr x (by omega) (by omega)), cHis_fr h2 (fun i hi => (v2.2 i hi).2.1) (fun x hx => fr x ?_ ?_), fun j hj => ?_, cTxt_fr h4 (fr 126 (by omega) (by omega)).1 (fr 127 (by omega) (by omega)).1, cNum_fr h5 (fr 128 (by omega) (by omega)).1 (fr 129 (by omega) (by omega)).2 (fr 12 (by omega) (by omega)).1⟩ (fun x hx => fr x (by omega) (by omega))
    · rcases hx with rfl | ⟨i, h6, h7, h8⟩
      · omega
      · have h6 : i < S.2.1.1 := h6
        have := zS9_in (h2.2.2.1 i (by omega)); omega
    · rcases hx with rfl | ⟨i, h6, h7, h8⟩
      · omega
      · have h6 : i < S.2.1.1 := h6
        have := zS9_in (h2.2.2.1 i (by omega)); omega
    · show z_upI I' 24 (nI n).toNatClampNeg (vp_nar .boolean 1) 24 j = zb (if j = n then true else S.2.2.1.1 j) ∧ ((if j = n then true else S.2.2.1.1 j) = true → cPl _ J' (271 + 11 * j) (va_up S.2.2.1.2 n S.1 j))
      rw [en]
      by_cases x : j = n
      · subst x
        rw [uI_s, if_pos rfl, va_up_self]
        exact ⟨by decide, fun _ => cPl_fr hq (z_upI_ne (by omega)) (z_upI_ne (by omega)) (fun _ _ => rfl)⟩
      · rw [uI_k x, if_neg x, va_up_ne2 x, (hf 24 (by omega)).1]
        exact ⟨(h3 j hj).1, fun c => cPl_rg ((h3 j hj).2 c) (v3 j hj c).2.1 (fun y a b => ⟨by rw [z_upI_ne (by omega)]; exact (hf y (by omega)).1, (hf y (by omega)).2⟩)⟩
  · exact And.intro (Or.inl rfl) (no (by simp [bTwo, Int32.not_lt.mpr (Int32.not_lt.mp c2)]))
theorem c_again {G : zG} (hG : zGok G) {k' : Nat} (hk : 4 ≤ k') {I : Nat → Nat → Int32} {J : Nat → Nat → Int64} {past : Nat → Nat} {Q : zRt} {S : zS} (hS : cSt I J past S) (hv : vS S) (i : Int32) (h : ∀ I' J', cSt I' J' past (sAga S i).2 → cFr I J I' J' → Q (some (.int (sAga S i).1)) (zK0, I', J', zR0 past)) : zCalls G k' yX11_again [.ref 0, .int i] (zK0, I, J, zR0 past) Q := by
  have no : (bTwo i && S.2.2.1.1 i.toNatClampNeg) = false → Q (some (.int 0)) (zK0, I, J, zR0 past) := by
    intro e
    have e2 : sAga S i = (0, S) := by unfold sAga; rw [e]; rfl
    rw [e2] at h
    exact h I J hS (fun _ _ => ⟨rfl, rfl⟩)
  obtain ⟨h1, h2, h3, h4, h5⟩ := hS
  obtain ⟨v1, v2, v3, v4, v5⟩ := hv
  refine rnX11_again hG hk 0 i ?_
  refine sgX11_again hG [] 60 0 ?_
  refine And.intro (fun c => ?_) (fun c => ?_)
  · exact And.intro (Or.inl rfl) (no (by simp [bTwo, Int32.not_le.mpr c]))
  refine And.intro (fun c2 => ?_) (fun c2 => ?_)
  · exact And.intro (Or.inl rfl) (no (by simp [bTwo, Int32.not_lt.mpr c2]))
  have t : bTwo i = true := by simp [bTwo, Int32.not_lt.mp c, Int32.not_le.mp c2]
  obtain ⟨n, hn, rfl⟩ := bTwo_in t
  have en : (nI n).toNatClampNeg = n := nI_clamp (by omega)
  rw [en] at no
  have ek : I 24 (nI n).toNatClampNeg = zb (S.2.2.1.1 n) := by rw [en]; exact (h3 n hn).1
  refine And.intro (vp_in_nI (by omega) (by omega)) ?_
  refine And.intro (fun c3 => ?_) (fun c3 => ?_)
  · have c3 : S.2.2.1.1 n = true := z_nb1 (x := 0) (by rw [← ek]; exact c3)
    have hz : 271 + 11 * n ∈ zPS := by rcases (show n = 0 ∨ n = 1 by omega) with rfl | rfl <;> decide
    have hr : zR0 past 23 (nI n).toNatClampNeg = some (271 + 11 * n) := by rw [en]; rcases (show n = 0 ∨ n = 1 by omega) with rfl | rfl <;> rfl
    have vq := v3 n hn c3
    refine And.intro (vp_in_nI (by omega) (by omega)) ⟨271 + 11 * n, hr, ?_⟩
    refine c_copy hG (by decide) 1 (271 + 11 * n) (by decide) hz (by omega) ((h3 n hn).2 c3) vq.1.1 vq.2.1 (fun I' J' hf hq => ?_)
    refine rnX2_forget hG (by decide) 25 ?_
    refine sgX2_forget hG [] 60 0 ?_
    refine And.intro (Or.inr rfl) ?_
    have e2 : sAga S (nI n) = (1, (S.2.2.1.2 n, (0, S.2.1.2), S.2.2)) := by unfold sAga; rw [t, en, c3]; rfl
    rw [e2] at h
    have fr : ∀ x, 12 ≤ x → x ≠ 25 → z_upI I' 25 0 0 x = I x ∧ J' x = J x := fun x a b => ⟨by rw [z_upI_ne b]; exact (hf x (by omega)).1, (hf x (by omega)).2⟩
    refine h _ J' ⟨cPl_fr hq (z_upI_ne (by omega)) (z_upI_ne (by omega)) (fun _ _ => rfl), ⟨uI_s, Nat.zero_le 8, h2.2.2.1, h2.2.2.2.1, fun i hi => absurd hi (Nat.not_lt_zero i)⟩, cKep_fr h3 (fun i hi c => (v3 i hi c).2.1) (fun x hx => fr x (by omega) (by omega)), cTxt_fr h4 (fr 126 (by omega) (by omega)).1 (fr 127 (by omega) (by omega)).1, cNum_fr h5 (fr 128 (by omega) (by omega)).1 (fr 129 (by omega) (by omega)).2 (fr 12 (by omega) (by omega)).1⟩ (fun x hx => fr x (by omega) (by omega))
  · have c3 : S.2.2.1.1 n = false := (zb_eq0 _).mp (by rw [← ek]; exact c3)
    exact And.intro (Or.inl rfl) (no (by rw [c3, Bool.and_false]))
theorem c_endS {G : zG} (hG : zGok G) {k' : Nat} (hk : 2 ≤ k') {I : Nat → Nat → Int32} {J : Nat → Nat → Int64} {past : Nat → Nat} {Q : zRt} {S : zS} (hS : cSt I J past S) (hv : vS S) (n : Int32) (h : ∀ I', cSt I' J past (sEnd S n).2 → cFr I J I' J → Q (some (.int (sEnd S n).1)) (zK0, I', J, zR0 past)) : zCalls G k' yX11_end [.ref 0, .int n] (zK0, I, J, zR0 past) Q := by
  obtain ⟨h1, h2, h3, h4, h5⟩ := id hS
  obtain ⟨v1, v2, v3, v4, v5⟩ := hv
  refine c_end hG hk n (fun c => ?_) (fun c d => ?_)
  · rw [h4.1] at c
    have e : sEnd S n = (0, S) := if_pos c
    rw [e] at h
    exact h I hS (fun _ _ => ⟨rfl, rfl⟩)
  · rw [h4.1] at d
    have e : sEnd S n = (1, (S.1, S.2.1, S.2.2.1, (n.toNatClampNeg, S.2.2.2.1.2), S.2.2.2.2)) := if_neg (fun q => q.elim c d)
    rw [e] at h
    obtain ⟨j, hj, rfl⟩ := nI_of c
    rw [nI_ltI (by omega) hj] at d
    have fr : ∀ x, x ≠ 126 → z_upI I 126 0 (nI j) x = I x := fun x a => z_upI_ne a
    refine h _ ⟨cPl_rg h1 v1.2.1 (fun x a b => ⟨fr x (by omega), rfl⟩), cHis_fr h2 (fun i hi => (v2.2 i hi).2.1) (fun x hx => ⟨fr x ?_, rfl⟩), cKep_fr h3 (fun i hi c => (v3 i hi c).2.1) (fun x hx => ⟨fr x (by omega), rfl⟩), ⟨by rw [uI_s, nI_clamp hj], fun i hi => ?_⟩, cNum_fr h5 (fr 128 (by omega)) rfl (fr 12 (by omega))⟩ (fun x hx => ⟨fr x (by omega), rfl⟩)
    · rcases hx with rfl | ⟨i, h6, h7, h8⟩
      · omega
      · have h6 : i < S.2.1.1 := h6
        have := zS9_in (h2.2.2.1 i (by omega)); omega
    · have hi : i < (nI j).toNatClampNeg := hi
      rw [nI_clamp hj] at hi
      rw [uI_p (by decide)]
      exact h4.2 i (by omega)
theorem c_size {G : zG} (hG : zGok G) {k' : Nat} (hk : 1 ≤ k') {I : Nat → Nat → Int32} {J : Nat → Nat → Int64} {past : Nat → Nat} {Q : zRt} (h : Q (some (.int (I 126 0))) (zK0, I, J, zR0 past)) : zCalls G k' yX8_size [.ref 126] (zK0, I, J, zR0 past) Q := by
  refine rnX8_size hG hk 126 ?_
  refine sgX8_size hG [] 60 0 ?_
  exact h
theorem c_tappend {G : zG} (hG : zGok G) {k' : Nat} (hk : 1 ≤ k') {I : Nat → Nat → Int32} {J : Nat → Nat → Int64} {past : Nat → Nat} {Q : zRt} {n : Nat} (hn : I 126 0 = nI n) (h80 : n < 80) (v : Int32) (h : Q none (zK0, z_upI (z_upI I 127 n v) 126 0 (nI (n + 1)), J, zR0 past)) : zCalls G k' yX8_append [.ref 126, .int v] (zK0, I, J, zR0 past) Q := by
  refine rnX8_append hG hk 126 v ?_
  refine sgX8_append hG [] 60 0 ?_
  refine And.intro (fun c => absurd c (by rw [hn]; exact nI_pos (by omega))) (fun _ => ?_)
  refine And.intro (fun c => absurd c (by rw [hn, show Int32.ofNat 80 = nI 80 from rfl, nI_leI (by omega) (by omega)]; omega)) (fun _ => ?_)
  refine And.intro (by rw [hn]; exact vp_in_nI (by omega) (by omega)) ?_
  have e1 : (I 126 0).toNatClampNeg = n := by rw [hn, nI_clamp (by omega)]
  have e2 : z_upI I 127 (I 126 0).toNatClampNeg v 126 0 + 1 = nI (n + 1) := by rw [uI_p (by decide), hn, nI_1]
  rw [← e2, ← e1] at h
  exact h
theorem c_sign {G : zG} (hG : zGok G) {k' : Nat} (hk : 2 ≤ k') {I : Nat → Nat → Int32} {J : Nat → Nat → Int64} {past : Nat → Nat} {Q : zRt} {S : zS} (hS : cSt I J past S) (hv : vS S) (v : Int32) (h : ∀ I', cSt I' J past (sSgn S v).2 → cFr I J I' J → Q (some (.int (sSgn S v).1)) (zK0, I', J, zR0 past)) : zCalls G k' yX11_sign [.ref 0, .int v] (zK0, I, J, zR0 past) Q := by
  obtain ⟨h1, h2, h3, h4, h5⟩ := id hS
  obtain ⟨v1, v2, v3, v4, v5⟩ := hv
  have en := h4.1
  have e4 : I 126 0 + 4 = nI (S.2.2.2.1.1 + 4) := by rw [en, show (4 : Int32) = nI 4 from rfl, nI_add]
  refine rnX11_sign hG hk 0 v ?_
  refine sgX11_sign hG [] 200 0 ?_
  refine c_size hG (by decide) ?_
  refine And.intro (fun c => ?_) (fun c => ?_)
  · rw [e4, show (80 : Int32) = nI 80 from rfl, nI_leI (by omega) (by omega)] at c
    have e : sSgn S v = (nI (S.2.2.2.1.1 + 4), (S.1, S.2.1, S.2.2.1, (S.2.2.2.1.1 + 4, fun j => if j < S.2.2.2.1.1 then S.2.2.2.1.2 j else zByt v (j - S.2.2.2.1.1)), S.2.2.2.2)) := if_neg (by omega)
    rw [e] at h
    generalize S.2.2.2.1.1 = n at *
    refine And.intro (fun q => absurd q (by decide)) (fun _ => ?_)
    refine c_tappend hG (by decide) en (by omega) _ ?_
    refine And.intro (fun q => absurd q (by decide)) (fun _ => ?_)
    refine c_tappend hG (by decide) (n := n + 1) uI_s (by omega) _ ?_
    refine And.intro (fun q => absurd q (by decide)) (fun _ => ?_)
    refine c_tappend hG (by decide) (n := n + 2) uI_s (by omega) _ ?_
    refine And.intro (fun q => absurd q (by decide)) (fun _ => ?_)
    refine c_tappend hG (by decide) (n := n + 3) uI_s (by omega) _ ?_
    refine And.intro (fun _ => ?_) (fun q => absurd (by decide) q)
    refine c_size hG (by decide) ?_
    rw [uI_s]
    have fr : ∀ (I2 : Nat → Nat → Int32), (∀ x, x ≠ 126 → x ≠ 127 → I2 x = I x) → I2 126 0 = nI (n + 4) → (∀ j, j < n + 4 → I2 127 j = if j < n then S.2.2.2.1.2 j else zByt v (j - n)) → Q (some (.int (nI (n + 4)))) (zK0, I2, J, zR0 past) := by
      intro I2 f1 f2 f3
      refine h I2 ⟨cPl_rg h1 v1.2.1 (fun x a b => ⟨f1 x (by omega) (by omega), rfl⟩), cHis_fr h2 (fun i hi => (v2.2 i hi).2.1) (fun x hx => ⟨f1 x ?_ ?_, rfl⟩), cKep_fr h3 (fun i hi c => (v3 i hi c).2.1) (fun x hx => ⟨f1 x (by omega) (by omega), rfl⟩), ⟨f2, f3⟩, cNum_fr h5 (f1 128 (by omega) (by omega)) rfl (f1 12 (by omega) (by omega))⟩ (fun x hx => ⟨f1 x (by omega) (by omega), rfl⟩)
      all_goals
        rcases hx with rfl | ⟨i, h6, h7, h8⟩
        · omega
        · have h6 : i < S.2.1.1 := h6
          have := zS9_in (h2.2.2.1 i (by omega)); omega
    refine fr _ (fun x a b => ?_) uI_s (fun j hj => ?_)
    · rw [z_upI_ne a, z_upI_ne b, z_upI_ne a, z_upI_ne b, z_upI_ne a, z_upI_ne b, z_upI_ne a, z_upI_ne b]
    · simp only [uI_p (show (127 : Nat) ≠ 126 by decide)]
      by_cases x3 : j = n + 3
      · subst x3; rw [uI_s, if_neg (by omega), show n + 3 - n = 3 by omega]; rfl
      rw [uI_k x3, uI_p (by decide)]
      by_cases x2 : j = n + 2
      · subst x2; rw [uI_s, if_neg (by omega), show n + 2 - n = 2 by omega]; rfl
      rw [uI_k x2, uI_p (by decide)]
      by_cases x1 : j = n + 1
      · subst x1; rw [uI_s, if_neg (by omega), show n + 1 - n = 1 by omega]; rfl
      rw [uI_k x1, uI_p (by decide)]
      by_cases x0 : j = n
      · subst x0; rw [uI_s, if_neg (by omega), show j - j = 0 by omega]; rfl
      rw [uI_k x0, if_pos (by omega)]
      exact h4.2 j (by omega)
  · rw [e4, show (80 : Int32) = nI 80 from rfl, nI_leI (by omega) (by omega)] at c
    have e : sSgn S v = (-1, S) := if_pos (by omega)
    rw [e] at h
    exact h I hS (fun _ _ => ⟨rfl, rfl⟩)
