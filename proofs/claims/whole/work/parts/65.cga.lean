-- ===== most, gains (class) =====
def bSm (a b : Int32) : Bool := (decide (-9 ≤ a) && decide (a ≤ 9)) && (decide (-9 ≤ b) && decide (b ≤ 9))
theorem bSm_bd {a b : Int32} (h : bSm a b = true) : a.toInt.natAbs ≤ 9 ∧ b.toInt.natAbs ≤ 9 := by
  simp only [bSm, Bool.and_eq_true, decide_eq_true_eq] at h
  obtain ⟨⟨a1, a2⟩, b1, b2⟩ := h
  have e1 : (-9 : Int32).toInt = -9 := by decide
  have e2 : (9 : Int32).toInt = 9 := by decide
  rw [Int32.le_iff_toInt_le] at a1 a2 b1 b2
  omega
theorem c_isSum {G : zG} (hG : zGok G) {k' : Nat} (hk : 1 ≤ k') {σ : zSt} {Q : zRt} (a b : Int32) (h : Q (some (.int (zb (bSm a b)))) σ) : zCalls G k' yX11_isSum [.int a, .int b] σ Q := by
  have no : bSm a b = false → Q (some (.int 0)) σ := fun e => by rw [e] at h; exact h
  refine rnX11_isSum hG hk a b ?_
  refine sgX11_isSum hG [] 60 0 ?_
  refine And.intro (fun c1 => ?_) (fun c1 => ?_)
  · exact And.intro (Or.inl rfl) (no (by simp [bSm, Int32.not_le.mpr c1]))
  refine And.intro (fun c2 => ?_) (fun c2 => ?_)
  · exact And.intro (Or.inl rfl) (no (by simp [bSm, Int32.not_le.mpr c2]))
  refine And.intro (fun c3 => ?_) (fun c3 => ?_)
  · exact And.intro (Or.inl rfl) (no (by simp [bSm, Int32.not_le.mpr c3]))
  refine And.intro (fun c4 => ?_) (fun c4 => ?_)
  · exact And.intro (Or.inl rfl) (no (by simp [bSm, Int32.not_le.mpr c4]))
  refine And.intro (Or.inr rfl) ?_
  have e : bSm a b = true := by simp [bSm, Int32.not_lt.mp c1, Int32.not_lt.mp c2, Int32.not_lt.mp c3, Int32.not_lt.mp c4]
  rw [e] at h; exact h
theorem c_start {G : zG} (hG : zGok G) {k' : Nat} (hk : 1 ≤ k') {I : Nat → Nat → Int32} {J : Nat → Nat → Int64} {past : Nat → Nat} {Q : zRt} {w p b v : Nat} (hf : moF past w p b v) {A B : Int} {x y : Int32} (ex : x = Int32.ofInt A) (ey : y = Int32.ofInt B) (h : ∀ I', (∀ x, x ≠ p → I' x = I x) → cMo I' J p b A B none → Q none (zK0, I', J, zR0 past)) : zCalls G k' yX3_start [.ref p, .int x, .int y] (zK0, I, J, zR0 past) Q := by
  obtain ⟨⟨hw, ep, eb, ev⟩, p3, r3, r4, b6, v6⟩ := hf
  refine rnX3_start hG hk p _ _ ?_
  refine sgX3_start hG [] 60 0 ?_
  refine zB_in p3 ?_
  refine zB_in p3 ?_
  refine zB_in p3 (And.intro (Or.inl rfl) ?_)
  refine h _ (fun x hx => by rw [z_upI_ne hx, z_upI_ne hx, z_upI_ne hx]) ⟨?_, ?_, ?_, fun f hf => by cases hf⟩
  · rw [uI_k (by decide), uI_k (by decide), uI_s, ex]
  · rw [uI_k (by decide), uI_s, ey]
  · rw [uI_s]; rfl
theorem c_findMost {G : zG} (hG : zGok G) {k' : Nat} (hk : 7 ≤ k') {I : Nat → Nat → Int32} {J : Nat → Nat → Int64} {past : Nat → Nat} {Q : zRt} {π : zPl} (hc : cPl I J 1 π) (hv : vPl π) {A B : Int} (ba : A.natAbs ≤ 9) (bb : B.natAbs ≤ 9) {n : Nat} (hn : n < 4) {x y N : Int32} (ex : x = Int32.ofInt A) (ey : y = Int32.ofInt B) (eN : N = nI n) (h : ∀ I' J', (∀ x, x < 132 ∨ (267 ≤ x ∧ x < 293 + 3 * n) ∨ 296 + 3 * n ≤ x → I' x = I x ∧ J' x = J x) → cMo I' J' (293 + 3 * n) (294 + 3 * n) A B (mxW π A B n) → Q none (zK0, I', J', zR0 past)) : zCalls G k' yX11_findMost [.ref 0, .int x, .int y, .int N] (zK0, I, J, zR0 past) Q := by
  subst eN
  have h8 := hv.2.1
  have hf := moF_of past hn
  have hr := moF_r past hn
  obtain ⟨p, ep⟩ : ∃ p, p = 293 + 3 * n := ⟨_, rfl⟩
  obtain ⟨b, eb⟩ : ∃ b, b = 294 + 3 * n := ⟨_, rfl⟩
  obtain ⟨v, ev⟩ : ∃ v, v = 295 + 3 * n := ⟨_, rfl⟩
  rw [← ep, ← eb, ← ev] at hf
  rw [← ep] at hr
  rw [← ep, ← eb] at h
  obtain ⟨_, p3, r3, r4, b6, v6⟩ := id hf
  refine rnX11_findMost hG hk 0 _ _ _ ?_
  refine sgX11_findMost hG [] 60 0 ?_
  refine And.intro (by exact vp_in_nI (by omega) (by omega)) ⟨p, by rw [nI_clamp (by omega)]; exact hr, ?_⟩
  refine zB_in p3 ?_
  refine c_start hG (by decide) hf ex ey (fun I1 f1 m1 => ?_)
  have hc1 : cPl I1 J 1 π := cPl_rg hc h8 (fun x a c => ⟨f1 x (by omega), rfl⟩)
  refine And.intro (fun c => ?_) (fun c => ?_)
  · rw [show (0 : Int32) = nI 0 from rfl, nI_eq (by omega) (by omega)] at c
    refine And.intro (fun d => ?_) (fun d => ?_)
    · rw [show (3 : Int32) = nI 3 from rfl, nI_eq (by omega) (by omega)] at d
      have e : mxW π A B n = mx1 π A B (n - 1) := by unfold mxW; rw [if_neg c, if_neg d]
      rw [e] at h
      refine c_workOutFirst hG (by decide) hc1 hv (sTb π) (fun _ _ => rfl) (fun I2 J2 f2 t2 => ?_)
      refine zB_in p3 ?_
      refine c_overSlices hG (by decide) hv t2 hf ba bb (cMo_fr m1 (f2 p (by omega)).1 (f2 b (by omega)).2) (wy := n - 1) (by omega) (by rw [show (1 : Int32) = nI 1 from rfl, pk_sub (by omega)]) (fun I3 J3 f3 g3 m3 => ?_)
      refine h I3 J3 (fun x hx => ⟨?_, ?_⟩) m3
      · rw [f3 x (by omega), (f2 x (by omega)).1, f1 x (by omega)]
      · rw [g3 x (by omega) (by omega), (f2 x (by omega)).2]
    · rw [show (3 : Int32) = nI 3 from rfl, nI_eq (by omega) (by omega)] at d
      have e : mxW π A B n = mx3 π A B := by unfold mxW; rw [if_neg c, if_pos d]
      rw [e] at h
      refine c_gather hG (by decide) (Or.inl rfl) hc1 hv.1.1 (-1) (fun I2 f2 p2 => ?_)
      refine zB_in p3 ?_
      refine c_overPoints hG (by decide) p2 (zPts_bd π (-1)) hf ba bb (cMo_fr m1 (f2 p (by omega) (by omega) (by omega)) rfl) (fun I3 J3 f3 g3 m3 => ?_)
      refine h I3 J3 (fun x hx => ⟨?_, ?_⟩) m3
      · rw [f3 x (by omega), f2 x (by omega) (by omega) (by omega), f1 x (by omega)]
      · rw [g3 x (by omega) (by omega)]
  · rw [show (0 : Int32) = nI 0 from rfl, nI_eq (by omega) (by omega)] at c
    have e : mxW π A B n = mx0 π A B := by unfold mxW; rw [if_pos c]
    rw [e] at h
    refine zB_in p3 ?_
    refine c_overCorners hG (by decide) hc1 hv hf ba bb m1 (fun I3 J3 f3 g3 m3 => ?_)
    refine h I3 J3 (fun x hx => ⟨?_, ?_⟩) m3
    · rw [f3 x (by omega), f1 x (by omega)]
    · rw [g3 x (by omega) (by omega)]
def sMos (π : zPl) (a b c : Int32) : Int32 × Option (List Int64) := if bSm a b && bUp 3 c then (match mxW π a.toInt b.toInt c.toNatClampNeg with
  | none => (-2, none)
  | some f => (0, some (fPr f))) else (-1, none)
theorem c_most {G : zG} (hG : zGok G) {k' : Nat} (hk : 8 ≤ k') {I : Nat → Nat → Int32} {J : Nat → Nat → Int64} {past : Nat → Nat} {Q : zRt} {S : zS} (hS : cSt I J past S) (hv : vS S) (a b c : Int32) (h : ∀ I' J', cSt I' J' past (sOut S ( sMos S.1 a b c)) → cFr I J I' J' → Q (some (.int ( sMos S.1 a b c).1)) (zK0, I', J', zR0 past)) : zCalls G k' yX11_most [.ref 0, .int a, .int b, .int c] (zK0, I, J, zR0 past) Q := by
  refine rnX11_most hG hk 0 a b c ?_
  have no : (bSm a b && bUp 3 c) = false → Q (some (.int (-1))) (zK0, I, J, zR0 past) := by
    intro e
    unfold sMos at h
    rw [e, if_neg (by decide)] at h
    exact h I J hS (fun _ _ => ⟨rfl, rfl⟩)
  have i4 : Int32.ofNat 4 ≤ c ↔ ¬ c ≤ 3 := by rw [Int32.le_iff_toInt_le, Int32.le_iff_toInt_le, show (Int32.ofNat 4).toInt = 4 by decide, show (3 : Int32).toInt = 3 by decide]; omega
  refine sgX11_most hG [23] 60 0 ?_
  refine c_isSum hG (by decide) a b ?_
  refine And.intro (fun c1 => no (by rw [(zb_eq0 _).mp c1]; rfl)) (fun c1 => ?_)
  have c1 := z_nb1 (x := 0) c1
  refine And.intro (fun c2 => no (by rw [bUp_lo c2, Bool.and_false])) (fun c2 => ?_)
  refine And.intro (fun c3 => ?_) (fun c3 => ?_)
  rotate_left
  · exact no (by rw [bUp_hi (by rw [← i4]; exact Int32.not_lt.mp c3), Bool.and_false])
  have t : bUp (nI 3) c = true := bUp_ok c2 (by rcases Int32.le_total c 3 with z | z; exact z; exact Decidable.byContradiction (fun q => absurd (i4.mpr q) (Int32.not_le.mpr c3)))
  obtain ⟨ba, bb⟩ := bSm_bd c1
  obtain ⟨n, hn, rfl⟩ := bUp_in (n := 3) (by decide) t
  unfold sMos at h
  rw [c1, show (3 : Int32) = nI 3 from rfl, t, nI_clamp (by omega), Bool.true_and, if_pos rfl] at h
  have hr := moF_r past (w := n) (by omega)
  obtain ⟨_, p3, r3, r4, b6, v6⟩ := moF_of past (w := n) (by omega)
  refine sgX11_most hG [] 60 23 ?_
  refine c_findMost hG (by decide) hS.1 hv.1 ba bb (n := n) (by omega) (i_of a) (i_of b) rfl (fun I1 J1 f1 m1 => ?_)
  have q1 : cQ I J I1 J1 := fun x hx => f1 x (by omega)
  refine And.intro (by exact vp_in_nI (by omega) (by omega)) ⟨293 + 3 * n, by rw [nI_clamp (by omega)]; exact hr, ?_⟩
  refine zB_in p3 ?_
  cases e : mxW S.1 a.toInt b.toInt n with
  | none =>
    rw [e] at h m1
    refine And.intro (fun c => absurd m1.2.2.1 c) (fun _ => ?_)
    exact h I1 J1 (cSt_same hS hv q1 (f1 128 (by omega)).1 (f1 129 (by omega)).2) (cQ_fr q1)
  | some f =>
    rw [e] at h m1
    refine And.intro (fun _ => ?_) (fun c => absurd (c.symm.trans m1.2.2.1) (show ¬ (0 : Int32) = zb true by decide))
    refine c_clear hG (by decide) (fun I2 f2 n2 => ?_)
    refine And.intro (by exact vp_in_nI (by omega) (by omega)) ⟨293 + 3 * n, by rw [nI_clamp (by omega)]; exact hr, ?_⟩
    refine zB_in p3 (op_in r3 ?_)
    refine c_tellRatio hG (by decide) n2 (by decide) (294 + 3 * n) b6 (by omega) (fun I3 J3 f3 g3 n3 => ?_)
    obtain ⟨z1, z2⟩ := m1.2.2.2 f rfl
    rw [z1, z2] at n3
    have q3 : cQ I J I3 J3 := cQ_tr q1 (fun x hx => ⟨by rw [f3 x (by omega), f2 x (by omega)], by rw [g3 x (by omega)]⟩)
    exact h I3 J3 (cSt_tel hS hv q3 n3) (cQ_fr q3)
