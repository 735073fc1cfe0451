-- ===== years =====
def dN (s : Int32) : Int32 := s * 1103515245 + 12345
def dU (s : Int32) : Int32 := ((dN s).toUInt32 >>> ((16 : Int32).toUInt32 &&& Int32.toUInt32 31)).toInt32
def dV (s n : Int32) : Int32 := dU s - dU s / n * n
def yN (D : Int32 → Int32 → Int32) (N : Int32 → Int32) (s : Int32) : Int32 := if D s 3 = 0 then N (N (N s)) else if D s 3 = 1 then N (N (N (N s))) else N (N s)
def yP (D : Int32 → Int32 → Int32) (N : Int32 → Int32) (s : Int32) (π : zPl) : Int32 × zPl := if D s 3 = 0 then sBec π (D (N s) 6) (D (N (N s)) 51) else if D s 3 = 1 then sAdd π (D (N s) 11 - 5) (D (N (N s)) 11 - 5) (D (N (N (N s))) 41) else sDrp π (D (N s) 6)
def yA (D : Int32 → Int32 → Int32) (N : Int32 → Int32) : Nat → Int32 → Int32
  | 0, s => s
  | k + 1, s => yN D N (yA D N k s)
def yR (D : Int32 → Int32 → Int32) (N : Int32 → Int32) (s : Int32) (π : zPl) : Nat → zPl
  | 0 => π
  | k + 1 => (yP D N (yA D N k s) (yR D N s π k)).2
def yC (D : Int32 → Int32 → Int32) (N : Int32 → Int32) (s : Int32) (π : zPl) : Nat → Nat
  | 0 => 0
  | k + 1 => yC D N s π k + if 0 ≤ (yP D N (yA D N k s) (yR D N s π k)).1 then 1 else 0
theorem yN_0 {D : Int32 → Int32 → Int32} {N : Int32 → Int32} {s : Int32} (c : D s 3 = 0) : yN D N s = N (N (N s)) := by unfold yN; rw [if_pos c]
theorem yN_1 {D : Int32 → Int32 → Int32} {N : Int32 → Int32} {s : Int32} (c : ¬ D s 3 = 0) (d : D s 3 = 1) : yN D N s = N (N (N (N s))) := by unfold yN; rw [if_neg c, if_pos d]
theorem yN_2 {D : Int32 → Int32 → Int32} {N : Int32 → Int32} {s : Int32} (c : ¬ D s 3 = 0) (d : ¬ D s 3 = 1) : yN D N s = N (N s) := by unfold yN; rw [if_neg c, if_neg d]
theorem yP_0 {D : Int32 → Int32 → Int32} {N : Int32 → Int32} {s : Int32} (c : D s 3 = 0) (π : zPl) : yP D N s π = sBec π (D (N s) 6) (D (N (N s)) 51) := by unfold yP; rw [if_pos c]
theorem yP_1 {D : Int32 → Int32 → Int32} {N : Int32 → Int32} {s : Int32} (c : ¬ D s 3 = 0) (d : D s 3 = 1) (π : zPl) : yP D N s π = sAdd π (D (N s) 11 - 5) (D (N (N s)) 11 - 5) (D (N (N (N s))) 41) := by unfold yP; rw [if_neg c, if_pos d]
theorem yP_2 {D : Int32 → Int32 → Int32} {N : Int32 → Int32} {s : Int32} (c : ¬ D s 3 = 0) (d : ¬ D s 3 = 1) (π : zPl) : yP D N s π = sDrp π (D (N s) 6) := by unfold yP; rw [if_neg c, if_neg d]
theorem yP_v {D : Int32 → Int32 → Int32} {N : Int32 → Int32} {s : Int32} {π : zPl} (h : vPl π) : vPl (yP D N s π).2 := by
  by_cases c : D s 3 = 0
  · rw [yP_0 c]; exact sBec_v h
  · by_cases d : D s 3 = 1
    · rw [yP_1 c d]; exact sAdd_v h
    · rw [yP_2 c d]; exact sDrp_v h
theorem yR_v {D : Int32 → Int32 → Int32} {N : Int32 → Int32} {s : Int32} {π : zPl} (h : vPl π) : ∀ n, vPl (yR D N s π n)
  | 0 => h
  | n + 1 => by
    have k := yP_v (D := D) (N := N) (s := yA D N n s) (yR_v (D := D) (N := N) (s := s) h n)
    unfold yR
    exact k
theorem yC_le {D : Int32 → Int32 → Int32} {N : Int32 → Int32} {s : Int32} {π : zPl} : ∀ n, yC D N s π n ≤ n
  | 0 => Nat.le_refl 0
  | n + 1 => by
    have := yC_le (D := D) (N := N) (s := s) (π := π) n
    unfold yC
    split <;> omega
/-- the rows alone matter -/
def zRo (π ρ : zPl) : Prop := π.1 = ρ.1 ∧ π.2.1 = ρ.2.1
theorem yP_ro {D : Int32 → Int32 → Int32} {N : Int32 → Int32} {s : Int32} {π ρ : zPl} (h : zRo π ρ) : (yP D N s π).1 = (yP D N s ρ).1 ∧ zRo (yP D N s π).2 (yP D N s ρ).2 := by
  obtain ⟨n, f, c⟩ := π
  obtain ⟨n', f', c'⟩ := ρ
  obtain ⟨h1, h2⟩ := h
  have h1 : n = n' := h1
  have h2 : f = f' := h2
  subst h1
  subst h2
  have t : ∀ k, bTl (n, f, c) k = bTl (n, f, c') k := fun k => rfl
  have e1 : ∀ k b, (sBec (n, f, c) k b).1 = (sBec (n, f, c') k b).1 ∧ zRo (sBec (n, f, c) k b).2 (sBec (n, f, c') k b).2 := by
    intro k b
    unfold sBec
    rw [t]
    split
    · split <;> exact ⟨rfl, rfl, rfl⟩
    · exact ⟨rfl, rfl, rfl⟩
  have e2 : ∀ x y z, (sAdd (n, f, c) x y z).1 = (sAdd (n, f, c') x y z).1 ∧ zRo (sAdd (n, f, c) x y z).2 (sAdd (n, f, c') x y z).2 := by
    intro x y z
    unfold sAdd
    split
    · split <;> exact ⟨rfl, rfl, rfl⟩
    · exact ⟨rfl, rfl, rfl⟩
  have e3 : ∀ k, (sDrp (n, f, c) k).1 = (sDrp (n, f, c') k).1 ∧ zRo (sDrp (n, f, c) k).2 (sDrp (n, f, c') k).2 := by
    intro k
    unfold sDrp
    rw [t]
    split <;> exact ⟨rfl, rfl, rfl⟩
  by_cases c0 : D s 3 = 0
  · rw [yP_0 c0, yP_0 c0]; exact e1 _ _
  · by_cases d0 : D s 3 = 1
    · rw [yP_1 c0 d0, yP_1 c0 d0]; exact e2 _ _ _
    · rw [yP_2 c0 d0, yP_2 c0 d0]; exact e3 _
theorem yR_ro {D : Int32 → Int32 → Int32} {N : Int32 → Int32} {s : Int32} {π ρ : zPl} (h : zRo π ρ) : ∀ n, yC D N s π n = yC D N s ρ n ∧ zRo (yR D N s π n) (yR D N s ρ n)
  | 0 => ⟨rfl, h⟩
  | n + 1 => by
    obtain ⟨b, c⟩ := yR_ro (D := D) (N := N) (s := s) h n
    have k := yP_ro (D := D) (N := N) (s := yA D N n s) c
    have k2 := k.2
    refine ⟨?_, ?_⟩
    · unfold yC
      rw [b, k.1]
    · unfold yR
      exact k2
theorem yP_ct {D : Int32 → Int32 → Int32} {N : Int32 → Int32} {s : Int32} {π : zPl} : (yP D N s π).2.2.2 = π.2.2 := by
  have e1 : ∀ k b, (sBec π k b).2.2.2 = π.2.2 := by
    intro k b
    unfold sBec
    split
    · split <;> rfl
    · rfl
  have e2 : ∀ x y z, (sAdd π x y z).2.2.2 = π.2.2 := by
    intro x y z
    unfold sAdd
    split
    · split <;> rfl
    · rfl
  have e3 : ∀ k, (sDrp π k).2.2.2 = π.2.2 := by
    intro k
    unfold sDrp
    split <;> rfl
  by_cases c0 : D s 3 = 0
  · rw [yP_0 c0]; exact e1 _ _
  · by_cases d0 : D s 3 = 1
    · rw [yP_1 c0 d0]; exact e2 _ _ _
    · rw [yP_2 c0 d0]; exact e3 _
theorem yR_ct {D : Int32 → Int32 → Int32} {N : Int32 → Int32} {s : Int32} {π : zPl} : ∀ n, (yR D N s π n).2.2 = π.2.2
  | 0 => by rw [yR]
  | n + 1 => by
    have k := yR_ct (D := D) (N := N) (s := s) (π := π) n
    rw [yR, yP_ct, k]
theorem zPts_ro {π ρ : zPl} (h : zRo π ρ) (o : Int32) : zPts π o = zPts ρ o := by
  obtain ⟨n, f, c⟩ := π
  obtain ⟨n', f', c'⟩ := ρ
  obtain ⟨h1, h2⟩ := h
  have h1 : n = n' := h1
  have h2 : f = f' := h2
  subst h1
  subst h2
  rfl
def sYrs (π : zPl) (s n : Int32) : Int32 × Option (List Int64) := if 1 ≤ n ∧ n ≤ 20 then (nI (zPts (yR dV dN s (π.1, π.2.1, 0, π.2.2.2) n.toNatClampNeg) (-1)).length, some [lN (yR dV dN s (π.1, π.2.1, 0, π.2.2.2) n.toNatClampNeg).1, lN (yC dV dN s (π.1, π.2.1, 0, π.2.2.2) n.toNatClampNeg)]) else (-1, none)
theorem c_next {G : zG} (hG : zGok G) {k' : Nat} {D : Int32 → Int32 → Int32} {N : Int32 → Int32} (hD : ∀ s n, D s n = dV s n) (hN : ∀ s, N s = dN s) (hk : 1 ≤ k') {I : Nat → Nat → Int32} {J : Nat → Nat → Int64} {past : Nat → Nat} {Q : zRt} {s : Int32} (hs : I 270 0 = s) (n : Int32) (h1 : 1 ≤ n) (h0 : ¬ n = 0) (h : Q (some (.int (D s n))) (zK0, z_upI I 270 0 (N s), J, zR0 past)) : zCalls G k' yX1_next [.ref 270, .int n] (zK0, I, J, zR0 past) Q := by
  subst hs
  refine rnX1_next hG hk 270 n ?_
  refine sgX1_next hG [] 60 0 ?_
  refine And.intro (fun _ => ?_) (fun c => absurd h1 c)
  refine And.intro h0 ?_
  have e : z_upI I 270 0 (I 270 0 * 1103515245 + 12345) 270 0 = dN (I 270 0) := uI_s
  rw [hD, hN] at h
  unfold dV dU at h
  rw [← e] at h
  exact h
theorem m_draw {G : zG} (hG : zGok G) {k' : Nat} {D : Int32 → Int32 → Int32} {N : Int32 → Int32} (hD : ∀ s n, D s n = dV s n) (hN : ∀ s, N s = dN s) (hk : 1 ≤ k') {I : Nat → Nat → Int32} {J : Nat → Nat → Int64} {past : Nat → Nat} {Q : zRt} {s : Int32} (hs : I 305 34 = s) (n : Int32) (h0 : ¬ n = 0) (h : Q (some (.int (D s n))) (zK0, z_upI I 305 34 (N s), J, zR0 past)) : zCalls G k' yX12_draw [.ref 305, .int n] (zK0, I, J, zR0 past) Q := by
  subst hs
  refine rnX12_draw hG hk 305 n ?_
  refine sgX12_draw hG [] 60 0 ?_
  refine And.intro h0 ?_
  have e : z_upI I 305 34 (I 305 34 * 1103515245 + 12345) 305 34 = dN (I 305 34) := uI_s
  rw [hD, hN] at h
  unfold dV dU at h
  rw [← e] at h
  exact h
theorem c_changeByDraw {G : zG} (hG : zGok G) {k' : Nat} {D : Int32 → Int32 → Int32} {N : Int32 → Int32} (hD : ∀ s n, D s n = dV s n) (hN : ∀ s, N s = dN s) (hk : 4 ≤ k') {I : Nat → Nat → Int32} {J : Nat → Nat → Int64} {past : Nat → Nat} {Q : zRt} {π : zPl} (hc : cPl I J 12 π) (h6 : π.1 ≤ 6) (s : Int32) (hs : I 270 0 = s) (h : ∀ I' a, (∀ x, x ≠ 12 → x ≠ 13 → x ≠ 270 → I' x = I x) → I' 270 0 = yN D N s → cPl I' J 12 (yP D N s π).2 → decide (0 ≤ (yP D N s π).1) = decide (0 ≤ a) → Q (some (.int a)) (zK0, I', J, zR0 past)) : zCalls G k' yX11_changeByDraw [.ref 0, .ref 12] (zK0, I, J, zR0 past) Q := by
  subst hs
  have cf : ∀ {I1 : Nat → Nat → Int32} {ρ : zPl}, cPl I1 J 12 ρ → ∀ v, cPl (z_upI I1 270 0 v) J 12 ρ := fun hc v => cPl_fr hc (z_upI_ne (by decide)) (z_upI_ne (by decide)) (fun _ _ => rfl)
  refine rnX11_changeByDraw hG hk 0 12 ?_
  refine sgX11_changeByDraw hG [] 60 0 ?_
  refine c_next hG hD hN (by decide) rfl 3 (by decide) (by decide) ?_
  refine And.intro (fun c => ?_) (fun c => ?_)
  · rw [yN_0 c, yP_0 c] at h
    refine c_next hG hD hN (by decide) uI_s 6 (by decide) (by decide) ?_
    refine c_next hG hD hN (by decide) uI_s 51 (by decide) (by decide) ?_
    refine c_changeBound hG (by decide) (Or.inr rfl) (cf (cf (cf hc _) _) _) h6 _ _ (fun I1 f1 p1 => ?_)
    exact h I1 _ (fun x a b c => by rw [f1 x b, z_upI_ne c, z_upI_ne c, z_upI_ne c]) (by rw [f1 270 (by decide)]; simp only [uI_s]) p1 rfl
  refine And.intro (fun c2 => ?_) (fun c2 => ?_)
  · rw [yN_1 c c2, yP_1 c c2] at h
    refine c_next hG hD hN (by decide) uI_s 11 (by decide) (by decide) ?_
    refine c_next hG hD hN (by decide) uI_s 11 (by decide) (by decide) ?_
    refine c_next hG hD hN (by decide) uI_s 41 (by decide) (by decide) ?_
    refine c_addRow hG (by decide) (Or.inr rfl) (cf (cf (cf (cf hc _) _) _) _) h6 _ _ _ (fun I1 f1 p1 => ?_)
    exact h I1 _ (fun x a b c => by rw [f1 x a b, z_upI_ne c, z_upI_ne c, z_upI_ne c, z_upI_ne c]) (by rw [f1 270 (by decide) (by decide)]; simp only [uI_s]) p1 rfl
  · rw [yN_2 c c2, yP_2 c c2] at h
    refine c_next hG hD hN (by decide) uI_s 6 (by decide) (by decide) ?_
    refine c_dropRow hG (by decide) (Or.inr rfl) (cf (cf hc _) _) h6 _ (fun I1 f1 p1 => ?_)
    exact h I1 _ (fun x a b c => by rw [f1 x a b, z_upI_ne c, z_upI_ne c]) (by rw [f1 270 (by decide) (by decide)]; simp only [uI_s]) p1 rfl
/-- what becomes() does to the plan, by its two parts -/
theorem sBec_N {π : zPl} {k c : Int32} (hv : vPl π) : (sBecN π k c < 0 ∧ (sBec π k c).2 = π ∧ decide (0 ≤ (sBec π k c).1) = false) ∨ (¬ sBecN π k c < 0 ∧ decide (0 ≤ (sBec π k c).1) = true ∧ ∃ n, n < π.1 ∧ k = nI n ∧ (sBec π k c).2 = (π.1, upd π.2.1 (3 * n + 2) c, π.2.2)) := by
  by_cases t : (bTl π k && bBd c) = true
  · have t0 := t
    rw [Bool.and_eq_true] at t
    have h6 := hv.1.1
    obtain ⟨n, hn, rfl⟩ := bTl_in t.1 h6
    have ec : (nI n).toNatClampNeg = n := nI_clamp (by omega)
    by_cases u : π.2.1 (3 * n + 2) = c
    · left
      have e1 : sBecN π (nI n) c = -2 := by unfold sBecN; rw [if_pos t0, ec, if_pos u]
      have e2 : sBec π (nI n) c = (-2, π) := by unfold sBec; rw [if_pos t0, ec, if_pos u]
      rw [e1, e2]
      exact ⟨by decide, rfl, show decide ((0 : Int32) ≤ -2) = false by decide⟩
    · right
      have e1 : sBecN π (nI n) c = 0 := by unfold sBecN; rw [if_pos t0, ec, if_neg u]
      have e2 : sBec π (nI n) c = (100 + π.2.1 (3 * n + 2), (π.1, upd π.2.1 (3 * n + 2) c, π.2.2)) := by unfold sBec; rw [if_pos t0, ec, if_neg u]
      refine ⟨by rw [e1]; decide, ?_, n, hn, rfl, by rw [e2]⟩
      rw [decide_eq_true_eq]
      rcases Classical.em (0 ≤ (sBec π (nI n) c).1) with q | q
      · exact q
      · have z := sBec_no hv q
        rw [e2] at z
        have z2 : upd π.2.1 (3 * n + 2) c = π.2.1 := congrArg (fun π : zPl => π.2.1) z
        exact absurd (by rw [← z2, pk_us]) u
  · left
    have t : (bTl π k && bBd c) = false := by simpa using t
    have e1 : sBecN π k c = -1 := by unfold sBecN; rw [t]; rfl
    have e2 : sBec π k c = (-1, π) := by unfold sBec; rw [t]; rfl
    rw [e1, e2]
    exact ⟨by decide, rfl, show decide ((0 : Int32) ≤ -1) = false by decide⟩
theorem mPl_bec {I : Nat → Nat → Int32} {π : zPl} {n : Nat} (hm : mPl I 306 0 π) (h6 : π.1 ≤ 6) (h8 : π.2.2.1 ≤ 8) (hn : n < π.1) (c : Int32) : mPl (z_upI I 306 (3 + 3 * n) c) 306 0 (π.1, upd π.2.1 (3 * n + 2) c, π.2.2) := by
  refine ⟨?_, ?_, fun j hj => ?_, fun i hi j hj => ?_⟩
  · rw [uI_k (by omega)]; exact hm.1
  · rw [uI_k (by omega)]; exact hm.2.1
  · show _ = upd π.2.1 (3 * n + 2) c j
    have hj : j < 3 * π.1 := hj
    by_cases x : j = 3 * n + 2
    · subst x; rw [pk_us, show 0 + 1 + (3 * n + 2) = 3 + 3 * n by omega, uI_s]
    · rw [pk_un x, uI_k (by omega)]; exact hm.2.2.1 j hj
  · have hi : i < π.2.2.1 := hi
    rw [uI_k (by omega)]; exact hm.2.2.2 i hi j hj
theorem m_goDrawn {G : zG} (hG : zGok G) {k' : Nat} {D : Int32 → Int32 → Int32} {N : Int32 → Int32} (hD : ∀ s n, D s n = dV s n) (hN : ∀ s, N s = dN s) (hk : 4 ≤ k') {I : Nat → Nat → Int32} {J : Nat → Nat → Int64} {past : Nat → Nat} {Q : zRt} {π : zPl} (hm : mPl I 306 0 π) (hv : vPl π) (s : Int32) (hs : I 305 34 = s) (h : ∀ I', (∀ x, x ≠ 305 → x ≠ 306 → I' x = I x) → (∀ j, j ≠ 34 → I' 305 j = I 305 j) → I' 305 34 = yN D N s → mPl I' 306 0 (yP D N s π).2 → Q (some (.int (zb (decide (0 ≤ (yP D N s π).1))))) (zK0, I', J, zR0 past)) : zCalls G k' yX12_goDrawn [.ref 305] (zK0, I, J, zR0 past) Q := by
  subst hs
  have h6 := hv.1.1
  have h8 := hv.2.1
  have cf : ∀ {I1 : Nat → Nat → Int32} {ρ : zPl}, mPl I1 306 0 ρ → ∀ v, mPl (z_upI I1 305 34 v) 306 0 ρ := fun hc v => mPl_fr hc (z_upI_ne (by decide))
  refine rnX12_goDrawn hG hk 305 ?_
  refine sgX12_goDrawn hG [] 60 0 ?_
  refine m_draw hG hD hN (by decide) rfl 3 (by decide) ?_
  refine And.intro (fun c => ?_) (fun c => ?_)
  · rw [yN_0 c, yP_0 c] at h
    refine m_draw hG hD hN (by decide) uI_s 6 (by decide) ?_
    refine m_draw hG hD hN (by decide) uI_s 51 (by decide) ?_
    refine m_refusesBecome hG (by decide) (cf (cf (cf hm _) _) _) h6 _ _ ?_
    rcases sBec_N (k := D (N (I 305 34)) 6) (c := D (N (N (I 305 34))) 51) hv with ⟨n1, n2, n3⟩ | ⟨n1, n2, n, hn, n3, n4⟩
    · refine And.intro (fun q => absurd n1 (Int32.not_lt.mpr q)) (fun _ => ?_)
      simp only [n2, n3] at h
      exact h _ (fun x a b => by rw [z_upI_ne a, z_upI_ne a, z_upI_ne a]) (fun j hj => by rw [uI_k hj, uI_k hj, uI_k hj]) uI_s (cf (cf (cf hm _) _) _)
    · refine And.intro (fun _ => ?_) (fun q => absurd (Int32.not_lt.mp n1) q)
      have ei : (1 : Int32) + 3 * D (N (I 305 34)) 6 + 2 = nI (3 + 3 * n) := by rw [n3, show (2 : Int32) = nI 2 from rfl, z_13kw n 2]; congr 1; omega
      refine And.intro (by rw [ei]; exact vp_in_nI (by omega) (by omega)) ?_
      simp only [n4, n2] at h
      have k := h (z_upI (z_upI (z_upI (z_upI I 305 34 (N (I 305 34))) 305 34 (N (N (I 305 34)))) 305 34 (N (N (N (I 305 34))))) 306 (3 + 3 * n) (D (N (N (I 305 34))) 51)) (fun x a b => by rw [z_upI_ne b, z_upI_ne a, z_upI_ne a, z_upI_ne a]) (fun j hj => by rw [z_upI_ne (by decide), uI_k hj, uI_k hj, uI_k hj]) (by rw [z_upI_ne (by decide)]; exact uI_s) (mPl_bec (cf (cf (cf hm _) _) _) h6 h8 hn (D (N (N (I 305 34))) 51))
      have ec : ((1 : Int32) + 3 * D (N (I 305 34)) 6 + 2).toNatClampNeg = 3 + 3 * n := by rw [ei, nI_clamp (by omega)]
      rw [← ec] at k
      exact k
  refine And.intro (fun c2 => ?_) (fun c2 => ?_)
  · rw [yN_1 c c2, yP_1 c c2] at h
    refine m_draw hG hD hN (by decide) uI_s 11 (by decide) ?_
    refine m_draw hG hD hN (by decide) uI_s 11 (by decide) ?_
    refine m_draw hG hD hN (by decide) uI_s 41 (by decide) ?_
    refine m_refusesAdd hG (by decide) (cf (cf (cf (cf hm _) _) _) _) h6 _ _ _ ?_
    generalize D (N (I 305 34)) 11 - 5 = a at *
    generalize D (N (N (I 305 34))) 11 - 5 = b at *
    generalize D (N (N (N (I 305 34)))) 41 = d at *
    have hm4 := cf (cf (cf (cf hm (N (I 305 34))) (N (N (I 305 34)))) (N (N (N (I 305 34))))) (N (N (N (N (I 305 34)))))
    by_cases t : bRw a b d = true
    · rw [if_pos t]
      by_cases u : π.1 = 6
      · rw [if_pos u]
        have e2 : sAdd π a b d = (-2, π) := by unfold sAdd; rw [if_pos t, if_pos u]
        rw [e2] at h
        refine And.intro (fun q => absurd q (by decide)) (fun _ => ?_)
        exact h _ (fun x a b => by rw [z_upI_ne a, z_upI_ne a, z_upI_ne a, z_upI_ne a]) (fun j hj => by rw [uI_k hj, uI_k hj, uI_k hj, uI_k hj]) uI_s hm4
      · rw [if_neg u]
        have e2 : sAdd π a b d = (nI (π.1 + 1), (π.1 + 1, upd (upd (upd π.2.1 (3 * π.1) a) (3 * π.1 + 1) b) (3 * π.1 + 2) d, π.2.2)) := by unfold sAdd; rw [if_pos t, if_neg u]
        rw [e2] at h
        refine And.intro (fun _ => ?_) (fun q => absurd (by decide) q)
        refine m_add hG (by decide) hm4 (by omega) h8 a b d (fun I1 f1 p1 => ?_)
        have k := h I1 (fun x a b => by rw [f1 x b, z_upI_ne a, z_upI_ne a, z_upI_ne a, z_upI_ne a]) (fun j hj => by rw [f1 305 (by decide), uI_k hj, uI_k hj, uI_k hj, uI_k hj]) (by rw [f1 305 (by decide)]; exact uI_s) p1
        have e3 : zb (decide (0 ≤ nI (π.1 + 1))) = 1 := by rw [decide_eq_true (nI_pos' (by omega))]; rfl
        have k2 : Q (some (.int (zb (decide (0 ≤ nI (π.1 + 1)))))) (zK0, I1, J, zR0 past) := k
        rw [e3] at k2
        exact k2
    · have t : bRw a b d = false := by simpa using t
      have e2 : sAdd π a b d = (-1, π) := by unfold sAdd; rw [t]; rfl
      rw [if_neg (show ¬ bRw a b d = true by rw [t]; decide)]
      rw [e2] at h
      refine And.intro (fun q => absurd q (by decide)) (fun _ => ?_)
      exact h _ (fun x a b => by rw [z_upI_ne a, z_upI_ne a, z_upI_ne a, z_upI_ne a]) (fun j hj => by rw [uI_k hj, uI_k hj, uI_k hj, uI_k hj]) uI_s hm4
  · rw [yN_2 c c2, yP_2 c c2] at h
    refine m_draw hG hD hN (by decide) uI_s 6 (by decide) ?_
    have hm2 := cf (cf hm (N (I 305 34))) (N (N (I 305 34)))
    refine m_isTold hG (by decide) hm2.1 h6 _ ?_
    generalize D (N (I 305 34)) 6 = z at *
    refine And.intro (fun t => ?_) (fun t => ?_)
    · have t := z_nb1 (x := 0) t
      have t0 := t
      obtain ⟨n, hn, rfl⟩ := bTl_in t h6
      have ec : (nI n).toNatClampNeg = n := nI_clamp (by omega)
      have e2 : sDrp π (nI n) = (nI (π.1 - 1), (π.1 - 1, (fun j => if j < 3 * n then π.2.1 j else π.2.1 (j + 3)), π.2.2)) := by unfold sDrp; rw [if_pos t0, ec]
      rw [e2] at h
      refine m_drop hG (by decide) hm2 h6 h8 n hn (fun I1 f1 p1 => ?_)
      have k := h I1 (fun x a b => by rw [f1 x b, z_upI_ne a, z_upI_ne a]) (fun j hj => by rw [f1 305 (by decide), uI_k hj, uI_k hj]) (by rw [f1 305 (by decide)]; exact uI_s) p1
      have e3 : zb (decide (0 ≤ nI (π.1 - 1))) = 1 := by rw [decide_eq_true (nI_pos' (by omega))]; rfl
      have k2 : Q (some (.int (zb (decide (0 ≤ nI (π.1 - 1)))))) (zK0, I1, J, zR0 past) := k
      rw [e3] at k2
      exact k2
    · have t := (zb_eq0 _).mp t
      have e2 : sDrp π z = (-1, π) := by unfold sDrp; rw [t]; rfl
      rw [e2] at h
      exact h _ (fun x a b => by rw [z_upI_ne a, z_upI_ne a]) (fun j hj => by rw [uI_k hj, uI_k hj]) uI_s hm2
theorem c_years {G : zG} (hG : zGok G) {k' : Nat} (hk : 5 ≤ k') {I : Nat → Nat → Int32} {J : Nat → Nat → Int64} {past : Nat → Nat} {Q : zRt} {S : zS} (hS : cSt I J past S) (hv : vS S) (s n : Int32) (h : ∀ I' J', cSt I' J' past (sOut S ( sYrs S.1 s n)) → cFr I J I' J' → Q (some (.int ( sYrs S.1 s n).1)) (zK0, I', J', zR0 past)) : zCalls G k' yX11_years [.ref 0, .int s, .int n] (zK0, I, J, zR0 past) Q := by
  refine rnX11_years hG hk 0 s n ?_
  refine sgX11_years hG [37] 100 0 ?_
  have no : ¬ (1 ≤ n ∧ n ≤ 20) → Q (some (.int (-1))) (zK0, I, J, zR0 past) := fun q => by
    have e : sYrs S.1 s n = (-1, none) := by unfold sYrs; rw [if_neg q]
    rw [e] at h
    exact h I J hS (fun _ _ => ⟨rfl, rfl⟩)
  refine And.intro (fun c => ?_) (fun c => ?_)
  · exact no (fun q => absurd q.1 (Int32.not_le.mpr c))
  refine And.intro (fun c2 => ?_) (fun c2 => ?_)
  · have e : 1 ≤ n ∧ n ≤ 20 := ⟨Int32.not_lt.mp c, c2⟩
    unfold sYrs at h
    rw [if_pos e] at h
    obtain ⟨m, hm, rfl⟩ := nI_of (x := n) (fun q => by
      have q1 := Int32.lt_iff_toInt_lt.mp q
      have q2 := Int32.le_iff_toInt_le.mp e.1
      have q3 : (1 : Int32).toInt = 1 := by decide
      rw [Int32.toInt_zero] at q1
      omega)
    rw [nI_clamp hm] at h
    have hm20 := e.2
    rw [show (20 : Int32) = nI 20 from rfl, nI_leI hm (by omega)] at hm20
    obtain ⟨D, hD⟩ : ∃ D, D = dV := ⟨_, rfl⟩
    obtain ⟨N, hN⟩ : ∃ N, N = dN := ⟨_, rfl⟩
    rw [← hD, ← hN] at h
    have hD : ∀ s n, D s n = dV s n := fun s n => by rw [hD]
    have hN : ∀ s, N s = dN s := fun s => by rw [hN]
    have vρ : vPl (S.1.1, S.1.2.1, 0, S.1.2.2.2) := ⟨hv.1.1, Nat.zero_le 8, fun i hi => absurd hi (Nat.not_lt_zero i)⟩
    have cρ : ∀ I1 : Nat → Nat → Int32, I1 12 0 = nI S.1.1 → I1 12 1 = 0 → (∀ j, j < 18 → I1 13 j = I 2 j) → cPl I1 J 12 (S.1.1, S.1.2.1, 0, S.1.2.2.2) := fun I1 a b c => ⟨a, b, fun j hj => by have h6 := hv.1.1.1; have hj : j < 3 * S.1.1 := hj; show I1 13 j = _; rw [c j (by omega)]; exact hS.1.2.2.1 j hj, fun i hi => absurd hi (Nat.not_lt_zero i)⟩
    have hρ0 : ((S.1.1, S.1.2.1, 0, S.1.2.2.2) : zPl).2.2.1 = 0 := rfl
    generalize (S.1.1, S.1.2.1, 0, S.1.2.2.2) = ρ at *
    have loop : ∀ (r i : Nat) (v w : Int32) (I' : Nat → Nat → Int32), v = nI i → w = nI (yC D N s ρ i) → i + r = m → (∀ x, x ≠ 12 → x ≠ 13 → x ≠ 270 → I' x = I x) → I' 12 1 = 0 → I' 270 0 = yA D N i s → cPl I' J 12 (yR D N s ρ i) → aX11_years G Q 37 [some (.ref 0), some (.int s), some (.int (nI m)), some (.int w), some (.int v)] [] (zK0, I', J, zR0 past) := by
      intro r
      induction r with
      | zero =>
        intro i v w I' ev ew hi f1 f2 f3 p1
        have e : i = m := by omega
        subst e
        subst ev
        subst ew
        have vm := yR_v (D := D) (N := N) (s := s) vρ i
        have cl := yC_le (D := D) (N := N) (s := s) (π := ρ) i
        generalize yR D N s ρ i = τ at *
        generalize yC D N s ρ i = t at *
        refine sgX11_years hG [37] 100 37 ?_
        refine And.intro (fun _ => ?_) (fun q => absurd (Int32.le_refl _) q)
        refine c_gather hG (by decide) (Or.inr rfl) p1 vm.1.1 (-1) (fun I1 g1 q1 => ?_)
        have bL := zPts_len τ (-1)
        refine c_clear hG (by decide) (fun I2 f4 n2 => ?_)
        refine c_tell hG (by decide) n2 (by decide) _ (fun I3 J3 f5 k3 n3 => ?_)
        refine c_tell hG (by decide) n3 (by simp) _ (fun I4 J4 f6 k4 n4 => ?_)
        have e0 : I2 12 0 = nI τ.1 := by rw [f4 12 (by decide), g1 12 (by decide) (by decide) (by decide)]; exact p1.1
        have v6 := vm.1.1
        rw [e0, nI_l (by omega), nI_l (by omega)] at n4
        have q4 : cQ2 I J I4 J4 := ⟨fun x hx => ⟨by rw [f6 x (by omega), f5 x (by omega), f4 x (by omega), g1 x (by omega) (by omega) (by omega), f1 x (by omega) (by omega) (by omega)], by rw [k4 x (by omega), k3 x (by omega)]⟩, by rw [f6 12 (by decide), f5 12 (by decide), f4 12 (by decide), g1 12 (by decide) (by decide) (by decide), f2]; exact hS.2.2.2.2.2.2.symm⟩
        have k := h I4 J4 (cSt_tel2 hS hv q4 n4) (cQ2_fr q4)
        have e9 : I4 264 0 = nI (zPts τ (-1)).length := by rw [f6 264 (by decide), f5 264 (by decide), f4 264 (by decide)]; exact q1.1
        have k2 : Q (some (.int (nI (zPts τ (-1)).length))) (zK0, I4, J4, zR0 past) := k
        rw [← e9] at k2
        exact k2
      | succ r ih =>
        intro i v w I' ev ew hi f1 f2 f3 p1
        subst ev
        subst ew
        have vm := yR_v (D := D) (N := N) (s := s) vρ i
        have eR : yR D N s ρ (i + 1) = (yP D N (yA D N i s) (yR D N s ρ i)).2 := by rw [yR]
        have eA : yA D N (i + 1) s = yN D N (yA D N i s) := by rw [yA]
        have eC : yC D N s ρ (i + 1) = yC D N s ρ i + if 0 ≤ (yP D N (yA D N i s) (yR D N s ρ i)).1 then 1 else 0 := by rw [yC]
        refine sgX11_years hG [37] 100 37 ?_
        refine And.intro (fun q => absurd q (by rw [nI_leI (by omega) (by omega)]; omega)) (fun _ => ?_)
        refine c_changeByDraw hG hD hN (by decide) p1 vm.1.1 _ f3 (fun I1 a g1 g2 g3 g4 => ?_)
        have p12 : I1 12 1 = 0 := by
          have := g3.2.1
          rw [this, yP_ct, yR_ct, hρ0]
          rfl
        refine And.intro (fun c => ?_) (fun c => ?_)
        · refine ih (i + 1) _ _ I1 (by rw [nI_1]) ?_ (by omega) (fun x a b c => (g1 x a b c).trans (f1 x a b c)) p12 (by rw [eA]; exact g2) (by rw [eR]; exact g3)
          rw [eC, if_neg (by rw [← decide_eq_true_eq (p := _ ≤ _), g4, decide_eq_true_eq]; exact Int32.not_le.mpr c), Nat.add_zero]
        · refine ih (i + 1) _ _ I1 (by rw [nI_1]) ?_ (by omega) (fun x a b c => (g1 x a b c).trans (f1 x a b c)) p12 (by rw [eA]; exact g2) (by rw [eR]; exact g3)
          rw [eC, if_pos (by rw [← decide_eq_true_eq (p := _ ≤ _), g4, decide_eq_true_eq]; exact Int32.not_lt.mp c), nI_1]
    refine c_copyRows hG (by decide) 12 1 (by decide) (by decide) ?_
    refine rnX1_start hG (by decide) 270 s ?_
    refine sgX1_start hG [] 60 0 ?_
    refine loop m 0 0 0 _ rfl (by rw [yC]; rfl) (by omega) (fun x a b c => ?_) ?_ (by rw [yA]; exact uI_s) ?_
    · rw [z_upI_ne c, va_up_ne2 b, z_upI_ne a]
    · rw [z_upI_ne (by decide), va_up_ne2 (by decide), uI_k (by decide)]; exact hS.2.2.2.2.2.2
    · rw [yR]
      refine cρ _ ?_ ?_ (fun j hj => ?_)
      · rw [z_upI_ne (by decide), va_up_ne2 (by decide), uI_s]; exact hS.1.1
      · rw [z_upI_ne (by decide), va_up_ne2 (by decide), uI_k (by decide)]; exact hS.2.2.2.2.2.2
      · rw [z_upI_ne (by decide), va_up_self, cpy18 hj, z_upI_ne (by decide)]
  · exact no (fun q => c2 q.2)
theorem m_years {G : zG} (hG : zGok G) {k' : Nat} (hk : 6 ≤ k') {I : Nat → Nat → Int32} {J : Nat → Nat → Int64} {past : Nat → Nat} {Q : zRt} {S : zS} (hS : mSt I J S) (hv : vS S) (s n : Int32) (h : ∀ I' J', mSt I' J' (sOut S ( sYrs S.1 s n)) → mFr I J I' J' → Q (some (.int ( sYrs S.1 s n).1)) (zK0, I', J', zR0 past)) : zCalls G k' yX12_years [.ref 305, .int s, .int n] (zK0, I, J, zR0 past) Q := by
  have hS0 := mSt_thr (v := 0) hS
  have hQ0 : mQ I J (z_upI I 305 5 0) J := mQ_u (by omega)
  refine rnX12_years hG hk 305 s n ?_
  obtain ⟨v6, v8, vh, vn⟩ := vS_6 hv
  refine sgX12_years hG [24, 54, 102] 100 0 ?_
  refine m_in hG (by decide) _ _ _ ?_
  rw [zb_if]
  refine And.intro (fun c => ?_) (fun c => ?_)
  · have e := z_nb1 (x := 0) c
    rw [decide_eq_true_eq] at e
    unfold sYrs at h
    rw [if_pos e] at h
    obtain ⟨m, hm, rfl⟩ := nI_of (x := n) (fun q => by
      have q1 := Int32.lt_iff_toInt_lt.mp q
      have q2 := Int32.le_iff_toInt_le.mp e.1
      have q3 : (1 : Int32).toInt = 1 := by decide
      rw [Int32.toInt_zero] at q1
      omega)
    rw [nI_clamp hm] at h
    have hm20 := e.2
    rw [show (20 : Int32) = nI 20 from rfl, nI_leI hm (by omega)] at hm20
    obtain ⟨D, hD⟩ : ∃ D, D = dV := ⟨_, rfl⟩
    obtain ⟨N, hN⟩ : ∃ N, N = dN := ⟨_, rfl⟩
    rw [← hD, ← hN] at h
    have hD : ∀ s n, D s n = dV s n := fun s n => by rw [hD]
    have hN : ∀ s, N s = dN s := fun s => by rw [hN]
    have ro : zRo S.1 (S.1.1, S.1.2.1, 0, S.1.2.2.2) := ⟨rfl, rfl⟩
    obtain ⟨r1, r2⟩ := yR_ro (D := D) (N := N) (s := s) ro m
    rw [← r1, ← zPts_ro r2, ← r2.1] at h
    have fin : ∀ (t : Nat) (w : Int32) (r i : Nat) (v : Int32) (I1 I' : Nat → Nat → Int32) (J' : Nat → Nat → Int64), v = nI i → i + r = 140 → (∀ j, j < 140 → I1 311 j = I 306 j) → (∀ x, x ≠ 306 → I' x = I1 x) → (∀ j, j < i → I' 306 j = I 306 j) → mQ (z_upI I 305 5 0) J (fun p => if p = 306 then I 306 else I1 p) J' → I1 305 29 = nI t → (∀ I2, mQ (z_upI I 305 5 0) J (fun p => if p = 306 then I 306 else I1 p) J' → (∀ x, x ≠ 306 → I2 x = I1 x) → (∀ j, j < 140 → I2 306 j = I 306 j) → Q (some (.int (nI t))) (zK0, I2, J', zR0 past)) → aX12_years G Q 102 [some (.ref 305), some (.int s), some (.int (nI m)), some (.int w), some (.int v)] [] (zK0, I', J', zR0 past) := by
      intro t w r
      induction r with
      | zero =>
        intro i v I1 I' J' ev hi a1 a2 a3 a4 a5 k
        have e : i = 140 := by omega
        subst e
        subst ev
        refine sgX12_years hG [24, 54, 102] 100 102 ?_
        refine And.intro (fun _ => ?_) (fun q => absurd (by decide) q)
        have k2 := k I' a4 a2 a3
        have e9 : I' 305 29 = nI t := by rw [a2 305 (by decide)]; exact a5
        rw [← e9] at k2
        exact k2
      | succ r ih =>
        intro i v I1 I' J' ev hi a1 a2 a3 a4 a5 k
        subst ev
        have en : (nI i).toNatClampNeg = i := nI_clamp (by omega)
        refine sgX12_years hG [24, 54, 102] 100 102 ?_
        refine And.intro (fun q => absurd q (by rw [show (140 : Int32) = nI 140 from rfl, nI_leI (by omega) (by omega)]; omega)) (fun _ => ?_)
        refine And.intro (by exact vp_in_nI (by omega) (by omega)) ?_
        refine And.intro (by exact vp_in_nI (by omega) (by omega)) ?_
        rw [en]
        refine ih (i + 1) _ I1 _ J' (by rw [nI_1]) (by omega) a1 (fun x hx => by rw [z_upI_ne hx]; exact a2 x hx) (fun j hj => ?_) a4 a5 k
        by_cases x : j = i
        · subst x; rw [uI_s, a2 311 (by decide)]; exact a1 j (by omega)
        · rw [uI_k x]; exact a3 j (by omega)
    have two : ∀ (r i : Nat) (v w : Int32) (I' : Nat → Nat → Int32), v = nI i → w = nI (yC D N s S.1 i) → i + r = m → (∀ j, j < 140 → I' 311 j = I 306 j) → (∀ x, x ≠ 305 → x ≠ 306 → x ≠ 311 → I' x = I x) → (∀ j, j ≠ 34 → I' 305 j = z_upI I 305 5 0 305 j) → I' 305 34 = yA D N i s → mPl I' 306 0 (yR D N s S.1 i) → aX12_years G Q 54 [some (.ref 305), some (.int s), some (.int (nI m)), some (.int w), some (.int v)] [] (zK0, I', J, zR0 past) := by
      intro r
      induction r with
      | zero =>
        intro i v w I' ev ew hi f0 f1 f2 f3 p1
        have e : i = m := by omega
        subst e
        subst ev
        subst ew
        have vm := yR_v (D := D) (N := N) (s := s) hv.1 i
        have cl := yC_le (D := D) (N := N) (s := s) (π := S.1) i
        generalize yR D N s S.1 i = τ at *
        generalize yC D N s S.1 i = t at *
        refine sgX12_years hG [24, 54, 102] 100 54 ?_
        refine And.intro (fun _ => ?_) (fun q => absurd (Int32.le_refl _) q)
        refine m_layWholes hG (by decide) p1 vm.1.1 (fun I1 g1 g2 q1 => ?_)
        refine And.intro (by unfold vp_in; decide) ?_
        refine m_tellL hG (by decide) mNm_0 (by decide) _ (fun I2 J2 f4 g4 k4 n2 => ?_)
        refine m_tellL hG (by decide) n2 (by simp) _ (fun I3 J3 f5 g5 k5 n3 => ?_)
        have e0 : z_upI I1 305 4 0 306 (0 : Int32).toNatClampNeg = nI τ.1 := by rw [z_upI_ne (by decide), g1 306 (by decide) (by decide)]; exact p1.1
        have v6 := vm.1.1
        rw [e0, nI_l (by omega), nI_l (by omega)] at n3
        have e29 : I3 305 29 = nI (zPts τ (-1)).length := by rw [g5 29 (by decide), g4 29 (by decide), uI_k (by decide)]; exact q1.1
        have big : ∀ x, x ≠ 305 → x ≠ 306 → x ≠ 311 → x ≠ 316 → I3 x = I x := fun x a b c d => by rw [f5 x a, f4 x a, z_upI_ne a, g1 x a d, f1 x a b c]
        have small : ∀ j, j ≠ 34 → j ≠ 29 → j ≠ 4 → I3 305 j = z_upI I 305 5 0 305 j := fun j a b c => by rw [g5 j c, g4 j c, uI_k c, g2 j b, f2 j a]
        refine fin (zPts τ (-1)).length (nI t) 140 0 0 I3 I3 J3 rfl (by omega) (fun j hj => by rw [f5 311 (by decide), f4 311 (by decide), z_upI_ne (by decide), g1 311 (by decide) (by decide)]; exact f0 j hj) (fun _ _ => rfl) (fun j hj => absurd hj (Nat.not_lt_zero j)) ⟨fun x hx => ?_, ?_, ?_⟩ e29 (fun I4 a1 a2 a3 => ?_)
        · show (if x = 306 then I 306 else I3 x) = _ ∧ _
          refine ⟨?_, by rw [k5 x (by omega), k4 x (by omega)]⟩
          by_cases z : x = 306
          · subst z; rw [if_pos rfl, z_upI_ne (by decide)]
          · rw [if_neg z, big x (by omega) z (by omega) (by omega), z_upI_ne (by omega)]
        · show I3 305 2 = _
          exact small 2 (by decide) (by decide) (by decide)
        · show I3 305 13 = _
          exact small 13 (by decide) (by decide) (by decide)
        · obtain ⟨h1, h2, h3, h4, h5⟩ := hS
          have frx : ∀ x, x < 305 ∨ x = 307 ∨ x = 310 ∨ x = 318 ∨ x = 319 ∨ 320 ≤ x → I4 x = I x := fun x hx => by rw [a2 x (by omega)]; exact big x (by omega) (by omega) (by omega) (by omega)
          have fry : ∀ j, j = 2 ∨ j = 13 → I4 305 j = I 305 j := fun j hj => by rw [a2 305 (by decide), small j (by omega) (by omega) (by omega), uI_k (by omega)]
          have n4 : mNm I4 J3 [lN τ.1, lN t] := mNm_fr n3 (by rw [a2 305 (by decide)]) rfl
          refine h I4 J3 ⟨mPl_seg h1 hv.1.1.1 v8 (fun k hk => by rw [Nat.zero_add]; exact a3 k hk), mHis_fr h2 (fry 13 (by omega)) (frx 310 (by omega)), mKep_fr h3 (frx 319 (by omega)) (frx 318 (by omega)), mTxt_fr h4 (fry 2 (by omega)) (frx 307 (by omega)), ⟨n4.1, fun j hj => ?_⟩⟩ (fun x hx => ⟨frx x (by omega), by rw [k5 x (by omega), k4 x (by omega)]⟩)
          have hj : j < [lN τ.1, lN t].length := hj
          refine n4.2 j _ ?_
          show [lN τ.1, lN t][j]? = some (List.getD [lN τ.1, lN t] j 0)
          rw [List.getD_eq_getElem?_getD, List.getElem?_eq_getElem hj]; rfl
      | succ r ih =>
        intro i v w I' ev ew hi f0 f1 f2 f3 p1
        subst ev
        subst ew
        have vm := yR_v (D := D) (N := N) (s := s) hv.1 i
        have eR : yR D N s S.1 (i + 1) = (yP D N (yA D N i s) (yR D N s S.1 i)).2 := by rw [yR]
        have eA : yA D N (i + 1) s = yN D N (yA D N i s) := by rw [yA]
        have eC : yC D N s S.1 (i + 1) = yC D N s S.1 i + if 0 ≤ (yP D N (yA D N i s) (yR D N s S.1 i)).1 then 1 else 0 := by rw [yC]
        refine sgX12_years hG [24, 54, 102] 100 54 ?_
        refine And.intro (fun q => absurd q (by rw [nI_leI (by omega) (by omega)]; omega)) (fun _ => ?_)
        refine m_goDrawn hG hD hN (by decide) p1 vm _ f3 (fun I1 g1 g2 g3 g4 => ?_)
        refine ih (i + 1) _ _ I1 (by rw [nI_1]) ?_ (by omega) (fun j hj => by rw [g1 311 (by decide) (by decide)]; exact f0 j hj) (fun x a b c => (g1 x a b).trans (f1 x a b c)) (fun j hj => (g2 j hj).trans (f2 j hj)) (by rw [eA]; exact g3) (by rw [eR]; exact g4)
        rw [eC]
        by_cases q : 0 ≤ (yP D N (yA D N i s) (yR D N s S.1 i)).1
        · rw [if_pos q, decide_eq_true q]; exact nI_1 _
        · rw [if_neg q, decide_eq_false q]; exact nI_add _ 0
    have one : ∀ (r i : Nat) (v : Int32) (I' : Nat → Nat → Int32), v = nI i → i + r = 140 → (∀ x, x ≠ 305 → x ≠ 311 → I' x = I x) → (∀ j, j ≠ 34 → I' 305 j = z_upI I 305 5 0 305 j) → I' 305 34 = s → (∀ j, j < i → I' 311 j = I 306 j) → aX12_years G Q 24 [some (.ref 305), some (.int s), some (.int (nI m)), some (.int v), none] [] (zK0, I', J, zR0 past) := by
      intro r
      induction r with
      | zero =>
        intro i v I' ev hi f1 f2 f3 f4
        have e : i = 140 := by omega
        subst e
        subst ev
        refine sgX12_years hG [24, 54, 102] 100 24 ?_
        refine And.intro (fun _ => ?_) (fun q => absurd (by decide) q)
        exact two m 0 0 0 I' rfl (by rw [yC]; rfl) (by omega) f4 (fun x a b c => f1 x a c) f2 (by rw [yA]; exact f3) (by rw [yR]; exact mPl_fr hS.1 (f1 306 (by decide) (by decide)))
      | succ r ih =>
        intro i v I' ev hi f1 f2 f3 f4
        subst ev
        have en : (nI i).toNatClampNeg = i := nI_clamp (by omega)
        refine sgX12_years hG [24, 54, 102] 100 24 ?_
        refine And.intro (fun q => absurd q (by rw [show (140 : Int32) = nI 140 from rfl, nI_leI (by omega) (by omega)]; omega)) (fun _ => ?_)
        refine And.intro (by exact vp_in_nI (by omega) (by omega)) ?_
        refine And.intro (by exact vp_in_nI (by omega) (by omega)) ?_
        rw [en]
        refine ih (i + 1) _ _ (by rw [nI_1]) (by omega) (fun x a b => by rw [z_upI_ne b]; exact f1 x a b) (fun j hj => by rw [z_upI_ne (by decide)]; exact f2 j hj) (by rw [z_upI_ne (by decide)]; exact f3) (fun j hj => ?_)
        by_cases x : j = i
        · subst x; rw [uI_s, f1 306 (by decide) (by decide)]
        · rw [uI_k x]; exact f4 j (by omega)
    exact one 140 0 0 _ rfl (by omega) (fun x a b => by rw [z_upI_ne a, z_upI_ne a]) (fun j hj => by rw [uI_k hj]) uI_s (fun j hj => absurd hj (Nat.not_lt_zero j))
  · have e := (zb_eq0 _).mp c
    rw [decide_eq_false_iff_not] at e
    have e2 : sYrs S.1 s n = (-1, none) := by unfold sYrs; rw [if_neg e]
    rw [e2] at h
    exact h _ J hS0 (mQ_fr hQ0)
