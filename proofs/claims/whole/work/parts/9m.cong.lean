-- ===== the references may be said otherwise, where they count =====
def zNk (kd : Nat × Nat) : Nat := if kd.1 < 13 then (zFT kd.1).length else kd.2
theorem arrV_cg {cA : ClassId} {n : Nat} {f g : Nat → Value} (h : ∀ j, j < n → f j = g j) : arrV cA n f = arrV cA n g := by
  unfold arrV
  congr 1
  apply Array.ext
  · simp
  · intro i h1 h2
    simp at h1
    simp [h i h1]
theorem zWd_R {G : zG} {K : List (Nat × Nat)} {I : Nat → Nat → Int32} {J : Nat → Nat → Int64} {P P' : Nat → Nat → Option Nat} {H : Heap} (h : zWd G (K, I, J, P) H) (hr : ∀ p, p < K.length → ∀ k, k < zNk (zKd K p) → P' p k = P p k) : zWd G (K, I, J, P') H := by
  refine ⟨h.1, fun i q hq => ?_⟩
  have hl : i < K.length := by
    have := (List.getElem?_eq_some_iff.mp hq).1
    simpa [zW] using this
  rw [zW_get hl] at hq
  cases hq
  have h0 := h.2 i _ (zW_get hl)
  have hr := hr i hl
  by_cases c : (zKd K i).1 < 13
  · have e : zCell G (K, I, J, P') i (zKd K i) = zCell G (K, I, J, P) i (zKd K i) := by
      unfold zCell
      rw [if_pos c, if_pos c]
      congr 2
      unfold zFs
      apply List.map_congr_left
      intro k hk
      have hk := List.mem_range.mp hk
      have := hr k (by unfold zNk; rw [if_pos c]; exact hk)
      unfold zVal
      split
      · rfl
      · show va_rf ((P' i k).map (zAd G)) = va_rf ((P i k).map (zAd G))
        rw [this]
      · rfl
    rw [show zCell G (K, I, J, P') i (zKd (K, I, J, P').1 i) = zCell G (K, I, J, P) i (zKd K i) from e]
    exact h0
  · have e1 : ∀ X, zCell G (K, I, J, X) i (zKd K i) = Sum.inl (zgY G (zKd K i).1, zArr G (K, I, J, X) i (zKd K i).1 (zKd K i).2) := fun X => if_neg c
    rw [show zCell G (K, I, J, P') i (zKd (K, I, J, P').1 i) = _ from e1 P']
    have h0 : va_at (zgD G) vwCl (zAd G i, zCell G (K, I, J, P) i (zKd K i)) H := h0
    rw [e1 P] at h0
    show H[zAd G i]? = some (vp_cell _ _)
    have h0 : H[zAd G i]? = some (vp_cell (zgY G (zKd K i).1) (zArr G (K, I, J, P) i (zKd K i).1 (zKd K i).2)) := h0
    rw [h0]
    congr 1
    unfold zArr
    split
    · rfl
    · split
      · show arrV _ _ (fun j => va_rf ((P i j).map (zAd G))) = arrV _ _ (fun j => va_rf ((P' i j).map (zAd G)))
        exact arrV_cg (fun j hj => by rw [hr j (by unfold zNk; rw [if_neg c]; exact hj)])
      · rfl
