-- ===== hull (model): the call =====
theorem m_hull {G : zG} (hG : zGok G) {k' : Nat} (hk : 6 ≤ k') {I : Nat → Nat → Int32} {J : Nat → Nat → Int64} {past : Nat → Nat} {Q : zRt} {S : zS} (hS : mSt I J S) (hv : vS S)  (h : ∀ I' J', mSt I' J' (sOut S ( sHul S.1)) → mFr I J I' J' → Q (some (.int ( sHul S.1).1)) (zK0, I', J', zR0 past)) : zCalls G k' yX12_hull [.ref 305] (zK0, I, J, zR0 past) Q := by
  have hS0 := mSt_thr (v := 0) hS
  have hQ0 : mQ I J (z_upI I 305 5 0) J := mQ_u (by omega)
  refine rnX12_hull hG hk 305  ?_
  refine sgX12_hull hG [27] 60 0 ?_
  have bL := zPts_bd S.1 (-1)
  have pw := pv_lxL bL (zPts_pw S.1 (-1))
  refine m_layWholes hG (by decide) hS0.1 hv.1.1.1 (fun I1 f1 g1 p1 => ?_)
  have q1 : mQ I J (z_upI I1 305 4 0) J := mQ_tr hQ0 (mQ_tr (J1 := J) (I1 := I1) ⟨fun x hx => ⟨f1 x (by omega) (by omega), rfl⟩, g1 2 (by decide), g1 13 (by decide)⟩ (mQ_u (by omega)))
  unfold sHul at h
  generalize zPts S.1 (-1) = L at *
  have h49 := bL.1
  obtain ⟨h16, hin⟩ := hHs_f bL pw
  have e29 : z_upI I1 305 4 0 305 29 = nI L.length := by rw [uI_k (by decide)]; exact p1.1
  have p2 : mPts (z_upI I1 305 4 0) L := mPts_fr p1 (uI_k (by decide)) (z_upI_ne (by decide))
  refine And.intro (fun c => ?_) (fun c => ?_)
  rotate_left
  · have c : nI L.length = nI 0 := by rw [← e29]; exact c
    rw [nI_eq (by omega) (by omega)] at c
    have e : hHs L = [] := by unfold hHs hCs; rw [if_pos (by omega), c]; rfl
    rw [e] at h
    exact h _ J (mSt_tel hS q1 mNm_0) (mQ_fr q1)
  have c : ¬ nI L.length = nI 0 := by rw [← e29]; exact c
  rw [nI_eq (by omega) (by omega)] at c
  have i1 : ∀ n, (2 : Int32) * nI n = nI (2 * n) := fun n => by rw [show (2 : Int32) = nI 2 from rfl, pk_mul]
  have i2 : ∀ n, (2 : Int32) * nI n + 1 = nI (2 * n + 1) := fun n => by rw [i1, nI_1]
  -- how it goes on
  have go : ∀ j, j < (hHs L).length → (L.length = 1 ∧ j + 1 = (hHs L).length) ∨ (2 ≤ L.length ∧ ((j + 1 = (hHs L).length ∧ hSt (pv L) L.length ((hHs L).getD ((hHs L).length - 1 - j) 0) 0) ∨ (j + 1 < (hHs L).length ∧ hSt (pv L) L.length ((hHs L).getD ((hHs L).length - 1 - j) 0) ((hHs L).getD ((hHs L).length - 1 - (j + 1)) 0) ∧ (hHs L).getD ((hHs L).length - 1 - (j + 1)) 0 ≠ 0))) := by
    intro j hj
    rcases (show L.length = 1 ∨ 2 ≤ L.length by omega) with z | z
    · left
      refine ⟨z, ?_⟩
      have e : hHs L = [0] := by unfold hHs hCs; rw [if_pos (by omega), z]; rfl
      rw [e] at hj ⊢
      simp at hj ⊢
      exact hj
    · right
      refine ⟨z, ?_⟩
      obtain ⟨_, aj, U, eU, pU, _⟩ := hCs_f pw z
      have eH : hHs L = U ++ [0] := eU
      have k := ajc_get (hHs L) 0 aj ((hHs L).length - 1 - j) (by omega)
      rcases (show j + 1 = (hHs L).length ∨ j + 1 < (hHs L).length by omega) with y | y
      · left
        refine ⟨y, ?_⟩
        rw [show (hHs L).length - 1 - j = 0 by omega] at k ⊢
        exact k
      · right
        refine ⟨y, ?_, ?_⟩
        · rw [show (hHs L).length - 1 - j = ((hHs L).length - 1 - (j + 1)) + 1 by omega] at k ⊢
          exact k
        · have hl : (hHs L).length = U.length + 1 := by rw [eH, List.length_append]; rfl
          rw [hl, eH, List.getD_eq_getElem?_getD, List.getElem?_append_left (by omega), List.getElem?_eq_getElem (by omega)]
          have := pU _ (List.getElem_mem (l := U) (n := U.length + 1 - 1 - (j + 1)) (by omega))
          show U[U.length + 1 - 1 - (j + 1)] ≠ 0
          omega
  have h0 : (hHs L).getD ((hHs L).length - 1 - 0) 0 = 0 ∧ 0 < (hHs L).length := by
    rcases (show L.length = 1 ∨ 2 ≤ L.length by omega) with z | z
    · have e : hHs L = [0] := by unfold hHs hCs; rw [if_pos (by omega), z]; rfl
      rw [e]; exact ⟨rfl, by decide⟩
    · obtain ⟨_, _, U, eU, _⟩ := hCs_f pw z
      have eH : hHs L = U ++ [0] := eU
      have hl : (hHs L).length = U.length + 1 := by rw [eH, List.length_append]; rfl
      refine ⟨?_, by omega⟩
      rw [hl, eH, List.getD_eq_getElem?_getD, List.getElem?_append_right (by omega), show U.length + 1 - 1 - 0 - U.length = 0 by omega]
      rfl
  generalize hHs L = H at *
  have pr : ∀ (I' : Nat → Nat → Int32) (J' : Nat → Nat → Int64), (∀ x, x ≠ 305 → I' x = I1 x) → (∀ i, i ≠ 4 → I' 305 i = I1 305 i) → (∀ x, x ≠ 308 → J' x = J x) → mPts I' L := fun I' J' f g k => mPts_fr p1 (g 29 (by decide)) (f 316 (by decide))
  have step : ∀ (j : Nat) (v m : Int32) (I' : Nat → Nat → Int32) (J' : Nat → Nat → Int64), j < H.length → v = nI (H.getD (H.length - 1 - j) 0) → m = nI j → (∀ x, x ≠ 305 → I' x = I1 x) → (∀ i, i ≠ 4 → I' 305 i = I1 305 i) → (∀ x, x ≠ 308 → J' x = J x) → mNm I' J' (hNl L H j) → (j + 1 < H.length → ∀ (I' : Nat → Nat → Int32) (J' : Nat → Nat → Int64), (∀ x, x ≠ 305 → I' x = I1 x) → (∀ i, i ≠ 4 → I' 305 i = I1 305 i) → (∀ x, x ≠ 308 → J' x = J x) → mNm I' J' (hNl L H (j + 1)) → aX12_hull G Q 27 [some (.ref 305), some (.int (nI (H.getD (H.length - 1 - (j + 1)) 0))), some (.int (nI (j + 1)))] [] (zK0, I', J', zR0 past)) → aX12_hull G Q 27 [some (.ref 305), some (.int v), some (.int m)] [] (zK0, I', J', zR0 past) := by
    intro j v m I' J' hj ev em f g k n cont
    subst ev
    subst em
    have hx := hGet hin hj
    obtain ⟨c0, ec⟩ : ∃ c0, c0 = H.getD (H.length - 1 - j) 0 := ⟨_, rfl⟩
    have en : hNl L H (j + 1) = hNl L H j ++ [lN (zP0 L c0).1, lN (zP0 L c0).2] := by rw [ec]; rfl
    have goj := go j hj
    rw [← ec] at hx goj ⊢
    have pp := pr I' J' f g k
    obtain ⟨a1, a2⟩ := pp.2 c0 _ (zP0_at hx)
    obtain ⟨b1, b2⟩ := bL.2 c0 _ (zP0_at hx)
    have nl := hNl_len L H j
    have x0 : (I' 316 ((2 : Int32) * nI c0).toNatClampNeg).toInt64 = lN (zP0 L c0).1 := by rw [i1, nI_clamp (by omega), a1, nI_l (by omega)]
    refine sgX12_hull hG [27, 75] 60 27 ?_
    refine And.intro (by rw [i1]; exact vp_in_nI (by omega) (by omega)) ?_
    refine m_tellL hG (by decide) n (by omega) _ (fun I2 J2 f2 g2 k2 n2 => ?_)
    rw [x0] at n2
    have x1 : (I2 316 ((2 : Int32) * nI c0 + 1).toNatClampNeg).toInt64 = lN (zP0 L c0).2 := by rw [i2, nI_clamp (by omega), f2 316 (by decide), a2, nI_l (by omega)]
    refine And.intro (by rw [i2]; exact vp_in_nI (by omega) (by omega)) ?_
    refine m_tellL hG (by decide) n2 (by rw [List.length_append, List.length_singleton]; omega) _ (fun I3 J3 f3 g3 k3 n3 => ?_)
    rw [x1, List.append_assoc] at n3
    have n3 : mNm I3 J3 (hNl L H (j + 1)) := by rw [en]; exact n3
    have f4 : ∀ x, x ≠ 305 → I3 x = I1 x := fun x hx => by rw [f3 x hx, f2 x hx, f x hx]
    have g4 : ∀ i, i ≠ 4 → I3 305 i = I1 305 i := fun i hi => by rw [g3 i hi, g2 i hi, g i hi]
    have k4 : ∀ x, x ≠ 308 → J3 x = J x := fun x hx => by rw [k3 x hx, k2 x hx, k x hx]
    have p3 := pr I3 J3 f4 g4 k4
    have e3 : I3 305 29 = nI L.length := p3.1
    have z75 : ∀ (v' : Int32), (j + 1 = H.length ∧ v' = 0) ∨ (j + 1 < H.length ∧ v' = nI (H.getD (H.length - 1 - (j + 1)) 0) ∧ H.getD (H.length - 1 - (j + 1)) 0 ≠ 0) → aX12_hull G Q 75 [some (.ref 305), some (.int (nI c0)), some (.int (nI j + 1))] [.int v'] (zK0, I3, J3, zR0 past) := by
      intro v' hv'
      refine sgX12_hull hG [27] 60 75 ?_
      rcases hv' with ⟨y1, y2⟩ | ⟨y1, y2, y3⟩
      · subst y2
        refine And.intro (fun q => absurd rfl q) (fun _ => ?_)
        rw [nI_1, y1]
        rw [y1] at n3
        have q5 : mQ I J I3 J3 := mQ_tr hQ0 ⟨fun x hx => ⟨by rw [f4 x (by omega), f1 x (by omega) (by omega)], by rw [k4 x (by omega)]⟩, by rw [g4 2 (by decide), g1 2 (by decide)], by rw [g4 13 (by decide), g1 13 (by decide)]⟩
        exact h I3 J3 (mSt_tel hS q5 n3) (mQ_fr q5)
      · subst y2
        have hh := hGet hin y1
        refine And.intro (fun _ => ?_) (fun q => ?_)
        · rw [nI_1]
          exact cont y1 I3 J3 f4 g4 k4 n3
        · rw [show (0 : Int32) = nI 0 from rfl, nI_eq (by omega) (by omega)] at q
          exact absurd q y3
    refine And.intro (fun q => ?_) (fun q => ?_)
    · rw [e3, show (1 : Int32) = nI 1 from rfl, nI_eq (by omega) (by omega)] at q
      rcases goj with ⟨y, _⟩ | ⟨y, w⟩
      · exact absurd y q
      · rcases w with ⟨w1, w2⟩ | ⟨w1, w2, w3⟩
        · refine m_nextCorner hG (by decide) p3 bL w2 rfl ?_
          exact z75 _ (Or.inl ⟨w1, rfl⟩)
        · refine m_nextCorner hG (by decide) p3 bL w2 rfl ?_
          exact z75 _ (Or.inr ⟨w1, rfl, w3⟩)
    · rw [e3, show (1 : Int32) = nI 1 from rfl, nI_eq (by omega) (by omega)] at q
      rcases goj with ⟨_, y⟩ | ⟨y, w⟩
      · exact z75 _ (Or.inl ⟨y, rfl⟩)
      · omega
  have loop : ∀ (r j : Nat) (v m : Int32) (I' : Nat → Nat → Int32) (J' : Nat → Nat → Int64), j + r + 1 = H.length → v = nI (H.getD (H.length - 1 - j) 0) → m = nI j → (∀ x, x ≠ 305 → I' x = I1 x) → (∀ i, i ≠ 4 → I' 305 i = I1 305 i) → (∀ x, x ≠ 308 → J' x = J x) → mNm I' J' (hNl L H j) → aX12_hull G Q 27 [some (.ref 305), some (.int v), some (.int m)] [] (zK0, I', J', zR0 past) := by
    intro r
    induction r with
    | zero =>
      intro j v m I' J' hj ev em f g k n
      exact step j v m I' J' (by omega) ev em f g k n (fun q => by omega)
    | succ r ih =>
      intro j v m I' J' hj ev em f g k n
      exact step j v m I' J' (by omega) ev em f g k n (fun _ I' J' f g k n => ih (j + 1) _ _ I' J' (by omega) rfl rfl f g k n)
  refine loop (H.length - 1) 0 0 0 _ J (by omega) (by rw [h0.1]; rfl) rfl (fun x hx => z_upI_ne hx) (fun i hi => uI_k hi) (fun _ _ => rfl) mNm_0
