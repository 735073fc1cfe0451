-- ===== hull (class): the call =====
theorem hPop_len (t : Nat → Nat → Nat → Int) (i : Nat) : ∀ s, (hPop t i s).length ≤ s.length
  | [] => Nat.le_refl _
  | [_] => Nat.le_refl _
  | b :: a :: r => by
    show (if t a b i ≤ 0 then hPop t i (a :: r) else b :: a :: r).length ≤ _
    split
    · have := hPop_len t i (a :: r)
      rw [List.length_cons] at this ⊢
      rw [List.length_cons]
      omega
    · exact Nat.le_refl _
theorem cPts_ch {I I1 : Nat → Nat → Int32} {L : List (Nat × Nat)} (hL : cPts I L) (f : ∀ x, x ≠ 264 → x ≠ 267 → I1 x = I x) (g : ∀ j, j ≠ 1 → I1 264 j = I 264 j) : cPts I1 L := ⟨by rw [g 0 (by decide)]; exact hL.1, fun n q hq => by rw [f 265 (by decide) (by decide), f 266 (by decide) (by decide)]; exact hL.2 n q hq⟩
theorem c_findCorners {G : zG} (hG : zGok G) {k' : Nat} (hk : 4 ≤ k') {I : Nat → Nat → Int32} {J : Nat → Nat → Int64} {past : Nat → Nat} {Q : zRt} {L : List (Nat × Nat)} (hL : cPts I L) (bL : bdL L) (hp : hLx (pv L) L.length) (h : ∀ I', (∀ x, x ≠ 264 → x ≠ 267 → I' x = I x) → (∀ j, j ≠ 1 → I' 264 j = I 264 j) → cCh I' (hCs (trn (pv L)) L.length) → Q none (zK0, I', J, zR0 past)) : zCalls G k' yX10_findCorners [.ref 264] (zK0, I, J, zR0 past) Q := by
  have h49 := bL.1
  have bd := pv_bd bL
  have l8 : ∀ k, k ≤ L.length → (hLow (trn (pv L)) k).length ≤ 8 := fun k hk => hLow_8 hp bd hk
  have u8 : ∀ k, k ≤ L.length → (hUp (trn (pv L)) L.length k).length ≤ 8 := fun k hk => hUp_8 hp bd hk
  -- the end
  have z57 : ∀ (o1 o2 : Option Value) (F : List Nat) (I' : Nat → Nat → Int32), F.length < 90 → (∀ x, x ≠ 264 → x ≠ 267 → I' x = I x) → (∀ j, j ≠ 1 → I' 264 j = I 264 j) → cCh I' F → (F.length ≤ 1 → F = hCs (trn (pv L)) L.length) → (1 < F.length → ∃ b, F = b :: hCs (trn (pv L)) L.length) → aX10_findCorners G Q 57 [some (.ref 264), o1, o2] [] (zK0, I', J, zR0 past) := by
    intro o1 o2 F I' hF f g c e1 e2
    refine sgX10_findCorners hG [] 60 57 ?_
    refine And.intro (fun q => ?_) (fun q => ?_)
    · rw [c.1, show (1 : Int32) = nI 1 from rfl, nI_leI (by omega) (by omega)] at q
      rw [e1 q] at c
      exact h I' f g c
    · rw [c.1, show (1 : Int32) = nI 1 from rfl, nI_leI (by omega) (by omega)] at q
      obtain ⟨b, e⟩ := e2 (by omega)
      subst e
      rw [List.length_cons] at hF
      refine h _ (fun x x1 x2 => by rw [z_upI_ne x1]; exact f x x1 x2) (fun j hj => by rw [uI_k hj]; exact g j hj) (cCh_pop c ?_)
      rw [c.1, List.length_cons, show (1 : Int32) = nI 1 from rfl, pk_sub (by omega)]
      congr 1
  have two : ∀ (r k : Nat) (v vo : Int32) (I' : Nat → Nat → Int32), vo = nI (hLow (trn (pv L)) L.length).length → 2 ≤ L.length → 1 ≤ k → k + r = L.length → (k < L.length → v = nI (L.length - 1 - k)) → (k = L.length → v = -1) → (∀ x, x ≠ 264 → x ≠ 267 → I' x = I x) → (∀ j, j ≠ 1 → I' 264 j = I 264 j) → cCh I' (hUp (trn (pv L)) L.length k ++ (hLow (trn (pv L)) L.length).tail) → aX10_findCorners G Q 39 [some (.ref 264), some (.int vo), some (.int v)] [] (zK0, I', J, zR0 past) := by
    intro r
    induction r with
    | zero =>
      intro k v vo I' eo h2 h1 hk _ ev f g c
      have e : k = L.length := by omega
      subst e
      have ev := ev rfl
      subst ev
      obtain ⟨e0, _, _⟩ := hCs_f hp h2
      rw [e0] at c
      have l1 := l8 L.length (Nat.le_refl _)
      have l2 := u8 L.length (Nat.le_refl _)
      have le := congrArg List.length e0
      rw [List.length_append, List.length_tail, List.length_cons] at le
      refine sgX10_findCorners hG [39, 57] 60 39 ?_
      refine And.intro (fun _ => ?_) (fun q => absurd (by decide) q)
      refine z57 _ _ (0 :: hCs (trn (pv L)) L.length) I' (by rw [List.length_cons]; omega) f g c (fun q => ?_) (fun _ => ⟨0, rfl⟩)
      exfalso
      obtain ⟨_, _, U, eU, _⟩ := hCs_f hp h2
      rw [eU, List.length_cons, List.length_append] at q
      simp at q
    | succ r ih =>
      intro k v vo I' eo h2 h1 hk ev _ f g c
      have ev := ev (by omega)
      subst ev
      have l1 := l8 L.length (Nat.le_refl _)
      have l2 := u8 k (by omega)
      have ll : 1 ≤ (hLow (trn (pv L)) L.length).length := by
        obtain ⟨m, em⟩ : ∃ m, L.length = m + 1 := ⟨L.length - 1, by omega⟩
        rw [em]
        show 1 ≤ (_ :: _).length
        rw [List.length_cons]; omega
      refine sgX10_findCorners hG [39, 57] 60 39 ?_
      refine And.intro (fun q => absurd q (nI_pos (by omega))) (fun _ => ?_)
      refine c_link hG (by decide) (cPts_ch hL f g) bL (U := hUp (trn (pv L)) L.length k) (base := (hLow (trn (pv L)) L.length).tail) (hUp_in _ (by omega) k) (by rw [List.length_tail]; omega) c (i := L.length - 1 - k) (by omega) rfl (by rw [eo, nI_1, List.length_tail]; congr 1; omega) (fun I1 f1 g1 c1 => ?_)
      refine ih (k + 1) _ vo I1 eo h2 (by omega) (by omega) (fun q => ?_) (fun q => ?_) (fun x x1 x2 => (f1 x x1 x2).trans (f x x1 x2)) (fun j hj => (g1 j hj).trans (g j hj)) c1
      · rw [nI_dec (by omega)]; rfl
      · rw [show L.length - 1 - k = 0 by omega]; decide
  have one : ∀ (r i : Nat) (v : Int32) (o2 : Option Value) (I' : Nat → Nat → Int32), v = nI i → i + r = L.length → (∀ x, x ≠ 264 → x ≠ 267 → I' x = I x) → (∀ j, j ≠ 1 → I' 264 j = I 264 j) → cCh I' (hLow (trn (pv L)) i) → aX10_findCorners G Q 7 [some (.ref 264), some (.int v), o2] [] (zK0, I', J, zR0 past) := by
    intro r
    induction r with
    | zero =>
      intro i v o2 I' ev hi f g c
      subst ev
      have e : i = L.length := by omega
      subst e
      have e0 : I' 264 0 = nI L.length := by rw [g 0 (by decide)]; exact hL.1
      refine sgX10_findCorners hG [7, 39] 60 7 ?_
      refine And.intro (fun _ => ?_) (fun q => absurd (by rw [e0]; exact Int32.le_refl _) q)
      rcases Nat.lt_or_ge 1 L.length with z | z
      · refine two (L.length - 1) 1 _ _ I' c.1 (by omega) (Nat.le_refl _) (by omega) (fun q => ?_) (fun q => by omega) f g ?_
        · rw [e0, show (2 : Int32) = nI 2 from rfl, pk_sub (by omega)]; congr 1
        · obtain ⟨m, em⟩ : ∃ m, L.length = m + 1 := ⟨L.length - 1, by omega⟩
          rw [em] at c ⊢
          exact c
      · have l1 := l8 L.length (Nat.le_refl _)
        refine sgX10_findCorners hG [57] 60 39 ?_
        have neg : I' 264 0 - 2 < 0 := by
          rw [e0]
          rcases (show L.length = 0 ∨ L.length = 1 by omega) with y | y
          · rw [y]; decide
          · rw [y]; decide
        refine And.intro (fun _ => ?_) (fun q => absurd neg q)
        have eh : hCs (trn (pv L)) L.length = hLow (trn (pv L)) L.length := by unfold hCs; rw [if_pos z]
        have ln : (hLow (trn (pv L)) L.length).length ≤ 1 := by
          rcases (show L.length = 0 ∨ L.length = 1 by omega) with y | y
          · rw [y]; exact Nat.zero_le 1
          · rw [y]; exact Nat.le_refl 1
        exact z57 _ _ _ I' (by omega) f g c (fun _ => eh.symm) (fun q => by omega)
    | succ r ih =>
      intro i v o2 I' ev hi f g c
      subst ev
      have e0 : I' 264 0 = nI L.length := by rw [g 0 (by decide)]; exact hL.1
      have l1 := l8 i (by omega)
      refine sgX10_findCorners hG [7, 39] 60 7 ?_
      refine And.intro (fun q => absurd q (by rw [e0, nI_leI (by omega) (by omega)]; omega)) (fun _ => ?_)
      refine c_link hG (by decide) (cPts_ch hL f g) bL (U := hLow (trn (pv L)) i) (base := []) (fun x hx => by have := hLow_in _ i x hx; omega) (by rw [List.length_nil]; omega) (by rw [List.append_nil]; exact c) (i := i) (by omega) rfl rfl (fun I1 f1 g1 c1 => ?_)
      rw [List.append_nil] at c1
      exact ih (i + 1) _ o2 I1 (by rw [nI_1]) (by omega) (fun x x1 x2 => (f1 x x1 x2).trans (f x x1 x2)) (fun j hj => (g1 j hj).trans (g j hj)) c1
  refine rnX10_findCorners hG hk 264 ?_
  refine sgX10_findCorners hG [7] 60 0 ?_
  exact one L.length 0 0 none _ rfl (by omega) (fun x x1 _ => z_upI_ne x1) (fun j hj => uI_k hj) ⟨uI_s, fun j hj => absurd hj (Nat.not_lt_zero j)⟩
def hNl (L : List (Nat × Nat)) (H : List Nat) : Nat → List Int64
  | 0 => []
  | j + 1 => hNl L H j ++ [lN (zP0 L (H.getD (H.length - 1 - j) 0)).1, lN (zP0 L (H.getD (H.length - 1 - j) 0)).2]
theorem hNl_len (L : List (Nat × Nat)) (H : List Nat) : ∀ j, (hNl L H j).length = 2 * j
  | 0 => rfl
  | j + 1 => by
    show (hNl L H j ++ [_, _]).length = _
    rw [List.length_append, hNl_len L H j]
    simp
    omega
def hHs (L : List (Nat × Nat)) : List Nat := hCs (trn (pv L)) L.length
def sHul (π : zPl) : Int32 × Option (List Int64) := (nI (hHs (zPts π (-1))).length, some (hNl (zPts π (-1)) (hHs (zPts π (-1))) (hHs (zPts π (-1))).length))
theorem hHs_f {L : List (Nat × Nat)} (bL : bdL L) (hp : hLx (pv L) L.length) : (hHs L).length ≤ 16 ∧ ∀ x, x ∈ hHs L → x < L.length := by
  refine ⟨hCs_16 hp (pv_bd bL), fun x hx => ?_⟩
  unfold hHs at hx
  rcases Nat.lt_or_ge 1 L.length with z | z
  · obtain ⟨_, _, U, eU, _, hU⟩ := hCs_f hp z
    rw [eU] at hx
    rcases List.mem_append.mp hx with hx | hx
    · exact hU x hx
    · rw [List.mem_singleton.mp hx]; omega
  · unfold hCs at hx
    rw [if_pos z] at hx
    exact hLow_in _ _ x hx
theorem hGet {H : List Nat} {n : Nat} (hH : ∀ x, x ∈ H → x < n) {j : Nat} (hj : j < H.length) : H.getD (H.length - 1 - j) 0 < n := by
  rw [List.getD_eq_getElem?_getD, List.getElem?_eq_getElem (by omega)]
  exact hH _ (List.getElem_mem _)
theorem c_hull {G : zG} (hG : zGok G) {k' : Nat} (hk : 5 ≤ k') {I : Nat → Nat → Int32} {J : Nat → Nat → Int64} {past : Nat → Nat} {Q : zRt} {S : zS} (hS : cSt I J past S) (hv : vS S)  (h : ∀ I' J', cSt I' J' past (sOut S ( sHul S.1)) → cFr I J I' J' → Q (some (.int ( sHul S.1).1)) (zK0, I', J', zR0 past)) : zCalls G k' yX11_hull [.ref 0] (zK0, I, J, zR0 past) Q := by
  refine rnX11_hull hG hk 0  ?_
  refine sgX11_hull hG [28] 60 0 ?_
  have bL := zPts_bd S.1 (-1)
  have pw := pv_lxL bL (zPts_pw S.1 (-1))
  refine c_gather hG (by decide) (Or.inl rfl) hS.1 hv.1.1.1 (-1) (fun I1 f1 p1 => ?_)
  unfold sHul at h
  generalize zPts S.1 (-1) = L at *
  have h49 := bL.1
  obtain ⟨h16, hin⟩ := hHs_f bL pw
  refine c_findCorners hG (by decide) p1 bL pw (fun I2 f2 g2 c2 => ?_)
  have c2 : cCh I2 (hHs L) := c2
  generalize hHs L = H at *
  refine c_clear hG (by decide) (fun I3 f3 n3 => ?_)
  have p3 : cPts I3 L := cPts_fr (cPts_ch p1 f2 g2) (f3 264 (by decide)) (f3 265 (by decide)) (f3 266 (by decide))
  have loop : ∀ (r j : Nat) (v : Int32) (I' : Nat → Nat → Int32) (J' : Nat → Nat → Int64), v = nI j → j + r = H.length → (∀ x, x ≠ 128 → I' x = I3 x) → (∀ x, x ≠ 129 → J' x = J x) → cNm I' J' (hNl L H j) → aX11_hull G Q 28 [some (.ref 0), some (.int v)] [] (zK0, I', J', zR0 past) := by
    intro r
    induction r with
    | zero =>
      intro j v I' J' ev hj f g n
      subst ev
      have e : j = H.length := by omega
      subst e
      have e1 : I' 264 1 = nI H.length := by rw [f 264 (by decide), f3 264 (by decide)]; exact c2.1
      refine sgX11_hull hG [28] 60 28 ?_
      refine And.intro (fun _ => ?_) (fun q => absurd (by rw [e1]; exact Int32.le_refl _) q)
      have q : cQ I J I' J' := fun x hx => ⟨by rw [f x (by omega), f3 x (by omega), f2 x (by omega) (by omega), f1 x (by omega) (by omega) (by omega)], g x (by omega)⟩
      have k := h I' J' (cSt_tel hS hv q n) (cQ_fr q)
      rw [← e1] at k
      exact k
    | succ r ih =>
      intro j v I' J' ev hj f g n
      subst ev
      have e1 : I' 264 1 = nI H.length := by rw [f 264 (by decide), f3 264 (by decide)]; exact c2.1
      have p4 : cPts I' L := cPts_fr p3 (f 264 (by decide)) (f 265 (by decide)) (f 266 (by decide))
      have e2 : I' 267 (nI j).toNatClampNeg = nI (H.getD (H.length - 1 - j) 0) := by rw [nI_clamp (by omega), f 267 (by decide), f3 267 (by decide)]; exact c2.2 j (by omega)
      have hx := hGet hin (j := j) (by omega)
      refine sgX11_hull hG [28] 60 28 ?_
      refine And.intro (fun q => absurd q (by rw [e1, nI_leI (by omega) (by omega)]; omega)) (fun _ => ?_)
      refine And.intro (fun q => absurd q (by rw [show Int32.ofNat 98 = nI 98 from rfl, nI_leI (by omega) (by omega)]; omega)) (fun _ => ?_)
      refine And.intro (by exact vp_in_nI (by omega) (by omega)) ?_
      refine z_arg (args' := [.ref 264, .int (nI (H.getD (H.length - 1 - j) 0)), .ref 128]) (by rw [e2]) ?_
      refine c_ptell hG (by decide) p4 bL (zP0_at hx) n (by rw [hNl_len]; omega) (fun I4 J4 f4 g4 n4 => ?_)
      exact ih (j + 1) _ I4 J4 (by rw [nI_1]) (by omega) (fun x hx => (f4 x hx).trans (f x hx)) (fun x hx => (g4 x hx).trans (g x hx)) n4
  exact loop H.length 0 0 I3 J rfl (by omega) (fun _ _ => rfl) (fun _ _ => rfl) n3
