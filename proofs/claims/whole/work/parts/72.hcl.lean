-- ===== hull (class) =====
theorem pv_trn {L : List (Nat × Nat)} (a b c : Nat) : (nI (zP0 L b).1 - nI (zP0 L a).1) * (nI (zP0 L c).2 - nI (zP0 L a).2) - (nI (zP0 L b).2 - nI (zP0 L a).2) * (nI (zP0 L c).1 - nI (zP0 L a).1) = Int32.ofInt (trn (pv L) a b c) := by
  unfold trn crs vsb pv
  simp only [nI_I, ← Int32.ofInt_sub, ← Int32.ofInt_mul]
theorem pv_tbd {L : List (Nat × Nat)} (bL : bdL L) {a b c : Nat} (ha : a < L.length) (hb : b < L.length) (hc : c < L.length) : (trn (pv L) a b c).natAbs ≤ 98 := by
  have a1 := bL.2 a _ (zP0_at ha)
  have b1 := bL.2 b _ (zP0_at hb)
  have c1 := bL.2 c _ (zP0_at hc)
  have x1 : (((zP0 L b).1 : Int) - ((zP0 L a).1 : Int)).natAbs ≤ 7 := by omega
  have x2 : (((zP0 L c).2 : Int) - ((zP0 L a).2 : Int)).natAbs ≤ 7 := by omega
  have x3 : (((zP0 L b).2 : Int) - ((zP0 L a).2 : Int)).natAbs ≤ 7 := by omega
  have x4 : (((zP0 L c).1 : Int) - ((zP0 L a).1 : Int)).natAbs ≤ 7 := by omega
  exact bd_sub (bd_mul x1 x2) (bd_mul x3 x4)
theorem c_turn {G : zG} (hG : zGok G) {k' : Nat} (hk : 2 ≤ k') {I : Nat → Nat → Int32} {J : Nat → Nat → Int64} {past : Nat → Nat} {Q : zRt} {L : List (Nat × Nat)} (hL : cPts I L) (bL : bdL L) {a b c : Nat} (ha : a < L.length) (hb : b < L.length) (hc : c < L.length) {A B C : Int32} (eA : A = nI a) (eB : B = nI b) (eC : C = nI c) (h : Q (some (.int (Int32.ofInt (trn (pv L) a b c)))) (zK0, I, J, zR0 past)) : zCalls G k' yX10_turn [.ref 264, .int A, .int B, .int C] (zK0, I, J, zR0 past) Q := by
  subst eA
  subst eB
  subst eC
  have h49 := bL.1
  obtain ⟨a1, a2⟩ := hL.2 a _ (zP0_at ha)
  obtain ⟨b1, b2⟩ := hL.2 b _ (zP0_at hb)
  obtain ⟨c1, c2⟩ := hL.2 c _ (zP0_at hc)
  have na : (nI a).toNatClampNeg = a := nI_clamp (by omega)
  have nb : (nI b).toNatClampNeg = b := nI_clamp (by omega)
  have nc : (nI c).toNatClampNeg = c := nI_clamp (by omega)
  refine rnX10_turn hG hk 264 _ _ _ ?_
  refine sgX10_turn hG [] 60 0 ?_
  refine c_has hG (by decide) hL.1 (by omega) a ha ?_
  refine And.intro (fun q => absurd q (by decide)) (fun _ => ?_)
  refine c_has hG (by decide) hL.1 (by omega) b hb ?_
  refine And.intro (fun q => absurd q (by decide)) (fun _ => ?_)
  refine c_has hG (by decide) hL.1 (by omega) c hc ?_
  refine And.intro (fun _ => ?_) (fun q => absurd q (by decide))
  refine And.intro (by exact vp_in_nI (by omega) (by omega)) ?_
  refine And.intro (by exact vp_in_nI (by omega) (by omega)) ?_
  refine And.intro (by exact vp_in_nI (by omega) (by omega)) ?_
  refine And.intro (by exact vp_in_nI (by omega) (by omega)) ?_
  refine And.intro (by exact vp_in_nI (by omega) (by omega)) ?_
  refine And.intro (by exact vp_in_nI (by omega) (by omega)) ?_
  refine And.intro (by exact vp_in_nI (by omega) (by omega)) ?_
  refine And.intro (by exact vp_in_nI (by omega) (by omega)) ?_
  rw [← pv_trn, ← a1, ← a2, ← b1, ← b2, ← c1, ← c2] at h
  rw [na, nb, nc]
  exact h
def cCh (I : Nat → Nat → Int32) (F : List Nat) : Prop := I 264 1 = nI F.length ∧ ∀ j, j < F.length → I 267 j = nI (F.getD (F.length - 1 - j) 0)
theorem cCh_pop {I : Nat → Nat → Int32} {b : Nat} {F : List Nat} (h : cCh I (b :: F)) {v : Int32} (hv : v = nI F.length) : cCh (z_upI I 264 1 v) F := by
  refine ⟨by rw [uI_s, hv], fun j hj => ?_⟩
  have k := h.2 j (by rw [List.length_cons]; omega)
  rw [uI_p (by decide), k, List.length_cons, show F.length + 1 - 1 - j = (F.length - 1 - j) + 1 by omega]
  rfl
theorem cCh_push {I : Nat → Nat → Int32} {i : Nat} {F : List Nat} (h : cCh I F) {x y : Int32} (hx : x = nI i) (hy : y = nI (F.length + 1)) : cCh (z_upI (z_upI I 267 F.length x) 264 1 y) (i :: F) := by
  refine ⟨by rw [uI_s, hy]; rfl, fun j hj => ?_⟩
  rw [List.length_cons] at hj
  rw [uI_p (by decide), List.length_cons]
  rcases (show j = F.length ∨ j < F.length by omega) with z | z
  · rw [z, uI_s, hx, show F.length + 1 - 1 - F.length = 0 by omega]; rfl
  · rw [uI_k (by omega), h.2 j z, show F.length + 1 - 1 - j = (F.length - 1 - j) + 1 by omega]; rfl
theorem nI_dec {m : Nat} (h : 0 < m) : nI m + -1 = nI (m - 1) := by
  have e : nI m = nI (m - 1) + 1 := by rw [nI_1]; congr 1; omega
  rw [e, Int32.add_assoc, show (1 : Int32) + -1 = 0 by decide, Int32.add_zero]
theorem c_link {G : zG} (hG : zGok G) {k' : Nat} (hk : 3 ≤ k') {I : Nat → Nat → Int32} {J : Nat → Nat → Int64} {past : Nat → Nat} {Q : zRt} {L : List (Nat × Nat)} (hL : cPts I L) (bL : bdL L) {U base : List Nat} (hU : ∀ x, x ∈ U → x < L.length) (hlen : U.length + base.length < 90) (hc : cCh I (U ++ base)) {i : Nat} (hi : i < L.length) {vi le : Int32} (ei : vi = nI i) (el : le = nI (base.length + 2)) (h : ∀ I', (∀ x, x ≠ 264 → x ≠ 267 → I' x = I x) → (∀ j, j ≠ 1 → I' 264 j = I 264 j) → cCh I' (i :: (hPop (trn (pv L)) i U ++ base)) → Q none (zK0, I', J, zR0 past)) : zCalls G k' yX10_link [.ref 264, .int vi, .int le] (zK0, I, J, zR0 past) Q := by
  subst ei
  subst el
  have h49 := bL.1
  have z59 : ∀ (V : List Nat) (I' : Nat → Nat → Int32), V.length ≤ U.length → (∀ x, x ≠ 264 → x ≠ 267 → I' x = I x) → (∀ j, j ≠ 1 → I' 264 j = I 264 j) → cCh I' (V ++ base) → hPop (trn (pv L)) i U = V → aX10_link G Q 71 [some (.ref 264), some (.int (nI i)), some (.int (nI (base.length + 2)))] [] (zK0, I', J, zR0 past) := by
    intro V I' hV f g c e
    rw [e] at h
    have e1 := c.1
    rw [List.length_append] at e1
    have cl : (I' 264 1).toNatClampNeg = (V ++ base).length := by rw [c.1, nI_clamp (by rw [List.length_append]; omega)]
    refine sgX10_link hG [] 60 71 ?_
    refine And.intro (fun q => absurd q (by rw [e1]; exact nI_pos (by omega))) (fun _ => ?_)
    refine And.intro (fun q => absurd q (by rw [e1, show Int32.ofNat 98 = nI 98 from rfl, nI_leI (by omega) (by omega)]; omega)) (fun _ => ?_)
    refine And.intro (by rw [e1]; exact vp_in_nI (by omega) (by omega)) ?_
    rw [cl]
    refine h _ (fun x a b => by rw [z_upI_ne a, z_upI_ne b]; exact f x a b) (fun j hj => by rw [uI_k hj, uI_p (by decide)]; exact g j hj) ?_
    exact cCh_push c rfl (by rw [uI_p (by decide), c.1, nI_1])
  have loop : ∀ (V : List Nat) (I' : Nat → Nat → Int32), V.length ≤ U.length → (∀ x, x ∈ V → x < L.length) → (∀ x, x ≠ 264 → x ≠ 267 → I' x = I x) → (∀ j, j ≠ 1 → I' 264 j = I 264 j) → cCh I' (V ++ base) → hPop (trn (pv L)) i U = hPop (trn (pv L)) i V → aX10_link G Q 0 [some (.ref 264), some (.int (nI i)), some (.int (nI (base.length + 2)))] [] (zK0, I', J, zR0 past) := by
    intro V
    have few : ∀ (V : List Nat) (I' : Nat → Nat → Int32), V.length ≤ 1 → V.length ≤ U.length → (∀ x, x ≠ 264 → x ≠ 267 → I' x = I x) → (∀ j, j ≠ 1 → I' 264 j = I 264 j) → cCh I' (V ++ base) → hPop (trn (pv L)) i U = V → aX10_link G Q 0 [some (.ref 264), some (.int (nI i)), some (.int (nI (base.length + 2)))] [] (zK0, I', J, zR0 past) := by
      intro V I' h1 hV f g c e
      have e1 := c.1
      rw [List.length_append] at e1
      refine sgX10_link hG [0, 71] 60 0 ?_
      refine And.intro (fun _ => z59 V I' hV f g c e) (fun _ => ?_)
      refine And.intro (fun _ => z59 V I' hV f g c e) (fun q => absurd (by rw [e1, nI_ltI (by omega) (by omega)]; omega) q)
    induction V with
    | nil => intro I' hV _ f g c e; exact few [] I' (by decide) hV f g c e
    | cons b V ih =>
      cases V with
      | nil => intro I' hV _ f g c e; exact few [b] I' (Nat.le_refl 1) hV f g c e
      | cons a r =>
        intro I' hV hm f g c e
        have e1 := c.1
        rw [List.length_append, List.length_cons, List.length_cons] at e1
        rw [List.length_cons, List.length_cons] at hV
        have i1 : I' 264 1 - 2 = nI (r.length + base.length) := by rw [e1, show (2 : Int32) = nI 2 from rfl, pk_sub (by omega)]; congr 1; omega
        have i2 : I' 264 1 - 1 = nI (r.length + 1 + base.length) := by rw [e1, show (1 : Int32) = nI 1 from rfl, pk_sub (by omega)]; congr 1; omega
        have el : (b :: a :: r ++ base).length = r.length + base.length + 2 := by rw [List.length_append, List.length_cons, List.length_cons]; omega
        have j1 : I' 267 (I' 264 1 - 2).toNatClampNeg = nI a := by
          rw [i1, nI_clamp (by omega), c.2 _ (by rw [el]; omega), el, show r.length + base.length + 2 - 1 - (r.length + base.length) = 1 by omega]; rfl
        have j2 : I' 267 (I' 264 1 - 1).toNatClampNeg = nI b := by
          rw [i2, nI_clamp (by omega), c.2 _ (by rw [el]; omega), el, show r.length + base.length + 2 - 1 - (r.length + 1 + base.length) = 0 by omega]; rfl
        have hL' : cPts I' L := ⟨by rw [g 0 (by decide)]; exact hL.1, fun n q hq => by rw [f 265 (by decide) (by decide), f 266 (by decide) (by decide)]; exact hL.2 n q hq⟩
        have ha := hm a (by simp)
        have hb := hm b (by simp)
        have tb := pv_tbd bL ha hb hi
        have lt0 : 0 < Int32.ofInt (trn (pv L) a b i) ↔ ¬ trn (pv L) a b i ≤ 0 := by rw [show (0 : Int32) = Int32.ofInt 0 from rfl, iI_lt (by decide) (by omega)]; omega
        have ep : hPop (trn (pv L)) i (b :: a :: r) = if trn (pv L) a b i ≤ 0 then hPop (trn (pv L)) i (a :: r) else b :: a :: r := rfl
        refine sgX10_link hG [0, 71] 60 0 ?_
        refine And.intro (fun q => absurd q (by rw [e1, show (2 : Int32) = nI 2 from rfl, nI_ltI (by omega) (by omega)]; omega)) (fun _ => ?_)
        refine And.intro (fun q => absurd q (by rw [e1, nI_ltI (by omega) (by omega)]; omega)) (fun _ => ?_)
        refine And.intro (fun q => absurd q (by rw [e1, show Int32.ofNat 98 = nI 98 from rfl, nI_ltI (by omega) (by omega)]; omega)) (fun _ => ?_)
        refine And.intro (by rw [i1]; exact vp_in_nI (by omega) (by omega)) ?_
        refine And.intro (by rw [i2]; exact vp_in_nI (by omega) (by omega)) ?_
        refine c_turn hG (by decide) hL' bL ha hb hi j1 j2 rfl ?_
        refine And.intro (fun d => ?_) (fun d => ?_)
        · rw [lt0] at d
          rw [if_neg d] at ep
          exact z59 (b :: a :: r) I' (by rw [List.length_cons, List.length_cons]; omega) f g c (by rw [e, ep])
        · rw [lt0] at d
          rw [if_pos (Decidable.not_not.mp d)] at ep
          refine ih _ (by rw [List.length_cons]; omega) (fun x hx => hm x (List.mem_cons_of_mem _ hx)) (fun x x1 x2 => by rw [z_upI_ne x1]; exact f x x1 x2) (fun j hj => by rw [uI_k hj]; exact g j hj) (cCh_pop c (by rw [i2]; show _ = nI ((a :: r) ++ base).length; rw [List.length_append, List.length_cons])) (by rw [e, ep])
  refine rnX10_link hG hk 264 _ _ ?_
  exact loop U I (Nat.le_refl _) hU (fun _ _ _ => rfl) (fun _ _ => rfl) hc rfl
