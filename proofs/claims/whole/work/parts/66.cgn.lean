-- ===== gains (class) =====
theorem eLs_m {π : zPl} {a b : Int} {w : Nat} {f : zFr} : ∀ n, f ∈ eLs π a b w n ↔ ∃ k, k < n ∧ f ∈ eL π a b w k
  | 0 => ⟨fun h => absurd h List.not_mem_nil, fun ⟨_, h, _⟩ => by omega⟩
  | n + 1 => by
    show f ∈ _ ++ _ ↔ _
    rw [List.mem_append, eLs_m n]
    constructor
    · rintro (⟨j, h1, h2⟩ | h)
      · exact ⟨j, by omega, h2⟩
      · exact ⟨n, by omega, h⟩
    · rintro ⟨j, h1, h2⟩
      rcases (show j < n ∨ j = n by omega) with z | z
      · exact Or.inl ⟨j, z, h2⟩
      · rw [z] at h2; exact Or.inr h2
/-- the most of all these is small -/
def fQ (f : zFr) : Prop := isR f ∧ f.1.natAbs ≤ 10000 ∧ f.2.natAbs ≤ 1000
theorem fQ_B {f : zFr} (h : fQ f) : fB f := ⟨by have := h.2.1; omega, by have := h.2.2; omega⟩
theorem fRed_Q {a b : Int} (h : b ≠ 0) (ha : a.natAbs ≤ 10000) (hb : b.natAbs ≤ 1000) : fQ (fRed a b) := by
  have := fRed_bd (a := a) h
  exact ⟨fRed_R h, by omega, by omega⟩
theorem eF_Q {a b : Int} (ha : a.natAbs ≤ 9) (hb : b.natAbs ≤ 9) {w k : Nat} (hk : k < 7) {f : zFr} (hf : fW 5 f) : fQ (eF a b w k f) := by
  obtain ⟨p, u, l⟩ := fW_p hf
  have z := eU_bd ha hb (w := w) hk hf
  exact fRed_Q (by omega) (by omega) (by omega)
theorem mx0_Q {π : zPl} (hv : vRw π) {a b : Int} (ha : a.natAbs ≤ 9) (hb : b.natAbs ≤ 9) {f : zFr} (h : mx0 π a b = some f) : fQ f := by
  rw [← kCo_mx] at h
  obtain ⟨i, j, h1, h2, h3⟩ := (kCo_m _).mp (mxL_in kCo_R h)
  obtain ⟨_, d, e⟩ := kL_1 h3
  have x := k_bd hv (i := i) (j := j) h2 (by omega)
  have y := kU_bd hv (i := i) (j := j) h2 (by omega) ha hb
  rw [e]
  exact fRed_Q d (by omega) (by omega)
theorem mx1_Q {π : zPl} (hv : vRw π) {a b : Int} (ha : a.natAbs ≤ 9) (hb : b.natAbs ≤ 9) {w : Nat} (hw : w < 2) {f : zFr} (h : mx1 π a b w = some f) : fQ f := by
  obtain ⟨k, hk, hf⟩ := (eLs_m _).mp (mxL_in (fun x hx => (eLs_lB hv ha hb hw 7 (by omega) x hx).1) h)
  unfold eL at hf
  split at hf
  · rename_i c
    have s := sT0_W hv hw hk c
    rcases List.mem_cons.mp hf with e | hf
    · rw [e]; exact eF_Q ha hb hk s.1.1
    · rw [List.mem_singleton.mp hf]; exact eF_Q ha hb hk s.1.2
  · exact absurd hf List.not_mem_nil
theorem mx3_R {π : zPl} {a b : Int} : ∀ x, x ∈ (zPts π (-1)).map (pF a b) → isR x := by
  intro x hx
  obtain ⟨q, hq, rfl⟩ := List.mem_map.mp hx
  exact isR_1 _
theorem mx3_in {π : zPl} {a b : Int} {f : zFr} (h : mx3 π a b = some f) : ∃ q, q ∈ zPts π (-1) ∧ f = pF a b q := by
  obtain ⟨q, hq, e⟩ := List.mem_map.mp (mxL_in mx3_R h)
  exact ⟨q, hq, e.symm⟩
theorem mx3_Q {π : zPl} {a b : Int} (ha : a.natAbs ≤ 9) (hb : b.natAbs ≤ 9) {f : zFr} (h : mx3 π a b = some f) : fQ f := by
  obtain ⟨q, hq, rfl⟩ := mx3_in h
  obtain ⟨n, hn⟩ := List.getElem?_of_mem hq
  obtain ⟨b1, b2, _⟩ := zPts_in hn
  have := (pF_ok ha hb b1 b2).2.2
  exact ⟨isR_1 _, by show (zSm a b q).natAbs ≤ 10000; omega, show (1 : Int).natAbs ≤ 1000 by decide⟩
/-- with a whole point there is a most of each kind -/
theorem mx_all {π : zPl} (hv : vRw π) {a b : Int} (ha : a.natAbs ≤ 9) (hb : b.natAbs ≤ 9) {f : zFr} (h : mx3 π a b = some f) : (∃ g, mx0 π a b = some g) ∧ ∀ w, w < 2 → ∃ g, mx1 π a b w = some g := by
  obtain ⟨q, hq, _⟩ := mx3_in h
  have z := zPtT_in _ 49 q hq
  have b1 : q.1 < 7 := by omega
  have b2 : q.2 < 7 := z.2.2
  have hd : zHd π (nI q.1) (nI q.2) 1 (-1) = true := z.1
  refine ⟨mx0_ex hv b1 b2 hd a b, fun w hw => ?_⟩
  have hp := zHd_1 hv b1 b2 hd
  have key : ∃ k, k < 7 ∧ (sT0 π w k).1 = true := by
    rcases (show w = 0 ∨ w = 1 by omega) with rfl | rfl
    · exact ⟨q.1, b1, sT0_pt hv (by decide) b1 b2 hp⟩
    · exact ⟨q.2, b2, sT0_pt hv (by decide) b2 b1 (fun m hm => by have := hp m hm; show rI π m 1 * (q.2 : Int) + rI π m 0 * (q.1 : Int) ≤ _; omega)⟩
  obtain ⟨k, hk, c⟩ := key
  refine mxL_some (fun x hx => (eLs_lB hv ha hb hw 7 (by omega) x hx).1) (f := eF a b w k (sT0 π w k).2.1) ((eLs_m _).mpr ⟨k, hk, ?_⟩)
  unfold eL
  rw [if_pos c]
  exact List.mem_cons_self
theorem mxW_Q {π : zPl} (hv : vRw π) {a b : Int} (ha : a.natAbs ≤ 9) (hb : b.natAbs ≤ 9) {n : Nat} (hn : n < 4) {f : zFr} (h : mxW π a b n = some f) : fQ f := by
  unfold mxW at h
  split at h
  · exact mx0_Q hv ha hb h
  · split at h
    · exact mx3_Q ha hb h
    · exact mx1_Q hv ha hb (by omega) h
def fDf (f g : zFr) : zFr := fRed (f.1 * g.2 - g.1 * f.2) (f.2 * g.2)
def sGn (f0 f1 f2 f3 : zFr) : Int32 × Option (List Int64) := (zb (fLt f2 f1), some (fPr (fDf f0 (if fLt f2 f1 then f2 else f1)) ++ fPr (fDf f0 f3)))
def sGai (π : zPl) (a b : Int32) : Int32 × Option (List Int64) := if bSm a b then (match mx3 π a.toInt b.toInt with
  | none => (-2, none)
  | some f3 => sGn ((mx0 π a.toInt b.toInt).getD (0, 1)) ((mx1 π a.toInt b.toInt 0).getD (0, 1)) ((mx1 π a.toInt b.toInt 1).getD (0, 1)) f3) else (-1, none)
theorem fQ_m {f g : zFr} (hf : fQ f) (hg : fQ g) : (f.2 * g.2).natAbs < 2 ^ 49 ∧ f.2 * g.2 ≠ 0 := by
  have p1 := hf.1.1
  have p2 := hg.1.1
  have := bd_mul hf.2.2 hg.2.2
  refine ⟨by omega, ?_⟩
  have := Int.mul_pos p1 p2
  omega
theorem c_gains {G : zG} (hG : zGok G) {k' : Nat} (hk : 8 ≤ k') {I : Nat → Nat → Int32} {J : Nat → Nat → Int64} {past : Nat → Nat} {Q : zRt} {S : zS} (hS : cSt I J past S) (hv : vS S) (a b : Int32) (h : ∀ I' J', cSt I' J' past (sOut S ( sGai S.1 a b)) → cFr I J I' J' → Q (some (.int ( sGai S.1 a b).1)) (zK0, I', J', zR0 past)) : zCalls G k' yX11_gains [.ref 0, .int a, .int b] (zK0, I, J, zR0 past) Q := by
  refine rnX11_gains hG hk 0 a b ?_
  refine sgX11_gains hG [12] 60 0 ?_
  refine c_isSum hG (by decide) a b ?_
  refine And.intro (fun c => ?_) (fun c => ?_)
  rotate_left
  · have c := (zb_eq0 _).mp c
    unfold sGai at h
    rw [c, if_neg (by decide)] at h
    exact h I J hS (fun _ _ => ⟨rfl, rfl⟩)
  have c := z_nb1 (x := 0) c
  obtain ⟨ba, bb⟩ := bSm_bd c
  unfold sGai at h
  rw [if_pos c] at h
  have h8 := hv.1.2.1
  have loop : ∀ (r n : Nat) (vn : Int32) (I' : Nat → Nat → Int32) (J' : Nat → Nat → Int64), vn = nI n → n + r = 4 → (∀ x, x < 132 ∨ (267 ≤ x ∧ x < 293) ∨ 305 ≤ x → I' x = I x ∧ J' x = J x) → (∀ m, m < n → cMo I' J' (293 + 3 * m) (294 + 3 * m) a.toInt b.toInt (mxW S.1 a.toInt b.toInt m)) → aX11_gains G Q 12 [some (.ref 0), some (.int a), some (.int b), some (.int vn)] [] (zK0, I', J', zR0 past) := by
    intro r
    induction r with
    | succ r ih =>
      intro n vn I' J' en hn f m
      subst en
      have hc' : cPl I' J' 1 S.1 := cPl_rg hS.1 h8 (fun x a c => f x (by omega))
      refine sgX11_gains hG [12] 60 12 ?_
      refine And.intro (fun q => absurd q (by rw [show Int32.ofNat 4 = nI 4 from rfl, nI_leI (by omega) (by omega)]; omega)) (fun _ => ?_)
      refine c_findMost hG (by decide) hc' hv.1 ba bb (n := n) (by omega) (i_of a) (i_of b) rfl (fun I1 J1 f1 m1 => ?_)
      refine ih (n + 1) _ I1 J1 (by rw [nI_1]) (by omega) (fun x hx => ⟨by rw [(f1 x (by omega)).1, (f x hx).1], by rw [(f1 x (by omega)).2, (f x hx).2]⟩) (fun k hk => ?_)
      rcases (show k < n ∨ k = n by omega) with z | z
      · exact cMo_fr (m k z) (f1 _ (by omega)).1 (f1 _ (by omega)).2
      · rw [z]; exact m1
    | zero =>
      intro n vn I' J' en hn f m
      subst en
      have e4 : n = 4 := by omega
      subst e4
      have q1 : cQ I J I' J' := fun x hx => f x (by omega)
      have m0 := m 0 (by omega)
      have m1 := m 1 (by omega)
      have m2 := m 2 (by omega)
      have m3 := m 3 (by omega)
      have w0 : mxW S.1 a.toInt b.toInt 0 = mx0 S.1 a.toInt b.toInt := rfl
      have w1 : mxW S.1 a.toInt b.toInt 1 = mx1 S.1 a.toInt b.toInt 0 := rfl
      have w2 : mxW S.1 a.toInt b.toInt 2 = mx1 S.1 a.toInt b.toInt 1 := rfl
      have w3 : mxW S.1 a.toInt b.toInt 3 = mx3 S.1 a.toInt b.toInt := rfl
      rw [w0] at m0
      rw [w1] at m1
      rw [w2] at m2
      rw [w3] at m3
      refine sgX11_gains hG [12, 78] 60 12 ?_
      refine And.intro (fun _ => ?_) (fun q => absurd (by decide) q)
      refine And.intro (by unfold vp_in; decide) ⟨302, moF_r past (w := 3) (by decide), ?_⟩
      cases e3 : mx3 S.1 a.toInt b.toInt with
      | none =>
        rw [e3] at h m3
        refine And.intro (fun c => absurd m3.2.2.1 c) (fun _ => ?_)
        exact h I' J' (cSt_same hS hv q1 (f 128 (by omega)).1 (f 129 (by omega)).2) (cQ_fr q1)
      | some f3 =>
        obtain ⟨⟨f0, e0⟩, hw⟩ := mx_all hv.1.1 ba bb e3
        obtain ⟨f1, e1⟩ := hw 0 (by decide)
        obtain ⟨f2, e2⟩ := hw 1 (by decide)
        have k0 := mx0_Q hv.1.1 ba bb e0
        have k1 := mx1_Q hv.1.1 ba bb (by decide) e1
        have k2 := mx1_Q hv.1.1 ba bb (by decide) e2
        have k3 := mx3_Q ba bb e3
        rw [e3, e0, e1, e2] at h
        rw [e0] at m0
        rw [e1] at m1
        rw [e2] at m2
        rw [e3] at m3
        have x0 : cFx J' 294 f0 := m0.2.2.2 f0 rfl
        have x1 : cFx J' 297 f1 := m1.2.2.2 f1 rfl
        have x2 : cFx J' 300 f2 := m2.2.2.2 f2 rfl
        have x3 : cFx J' 303 f3 := m3.2.2.2 f3 rfl
        have h : ∀ I' J', cSt I' J' past (sOut S (sGn f0 f1 f2 f3)) → cFr I J I' J' → Q (some (.int (sGn f0 f1 f2 f3).1)) (zK0, I', J', zR0 past) := h
        refine And.intro (fun _ => ?_) (fun c => absurd (c.symm.trans m3.2.2.1) (show ¬ (0 : Int32) = zb true by decide))
        have z113 : ∀ (y : Bool) (I2 : Nat → Nat → Int32) (J3 : Nat → Nat → Int64), y = fLt f2 f1 → (∀ x, x ≠ 128 → I2 x = I' x) → cNm I2 J3 [] → (∀ x, x ≠ 269 → J3 x = J' x) → cFx J3 269 (fDf f0 (if y = true then f2 else f1)) → aX11_gains G Q 113 [some (.ref 0), some (.int a), some (.int b), some (.int (zb y))] [] (zK0, I2, J3, zR0 past) := by
          intro y I2 J3 ey g2 n2 g3 q3
          unfold sGn at h
          rw [← ey] at h
          refine sgX11_gains hG [] 90 113 ?_
          refine c_tellRatio hG (by decide) n2 (by decide) 269 (by decide) (by decide) (fun I4 J4 f4 g4 n4 => ?_)
          refine And.intro (by unfold vp_in; decide) ⟨293, moF_r past (w := 0) (by decide), ?_⟩
          refine And.intro (by unfold vp_in; decide) ⟨302, moF_r past (w := 3) (by decide), ?_⟩
          obtain ⟨t1, t0⟩ := fQ_m k0 k3
          refine c_putDifference hG (by decide) 269 294 303 (by decide +kernel) (by decide +kernel) (by decide +kernel) (cFx_fr x0 (by rw [g4 294 (by decide), g3 294 (by decide)])) (cFx_fr x3 (by rw [g4 303 (by decide), g3 303 (by decide)])) (fQ_B k0) (fQ_B k3) t1 t0 (fun J5 g5 q5 => ?_)
          refine c_tellRatio hG (by decide) (cNm_fr n4 rfl (g5 129 (by decide))) (by simp) 269 (by decide) (by decide) (fun I6 J6 f6 g6 n6 => ?_)
          rw [q3.1, q3.2, q5.1, q5.2] at n6
          have q6 : cQ I J I6 J6 := cQ_tr q1 (fun x hx => ⟨by rw [f6 x (by omega), f4 x (by omega), g2 x (by omega)], by rw [g6 x (by omega), g5 x (by omega), g4 x (by omega), g3 x (by omega)]⟩)
          exact h I6 J6 (cSt_tel hS hv q6 n6) (cQ_fr q6)
        have z78 : ∀ (y : Bool) (s : Int32), y = fLt f2 f1 → s = zb y → aX11_gains G Q 78 [some (.ref 0), some (.int a), some (.int b), some (.int (nI 4))] [.int s] (zK0, I', J', zR0 past) := by
          intro y s ey es
          subst es
          refine sgX11_gains hG [113] 90 78 ?_
          refine c_clear hG (by decide) (fun I2 g2 n2 => ?_)
          refine And.intro (by unfold vp_in; decide) ⟨293, moF_r past (w := 0) (by decide), ?_⟩
          cases y with
          | false =>
            refine And.intro (by unfold vp_in; decide) ⟨296, moF_r past (w := 1) (by decide), ?_⟩
            obtain ⟨t1, t0⟩ := fQ_m k0 k1
            refine c_putDifference hG (by decide) 269 294 297 (by decide +kernel) (by decide +kernel) (by decide +kernel) x0 x1 (fQ_B k0) (fQ_B k1) t1 t0 (fun J3 g3 q3 => ?_)
            exact z113 false I2 J3 ey g2 (cNm_fr n2 rfl (g3 129 (by decide))) g3 q3
          | true =>
            refine And.intro (by unfold vp_in; decide) ⟨299, moF_r past (w := 2) (by decide), ?_⟩
            obtain ⟨t1, t0⟩ := fQ_m k0 k2
            refine c_putDifference hG (by decide) 269 294 300 (by decide +kernel) (by decide +kernel) (by decide +kernel) x0 x2 (fQ_B k0) (fQ_B k2) t1 t0 (fun J3 g3 q3 => ?_)
            exact z113 true I2 J3 ey g2 (cNm_fr n2 rfl (g3 129 (by decide))) g3 q3
        refine And.intro (by unfold vp_in; decide) ⟨299, moF_r past (w := 2) (by decide), ?_⟩
        refine And.intro (by unfold vp_in; decide) ⟨296, moF_r past (w := 1) (by decide), ?_⟩
        refine c_isBelowI hG (by decide) 300 297 (by decide +kernel) (by decide +kernel) x2 x1 (fQ_B k2) (fQ_B k1) ?_
        refine And.intro (fun c => ?_) (fun c => ?_)
        · exact z78 false _ ((zb_eq0 _).mp c).symm rfl
        · exact z78 true _ (z_nb1 (x := 0) c).symm rfl
  exact loop 4 0 0 I J rfl (by omega) (fun _ _ => ⟨rfl, rfl⟩) (fun m hm => absurd hm (Nat.not_lt_zero m))
