-- ===== the model's most =====
theorem m_isSum {G : zG} (hG : zGok G) {k' : Nat} (hk : 2 ≤ k') {σ : zSt} {Q : zRt} (a b : Int32) (h : Q (some (.int (zb (bSm a b)))) σ) : zCalls G k' yX12_isSum [.int a, .int b] σ Q := by
  have no : bSm a b = false → Q (some (.int 0)) σ := fun e => by rw [e] at h; exact h
  refine rnX12_isSum hG hk a b ?_
  refine sgX12_isSum hG [] 60 0 ?_
  refine m_in hG (by decide) _ _ _ ?_
  rw [z_ifb]
  refine And.intro (fun c1 => ?_) (fun c1 => ?_)
  · have c1 := (zb_eq0 _).mp c1
    exact And.intro (Or.inl rfl) (no (by unfold bSm; rw [c1]; rfl))
  have c1 := z_nb1 (x := 0) c1
  refine m_in hG (by decide) _ _ _ ?_
  rw [z_ifb]
  refine And.intro (fun c2 => ?_) (fun c2 => ?_)
  · have c2 := (zb_eq0 _).mp c2
    exact And.intro (Or.inl rfl) (no (by unfold bSm; rw [c1, c2]; rfl))
  have c2 := z_nb1 (x := 0) c2
  refine And.intro (Or.inr rfl) ?_
  have e : bSm a b = true := by unfold bSm; rw [c1, c2]; rfl
  rw [e] at h; exact h
def mMo (I : Nat → Nat → Int32) (J : Nat → Nat → Int64) (o : Option zFr) : Prop := I 305 30 = zb o.isSome ∧ ∀ f, o = some f → J 305 31 = Int64.ofInt f.1 ∧ J 305 32 = Int64.ofInt f.2
def mOf (I : Nat → Nat → Int32) (J : Nat → Nat → Int64) (I' : Nat → Nat → Int32) (J' : Nat → Nat → Int64) : Prop := (∀ x, x ≠ 305 → I' x = I x) ∧ (∀ j, j ≠ 30 → I' 305 j = I 305 j) ∧ ∀ x, x ≠ 305 → J' x = J x
theorem mOf_rfl {I : Nat → Nat → Int32} {J : Nat → Nat → Int64} : mOf I J I J := ⟨fun _ _ => rfl, fun _ _ => rfl, fun _ _ => rfl⟩
theorem mOf_tr {I I1 I2 : Nat → Nat → Int32} {J J1 J2 : Nat → Nat → Int64} (h1 : mOf I J I1 J1) (h2 : mOf I1 J1 I2 J2) : mOf I J I2 J2 := ⟨fun x a => (h2.1 x a).trans (h1.1 x a), fun j a => (h2.2.1 j a).trans (h1.2.1 j a), fun x a => (h2.2.2 x a).trans (h1.2.2 x a)⟩
theorem m_offerL {G : zG} (hG : zGok G) {k' : Nat} (hk : 3 ≤ k') {I : Nat → Nat → Int32} {J : Nat → Nat → Int64} {past : Nat → Nat} {Q : zRt} {M : List zFr} (hm : mMo I J (mxL M)) (hM : lB M) {up lo : Int} {U L : Int64} (eU : U = Int64.ofInt up) (eL : L = Int64.ofInt lo) (bu : up.natAbs ≤ 1000000000) (bl : lo.natAbs ≤ 1000000000) (l0 : 0 < lo) (h : ∀ I' J', mOf I J I' J' → mMo I' J' (mxL (M ++ [fRed up lo])) → Q none (zK0, I', J', zR0 past)) : zCalls G k' yX12_offer [.ref 305, .long U, .long L] (zK0, I, J, zR0 past) Q := by
  rw [mxL_push] at h
  have ho : ∀ g, mxL M = some g → isR g ∧ fB g := fun g e => lB_mx hM e
  generalize mxL M = o at *
  refine rnX12_offer hG hk 305 U L ?_
  refine sgX12_offer hG [24] 60 0 ?_
  have z24 : ofr o (fRed up lo) = some (fRed up lo) → aX12_offer G Q 24 [some (.ref 305), some (.long U), none, some (.long L), none] [] (zK0, I, J, zR0 past) := by
    intro e
    rw [e] at h
    refine sgX12_offer hG [] 60 24 ?_
    refine And.intro (Or.inr rfl) ?_
    refine m_setI hG (by decide) eU eL (by omega) (by omega) (by omega) (fun J1 f1 g1 s6 s7 => ?_)
    refine h _ _ ⟨fun x hx => z_upI_ne hx, fun j hj => uI_k hj, fun x hx => by rw [z_upJ_ne hx, z_upJ_ne hx, f1 x hx]⟩ ⟨?_, fun f hf => ?_⟩
    · rw [uI_s]; rfl
    · cases hf
      refine ⟨?_, ?_⟩
      · rw [uJ_k (by decide), uJ_s, s6]
      · rw [uJ_s, uJ_k (by decide), s7]
  cases o with
  | none => exact And.intro (fun _ => z24 rfl) (fun c => absurd hm.1 c)
  | some g =>
    obtain ⟨rg, bg⟩ := ho g rfl
    obtain ⟨e1, e2⟩ := hm.2 g rfl
    have lt : fLt g (up, lo) = fLt g (fRed up lo) := by
      rw [Bool.eq_iff_iff, fRed_lt2 l0, fLt_t]
    refine And.intro (fun c => absurd (c.symm.trans hm.1) (show ¬ (0 : Int32) = zb true by decide)) (fun _ => ?_)
    refine m_isLessI hG (by decide) (f := g) (g := (up, lo)) e1 e2 eU eL bg ⟨bu, bl⟩ ?_
    rw [lt]
    refine And.intro (fun c => ?_) (fun c => ?_)
    · exact z24 (if_pos (z_nb1 (x := 0) c))
    · have c := (zb_eq0 _).mp c
      have e : ofr (some g) (fRed up lo) = some g := if_neg (by rw [c]; decide)
      rw [e] at h
      exact h I J mOf_rfl hm
theorem k_L (π : zPl) (i j : Nat) : (pR π i 0).toInt64 * (pR π j 1).toInt64 - (pR π i 1).toInt64 * (pR π j 0).toInt64 = Int64.ofInt (kD π i j) ∧ (pR π i 2).toInt64 * (pR π j 1).toInt64 - (pR π i 1).toInt64 * (pR π j 2).toInt64 = Int64.ofInt (kX π i j) ∧ (pR π i 0).toInt64 * (pR π j 2).toInt64 - (pR π i 2).toInt64 * (pR π j 0).toInt64 = Int64.ofInt (kY π i j) := by
  unfold kD kX kY rI
  refine ⟨?_, ?_, ?_⟩
  · rw [Int64.ofInt_sub, Int64.ofInt_mul, Int64.ofInt_mul, ← t64, ← t64, ← t64, ← t64, Int64.mul_comm (pR π i 1).toInt64]
  · rw [Int64.ofInt_sub, Int64.ofInt_mul, Int64.ofInt_mul, ← t64, ← t64, ← t64, ← t64, Int64.mul_comm (pR π i 1).toInt64]
  · rw [Int64.ofInt_sub, Int64.ofInt_mul, Int64.ofInt_mul, ← t64, ← t64, ← t64, ← t64, Int64.mul_comm (pR π i 2).toInt64]
theorem m_offerCorner {G : zG} (hG : zGok G) {k' : Nat} (hk : 4 ≤ k') {I : Nat → Nat → Int32} {J : Nat → Nat → Int64} {past : Nat → Nat} {Q : zRt} {π : zPl} (hc : mPl I 306 0 π) (hv : vPl π) {A B : Int} (ba : A.natAbs ≤ 9) (bb : B.natAbs ≤ 9) {M : List zFr} (hm : mMo I J (mxL M)) (hM : lB M) {i j : Nat} (hi : i < π.1 + 4) (hj : j < π.1 + 4) {a b : Int32} (ea : a = Int32.ofInt A) (eb : b = Int32.ofInt B) {vi vj : Int32} (ei : vi = nI i) (ej : vj = nI j) (h : ∀ I' J', mOf I J I' J' → mMo I' J' (mxL (M ++ kL π A B i j)) → Q none (zK0, I', J', zR0 past)) : zCalls G k' yX12_offerCorner [.ref 305, .int vi, .int vj, .int a, .int b] (zK0, I, J, zR0 past) Q := by
  subst ei
  subst ej
  have h6 := hv.1.1
  obtain ⟨bD, bX, bY⟩ := k_bd hv.1 hi hj
  have bU := kU_bd hv.1 hi hj ba bb
  obtain ⟨eD, eX, eY⟩ := k_L π i j
  have no : kH π i j = false → Q none (zK0, I, J, zR0 past) := by
    intro e
    refine h I J mOf_rfl ?_
    unfold kL
    rw [e, if_neg (by decide), List.append_nil]
    exact hm
  have z121 : ∀ (s D X Y : Int64), kD π i j ≠ 0 → s = Int64.ofInt (kS (kD π i j)) → D = Int64.ofInt (kD π i j) → X = Int64.ofInt (kX π i j) → Y = Int64.ofInt (kY π i j) → aX12_offerCorner G Q 121 [some (.ref 305), some (.int (nI i)), some (.int (nI j)), some (.int a), some (.int b), some (.long D), none, some (.long X), none, some (.long Y), none, none, none, none] [.long s] (zK0, I, J, zR0 past) := by
    intro s D X Y d0 es eD eX eY
    subst es
    subst eD
    subst eX
    subst eY
    have ek : kH π i j = kHs π (kS (kD π i j) * kX π i j) (kS (kD π i j) * kY π i j) (kS (kD π i j) * kD π i j) := by unfold kH kHq; rw [decide_eq_true d0, Bool.true_and]
    have loop : ∀ (r k : Nat) (vk : Int32), vk = nI k → k + r = π.1 + 4 → (∀ m, m < k → rI π m 0 * (kS (kD π i j) * kX π i j) + rI π m 1 * (kS (kD π i j) * kY π i j) ≤ rI π m 2 * (kS (kD π i j) * kD π i j)) → aX12_offerCorner G Q 126 [some (.ref 305), some (.int (nI i)), some (.int (nI j)), some (.int a), some (.int b), some (.long (Int64.ofInt (kD π i j))), none, some (.long (Int64.ofInt (kX π i j))), none, some (.long (Int64.ofInt (kY π i j))), none, some (.long (Int64.ofInt (kS (kD π i j)))), none, some (.int vk)] [] (zK0, I, J, zR0 past) := by
      intro r
      induction r with
      | zero =>
        intro k vk ev hk hh
        subst ev
        refine sgX12_offerCorner hG [126] 60 126 ?_
        refine m_lines2 hG (by decide) hc ?_
        refine And.intro (fun _ => ?_) (fun q => absurd (by rw [nI_leI (by omega) (by omega)]; omega) q)
        have t : kH π i j = true := by rw [ek, kHs_t]; exact fun m hm => hh m (by omega)
        have e1 : a.toInt64 * Int64.ofInt (kX π i j) + b.toInt64 * Int64.ofInt (kY π i j) = Int64.ofInt (A * kX π i j + B * kY π i j) := by
          rw [ea, eb, iI_l (by omega), iI_l (by omega), Int64.ofInt_add, Int64.ofInt_mul, Int64.ofInt_mul]
        refine m_setI hG (by decide) e1 rfl (by omega) (by omega) d0 (fun J1 f1 g1 s6 s7 => ?_)
        have rd := fRed_R (a := A * kX π i j + B * kY π i j) d0
        have bd := fRed_bd (a := A * kX π i j + B * kY π i j) d0
        have hm1 : mMo I J1 (mxL M) := ⟨hm.1, fun f hf => by rw [g1 31 (by decide) (by decide), g1 32 (by decide) (by decide)]; exact hm.2 f hf⟩
        refine m_offerL hG (by decide) hm1 hM s6 s7 (by omega) (by omega) rd.1 (fun I2 J2 f2 m2 => ?_)
        rw [fRed_id rd] at m2
        refine h I2 J2 (mOf_tr ⟨fun _ _ => rfl, fun _ _ => rfl, f1⟩ f2) ?_
        unfold kL
        rw [if_pos t]
        exact m2
      | succ r ih =>
        intro k vk ev hk hh
        subst ev
        refine sgX12_offerCorner hG [126] 60 126 ?_
        refine m_lines2 hG (by decide) hc ?_
        refine And.intro (fun q => absurd q (by rw [nI_leI (by omega) (by omega)]; omega)) (fun _ => ?_)
        refine m_of hG (by decide) hc h6 k 0 (by omega) (by decide) ?_
        refine m_of hG (by decide) hc h6 k 1 (by omega) (by decide) ?_
        refine m_of hG (by decide) hc h6 k 2 (by omega) (by decide) ?_
        obtain ⟨r0, r1, r2⟩ := pR_bd hv.1 (k := k) (by omega)
        have r0 : (rI π k 0).natAbs ≤ 5 := r0
        have r1 : (rI π k 1).natAbs ≤ 5 := r1
        have r2 : (rI π k 2).natAbs ≤ 50 := r2
        have eq1 : ((pR π k 0).toInt64 * Int64.ofInt (kX π i j) + (pR π k 1).toInt64 * Int64.ofInt (kY π i j)) * Int64.ofInt (kS (kD π i j)) = Int64.ofInt (rI π k 0 * (kS (kD π i j) * kX π i j) + rI π k 1 * (kS (kD π i j) * kY π i j)) := by
          rw [t64, t64, ← Int64.ofInt_mul, ← Int64.ofInt_mul, ← Int64.ofInt_add, ← Int64.ofInt_mul]
          congr 1
          unfold rI
          grind
        have eq2 : (pR π k 2).toInt64 * Int64.ofInt (kD π i j) * Int64.ofInt (kS (kD π i j)) = Int64.ofInt (rI π k 2 * (kS (kD π i j) * kD π i j)) := by
          rw [t64, ← Int64.ofInt_mul, ← Int64.ofInt_mul]
          congr 1
          unfold rI
          grind
        have b1 := bd_add (bd_mul r0 (kS_bd (kD π i j) bX)) (bd_mul r1 (kS_bd (kD π i j) bY))
        have b2 := bd_mul r2 (kS_bd (kD π i j) bD)
        have le := lI_le (a := rI π k 0 * (kS (kD π i j) * kX π i j) + rI π k 1 * (kS (kD π i j) * kY π i j)) (b := rI π k 2 * (kS (kD π i j) * kD π i j)) (by omega) (by omega)
        refine And.intro (fun c => ?_) (fun c => ?_)
        · rw [eq1, eq2, le] at c
          refine ih (k + 1) _ (by rw [nI_1]) (by omega) (fun m hm => ?_)
          rcases (show m < k ∨ m = k by omega) with z | z
          · exact hh m z
          · rw [z]; exact c
        · rw [eq1, eq2, le] at c
          refine no ?_
          cases t : kH π i j with
          | false => rfl
          | true =>
            rw [ek, kHs_t] at t
            exact absurd (t k (by omega)) c
    refine sgX12_offerCorner hG [126] 60 121 ?_
    exact loop (π.1 + 4) 0 0 rfl (by omega) (fun m hm => absurd hm (Nat.not_lt_zero m))
  refine rnX12_offerCorner hG hk 305 _ _ _ _ ?_
  refine sgX12_offerCorner hG [121] 90 0 ?_
  refine m_of hG (by decide) hc h6 i 0 hi (by decide) ?_
  refine m_of hG (by decide) hc h6 j 1 hj (by decide) ?_
  refine m_of hG (by decide) hc h6 i 1 hi (by decide) ?_
  refine m_of hG (by decide) hc h6 j 0 hj (by decide) ?_
  have d0 : (pR π i 0).toInt64 * (pR π j 1).toInt64 - (pR π i 1).toInt64 * (pR π j 0).toInt64 = 0 ↔ kD π i j = 0 := by rw [eD, show (0 : Int64) = Int64.ofInt 0 from rfl, lI_eq (by omega) (by decide)]
  have l0 : 0 ≤ (pR π i 0).toInt64 * (pR π j 1).toInt64 - (pR π i 1).toInt64 * (pR π j 0).toInt64 ↔ 0 ≤ kD π i j := by rw [eD, show (0 : Int64) = Int64.ofInt 0 from rfl, lI_le (by decide) (by omega)]
  refine And.intro (fun c => ?_) (fun c => ?_)
  rotate_left
  · rw [d0] at c
    exact no (by unfold kH; rw [c, kHq_0])
  rw [d0] at c
  refine m_of hG (by decide) hc h6 i 2 hi (by decide) ?_
  refine m_of hG (by decide) hc h6 j 1 hj (by decide) ?_
  refine m_of hG (by decide) hc h6 i 1 hi (by decide) ?_
  refine m_of hG (by decide) hc h6 j 2 hj (by decide) ?_
  refine m_of hG (by decide) hc h6 i 0 hi (by decide) ?_
  refine m_of hG (by decide) hc h6 j 2 hj (by decide) ?_
  refine m_of hG (by decide) hc h6 i 2 hi (by decide) ?_
  refine m_of hG (by decide) hc h6 j 0 hj (by decide) ?_
  refine And.intro (fun d => ?_) (fun d => ?_)
  · rw [l0] at d
    exact z121 1 _ _ _ c (by unfold kS; rw [if_neg (by omega)]; rfl) eD eX eY
  · rw [l0] at d
    exact z121 (-1) _ _ _ c (by unfold kS; rw [if_pos (by omega)]; rfl) eD eX eY
