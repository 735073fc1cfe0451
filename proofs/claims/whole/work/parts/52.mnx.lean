-- ===== the model: joins(), between() =====
def mAcc (I : Nat → Nat → Int32) (J : Nat → Nat → Int64) (st : zSl) : Prop := I 305 22 = zb st.1 ∧ (st.1 = true → (J 305 23 = Int64.ofInt st.2.1.1 ∧ J 305 24 = Int64.ofInt st.2.1.2) ∧ J 305 25 = Int64.ofInt st.2.2.1 ∧ J 305 26 = Int64.ofInt st.2.2.2)
theorem mAcc_fr {I I1 : Nat → Nat → Int32} {J J1 : Nat → Nat → Int64} {st : zSl} (h : mAcc I J st) (h1 : I1 305 22 = I 305 22) (h2 : ∀ j, 23 ≤ j → j < 27 → J1 305 j = J 305 j) : mAcc I1 J1 st := ⟨by rw [h1]; exact h.1, fun c => by
    obtain ⟨⟨a, b⟩, d, e⟩ := h.2 c
    exact ⟨⟨by rw [h2 23 (by decide) (by decide)]; exact a, by rw [h2 24 (by decide) (by decide)]; exact b⟩, by rw [h2 25 (by decide) (by decide)]; exact d, by rw [h2 26 (by decide) (by decide)]; exact e⟩⟩
theorem mStr_fr {J J1 : Nat → Nat → Int64} {lo hi : zFr} (h : mStr J lo hi) (h1 : ∀ j, 18 ≤ j → j < 22 → J1 305 j = J 305 j) : mStr J1 lo hi := ⟨⟨by rw [h1 18 (by decide) (by decide)]; exact h.1.1, by rw [h1 19 (by decide) (by decide)]; exact h.1.2⟩, by rw [h1 20 (by decide) (by decide)]; exact h.2.1, by rw [h1 21 (by decide) (by decide)]; exact h.2.2⟩
theorem m_joins {G : zG} (hG : zGok G) {k' : Nat} (hk : 3 ≤ k') {I : Nat → Nat → Int32} {J : Nat → Nat → Int64} {past : Nat → Nat} {Q : zRt} {lo hi : zFr} (hs : mStr J lo hi) {acc : zSl} (ha : mAcc I J acc) (bl : fB lo) (bh : fB hi) (bA : acc.1 = true → fB acc.2.1 ∧ fB acc.2.2) (h : ∀ I' J', (∀ x, x ≠ 305 → I' x = I x) → (∀ j, j ≠ 22 → I' 305 j = I 305 j) → (∀ x, x ≠ 305 → J' x = J x) → (∀ j, j < 23 ∨ 27 ≤ j → J' 305 j = J 305 j) → mAcc I' J' (jn acc (true, lo, hi)) → Q none (zK0, I', J', zR0 past)) : zCalls G k' yX12_joins [.ref 305] (zK0, I, J, zR0 past) Q := by
  refine rnX12_joins hG hk 305 ?_
  refine sgX12_joins hG [8, 37, 53, 82, 98] 60 0 ?_
  refine m_isEmpty hG (by decide) hs bl bh ?_
  refine And.intro (fun c => ?_) (fun c => ?_)
  rotate_left
  · have c := z_nb1 (x := 0) c
    refine h I J (fun _ _ => rfl) (fun _ _ => rfl) (fun _ _ => rfl) (fun _ _ => rfl) ?_
    rw [jn_dead (Or.inr c)]
    exact ha
  have nl := (zb_eq0 _).mp c
  have ej : jn acc (true, lo, hi) = (true, (if !acc.1 || fLt lo acc.2.1 then lo else acc.2.1), if !acc.1 || fLt acc.2.2 hi then hi else acc.2.2) := by unfold jn; rw [nl]; rfl
  rw [ej] at h
  have z98 : ∀ J1, (∀ x, x ≠ 305 → J1 x = J x) → (∀ j, j < 23 ∨ 27 ≤ j → J1 305 j = J 305 j) → ((J1 305 23 = Int64.ofInt (if !acc.1 || fLt lo acc.2.1 then lo else acc.2.1).1 ∧ J1 305 24 = Int64.ofInt (if !acc.1 || fLt lo acc.2.1 then lo else acc.2.1).2) ∧ J1 305 25 = Int64.ofInt (if !acc.1 || fLt acc.2.2 hi then hi else acc.2.2).1 ∧ J1 305 26 = Int64.ofInt (if !acc.1 || fLt acc.2.2 hi then hi else acc.2.2).2) → aX12_joins G Q 98 [some (.ref 305)] [] (zK0, I, J1, zR0 past) := by
    intro J1 f1 g1 q1
    refine sgX12_joins hG [] 60 98 ?_
    refine And.intro (Or.inr rfl) ?_
    exact h _ J1 (fun x hx => z_upI_ne hx) (fun j hj => uI_k hj) f1 g1 ⟨uI_s, fun _ => q1⟩
  have z82 : ∀ J1, (∀ x, x ≠ 305 → J1 x = J x) → (∀ j, j ≠ 23 → j ≠ 24 → J1 305 j = J 305 j) → (J1 305 23 = Int64.ofInt (if !acc.1 || fLt lo acc.2.1 then lo else acc.2.1).1 ∧ J1 305 24 = Int64.ofInt (if !acc.1 || fLt lo acc.2.1 then lo else acc.2.1).2) → (!acc.1 || fLt acc.2.2 hi) = true → aX12_joins G Q 82 [some (.ref 305)] [] (zK0, I, J1, zR0 past) := by
    intro J1 f1 g1 q1 e
    refine sgX12_joins hG [98] 60 82 ?_
    refine z98 _ (fun x hx => by rw [z_upJ_ne hx, z_upJ_ne hx]; exact f1 x hx) (fun j hj => by rw [uJ_k (by omega), uJ_k (by omega)]; exact g1 j (by omega) (by omega)) ⟨⟨?_, ?_⟩, ?_, ?_⟩
    · rw [uJ_k (by decide), uJ_k (by decide)]; exact q1.1
    · rw [uJ_k (by decide), uJ_k (by decide)]; exact q1.2
    · rw [uJ_k (by decide), uJ_s, e, g1 20 (by decide) (by decide)]; exact hs.2.1
    · rw [uJ_s, uJ_k (by decide), e, g1 21 (by decide) (by decide)]; exact hs.2.2
  have z53 : ∀ J1, (∀ x, x ≠ 305 → J1 x = J x) → (∀ j, j ≠ 23 → j ≠ 24 → J1 305 j = J 305 j) → (J1 305 23 = Int64.ofInt (if !acc.1 || fLt lo acc.2.1 then lo else acc.2.1).1 ∧ J1 305 24 = Int64.ofInt (if !acc.1 || fLt lo acc.2.1 then lo else acc.2.1).2) → aX12_joins G Q 53 [some (.ref 305)] [] (zK0, I, J1, zR0 past) := by
    intro J1 f1 g1 q1
    refine sgX12_joins hG [82, 98] 60 53 ?_
    refine And.intro (fun c => ?_) (fun c => ?_)
    · rw [ha.1] at c
      have c := (zb_eq0 _).mp c
      exact z82 J1 f1 g1 q1 (by rw [c]; rfl)
    · rw [ha.1] at c
      have c := z_nb1 (x := 0) c
      obtain ⟨a1, a2, a3⟩ := ha.2 c
      refine m_isLessI hG (by decide) (f := acc.2.2) (g := hi) (by rw [g1 25 (by decide) (by decide)]; exact a2) (by rw [g1 26 (by decide) (by decide)]; exact a3) (by rw [g1 20 (by decide) (by decide)]; exact hs.2.1) (by rw [g1 21 (by decide) (by decide)]; exact hs.2.2) (bA c).2 bh ?_
      refine And.intro (fun e => ?_) (fun e => ?_)
      · have e := (zb_eq0 _).mp e
        refine z98 J1 f1 (fun j hj => g1 j (by omega) (by omega)) ⟨q1, ?_, ?_⟩
        · rw [c, e, g1 25 (by decide) (by decide)]; exact a2
        · rw [c, e, g1 26 (by decide) (by decide)]; exact a3
      · have e := z_nb1 (x := 0) e
        exact z82 J1 f1 g1 q1 (by rw [c, e]; rfl)
  have z37 : (!acc.1 || fLt lo acc.2.1) = true → aX12_joins G Q 37 [some (.ref 305)] [] (zK0, I, J, zR0 past) := by
    intro e
    refine sgX12_joins hG [53] 60 37 ?_
    refine z53 _ (fun x hx => by rw [z_upJ_ne hx, z_upJ_ne hx]) (fun j a b => by rw [uJ_k b, uJ_k a]) ⟨?_, ?_⟩
    · rw [uJ_k (by decide), uJ_s, e]; exact hs.1.1
    · rw [uJ_s, uJ_k (by decide), e]; exact hs.1.2
  refine sgX12_joins hG [37, 53] 60 8 ?_
  refine And.intro (fun c => ?_) (fun c => ?_)
  · rw [ha.1] at c
    have c := (zb_eq0 _).mp c
    exact z37 (by rw [c]; rfl)
  · rw [ha.1] at c
    have c := z_nb1 (x := 0) c
    obtain ⟨⟨a1, a2⟩, a3⟩ := ha.2 c
    refine m_isLessI hG (by decide) (f := lo) (g := acc.2.1) hs.1.1 hs.1.2 a1 a2 bl (bA c).1 ?_
    refine And.intro (fun e => ?_) (fun e => ?_)
    · have e := (zb_eq0 _).mp e
      refine z53 J (fun _ _ => rfl) (fun _ _ _ => rfl) ⟨?_, ?_⟩
      · rw [c, e]; exact a1
      · rw [c, e]; exact a2
    · have e := z_nb1 (x := 0) e
      exact z37 (by rw [c, e]; rfl)
theorem m_between {G : zG} (hG : zGok G) {k' : Nat} (hk : 5 ≤ k') {I : Nat → Nat → Int32} {J : Nat → Nat → Int64} {past : Nat → Nat} {Q : zRt} {lo hi : zFr} (hs : mStr J lo hi) (o : Nat) (ho : o = 313 ∨ o = 314) {s : Nat} (hs42 : s < 41) {f g : zFr} (q1 : J o (2 * s) = Int64.ofInt f.1) (q2 : J o (2 * s + 1) = Int64.ofInt f.2) (q3 : J o (2 * s + 2) = Int64.ofInt g.1) (q4 : J o (2 * s + 3) = Int64.ofInt g.2) (wf : fW 300 f) (wg : fW 300 g) {m k : Nat} (hm : m ≤ 6) (hk6 : k ≤ 6) {b : Bool} {S M K B : Int32} (eS : S = nI s) (eM : M = nI m) (eK : K = nI k) (eB : B = zb b) (st0 : Bool) (bl : fB lo) (bh : fB hi) (h : ∀ J', mJf J J' → mStr J' (bwG (if b then 1 else -1) f g m k (st0, lo, hi)).2.1 (bwG (if b then 1 else -1) f g m k (st0, lo, hi)).2.2 → ∀ z, (bwG (if b then 1 else -1) f g m k (st0, lo, hi)).1 = (st0 && z) → Q (some (.int (zb z))) (zK0, I, J', zR0 past)) : zCalls G k' yX12_between [.ref 305, .ref o, .int S, .int M, .int K, .int B] (zK0, I, J, zR0 past) Q := by
  subst eS
  subst eM
  subst eK
  subst eB
  obtain ⟨f2, fb1, fb2⟩ := fW_p wf
  obtain ⟨g2, gb1, gb2⟩ := fW_p wg
  have bS := bwS_bd wf wg
  have bR := bwR_bd wf wg (m := m) (k := k) (by omega) (by omega)
  have sM : (nI m).toInt64 = Int64.ofInt m := by rw [nI_I]; exact iI_l (by omega)
  have sK : (nI k).toInt64 = Int64.ofInt k := by rw [nI_I]; exact iI_l (by omega)
  have i0 : (2 : Int32) * nI s = nI (2 * s) := by rw [show (2 : Int32) = nI 2 from rfl, pk_mul]
  have i1 : (2 : Int32) * nI s + 1 = nI (2 * s + 1) := by rw [i0, nI_1]
  have i2 : (2 : Int32) * nI s + 2 = nI (2 * s + 2) := by rw [i0, show (2 : Int32) = nI 2 from rfl, nI_add]
  have i3 : (2 : Int32) * nI s + 3 = nI (2 * s + 3) := by rw [i0, show (3 : Int32) = nI 3 from rfl, nI_add]
  have n0 : ((2 : Int32) * nI s).toNatClampNeg = 2 * s := by rw [i0, nI_clamp (by omega)]
  have n1 : ((2 : Int32) * nI s + 1).toNatClampNeg = 2 * s + 1 := by rw [i1, nI_clamp (by omega)]
  have n2 : ((2 : Int32) * nI s + 2).toNatClampNeg = 2 * s + 2 := by rw [i2, nI_clamp (by omega)]
  have n3 : ((2 : Int32) * nI s + 3).toNatClampNeg = 2 * s + 3 := by rw [i3, nI_clamp (by omega)]
  have v0 : vp_in ((2 : Int32) * nI s) 84 := by rw [i0]; exact vp_in_nI (by omega) (by omega)
  have v1 : vp_in ((2 : Int32) * nI s + 1) 84 := by rw [i1]; exact vp_in_nI (by omega) (by omega)
  have v2 : vp_in ((2 : Int32) * nI s + 2) 84 := by rw [i2]; exact vp_in_nI (by omega) (by omega)
  have v3 : vp_in ((2 : Int32) * nI s + 3) 84 := by rw [i3]; exact vp_in_nI (by omega) (by omega)
  have j0 : J o ((2 : Int32) * nI s).toNatClampNeg = Int64.ofInt f.1 := by rw [n0]; exact q1
  have j1 : J o ((2 : Int32) * nI s + 1).toNatClampNeg = Int64.ofInt f.2 := by rw [n1]; exact q2
  have j2 : J o ((2 : Int32) * nI s + 2).toNatClampNeg = Int64.ofInt g.1 := by rw [n2]; exact q3
  have j3 : J o ((2 : Int32) * nI s + 3).toNatClampNeg = Int64.ofInt g.2 := by rw [n3]; exact q4
  have eD : J o ((2 : Int32) * nI s + 2).toNatClampNeg * J o ((2 : Int32) * nI s + 1).toNatClampNeg - J o ((2 : Int32) * nI s).toNatClampNeg * J o ((2 : Int32) * nI s + 3).toNatClampNeg = Int64.ofInt (bwS f g) := by
    unfold bwS
    rw [j0, j1, j2, j3, Int64.ofInt_sub, Int64.ofInt_mul, Int64.ofInt_mul]
  have eN : (nI k).toInt64 * J o ((2 : Int32) * nI s + 1).toNatClampNeg * J o ((2 : Int32) * nI s + 3).toNatClampNeg - J o ((2 : Int32) * nI s).toNatClampNeg * J o ((2 : Int32) * nI s + 3).toNatClampNeg + (J o ((2 : Int32) * nI s + 2).toNatClampNeg * J o ((2 : Int32) * nI s + 1).toNatClampNeg - J o ((2 : Int32) * nI s).toNatClampNeg * J o ((2 : Int32) * nI s + 3).toNatClampNeg) * (nI m).toInt64 = Int64.ofInt (bwR f g m k) := by
    rw [eD, sM, sK, j0, j1, j3]
    unfold bwR
    rw [Int64.ofInt_add, Int64.ofInt_sub, Int64.ofInt_mul, Int64.ofInt_mul, Int64.ofInt_mul, Int64.ofInt_mul]
  rcases ho with rfl | rfl
  all_goals
    refine rnX12_between hG hk 305 _ _ _ _ _ ?_
    refine sgX12_between hG [] 80 0 ?_
    refine And.intro v0 ?_
    refine And.intro v1 ?_
    refine And.intro v2 ?_
    refine And.intro v3 ?_
    cases b with
    | true =>
      refine And.intro (fun c => absurd c (by decide)) (fun _ => ?_)
      refine m_narrow hG (by decide) hs eD eN bl bh ⟨by show (bwR f g m k).natAbs ≤ _; omega, by show (bwS f g).natAbs ≤ _; omega⟩ (fun J' f1 s1 => ?_)
      refine And.intro (zb_01 _) (h J' f1 ?_ _ ?_)
      · show mStr J' (nwL lo (1 * bwS f g) (1 * bwR f g m k)) (nwH hi (1 * bwS f g) (1 * bwR f g m k))
        rw [Int.one_mul, Int.one_mul]; exact s1
      · show (st0 && decide (1 * bwS f g ≠ 0 ∨ 0 ≤ 1 * bwR f g m k)) = _
        rw [Int.one_mul, Int.one_mul]
    | false =>
      refine And.intro (fun _ => ?_) (fun c => absurd rfl c)
      refine m_narrow hG (by decide) hs (a := -1 * bwS f g) (q := -1 * bwR f g m k) (by rw [eD, ← Int64.ofInt_neg]; congr 1; omega) (by rw [eN, ← Int64.ofInt_neg]; congr 1; omega) bl bh ⟨by show (-1 * bwR f g m k).natAbs ≤ _; omega, by show (-1 * bwS f g).natAbs ≤ _; omega⟩ (fun J' f1 s1 => ?_)
      exact And.intro (zb_01 _) (h J' f1 s1 _ rfl)
-- ===== the model: layNext(), lay() =====
theorem mSl_fr2 {I I1 : Nat → Nat → Int32} {J J1 : Nat → Nat → Int64} {s : Nat} {st : zSl} (h : mSl I J s st) (h1 : I1 312 = I 312) (h2 : J1 313 = J 313) (h3 : J1 314 = J 314) : mSl I1 J1 s st := mSl_fr h (by rw [h1]) ⟨by rw [h2], by rw [h3]⟩ ⟨by rw [h2], by rw [h3]⟩
/-- what a step of the innermost loop touches -/
def mSp (I : Nat → Nat → Int32) (J : Nat → Nat → Int64) (I' : Nat → Nat → Int32) (J' : Nat → Nat → Int64) : Prop := (∀ x, x ≠ 305 → I' x = I x) ∧ (∀ j, j ≠ 22 → I' 305 j = I 305 j) ∧ (∀ x, x ≠ 305 → J' x = J x) ∧ ∀ j, j < 6 ∨ (8 ≤ j ∧ j < 18) ∨ 27 ≤ j → J' 305 j = J 305 j
theorem mSp_rfl {I : Nat → Nat → Int32} {J : Nat → Nat → Int64} : mSp I J I J := ⟨fun _ _ => rfl, fun _ _ => rfl, fun _ _ => rfl, fun _ _ => rfl⟩
theorem mSp_tr {I I1 I2 : Nat → Nat → Int32} {J J1 J2 : Nat → Nat → Int64} (h1 : mSp I J I1 J1) (h2 : mSp I1 J1 I2 J2) : mSp I J I2 J2 := ⟨fun x a => (h2.1 x a).trans (h1.1 x a), fun j a => (h2.2.1 j a).trans (h1.2.1 j a), fun x a => (h2.2.2.1 x a).trans (h1.2.2.1 x a), fun j a => (h2.2.2.2 j a).trans (h1.2.2.2 j a)⟩
theorem mSp_J {I : Nat → Nat → Int32} {J J1 : Nat → Nat → Int64} (h : mJf J J1) : mSp I J I J1 := ⟨fun _ _ => rfl, fun _ _ => rfl, fun x a => h.1 x a, fun j a => h.2 j (by omega)⟩
theorem mSp_Ly {I I1 : Nat → Nat → Int32} {J J1 : Nat → Nat → Int64} (h : mSp I J I1 J1) : mLy I J I1 J1 := ⟨fun x a _ => h.1 x a, fun j a => h.2.1 j a, fun x a _ _ => h.2.2.1 x a, fun j a => h.2.2.2 j (by omega)⟩
theorem mSp_sl {I I1 : Nat → Nat → Int32} {J J1 : Nat → Nat → Int64} {s : Nat} {st : zSl} (h : mSp I J I1 J1) (hs : mSl I J s st) : mSl I1 J1 s st := mSl_fr2 hs (h.1 312 (by decide)) (h.2.2.1 313 (by decide)) (h.2.2.1 314 (by decide))
theorem mAcc_J {I : Nat → Nat → Int32} {J J1 : Nat → Nat → Int64} {st : zSl} (h : mJf J J1) (hs : mAcc I J st) : mAcc I J1 st := mAcc_fr hs rfl (fun j a b => h.2 j (by omega))
