-- ===== most, gains (model): the calls =====
theorem mMf_fr {I I1 : Nat → Nat → Int32} {J J1 : Nat → Nat → Int64} (h : mMf I J I1 J1) : mFr I J I1 J1 := mQ_fr h.1
theorem mMf_same {I I1 : Nat → Nat → Int32} {J J1 : Nat → Nat → Int64} {S : zS} (hS : mSt I J S) (h : mMf I J I1 J1) : mSt I1 J1 S := mSt_same hS h.1 h.2.1 h.2.2
theorem m_tellFq {G : zG} (hG : zGok G) {k' : Nat} (hk : 3 ≤ k') {I : Nat → Nat → Int32} {J : Nat → Nat → Int64} {past : Nat → Nat} {Q : zRt} {L : List Int64} (hL : mNm I J L) (h40 : L.length + 1 < 40) {a b : Int} {A B : Int64} (eA : A = Int64.ofInt a) (eB : B = Int64.ofInt b) (ha : a.natAbs < 2 ^ 62) (hb : b.natAbs < 2 ^ 62) (h0 : b ≠ 0) (h : ∀ I' J', mQ I J I' J' → (∀ j, j ≠ 6 → j ≠ 7 → J' 305 j = J 305 j) → mNm I' J' (L ++ fPr (fRed a b)) → Q none (zK0, I', J', zR0 past)) : zCalls G k' yX12_tellFraction [.ref 305, .long A, .long B] (zK0, I, J, zR0 past) Q := by
  refine m_tellFr hG hk hL h40 eA eB ha hb h0 (fun I1 J1 f1 f2 g1 g2 n1 => ?_)
  exact h I1 J1 ⟨fun x hx => ⟨f1 x (by omega), g1 x (by omega) (by omega)⟩, f2 2 (by decide), f2 13 (by decide)⟩ g2 n1
theorem m_most {G : zG} (hG : zGok G) {k' : Nat} (hk : 7 ≤ k') {I : Nat → Nat → Int32} {J : Nat → Nat → Int64} {past : Nat → Nat} {Q : zRt} {S : zS} (hS : mSt I J S) (hv : vS S) (a b c : Int32) (h : ∀ I' J', mSt I' J' (sOut S ( sMos S.1 a b c)) → mFr I J I' J' → Q (some (.int ( sMos S.1 a b c).1)) (zK0, I', J', zR0 past)) : zCalls G k' yX12_most [.ref 305, .int a, .int b, .int c] (zK0, I, J, zR0 past) Q := by
  have hS0 := mSt_thr (v := 0) hS
  have hQ0 : mQ I J (z_upI I 305 5 0) J := mQ_u (by omega)
  refine rnX12_most hG hk 305 a b c ?_
  have no : (bSm a b && bUp 3 c) = false → Q (some (.int (-1))) (zK0, z_upI I 305 5 0, J, zR0 past) := by
    intro e
    unfold sMos at h
    rw [e, if_neg (by decide)] at h
    exact h _ J hS0 (mQ_fr hQ0)
  refine sgX12_most hG [24] 60 0 ?_
  refine m_isSum hG (by decide) a b ?_
  refine And.intro (fun c1 => no (by rw [(zb_eq0 _).mp c1]; rfl)) (fun c1 => ?_)
  have c1 := z_nb1 (x := 0) c1
  refine m_inU hG (by decide) c 3 ?_
  refine And.intro (fun c2 => ?_) (fun c2 => no (by rw [(zb_eq0 _).mp c2, Bool.and_false]))
  have t : bUp (nI 3) c = true := z_nb1 (x := 0) c2
  obtain ⟨ba, bb⟩ := bSm_bd c1
  obtain ⟨n, hn, rfl⟩ := bUp_in (n := 3) (by decide) t
  unfold sMos at h
  rw [c1, show (3 : Int32) = nI 3 from rfl, t, nI_clamp (by omega), Bool.true_and, if_pos rfl] at h
  refine sgX12_most hG [] 60 24 ?_
  refine m_layMost hG (by decide) hS0.1 hv.1 ba bb (n := n) (by omega) (i_of a) (i_of b) rfl (fun I1 J1 f1 m1 => ?_)
  have hS1 := mMf_same hS0 f1
  have q1 := mQ_tr hQ0 f1.1
  cases e : mxW S.1 a.toInt b.toInt n with
  | none =>
    rw [e] at h m1
    refine And.intro (fun c => absurd m1.1 c) (fun _ => ?_)
    exact h I1 J1 hS1 (mQ_fr q1)
  | some f =>
    have k := mxW_Q hv.1.1 ba bb (by omega) e
    have k1 := k.2.1
    have k2 := k.2.2
    rw [e] at h m1
    obtain ⟨z1, z2⟩ := m1.2 f rfl
    refine And.intro (fun _ => ?_) (fun c => absurd (c.symm.trans m1.1) (show ¬ (0 : Int32) = zb true by decide))
    refine m_tellFq hG (by decide) mNm_0 (by decide) z1 z2 (by omega) (by omega) (by have := k.1.1; omega) (fun I2 J2 q2 _ n2 => ?_)
    rw [fRed_id k.1] at n2
    have q3 := mQ_tr q1 (mQ_tr (mQ_u (p := 305) (k := 4) (v := 0) (by omega)) q2)
    exact h I2 J2 (mSt_tel hS q3 n2) (mQ_fr q3)
theorem m_gains {G : zG} (hG : zGok G) {k' : Nat} (hk : 7 ≤ k') {I : Nat → Nat → Int32} {J : Nat → Nat → Int64} {past : Nat → Nat} {Q : zRt} {S : zS} (hS : mSt I J S) (hv : vS S) (a b : Int32) (h : ∀ I' J', mSt I' J' (sOut S ( sGai S.1 a b)) → mFr I J I' J' → Q (some (.int ( sGai S.1 a b).1)) (zK0, I', J', zR0 past)) : zCalls G k' yX12_gains [.ref 305, .int a, .int b] (zK0, I, J, zR0 past) Q := by
  have hS0 := mSt_thr (v := 0) hS
  have hQ0 : mQ I J (z_upI I 305 5 0) J := mQ_u (by omega)
  refine rnX12_gains hG hk 305 a b ?_
  refine sgX12_gains hG [15] 60 0 ?_
  refine m_isSum hG (by decide) a b ?_
  refine And.intro (fun c => ?_) (fun c => ?_)
  rotate_left
  · have c := (zb_eq0 _).mp c
    unfold sGai at h
    rw [c, if_neg (by decide)] at h
    exact h _ J hS0 (mQ_fr hQ0)
  have c := z_nb1 (x := 0) c
  obtain ⟨ba, bb⟩ := bSm_bd c
  unfold sGai at h
  rw [if_pos c] at h
  have w0 : mxW S.1 a.toInt b.toInt 0 = mx0 S.1 a.toInt b.toInt := rfl
  have w1 : mxW S.1 a.toInt b.toInt 1 = mx1 S.1 a.toInt b.toInt 0 := rfl
  have w2 : mxW S.1 a.toInt b.toInt 2 = mx1 S.1 a.toInt b.toInt 1 := rfl
  have w3 : mxW S.1 a.toInt b.toInt 3 = mx3 S.1 a.toInt b.toInt := rfl
  refine sgX12_gains hG [86] 90 15 ?_
  refine m_layMost hG (by decide) hS0.1 hv.1 ba bb (n := 3) (by decide) (i_of a) (i_of b) rfl (fun I1 J1 f1 m1 => ?_)
  rw [w3] at m1
  have hS1 := mMf_same hS0 f1
  have q1 := mQ_tr hQ0 f1.1
  cases e3 : mx3 S.1 a.toInt b.toInt with
  | none =>
    rw [e3] at h m1
    refine And.intro (fun c => absurd m1.1 c) (fun _ => ?_)
    exact h I1 J1 hS1 (mQ_fr q1)
  | some f3 =>
    obtain ⟨⟨f0, e0⟩, hw⟩ := mx_all hv.1.1 ba bb e3
    obtain ⟨fA, e1⟩ := hw 0 (by decide)
    obtain ⟨fB', e2⟩ := hw 1 (by decide)
    have k0 := mx0_Q hv.1.1 ba bb e0
    have k1 := mx1_Q hv.1.1 ba bb (by decide) e1
    have k2 := mx1_Q hv.1.1 ba bb (by decide) e2
    have k3 := mx3_Q ba bb e3
    have d3 : f3.2 = 1 := by obtain ⟨q, _, e⟩ := mx3_in e3; rw [e]; rfl
    rw [e3, e0, e1, e2] at h
    rw [e3] at m1
    have h : ∀ I' J', mSt I' J' (sOut S (sGn f0 fA fB' f3)) → mFr I J I' J' → Q (some (.int (sGn f0 fA fB' f3).1)) (zK0, I', J', zR0 past) := h
    refine And.intro (fun _ => ?_) (fun c => absurd (c.symm.trans m1.1) (show ¬ (0 : Int32) = zb true by decide))
    obtain ⟨z3, _⟩ := m1.2 f3 rfl
    refine m_layMost hG (by decide) hS1.1 hv.1 ba bb (n := 1) (by decide) (i_of a) (i_of b) rfl (fun I2 J2 f2 m2 => ?_)
    rw [w1, e1] at m2
    obtain ⟨zA, zA'⟩ := m2.2 fA rfl
    have hS2 := mMf_same hS1 f2
    refine m_layMost hG (by decide) hS2.1 hv.1 ba bb (n := 2) (by decide) (i_of a) (i_of b) rfl (fun I3 J3 g3 m3 => ?_)
    rw [w2, e2] at m3
    obtain ⟨zB, zB'⟩ := m3.2 fB' rfl
    have hS3 := mMf_same hS2 g3
    have q3 := mQ_tr q1 (mQ_tr f2.1 g3.1)
    refine m_isLessI hG (by decide) (f := fB') (g := fA) zB zB' zA zA' (fQ_B k2) (fQ_B k1) ?_
    -- the tail
    have z122 : ∀ (y : Bool) (sa sb : Int64), y = fLt fB' fA → sa = Int64.ofInt (if y = true then fB' else fA).1 → sb = Int64.ofInt (if y = true then fB' else fA).2 → aX12_gains G Q 122 [some (.ref 305), some (.int a), some (.int b), some (.long (J1 305 31)), none, some (.long (J2 305 31)), none, some (.long (J2 305 32)), none, some (.int (zb y)), some (.long sa), none, some (.long sb), none] [] (zK0, I3, J3, zR0 past) := by
      intro y sa sb ey ea eb
      have kg : fQ (if y = true then fB' else fA) := by split <;> assumption
      unfold sGn at h
      rw [← ey] at h
      generalize (if y = true then fB' else fA) = g at *
      refine sgX12_gains hG [] 90 122 ?_
      refine m_layMost hG (by decide) hS3.1 hv.1 ba bb (n := 0) (by decide) (i_of a) (i_of b) rfl (fun I4 J4 g4 m4 => ?_)
      rw [w0, e0] at m4
      obtain ⟨z0, z0'⟩ := m4.2 f0 rfl
      have hS4 := mMf_same hS3 g4
      have q4 := mQ_tr q3 g4.1
      have b1 := k0.2.1
      have b2 := k0.2.2
      have b3 := kg.2.1
      have b4 := kg.2.2
      have b5 := k3.2.1
      have p1 := bd_mul b1 b4
      have p2 := bd_mul b3 b2
      have p3 := bd_mul b2 b4
      have p4 := bd_mul b5 b2
      obtain ⟨t1, t0⟩ := fQ_m k0 kg
      have eU : J4 305 31 * sb - sa * J4 305 32 = Int64.ofInt (f0.1 * g.2 - g.1 * f0.2) := by rw [z0, z0', ea, eb, Int64.ofInt_sub, Int64.ofInt_mul, Int64.ofInt_mul]
      have eL : J4 305 32 * sb = Int64.ofInt (f0.2 * g.2) := by rw [z0', eb, Int64.ofInt_mul]
      refine m_tellFq hG (by decide) mNm_0 (by decide) eU eL (by omega) (by omega) t0 (fun I5 J5 q5 s5 n5 => ?_)
      have eU2 : J5 305 31 - J1 305 31 * J5 305 32 = Int64.ofInt (f0.1 * f3.2 - f3.1 * f0.2) := by rw [s5 31 (by decide) (by decide), s5 32 (by decide) (by decide), z0, z0', z3, d3, Int.mul_one, Int64.ofInt_sub, Int64.ofInt_mul]
      have eL2 : J5 305 32 = Int64.ofInt (f0.2 * f3.2) := by rw [s5 32 (by decide) (by decide), z0', d3, Int.mul_one]
      refine m_tellFq hG (by decide) n5 (by simp [fPr]) eU2 eL2 (by rw [d3, Int.mul_one]; omega) (by rw [d3, Int.mul_one]; omega) (by rw [d3, Int.mul_one]; have := k0.1.1; omega) (fun I6 J6 q6 s6 n6 => ?_)
      have qq := mQ_tr q4 (mQ_tr (mQ_u (p := 305) (k := 4) (v := 0) (by omega)) (mQ_tr q5 q6))
      exact h I6 J6 (mSt_tel hS qq n6) (mQ_fr qq)
    have z86 : ∀ (y : Bool), y = fLt fB' fA → ∀ (o9 o10 o11 o12 o13 : Option Value), aX12_gains G Q 86 [some (.ref 305), some (.int a), some (.int b), some (.long (J1 305 31)), none, some (.long (J2 305 31)), none, some (.long (J2 305 32)), none, o9, o10, o11, o12, o13] [.int (zb y)] (zK0, I3, J3, zR0 past) := by
      intro y ey o9 o10 o11 o12 o13
      refine sgX12_gains hG [122] 90 86 ?_
      cases y with
      | true =>
        refine And.intro (fun q => absurd rfl q) (fun _ => ?_)
        refine And.intro (fun q => absurd rfl q) (fun _ => ?_)
        exact z122 true _ _ ey zB zB'
      | false =>
        refine And.intro (fun _ => ?_) (fun q => absurd q (by decide))
        refine And.intro (fun _ => ?_) (fun q => absurd q (by decide))
        exact z122 false _ _ ey zA zA'
    refine And.intro (fun c => ?_) (fun c => ?_)
    · exact z86 false ((zb_eq0 _).mp c).symm _ _ _ _ _
    · exact z86 true (z_nb1 (x := 0) c).symm _ _ _ _ _
