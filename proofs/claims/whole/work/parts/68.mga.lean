-- ===== most, gains (model) =====
theorem m_offerSlices {G : zG} (hG : zGok G) {k' : Nat} (hk : 4 ≤ k') {I : Nat → Nat → Int32} {J : Nat → Nat → Int64} {past : Nat → Nat} {Q : zRt} {π : zPl} (hv : vPl π) (ht : mTb I J (sTb π) 14) {A B : Int} (ba : A.natAbs ≤ 9) (bb : B.natAbs ≤ 9) (hm : mMo I J none) {wy : Nat} (hw2 : wy < 2) {W a b : Int32} (eW : W = nI wy) (ea : a = Int32.ofInt A) (eb : b = Int32.ofInt B) (h : ∀ I' J', mOf I J I' J' → mMo I' J' (mx1 π A B wy) → Q none (zK0, I', J', zR0 past)) : zCalls G k' yX12_offerSlices [.ref 305, .int W, .int a, .int b] (zK0, I, J, zR0 past) Q := by
  subst eW
  have eA : a.toInt64 = Int64.ofInt A := by rw [ea, iI_l (by omega)]
  have eB : b.toInt64 = Int64.ofInt B := by rw [eb, iI_l (by omega)]
  have loop : ∀ (r k : Nat) (vk : Int32) (o5 o6 o7 o8 o9 : Option Value) (I' : Nat → Nat → Int32) (J' : Nat → Nat → Int64), vk = nI k → k + r = 7 → mOf I J I' J' → mMo I' J' (mxL (eLs π A B wy k)) → aX12_offerSlices G Q 3 [some (.ref 305), some (.int (nI wy)), some (.int a), some (.int b), some (.int vk), o5, o6, o7, o8, o9] [] (zK0, I', J', zR0 past) := by
    intro r
    induction r with
    | zero =>
      intro k vk o5 o6 o7 o8 o9 I' J' ek hk f m
      subst ek
      have e : k = 7 := by omega
      subst e
      refine sgX12_offerSlices hG [3] 60 3 ?_
      refine And.intro (fun _ => ?_) (fun q => absurd (by decide) q)
      exact h I' J' f m
    | succ r ih =>
      intro k vk o5 o6 o7 o8 o9 I' J' ek hk f m
      subst ek
      obtain ⟨n, en⟩ : ∃ n, n = 14 * 0 + 7 * wy + k := ⟨_, rfl⟩
      have n14 : n < 14 := by omega
      have t0 := ht 0 wy k hw2 (by omega) (by omega)
      rw [← en] at t0
      have tt : ∀ I2 J2, mOf I J I2 J2 → mSl I2 J2 n (sT0 π wy k) := fun I2 J2 f => mSl_fr t0 (by rw [f.1 312 (by decide)]) ⟨by rw [f.2.2 313 (by decide)], by rw [f.2.2 314 (by decide)]⟩ ⟨by rw [f.2.2 313 (by decide)], by rw [f.2.2 314 (by decide)]⟩
      obtain ⟨t2, t3⟩ := tt I' J' f
      have lk := eLs_lB hv.1 ba bb hw2 k (by omega)
      have i1 : (2 : Int32) * nI n = nI (2 * n) := by rw [show (2 : Int32) = nI 2 from rfl, pk_mul]
      have i2 : (2 : Int32) * nI n + 1 = nI (2 * n + 1) := by rw [i1, nI_1]
      have c1 : ((2 : Int32) * nI n).toNatClampNeg = 2 * n := by rw [i1, nI_clamp (by omega)]
      have c2 : ((2 : Int32) * nI n + 1).toNatClampNeg = 2 * n + 1 := by rw [i2, nI_clamp (by omega)]
      have v1 : vp_in ((2 : Int32) * nI n) 84 := by rw [i1]; exact vp_in_nI (by omega) (by omega)
      have v2 : vp_in ((2 : Int32) * nI n + 1) 84 := by rw [i2]; exact vp_in_nI (by omega) (by omega)
      have cn : (nI n).toNatClampNeg = n := nI_clamp (by omega)
      have z54 : (sT0 π wy k).1 = true → ∀ (o8 o9 : Option Value) (own : Int64) (z : Int32), own = Int64.ofInt (if wy = 0 then B else A) → z = Int32.ofInt (if wy = 0 then A else B) → aX12_offerSlices G Q 54 [some (.ref 305), some (.int (nI wy)), some (.int a), some (.int b), some (.int (nI k)), some (.int (nI n)), some (.long own), none, o8, o9] [.int z] (zK0, I', J', zR0 past) := by
        intro c o8 o9 own z eo ez
        have sw := sT0_W hv.1 hw2 (show k < 7 by omega) c
        obtain ⟨⟨l1, l2⟩, u1, u2⟩ := t3 c
        obtain ⟨p0, p1, p2⟩ := fW_p sw.1.1
        obtain ⟨s0, s1, s2⟩ := fW_p sw.1.2
        have bz : (if wy = 0 then A else B).natAbs ≤ 9 := by split <;> assumption
        have ez : z.toInt64 = Int64.ofInt (if wy = 0 then A else B) := by rw [ez, iI_l (by omega)]
        have eu : ∀ (g : zFr) (x y : Int64), x = Int64.ofInt g.1 → y = Int64.ofInt g.2 → z.toInt64 * (nI k).toInt64 * y + own * x = Int64.ofInt ((if wy = 0 then A else B) * k * g.2 + (if wy = 0 then B else A) * g.1) := by
          intro g x y ex ey
          rw [Int64.ofInt_add, Int64.ofInt_mul, Int64.ofInt_mul, Int64.ofInt_mul, ex, ey, ez, eo, nI_l (by omega), lN_I]
        have bl := eU_bd ba bb (w := wy) (show k < 7 by omega) sw.1.1
        have bu := eU_bd ba bb (w := wy) (show k < 7 by omega) sw.1.2
        have l1 : J' 313 ((2 : Int32) * nI n).toNatClampNeg = Int64.ofInt (sT0 π wy k).2.1.1 := by rw [c1]; exact l1
        have l2 : J' 313 ((2 : Int32) * nI n + 1).toNatClampNeg = Int64.ofInt (sT0 π wy k).2.1.2 := by rw [c2]; exact l2
        refine sgX12_offerSlices hG [3] 90 54 ?_
        refine And.intro v2 ?_
        refine And.intro v1 ?_
        refine And.intro v2 ?_
        refine m_offerL hG (by decide) m lk (eu _ _ _ l1 l2) l2 (by omega) (by omega) p0 (fun I1 J1 f1 m1 => ?_)
        have u1 : J1 314 ((2 : Int32) * nI n).toNatClampNeg = Int64.ofInt (sT0 π wy k).2.2.1 := by rw [c1, f1.2.2 314 (by decide)]; exact u1
        have u2 : J1 314 ((2 : Int32) * nI n + 1).toNatClampNeg = Int64.ofInt (sT0 π wy k).2.2.2 := by rw [c2, f1.2.2 314 (by decide)]; exact u2
        refine And.intro v2 ?_
        refine And.intro v1 ?_
        refine And.intro v2 ?_
        refine m_offerL hG (by decide) m1 (lB_app lk (lB_one (eF_ok ba bb (by omega) sw.1.1).1 (eF_ok ba bb (by omega) sw.1.1).2)) (eu _ _ _ u1 u2) u2 (by omega) (by omega) s0 (fun I2 J2 f2 m2 => ?_)
        refine ih (k + 1) _ _ _ _ _ _ I2 J2 (by rw [nI_1]) (by omega) (mOf_tr f (mOf_tr f1 f2)) ?_
        have e : eLs π A B wy (k + 1) = eLs π A B wy k ++ [eF A B wy k (sT0 π wy k).2.1] ++ [eF A B wy k (sT0 π wy k).2.2] := by
          show _ ++ eL π A B wy k = _
          unfold eL
          rw [if_pos c, List.append_assoc]; rfl
        rw [e]; exact m2
      have z43 : (sT0 π wy k).1 = true → ∀ (o6 o7 o8 o9 : Option Value) (own : Int64), own = Int64.ofInt (if wy = 0 then B else A) → aX12_offerSlices G Q 43 [some (.ref 305), some (.int (nI wy)), some (.int a), some (.int b), some (.int (nI k)), some (.int (nI n)), o6, o7, o8, o9] [.long own] (zK0, I', J', zR0 past) := by
        intro c o6 o7 o8 o9 own eo
        refine sgX12_offerSlices hG [54] 90 43 ?_
        refine And.intro (fun d => ?_) (fun d => ?_)
        · rw [show (0 : Int32) = nI 0 from rfl, nI_eq (by omega) (by omega)] at d
          exact z54 c _ _ _ _ eo (by rw [if_neg d]; exact eb)
        · rw [show (0 : Int32) = nI 0 from rfl, nI_eq (by omega) (by omega)] at d
          exact z54 c _ _ _ _ eo (by rw [if_pos d]; exact ea)
      refine sgX12_offerSlices hG [3, 43] 60 3 ?_
      refine And.intro (fun q => absurd q (by rw [show (7 : Int32) = nI 7 from rfl, nI_leI (by omega) (by omega)]; omega)) (fun _ => ?_)
      refine m_sliceAt hG (by decide) 0 wy k rfl rfl rfl ?_
      rw [← en]
      refine And.intro (by exact vp_in_nI (by omega) (by omega)) ?_
      have t2 : I' 312 (nI n).toNatClampNeg = zb (sT0 π wy k).1 := by rw [cn]; exact t2
      refine And.intro (fun c => ?_) (fun c => ?_)
      · rw [t2] at c
        have c := z_nb1 (x := 0) c
        refine And.intro (fun d => ?_) (fun d => ?_)
        · rw [show (0 : Int32) = nI 0 from rfl, nI_eq (by omega) (by omega)] at d
          exact z43 c _ _ _ _ _ (by rw [if_neg d]; exact eA)
        · rw [show (0 : Int32) = nI 0 from rfl, nI_eq (by omega) (by omega)] at d
          exact z43 c _ _ _ _ _ (by rw [if_pos d]; exact eB)
      · rw [t2] at c
        have c := (zb_eq0 _).mp c
        refine ih (k + 1) _ _ _ _ _ _ I' J' (by rw [nI_1]) (by omega) f ?_
        have e : eLs π A B wy (k + 1) = eLs π A B wy k := by
          show _ ++ eL π A B wy k = _
          unfold eL
          rw [c, if_neg (by decide), List.append_nil]
        rw [e]; exact m
  refine rnX12_offerSlices hG hk 305 _ _ _ ?_
  refine sgX12_offerSlices hG [3] 60 0 ?_
  exact loop 7 0 0 none none none none none I J rfl (by omega) mOf_rfl hm
theorem kM_lB {π : zPl} (hv : vRw π) {i n : Nat} (hi : i < π.1 + 4) (hn : i + 1 + n ≤ π.1 + 4) {a b : Int} (ha : a.natAbs ≤ 9) (hb : b.natAbs ≤ 9) : lB (kM π a b i n) := by
  intro f hf
  obtain ⟨j, h1, h2, h3⟩ := (kM_m n).mp hf
  exact kL_lB hv hi (by omega) ha hb f h3
theorem kMo_lB {π : zPl} (hv : vRw π) {n : Nat} (hn : n ≤ π.1 + 4) {a b : Int} (ha : a.natAbs ≤ 9) (hb : b.natAbs ≤ 9) : lB (kMo π a b (π.1 + 4) n) := by
  intro f hf
  obtain ⟨i, j, h1, h2, h3, h4⟩ := (kMo_m n hn).mp hf
  exact kL_lB hv (by omega) (by omega) ha hb f h4
/-- what layMost() may touch -/
def mMf (I : Nat → Nat → Int32) (J : Nat → Nat → Int64) (I' : Nat → Nat → Int32) (J' : Nat → Nat → Int64) : Prop := mQ I J I' J' ∧ I' 305 4 = I 305 4 ∧ J' 308 = J 308
theorem mMf_tr {I I1 I2 : Nat → Nat → Int32} {J J1 J2 : Nat → Nat → Int64} (h1 : mMf I J I1 J1) (h2 : mMf I1 J1 I2 J2) : mMf I J I2 J2 := ⟨mQ_tr h1.1 h2.1, h2.2.1.trans h1.2.1, h2.2.2.trans h1.2.2⟩
theorem mOf_Mf {I I1 : Nat → Nat → Int32} {J J1 : Nat → Nat → Int64} (h : mOf I J I1 J1) : mMf I J I1 J1 := ⟨⟨fun x hx => ⟨h.1 x (by omega), h.2.2 x (by omega)⟩, h.2.1 2 (by decide), h.2.1 13 (by decide)⟩, h.2.1 4 (by decide), h.2.2 308 (by decide)⟩
theorem mLy_Mf {I I1 : Nat → Nat → Int32} {J J1 : Nat → Nat → Int64} (h : mLy I J I1 J1) : mMf I J I1 J1 := ⟨mLy_Q h, h.2.1 4 (by decide), h.2.2.1 308 (by decide) (by decide) (by decide)⟩
theorem m_layMost {G : zG} (hG : zGok G) {k' : Nat} (hk : 6 ≤ k') {I : Nat → Nat → Int32} {J : Nat → Nat → Int64} {past : Nat → Nat} {Q : zRt} {π : zPl} (hc : mPl I 306 0 π) (hv : vPl π) {A B : Int} (ba : A.natAbs ≤ 9) (bb : B.natAbs ≤ 9) {n : Nat} (hn : n < 4) {a b N : Int32} (ea : a = Int32.ofInt A) (eb : b = Int32.ofInt B) (eN : N = nI n) (h : ∀ I' J', mMf I J I' J' → mMo I' J' (mxW π A B n) → Q none (zK0, I', J', zR0 past)) : zCalls G k' yX12_layMost [.ref 305, .int a, .int b, .int N] (zK0, I, J, zR0 past) Q := by
  subst eN
  have h6 := hv.1.1
  refine rnX12_layMost hG hk 305 _ _ _ ?_
  refine sgX12_layMost hG [16, 62] 60 0 ?_
  refine And.intro (Or.inl rfl) ?_
  have hc0 : mPl (z_upI I 305 30 0) 306 0 π := mPl_fr hc (z_upI_ne (by decide))
  refine m_layFirst hG (by decide) hc0 hv (sTb π) (fun _ _ => rfl) (fun I1 J1 f1 t1 => ?_)
  have hc1 := mLy_pl f1 hc0
  have q0 : mMf I J I1 J1 := mMf_tr (mOf_Mf ⟨fun x hx => z_upI_ne hx, fun j hj => uI_k hj, fun _ _ => rfl⟩) (mLy_Mf f1)
  have m1 : mMo I1 J1 none := ⟨by rw [f1.2.1 30 (by decide), uI_s]; rfl, fun f hf => by cases hf⟩
  -- behind the corners
  have z62 : ∀ (o4 o5 : Option Value) (I2 : Nat → Nat → Int32) (J2 : Nat → Nat → Int64), mOf I1 J1 I2 J2 → mMo I2 J2 (if n = 0 then mx0 π A B else none) → aX12_layMost G Q 62 [some (.ref 305), some (.int a), some (.int b), some (.int (nI n)), o4, o5] [] (zK0, I2, J2, zR0 past) := by
    intro o4 o5 I2 J2 f2 m2
    have hc2 : mPl I2 306 0 π := mPl_fr hc1 (f2.1 306 (by decide))
    have q2 := mMf_tr q0 (mOf_Mf f2)
    rcases (show n = 0 ∨ (n = 1 ∨ n = 2) ∨ n = 3 by omega) with rfl | e | rfl
    · refine sgX12_layMost hG [] 60 62 ?_
      refine And.intro (fun q => absurd q (by decide)) (fun _ => ?_)
      refine And.intro (fun _ => ?_) (fun q => absurd q (by decide))
      refine And.intro (fun q => absurd q (by decide)) (fun _ => ?_)
      exact h I2 J2 q2 m2
    · rw [if_neg (by omega)] at m2
      have ew : mxW π A B n = mx1 π A B (n - 1) := by unfold mxW; rw [if_neg (by omega), if_neg (by omega)]
      rw [ew] at h
      have z72 : aX12_layMost G Q 72 [some (.ref 305), some (.int a), some (.int b), some (.int (nI n)), o4, o5] [] (zK0, I2, J2, zR0 past) := by
        refine sgX12_layMost hG [] 60 72 ?_
        refine m_offerSlices hG (by decide) hv (mTb_fr t1 (f2.1 312 (by decide)) (f2.2.2 313 (by decide)) (f2.2.2 314 (by decide))) ba bb m2 (wy := n - 1) (by omega) (by rw [show (1 : Int32) = nI 1 from rfl, pk_sub (by omega)]) ea eb (fun I3 J3 f3 m3 => ?_)
        refine And.intro (fun q => absurd q (by rw [show (3 : Int32) = nI 3 from rfl, nI_leI (by omega) (by omega)]; omega)) (fun _ => ?_)
        exact h I3 J3 (mMf_tr q2 (mOf_Mf f3)) m3
      refine sgX12_layMost hG [72] 60 62 ?_
      refine And.intro (fun _ => z72) (fun q => ?_)
      refine And.intro (fun p => ?_) (fun _ => z72)
      exfalso
      rcases e with rfl | rfl
      · exact q rfl
      · exact p rfl
    · rw [if_neg (by decide)] at m2
      have bL := zPts_bd π (-1)
      have ew : mxW π A B 3 = mx3 π A B := rfl
      rw [ew] at h
      unfold mx3 at h
      refine sgX12_layMost hG [94] 60 62 ?_
      refine And.intro (fun q => absurd q (by decide)) (fun _ => ?_)
      refine And.intro (fun _ => ?_) (fun q => absurd q (by decide))
      refine And.intro (fun _ => ?_) (fun q => absurd (by decide) q)
      refine m_layWholes hG (by decide) hc2 h6 (fun I3 f3 g3 p3 => ?_)
      generalize zPts π (-1) = L at *
      have h49 := bL.1
      have q3 : mMf I J I3 J2 := mMf_tr q2 ⟨⟨fun x hx => ⟨f3 x (by omega) (by omega), rfl⟩, g3 2 (by decide), g3 13 (by decide)⟩, g3 4 (by decide), rfl⟩
      have m3 : mMo I3 J2 none := ⟨by rw [g3 30 (by decide)]; exact m2.1, m2.2⟩
      have loop : ∀ (r i : Nat) (vi : Int32) (I' : Nat → Nat → Int32) (J' : Nat → Nat → Int64), vi = nI i → i + r = L.length → mOf I3 J2 I' J' → mMo I' J' (mxL ((L.take i).map (pF A B))) → aX12_layMost G Q 94 [some (.ref 305), some (.int a), some (.int b), some (.int (nI 3)), some (.int vi), o5] [] (zK0, I', J', zR0 past) := by
        intro r
        induction r with
        | zero =>
          intro i vi I' J' ei hi f m
          subst ei
          have e : i = L.length := by omega
          subst e
          have p4 : mPts I' L := mPts_fr p3 (f.2.1 29 (by decide)) (f.1 316 (by decide))
          refine sgX12_layMost hG [94] 60 94 ?_
          refine And.intro (fun _ => ?_) (fun q => absurd (by rw [p4.1]; exact Int32.le_refl _) q)
          rw [List.take_length] at m
          exact h I' J' (mMf_tr q3 (mOf_Mf f)) m
        | succ r ih =>
          intro i vi I' J' ei hi f m
          subst ei
          have p4 : mPts I' L := mPts_fr p3 (f.2.1 29 (by decide)) (f.1 316 (by decide))
          obtain ⟨q, hq⟩ := z_get (L := L) (i := i) (by omega)
          obtain ⟨b1, b2⟩ := bL.2 i q hq
          obtain ⟨e1, e2⟩ := p4.2 i q hq
          obtain ⟨k1, k2, k3⟩ := pF_ok ba bb b1 b2
          have i1 : (2 : Int32) * nI i = nI (2 * i) := by rw [show (2 : Int32) = nI 2 from rfl, pk_mul]
          have i2 : (2 : Int32) * nI i + 1 = nI (2 * i + 1) := by rw [i1, nI_1]
          have es : (a * I' 316 ((2 : Int32) * nI i).toNatClampNeg + b * I' 316 ((2 : Int32) * nI i + 1).toNatClampNeg).toInt64 = Int64.ofInt (zSm A B q) := by
            have : a * I' 316 ((2 : Int32) * nI i).toNatClampNeg + b * I' 316 ((2 : Int32) * nI i + 1).toNatClampNeg = Int32.ofInt (zSm A B q) := by
              rw [i2, i1, nI_clamp (by omega), nI_clamp (by omega), e1, e2, nI_I, nI_I, ea, eb]
              unfold zSm
              rw [Int32.ofInt_add, Int32.ofInt_mul, Int32.ofInt_mul]
            rw [this, iI_l (by omega)]
          refine sgX12_layMost hG [94] 60 94 ?_
          refine And.intro (fun q => absurd q (by rw [p4.1, nI_leI (by omega) (by omega)]; omega)) (fun _ => ?_)
          refine And.intro (by rw [i1]; exact vp_in_nI (by omega) (by omega)) ?_
          refine And.intro (by rw [i2]; exact vp_in_nI (by omega) (by omega)) ?_
          refine m_offerL hG (by decide) m (pF_lB ba bb bL i) (up := zSm A B q) (lo := 1) es rfl (by omega) (by decide) (by decide) (fun I5 J5 f5 m5 => ?_)
          rw [fRed_1] at m5
          refine ih (i + 1) _ I5 J5 (by rw [nI_1]) (by omega) (mOf_tr f f5) ?_
          rw [mx_take hq]; exact m5
      exact loop L.length 0 0 I3 J2 rfl (by omega) mOf_rfl m3
  refine And.intro (fun c => ?_) (fun c => ?_)
  · rw [show (0 : Int32) = nI 0 from rfl, nI_eq (by omega) (by omega)] at c
    exact z62 _ _ I1 J1 mOf_rfl (by rw [if_neg c]; exact m1)
  · rw [show (0 : Int32) = nI 0 from rfl, nI_eq (by omega) (by omega)] at c
    subst c
    have outer : ∀ (r i : Nat) (vi : Int32) (o5 : Option Value) (I' : Nat → Nat → Int32) (J' : Nat → Nat → Int64), vi = nI i → i + r = π.1 + 4 → mOf I1 J1 I' J' → mMo I' J' (mxL (kMo π A B (π.1 + 4) i)) → aX12_layMost G Q 16 [some (.ref 305), some (.int a), some (.int b), some (.int (nI 0)), some (.int vi), o5] [] (zK0, I', J', zR0 past) := by
      intro r
      induction r with
      | zero =>
        intro i vi o5 I' J' ei hi f m
        subst ei
        have e : i = π.1 + 4 := by omega
        subst e
        have hc2 : mPl I' 306 0 π := mPl_fr hc1 (f.1 306 (by decide))
        refine sgX12_layMost hG [16, 31, 62] 60 16 ?_
        refine m_lines2 hG (by decide) hc2 ?_
        refine And.intro (fun _ => ?_) (fun q => absurd (Int32.le_refl _) q)
        exact z62 _ _ I' J' f (by rw [if_pos rfl]; exact m)
      | succ r ih =>
        have inner : ∀ (q i t : Nat) (vi vj : Int32) (I' : Nat → Nat → Int32) (J' : Nat → Nat → Int64), vi = nI i → vj = nI (i + 1 + t) → i + (r + 1) = π.1 + 4 → i + 1 + t + q = π.1 + 4 → mOf I1 J1 I' J' → mMo I' J' (mxL (kMo π A B (π.1 + 4) i ++ kM π A B i t)) → aX12_layMost G Q 31 [some (.ref 305), some (.int a), some (.int b), some (.int (nI 0)), some (.int vi), some (.int vj)] [] (zK0, I', J', zR0 past) := by
          intro q
          induction q with
          | zero =>
            intro i t vi vj I' J' ei ej hi hj f m
            subst ei
            subst ej
            have hc2 : mPl I' 306 0 π := mPl_fr hc1 (f.1 306 (by decide))
            refine sgX12_layMost hG [16, 31, 62] 60 31 ?_
            refine m_lines2 hG (by decide) hc2 ?_
            refine And.intro (fun _ => ?_) (fun q => absurd (by rw [nI_leI (by omega) (by omega)]; omega) q)
            refine ih (i + 1) _ _ I' J' (by rw [nI_1]) (by omega) f ?_
            show mMo I' J' (mxL (_ ++ kM π A B i (π.1 + 4 - (i + 1))))
            rw [show π.1 + 4 - (i + 1) = t by omega]
            exact m
          | succ q ihq =>
            intro i t vi vj I' J' ei ej hi hj f m
            subst ei
            subst ej
            have hc2 : mPl I' 306 0 π := mPl_fr hc1 (f.1 306 (by decide))
            refine sgX12_layMost hG [16, 31, 62] 60 31 ?_
            refine m_lines2 hG (by decide) hc2 ?_
            refine And.intro (fun q => absurd q (by rw [nI_leI (by omega) (by omega)]; omega)) (fun _ => ?_)
            refine m_offerCorner hG (by decide) hc2 hv ba bb m (lB_app (kMo_lB hv.1 (by omega) ba bb) (kM_lB hv.1 (by omega) (by omega) ba bb)) (i := i) (j := i + 1 + t) (by omega) (by omega) ea eb rfl rfl (fun I3 J3 f3 m3 => ?_)
            rw [List.append_assoc] at m3
            exact ihq i (t + 1) _ _ I3 J3 rfl (by rw [nI_1, Nat.add_assoc]) hi (by omega) (mOf_tr f f3) m3
        intro i vi o5 I' J' ei hi f m
        subst ei
        have hc2 : mPl I' 306 0 π := mPl_fr hc1 (f.1 306 (by decide))
        refine sgX12_layMost hG [16, 31, 62] 60 16 ?_
        refine m_lines2 hG (by decide) hc2 ?_
        refine And.intro (fun q => absurd q (by rw [nI_leI (by omega) (by omega)]; omega)) (fun _ => ?_)
        exact inner (π.1 + 4 - (i + 1)) i 0 _ _ I' J' rfl (by rw [nI_1]) hi (by omega) f (by show mMo _ _ (mxL (_ ++ [])); rw [List.append_nil]; exact m)
    exact outer (π.1 + 4) 0 0 none I1 J1 rfl (by omega) mOf_rfl m1
