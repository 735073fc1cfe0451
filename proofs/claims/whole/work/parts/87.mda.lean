-- ===== acts are done (model) =====
def mEx (I : Nat → Nat → Int32) (J : Nat → Nat → Int64) (I' : Nat → Nat → Int32) (J' : Nat → Nat → Int64) : Prop := (∀ x, x < 305 ∨ x = 307 ∨ x = 310 ∨ x = 311 ∨ 317 ≤ x → I' x = I x ∧ J' x = J x) ∧ (I' 305 2 = I 305 2 ∧ I' 305 4 = I 305 4 ∧ I' 305 13 = I 305 13) ∧ J' 308 = J 308
theorem mEx_rfl {I : Nat → Nat → Int32} {J : Nat → Nat → Int64} : mEx I J I J := ⟨fun _ _ => ⟨rfl, rfl⟩, ⟨rfl, rfl, rfl⟩, rfl⟩
theorem mEx_tr {I I1 I2 : Nat → Nat → Int32} {J J1 J2 : Nat → Nat → Int64} (h1 : mEx I J I1 J1) (h2 : mEx I1 J1 I2 J2) : mEx I J I2 J2 := ⟨fun x hx => ⟨(h2.1 x hx).1.trans (h1.1 x hx).1, (h2.1 x hx).2.trans (h1.1 x hx).2⟩, ⟨h2.2.1.1.trans h1.2.1.1, h2.2.1.2.1.trans h1.2.1.2.1, h2.2.1.2.2.trans h1.2.1.2.2⟩, h2.2.2.trans h1.2.2⟩
theorem mLy_Ex {I I1 : Nat → Nat → Int32} {J J1 : Nat → Nat → Int64} (h : mLy I J I1 J1) : mEx I J I1 J1 := ⟨fun x hx => ⟨h.1 x (by omega) (by omega), h.2.2.1 x (by omega) (by omega) (by omega)⟩, ⟨h.2.1 2 (by decide), h.2.1 4 (by decide), h.2.1 13 (by decide)⟩, h.2.2.1 308 (by decide) (by decide) (by decide)⟩
theorem mEx_6 {I I1 : Nat → Nat → Int32} {J J1 : Nat → Nat → Int64} (h : ∀ x, x ≠ 306 → x ≠ 315 → I1 x = I x) (hj : mJf J J1) : mEx I J I1 J1 := ⟨fun x hx => ⟨h x (by omega) (by omega), hj.1 x (by omega)⟩, ⟨by rw [h 305 (by decide) (by decide)], by rw [h 305 (by decide) (by decide)], by rw [h 305 (by decide) (by decide)]⟩, hj.1 308 (by decide)⟩
theorem sBecN_s {π : zPl} (hv : vPl π) (k c : Int32) : (sBecN π k c < 0 ∧ ¬ 0 ≤ (sBec π k c).1) ∨ (sBecN π k c = 0 ∧ 0 ≤ (sBec π k c).1 ∧ ∃ n, n < π.1 ∧ k = nI n ∧ (sBec π k c).2 = (π.1, upd π.2.1 (3 * n + 2) c, π.2.2)) := by
  unfold sBecN sBec
  by_cases t : (bTl π k && bBd c) = true
  · rw [if_pos t, if_pos t]
    by_cases u : π.2.1 (3 * k.toNatClampNeg + 2) = c
    · rw [if_pos u, if_pos u]
      exact Or.inl ⟨by decide, show ¬ (0 : Int32) ≤ -2 by decide⟩
    · rw [if_neg u, if_neg u]
      right
      rw [Bool.and_eq_true] at t
      obtain ⟨n, hn, rfl⟩ := bTl_in t.1 hv.1.1
      have h6 := hv.1.1
      have en : (nI n).toNatClampNeg = n := nI_clamp (by omega)
      rw [en]
      have r := (hv.1.2 n hn).2.2.1
      have r1 := Int32.le_iff_toInt_le.mp r.1
      have r2 := Int32.le_iff_toInt_le.mp r.2
      have q1 : (-50 : Int32).toInt = -50 := by decide
      have q2 : (50 : Int32).toInt = 50 := by decide
      have q3 : (100 : Int32).toInt = 100 := by decide
      rw [q1] at r1
      rw [q2] at r2
      refine ⟨rfl, ?_, n, hn, rfl, rfl⟩
      show 0 ≤ (100 : Int32) + π.2.1 (3 * n + 2)
      rw [Int32.le_iff_toInt_le, z_iadd (by rw [q3]; omega) (by rw [q3]; omega), q3, Int32.toInt_zero]
      omega
  · rw [if_neg t, if_neg t]
    exact Or.inl ⟨by decide, show ¬ (0 : Int32) ≤ -1 by decide⟩
theorem m_act {G : zG} (hG : zGok G) {k' : Nat} (hk : 8 ≤ k') {I : Nat → Nat → Int32} {J : Nat → Nat → Int64} {past : Nat → Nat} {Q : zRt} {T : Nat → Int32} {π : zPl} (hm : mPl I 306 0 π) (hv : vPl π) {p n : Nat} (hn : n < 80) (ha : acV T p n I) {K : Int32} (eK : K = nI (4 * n)) (h0 : ¬ 0 ≤ (dyA T p π).1 → ∀ I' J', mEx I J I' J' → mPl I' 306 0 π → Q (some (.int 0)) (zK0, I', J', zR0 past)) (h1 : 0 ≤ (dyA T p π).1 → ∀ I' J', mEx I J I' J' → mPl I' 306 0 (dyA T p π).2 → Q (some (.int 1)) (zK0, I', J', zR0 past)) : zCalls G k' yX12_act [.ref 305, .int K] (zK0, I, J, zR0 past) Q := by
  subst eK
  have h6 := hv.1.1
  have h8 := hv.2.1
  have c0 : (nI (4 * n)).toNatClampNeg = 4 * n := nI_clamp (by omega)
  have i1 : nI (4 * n) + 1 = nI (4 * n + 1) := nI_1 _
  have i2 : nI (4 * n) + 2 = nI (4 * n + 2) := by rw [show (2 : Int32) = nI 2 from rfl, nI_add]
  have i3 : nI (4 * n) + 3 = nI (4 * n + 3) := by rw [show (3 : Int32) = nI 3 from rfl, nI_add]
  have c1 : (nI (4 * n) + 1).toNatClampNeg = 4 * n + 1 := by rw [i1, nI_clamp (by omega)]
  have c2 : (nI (4 * n) + 2).toNatClampNeg = 4 * n + 2 := by rw [i2, nI_clamp (by omega)]
  have c3 : (nI (4 * n) + 3).toNatClampNeg = 4 * n + 3 := by rw [i3, nI_clamp (by omega)]
  obtain ⟨a0, a98, a100, a115⟩ := ha
  unfold dyA at h0 h1
  refine rnX12_act hG hk 305 _ ?_
  refine sgX12_act hG [149] 60 0 ?_
  refine And.intro (by rw [i1]; exact vp_in_nI (by omega) (by omega)) ?_
  refine And.intro (by rw [i2]; exact vp_in_nI (by omega) (by omega)) ?_
  refine And.intro (by exact vp_in_nI (by omega) (by omega)) ?_
  rw [c0, c1, c2, a0]
  refine And.intro (fun c => ?_) (fun c => ?_)
  · rw [if_pos c] at h0 h1
    obtain ⟨e1, e2⟩ := a98 c
    rw [e1, e2]
    refine m_refusesBecome hG (by decide) hm h6 _ _ ?_
    rcases sBecN_s hv (T (p + 1) - 48) (sgn (T (p + 2)) ((T (p + 3) - 48) * 10 + T (p + 4) - 48)) with ⟨q1, q2⟩ | ⟨q1, q2, m, q3, q4, q5⟩
    · refine And.intro (fun d => absurd d (Int32.not_le.mpr q1)) (fun _ => ?_)
      exact And.intro (Or.inl rfl) (h0 q2 I J mEx_rfl hm)
    · refine And.intro (fun _ => ?_) (fun d => absurd (by rw [q1]; decide) d)
      have j1 : (1 : Int32) + 3 * (T (p + 1) - 48) + 2 = nI (3 * m + 3) := by rw [q4, show (3 : Int32) = nI 3 from rfl, pk_mul, show (1 : Int32) = nI 1 from rfl, show (2 : Int32) = nI 2 from rfl, nI_add, nI_add]; congr 1; omega
      refine And.intro (by rw [j1]; exact vp_in_nI (by omega) (by omega)) ?_
      refine And.intro (Or.inr rfl) ?_
      rw [j1, nI_clamp (by omega)]
      rw [q5] at h1
      refine h1 q2 _ J (mEx_6 (fun x a _ => z_upI_ne a) mJf_rfl) ⟨by rw [uI_k (by omega)]; exact hm.1, by rw [uI_k (by omega)]; exact hm.2.1, fun j hj => ?_, fun i hi j hj => by rw [uI_k (by omega)]; exact hm.2.2.2 i hi j hj⟩
      have hj : j < 3 * π.1 := hj
      show z_upI I 306 (3 * m + 3) _ 306 (0 + 1 + j) = upd π.2.1 (3 * m + 2) _ j
      by_cases x : j = 3 * m + 2
      · rw [x, pk_us, show 0 + 1 + (3 * m + 2) = 3 * m + 3 by omega, uI_s]
      · rw [pk_un x, uI_k (by omega)]; exact hm.2.2.1 j hj
  rw [if_neg c] at h0 h1
  refine And.intro (fun c => ?_) (fun c => ?_)
  · rw [if_pos c] at h0 h1
    rw [a100 c]
    refine m_isTold hG (by decide) hm.1 h6 _ ?_
    unfold sDrp at h0 h1
    refine And.intro (fun d => ?_) (fun d => ?_)
    · have t := z_nb1 (x := 0) d
      rw [if_pos t] at h1
      obtain ⟨m, hm', em⟩ := bTl_in t hv.1.1
      rw [em, nI_clamp (by omega)] at h1
      rw [em]
      refine m_drop hG (by decide) hm h6 h8 m hm' (fun I1 f1 p1 => ?_)
      exact And.intro (Or.inr rfl) (h1 (nI_pos' (by omega)) I1 J (mEx_6 (fun x a _ => f1 x a) mJf_rfl) p1)
    · have t := (zb_eq0 _).mp d
      rw [if_neg (by rw [t]; decide)] at h0
      exact And.intro (Or.inl rfl) (h0 (show ¬ (0 : Int32) ≤ -1 by decide) I J mEx_rfl hm)
  rw [if_neg c] at h0 h1
  refine And.intro (fun c => ?_) (fun c => ?_)
  · rw [if_pos c] at h0 h1
    obtain ⟨e1, e2, e3⟩ := a115 c
    refine And.intro (by rw [i3]; exact vp_in_nI (by omega) (by omega)) ?_
    rw [c3, e1, e2, e3]
    refine m_refusesStore hG (by decide) hm hv _ _ _ (fun I1 J1 f1 t1 => ?_)
    rcases rfS_s hv (T (p + 1) - 48) (T (p + 2) - 48) (T (p + 3) - 48) with ⟨q1, q2⟩ | ⟨q1, q2, q3, q4⟩
    · refine And.intro (fun d => absurd d (Int32.not_le.mpr q1)) (fun _ => ?_)
      rw [q2] at h0
      exact And.intro (Or.inl rfl) (h0 (Int32.not_le.mpr q1) I1 J1 (mLy_Ex f1) (mLy_pl f1 hm))
    · refine And.intro (fun _ => ?_) (fun d => absurd (by rw [q1]; decide) d)
      rw [q4] at h1
      have e4 : I1 317 (4 * n + 3) = T (p + 3) - 48 := by rw [f1.1 317 (by decide) (by decide)]; exact e3
      refine And.intro (by rw [i3]; exact vp_in_nI (by omega) (by omega)) ?_
      rw [c3, e4]
      refine m_store hG (by decide) (mLy_pl f1 hm) hv q3 q2 (t1 q2) (fun I2 J2 f2 g2 p2 => ?_)
      exact And.intro (Or.inr rfl) (h1 (nI_pos' (by omega)) I2 J2 (mEx_tr (mLy_Ex f1) (mEx_6 g2 f2)) p2)
  rw [if_neg c] at h0 h1
  refine And.intro (by unfold vp_in; decide) ?_
  have loop : ∀ (r i : Nat) (v x2 x3 : Int32) (I' : Nat → Nat → Int32), v = nI i → i + r = 120 → (∀ x, x ≠ 306 → I' x = I x) → I' 306 19 = 0 → (∀ j, j < 19 → I' 306 j = I 306 j) → aX12_act G Q 149 [some (.ref 305), some (.int (nI (4 * n))), some (.int x2), some (.int x3), some (.int v)] [] (zK0, I', J, zR0 past) := by
    intro r
    induction r with
    | zero =>
      intro i v x2 x3 I' ev hi g1 g2 g3
      subst ev
      have e : i = 120 := by omega
      subst e
      refine sgX12_act hG [149] 60 149 ?_
      refine And.intro (fun _ => ?_) (fun d => absurd (by decide) d)
      refine And.intro (Or.inr rfl) (h1 (sClr_pos hv) I' J (mEx_6 (fun x a _ => g1 x a) mJf_rfl) ⟨by rw [g3 0 (by omega)]; exact hm.1, g2, fun j hj => ?_, fun i hi => absurd hi (Nat.not_lt_zero i)⟩)
      have hj : j < 3 * π.1 := hj
      rw [g3 _ (by omega)]; exact hm.2.2.1 j hj
    | succ r ih =>
      intro i v x2 x3 I' ev hi g1 g2 g3
      subst ev
      have ei : (20 : Int32) + nI i = nI (20 + i) := by rw [show (20 : Int32) = nI 20 from rfl, nI_add]
      have ec : ((20 : Int32) + nI i).toNatClampNeg = 20 + i := by rw [ei, nI_clamp (by omega)]
      refine sgX12_act hG [149] 60 149 ?_
      refine And.intro (fun d => absurd d (by rw [show (120 : Int32) = nI 120 from rfl, nI_leI (by omega) (by omega)]; omega)) (fun _ => ?_)
      refine And.intro (by rw [ei]; exact vp_in_nI (by omega) (by omega)) ?_
      rw [ec]
      exact ih (i + 1) _ _ _ _ (by rw [nI_1]) (by omega) (fun x hx => by rw [z_upI_ne hx]; exact g1 x hx) (by rw [uI_k (by omega)]; exact g2) (fun j hj => by rw [uI_k (by omega)]; exact g3 j hj)
  exact loop 120 0 0 _ _ _ rfl (by omega) (fun x hx => z_upI_ne hx) uI_s (fun j hj => uI_k (by show j ≠ 19; omega))
