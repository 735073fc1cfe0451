-- ===== the model: REGION 0 =====
/-- what laying slices touches -/
def mLy (I : Nat → Nat → Int32) (J : Nat → Nat → Int64) (I' : Nat → Nat → Int32) (J' : Nat → Nat → Int64) : Prop := (∀ x, x ≠ 305 → x ≠ 312 → I' x = I x) ∧ (∀ j, j ≠ 22 → I' 305 j = I 305 j) ∧ (∀ x, x ≠ 305 → x ≠ 313 → x ≠ 314 → J' x = J x) ∧ ∀ j, j < 6 ∨ (8 ≤ j ∧ j < 18) ∨ 27 ≤ j → J' 305 j = J 305 j
theorem mLy_rfl {I : Nat → Nat → Int32} {J : Nat → Nat → Int64} : mLy I J I J := ⟨fun _ _ _ => rfl, fun _ _ => rfl, fun _ _ _ _ => rfl, fun _ _ => rfl⟩
theorem mLy_tr {I I1 I2 : Nat → Nat → Int32} {J J1 J2 : Nat → Nat → Int64} (h1 : mLy I J I1 J1) (h2 : mLy I1 J1 I2 J2) : mLy I J I2 J2 := ⟨fun x a b => (h2.1 x a b).trans (h1.1 x a b), fun j a => (h2.2.1 j a).trans (h1.2.1 j a), fun x a b c => (h2.2.2.1 x a b c).trans (h1.2.2.1 x a b c), fun j a => (h2.2.2.2 j a).trans (h1.2.2.2 j a)⟩
theorem mJf_Ly {I : Nat → Nat → Int32} {J J1 : Nat → Nat → Int64} (h : mJf J J1) : mLy I J I J1 := ⟨fun _ _ _ => rfl, fun _ _ => rfl, fun x a _ _ => h.1 x a, fun j a => h.2 j (by omega)⟩
theorem mLy_Q {I I1 : Nat → Nat → Int32} {J J1 : Nat → Nat → Int64} (h : mLy I J I1 J1) : mQ I J I1 J1 := ⟨fun x hx => ⟨by
    by_cases c : x = 305
    · omega
    · exact h.1 x c (by omega), h.2.2.1 x (by omega) (by omega) (by omega)⟩, h.2.1 2 (by decide), h.2.1 13 (by decide)⟩
theorem mLy_pl {I I1 : Nat → Nat → Int32} {J J1 : Nat → Nat → Int64} {π : zPl} (h : mLy I J I1 J1) (hm : mPl I 306 0 π) : mPl I1 306 0 π := mPl_fr hm (h.1 306 (by decide) (by decide))
theorem mSl_fr {I I1 : Nat → Nat → Int32} {J J1 : Nat → Nat → Int64} {s : Nat} {st : zSl} (h : mSl I J s st) (h1 : I1 312 s = I 312 s) (h2 : J1 313 (2 * s) = J 313 (2 * s) ∧ J1 314 (2 * s) = J 314 (2 * s)) (h3 : J1 313 (2 * s + 1) = J 313 (2 * s + 1) ∧ J1 314 (2 * s + 1) = J 314 (2 * s + 1)) : mSl I1 J1 s st := ⟨by rw [h1]; exact h.1, fun c => by
    obtain ⟨⟨a, b⟩, d, e⟩ := h.2 c
    exact ⟨⟨by rw [h2.1]; exact a, by rw [h3.1]; exact b⟩, by rw [h2.2]; exact d, by rw [h3.2]; exact e⟩⟩
/-- a slice is kept behind those that are there -/
theorem mTb_push {I I1 : Nat → Nat → Int32} {J J1 : Nat → Nat → Int64} {T : Nat → Nat → Nat → zSl} {r w k : Nat} (hw : w < 2) (hk : k < 7) (h : mTb I J T (14 * r + 7 * w + k)) (h1 : ∀ j, j ≠ 14 * r + 7 * w + k → I1 312 j = I 312 j) (h2 : ∀ j, j ≠ 2 * (14 * r + 7 * w + k) → j ≠ 2 * (14 * r + 7 * w + k) + 1 → J1 313 j = J 313 j ∧ J1 314 j = J 314 j) (h3 : mSl I1 J1 (14 * r + 7 * w + k) (T r w k)) : mTb I1 J1 T (14 * r + 7 * w + (k + 1)) := by
  intro r' w' k' a b c
  by_cases e : 14 * r' + 7 * w' + k' = 14 * r + 7 * w + k
  · have e1 : r' = r := by omega
    have e2 : w' = w := by omega
    have e3 : k' = k := by omega
    subst e1
    subst e2
    subst e3
    exact h3
  · exact mSl_fr (h r' w' k' a b (by omega)) (h1 _ e) (h2 _ (by omega) (by omega)) (h2 _ (by omega) (by omega))
theorem mTb_fr {I I1 : Nat → Nat → Int32} {J J1 : Nat → Nat → Int64} {T : Nat → Nat → Nat → zSl} {n : Nat} (h : mTb I J T n) (h1 : I1 312 = I 312) (h2 : J1 313 = J 313) (h3 : J1 314 = J 314) : mTb I1 J1 T n := fun r w k a b c => mSl_fr (h r w k a b c) (by rw [h1]) ⟨by rw [h2], by rw [h3]⟩ ⟨by rw [h2], by rw [h3]⟩
theorem m_layFirst {G : zG} (hG : zGok G) {k' : Nat} (hk : 5 ≤ k') {I : Nat → Nat → Int32} {J : Nat → Nat → Int64} {past : Nat → Nat} {Q : zRt} {π : zPl} (hm : mPl I 306 0 π) (hv : vPl π) (T : Nat → Nat → Nat → zSl) (hT : ∀ w k, T 0 w k = sT0 π w k) (h : ∀ I' J', mLy I J I' J' → mTb I' J' T 14 → Q none (zK0, I', J', zR0 past)) : zCalls G k' yX12_layFirst [.ref 305] (zK0, I, J, zR0 past) Q := by
  have h6 := hv.1.1
  have outer : ∀ (rw w : Nat) (vw : Int32) (o2 o3 o4 : Option Value) (I' : Nat → Nat → Int32) (J' : Nat → Nat → Int64), (o2 = none ∨ ∃ z, o2 = some (.int z)) → (o3 = none ∨ ∃ z, o3 = some (.int z)) → (o4 = none ∨ ∃ z, o4 = some (.int z)) → vw = nI w → w + rw = 2 → mLy I J I' J' → mTb I' J' T (7 * w) → aX12_layFirst G Q 2 [some (.ref 305), some (.int vw), o2, o3, o4] [] (zK0, I', J', zR0 past) := by
    intro rw
    induction rw with
    | zero =>
      intro w vw o2 o3 o4 I' J' _ _ _ ev hw hf ht
      subst ev
      have e : w = 2 := by omega
      subst e
      refine sgX12_layFirst hG [2, 9, 30] 60 2 ?_
      refine And.intro (fun _ => ?_) (fun c => absurd (by decide) c)
      exact h I' J' hf ht
    | succ rw ihw =>
      have inner : ∀ (rk k w : Nat) (vw vk : Int32) (o3 o4 : Option Value) (I' : Nat → Nat → Int32) (J' : Nat → Nat → Int64), (o3 = none ∨ ∃ z, o3 = some (.int z)) → (o4 = none ∨ ∃ z, o4 = some (.int z)) → vw = nI w → vk = nI k → w + (rw + 1) = 2 → k + rk = 7 → mLy I J I' J' → mTb I' J' T (14 * 0 + 7 * w + k) → aX12_layFirst G Q 9 [some (.ref 305), some (.int vw), some (.int vk), o3, o4] [] (zK0, I', J', zR0 past) := by
        intro rk
        induction rk with
        | zero =>
          intro k w vw vk o3 o4 I' J' p3 p4 ew ek hw hk hf ht
          subst ek
          have e : k = 7 := by omega
          subst e
          refine sgX12_layFirst hG [2, 9, 30] 60 9 ?_
          refine And.intro (fun _ => ?_) (fun c => absurd (by decide) c)
          exact ihw (w + 1) _ _ _ _ I' J' (Or.inr ⟨_, rfl⟩) p3 p4 (by rw [ew, nI_1]) (by omega) hf (by rw [show 7 * (w + 1) = 14 * 0 + 7 * w + 7 by omega]; exact ht)
        | succ rk ihk =>
          intro k w vw vk o3 o4 I' J' p3 p4 ew ek hw hk hf ht
          have loop : ∀ (r i : Nat) (v t : Int32) (J2 : Nat → Nat → Int64), v = nI i → t = zb (nwF π w k i).1 → i + r = π.1 + 4 → mJf J' J2 → mStr J2 (nwF π w k i).2.1 (nwF π w k i).2.2 → aX12_layFirst G Q 30 [some (.ref 305), some (.int vw), some (.int vk), some (.int t), some (.int v)] [] (zK0, I', J2, zR0 past) := by
            intro r
            induction r with
            | zero =>
              intro i v t J2 ev et hi f2 s2
              subst ev
              subst et
              have ei : i = π.1 + 4 := by omega
              subst ei
              have m2 : mPl I' 306 0 π := mLy_pl hf hm
              have iv := inv0_B (inv0_F hv.1 (w := w) (k := k) (by omega) (by omega) (π.1 + 4) (Nat.le_refl _))
              have fin : ∀ (B : Int32), B = zb (sT0 π w k).1 → zCalls G 4 yX12_keepSlice [.ref 305, .int (nI (14 * 0 + 7 * w + k)), .int B] (zK0, I', J2, zR0 past) (fun v σ' => match v with | none => aX12_layFirst G Q 9 [some (.ref 305), some (.int vw), some (.int (vk + 1)), some (.int (zb (nwF π w k (π.1 + 4)).1)), some (.int (nI (π.1 + 4)))] [] σ' | some _ => False) := by
                intro B eB
                refine m_keepSlice hG (by decide) s2 (by omega) (sT0 π w k).1 rfl eB (fun I3 J3 f3 g3 k3 l3 c3 => ?_)
                refine ihk (k + 1) w vw _ _ _ I3 J3 (Or.inr ⟨_, rfl⟩) (Or.inr ⟨_, rfl⟩) ew (by rw [ek, nI_1]) hw (by omega) ?_ ?_
                · refine mLy_tr hf ⟨fun x a b => f3 x b, fun j _ => by rw [f3 305 (by decide)], fun x a b c => by rw [k3 x b c]; exact f2.1 x a, fun j a => by rw [k3 305 (by decide) (by decide)]; exact f2.2 j (by omega)⟩
                · refine mTb_push (by omega) (by omega) ht g3 (fun j a b => ?_) ?_
                  · rw [← f2.1 313 (by decide), ← f2.1 314 (by decide)]; exact l3 j a b
                  · rw [hT]; exact c3
              refine sgX12_layFirst hG [2, 9, 30] 60 30 ?_
              refine m_lines2 hG (by decide) m2 ?_
              refine And.intro (fun _ => ?_) (fun q => absurd (by rw [nI_leI (by omega) (by omega)]; omega) q)
              refine m_sliceAt hG (by decide) 0 w k rfl ew ek ?_
              refine And.intro (fun c => ?_) (fun c => ?_)
              · have c := (zb_eq0 _).mp c
                exact fin 0 (by unfold sT0 clo; rw [c]; rfl)
              · have c := z_nb1 (x := 0) c
                refine m_isEmpty hG (by decide) s2 iv.1 iv.2 ?_
                refine And.intro (fun d => ?_) (fun d => ?_)
                · have d := z_nb1 (x := 0) d
                  exact fin 0 (by unfold sT0 clo; rw [c, d]; rfl)
                · have d := (zb_eq0 _).mp d
                  exact fin 1 (by unfold sT0 clo; rw [c, d]; rfl)
            | succ r ih =>
              intro i v t J2 ev et hi f2 s2
              subst ev
              subst et
              have m2 : mPl I' 306 0 π := mLy_pl hf hm
              have iv := inv0_B (inv0_F hv.1 (w := w) (k := k) (by omega) (by omega) i (by omega))
              have b1 := pR_w hv.1 (k := i) (w := 1 - w) (by omega) (by omega)
              have b2 := zRs_bd hv.1 (i := i) (w := w) (k := k) (by omega) (by omega) (by omega)
              refine sgX12_layFirst hG [2, 9, 30] 60 30 ?_
              refine m_lines2 hG (by decide) m2 ?_
              refine And.intro (fun q => absurd q (by rw [nI_leI (by omega) (by omega)]; omega)) (fun _ => ?_)
              refine z_arg (args' := [.ref 305, .int (nI i), .int (nI (1 - w))]) (by rw [ew, show (1 : Int32) = nI 1 from rfl, pk_sub (by omega)]) ?_
              refine m_of hG (by decide) m2 h6 i (1 - w) (by omega) (by omega) ?_
              refine m_of hG (by decide) m2 h6 i 2 (by omega) (by omega) ?_
              refine z_arg (args' := [.ref 305, .int (nI i), .int (nI w)]) (by rw [ew]) ?_
              refine m_of hG (by decide) m2 h6 i w (by omega) (by omega) ?_
              refine m_narrow hG (by decide) s2 (t64 _) (by rw [ek]; exact zRs_I hv.1 (by omega) (by omega) (by omega)) iv.1 iv.2 ⟨by show (zRs π w k i).natAbs ≤ _; omega, by show (pR π i (1 - w)).toInt.natAbs ≤ _; omega⟩ (fun J3 f3 s3 => ?_)
              have en : (nwF π w k (i + 1)).1 = ((nwF π w k i).1 && decide ((pR π i (1 - w)).toInt ≠ 0 ∨ 0 ≤ zRs π w k i)) := rfl
              refine And.intro (fun c => ?_) (fun c => ?_)
              · have c := (zb_eq0 _).mp c
                rw [c, Bool.and_false] at en
                exact ih (i + 1) _ _ J3 (by rw [nI_1]) (by rw [en]; rfl) (by omega) (mJf_tr f2 f3) s3
              · have c := z_nb1 (x := 0) c
                rw [c, Bool.and_true] at en
                refine And.intro (fun d => ?_) (fun d => ?_)
                · have d := (zb_eq0 _).mp d
                  exact ih (i + 1) _ _ J3 (by rw [nI_1]) (by rw [en, d]; rfl) (by omega) (mJf_tr f2 f3) s3
                · have d := z_nb1 (x := 0) d
                  exact ih (i + 1) _ _ J3 (by rw [nI_1]) (by rw [en, d]; rfl) (by omega) (mJf_tr f2 f3) s3
          refine sgX12_layFirst hG [2, 9, 30] 60 9 ?_
          refine And.intro (fun c => absurd c (by rw [ek, show (7 : Int32) = nI 7 from rfl, nI_leI (by omega) (by omega)]; omega)) (fun _ => ?_)
          refine m_wide hG (by decide) (lo := (0, 1)) (hi := (6, 1)) rfl rfl rfl rfl (fun J2 f2 s2 => ?_)
          rcases p3 with rfl | ⟨z3, rfl⟩ <;> rcases p4 with rfl | ⟨z4, rfl⟩
          all_goals exact loop (π.1 + 4) 0 0 1 J2 rfl rfl (by omega) f2 s2
      intro w vw o2 o3 o4 I' J' p2 p3 p4 ev hw hf ht
      subst ev
      refine sgX12_layFirst hG [2, 9, 30] 60 2 ?_
      refine And.intro (fun c => absurd c (by rw [show (2 : Int32) = nI 2 from rfl, nI_leI (by omega) (by omega)]; omega)) (fun _ => ?_)
      rcases p2 with rfl | ⟨z, rfl⟩
      all_goals exact inner 7 0 w (nI w) 0 o3 o4 I' J' p3 p4 rfl rfl hw (by omega) hf (by rw [show 14 * 0 + 7 * w + 0 = 7 * w by omega]; exact ht)
  refine rnX12_layFirst hG hk 305 ?_
  refine sgX12_layFirst hG [2, 9, 30] 60 0 ?_
  exact outer 2 0 0 none none none I J (Or.inl rfl) (Or.inl rfl) (Or.inl rfl) rfl (by omega) mLy_rfl (fun r w k _ _ c => absurd c (by omega))
