-- ===== the model: layNext(), lay() =====
theorem mStr_any (J : Nat → Nat → Int64) : mStr J ((J 305 18).toInt, (J 305 19).toInt) ((J 305 20).toInt, (J 305 21).toInt) := ⟨⟨l_of _, l_of _⟩, l_of _, l_of _⟩
theorem ntB_m {a f : zFr} (hf : isR f) : ntB a f = if fLt a f then f else a := by unfold ntB; rw [fRed_id hf]
theorem ntA_m {a f : zFr} (hf : isR f) : ntA a f = if fLt f a then f else a := by unfold ntA; rw [fRed_id hf]
theorem m_layNext {G : zG} (hG : zGok G) {k' : Nat} (hk : 6 ≤ k') {I : Nat → Nat → Int32} {J : Nat → Nat → Int64} {past : Nat → Nat} {Q : zRt} {π : zPl} (hv : vPl π) {r : Nat} (hr : r < 2) (ht0 : mTb I J (sTb π) (14 * (r + 1))) {R : Int32} (eR : R = nI r) (h : ∀ I' J', mLy I J I' J' → mTb I' J' (sTb π) (14 * (r + 2)) → Q none (zK0, I', J', zR0 past)) : zCalls G k' yX12_layNext [.ref 305, .int R] (zK0, I, J, zR0 past) Q := by
  subst eR
  have hW := sTb_300 hv.1 hr
  have outer : ∀ (rw w : Nat) (vw : Int32) (o3 o4 o5 o6 o7 : Option Value) (I' : Nat → Nat → Int32) (J' : Nat → Nat → Int64), (∃ z, o3 = none ∨ o3 = some (.int z)) → (∃ z, o4 = none ∨ o4 = some (.int z)) → (∃ z, o5 = none ∨ o5 = some (.int z)) → (∃ z, o6 = none ∨ o6 = some (.int z)) → vw = nI w → w + rw = 2 → mLy I J I' J' → mTb I' J' (sTb π) (14 * (r + 1) + 7 * w) → aX12_layNext G Q 2 [some (.ref 305), some (.int (nI r)), some (.int vw), o3, o4, o5, o6, o7] [] (zK0, I', J', zR0 past) := by
    intro rw
    induction rw with
    | zero =>
      intro w vw o3 o4 o5 o6 o7 I' J' _ _ _ _ ev hw hf ht
      subst ev
      have e : w = 2 := by omega
      subst e
      refine sgX12_layNext hG [2, 9] 60 2 ?_
      refine And.intro (fun _ => ?_) (fun c => absurd (by decide) c)
      exact h I' J' hf (by rw [show 14 * (r + 2) = 14 * (r + 1) + 7 * 2 by omega]; exact ht)
    | succ rw ihw =>
      have inner : ∀ (rk k w : Nat) (vw vk : Int32) (o4 o5 o6 o7 : Option Value) (I' : Nat → Nat → Int32) (J' : Nat → Nat → Int64), (∃ z, o4 = none ∨ o4 = some (.int z)) → (∃ z, o5 = none ∨ o5 = some (.int z)) → (∃ z, o6 = none ∨ o6 = some (.int z)) → vw = nI w → vk = nI k → w + (rw + 1) = 2 → k + rk = 7 → mLy I J I' J' → mTb I' J' (sTb π) (14 * (r + 1) + 7 * w + k) → aX12_layNext G Q 9 [some (.ref 305), some (.int (nI r)), some (.int vw), some (.int vk), o4, o5, o6, o7] [] (zK0, I', J', zR0 past) := by
        intro rk
        induction rk with
        | zero =>
          intro k w vw vk o4 o5 o6 o7 I' J' p4 p5 p6 ew ek hw hk hf ht
          subst ek
          have e : k = 7 := by omega
          subst e
          refine sgX12_layNext hG [2, 9] 60 9 ?_
          refine And.intro (fun _ => ?_) (fun c => absurd (by decide) c)
          exact ihw (w + 1) _ _ _ _ _ _ I' J' ⟨_, Or.inr rfl⟩ p4 p5 p6 (by rw [ew, nI_1]) (by omega) hf (by rw [show 14 * (r + 1) + 7 * (w + 1) = 14 * (r + 1) + 7 * w + 7 by omega]; exact ht)
        | succ rk ihk =>
          intro k w vw vk o4 o5 o6 o7 I' J' p4 p5 p6 ew ek hw hk hf ht
          subst ew
          subst ek
          have e1w : (1 : Int32) - nI w = nI (1 - w) := by rw [show (1 : Int32) = nI 1 from rfl, pk_sub (by omega)]
          have er1 : nI r + 1 = nI (r + 1) := nI_1 r
          have vK : (nI k).toInt64 = Int64.ofInt k := by rw [nI_I]; exact iI_l (by omega)
          have vw0 : vp_in (nI (14 * r + 7 * w + k)) 42 := by exact vp_in_nI (by omega) (by omega)
          have nw0 : (nI (14 * r + 7 * w + k)).toNatClampNeg = 14 * r + 7 * w + k := nI_clamp (by omega)
          have ix : ∀ s, s < 42 → (vp_in (nI s) 42 ∧ (nI s).toNatClampNeg = s) ∧ (vp_in ((2 : Int32) * nI s) 84 ∧ ((2 : Int32) * nI s).toNatClampNeg = 2 * s) ∧ vp_in ((2 : Int32) * nI s + 1) 84 ∧ ((2 : Int32) * nI s + 1).toNatClampNeg = 2 * s + 1 := by
            intro s hs
            have i1 : (2 : Int32) * nI s = nI (2 * s) := by rw [show (2 : Int32) = nI 2 from rfl, pk_mul]
            have i2 : (2 : Int32) * nI s + 1 = nI (2 * s + 1) := by rw [i1, nI_1]
            exact ⟨⟨by exact vp_in_nI (by omega) (by omega), nI_clamp (by omega)⟩, ⟨by rw [i1]; exact vp_in_nI (by omega) (by omega), by rw [i1, nI_clamp (by omega)]⟩, by rw [i2]; exact vp_in_nI (by omega) (by omega), by rw [i2, nI_clamp (by omega)]⟩
          -- from 317 on
          have z317 : ∀ (o5 o6 o7 : Option Value) (I2 : Nat → Nat → Int32) (J2 : Nat → Nat → Int64) (b : Bool) (lo hi : zFr), (∃ z, o5 = none ∨ o5 = some (.int z)) → (∃ z, o6 = none ∨ o6 = some (.int z)) → mLy I' J' I2 J2 → mTb I2 J2 (sTb π) (14 * (r + 1) + 7 * w + k) → I2 305 22 = zb b → mStr J2 lo hi → (b = true → fB lo ∧ fB hi ∧ clo (true, lo, hi) = sTb π (r + 1) w k) → (b = false → (sTb π (r + 1) w k).1 = false) → aX12_layNext G Q 317 [some (.ref 305), some (.int (nI r)), some (.int (nI w)), some (.int (nI k)), some (.int (nI (14 * r + 7 * w + k))), o5, o6, o7] [] (zK0, I2, J2, zR0 past) := by
            intro o5 o6 o7 I2 J2 b lo hi p5 p6 f2 t2 e22 s2 hb1 hb0
            have fin : ∀ B : Int32, B = zb (sTb π (r + 1) w k).1 → ((sTb π (r + 1) w k).1 = true → sTb π (r + 1) w k = (true, lo, hi)) → zCalls G 5 yX12_keepSlice [.ref 305, .int (nI (14 * (r + 1) + 7 * w + k)), .int B] (zK0, I2, J2, zR0 past) (fun v σ' => match v with | none => aX12_layNext G Q 9 [some (.ref 305), some (.int (nI r)), some (.int (nI w)), some (.int (nI k + 1)), some (.int (nI (14 * r + 7 * w + k))), o5, o6, o7] [] σ' | some _ => False) := by
              intro B eB hst
              refine m_keepSlice hG (by decide) s2 (by omega) (sTb π (r + 1) w k).1 rfl eB (fun I3 J3 f3 g3 k3 l3 c3 => ?_)
              refine ihk (k + 1) w _ _ _ _ _ _ I3 J3 ⟨_, Or.inr rfl⟩ p5 p6 rfl (by rw [nI_1]) hw (by omega) ?_ ?_
              · refine mLy_tr (mLy_tr hf f2) ⟨fun x a b => f3 x b, fun j _ => by rw [f3 305 (by decide)], fun x a b c => k3 x b c, fun j a => by rw [k3 305 (by decide) (by decide)]⟩
              · refine mTb_push (by omega) (by omega) t2 g3 l3 ?_
                cases ez : (sTb π (r + 1) w k).1 with
                | false =>
                  rw [ez] at c3
                  exact ⟨by rw [ez]; exact c3.1, fun z => by rw [ez] at z; exact absurd z (by decide)⟩
                | true =>
                  rw [ez] at c3
                  rw [hst ez]
                  exact c3
            refine sgX12_layNext hG [9] 60 317 ?_
            refine m_sliceAt hG (by decide) (r + 1) w k er1 rfl rfl ?_
            refine And.intro (fun c => ?_) (fun c => ?_)
            · rw [e22] at c
              have c := (zb_eq0 _).mp c
              exact fin 0 (by rw [hb0 c]; rfl) (fun z => by rw [hb0 c] at z; exact absurd z (by decide))
            · rw [e22] at c
              have c := z_nb1 (x := 0) c
              obtain ⟨b1, b2, b3⟩ := hb1 c
              refine m_isEmpty hG (by decide) s2 b1 b2 ?_
              have b4 : (sTb π (r + 1) w k).1 = !fLt hi lo := by rw [← b3]; unfold clo; exact Bool.true_and _
              have b5 : (sTb π (r + 1) w k).2 = (lo, hi) := by rw [← b3]; rfl
              refine And.intro (fun d => ?_) (fun d => ?_)
              · have d := z_nb1 (x := 0) d
                rw [d] at b4
                exact fin 0 (by rw [b4]; rfl) (fun z => by rw [b4] at z; exact absurd z (by decide))
              · have d := (zb_eq0 _).mp d
                rw [d] at b4
                exact fin 1 (by rw [b4]; rfl) (fun z => Prod.ext z b5)
          -- from 242 on
          have z242 : ∀ (o5 o6 o7 : Option Value) (I2 : Nat → Nat → Int32) (J2 : Nat → Nat → Int64) (acc : zSl), (∃ z, o5 = none ∨ o5 = some (.int z)) → (∃ z, o6 = none ∨ o6 = some (.int z)) → mLy I' J' I2 J2 → mTb I2 J2 (sTb π) (14 * (r + 1) + 7 * w + k) → mAcc I2 J2 acc → accW 1080000 acc → (acc.1 = true → (sTb π r w k).1 = true ∧ sTb π (r + 1) w k = nxM (sTb π r w k) acc) → (acc.1 = false → (sTb π (r + 1) w k).1 = false) → aX12_layNext G Q 242 [some (.ref 305), some (.int (nI r)), some (.int (nI w)), some (.int (nI k)), some (.int (nI (14 * r + 7 * w + k))), o5, o6, o7] [] (zK0, I2, J2, zR0 past) := by
            intro o5 o6 o7 I2 J2 acc p5 p6 f2 t2 a2 wA h1 h0
            refine sgX12_layNext hG [317] 60 242 ?_
            refine And.intro (fun c => ?_) (fun c => ?_)
            · rw [a2.1] at c
              have c := (zb_eq0 _).mp c
              exact z317 o5 o6 o7 I2 J2 false _ _ p5 p6 f2 t2 (by rw [a2.1, c]) (mStr_any J2) (fun z => absurd z (by decide)) (fun _ => h0 c)
            · rw [a2.1] at c
              have c := z_nb1 (x := 0) c
              obtain ⟨o1, en⟩ := h1 c
              obtain ⟨⟨a3, a4⟩, a5, a6⟩ := a2.2 c
              obtain ⟨b1, b2⟩ := accW_B wA c
              obtain ⟨⟨w1, w2⟩, _⟩ := hW w k (by omega) (by omega) o1
              have so := t2 r w k (by omega) (by omega) (by omega)
              obtain ⟨⟨s3, s4⟩, s5, s6⟩ := so.2 o1
              obtain ⟨_, ⟨x1, x2⟩, x3, x4⟩ := ix (14 * r + 7 * w + k) (by omega)
              have bo1 := fW_Bb (by decide) w1
              have bo2 := fW_Bb (by decide) w2
              refine m_wide hG (by decide) (lo := acc.2.1) (hi := acc.2.2) a3 a4 a5 a6 (fun J3 f3 q3 => ?_)
              refine And.intro x1 ?_
              refine And.intro x3 ?_
              refine m_notBelow hG (by decide) q3 (f := (sTb π r w k).2.1) (by rw [x2, f3.1 313 (by decide)]; exact s3) (by rw [x4, f3.1 313 (by decide)]; exact s4) b1 bo1 (by have := w1.1.1; omega) (fun J4 f4 q4 => ?_)
              refine And.intro x1 ?_
              refine And.intro x3 ?_
              refine m_notAbove hG (by decide) q4 (f := (sTb π r w k).2.2) (by rw [x2, f4.1 314 (by decide), f3.1 314 (by decide)]; exact s5) (by rw [x4, f4.1 314 (by decide), f3.1 314 (by decide)]; exact s6) b2 bo2 (by have := w2.1.1; omega) (fun J5 f5 q5 => ?_)
              rw [ntB_m w1.1, ntA_m w2.1] at q5
              have fj := mJf_tr (mJf_tr f3 f4) f5
              refine z317 o5 o6 o7 I2 J5 true _ _ p5 p6 (mLy_tr f2 (mJf_Ly fj)) (mTb_fr t2 rfl (fj.1 313 (by decide)) (fj.1 314 (by decide))) (by rw [a2.1, c]) q5 (fun _ => ⟨?_, ?_, ?_⟩) (fun z => absurd z (by decide))
              · split <;> assumption
              · split <;> assumption
              · rw [en]; unfold nxM; rw [c]
          -- the innermost loop
          have loop : ∀ (q j : Nat) (v : Int32) (o6 o7 : Option Value) (I2 : Nat → Nat → Int32) (J2 : Nat → Nat → Int64), (∃ z, o6 = none ∨ o6 = some (.int z)) → (sTb π r w k).1 = true → v = nI j → j + q = 7 → mLy I' J' I2 J2 → mTb I2 J2 (sTb π) (14 * (r + 1) + 7 * w + k) → mAcc I2 J2 (nxA (sTb π r (1 - w)) k j) → aX12_layNext G Q 31 [some (.ref 305), some (.int (nI r)), some (.int (nI w)), some (.int (nI k)), some (.int (nI (14 * r + 7 * w + k))), some (.int v), o6, o7] [] (zK0, I2, J2, zR0 past) := by
            intro q
            induction q with
            | zero =>
              intro j v o6 o7 I2 J2 p6 own ev hj f2 t2 a2
              subst ev
              have ej : j = 7 := by omega
              subst ej
              refine sgX12_layNext hG [242] 60 31 ?_
              refine And.intro (fun _ => ?_) (fun z => absurd (by decide) z)
              refine z242 _ o6 o7 I2 J2 _ ⟨_, Or.inr rfl⟩ p6 f2 t2 a2 (nxA_W (B := 300) (by decide) (by decide) (fun m hm => hW (1 - w) m (by omega) hm) (by omega) 7 (by omega)) (fun _ => ⟨own, ?_⟩) (fun z => ?_)
              · show sNx _ _ _ = _
                unfold sNx
                rw [own]; rfl
              · show (sNx _ _ _).1 = false
                unfold sNx nxM clo
                rw [own, if_pos rfl]
                show ((nxA (fun m => sTb π r (1 - w) m) k 7).1 && _) = false
                have z : (nxA (fun m => sTb π r (1 - w) m) k 7).1 = false := z
                rw [z]; rfl
            | succ q ih =>
              intro j v o6 o7 I2 J2 p6 own ev hj f2 t2 a2
              subst ev
              have wA := nxA_W (B := 300) (C := 1080000) (T := sTb π r (1 - w)) (k := k) (by decide) (by decide) (fun m hm => hW (1 - w) m (by omega) hm) (by omega) j (by omega)
              have so := t2 r w k (by omega) (by omega) (by omega)
              have ss := t2 r (1 - w) j (by omega) (by omega) (by omega)
              have wj := hW (1 - w) j (by omega) (by omega)
              obtain ⟨⟨y1, y2⟩, ⟨x1, x2⟩, x3, x4⟩ := ix (14 * r + 7 * (1 - w) + j) (by omega)
              have vJ : (nI j).toInt64 = Int64.ofInt j := by rw [nI_I]; exact iI_l (by omega)
              have z236 : ∀ (o6 o7 : Option Value) (I3 : Nat → Nat → Int32) (J3 : Nat → Nat → Int64), (∃ z, o6 = none ∨ o6 = some (.int z)) → mLy I' J' I3 J3 → mTb I3 J3 (sTb π) (14 * (r + 1) + 7 * w + k) → mAcc I3 J3 (nxS (sTb π r (1 - w)) j k (nxA (sTb π r (1 - w)) k j)) → aX12_layNext G Q 236 [some (.ref 305), some (.int (nI r)), some (.int (nI w)), some (.int (nI k)), some (.int (nI (14 * r + 7 * w + k))), some (.int (nI j)), o6, o7] [] (zK0, I3, J3, zR0 past) := by
                intro o6 o7 I3 J3 p6 f3 t3 a3
                refine sgX12_layNext hG [31] 60 236 ?_
                exact ih (j + 1) _ o6 o7 I3 J3 p6 own (by rw [nI_1]) (by omega) f3 t3 a3
              refine sgX12_layNext hG [72, 236, 242] 60 31 ?_
              refine And.intro (fun z => absurd z (by rw [show (7 : Int32) = nI 7 from rfl, nI_leI (by omega) (by omega)]; omega)) (fun _ => ?_)
              refine And.intro vw0 ?_
              refine And.intro (fun z => ?_) (fun _ => ?_)
              · exfalso
                have z : I2 312 (nI (14 * r + 7 * w + k)).toNatClampNeg = 0 := z
                rw [nw0, so.1, own] at z
                exact absurd z (by decide)
              refine m_sliceAt hG (by decide) r (1 - w) j rfl e1w rfl ?_
              obtain ⟨z6, p6⟩ := p6
              have body : aX12_layNext G Q 72 [some (.ref 305), some (.int (nI r)), some (.int (nI w)), some (.int (nI k)), some (.int (nI (14 * r + 7 * w + k))), some (.int (nI j)), some (.int (nI (14 * r + 7 * (1 - w) + j))), o7] [] (zK0, I2, J2, zR0 past) ∨ (sTb π r (1 - w) j).1 = false := by
                cases sj : (sTb π r (1 - w) j).1 with
                | false => exact Or.inr rfl
                | true =>
                  left
                  obtain ⟨⟨s3, s4⟩, s5, s6⟩ := ss.2 sj
                  obtain ⟨⟨w1, w2⟩, _⟩ := wj sj
                  have bo1 := fW_Bb (by decide) w1
                  have bo2 := fW_Bb (by decide) w2
                  have z146 : ∀ (I3 : Nat → Nat → Int32) (J3 : Nat → Nat → Int64) (a1 : zSl), mLy I' J' I3 J3 → mTb I3 J3 (sTb π) (14 * (r + 1) + 7 * w + k) → a1 = nx1 (sTb π r (1 - w) j) j k (nxA (sTb π r (1 - w)) k j) → accW 1080000 a1 → mAcc I3 J3 a1 → aX12_layNext G Q 146 [some (.ref 305), some (.int (nI r)), some (.int (nI w)), some (.int (nI k)), some (.int (nI (14 * r + 7 * w + k))), some (.int (nI j)), some (.int (nI (14 * r + 7 * (1 - w) + j))), o7] [] (zK0, I3, J3, zR0 past) := by
                    intro I3 J3 a1 f3 t3 ea wa a3
                    refine sgX12_layNext hG [168, 236] 60 146 ?_
                    refine And.intro (fun z => ?_) (fun z => ?_)
                    · rw [show (6 : Int32) = nI 6 from rfl, nI_eq (by omega) (by omega)] at z
                      refine z236 _ _ I3 J3 ⟨_, Or.inr rfl⟩ f3 t3 ?_
                      unfold nxS
                      rw [sj, if_pos rfl, if_pos (Or.inl z), ← ea]
                      exact a3
                    rw [show (6 : Int32) = nI 6 from rfl, nI_eq (by omega) (by omega)] at z
                    have s1e : nI (14 * r + 7 * (1 - w) + j) + 1 = nI (14 * r + 7 * (1 - w) + (j + 1)) := by rw [nI_1]; rfl
                    obtain ⟨⟨y3, y4⟩, _⟩ := ix (14 * r + 7 * (1 - w) + (j + 1)) (by omega)
                    have sn := t3 r (1 - w) (j + 1) (by omega) (by omega) (by omega)
                    have e312 : I3 312 (nI (14 * r + 7 * (1 - w) + j) + 1).toNatClampNeg = zb (sTb π r (1 - w) (j + 1)).1 := by rw [s1e, y4]; exact sn.1
                    refine And.intro (by rw [s1e]; exact y3) ?_
                    refine And.intro (fun c => ?_) (fun c => ?_)
                    rotate_left
                    · have c : I3 312 (nI (14 * r + 7 * (1 - w) + j) + 1).toNatClampNeg = 0 := c
                      rw [e312] at c
                      have c := (zb_eq0 _).mp c
                      refine z236 _ _ I3 J3 ⟨_, Or.inr rfl⟩ f3 t3 ?_
                      unfold nxS
                      rw [sj, if_pos rfl, if_pos (Or.inr c), ← ea]
                      exact a3
                    have c : ¬ I3 312 (nI (14 * r + 7 * (1 - w) + j) + 1).toNatClampNeg = 0 := c
                    rw [e312] at c
                    have c := z_nb1 (x := 0) c
                    have es : nxS (sTb π r (1 - w)) j k (nxA (sTb π r (1 - w)) k j) = jn a1 (bwB (sTb π r (1 - w) j).2.1 (sTb π r (1 - w) (j + 1)).2.1 (sTb π r (1 - w) j).2.2 (sTb π r (1 - w) (j + 1)).2.2 j k) := by
                      unfold nxS nx2
                      rw [sj, if_pos rfl, if_neg (fun q => by rcases q with q | q; exact z q; rw [c] at q; exact absurd q (by decide)), ← ea]
                    obtain ⟨⟨w3, w4⟩, _⟩ := hW (1 - w) (j + 1) (by omega) (by omega) c
                    have ss3 := t3 r (1 - w) j (by omega) (by omega) (by omega)
                    obtain ⟨⟨l1, l2⟩, u1, u2⟩ := ss3.2 sj
                    obtain ⟨⟨l3, l4⟩, u3, u4⟩ := sn.2 c
                    rw [show 2 * (14 * r + 7 * (1 - w) + (j + 1)) = 2 * (14 * r + 7 * (1 - w) + j) + 2 by omega] at l3 l4 u3 u4
                    have i0 : bwI 1080000 j (true, ((j : Int), 1), ((j : Int) + 1, 1)) := bwI_0 (by decide) (by omega) (by omega)
                    have i1 := bwI_G (B := 300) (C := 1080000) (s := 1) (k := k) (by decide) (Or.inl rfl) w1 w3 (by omega) (by omega) i0
                    have i2 := bwI_G (B := 300) (C := 1080000) (s := -1) (k := k) (by decide) (Or.inr rfl) w2 w4 (by omega) (by omega) i1
                    obtain ⟨b0, b1⟩ := bwI_B (by decide) i0
                    obtain ⟨b2, b3⟩ := bwI_B (by decide) i1
                    obtain ⟨b4, b5⟩ := bwI_B (by decide) i2
                    refine sgX12_layNext hG [224, 236] 60 168 ?_
                    refine m_wide hG (by decide) (lo := ((j : Int), 1)) (hi := ((j : Int) + 1, 1)) vJ rfl (by show (nI j + 1).toInt64 = _; rw [nI_1, nI_I]; exact iI_l (by omega)) rfl (fun J4 f4 q4 => ?_)
                    refine m_between hG (by decide) q4 313 (Or.inl rfl) (s := 14 * r + 7 * (1 - w) + j) (by omega) (by rw [f4.1 313 (by decide)]; exact l1) (by rw [f4.1 313 (by decide)]; exact l2) (by rw [f4.1 313 (by decide)]; exact l3) (by rw [f4.1 313 (by decide)]; exact l4) w1 w3 (m := j) (k := k) (by omega) (by omega) (b := true) rfl rfl rfl rfl true b0 b1 (fun J5 f5 q5 zz ez => ?_)
                    have ez : (bwG 1 (sTb π r (1 - w) j).2.1 (sTb π r (1 - w) (j + 1)).2.1 j k (true, ((j : Int), 1), ((j : Int) + 1, 1))).1 = zz := ez
                    have f45 := mJf_tr f4 f5
                    refine m_between hG (by decide) q5 314 (Or.inr rfl) (s := 14 * r + 7 * (1 - w) + j) (by omega) (by rw [f45.1 314 (by decide)]; exact u1) (by rw [f45.1 314 (by decide)]; exact u2) (by rw [f45.1 314 (by decide)]; exact u3) (by rw [f45.1 314 (by decide)]; exact u4) w2 w4 (m := j) (k := k) (by omega) (by omega) (b := false) rfl rfl rfl rfl zz b2 b3 (fun J6 f6 q6 zy ey => ?_)
                    have f46 := mJf_tr f45 f6
                    rw [← ez] at ey
                    have ey : (bwB (sTb π r (1 - w) j).2.1 (sTb π r (1 - w) (j + 1)).2.1 (sTb π r (1 - w) j).2.2 (sTb π r (1 - w) (j + 1)).2.2 j k).1 = (zz && zy) := by rw [← ez]; exact ey
                    have q6 : mStr J6 (bwB (sTb π r (1 - w) j).2.1 (sTb π r (1 - w) (j + 1)).2.1 (sTb π r (1 - w) j).2.2 (sTb π r (1 - w) (j + 1)).2.2 j k).2.1 (bwB (sTb π r (1 - w) j).2.1 (sTb π r (1 - w) (j + 1)).2.1 (sTb π r (1 - w) j).2.2 (sTb π r (1 - w) (j + 1)).2.2 j k).2.2 := q6
                    have i2 : bwI 1080000 j (bwB (sTb π r (1 - w) j).2.1 (sTb π r (1 - w) (j + 1)).2.1 (sTb π r (1 - w) j).2.2 (sTb π r (1 - w) (j + 1)).2.2 j k) := i2
                    obtain ⟨b4, b5⟩ := bwI_B (by decide) i2
                    generalize bwB (sTb π r (1 - w) j).2.1 (sTb π r (1 - w) (j + 1)).2.1 (sTb π r (1 - w) j).2.2 (sTb π r (1 - w) (j + 1)).2.2 j k = W at *
                    have f6a : mLy I' J' I3 J6 := mLy_tr f3 (mJf_Ly f46)
                    have t6 : mTb I3 J6 (sTb π) (14 * (r + 1) + 7 * w + k) := mTb_fr t3 rfl (f46.1 313 (by decide)) (f46.1 314 (by decide))
                    have dead : W.1 = false → aX12_layNext G Q 224 [some (.ref 305), some (.int (nI r)), some (.int (nI w)), some (.int (nI k)), some (.int (nI (14 * r + 7 * w + k))), some (.int (nI j)), some (.int (nI (14 * r + 7 * (1 - w) + j))), some (.int (zb zz))] [] (zK0, I3, J6, zR0 past) := by
                      intro e
                      refine sgX12_layNext hG [236] 60 224 ?_
                      refine And.intro (fun _ => ?_) (fun z => absurd rfl z)
                      refine z236 _ _ I3 J6 ⟨_, Or.inr rfl⟩ f6a t6 ?_
                      rw [es, jn_dead (Or.inl e)]
                      exact mAcc_J f46 a3
                    refine And.intro (fun d => ?_) (fun d => ?_)
                    · have d := (zb_eq0 _).mp d
                      exact dead (by rw [ey, d, Bool.and_false])
                    have d := z_nb1 (x := 0) d
                    refine And.intro (fun e => ?_) (fun e => ?_)
                    · have e' := (zb_eq0 _).mp e
                      exact dead (by rw [ey, e']; rfl)
                    have e := z_nb1 (x := 0) e
                    refine And.intro (fun z => absurd z (by decide)) (fun _ => ?_)
                    refine m_joins hG (by decide) q6 (mAcc_J f46 a3) b4 b5 (accW_B wa) (fun I7 J7 f7 g7 k7 l7 a7 => ?_)
                    have ly7 : mLy I3 J6 I7 J7 := ⟨fun x a _ => f7 x a, g7, fun x a _ _ => k7 x a, fun j a => l7 j (by omega)⟩
                    refine z236 _ _ I7 J7 ⟨_, Or.inr rfl⟩ (mLy_tr f6a ly7) (mTb_fr t6 (f7 312 (by decide)) (k7 313 (by decide)) (k7 314 (by decide))) ?_
                    rw [es]
                    have eW : W = (true, W.2.1, W.2.2) := Prod.ext (by rw [ey, d, e]; rfl) rfl
                    rw [eW]
                    exact a7
                  refine sgX12_layNext hG [146, 236] 60 72 ?_
                  refine m_wide hG (by decide) (lo := ((j : Int), 1)) (hi := ((j : Int), 1)) vJ rfl vJ rfl (fun J4 f4 q4 => ?_)
                  have f4a : mLy I' J' I2 J4 := mLy_tr f2 (mJf_Ly f4)
                  have t4 : mTb I2 J4 (sTb π) (14 * (r + 1) + 7 * w + k) := mTb_fr t2 rfl (f4.1 313 (by decide)) (f4.1 314 (by decide))
                  have a4 := mAcc_J f4 a2
                  refine And.intro x1 ?_
                  refine And.intro x3 ?_
                  refine m_isLessI hG (by decide) (f := ((k : Int), 1)) (g := (sTb π r (1 - w) j).2.1) vK rfl (by rw [x2, f4.1 313 (by decide)]; exact s3) (by rw [x4, f4.1 313 (by decide)]; exact s4) (fB_k k (by omega)) bo1 ?_
                  refine And.intro (fun c => ?_) (fun c => ?_)
                  · have c := z_nb1 (x := 0) c
                    refine z146 I2 J4 _ f4a t4 ?_ wA a4
                    unfold nx1
                    rw [c]; rfl
                  have c := (zb_eq0 _).mp c
                  refine And.intro x1 ?_
                  refine And.intro x3 ?_
                  refine m_isLessI hG (by decide) (f := (sTb π r (1 - w) j).2.2) (g := ((k : Int), 1)) (by rw [x2, f4.1 314 (by decide)]; exact s5) (by rw [x4, f4.1 314 (by decide)]; exact s6) vK rfl bo2 (fB_k k (by omega)) ?_
                  refine And.intro (fun d => ?_) (fun d => ?_)
                  · have d := z_nb1 (x := 0) d
                    refine z146 I2 J4 _ f4a t4 ?_ wA a4
                    unfold nx1
                    rw [d, Bool.not_true, Bool.and_false]; rfl
                  have d := (zb_eq0 _).mp d
                  refine m_joins hG (by decide) q4 a4 (fB_k j (by omega)) (fB_k j (by omega)) (accW_B wA) (fun I7 J7 f7 g7 k7 l7 a7 => ?_)
                  have ly7 : mLy I2 J4 I7 J7 := ⟨fun x a _ => f7 x a, g7, fun x a _ _ => k7 x a, fun j a => l7 j (by omega)⟩
                  refine z146 I7 J7 _ (mLy_tr f4a ly7) (mTb_fr t4 (f7 312 (by decide)) (k7 313 (by decide)) (k7 314 (by decide))) ?_ (jn_p (m := j) (by decide) (by omega) (by omega) wA) a7
                  unfold nx1
                  rw [c, d]; rfl
              have e312 : I2 312 (nI (14 * r + 7 * (1 - w) + j)).toNatClampNeg = zb (sTb π r (1 - w) j).1 := by rw [y2]; exact ss.1
              refine And.intro y1 ?_
              refine And.intro (fun c => ?_) (fun c => ?_)
              · have c : ¬ I2 312 (nI (14 * r + 7 * (1 - w) + j)).toNatClampNeg = 0 := c
                rw [e312] at c
                have c := z_nb1 (x := 0) c
                rcases body with b | b
                · exact b
                · rw [c] at b; exact absurd b (by decide)
              · have c : I2 312 (nI (14 * r + 7 * (1 - w) + j)).toNatClampNeg = 0 := c
                rw [e312] at c
                have c := (zb_eq0 _).mp c
                refine z236 _ _ I2 J2 ⟨_, Or.inr rfl⟩ f2 t2 ?_
                unfold nxS
                rw [c]
                exact a2
          refine sgX12_layNext hG [31] 60 9 ?_
          refine And.intro (fun c => absurd c (by rw [show (7 : Int32) = nI 7 from rfl, nI_leI (by omega) (by omega)]; omega)) (fun _ => ?_)
          refine m_sliceAt hG (by decide) r w k rfl rfl rfl ?_
          refine And.intro (Or.inl rfl) ?_
          have lyu : mLy I' J' (z_upI I' 305 22 0) J' := ⟨fun x a _ => z_upI_ne a, fun j a => uI_k a, fun _ _ _ _ => rfl, fun _ _ => rfl⟩
          have tu : mTb (z_upI I' 305 22 0) J' (sTb π) (14 * (r + 1) + 7 * w + k) := mTb_fr ht (z_upI_ne (by decide)) rfl rfl
          have au : mAcc (z_upI I' 305 22 0) J' (false, (0, 1), (0, 1)) := ⟨uI_s, fun z => absurd z (by decide)⟩
          obtain ⟨q5, p5⟩ := p5
          cases own : (sTb π r w k).1 with
          | true => exact loop 7 0 0 o6 o7 _ J' p6 own rfl (by omega) lyu tu au
          | false =>
            refine sgX12_layNext hG [242] 60 31 ?_
            refine And.intro (fun c => absurd c (by decide)) (fun _ => ?_)
            refine And.intro vw0 ?_
            have so := tu r w k (by omega) (by omega) (by omega)
            refine And.intro (fun _ => ?_) (fun z => ?_)
            · refine z242 _ o6 o7 _ J' _ ⟨_, Or.inr rfl⟩ p6 lyu tu au (fun z => absurd z (by decide)) (fun z => absurd z (by decide)) (fun _ => ?_)
              show (sNx _ _ _).1 = false
              unfold sNx
              rw [own]; rfl
            · exfalso
              apply z
              show z_upI I' 305 22 0 312 (nI (14 * r + 7 * w + k)).toNatClampNeg = 0
              rw [nw0, so.1, own]; rfl
      intro w vw o3 o4 o5 o6 o7 I' J' p3 p4 p5 p6 ev hw hf ht
      subst ev
      refine sgX12_layNext hG [9] 60 2 ?_
      refine And.intro (fun c => absurd c (by rw [show (2 : Int32) = nI 2 from rfl, nI_leI (by omega) (by omega)]; omega)) (fun _ => ?_)
      exact inner 7 0 w (nI w) 0 o4 o5 o6 o7 I' J' p4 p5 p6 rfl rfl hw (by omega) hf ht
  refine rnX12_layNext hG hk 305 _ ?_
  refine sgX12_layNext hG [2] 60 0 ?_
  exact outer 2 0 0 none none none none none I J ⟨0, Or.inl rfl⟩ ⟨0, Or.inl rfl⟩ ⟨0, Or.inl rfl⟩ ⟨0, Or.inl rfl⟩ rfl (by omega) mLy_rfl ht0
theorem m_lay {G : zG} (hG : zGok G) {k' : Nat} (hk : 7 ≤ k') {I : Nat → Nat → Int32} {J : Nat → Nat → Int64} {past : Nat → Nat} {Q : zRt} {π : zPl} (hm : mPl I 306 0 π) (hv : vPl π) {r : Nat} (hr : r < 3) {R : Int32} (eR : R = nI r) (h : ∀ I' J', mLy I J I' J' → mTb I' J' (sTb π) (14 * (r + 1)) → Q none (zK0, I', J', zR0 past)) : zCalls G k' yX12_lay [.ref 305, .int R] (zK0, I, J, zR0 past) Q := by
  subst eR
  have loop : ∀ (q j : Nat) (v : Int32) (I' : Nat → Nat → Int32) (J' : Nat → Nat → Int64), v = nI j → j + q = r → mLy I J I' J' → mTb I' J' (sTb π) (14 * (j + 1)) → aX12_lay G Q 6 [some (.ref 305), some (.int (nI r)), some (.int v)] [] (zK0, I', J', zR0 past) := by
    intro q
    induction q with
    | zero =>
      intro j v I' J' ev hj hf ht
      subst ev
      have e : j = r := by omega
      subst e
      refine sgX12_lay hG [6] 60 6 ?_
      refine And.intro (fun _ => ?_) (fun c => absurd (Int32.le_refl _) c)
      exact h I' J' hf ht
    | succ q ih =>
      intro j v I' J' ev hj hf ht
      subst ev
      refine sgX12_lay hG [6] 60 6 ?_
      refine And.intro (fun c => absurd c (by rw [nI_leI (by omega) (by omega)]; omega)) (fun _ => ?_)
      refine m_layNext hG (by decide) hv (by omega) ht rfl (fun I2 J2 f2 t2 => ?_)
      exact ih (j + 1) _ I2 J2 (by rw [nI_1]) (by omega) (mLy_tr hf f2) t2
  refine rnX12_lay hG hk 305 _ ?_
  refine sgX12_lay hG [6] 60 0 ?_
  refine m_layFirst hG (by decide) hm hv (sTb π) (fun _ _ => rfl) (fun I1 J1 f1 t1 => ?_)
  exact loop r 0 0 I1 J1 rfl (by omega) f1 t1
