-- ===== tightest =====
theorem m_wholesWithout {G : zG} (hG : zGok G) {k' : Nat} (hk : 2 ≤ k') {I : Nat → Nat → Int32} {J : Nat → Nat → Int64} {past : Nat → Nat} {Q : zRt} {π : zPl} (hm : mPl I 306 0 π) (h6 : π.1 ≤ 6) (out : Int32) (h : Q (some (.int (nI (zPts π out).length))) (zK0, I, J, zR0 past)) : zCalls G k' yX12_wholesWithout [.ref 305, .int out] (zK0, I, J, zR0 past) Q := by
  have outer : ∀ (rx x : Nat) (vx w : Int32) (oy oh ok : Option Value), (oy = none ∨ ∃ z, oy = some (.int z)) → (oh = none ∨ ∃ z, oh = some (.int z)) → (ok = none ∨ ∃ z, ok = some (.int z)) → vx = nI x → x + rx = 7 → w = nI (zPtT (zWh π out) (7 * x)).length → aX12_wholesWithout G Q 4 [some (.ref 305), some (.int out), some (.int w), some (.int vx), oy, oh, ok] [] (zK0, I, J, zR0 past) := by
    intro rx
    induction rx with
    | zero =>
      intro x vx w oy oh ok _ _ _ ev hx hw
      subst ev
      have e : x = 7 := by omega
      subst e
      subst hw
      refine sgX12_wholesWithout hG [4, 13, 26] 60 4 ?_
      refine And.intro (fun _ => ?_) (fun c => absurd (by decide) c)
      exact h
    | succ rx ihx =>
      have mid : ∀ (ry y x : Nat) (vx vy w : Int32) (oh ok : Option Value), (oh = none ∨ ∃ z, oh = some (.int z)) → (ok = none ∨ ∃ z, ok = some (.int z)) → vx = nI x → vy = nI y → x + (rx + 1) = 7 → y + ry = 7 → w = nI (zPtT (zWh π out) (7 * x + y)).length → aX12_wholesWithout G Q 13 [some (.ref 305), some (.int out), some (.int w), some (.int vx), some (.int vy), oh, ok] [] (zK0, I, J, zR0 past) := by
        intro ry
        induction ry with
        | zero =>
          intro y x vx vy w oh ok ho hok ex ev hx hy hw
          subst ev
          have e : y = 7 := by omega
          subst e
          refine sgX12_wholesWithout hG [4, 13, 26] 60 13 ?_
          refine And.intro (fun _ => ?_) (fun c => absurd (by decide) c)
          exact ihx (x + 1) _ _ _ _ _ (Or.inr ⟨_, rfl⟩) ho hok (by rw [ex, nI_1]) (by omega) (by rw [hw, show 7 * (x + 1) = 7 * x + 7 by omega])
        | succ ry ihy =>
          intro y x vx vy w oh ok ho hok ex ev hx hy hw
          subst ex
          subst ev
          have hdm := z_7xy (x := x) (y := y) (by omega)
          have hlen := zPtT_len (zWh π out) (7 * x + y)
          have inner : ∀ (r k : Nat) (vk : Int32) (b : Bool), vk = nI k → k + r = π.1 + 4 → (b && zAllF (zCn π (nI x) (nI y) 1 out) k r) = zWh π out x y → aX12_wholesWithout G Q 26 [some (.ref 305), some (.int out), some (.int w), some (.int (nI x)), some (.int (nI y)), some (.int (zb b)), some (.int vk)] [] (zK0, I, J, zR0 past) := by
            intro r
            induction r with
            | zero =>
              intro k vk b ek hk hb
              subst ek
              have hb : b = zWh π out x y := by rw [← hb]; simp [zAllF]
              refine sgX12_wholesWithout hG [4, 13, 26] 60 26 ?_
              refine m_lines2 hG (by decide) hm ?_
              refine And.intro (fun _ => ?_) (fun c => absurd (by rw [nI_leI (by omega) (by omega)]; omega) c)
              have lst : zPtT (zWh π out) (7 * x + y + 1) = zPtT (zWh π out) (7 * x + y) ++ (if b then [(x, y)] else []) := by
                show _ ++ _ = _
                rw [hdm.1, hdm.2, hb]
              refine And.intro (fun c => ?_) (fun c => ?_)
              · have c := (zb_eq0 _).mp c
                refine ihy (y + 1) x _ _ _ _ _ (Or.inr ⟨_, rfl⟩) (Or.inr ⟨_, rfl⟩) rfl (by rw [nI_1]) hx (by omega) ?_
                rw [← Nat.add_assoc, lst, c, hw]
                show nI _ + nI 0 = _
                rw [nI_add]; simp
              · have c := z_nb1 (x := 0) c
                refine ihy (y + 1) x _ _ _ _ _ (Or.inr ⟨_, rfl⟩) (Or.inr ⟨_, rfl⟩) rfl (by rw [nI_1]) hx (by omega) ?_
                rw [← Nat.add_assoc, lst, c, hw, nI_1]; simp
            | succ r ih =>
              intro k vk b ek hk hb
              subst ek
              refine sgX12_wholesWithout hG [4, 13, 26] 60 26 ?_
              refine m_lines2 hG (by decide) hm ?_
              refine And.intro (fun c => absurd c (by rw [nI_leI (by omega) (by omega)]; omega)) (fun _ => ?_)
              have nx : ∀ (b' : Bool) (z : Int32), z = zb b' → b' = (b && zCn π (nI x) (nI y) 1 out k) → aX12_wholesWithout G Q 26 [some (.ref 305), some (.int out), some (.int w), some (.int (nI x)), some (.int (nI y)), some (.int z), some (.int (nI k + 1))] [] (zK0, I, J, zR0 past) := by
                intro b' z hz hb'
                subst hz
                refine ih (k + 1) _ b' (by rw [nI_1]) (by omega) ?_
                rw [hb', ← hb]
                show _ = (b && (zCn π (nI x) (nI y) 1 out k && _))
                rw [Bool.and_assoc]
              refine And.intro (fun c => ?_) (fun c => ?_)
              · have c := (zb_eq0 _).mp c
                exact nx false 0 rfl (by rw [c]; rfl)
              · have c := z_nb1 (x := 0) c
                subst c
                refine And.intro (fun c2 => ?_) (fun c2 => ?_)
                · exact nx true 1 rfl (by simp [zCn, c2])
                · refine m_of hG (by decide) hm h6 k 0 (by omega) (by omega) ?_
                  refine m_of hG (by decide) hm h6 k 1 (by omega) (by omega) ?_
                  refine m_of hG (by decide) hm h6 k 2 (by omega) (by omega) ?_
                  refine And.intro (fun c3 => ?_) (fun c3 => ?_)
                  · refine nx false 0 rfl ?_
                    have : ¬ pR π k 0 * nI x + pR π k 1 * nI y ≤ pR π k 2 := Int32.not_le.mpr c3
                    simp [zCn, c2, this]
                  · refine nx true 1 rfl ?_
                    have : pR π k 0 * nI x + pR π k 1 * nI y ≤ pR π k 2 := Int32.not_lt.mp c3
                    simp [zCn, c2, this]
          have hy7 : ¬ (6 : Int32) < nI y := by rw [show (6 : Int32) = nI 6 from rfl, nI_ltI (by omega) (by omega)]; omega
          have i0 := inner (π.1 + 4) 0 0 true rfl (by omega) rfl
          rcases hok with rfl | ⟨z, rfl⟩
          all_goals
            refine sgX12_wholesWithout hG [4, 13, 26] 60 13 ?_
            refine And.intro (fun c => absurd c hy7) (fun _ => ?_)
            rcases ho with rfl | ⟨z', rfl⟩
            all_goals exact i0
      intro x vx w oy oh ok ho1 ho2 ho3 ev hx hw
      subst ev
      have hx7 : ¬ (6 : Int32) < nI x := by rw [show (6 : Int32) = nI 6 from rfl, nI_ltI (by omega) (by omega)]; omega
      refine sgX12_wholesWithout hG [4, 13, 26] 60 4 ?_
      refine And.intro (fun c => absurd c hx7) (fun _ => ?_)
      exact mid 7 0 x (nI x) 0 w oh ok ho2 ho3 rfl rfl hx (by omega) hw
  refine rnX12_wholesWithout hG hk 305 out ?_
  refine sgX12_wholesWithout hG [4, 13, 26] 60 0 ?_
  exact outer 7 0 0 0 none none none (Or.inl rfl) (Or.inl rfl) (Or.inl rfl) rfl (by omega) rfl
def zTf (π : zPl) (k : Nat) : Int := - ((zPts π (nI k)).length : Int)
def sTig (π : zPl) : Int32 × Option (List Int64) := if π.1 = 0 then (-2, none) else (nI (zBest (zTf π) π.1), some [lN (zPts π (nI (zBest (zTf π) π.1))).length])
theorem c_tightest {G : zG} (hG : zGok G) {k' : Nat} (hk : 5 ≤ k') {I : Nat → Nat → Int32} {J : Nat → Nat → Int64} {past : Nat → Nat} {Q : zRt} {S : zS} (hS : cSt I J past S) (hv : vS S)  (h : ∀ I' J', cSt I' J' past (sOut S ( sTig S.1)) → cFr I J I' J' → Q (some (.int ( sTig S.1).1)) (zK0, I', J', zR0 past)) : zCalls G k' yX11_tightest [.ref 0] (zK0, I, J, zR0 past) Q := by
  refine rnX11_tightest hG hk 0  ?_
  refine sgX11_tightest hG [7] 60 0 ?_
  have h6 := hv.1.1.1
  unfold sTig at h
  have loop : ∀ (r i : Nat) (v u w : Int32) (I' : Nat → Nat → Int32), v = nI i → i + r = S.1.1 → (i = 0 → u = -2 ∧ w = -1) → (0 < i → u = nI (zBest (zTf S.1) i) ∧ w = nI (zPts S.1 (nI (zBest (zTf S.1) i))).length) → (∀ x, x ≠ 264 → x ≠ 265 → x ≠ 266 → I' x = I x) → aX11_tightest G Q 7 [some (.ref 0), some (.int u), some (.int w), some (.int v)] [] (zK0, I', J, zR0 past) := by
    intro r
    induction r with
    | zero =>
      intro i v u w I' ev hi z0 z1 f1
      have e : i = S.1.1 := by omega
      subst e
      subst ev
      have q1 : cQ I J I' J := fun x hx => ⟨f1 x (by omega) (by omega) (by omega), rfl⟩
      have e0 : I' 1 0 = nI S.1.1 := by rw [f1 1 (by decide) (by decide) (by decide)]; exact hS.1.1
      refine sgX11_tightest hG [7] 60 7 ?_
      refine And.intro (fun _ => ?_) (fun q => absurd (by rw [e0]; exact Int32.le_refl _) q)
      rcases Nat.eq_zero_or_pos S.1.1 with z | z
      · obtain ⟨rfl, rfl⟩ := z0 z
        rw [if_pos z] at h
        refine And.intro (fun _ => ?_) (fun q => absurd (by decide) q)
        exact h I' J (cSt_same hS hv q1 (f1 128 (by decide) (by decide) (by decide)) rfl) (cQ_fr q1)
      · obtain ⟨rfl, rfl⟩ := z1 z
        rw [if_neg (by omega)] at h
        have bl := zBest_lt (zTf S.1) S.1.1 z
        refine And.intro (fun q => absurd q (nI_pos (by omega))) (fun _ => ?_)
        refine c_clear hG (by decide) (fun I2 f2 n2 => ?_)
        refine c_tell hG (by decide) n2 (by decide) _ (fun I3 J3 f3 g3 n3 => ?_)
        rw [nI_l (by have := zPts_len S.1 (nI (zBest (zTf S.1) S.1.1)); omega)] at n3
        have q3 : cQ I J I3 J3 := cQ_tr q1 (fun x hx => ⟨by rw [f3 x (by omega), f2 x (by omega)], g3 x (by omega)⟩)
        exact h I3 J3 (cSt_tel hS hv q3 n3) (cQ_fr q3)
    | succ r ih =>
      intro i v u w I' ev hi z0 z1 f1
      subst ev
      have q1 : cQ I J I' J := fun x hx => ⟨f1 x (by omega) (by omega) (by omega), rfl⟩
      have e0 : I' 1 0 = nI S.1.1 := by rw [f1 1 (by decide) (by decide) (by decide)]; exact hS.1.1
      have hc : cPl I' J 1 S.1 := cQ_pl q1 hv.1.2.1 hS.1
      refine sgX11_tightest hG [7] 60 7 ?_
      refine And.intro (fun q => absurd q (by rw [e0, nI_leI (by omega) (by omega)]; omega)) (fun _ => ?_)
      refine c_gather hG (by decide) (Or.inl rfl) hc h6 (nI i) (fun I1 f2 p1 => ?_)
      have f3 : ∀ x, x ≠ 264 → x ≠ 265 → x ≠ 266 → I1 x = I x := fun x a b c => (f2 x a b c).trans (f1 x a b c)
      have bs : zBest (zTf S.1) (i + 1) = if zTf S.1 i < zTf S.1 (zBest (zTf S.1) i) then i else zBest (zTf S.1) i := rfl
      have l1 := zPts_len S.1 (nI i)
      have t1 : zTf S.1 i = - ((zPts S.1 (nI i)).length : Int) := rfl
      have t2 : zTf S.1 (zBest (zTf S.1) i) = - ((zPts S.1 (nI (zBest (zTf S.1) i))).length : Int) := rfl
      rcases Nat.eq_zero_or_pos i with z | z
      · obtain ⟨rfl, rfl⟩ := z0 z
        subst z
        refine And.intro (fun q => ?_) (fun q => ?_)
        · exfalso
          rw [p1.1, Int32.le_iff_toInt_le, nI_toInt (by omega)] at q
          have : (-1 : Int32).toInt = -1 := by decide
          omega
        · refine ih 1 _ _ _ I1 rfl (by omega) (by omega) (fun _ => ?_) f3
          rw [zBest_1]
          exact ⟨rfl, p1.1⟩
      · obtain ⟨rfl, rfl⟩ := z1 z
        have l2 := zPts_len S.1 (nI (zBest (zTf S.1) i))
        refine And.intro (fun q => ?_) (fun q => ?_)
        · rw [p1.1, nI_leI (by omega) (by omega)] at q
          rw [if_neg (by omega)] at bs
          refine ih (i + 1) _ _ _ I1 (by rw [nI_1]) (by omega) (by omega) (fun _ => ?_) f3
          rw [bs]
          exact ⟨rfl, rfl⟩
        · rw [p1.1, nI_leI (by omega) (by omega)] at q
          rw [if_pos (by omega)] at bs
          refine ih (i + 1) _ _ _ I1 (by rw [nI_1]) (by omega) (by omega) (fun _ => ?_) f3
          rw [bs]
          exact ⟨rfl, p1.1⟩
  exact loop S.1.1 0 0 (-2) (-1) I rfl (by omega) (fun _ => ⟨rfl, rfl⟩) (by omega) (fun _ _ _ _ => rfl)
theorem m_tightest {G : zG} (hG : zGok G) {k' : Nat} (hk : 3 ≤ k') {I : Nat → Nat → Int32} {J : Nat → Nat → Int64} {past : Nat → Nat} {Q : zRt} {S : zS} (hS : mSt I J S) (hv : vS S)  (h : ∀ I' J', mSt I' J' (sOut S ( sTig S.1)) → mFr I J I' J' → Q (some (.int ( sTig S.1).1)) (zK0, I', J', zR0 past)) : zCalls G k' yX12_tightest [.ref 305] (zK0, I, J, zR0 past) Q := by
  have hS0 := mSt_thr (v := 0) hS
  have hQ0 : mQ I J (z_upI I 305 5 0) J := mQ_u (by omega)
  refine rnX12_tightest hG hk 305  ?_
  refine sgX12_tightest hG [11] 60 0 ?_
  have h6 := hv.1.1.1
  unfold sTig at h
  have e0 : z_upI I 305 5 0 306 (0 : Int32).toNatClampNeg = nI S.1.1 := hS0.1.1
  have loop : ∀ (r i : Nat) (v u w : Int32) (o : Option Value), (o = none ∨ ∃ z, o = some (.int z)) → v = nI i → i + r = S.1.1 → (i = 0 → u = -1 ∧ w = 0) → (0 < i → u = nI (zBest (zTf S.1) i) ∧ w = nI (zPts S.1 (nI (zBest (zTf S.1) i))).length) → aX12_tightest G Q 11 [some (.ref 305), some (.int u), some (.int w), some (.int v), o] [] (zK0, z_upI I 305 5 0, J, zR0 past) := by
    intro r
    induction r with
    | zero =>
      intro i v u w o ho ev hi z0 z1
      have e : i = S.1.1 := by omega
      subst e
      subst ev
      refine sgX12_tightest hG [11] 60 11 ?_
      refine And.intro (by unfold vp_in; decide) ?_
      refine And.intro (fun _ => ?_) (fun q => absurd (by rw [e0]; exact Int32.le_refl _) q)
      rcases Nat.eq_zero_or_pos S.1.1 with z | z
      · obtain ⟨rfl, rfl⟩ := z0 z
        rw [if_pos z] at h
        refine And.intro (fun q => absurd rfl q) (fun _ => ?_)
        exact h _ J hS0 (mQ_fr hQ0)
      · obtain ⟨rfl, rfl⟩ := z1 z
        rw [if_neg (by omega)] at h
        have bl := zBest_lt (zTf S.1) S.1.1 z
        refine And.intro (fun _ => ?_) (fun q => ?_)
        · refine m_tellL hG (by decide) mNm_0 (by decide) _ (fun I3 J3 f3 g3 k3 n3 => ?_)
          rw [nI_l (by have := zPts_len S.1 (nI (zBest (zTf S.1) S.1.1)); omega)] at n3
          have q3 : mQ I J I3 J3 := mQ_tr hQ0 (mQ_tr (J1 := J) (I1 := z_upI (z_upI I 305 5 0) 305 4 0) (mQ_u (by omega)) ⟨fun x hx => ⟨f3 x (by omega), k3 x (by omega)⟩, g3 2 (by decide), g3 13 (by decide)⟩)
          exact h I3 J3 (mSt_tel hS q3 n3) (mQ_fr q3)
        · exfalso
          have := nI_toInt (n := zBest (zTf S.1) S.1.1) (by omega)
          rw [q] at this
          have z : (-1 : Int32).toInt = -1 := by decide
          omega
    | succ r ih =>
      intro i v u w o ho ev hi z0 z1
      subst ev
      have bs : zBest (zTf S.1) (i + 1) = if zTf S.1 i < zTf S.1 (zBest (zTf S.1) i) then i else zBest (zTf S.1) i := rfl
      have l1 := zPts_len S.1 (nI i)
      have t1 : zTf S.1 i = - ((zPts S.1 (nI i)).length : Int) := rfl
      have t2 : zTf S.1 (zBest (zTf S.1) i) = - ((zPts S.1 (nI (zBest (zTf S.1) i))).length : Int) := rfl
      refine sgX12_tightest hG [11] 60 11 ?_
      refine And.intro (by unfold vp_in; decide) ?_
      refine And.intro (fun q => absurd q (by rw [e0, nI_leI (by omega) (by omega)]; omega)) (fun _ => ?_)
      refine m_wholesWithout hG (by decide) hS0.1 h6 (nI i) ?_
      rcases Nat.eq_zero_or_pos i with z | z
      · obtain ⟨rfl, rfl⟩ := z0 z
        subst z
        refine And.intro (fun _ => ?_) (fun q => absurd rfl q)
        refine ih 1 _ _ _ _ (Or.inr ⟨_, rfl⟩) rfl (by omega) (by omega) (fun _ => ?_)
        rw [zBest_1]
        exact ⟨rfl, rfl⟩
      · obtain ⟨rfl, rfl⟩ := z1 z
        have bl := zBest_lt (zTf S.1) i z
        have l2 := zPts_len S.1 (nI (zBest (zTf S.1) i))
        refine And.intro (fun q => ?_) (fun _ => ?_)
        · exfalso
          have := nI_toInt (n := zBest (zTf S.1) i) (by omega)
          rw [q] at this
          have z : (-1 : Int32).toInt = -1 := by decide
          omega
        refine And.intro (fun q => ?_) (fun q => ?_)
        · rw [nI_ltI (by omega) (by omega)] at q
          rw [if_pos (by omega)] at bs
          refine ih (i + 1) _ _ _ _ (Or.inr ⟨_, rfl⟩) (by rw [nI_1]) (by omega) (by omega) (fun _ => ?_)
          rw [bs]
          exact ⟨rfl, rfl⟩
        · rw [nI_ltI (by omega) (by omega)] at q
          rw [if_neg (by omega)] at bs
          refine ih (i + 1) _ _ _ _ (Or.inr ⟨_, rfl⟩) (by rw [nI_1]) (by omega) (by omega) (fun _ => ?_)
          rw [bs]
          exact ⟨rfl, rfl⟩
  exact loop S.1.1 0 0 (-1) 0 none (Or.inl rfl) rfl (by omega) (fun _ => ⟨rfl, rfl⟩) (by omega)
