-- ===== how many cuts are proven, how many points are cut off =====
def zChN (f : Nat → Bool) (n : Nat) : Nat := (List.range n).countP f
theorem zChN_s (f : Nat → Bool) (n : Nat) : zChN f (n + 1) = zChN f n + (if f n then 1 else 0) := by
  unfold zChN
  rw [List.range_succ, List.countP_append, List.countP_singleton]
theorem zChN_le (f : Nat → Bool) (n : Nat) : zChN f n ≤ n := by
  have := List.countP_le_length (p := f) (l := List.range n)
  rw [List.length_range] at this
  exact this
theorem c_checkedCuts {G : zG} (hG : zGok G) {k' : Nat} (hk : 5 ≤ k') {I : Nat → Nat → Int32} {J : Nat → Nat → Int64} {past : Nat → Nat} {Q : zRt} {π : zPl} (hc : cPl I J 1 π) (hv : vPl π) (h : Q (some (.int (nI (zChN (prP π) π.2.2.1)))) (zK0, I, J, zR0 past)) : zCalls G k' yX5_checkedCuts [.ref 1] (zK0, I, J, zR0 past) Q := by
  have h8 := hv.2.1
  have loop : ∀ (r i : Nat) (v w : Int32), v = nI i → w = nI (zChN (prP π) i) → i + r = π.2.2.1 → aX5_checkedCuts G Q 4 [some (.ref 1), some (.int w), some (.int v)] [] (zK0, I, J, zR0 past) := by
    intro r
    induction r with
    | zero =>
      intro i v w ev ew hi
      subst ev
      subst ew
      refine sgX5_checkedCuts hG [4] 60 4 ?_
      refine And.intro (fun _ => ?_) (fun q => absurd (by rw [hc.2.1, nI_leI (by omega) (by omega)]; omega) q)
      rw [show i = π.2.2.1 by omega]
      exact h
    | succ r ih =>
      intro i v w ev ew hi
      subst ev
      subst ew
      have hs := zChN_s (prP π) i
      refine sgX5_checkedCuts hG [4] 60 4 ?_
      refine And.intro (fun q => absurd q (by rw [hc.2.1, nI_leI (by omega) (by omega)]; omega)) (fun _ => ?_)
      refine c_proofChecks hG (by decide) hc hv (i := i) (by omega) ?_
      refine And.intro (fun d => ?_) (fun d => ?_)
      · have d : prP π i = false := (zb_eq0 _).mp d
        rw [d] at hs
        exact ih (i + 1) _ _ (by rw [nI_1]) (by rw [hs]; rfl) (by omega)
      · have d : prP π i = true := z_nb1 (x := 0) d
        rw [d] at hs
        exact ih (i + 1) _ _ (by rw [nI_1]) (by rw [hs, nI_1]; rfl) (by omega)
  refine rnX5_checkedCuts hG hk 1 ?_
  refine sgX5_checkedCuts hG [4] 60 0 ?_
  exact loop π.2.2.1 0 0 0 rfl rfl (by omega)
theorem m_provenMany {G : zG} (hG : zGok G) {k' : Nat} (hk : 4 ≤ k') {I : Nat → Nat → Int32} {J : Nat → Nat → Int64} {past : Nat → Nat} {Q : zRt} {π : zPl} (hm : mPl I 306 0 π) (hv : vPl π) (h : Q (some (.int (nI (zChN (prP π) π.2.2.1)))) (zK0, I, J, zR0 past)) : zCalls G k' yX12_provenMany [.ref 305] (zK0, I, J, zR0 past) Q := by
  have h8 := hv.2.1
  have loop : ∀ (r i : Nat) (v w : Int32), v = nI i → w = nI (zChN (prP π) i) → i + r = π.2.2.1 → aX12_provenMany G Q 4 [some (.ref 305), some (.int w), some (.int v)] [] (zK0, I, J, zR0 past) := by
    intro r
    induction r with
    | zero =>
      intro i v w ev ew hi
      subst ev
      subst ew
      refine sgX12_provenMany hG [4] 60 4 ?_
      refine And.intro (by unfold vp_in; decide) ?_
      refine And.intro (fun _ => ?_) (fun q => absurd (by rw [show I 306 (19 : Int32).toNatClampNeg = nI π.2.2.1 from hm.2.1, nI_leI (by omega) (by omega)]; omega) q)
      rw [show i = π.2.2.1 by omega]
      exact h
    | succ r ih =>
      intro i v w ev ew hi
      subst ev
      subst ew
      have hs := zChN_s (prP π) i
      refine sgX12_provenMany hG [4] 60 4 ?_
      refine And.intro (by unfold vp_in; decide) ?_
      refine And.intro (fun q => absurd q (by rw [show I 306 (19 : Int32).toNatClampNeg = nI π.2.2.1 from hm.2.1, nI_leI (by omega) (by omega)]; omega)) (fun _ => ?_)
      refine m_isProven hG (by decide) hm hv (i := i) (by omega) ?_
      refine And.intro (fun d => ?_) (fun d => ?_)
      · have d : prP π i = false := (zb_eq0 _).mp d
        rw [d] at hs
        exact ih (i + 1) _ _ (by rw [nI_1]) (by rw [hs]; show _ + nI 0 = _; rw [nI_add]; rfl) (by omega)
      · have d : prP π i = true := z_nb1 (x := 0) d
        rw [d] at hs
        exact ih (i + 1) _ _ (by rw [nI_1]) (by rw [hs, nI_1]; rfl) (by omega)
  refine rnX12_provenMany hG hk 305 ?_
  refine sgX12_provenMany hG [4] 60 0 ?_
  exact loop π.2.2.1 0 0 0 rfl rfl (by omega)
def exI (g : Nat → Int32) (x y d : Int) : Int := (g 0).toInt * x + (g 1).toInt * y - (g 2).toInt * d
theorem exI_bd {g : Nat → Int32} (h : vCt g) {x y d : Int} (hx : x.natAbs ≤ 72) (hy : y.natAbs ≤ 72) (hd : d.natAbs ≤ 12) : (exI g x y d).natAbs ≤ 156000000 := by
  have a := bd_mul (vCt_bd h (j := 0) (by omega)) hx
  have b := bd_mul (vCt_bd h (j := 1) (by omega)) hy
  have c := bd_mul (vCt_bd h (j := 2) (by omega)) hd
  have e := bd_sub (bd_add a b) c
  unfold exI
  omega
theorem t64 (x : Int32) : x.toInt64 = Int64.ofInt x.toInt := by rw [z_l_eq, z_i2l, lI_T (by have := Int32.le_toInt x; have := Int32.toInt_lt x; omega)]
theorem zEx_I (g : Nat → Int32) {x y d : Nat} (hx : x < 1000) (hy : y < 1000) (hd : d < 1000) : zEx g (nI x) (nI y) (nI d) = Int64.ofInt (exI g x y d) := by
  unfold zEx exI
  rw [nI_l (by omega), nI_l (by omega), nI_l (by omega), t64, t64, t64, lN_I, lN_I, lN_I, ← Int64.ofInt_mul, ← Int64.ofInt_mul, ← Int64.ofInt_mul, ← Int64.ofInt_add, ← Int64.ofInt_sub]
def zAny (f : Nat → Bool) : Nat → Bool
  | 0 => false
  | n + 1 => zAny f n || f n
def zOff (π : zPl) (q : Nat × Nat) (i : Nat) : Bool := decide (0 < exI (π.2.2.2 i) q.1 q.2 1)
def zOffs (π : zPl) (q : Nat × Nat) : Bool := zAny (zOff π q) π.2.2.1
theorem c_cutOff {G : zG} (hG : zGok G) {k' : Nat} (hk : 3 ≤ k') {I : Nat → Nat → Int32} {J : Nat → Nat → Int64} {past : Nat → Nat} {Q : zRt} {π : zPl} (hc : cPl I J 1 π) (hv : vPl π) {L : List (Nat × Nat)} (hL : cPts I L) (hb : bdL L) (h : Q (some (.int (nI (L.countP (zOffs π))))) (zK0, I, J, zR0 past)) : zCalls G k' yX10_cutOff [.ref 264, .ref 1] (zK0, I, J, zR0 past) Q := by
  have h8 := hv.2.1
  have h49 := hb.1
  have loop : ∀ (r i : Nat) (v w : Int32) (o4 o5 : Option Value), v = nI i → w = nI ((L.take i).countP (zOffs π)) → i + r = L.length → (o4 = none ∨ ∃ z, o4 = some (.int z)) → (o5 = none ∨ ∃ z, o5 = some (.int z)) → aX10_cutOff G Q 4 [some (.ref 264), some (.ref 1), some (.int w), some (.int v), o4, o5] [] (zK0, I, J, zR0 past) := by
    intro r
    induction r with
    | zero =>
      intro i v w o4 o5 ev ew hi _ _
      subst ev
      subst ew
      refine sgX10_cutOff hG [4, 27] 60 4 ?_
      refine And.intro (fun _ => ?_) (fun q => absurd (by rw [hL.1, nI_leI (by omega) (by omega)]; omega) q)
      rw [List.take_of_length_le (by omega)]
      exact h
    | succ r ih =>
      intro i v w o4 o5 ev ew hi p4 p5
      subst ev
      subst ew
      obtain ⟨q, hq⟩ := z_get (L := L) (i := i) (by omega)
      obtain ⟨b1, b2⟩ := hb.2 i q hq
      obtain ⟨e1, e2⟩ := hL.2 i q hq
      have en : (nI i).toNatClampNeg = i := nI_clamp (by omega)
      have ht := z_tk (f := zOffs π) hq
      have inner : ∀ (s j : Nat) (v z : Int32), v = nI j → z = zb (zAny (zOff π q) j) → j + s = π.2.2.1 → aX10_cutOff G Q 27 [some (.ref 264), some (.ref 1), some (.int (nI ((L.take i).countP (zOffs π)))), some (.int (nI i)), some (.int z), some (.int v)] [] (zK0, I, J, zR0 past) := by
        intro s
        induction s with
        | zero =>
          intro j v z ev ez hj
          subst ev
          subst ez
          have ej : j = π.2.2.1 := by omega
          subst ej
          refine sgX10_cutOff hG [4, 27] 60 27 ?_
          refine And.intro (fun _ => ?_) (fun q => absurd (by rw [hc.2.1, nI_leI (by omega) (by omega)]; omega) q)
          refine And.intro (fun d => ?_) (fun d => ?_)
          · have d : zOffs π q = false := (zb_eq0 _).mp d
            rw [d] at ht
            exact ih (i + 1) _ _ _ _ (by rw [nI_1]) (by rw [ht]; rfl) (by omega) (Or.inr ⟨_, rfl⟩) (Or.inr ⟨_, rfl⟩)
          · have d : zOffs π q = true := z_nb1 (x := 0) d
            rw [d] at ht
            exact ih (i + 1) _ _ _ _ (by rw [nI_1]) (by rw [ht, nI_1]; rfl) (by omega) (Or.inr ⟨_, rfl⟩) (Or.inr ⟨_, rfl⟩)
        | succ s ihs =>
          intro j v z ev ez hj
          subst ev
          subst ez
          refine sgX10_cutOff hG [4, 27] 60 27 ?_
          refine And.intro (fun q => absurd q (by rw [hc.2.1, nI_leI (by omega) (by omega)]; omega)) (fun _ => ?_)
          refine And.intro (fun d => ?_) (fun d => ?_)
          · have d := z_nb1 (x := 0) d
            exact ihs (j + 1) _ _ (by rw [nI_1]) (by show _ = zb (zAny (zOff π q) j || _); rw [d]; rfl) (by omega)
          · have d := (zb_eq0 _).mp d
            refine And.intro (by exact vp_in_nI (by omega) (by omega)) ?_
            refine And.intro (by exact vp_in_nI (by omega) (by omega)) ?_
            have bx := exI_bd (hv.2.2 j (by omega)) (x := (q.1 : Int)) (y := (q.2 : Int)) (d := ((1 : Nat) : Int)) (by omega) (by omega) (by omega)
            refine z_arg (args' := [.ref 1, .int (nI j), .int (nI q.1), .int (nI q.2), .int (nI 1)]) (by rw [en, e1, e2]; rfl) ?_
            refine c_cutExcess hG (by decide) hc h8 (i := j) (by omega) _ _ _ ?_
            rw [zEx_I _ (by omega) (by omega) (by omega)]
            refine And.intro (fun f => ?_) (fun f => ?_)
            · rw [show (0 : Int64) = Int64.ofInt 0 from rfl, lI_le (by omega) (by omega)] at f
              have f2 : zOff π q j = false := decide_eq_false (by have f' : exI (π.2.2.2 j) q.1 q.2 1 ≤ 0 := f; omega)
              exact ihs (j + 1) _ _ (by rw [nI_1]) (by show _ = zb (zAny (zOff π q) j || zOff π q j); rw [d, f2]; rfl) (by omega)
            · rw [show (0 : Int64) = Int64.ofInt 0 from rfl, lI_le (by omega) (by omega)] at f
              have f2 : zOff π q j = true := decide_eq_true (by have f' : ¬ exI (π.2.2.2 j) q.1 q.2 1 ≤ 0 := f; omega)
              exact ihs (j + 1) _ _ (by rw [nI_1]) (by show _ = zb (zAny (zOff π q) j || zOff π q j); rw [d, f2]; rfl) (by omega)
      refine sgX10_cutOff hG [4, 27] 60 4 ?_
      refine And.intro (fun q => absurd q (by rw [hL.1, nI_leI (by omega) (by omega)]; omega)) (fun _ => ?_)
      refine And.intro (fun q => absurd q (by rw [show Int32.ofNat 49 = nI 49 from rfl, nI_leI (by omega) (by omega)]; omega)) (fun _ => ?_)
      rcases p4 with rfl | ⟨z4, rfl⟩ <;> rcases p5 with rfl | ⟨z5, rfl⟩
      all_goals exact inner π.2.2.1 0 0 0 rfl rfl (by omega)
  refine rnX10_cutOff hG hk 264 1 ?_
  refine sgX10_cutOff hG [4, 27] 60 0 ?_
  exact loop L.length 0 0 0 none none rfl rfl (by omega) (Or.inl rfl) (Or.inl rfl)
theorem z_i1 (b : Bool) : (if b then (0 : Int32) else 1) = zb (!b) := by cases b <;> rfl
theorem m_brokenMany {G : zG} (hG : zGok G) {k' : Nat} (hk : 6 ≤ k') {I : Nat → Nat → Int32} {J : Nat → Nat → Int64} {past : Nat → Nat} {Q : zRt} {π : zPl} (hm : mPl I 306 0 π) (hv : vPl π) (h : ∀ I', (∀ q, q ≠ 305 → q ≠ 316 → I' q = I q) → (∀ j, j ≠ 29 → I' 305 j = I 305 j) → Q (some (.int (nI ((zPts π (-1)).countP (zOffs π))))) (zK0, I', J, zR0 past)) : zCalls G k' yX12_brokenMany [.ref 305] (zK0, I, J, zR0 past) Q := by
  have h8 := hv.2.1
  have hb := zPts_bd π (-1)
  refine rnX12_brokenMany hG hk 305 ?_
  refine sgX12_brokenMany hG [8, 21] 60 0 ?_
  refine m_layWholes hG (by decide) hm hv.1.1 (fun I1 f1 g1 p1 => ?_)
  have m1 : mPl I1 306 0 π := mPl_fr hm (f1 306 (by decide) (by decide))
  have h := h I1 f1 g1
  generalize zPts π (-1) = L at *
  have h49 := hb.1
  have loop : ∀ (r i : Nat) (v w : Int32) (o4 o5 : Option Value), v = nI i → w = nI ((L.take i).countP (zOffs π)) → i + r = L.length → (o4 = none ∨ ∃ z, o4 = some (.int z)) → (o5 = none ∨ ∃ z, o5 = some (.int z)) → aX12_brokenMany G Q 8 [some (.ref 305), some (.int w), some (.int v), o4, o5] [] (zK0, I1, J, zR0 past) := by
    intro r
    induction r with
    | zero =>
      intro i v w o4 o5 ev ew hi _ _
      subst ev
      subst ew
      refine sgX12_brokenMany hG [8, 21] 60 8 ?_
      refine And.intro (fun _ => ?_) (fun q => absurd (by rw [p1.1, nI_leI (by omega) (by omega)]; omega) q)
      rw [List.take_of_length_le (by omega)]
      exact h
    | succ r ih =>
      intro i v w o4 o5 ev ew hi p4 p5
      subst ev
      subst ew
      obtain ⟨q, hq⟩ := z_get (L := L) (i := i) (by omega)
      obtain ⟨b1, b2⟩ := hb.2 i q hq
      obtain ⟨e1, e2⟩ := p1.2 i q hq
      have i1 : (2 : Int32) * nI i = nI (2 * i) := by rw [show (2 : Int32) = nI 2 from rfl, pk_mul]
      have i2 : (2 : Int32) * nI i + 1 = nI (2 * i + 1) := by rw [i1, nI_1]
      have ht := z_tk (f := zOffs π) hq
      have inner : ∀ (s j : Nat) (v z : Int32), v = nI j → z = zb (!zAny (zOff π q) j) → j + s = π.2.2.1 → aX12_brokenMany G Q 21 [some (.ref 305), some (.int (nI ((L.take i).countP (zOffs π)))), some (.int (nI i)), some (.int z), some (.int v)] [] (zK0, I1, J, zR0 past) := by
        intro s
        induction s with
        | zero =>
          intro j v z ev ez hj
          subst ev
          subst ez
          have ej : j = π.2.2.1 := by omega
          subst ej
          refine sgX12_brokenMany hG [8, 21] 60 21 ?_
          refine And.intro (by unfold vp_in; decide) ?_
          refine And.intro (fun _ => ?_) (fun q => absurd (by rw [show I1 306 (19 : Int32).toNatClampNeg = nI π.2.2.1 from m1.2.1, nI_leI (by omega) (by omega)]; omega) q)
          refine And.intro (fun d => ?_) (fun d => ?_)
          · have d : zOffs π q = true := by have d := (zb_eq0 _).mp d; show zAny (zOff π q) π.2.2.1 = true; simpa using d
            rw [d] at ht
            exact ih (i + 1) _ _ _ _ (by rw [nI_1]) (by rw [ht, nI_1]; rfl) (by omega) (Or.inr ⟨_, rfl⟩) (Or.inr ⟨_, rfl⟩)
          · have d : zOffs π q = false := by have d := z_nb1 (x := 0) d; show zAny (zOff π q) π.2.2.1 = false; simpa using d
            rw [d] at ht
            exact ih (i + 1) _ _ _ _ (by rw [nI_1]) (by rw [ht]; show _ + nI 0 = _; rw [nI_add]; rfl) (by omega) (Or.inr ⟨_, rfl⟩) (Or.inr ⟨_, rfl⟩)
        | succ s ihs =>
          intro j v z ev ez hj
          subst ev
          subst ez
          refine sgX12_brokenMany hG [8, 21] 60 21 ?_
          refine And.intro (by unfold vp_in; decide) ?_
          refine And.intro (fun q => absurd q (by rw [show I1 306 (19 : Int32).toNatClampNeg = nI π.2.2.1 from m1.2.1, nI_leI (by omega) (by omega)]; omega)) (fun _ => ?_)
          refine And.intro (fun d => ?_) (fun d => ?_)
          · have d : zAny (zOff π q) j = true := by have d := (zb_eq0 _).mp d; simpa using d
            exact ihs (j + 1) _ _ (by rw [nI_1]) (by show _ = zb (!(zAny (zOff π q) j || _)); rw [d]; rfl) (by omega)
          · have d : zAny (zOff π q) j = false := by have d := z_nb1 (x := 0) d; simpa using d
            have vg := hv.2.2 j (by omega)
            have g0 := vCt_bd vg (j := 0) (by omega)
            have g1' := vCt_bd vg (j := 1) (by omega)
            have g2 := vCt_bd vg (j := 2) (by omega)
            have c0 := bd_mul (b := (q.1 : Int)) (B := 7) g0 (by omega)
            have c1 := bd_mul (b := (q.2 : Int)) (B := 7) g1' (by omega)
            have es : π.2.2.2 j 0 * I1 316 ((2 : Int32) * nI i).toNatClampNeg + π.2.2.2 j 1 * I1 316 ((2 : Int32) * nI i + 1).toNatClampNeg = Int32.ofInt ((π.2.2.2 j 0).toInt * q.1 + (π.2.2.2 j 1).toInt * q.2) := by
              rw [i2, i1, nI_clamp (by omega), nI_clamp (by omega), e1, e2, nI_I, nI_I, Int32.ofInt_add, Int32.ofInt_mul, Int32.ofInt_mul, ← i_of, ← i_of]
            refine m_stored hG (by decide) m1 h8 (i := j) (by omega) (j := 0) rfl (by omega) ?_
            refine And.intro (by rw [i1]; exact vp_in_nI (by omega) (by omega)) ?_
            refine m_stored hG (by decide) m1 h8 (i := j) (by omega) (j := 1) rfl (by omega) ?_
            refine And.intro (by rw [i2]; exact vp_in_nI (by omega) (by omega)) ?_
            refine m_stored hG (by decide) m1 h8 (i := j) (by omega) (j := 2) rfl (by omega) ?_
            refine And.intro (fun f => ?_) (fun f => ?_)
            · rw [es, Int32.lt_iff_toInt_lt, iI_T (by omega)] at f
              have f2 : zOff π q j = true := decide_eq_true (by unfold exI; omega)
              exact ihs (j + 1) _ _ (by rw [nI_1]) (by show _ = zb (!(zAny (zOff π q) j || zOff π q j)); rw [d, f2]; rfl) (by omega)
            · rw [es, Int32.lt_iff_toInt_lt, iI_T (by omega)] at f
              have f2 : zOff π q j = false := decide_eq_false (by unfold exI; omega)
              exact ihs (j + 1) _ _ (by rw [nI_1]) (by show _ = zb (!(zAny (zOff π q) j || zOff π q j)); rw [d, f2]; rfl) (by omega)
      refine sgX12_brokenMany hG [8, 21] 60 8 ?_
      refine And.intro (fun q => absurd q (by rw [p1.1, nI_leI (by omega) (by omega)]; omega)) (fun _ => ?_)
      rcases p4 with rfl | ⟨z4, rfl⟩ <;> rcases p5 with rfl | ⟨z5, rfl⟩
      all_goals exact inner π.2.2.1 0 0 1 rfl rfl (by omega)
  exact loop L.length 0 0 0 none none rfl rfl (by omega) (Or.inl rfl) (Or.inl rfl)
