-- ===== count =====
def sCnt (S : zS) (w : Int32) : Int32 × Option (List Int64) := (if w = 0 then nI S.1.1 else if w = 1 then nI S.1.2.2.1 else if w = 2 then nI (zChN (prP S.1) S.1.2.2.1) else if w = 3 then nI S.2.1.1 else if w = 4 then nI S.2.2.2.2.1 else if w = 5 then nI S.2.2.2.1.1 else if w = 6 then nI ((zPts S.1 (-1)).countP (zOffs S.1)) else -1, none)
theorem c_count {G : zG} (hG : zGok G) {k' : Nat} (hk : 6 ≤ k') {I : Nat → Nat → Int32} {J : Nat → Nat → Int64} {past : Nat → Nat} {Q : zRt} {S : zS} (hS : cSt I J past S) (hv : vS S) (w : Int32) (h : ∀ I' J', cSt I' J' past (sOut S ( sCnt S w)) → cFr I J I' J' → Q (some (.int ( sCnt S w).1)) (zK0, I', J', zR0 past)) : zCalls G k' yX11_count [.ref 0, .int w] (zK0, I, J, zR0 past) Q := by
  refine rnX11_count hG hk 0 w ?_
  have h0 := fun (x : Int32) (e : (sCnt S w).1 = x) => show Q (some (.int x)) (zK0, I, J, zR0 past) by
    have := h I J hS (fun _ _ => ⟨rfl, rfl⟩)
    rw [e] at this
    exact this
  refine sgX11_count hG [] 60 0 ?_
  refine And.intro (fun c => ?_) (fun c0 => ?_)
  · subst c
    exact h0 (I 1 0) (by rw [show I 1 0 = nI S.1.1 from hS.1.1]; rfl)
  refine And.intro (fun c => ?_) (fun c1 => ?_)
  · subst c
    exact h0 (I 1 1) (by rw [show I 1 1 = nI S.1.2.2.1 from hS.1.2.1]; rfl)
  refine And.intro (fun c => ?_) (fun c2 => ?_)
  · subst c
    exact c_checkedCuts hG (by decide) hS.1 hv.1 (h0 _ rfl)
  refine And.intro (fun c => ?_) (fun c3 => ?_)
  · subst c
    exact h0 (I 25 0) (by rw [show I 25 0 = nI S.2.1.1 from hS.2.1.1]; rfl)
  refine And.intro (fun c => ?_) (fun c4 => ?_)
  · subst c
    exact h0 (I 128 0) (by rw [show I 128 0 = nI S.2.2.2.2.1 from hS.2.2.2.2.1]; rfl)
  refine And.intro (fun c => ?_) (fun c5 => ?_)
  · subst c
    refine c_size hG (by decide) ?_
    exact h0 (I 126 0) (by rw [show I 126 0 = nI S.2.2.2.1.1 from hS.2.2.2.1.1]; rfl)
  refine And.intro (fun c => ?_) (fun c6 => ?_)
  · subst c
    refine c_gather hG (by decide) (Or.inl rfl) hS.1 hv.1.1.1 (-1) (fun I1 f1 p1 => ?_)
    have q1 : cQ I J I1 J := fun x hx => ⟨f1 x (by omega) (by omega) (by omega), rfl⟩
    have k := h I1 J (cSt_same hS hv q1 (f1 128 (by decide) (by decide) (by decide)) rfl) (cQ_fr q1)
    exact c_cutOff hG (by decide) (cQ_pl q1 hv.1.2.1 hS.1) hv.1 p1 (zPts_bd S.1 (-1)) k
  · refine h0 _ ?_
    unfold sCnt
    rw [if_neg c0, if_neg c1, if_neg c2, if_neg c3, if_neg c4, if_neg c5, if_neg c6]
theorem m_count {G : zG} (hG : zGok G) {k' : Nat} (hk : 7 ≤ k') {I : Nat → Nat → Int32} {J : Nat → Nat → Int64} {past : Nat → Nat} {Q : zRt} {S : zS} (hS : mSt I J S) (hv : vS S) (w : Int32) (h : ∀ I' J', mSt I' J' (sOut S ( sCnt S w)) → mFr I J I' J' → Q (some (.int ( sCnt S w).1)) (zK0, I', J', zR0 past)) : zCalls G k' yX12_count [.ref 305, .int w] (zK0, I, J, zR0 past) Q := by
  have hS0 := mSt_thr (v := 0) hS
  have hQ0 : mQ I J (z_upI I 305 5 0) J := mQ_u (by omega)
  refine rnX12_count hG hk 305 w ?_
  have h0 := fun (x : Int32) (e : (sCnt S w).1 = x) => show Q (some (.int x)) (zK0, z_upI I 305 5 0, J, zR0 past) by
    have := h _ J hS0 (mQ_fr hQ0)
    rw [e] at this
    exact this
  refine sgX12_count hG [] 60 0 ?_
  refine And.intro (fun c => ?_) (fun c0 => ?_)
  · subst c
    refine And.intro (by unfold vp_in; decide) ?_
    exact h0 (z_upI I 305 5 0 306 (0 : Int32).toNatClampNeg) (by rw [show z_upI I 305 5 0 306 (0 : Int32).toNatClampNeg = nI S.1.1 from hS0.1.1]; rfl)
  refine And.intro (fun c => ?_) (fun c1 => ?_)
  · subst c
    refine And.intro (by unfold vp_in; decide) ?_
    exact h0 (z_upI I 305 5 0 306 (19 : Int32).toNatClampNeg) (by rw [show z_upI I 305 5 0 306 (19 : Int32).toNatClampNeg = nI S.1.2.2.1 from hS0.1.2.1]; rfl)
  refine And.intro (fun c => ?_) (fun c2 => ?_)
  · subst c
    exact m_provenMany hG (by decide) hS0.1 hv.1 (h0 _ rfl)
  refine And.intro (fun c => ?_) (fun c3 => ?_)
  · subst c
    exact h0 (z_upI I 305 5 0 305 13) (by rw [show z_upI I 305 5 0 305 13 = nI S.2.1.1 from hS0.2.1.1]; rfl)
  refine And.intro (fun c => ?_) (fun c4 => ?_)
  · subst c
    exact h0 (z_upI I 305 5 0 305 4) (by rw [show z_upI I 305 5 0 305 4 = nI S.2.2.2.2.1 from hS0.2.2.2.2.1]; rfl)
  refine And.intro (fun c => ?_) (fun c5 => ?_)
  · subst c
    exact h0 (z_upI I 305 5 0 305 2) (by rw [show z_upI I 305 5 0 305 2 = nI S.2.2.2.1.1 from hS0.2.2.2.1.1]; rfl)
  refine And.intro (fun c => ?_) (fun c6 => ?_)
  · subst c
    refine m_brokenMany hG (by decide) hS0.1 hv.1 (fun I1 f1 g1 => ?_)
    have q1 : mQ I J I1 J := mQ_tr hQ0 ⟨fun x hx => ⟨f1 x (by omega) (by omega), rfl⟩, g1 2 (by decide), g1 13 (by decide)⟩
    exact h I1 J (mSt_same hS q1 (by rw [g1 4 (by decide), uI_k (by decide)]) rfl) (mQ_fr q1)
  · refine h0 _ ?_
    unfold sCnt
    rw [if_neg c0, if_neg c1, if_neg c2, if_neg c3, if_neg c4, if_neg c5, if_neg c6]
-- ===== breaks =====
def brF (π : zPl) (x y d : Nat) (i : Nat) : Int := - exI (π.2.2.2 i) x y d
def brB (π : zPl) (x y d : Nat) : Nat := zBest (brF π x y d) π.2.2.1
def sBrk (π : zPl) (x y d : Int32) : Int32 × Option (List Int64) := if bPt x y d then (if π.2.2.1 = 0 then (-2, none) else (nI (brB π x.toNatClampNeg y.toNatClampNeg d.toNatClampNeg), some [(zred (zEx (π.2.2.2 (brB π x.toNatClampNeg y.toNatClampNeg d.toNatClampNeg)) x y d) d.toInt64).1, (zred (zEx (π.2.2.2 (brB π x.toNatClampNeg y.toNatClampNeg d.toNatClampNeg)) x y d) d.toInt64).2])) else (-1, none)
theorem c_breaks {G : zG} (hG : zGok G) {k' : Nat} (hk : 4 ≤ k') {I : Nat → Nat → Int32} {J : Nat → Nat → Int64} {past : Nat → Nat} {Q : zRt} {S : zS} (hS : cSt I J past S) (hv : vS S) (x y d : Int32) (h : ∀ I' J', cSt I' J' past (sOut S ( sBrk S.1 x y d)) → cFr I J I' J' → Q (some (.int ( sBrk S.1 x y d).1)) (zK0, I', J', zR0 past)) : zCalls G k' yX11_breaks [.ref 0, .int x, .int y, .int d] (zK0, I, J, zR0 past) Q := by
  refine rnX11_breaks hG hk 0 x y d ?_
  refine sgX11_breaks hG [30] 100 0 ?_
  refine c_isPoint hG (by decide) x y d ?_
  have h8 := hv.1.2.1
  refine And.intro (fun c => ?_) (fun c => ?_)
  · have t := z_nb1 (x := 0) c
    obtain ⟨xn, yn, dn, rfl, rfl, rfl, d1, d2, hx, hy⟩ := bPt_in t
    have e11 : I 1 1 = nI S.1.2.2.1 := hS.1.2.1
    unfold sBrk at h
    rw [if_pos t, nI_clamp (by omega), nI_clamp (by omega), nI_clamp (by omega)] at h
    refine And.intro (fun c => ?_) (fun c => ?_)
    · have n0 : ¬ S.1.2.2.1 = 0 := fun q => c (by rw [e11, q]; rfl)
      rw [if_neg n0] at h
      have bx : ∀ i, i < S.1.2.2.1 → (exI (S.1.2.2.2 i) xn yn dn).natAbs ≤ 156000000 := fun i hi => exI_bd (hv.1.2.2 i hi) (by omega) (by omega) (by omega)
      have loop : ∀ (r i : Nat) (v w : Int32), v = nI i → w = nI (zBest (brF S.1 xn yn dn) i) → 1 ≤ i → i + r = S.1.2.2.1 → aX11_breaks G Q 30 [some (.ref 0), some (.int (nI xn)), some (.int (nI yn)), some (.int (nI dn)), some (.int w), some (.int v)] [] (zK0, I, J, zR0 past) := by
        intro r
        induction r with
        | zero =>
          intro i v w ev ew h1 hi
          subst ev
          subst ew
          have hb := zBest_lt (brF S.1 xn yn dn) i (by omega)
          refine sgX11_breaks hG [30] 100 30 ?_
          refine And.intro (fun _ => ?_) (fun q => absurd (by rw [e11, nI_leI (by omega) (by omega)]; omega) q)
          have ei : i = S.1.2.2.1 := by omega
          have eb : zBest (brF S.1 xn yn dn) i = brB S.1 xn yn dn := by rw [ei]; rfl
          rw [eb] at hb ⊢
          refine c_cutExcess hG (by decide) hS.1 h8 (i := brB S.1 xn yn dn) (by omega) _ _ _ ?_
          have ez := zEx_I (S.1.2.2.2 (brB S.1 xn yn dn)) (x := xn) (y := yn) (d := dn) (by omega) (by omega) (by omega)
          have bz := bx (brB S.1 xn yn dn) (by omega)
          have edn : (nI dn).toInt64 = lN dn := nI_l (by omega)
          refine c_put hG (by decide) 269 rfl _ _ (by rw [ez, lI_T (by omega)]; omega) (by rw [edn, lN_I, lI_T (by omega)]; omega) (by rw [edn, ← z_lN0, pk_lEQ (by omega) (by omega)]; omega) ?_
          refine c_clear hG (by decide) (fun I2 f2 n2 => ?_)
          refine c_tellRatio hG (by decide) n2 (by decide) 269 rfl (by decide) (fun I3 J3 f3 g3 n3 => ?_)
          rw [uJ_s, uJ_k (by decide), uJ_s] at n3
          have q3 : cQ I J I3 J3 := fun x hx => ⟨by rw [f3 x (by omega), f2 x (by omega)], by rw [g3 x (by omega), z_upJ_ne (by omega), z_upJ_ne (by omega)]⟩
          exact h I3 J3 (cSt_tel hS hv q3 n3) (cQ_fr q3)
        | succ r ih =>
          intro i v w ev ew h1 hi
          subst ev
          subst ew
          have hb := zBest_lt (brF S.1 xn yn dn) i (by omega)
          have ez1 := zEx_I (S.1.2.2.2 i) (x := xn) (y := yn) (d := dn) (by omega) (by omega) (by omega)
          have ez2 := zEx_I (S.1.2.2.2 (zBest (brF S.1 xn yn dn) i)) (x := xn) (y := yn) (d := dn) (by omega) (by omega) (by omega)
          have b1 := bx i (by omega)
          have b2 := bx (zBest (brF S.1 xn yn dn) i) (by omega)
          have es : zBest (brF S.1 xn yn dn) (i + 1) = if brF S.1 xn yn dn i < brF S.1 xn yn dn (zBest (brF S.1 xn yn dn) i) then i else zBest (brF S.1 xn yn dn) i := rfl
          refine sgX11_breaks hG [30] 100 30 ?_
          refine And.intro (fun q => absurd q (by rw [e11, nI_leI (by omega) (by omega)]; omega)) (fun _ => ?_)
          refine c_cutExcess hG (by decide) hS.1 h8 (i := i) (by omega) _ _ _ ?_
          refine c_cutExcess hG (by decide) hS.1 h8 (i := zBest (brF S.1 xn yn dn) i) (by omega) _ _ _ ?_
          rw [ez1, ez2]
          refine And.intro (fun f => ?_) (fun f => ?_)
          · rw [lI_le (by omega) (by omega)] at f
            rw [if_neg (by show ¬ (- exI (S.1.2.2.2 i) xn yn dn < - exI (S.1.2.2.2 (zBest (brF S.1 xn yn dn) i)) xn yn dn); omega)] at es
            exact ih (i + 1) _ _ (by rw [nI_1]) (by rw [es]) (by omega) (by omega)
          · rw [lI_le (by omega) (by omega)] at f
            rw [if_pos (by show - exI (S.1.2.2.2 i) xn yn dn < - exI (S.1.2.2.2 (zBest (brF S.1 xn yn dn) i)) xn yn dn; omega)] at es
            exact ih (i + 1) _ _ (by rw [nI_1]) (by rw [es]) (by omega) (by omega)
      exact loop (S.1.2.2.1 - 1) 1 1 0 rfl (by rw [zBest_1]; rfl) (by omega) (by omega)
    · have n0 : S.1.2.2.1 = 0 := by
        rw [e11, show (0 : Int32) = nI 0 from rfl, nI_eq (by omega) (by omega)] at c
        exact c
      rw [if_pos n0] at h
      exact h I J hS (fun _ _ => ⟨rfl, rfl⟩)
  · have t := (zb_eq0 _).mp c
    have e : sBrk S.1 x y d = (-1, none) := by unfold sBrk; rw [t]; rfl
    rw [e] at h
    exact h I J hS (fun _ _ => ⟨rfl, rfl⟩)
theorem m_breaks {G : zG} (hG : zGok G) {k' : Nat} (hk : 4 ≤ k') {I : Nat → Nat → Int32} {J : Nat → Nat → Int64} {past : Nat → Nat} {Q : zRt} {S : zS} (hS : mSt I J S) (hv : vS S) (x y d : Int32) (h : ∀ I' J', mSt I' J' (sOut S ( sBrk S.1 x y d)) → mFr I J I' J' → Q (some (.int ( sBrk S.1 x y d).1)) (zK0, I', J', zR0 past)) : zCalls G k' yX12_breaks [.ref 305, .int x, .int y, .int d] (zK0, I, J, zR0 past) Q := by
  have hS0 := mSt_thr (v := 0) hS
  have hQ0 : mQ I J (z_upI I 305 5 0) J := mQ_u (by omega)
  refine rnX12_breaks hG hk 305 x y d ?_
  refine sgX12_breaks hG [25] 100 0 ?_
  refine m_isPoint hG (by decide) x y d ?_
  have h8 := hv.1.2.1
  refine And.intro (fun c => ?_) (fun c => ?_)
  · have t := z_nb1 (x := 0) c
    obtain ⟨xn, yn, dn, rfl, rfl, rfl, d1, d2, hx, hy⟩ := bPt_in t
    have e19 : z_upI I 305 5 0 306 (19 : Int32).toNatClampNeg = nI S.1.2.2.1 := hS0.1.2.1
    unfold sBrk at h
    rw [if_pos t, nI_clamp (by omega), nI_clamp (by omega), nI_clamp (by omega)] at h
    have bx : ∀ i, i < S.1.2.2.1 → (exI (S.1.2.2.2 i) xn yn dn).natAbs ≤ 156000000 := fun i hi => exI_bd (hv.1.2.2 i hi) (by omega) (by omega) (by omega)
    have zx : ∀ i, zEx (S.1.2.2.2 i) (nI xn) (nI yn) (nI dn) = Int64.ofInt (exI (S.1.2.2.2 i) xn yn dn) := fun i => zEx_I (S.1.2.2.2 i) (x := xn) (y := yn) (d := dn) (by omega) (by omega) (by omega)
    have loop : ∀ (r i : Nat) (v w : Int32) (z : Int64) (o8 o9 : Option Value), v = nI i → w = (if i = 0 then -1 else nI (zBest (brF S.1 xn yn dn) i)) → (1 ≤ i → z = zEx (S.1.2.2.2 (zBest (brF S.1 xn yn dn) i)) (nI xn) (nI yn) (nI dn)) → i + r = S.1.2.2.1 → aX12_breaks G Q 25 [some (.ref 305), some (.int (nI xn)), some (.int (nI yn)), some (.int (nI dn)), some (.int w), some (.long z), none, some (.int v), o8, o9] [] (zK0, z_upI I 305 5 0, J, zR0 past) := by
      intro r
      induction r with
      | zero =>
        intro i v w z o8 o9 ev ew ez hi
        subst ev
        subst ew
        refine sgX12_breaks hG [25] 100 25 ?_
        refine And.intro (by unfold vp_in; decide) ?_
        refine And.intro (fun _ => ?_) (fun q => absurd (by rw [e19, nI_leI (by omega) (by omega)]; omega) q)
        by_cases n0 : S.1.2.2.1 = 0
        · rw [if_pos n0] at h
          rw [if_pos (by omega)]
          refine And.intro (fun q => absurd rfl q) (fun _ => ?_)
          exact h _ J hS0 (mQ_fr hQ0)
        · rw [if_neg n0] at h
          rw [if_neg (by omega)]
          have hb := zBest_lt (brF S.1 xn yn dn) i (by omega)
          have ei : i = S.1.2.2.1 := by omega
          have eb : zBest (brF S.1 xn yn dn) i = brB S.1 xn yn dn := by rw [ei]; rfl
          rw [eb] at hb ez ⊢
          have ez := ez (by omega)
          have bz := bx (brB S.1 xn yn dn) (by omega)
          have edn : (nI dn).toInt64 = lN dn := nI_l (by omega)
          have nm : ¬ nI (brB S.1 xn yn dn) = -1 := fun q => by
            have := nI_toInt (n := brB S.1 xn yn dn) (by omega)
            rw [q, show (-1 : Int32).toInt = -1 from by decide] at this
            omega
          refine And.intro (fun _ => ?_) (fun q => absurd q nm)
          refine m_tellFraction hG (by decide) mNm_0 (by decide) _ _ (by rw [ez, zx, lI_T (by omega)]; omega) (by rw [edn, lN_I, lI_T (by omega)]; omega) (by rw [edn, ← z_lN0, pk_lEQ (by omega) (by omega)]; omega) (fun I2 J2 f2 g2 k2 l2 n2 => ?_)
          rw [ez] at n2
          have q2 : mQ I J I2 J2 := mQ_tr hQ0 (mQ_tr (J1 := J) (I1 := z_upI (z_upI I 305 5 0) 305 4 0) (mQ_u (by omega)) ⟨fun x hx => ⟨f2 x (by omega), k2 x (by omega) (by omega)⟩, g2 _ (by decide), g2 _ (by decide)⟩)
          exact h I2 J2 (mSt_tel hS q2 n2) (mQ_fr q2)
      | succ r ih =>
        intro i v w z o8 o9 ev ew ez hi
        subst ev
        subst ew
        have b1 := bx i (by omega)
        have es : zBest (brF S.1 xn yn dn) (i + 1) = if brF S.1 xn yn dn i < brF S.1 xn yn dn (zBest (brF S.1 xn yn dn) i) then i else zBest (brF S.1 xn yn dn) i := rfl
        refine sgX12_breaks hG [25] 100 25 ?_
        refine And.intro (by unfold vp_in; decide) ?_
        refine And.intro (fun q => absurd q (by rw [e19, nI_leI (by omega) (by omega)]; omega)) (fun _ => ?_)
        refine m_stored hG (by decide) hS0.1 h8 (i := i) (by omega) (j := 0) rfl (by omega) ?_
        refine m_stored hG (by decide) hS0.1 h8 (i := i) (by omega) (j := 1) rfl (by omega) ?_
        refine m_stored hG (by decide) hS0.1 h8 (i := i) (by omega) (j := 2) rfl (by omega) ?_
        have take : zBest (brF S.1 xn yn dn) (i + 1) = i → aX12_breaks G Q 25 [some (.ref 305), some (.int (nI xn)), some (.int (nI yn)), some (.int (nI dn)), some (.int (nI i)), some (.long (zEx (S.1.2.2.2 i) (nI xn) (nI yn) (nI dn))), none, some (.int (nI i + 1)), some (.long (zEx (S.1.2.2.2 i) (nI xn) (nI yn) (nI dn))), none] [] (zK0, z_upI I 305 5 0, J, zR0 past) := fun e => ih (i + 1) _ _ _ _ _ (by rw [nI_1]) (by rw [if_neg (by omega), e]) (fun _ => by rw [e]) (by omega)
        by_cases i0 : i = 0
        · subst i0
          rw [if_pos rfl]
          refine And.intro (fun _ => ?_) (fun q => absurd rfl q)
          exact take (by rw [zBest_1])
        · have hb := zBest_lt (brF S.1 xn yn dn) i (by omega)
          have b2 := bx (zBest (brF S.1 xn yn dn) i) (by omega)
          have ez := ez (by omega)
          have nm : ¬ nI (zBest (brF S.1 xn yn dn) i) = -1 := fun q => by
            have := nI_toInt (n := zBest (brF S.1 xn yn dn) i) (by omega)
            rw [q, show (-1 : Int32).toInt = -1 from by decide] at this
            omega
          rw [if_neg i0]
          refine And.intro (fun q => absurd q nm) (fun _ => ?_)
          subst ez
          refine And.intro (fun f => ?_) (fun f => ?_)
          · have f : zEx (S.1.2.2.2 (zBest (brF S.1 xn yn dn) i)) (nI xn) (nI yn) (nI dn) < zEx (S.1.2.2.2 i) (nI xn) (nI yn) (nI dn) := f
            rw [zx, zx, lI_lt (by omega) (by omega)] at f
            rw [if_pos (by show - exI (S.1.2.2.2 i) xn yn dn < - exI (S.1.2.2.2 (zBest (brF S.1 xn yn dn) i)) xn yn dn; omega)] at es
            exact take es
          · have f : ¬ zEx (S.1.2.2.2 (zBest (brF S.1 xn yn dn) i)) (nI xn) (nI yn) (nI dn) < zEx (S.1.2.2.2 i) (nI xn) (nI yn) (nI dn) := f
            rw [zx, zx, lI_lt (by omega) (by omega)] at f
            rw [if_neg (by show ¬ (- exI (S.1.2.2.2 i) xn yn dn < - exI (S.1.2.2.2 (zBest (brF S.1 xn yn dn) i)) xn yn dn); omega)] at es
            exact ih (i + 1) _ _ _ _ _ (by rw [nI_1]) (by rw [if_neg (by omega), es]) (fun _ => by rw [es]) (by omega)
    exact loop S.1.2.2.1 0 0 (-1) 0 none none rfl rfl (fun q => absurd q (by omega)) (by omega)
  · have t := (zb_eq0 _).mp c
    have e : sBrk S.1 x y d = (-1, none) := by unfold sBrk; rw [t]; rfl
    rw [e] at h
    exact h _ J hS0 (mQ_fr hQ0)
