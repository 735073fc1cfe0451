-- ===== wholes, loses =====
theorem z_arg {G : zG} {k' : Nat} {y : MethodName} {args args' : List Value} {σ : zSt} {Q : zRt} (h : args = args') (k : zCalls G k' y args' σ Q) : zCalls G k' y args σ Q := h ▸ k
def zP0 (L : List (Nat × Nat)) (i : Nat) : Nat × Nat := L.getD i (0, 0)
theorem zP0_at {L : List (Nat × Nat)} {i : Nat} (h : i < L.length) : L[i]? = some (zP0 L i) := by
  unfold zP0
  rw [List.getD_eq_getElem?_getD, List.getElem?_eq_getElem h]; rfl
def sWho (π : zPl) : Int32 × Option (List Int64) := (nI (zPts π (-1)).length, some (if (zPts π (-1)).length = 0 then [] else [lN (zP0 (zPts π (-1)) 0).1, lN (zP0 (zPts π (-1)) 0).2, lN (zP0 (zPts π (-1)) ((zPts π (-1)).length - 1)).1, lN (zP0 (zPts π (-1)) ((zPts π (-1)).length - 1)).2]))
theorem c_wholes {G : zG} (hG : zGok G) {k' : Nat} (hk : 5 ≤ k') {I : Nat → Nat → Int32} {J : Nat → Nat → Int64} {past : Nat → Nat} {Q : zRt} {S : zS} (hS : cSt I J past S) (hv : vS S)  (h : ∀ I' J', cSt I' J' past (sOut S ( sWho S.1)) → cFr I J I' J' → Q (some (.int ( sWho S.1).1)) (zK0, I', J', zR0 past)) : zCalls G k' yX11_wholes [.ref 0] (zK0, I, J, zR0 past) Q := by
  refine rnX11_wholes hG hk 0  ?_
  refine sgX11_wholes hG [] 60 0 ?_
  have bL := zPts_bd S.1 (-1)
  refine c_gather hG (by decide) (Or.inl rfl) hS.1 hv.1.1.1 (-1) (fun I1 f1 p1 => ?_)
  refine c_clear hG (by decide) (fun I2 f2 n2 => ?_)
  have p2 : cPts I2 (zPts S.1 (-1)) := cPts_fr p1 (f2 264 (by decide)) (f2 265 (by decide)) (f2 266 (by decide))
  have q2 : cQ I J I2 J := fun x hx => ⟨by rw [f2 x (by omega), f1 x (by omega) (by omega) (by omega)], rfl⟩
  unfold sWho at h
  generalize zPts S.1 (-1) = L at *
  have hl := bL.1
  have fin : ∀ I3 J3, cQ I2 J I3 J3 → cPts I3 L → (∀ N, cNm I3 J3 N → N = (if L.length = 0 then [] else [lN (zP0 L 0).1, lN (zP0 L 0).2, lN (zP0 L (L.length - 1)).1, lN (zP0 L (L.length - 1)).2]) → Q (some (.int (I3 264 0))) (zK0, I3, J3, zR0 past)) := by
    intro I3 J3 q3 p3 N hN eN
    rw [p3.1]
    subst eN
    exact h I3 J3 (cSt_tel hS hv (cQ_tr q2 q3) hN) (cQ_fr (cQ_tr q2 q3))
  refine And.intro (fun c => ?_) (fun c => ?_)
  · have c : nI L.length ≤ nI 0 := by rw [← p2.1]; exact c
    rw [nI_leI (by omega) (by omega)] at c
    exact fin I2 J cQ_rfl p2 [] n2 (by rw [if_pos (by omega)])
  · have c : ¬ nI L.length ≤ nI 0 := by rw [← p2.1]; exact c
    rw [nI_leI (by omega) (by omega)] at c
    refine c_ptell hG (by decide) p2 bL (i := 0) (zP0_at (by omega)) n2 (by decide) (fun I3 J3 f3 g3 n3 => ?_)
    have p3 : cPts I3 L := cPts_fr p2 (f3 264 (by decide)) (f3 265 (by decide)) (f3 266 (by decide))
    have em : I3 264 0 - 1 = nI (L.length - 1) := by rw [p3.1, show (1 : Int32) = nI 1 from rfl, pk_sub (by omega)]
    refine z_arg (args' := [.ref 264, .int (nI (L.length - 1)), .ref 128]) (by rw [em]) ?_
    refine c_ptell hG (by decide) p3 bL (zP0_at (by omega)) n3 (by simp) (fun I4 J4 f4 g4 n4 => ?_)
    have p4 : cPts I4 L := cPts_fr p3 (f4 264 (by decide)) (f4 265 (by decide)) (f4 266 (by decide))
    refine fin I4 J4 (fun x hx => ⟨by rw [f4 x (by omega), f3 x (by omega)], by rw [g4 x (by omega), g3 x (by omega)]⟩) p4 _ n4 (by rw [if_neg (by omega)]; rfl)
theorem m_wholes {G : zG} (hG : zGok G) {k' : Nat} (hk : 6 ≤ k') {I : Nat → Nat → Int32} {J : Nat → Nat → Int64} {past : Nat → Nat} {Q : zRt} {S : zS} (hS : mSt I J S) (hv : vS S)  (h : ∀ I' J', mSt I' J' (sOut S ( sWho S.1)) → mFr I J I' J' → Q (some (.int ( sWho S.1).1)) (zK0, I', J', zR0 past)) : zCalls G k' yX12_wholes [.ref 305] (zK0, I, J, zR0 past) Q := by
  have hS0 := mSt_thr (v := 0) hS
  have hQ0 : mQ I J (z_upI I 305 5 0) J := mQ_u (by omega)
  refine rnX12_wholes hG hk 305  ?_
  refine sgX12_wholes hG [] 60 0 ?_
  have bL := zPts_bd S.1 (-1)
  refine m_layWholes hG (by decide) hS0.1 hv.1.1.1 (fun I1 f1 g1 p1 => ?_)
  have q1 : mQ I J (z_upI I1 305 4 0) J := by
    refine mQ_tr hQ0 (mQ_tr (J1 := J) (I1 := I1) ⟨fun x hx => ⟨f1 x (by omega) (by omega), rfl⟩, g1 2 (by decide), g1 13 (by decide)⟩ (mQ_u (by omega)))
  unfold sWho at h
  generalize zPts S.1 (-1) = L at *
  have hl := bL.1
  have e29 : z_upI I1 305 4 0 305 29 = nI L.length := by rw [uI_k (by decide)]; exact p1.1
  refine And.intro (fun c => ?_) (fun c => ?_)
  · have c : ¬ nI L.length = nI 0 := by rw [← e29]; exact c
    rw [nI_eq (by omega) (by omega)] at c
    have a0 := p1.2 0 _ (zP0_at (by omega))
    have a1 := p1.2 (L.length - 1) _ (zP0_at (by omega))
    have b0 := bL.2 0 _ (zP0_at (by omega))
    have b1 := bL.2 (L.length - 1) _ (zP0_at (by omega))
    have i1 : (2 : Int32) * nI L.length - 2 = nI (2 * (L.length - 1)) := by rw [show (2 : Int32) = nI 2 from rfl, pk_mul, pk_sub (by omega)]; congr 1; omega
    have i2 : (2 : Int32) * nI L.length - 1 = nI (2 * (L.length - 1) + 1) := by rw [show (2 : Int32) = nI 2 from rfl, pk_mul, show (1 : Int32) = nI 1 from rfl, pk_sub (by omega)]; congr 1; omega
    refine And.intro (by unfold vp_in; decide) ?_
    refine m_tellL hG (by decide) mNm_0 (by decide) _ (fun I2 J2 f2 g2 k2 n2 => ?_)
    refine And.intro (by unfold vp_in; decide) ?_
    refine m_tellL hG (by decide) n2 (by simp) _ (fun I3 J3 f3 g3 k3 n3 => ?_)
    have e3 : I3 305 29 = nI L.length := by rw [g3 _ (by decide), g2 _ (by decide)]; exact e29
    refine And.intro (by rw [e3, i1]; exact vp_in_nI (by omega) (by omega)) ?_
    refine m_tellL hG (by decide) n3 (by simp) _ (fun I4 J4 f4 g4 k4 n4 => ?_)
    have e4 : I4 305 29 = nI L.length := by rw [g4 _ (by decide)]; exact e3
    refine And.intro (by rw [e4, i2]; exact vp_in_nI (by omega) (by omega)) ?_
    refine m_tellL hG (by decide) n4 (by simp) _ (fun I5 J5 f5 g5 k5 n5 => ?_)
    have e5 : I5 305 29 = nI L.length := by rw [g5 _ (by decide)]; exact e4
    have r4 : I4 316 = I1 316 := by rw [f4 316 (by decide), f3 316 (by decide), f2 316 (by decide), z_upI_ne (by decide)]
    have r3 : I3 316 = I1 316 := by rw [f3 316 (by decide), f2 316 (by decide), z_upI_ne (by decide)]
    have r2 : I2 316 = I1 316 := by rw [f2 316 (by decide), z_upI_ne (by decide)]
    have x0 : z_upI I1 305 4 0 316 (0 : Int32).toNatClampNeg = nI (zP0 L 0).1 := by rw [z_upI_ne (by decide)]; exact a0.1
    have x1 : I2 316 (1 : Int32).toNatClampNeg = nI (zP0 L 0).2 := by rw [r2]; exact a0.2
    have x2 : I3 316 ((2 : Int32) * I3 305 29 - 2).toNatClampNeg = nI (zP0 L (L.length - 1)).1 := by rw [e3, i1, nI_clamp (by omega), r3]; exact a1.1
    have x3 : I4 316 ((2 : Int32) * I4 305 29 - 1).toNatClampNeg = nI (zP0 L (L.length - 1)).2 := by rw [e4, i2, nI_clamp (by omega), r4]; exact a1.2
    rw [x0, x1, x2, x3, nI_l (by omega), nI_l (by omega), nI_l (by omega), nI_l (by omega)] at n5
    rw [if_neg (by omega)] at h
    have q5 : mQ I J I5 J5 := mQ_tr q1 ⟨fun x hx => ⟨by rw [f5 x (by omega), f4 x (by omega), f3 x (by omega), f2 x (by omega)], by rw [k5 x (by omega), k4 x (by omega), k3 x (by omega), k2 x (by omega)]⟩, by rw [g5 _ (by decide), g4 _ (by decide), g3 _ (by decide), g2 _ (by decide)], by rw [g5 _ (by decide), g4 _ (by decide), g3 _ (by decide), g2 _ (by decide)]⟩
    have k := h I5 J5 (mSt_tel hS q5 n5) (mQ_fr q5)
    rw [← e5] at k
    exact k
  · have c : nI L.length = nI 0 := by rw [← e29]; exact c
    rw [nI_eq (by omega) (by omega)] at c
    rw [if_pos c, c] at h
    exact h _ J (mSt_tel hS q1 mNm_0) (mQ_fr q1)
def sLos (π : zPl) (a b c : Int32) : Int32 × Option (List Int64) := if bRw a b c then (nI (zAbv a.toInt b.toInt c.toInt (zPts π (-1))), some [lN ((zPts π (-1)).length - zAbv a.toInt b.toInt c.toInt (zPts π (-1)))]) else (-1, none)
theorem bRw_bd {a b c : Int32} (h : bRw a b c = true) : a.toInt.natAbs ≤ 5 ∧ b.toInt.natAbs ≤ 5 ∧ c.toInt.natAbs ≤ 50 := by
  obtain ⟨⟨a1, a2⟩, ⟨b1, b2⟩, ⟨c1, c2⟩, _⟩ := bRw_ok h
  have e1 : (-5 : Int32).toInt = -5 := by decide
  have e2 : (5 : Int32).toInt = 5 := by decide
  have e3 : (-50 : Int32).toInt = -50 := by decide
  have e4 : (50 : Int32).toInt = 50 := by decide
  rw [Int32.le_iff_toInt_le] at a1 a2 b1 b2 c1 c2
  omega
theorem zAbv_le (a b c : Int) (L : List (Nat × Nat)) : zAbv a b c L ≤ L.length := List.countP_le_length
theorem c_loses {G : zG} (hG : zGok G) {k' : Nat} (hk : 5 ≤ k') {I : Nat → Nat → Int32} {J : Nat → Nat → Int64} {past : Nat → Nat} {Q : zRt} {S : zS} (hS : cSt I J past S) (hv : vS S) (a b c : Int32) (h : ∀ I' J', cSt I' J' past (sOut S ( sLos S.1 a b c)) → cFr I J I' J' → Q (some (.int ( sLos S.1 a b c).1)) (zK0, I', J', zR0 past)) : zCalls G k' yX11_loses [.ref 0, .int a, .int b, .int c] (zK0, I, J, zR0 past) Q := by
  refine rnX11_loses hG hk 0 a b c ?_
  refine sgX11_loses hG [] 60 0 ?_
  refine c_isRow hG (by decide) a b c ?_
  have bL := zPts_bd S.1 (-1)
  refine And.intro (fun c1 => ?_) (fun c1 => ?_)
  · have t := z_nb1 (x := 0) c1
    have bd := bRw_bd t
    unfold sLos at h
    rw [if_pos t] at h
    refine c_gather hG (by decide) (Or.inl rfl) hS.1 hv.1.1.1 (-1) (fun I1 f1 p1 => ?_)
    generalize zPts S.1 (-1) = L at *
    have hl := bL.1
    have ha := zAbv_le a.toInt b.toInt c.toInt L
    have ea : a.toInt64 = Int64.ofInt a.toInt := by rw [z_l_eq, z_i2l, lI_T (by omega)]
    have eb : b.toInt64 = Int64.ofInt b.toInt := by rw [z_l_eq, z_i2l, lI_T (by omega)]
    have ec : c.toInt64 = Int64.ofInt c.toInt := by rw [z_l_eq, z_i2l, lI_T (by omega)]
    refine z_arg (args' := [.ref 264, .long (Int64.ofInt a.toInt), .long (Int64.ofInt b.toInt), .long (Int64.ofInt c.toInt)]) (by rw [← ea, ← eb, ← ec]) ?_
    refine c_above hG (by decide) p1 bL _ _ _ (by omega) (by omega) (by omega) ?_
    refine c_clear hG (by decide) (fun I2 f2 n2 => ?_)
    refine c_tell hG (by decide) n2 (by decide) _ (fun I3 J3 f3 g3 n3 => ?_)
    have e0 : I2 264 0 = nI L.length := by rw [f2 264 (by decide)]; exact p1.1
    rw [e0, pk_sub ha, nI_l (by omega)] at n3
    have q3 : cQ I J I3 J3 := fun x hx => ⟨by rw [f3 x (by omega), f2 x (by omega), f1 x (by omega) (by omega) (by omega)], g3 x (by omega)⟩
    exact h I3 J3 (cSt_tel hS hv q3 n3) (cQ_fr q3)
  · have t := (zb_eq0 _).mp c1
    have e : sLos S.1 a b c = (-1, none) := by unfold sLos; rw [t]; rfl
    rw [e] at h
    exact h I J hS (fun _ _ => ⟨rfl, rfl⟩)
theorem m_loses {G : zG} (hG : zGok G) {k' : Nat} (hk : 6 ≤ k') {I : Nat → Nat → Int32} {J : Nat → Nat → Int64} {past : Nat → Nat} {Q : zRt} {S : zS} (hS : mSt I J S) (hv : vS S) (a b c : Int32) (h : ∀ I' J', mSt I' J' (sOut S ( sLos S.1 a b c)) → mFr I J I' J' → Q (some (.int ( sLos S.1 a b c).1)) (zK0, I', J', zR0 past)) : zCalls G k' yX12_loses [.ref 305, .int a, .int b, .int c] (zK0, I, J, zR0 past) Q := by
  have hS0 := mSt_thr (v := 0) hS
  have hQ0 : mQ I J (z_upI I 305 5 0) J := mQ_u (by omega)
  refine rnX12_loses hG hk 305 a b c ?_
  refine sgX12_loses hG [26] 60 0 ?_
  refine m_canBe hG (by decide) a b c ?_
  have bL := zPts_bd S.1 (-1)
  refine And.intro (fun c1 => ?_) (fun c1 => ?_)
  · have t := z_nb1 (x := 0) c1
    obtain ⟨da, db, dc⟩ := bRw_bd t
    unfold sLos at h
    rw [if_pos t] at h
    refine m_layWholes hG (by decide) hS0.1 hv.1.1.1 (fun I1 f1 g1 p1 => ?_)
    have q1 : mQ I J I1 J := mQ_tr hQ0 ⟨fun x hx => ⟨f1 x (by omega) (by omega), rfl⟩, g1 2 (by decide), g1 13 (by decide)⟩
    generalize zPts S.1 (-1) = L at *
    have h49 := bL.1
    have loop : ∀ (r i : Nat) (v w : Int32), v = nI i → w = nI ((L.take i).countP (fun q => decide (c.toInt < zSm a.toInt b.toInt q))) → i + r = L.length → aX12_loses G Q 26 [some (.ref 305), some (.int a), some (.int b), some (.int c), some (.int w), some (.int v)] [] (zK0, I1, J, zR0 past) := by
      intro r
      induction r with
      | zero =>
        intro i v w ev ew hi
        subst ev
        subst ew
        rw [List.take_of_length_le (by omega)]
        have ha := zAbv_le a.toInt b.toInt c.toInt L
        refine sgX12_loses hG [26] 60 26 ?_
        refine And.intro (fun _ => ?_) (fun q => absurd (by rw [p1.1, nI_leI (by omega) (by omega)]; omega) q)
        refine m_tellL hG (by decide) mNm_0 (by decide) _ (fun I2 J2 f2 g2 k2 n2 => ?_)
        have e0 : z_upI I1 305 4 0 305 29 = nI L.length := by rw [uI_k (by decide)]; exact p1.1
        have es : z_upI I1 305 4 0 305 29 - nI (L.countP (fun q => decide (c.toInt < zSm a.toInt b.toInt q))) = nI (L.length - zAbv a.toInt b.toInt c.toInt L) := by rw [e0]; exact pk_sub ha
        rw [es, nI_l (by omega)] at n2
        have q2 : mQ I J I2 J2 := mQ_tr q1 (mQ_tr (J1 := J) (I1 := z_upI I1 305 4 0) (mQ_u (by omega)) ⟨fun x hx => ⟨f2 x (by omega), k2 x (by omega)⟩, g2 2 (by decide), g2 13 (by decide)⟩)
        exact h I2 J2 (mSt_tel hS q2 n2) (mQ_fr q2)
      | succ r ih =>
        intro i v w ev ew hi
        subst ev
        subst ew
        obtain ⟨q, hq⟩ := z_get (L := L) (i := i) (by omega)
        obtain ⟨b1, b2⟩ := bL.2 i q hq
        obtain ⟨e1, e2⟩ := p1.2 i q hq
        have hlen : (L.take i).countP (fun q => decide (c.toInt < zSm a.toInt b.toInt q)) ≤ 49 := Nat.le_trans List.countP_le_length (Nat.le_trans (List.length_take_le i L) (by omega))
        have ht := z_tk (f := fun q => decide (c.toInt < zSm a.toInt b.toInt q)) hq
        have i1 : (2 : Int32) * nI i = nI (2 * i) := by rw [show (2 : Int32) = nI 2 from rfl, pk_mul]
        have i2 : (2 : Int32) * nI i + 1 = nI (2 * i + 1) := by rw [i1, nI_1]
        have es : a * I1 316 ((2 : Int32) * nI i).toNatClampNeg + b * I1 316 ((2 : Int32) * nI i + 1).toNatClampNeg = Int32.ofInt (zSm a.toInt b.toInt q) := by
          rw [i2, i1, nI_clamp (by omega), nI_clamp (by omega), e1, e2, nI_I, nI_I]
          unfold zSm
          rw [Int32.ofInt_add, Int32.ofInt_mul, Int32.ofInt_mul, ← i_of a, ← i_of b]
        have bs : (zSm a.toInt b.toInt q).natAbs ≤ 70 := by
          have x := bd_mul (b := (q.1 : Int)) (B := 7) da (by omega)
          have y := bd_mul (b := (q.2 : Int)) (B := 7) db (by omega)
          have z := bd_add x y
          unfold zSm
          omega
        have ec : Int32.ofInt (zSm a.toInt b.toInt q) ≤ c ↔ zSm a.toInt b.toInt q ≤ c.toInt := by rw [Int32.le_iff_toInt_le, iI_T (by omega)]
        refine sgX12_loses hG [26] 60 26 ?_
        refine And.intro (fun q => absurd q (by rw [p1.1, nI_leI (by omega) (by omega)]; omega)) (fun _ => ?_)
        refine And.intro (by rw [i1]; exact vp_in_nI (by omega) (by omega)) ?_
        refine And.intro (by rw [i2]; exact vp_in_nI (by omega) (by omega)) ?_
        refine And.intro (fun c1 => ?_) (fun c1 => ?_)
        · rw [es, ec] at c1
          rw [if_neg (by rw [decide_eq_true_eq]; omega)] at ht
          exact ih (i + 1) _ _ (by rw [nI_1]) (by rw [ht]; show _ + nI 0 = _; rw [nI_add]) (by omega)
        · rw [es, ec] at c1
          rw [if_pos (by rw [decide_eq_true_eq]; omega)] at ht
          exact ih (i + 1) _ _ (by rw [nI_1]) (by rw [ht, nI_1]) (by omega)
    exact loop L.length 0 0 0 rfl rfl (by omega)
  · have t := (zb_eq0 _).mp c1
    have e : sLos S.1 a b c = (-1, none) := by unfold sLos; rw [t]; rfl
    rw [e] at h
    exact h _ J hS0 (mQ_fr hQ0)
