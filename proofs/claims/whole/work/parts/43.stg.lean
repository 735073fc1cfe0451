-- ===== stronger =====
theorem j_floorDiv {G : zG} (hG : zGok G) {k' : Nat} (hk : 1 ≤ k') {σ : zSt} {Q : zRt} {a m : Int} (ha : a.natAbs < 2 ^ 62) (hm : 0 < m) (hm2 : m.natAbs < 2 ^ 62) (h : Q (some (.long (Int64.ofInt (a / m)))) σ) : zCalls G k' yJ9_floorDiv_f86c9 [.long (Int64.ofInt a), .long (Int64.ofInt m)] σ Q := by
  have ta := lI_T (a := a) (by omega)
  have tm := lI_T (a := m) (by omega)
  have m0 : (0 : Int64) ≤ Int64.ofInt m := by rw [Int64.le_iff_toInt_le, tm, Int64.toInt_zero]; omega
  have xr := z_lxor (x := Int64.ofInt a) m0
  have ed : (Int64.ofInt a / Int64.ofInt m).toInt = a.tdiv m := by rw [z_ldiv (by omega), ta, tm]
  have e1 : Int64.ofInt a / Int64.ofInt m = Int64.ofInt (a.tdiv m) := by rw [← ed, ← l_of]
  have hq : (a.tdiv m).natAbs ≤ a.natAbs := by rw [Int.natAbs_tdiv]; exact Nat.div_le_self _ _
  have mt := Int.tmod_add_mul_tdiv a m
  have me := Int.emod_add_mul_ediv a m
  have p0 := Int.emod_nonneg a (show m ≠ 0 by omega)
  have p1 := Int.emod_lt_of_pos a hm
  have r1 : (a.tmod m).natAbs < m.natAbs := by rw [Int.natAbs_tmod]; exact Nat.mod_lt _ (by omega)
  have e2 : Int64.ofInt a / Int64.ofInt m * Int64.ofInt m = Int64.ofInt (a.tdiv m * m) := by rw [e1, ← Int64.ofInt_mul]
  have b2 : (a.tdiv m * m).natAbs < 2 ^ 63 := by rw [Int.mul_comm]; omega
  have c2 : Int64.ofInt (a.tdiv m * m) = Int64.ofInt a ↔ a.tmod m = 0 := by
    rw [lI_eq b2 (by omega), Int.mul_comm]; omega
  have same : 0 ≤ a ∨ a.tmod m = 0 → a.tdiv m = a / m := by
    intro c
    rcases c with c | c
    · exact Int.tdiv_eq_ediv_of_nonneg c
    · exact Int.tdiv_eq_ediv_of_dvd (Int.dvd_of_tmod_eq_zero c)
  have less : a < 0 → ¬ a.tmod m = 0 → a.tdiv m - 1 = a / m := by
    intro c d
    have s1 : a.tmod m ≤ 0 := by
      have := Int.tmod_nonneg m (show 0 ≤ -a by omega)
      rw [Int.neg_tmod] at this
      omega
    have k : m * (a / m - (a.tdiv m - 1)) = a.tmod m + m - a % m := by rw [Int.mul_sub, Int.mul_sub]; omega
    have k1 : a / m - (a.tdiv m - 1) < 1 := by
      refine Int.lt_of_mul_lt_mul_left (a := m) ?_ (by omega)
      omega
    have k2 : -1 < a / m - (a.tdiv m - 1) := by
      refine Int.lt_of_mul_lt_mul_left (a := m) ?_ (by omega)
      omega
    omega
  refine rnJ9_floorDiv_f86c9 hG hk _ _ ?_
  refine sgJ9_floorDiv_f86c9 hG [] 60 0 ?_
  refine And.intro (fun q => by rw [q, Int64.toInt_zero] at tm; omega) ?_
  refine And.intro (fun c => ?_) (fun c => ?_)
  · have c : ¬ Int64.ofInt a ^^^ Int64.ofInt m < 0 := Int64.not_lt.mpr c
    rw [xr, Int64.lt_iff_toInt_lt, ta, Int64.toInt_zero] at c
    rw [← same (Or.inl (by omega)), ← e1] at h
    exact h
  · have c : Int64.ofInt a ^^^ Int64.ofInt m < 0 := Int64.not_le.mp c
    rw [xr, Int64.lt_iff_toInt_lt, ta, Int64.toInt_zero] at c
    refine And.intro (fun d => ?_) (fun d => ?_)
    · rw [e2, c2] at d
      rw [← same (Or.inr d), ← e1] at h
      exact h
    · rw [e2, c2] at d
      rw [← less c d, Int64.ofInt_sub, ← e1] at h
      exact h
def stG (g : Nat → Int32) : Int := ((Nat.gcd (g 0).toInt.natAbs (g 1).toInt.natAbs : Nat) : Int)
def sStr (π : zPl) (i : Int32) : Int32 × Option (List Int64) := if bSt π i then (Int32.ofInt ((π.2.2.2 i.toNatClampNeg 2).toInt / stG (π.2.2.2 i.toNatClampNeg)), some [Int64.ofInt ((π.2.2.2 i.toNatClampNeg 0).toInt / stG (π.2.2.2 i.toNatClampNeg)), Int64.ofInt ((π.2.2.2 i.toNatClampNeg 1).toInt / stG (π.2.2.2 i.toNatClampNeg)), (if (π.2.2.2 i.toNatClampNeg 2).toInt % stG (π.2.2.2 i.toNatClampNeg) = 0 then 0 else 1), lN (zAbv ((π.2.2.2 i.toNatClampNeg 0).toInt / stG (π.2.2.2 i.toNatClampNeg)) ((π.2.2.2 i.toNatClampNeg 1).toInt / stG (π.2.2.2 i.toNatClampNeg)) ((π.2.2.2 i.toNatClampNeg 2).toInt / stG (π.2.2.2 i.toNatClampNeg)) (zPts π (-1)))]) else (-1, none)
theorem stG_f {g : Nat → Int32} (h : vCt g) : 0 < stG g ∧ (stG g).natAbs ≤ 1000000 ∧ stG g ∣ (g 0).toInt ∧ stG g ∣ (g 1).toInt := by
  have b0 := vCt_bd h (j := 0) (by omega)
  have b1 := vCt_bd h (j := 1) (by omega)
  have ne : 0 < (g 0).toInt.natAbs ∨ 0 < (g 1).toInt.natAbs := by
    rcases h.2.1 with z | z
    · left
      rcases Nat.eq_zero_or_pos (g 0).toInt.natAbs with q | q
      · exact absurd (z_i_eq.mpr (by rw [Int32.toInt_zero]; omega)) z
      · exact q
    · right
      rcases Nat.eq_zero_or_pos (g 1).toInt.natAbs with q | q
      · exact absurd (z_i_eq.mpr (by rw [Int32.toInt_zero]; omega)) z
      · exact q
  have pos : 0 < Nat.gcd (g 0).toInt.natAbs (g 1).toInt.natAbs := by
    rcases ne with z | z
    · exact Nat.gcd_pos_of_pos_left _ z
    · exact Nat.gcd_pos_of_pos_right _ z
  have le : Nat.gcd (g 0).toInt.natAbs (g 1).toInt.natAbs ≤ 1000000 := by
    rcases ne with z | z
    · exact Nat.le_trans (Nat.gcd_le_left _ z) b0
    · exact Nat.le_trans (Nat.gcd_le_right _ z) b1
  unfold stG
  refine ⟨by omega, by omega, ?_, ?_⟩
  · exact Int.ofNat_dvd_left.mpr (Nat.gcd_dvd_left _ _)
  · exact Int.ofNat_dvd_left.mpr (Nat.gcd_dvd_right _ _)
theorem ediv_bd {a m : Int} (hm : 0 < m) {B : Nat} (ha : a.natAbs ≤ B) : (a / m).natAbs ≤ B + 1 := by
  have me := Int.emod_add_mul_ediv a m
  have p0 := Int.emod_nonneg a (show m ≠ 0 by omega)
  have p1 := Int.emod_lt_of_pos a hm
  rcases Int.le_total 0 (a / m) with c | c
  · have : 1 * (a / m) ≤ m * (a / m) := Int.mul_le_mul_of_nonneg_right (by omega) c
    omega
  · have : m * (a / m + 1) ≤ 1 * (a / m + 1) ∨ a / m = 0 := by
      rcases Int.lt_or_eq_of_le c with d | d
      · left; exact Int.mul_le_mul_of_nonpos_right (by omega) (by omega)
      · right; exact d
    rcases this with d | d
    · rw [Int.mul_add, Int.mul_one, Int.one_mul] at d
      omega
    · omega
theorem c_stronger {G : zG} (hG : zGok G) {k' : Nat} (hk : 5 ≤ k') {I : Nat → Nat → Int32} {J : Nat → Nat → Int64} {past : Nat → Nat} {Q : zRt} {S : zS} (hS : cSt I J past S) (hv : vS S) (i : Int32) (h : ∀ I' J', cSt I' J' past (sOut S ( sStr S.1 i)) → cFr I J I' J' → Q (some (.int ( sStr S.1 i).1)) (zK0, I', J', zR0 past)) : zCalls G k' yX11_stronger [.ref 0, .int i] (zK0, I, J, zR0 past) Q := by
  refine rnX11_stronger hG hk 0 i ?_
  refine sgX11_stronger hG [121] 120 0 ?_
  refine c_hasCut hG (by decide) (π := S.1) hS.1.2.1 hv.1.2.1 _ ?_
  refine And.intro (fun c => ?_) (fun c => ?_)
  · have t := z_nb1 (x := 0) c
    have h8 := hv.1.2.1
    obtain ⟨n, hn, rfl⟩ := bSt_in t h8
    unfold sStr at h
    rw [if_pos t, nI_clamp (by omega)] at h
    have bL := zPts_bd S.1 (-1)
    obtain ⟨q, hq, w1, w2, w3⟩ := cCt (past := past) (i := n) (by omega)
    have rd : ∀ j, j < 15 → J q j = (S.1.2.2.2 n (zPerm j)).toInt64 := fun j hj => by have := hS.1.2.2.2 n hn j hj; rw [show 1 + 3 + n = 4 + n from rfl, ← hq] at this; exact this
    have vg := hv.1.2.2 n hn
    generalize S.1.2.2.2 n = g at *
    obtain ⟨p0, pb, d0, d1⟩ := stG_f vg
    have b0 := vCt_bd vg (j := 0) (by omega)
    have b1 := vCt_bd vg (j := 1) (by omega)
    have b2 := vCt_bd vg (j := 2) (by omega)
    have x0 := ediv_bd p0 b0
    have x1 := ediv_bd p0 b1
    have x2 := ediv_bd p0 b2
    have v0 : J q (0 : Int32).toNatClampNeg = Int64.ofInt (g 0).toInt := by rw [← t64]; exact rd 0 (by omega)
    have v1 : J q (1 : Int32).toNatClampNeg = Int64.ofInt (g 1).toInt := by rw [← t64]; exact rd 1 (by omega)
    have v2 : J q (2 : Int32).toNatClampNeg = Int64.ofInt (g 2).toInt := by rw [← t64]; exact rd 2 (by omega)
    have t0 := lI_T (a := (g 0).toInt) (by omega)
    have t1 := lI_T (a := (g 1).toInt) (by omega)
    have hq2 : q ≠ 129 := by omega
    have eg : zgcd (J q (0 : Int32).toNatClampNeg) (J q (1 : Int32).toNatClampNeg) = Int64.ofInt (stG g) := by unfold zgcd stG; rw [v0, v1, t0, t1, lN_I]
    have tg := lI_T (a := stG g) (by omega)
    have ng : ¬ Int64.ofInt (stG g) = 0 := fun q => by rw [q, Int64.toInt_zero] at tg; omega
    have ed : ∀ (x : Int), x.natAbs ≤ 1000000 → stG g ∣ x → Int64.ofInt x / Int64.ofInt (stG g) = Int64.ofInt (x / stG g) := by
      intro x hx hd
      have tx := lI_T (a := x) (by omega)
      have bx := ediv_bd p0 hx
      rw [z_l_eq, z_ldiv (by omega), tx, tg, lI_T (by omega)]
      exact Int.tdiv_eq_ediv_of_dvd hd
    refine And.intro (by exact vp_in_nI (by omega) (by omega)) ⟨q, w1, ?_⟩
    refine zB_in w2 (And.intro (w3 0 (by omega) _ rfl) ?_)
    refine zB_in w2 (And.intro (w3 1 (by omega) _ rfl) ?_)
    refine c_gd hG (by decide) _ _ (by rw [v0]; omega) (by rw [v1, t1]; omega) ?_
    rw [eg]
    refine And.intro (fun _ => ?_) (fun q => absurd (by rw [show (1 : Int64) = Int64.ofInt 1 from rfl, lI_le (by omega) (by omega)]; omega) q)
    refine zB_in w2 (And.intro (w3 0 (by omega) _ rfl) ?_)
    refine And.intro ng ?_
    refine zB_in w2 (And.intro (w3 1 (by omega) _ rfl) ?_)
    refine And.intro ng ?_
    refine zB_in w2 (And.intro (w3 2 (by omega) _ rfl) ?_)
    rw [v0, v1, v2, ed _ b0 d0, ed _ b1 d1]
    refine j_floorDiv hG (by decide) (by omega) p0 (by omega) ?_
    refine c_gather hG (by decide) (Or.inl rfl) hS.1 hv.1.1.1 (-1) (fun I1 f1 p1 => ?_)
    generalize zPts S.1 (-1) = L at *
    have hl := bL.1
    refine c_clear hG (by decide) (fun I2 f2 n2 => ?_)
    refine c_tell hG (by decide) n2 (by decide) _ (fun I3 J3 f3 g3 n3 => ?_)
    refine c_tell hG (by decide) n3 (by simp) _ (fun I4 J4 f4 g4 n4 => ?_)
    refine zB_in w2 (And.intro (w3 2 (by omega) _ rfl) ?_)
    have v2' : J4 q (2 : Int32).toNatClampNeg = Int64.ofInt (g 2).toInt := by rw [g4 q hq2, g3 q hq2]; exact v2
    have me := Int.emod_add_mul_ediv (g 2).toInt (stG g)
    have q0 := Int.emod_nonneg (g 2).toInt (show stG g ≠ 0 by omega)
    have q1 := Int.emod_lt_of_pos (g 2).toInt p0
    have eq2 : Int64.ofInt ((g 2).toInt / stG g) * Int64.ofInt (stG g) = J4 q (2 : Int32).toNatClampNeg ↔ (g 2).toInt % stG g = 0 := by
      rw [v2', ← Int64.ofInt_mul, Int.mul_comm, lI_eq (by omega) (by omega)]
      omega
    have tl : ∀ z : Int64, z = (if (g 2).toInt % stG g = 0 then 0 else 1) → aX11_stronger G Q 121 [some (.ref 0), some (.int (nI n)), some (.ref q), some (.long (Int64.ofInt (stG g))), none, some (.long (Int64.ofInt ((g 0).toInt / stG g))), none, some (.long (Int64.ofInt ((g 1).toInt / stG g))), none, some (.long (Int64.ofInt ((g 2).toInt / stG g))), none] [.long z, .ref 128] (zK0, I4, J4, zR0 past) := by
      intro z ez
      subst ez
      refine sgX11_stronger hG [] 120 121 ?_
      refine c_tell hG (by decide) n4 (by simp) _ (fun I5 J5 f5 g5 n5 => ?_)
      have p5 : cPts I5 L := by
        refine cPts_fr p1 ?_ ?_ ?_
        all_goals rw [f5 _ (by decide), f4 _ (by decide), f3 _ (by decide), f2 _ (by decide)]
      refine c_above hG (by decide) p5 bL _ _ _ (by omega) (by omega) (by omega) ?_
      refine c_tell hG (by decide) n5 (by simp) _ (fun I6 J6 f6 g6 n6 => ?_)
      have ha := zAbv_le ((g 0).toInt / stG g) ((g 1).toInt / stG g) ((g 2).toInt / stG g) L
      rw [nI_l (by omega)] at n6
      have q6 : cQ I J I6 J6 := fun x hx => ⟨by rw [f6 x (by omega), f5 x (by omega), f4 x (by omega), f3 x (by omega), f2 x (by omega), f1 x (by omega) (by omega) (by omega)], by rw [g6 x (by omega), g5 x (by omega), g4 x (by omega), g3 x (by omega)]⟩
      have k := h I6 J6 (cSt_tel hS hv q6 n6) (cQ_fr q6)
      rw [← lI_i] at k
      exact k
    refine And.intro (fun c => ?_) (fun c => ?_)
    · rw [eq2] at c
      exact tl 0 (by rw [if_pos c])
    · rw [eq2] at c
      exact tl 1 (by rw [if_neg c])
  · have t := (zb_eq0 _).mp c
    have e : sStr S.1 i = (-1, none) := by unfold sStr; rw [t]; rfl
    rw [e] at h
    exact h I J hS (fun _ _ => ⟨rfl, rfl⟩)
theorem zAbv_s (a b c : Int) (f : Nat → Nat → Bool) (t : Nat) : zAbv a b c (zPtT f (t + 1)) = zAbv a b c (zPtT f t) + (if f (t / 7) (t % 7) = true ∧ c < zSm a b (t / 7, t % 7) then 1 else 0) := by
  unfold zAbv
  show List.countP _ (zPtT f t ++ _) = _
  rw [List.countP_append]
  congr 1
  by_cases h : f (t / 7) (t % 7) = true
  · rw [if_pos h, List.countP_singleton]
    by_cases k : c < zSm a b (t / 7, t % 7)
    · rw [if_pos (decide_eq_true k), if_pos ⟨h, k⟩]
    · rw [if_neg (by rw [decide_eq_true_eq]; exact k), if_neg (fun q => k q.2)]
  · rw [if_neg h, if_neg (fun q => h q.1)]
    rfl
theorem zAbv_bd (a b c : Int) (f : Nat → Nat → Bool) (t : Nat) : zAbv a b c (zPtT f t) ≤ t := Nat.le_trans (zAbv_le a b c _) (zPtT_len f t)
theorem m_stronger {G : zG} (hG : zGok G) {k' : Nat} (hk : 5 ≤ k') {I : Nat → Nat → Int32} {J : Nat → Nat → Int64} {past : Nat → Nat} {Q : zRt} {S : zS} (hS : mSt I J S) (hv : vS S) (i : Int32) (h : ∀ I' J', mSt I' J' (sOut S ( sStr S.1 i)) → mFr I J I' J' → Q (some (.int ( sStr S.1 i).1)) (zK0, I', J', zR0 past)) : zCalls G k' yX12_stronger [.ref 305, .int i] (zK0, I, J, zR0 past) Q := by
  have hS0 := mSt_thr (v := 0) hS
  have hQ0 : mQ I J (z_upI I 305 5 0) J := mQ_u (by omega)
  refine rnX12_stronger hG hk 305 i ?_
  refine sgX12_stronger hG [34, 71, 81] 120 0 ?_
  have h8 := hv.1.2.1
  have h6 := hv.1.1.1
  refine m_isStored hG (by decide) (π := S.1) hS0.1.2.1 h8 _ ?_
  refine And.intro (fun c => ?_) (fun c => ?_)
  · have t := z_nb1 (x := 0) c
    obtain ⟨n, hn, rfl⟩ := bSt_in t h8
    unfold sStr at h
    rw [if_pos t, nI_clamp (by omega)] at h
    have vg := hv.1.2.2 n hn
    have st : ∀ (j : Nat) {I' : Nat → Nat → Int32} {J' : Nat → Nat → Int64} {k' : Nat} {Q : zRt} {w : Int32}, j < 15 → w = nI j → mPl I' 306 0 S.1 → 1 ≤ k' → Q (some (.int (Int32.ofInt (S.1.2.2.2 n j).toInt))) (zK0, I', J', zR0 past) → zCalls G k' yX12_stored [.ref 305, .int (nI n), .int w] (zK0, I', J', zR0 past) Q := by
      intro j I' J' k' Q w hj hw hm hk k
      rw [← i_of] at k
      exact m_stored hG hk hm h8 hn hw hj k
    generalize S.1.2.2.2 n = g at *
    obtain ⟨p0, pb, d0, d1⟩ := stG_f vg
    have b0 := vCt_bd vg (j := 0) (by omega)
    have b1 := vCt_bd vg (j := 1) (by omega)
    have b2 := vCt_bd vg (j := 2) (by omega)
    have x0 := ediv_bd p0 b0
    have x1 := ediv_bd p0 b1
    have x2 := ediv_bd p0 b2
    have t0 := iI_T (a := (g 0).toInt) (by omega)
    have t1 := iI_T (a := (g 1).toInt) (by omega)
    have t2 := iI_T (a := (g 2).toInt) (by omega)
    have tg := iI_T (a := stG g) (by omega)
    have l0 : (Int32.ofInt (g 0).toInt).toInt64.toInt = (g 0).toInt := by rw [z_i2l, t0]
    have l1 : (Int32.ofInt (g 1).toInt).toInt64.toInt = (g 1).toInt := by rw [z_i2l, t1]
    have eg : zgcd (Int32.ofInt (g 0).toInt).toInt64 (Int32.ofInt (g 1).toInt).toInt64 = Int64.ofInt (stG g) := by unfold zgcd stG; rw [l0, l1, lN_I]
    have ng : ¬ Int32.ofInt (stG g) = 0 := fun q => by rw [q, Int32.toInt_zero] at tg; omega
    have idv : ∀ (x : Int), x.natAbs ≤ 3000000 → stG g ∣ x → Int32.ofInt x / Int32.ofInt (stG g) = Int32.ofInt (x / stG g) := by
      intro x hx hd
      have tx := iI_T (a := x) (by omega)
      have bx := ediv_bd p0 hx
      have nb : (x.tdiv (stG g)).natAbs ≤ x.natAbs := by rw [Int.natAbs_tdiv]; exact Nat.div_le_self _ _
      rw [z_i_eq, Int32.toInt_div, tx, tg, iI_T (by omega), z_bm32 (by omega) (by omega)]
      exact Int.tdiv_eq_ediv_of_dvd hd
    have me := Int.emod_add_mul_ediv (g 2).toInt (stG g)
    have q0 := Int.emod_nonneg (g 2).toInt (show stG g ≠ 0 by omega)
    have q1 := Int.emod_lt_of_pos (g 2).toInt p0
    refine st 0 (by omega) rfl hS0.1 (by decide) ?_
    refine st 1 (by omega) rfl hS0.1 (by decide) ?_
    refine m_common hG (by decide) _ _ (by omega) (by omega) ?_
    rw [eg]
    have go : aX12_stronger G Q 34 [some (.ref 305), some (.int (nI n)), some (.int (Int32.ofInt (stG g))), none, none, none, none, none] [] (zK0, z_upI I 305 5 0, J, zR0 past) := by
      refine sgX12_stronger hG [71, 81] 120 34 ?_
      refine st 2 (by omega) rfl hS0.1 (by decide) ?_
      refine And.intro ng ?_
      refine st 2 (by omega) rfl hS0.1 (by decide) ?_
      have er := z_irem (x := Int32.ofInt (g 2).toInt) (y := Int32.ofInt (stG g)) (by omega)
      rw [t2, tg] at er
      have rb : ((g 2).toInt.tmod (stG g)).natAbs < (stG g).natAbs := by rw [Int.natAbs_tmod]; exact Nat.mod_lt _ (by omega)
      have mt := Int.tmod_add_mul_tdiv (g 2).toInt (stG g)
      have tz : (g 2).toInt.tmod (stG g) = 0 ↔ (g 2).toInt % stG g = 0 := by
        constructor
        · intro q; exact Int.emod_eq_zero_of_dvd (Int.dvd_of_tmod_eq_zero q)
        · intro q; exact Int.tmod_eq_zero_of_dvd (Int.dvd_of_emod_eq_zero q)
      have fmod : (if (g 2).toInt.tmod (stG g) < 0 then (g 2).toInt.tmod (stG g) + stG g else (g 2).toInt.tmod (stG g)) = (g 2).toInt % stG g := by
        have a1 : stG g * ((g 2).toInt / stG g - (g 2).toInt.tdiv (stG g)) = (g 2).toInt.tmod (stG g) - (g 2).toInt % stG g := by rw [Int.mul_sub]; omega
        have k1 : (g 2).toInt / stG g - (g 2).toInt.tdiv (stG g) < 1 := by
          refine Int.lt_of_mul_lt_mul_left (a := stG g) ?_ (by omega)
          omega
        have k2 : -2 < (g 2).toInt / stG g - (g 2).toInt.tdiv (stG g) := by
          refine Int.lt_of_mul_lt_mul_left (a := stG g) ?_ (by omega)
          omega
        rcases (show (g 2).toInt / stG g - (g 2).toInt.tdiv (stG g) = 0 ∨ (g 2).toInt / stG g - (g 2).toInt.tdiv (stG g) = -1 by omega) with z | z
        · rw [z] at a1
          rw [if_neg (by omega)]; omega
        · rw [z] at a1
          rw [if_pos (by omega)]; omega
      have tail : ∀ (rest : Int32), rest.toInt = (g 2).toInt.tmod (stG g) → aX12_stronger G Q 71 [some (.ref 305), some (.int (nI n)), some (.int (Int32.ofInt (stG g))), some (.int rest), some (.int (Int32.ofInt ((g 2).toInt / stG g))), some (.int 0), some (.int 0), none] [] (zK0, z_upI I 305 5 0, J, zR0 past) := by
        intro rest hr
        have outer : ∀ (rx x : Nat) (vx w : Int32) (oy : Option Value), (oy = none ∨ ∃ z, oy = some (.int z)) → vx = nI x → w = nI (zAbv ((g 0).toInt / stG g) ((g 1).toInt / stG g) ((g 2).toInt / stG g) (zPtT (zWh S.1 (-1)) (7 * x))) → x + rx = 7 → aX12_stronger G Q 71 [some (.ref 305), some (.int (nI n)), some (.int (Int32.ofInt (stG g))), some (.int rest), some (.int (Int32.ofInt ((g 2).toInt / stG g))), some (.int w), some (.int vx), oy] [] (zK0, z_upI I 305 5 0, J, zR0 past) := by
          intro rx
          induction rx with
          | zero =>
            intro x vx w oy _ ev ew hx
            subst ev
            subst ew
            have e : x = 7 := by omega
            subst e
            have hab := zAbv_bd ((g 0).toInt / stG g) ((g 1).toInt / stG g) ((g 2).toInt / stG g) (zWh S.1 (-1)) (7 * 7)
            refine sgX12_stronger hG [71, 81] 120 71 ?_
            refine And.intro (fun _ => ?_) (fun c => absurd (by decide) c)
            have m1 : mPl (z_upI (z_upI I 305 5 0) 305 4 0) 306 0 S.1 := mPl_fr hS0.1 (z_upI_ne (by decide))
            refine st 0 (by omega) rfl m1 (by decide) ?_
            refine And.intro ng ?_
            refine m_tellL hG (by decide) mNm_0 (by decide) _ (fun I2 J2 f2 g2 k2 n2 => ?_)
            have m2 : mPl I2 306 0 S.1 := mPl_fr m1 (f2 306 (by decide))
            refine st 1 (by omega) rfl m2 (by decide) ?_
            refine And.intro ng ?_
            refine m_tellL hG (by decide) n2 (by simp) _ (fun I3 J3 f3 g3 k3 n3 => ?_)
            rw [idv _ (by omega) d0, idv _ (by omega) d1, iI_l (by omega), iI_l (by omega)] at n3
            have r0 : rest = 0 ↔ (g 2).toInt % stG g = 0 := by rw [z_i_eq, hr, Int32.toInt_zero, tz]
            have fin : ∀ (z : Int64), z = (if (g 2).toInt % stG g = 0 then 0 else 1) → ∀ I4 J4, (∀ x, x ≠ 305 → I4 x = I3 x) → (∀ j, j ≠ 4 → I4 305 j = I3 305 j) → (∀ x, x ≠ 308 → J4 x = J3 x) → mNm I4 J4 ([Int64.ofInt ((g 0).toInt / stG g)] ++ [Int64.ofInt ((g 1).toInt / stG g)] ++ [z]) → zCalls G 4 yX12_tell [.ref 305, .long (nI (zAbv ((g 0).toInt / stG g) ((g 1).toInt / stG g) ((g 2).toInt / stG g) (zPtT (zWh S.1 (-1)) (7 * 7)))).toInt64] (zK0, I4, J4, zR0 past) (fun v σ' => match v with | none => Q (some (.int (Int32.ofInt ((g 2).toInt / stG g)))) σ' | some _ => False) := by
              intro z ez I4 J4 f4 g4 k4 n4
              subst ez
              refine m_tellL hG (by decide) n4 (by simp) _ (fun I5 J5 f5 g5 k5 n5 => ?_)
              rw [nI_l (by omega)] at n5
              have q5 : mQ I J I5 J5 := mQ_tr hQ0 (mQ_tr (J1 := J) (I1 := z_upI (z_upI I 305 5 0) 305 4 0) (mQ_u (by omega)) ⟨fun x hx => ⟨by rw [f5 x (by omega), f4 x (by omega), f3 x (by omega), f2 x (by omega)], by rw [k5 x (by omega), k4 x (by omega), k3 x (by omega), k2 x (by omega)]⟩, by rw [g5 _ (by decide), g4 _ (by decide), g3 _ (by decide), g2 _ (by decide)], by rw [g5 _ (by decide), g4 _ (by decide), g3 _ (by decide), g2 _ (by decide)]⟩)
              exact h I5 J5 (mSt_tel hS q5 n5) (mQ_fr q5)
            refine And.intro (fun c => ?_) (fun c => ?_)
            · refine m_tellL hG (by decide) n3 (by simp) _ (fun I4 J4 f4 g4 k4 n4 => ?_)
              exact fin 1 (by rw [if_neg (fun q => c (r0.mpr q))]) I4 J4 f4 g4 k4 n4
            · refine m_tellL hG (by decide) n3 (by simp) _ (fun I4 J4 f4 g4 k4 n4 => ?_)
              exact fin 0 (by rw [if_pos (r0.mp c)]) I4 J4 f4 g4 k4 n4
          | succ rx ihx =>
            have inner : ∀ (ry y x : Nat) (vx vy w : Int32), vx = nI x → vy = nI y → w = nI (zAbv ((g 0).toInt / stG g) ((g 1).toInt / stG g) ((g 2).toInt / stG g) (zPtT (zWh S.1 (-1)) (7 * x + y))) → x + (rx + 1) = 7 → y + ry = 7 → aX12_stronger G Q 81 [some (.ref 305), some (.int (nI n)), some (.int (Int32.ofInt (stG g))), some (.int rest), some (.int (Int32.ofInt ((g 2).toInt / stG g))), some (.int w), some (.int vx), some (.int vy)] [] (zK0, z_upI I 305 5 0, J, zR0 past) := by
              intro ry
              induction ry with
              | zero =>
                intro y x vx vy w ex ev ew hx hy
                subst ev
                have e : y = 7 := by omega
                subst e
                refine sgX12_stronger hG [71, 81] 120 81 ?_
                refine And.intro (fun _ => ?_) (fun c => absurd (by decide) c)
                exact ihx (x + 1) _ _ _ (Or.inr ⟨_, rfl⟩) (by rw [ex, nI_1]) (by rw [show 7 * (x + 1) = 7 * x + 7 by omega]; exact ew) (by omega)
              | succ ry ihy =>
                intro y x vx vy w ex ev ew hx hy
                subst ex
                subst ev
                subst ew
                have hdm := z_7xy (x := x) (y := y) (by omega)
                have ss := zAbv_s ((g 0).toInt / stG g) ((g 1).toInt / stG g) ((g 2).toInt / stG g) (zWh S.1 (-1)) (7 * x + y)
                rw [hdm.1, hdm.2] at ss
                have hab := zAbv_bd ((g 0).toInt / stG g) ((g 1).toInt / stG g) ((g 2).toInt / stG g) (zWh S.1 (-1)) (7 * x + y)
                refine sgX12_stronger hG [71, 81] 120 81 ?_
                refine And.intro (fun c => absurd c (by rw [show (6 : Int32) = nI 6 from rfl, nI_ltI (by omega) (by omega)]; omega)) (fun _ => ?_)
                refine m_isWhole hG (by decide) hS0.1 h6 (nI x) (nI y) ?_
                have no : ¬ (zWh S.1 (-1) x y = true ∧ (g 2).toInt / stG g < zSm ((g 0).toInt / stG g) ((g 1).toInt / stG g) (x, y)) → aX12_stronger G Q 81 [some (.ref 305), some (.int (nI n)), some (.int (Int32.ofInt (stG g))), some (.int rest), some (.int (Int32.ofInt ((g 2).toInt / stG g))), some (.int (nI (zAbv ((g 0).toInt / stG g) ((g 1).toInt / stG g) ((g 2).toInt / stG g) (zPtT (zWh S.1 (-1)) (7 * x + y))))), some (.int (nI x)), some (.int (nI y + 1))] [] (zK0, z_upI I 305 5 0, J, zR0 past) := by
                  intro q
                  rw [if_neg q] at ss
                  exact ihy (y + 1) x _ _ _ rfl (by rw [nI_1]) (by rw [← Nat.add_assoc, ss]; rfl) hx (by omega)
                refine And.intro (fun c => ?_) (fun c => ?_)
                · have c := (zb_eq0 _).mp c
                  exact no (fun q => by have z : zHd S.1 (nI x) (nI y) 1 (-1) = true := q.1; rw [c] at z; exact absurd z (by decide))
                · have c := z_nb1 (x := 0) c
                  refine st 0 (by omega) rfl hS0.1 (by decide) ?_
                  refine And.intro ng ?_
                  refine st 1 (by omega) rfl hS0.1 (by decide) ?_
                  refine And.intro ng ?_
                  have es : Int32.ofInt (g 0).toInt / Int32.ofInt (stG g) * nI x + Int32.ofInt (g 1).toInt / Int32.ofInt (stG g) * nI y = Int32.ofInt (zSm ((g 0).toInt / stG g) ((g 1).toInt / stG g) (x, y)) := by
                    rw [idv _ (by omega) d0, idv _ (by omega) d1, nI_I, nI_I, ← Int32.ofInt_mul, ← Int32.ofInt_mul, ← Int32.ofInt_add]; rfl
                  have bs : (zSm ((g 0).toInt / stG g) ((g 1).toInt / stG g) (x, y)).natAbs ≤ 20000000 := by
                    have a := bd_mul (b := (x : Int)) (B := 7) x0 (by omega)
                    have b := bd_mul (b := (y : Int)) (B := 7) x1 (by omega)
                    have z := bd_add a b
                    unfold zSm
                    show ((g 0).toInt / stG g * (x : Int) + (g 1).toInt / stG g * (y : Int)).natAbs ≤ _
                    omega
                  refine And.intro (fun f => ?_) (fun f => ?_)
                  · rw [es, iI_le (by omega) (by omega)] at f
                    exact no (fun q => by have := q.2; omega)
                  · rw [es, iI_le (by omega) (by omega)] at f
                    rw [if_pos ⟨c, by omega⟩] at ss
                    exact ihy (y + 1) x _ _ _ rfl (by rw [nI_1]) (by rw [← Nat.add_assoc, ss, nI_1]) hx (by omega)
            intro x vx w oy ho ev ew hx
            subst ev
            refine sgX12_stronger hG [71, 81] 120 71 ?_
            refine And.intro (fun c => absurd c (by rw [show (6 : Int32) = nI 6 from rfl, nI_ltI (by omega) (by omega)]; omega)) (fun _ => ?_)
            rcases ho with rfl | ⟨z, rfl⟩
            all_goals exact inner 7 0 x (nI x) 0 w rfl rfl ew hx (by omega)
        exact outer 7 0 0 0 none (Or.inl rfl) rfl rfl (by omega)
      have fq : ∀ (m : Int), m = (g 2).toInt % stG g → Int32.ofInt ((g 2).toInt - m) / Int32.ofInt (stG g) = Int32.ofInt ((g 2).toInt / stG g) := by
        intro m hm
        subst hm
        have e : (g 2).toInt - (g 2).toInt % stG g = stG g * ((g 2).toInt / stG g) := by omega
        rw [idv _ (by omega) ⟨_, e⟩, e, Int.mul_ediv_cancel_left _ (by omega)]
      have eR : Int32.ofInt (g 2).toInt - Int32.ofInt (g 2).toInt / Int32.ofInt (stG g) * Int32.ofInt (stG g) = Int32.ofInt ((g 2).toInt.tmod (stG g)) := by rw [z_i_eq, er, iI_T (by omega)]
      rw [eR]
      have tR := iI_T (a := (g 2).toInt.tmod (stG g)) (by omega)
      have tl := tail _ tR
      refine And.intro (fun c => ?_) (fun c => ?_)
      · rw [Int32.le_iff_toInt_le, tR, Int32.toInt_zero] at c
        rw [if_neg (by omega)] at fmod
        refine And.intro ng ?_
        rw [← Int32.ofInt_sub, fq _ fmod]
        exact tl
      · rw [Int32.le_iff_toInt_le, tR, Int32.toInt_zero] at c
        rw [if_pos (by omega)] at fmod
        refine And.intro ng ?_
        rw [← Int32.ofInt_add, ← Int32.ofInt_sub, fq _ fmod]
        exact tl
    rw [← lI_i] at go
    exact go
  · have t := (zb_eq0 _).mp c
    have e : sStr S.1 i = (-1, none) := by unfold sStr; rw [t]; rfl
    rw [e] at h
    exact h _ J hS0 (mQ_fr hQ0)
