-- ===== remainders =====
theorem z_ixor {x m : Int32} (hm : 0 ≤ m) : x ^^^ m < 0 ↔ x < 0 := by
  rw [Int32.lt_iff_toInt_lt, Int32.lt_iff_toInt_lt, Int32.toInt_zero]
  have e : ∀ y : Int32, y.toInt < 0 ↔ y.toBitVec.msb = true := fun y => by
    rw [BitVec.msb_eq_toInt, decide_eq_true_eq]; rfl
  rw [e, e, Int32.toBitVec_xor, BitVec.msb_xor]
  have h2 : m.toBitVec.msb = false := by
    rw [← Bool.not_eq_true, ← e]
    rw [Int32.le_iff_toInt_le, Int32.toInt_zero] at hm
    omega
  rw [h2, Bool.xor_false]
theorem z_lxor {x m : Int64} (hm : 0 ≤ m) : x ^^^ m < 0 ↔ x < 0 := by
  rw [Int64.lt_iff_toInt_lt, Int64.lt_iff_toInt_lt, Int64.toInt_zero]
  have e : ∀ y : Int64, y.toInt < 0 ↔ y.toBitVec.msb = true := fun y => by
    rw [BitVec.msb_eq_toInt, decide_eq_true_eq]; rfl
  rw [e, e, Int64.toBitVec_xor, BitVec.msb_xor]
  have h2 : m.toBitVec.msb = false := by
    rw [← Bool.not_eq_true, ← e]
    rw [Int64.le_iff_toInt_le, Int64.toInt_zero] at hm
    omega
  rw [h2, Bool.xor_false]
theorem z_irem {x y : Int32} (hy : 0 < y.toInt) : (x - x / y * y).toInt = x.toInt.tmod y.toInt := by
  have x1 := Int32.le_toInt x
  have x2 := Int32.toInt_lt x
  have y2 := Int32.toInt_lt y
  have d1 : (x.toInt.tdiv y.toInt).natAbs ≤ x.toInt.natAbs := by rw [Int.natAbs_tdiv]; exact Nat.div_le_self _ _
  have hd : (x / y).toInt = x.toInt.tdiv y.toInt := by
    rw [Int32.toInt_div]
    by_cases c : y.toInt = 1
    · rw [c, Int.tdiv_one]; exact z_bm32 (by omega) (by omega)
    · have d2 : (x.toInt.tdiv y.toInt).natAbs ≤ x.toInt.natAbs / 2 := by
        rw [Int.natAbs_tdiv]
        exact Nat.div_le_div_left (show 2 ≤ y.toInt.natAbs by omega) (by omega)
      exact z_bm32 (by omega) (by omega)
  have e := Int.mul_tdiv_add_tmod x.toInt y.toInt
  have m1 : (x.toInt.tmod y.toInt).natAbs < y.toInt.natAbs := by rw [Int.natAbs_tmod]; exact Nat.mod_lt _ (by omega)
  have m2 : (x.toInt.tmod y.toInt).natAbs ≤ x.toInt.natAbs := by rw [Int.natAbs_tmod]; exact Nat.mod_le _ _
  have p : (x / y * y).toInt = x.toInt - x.toInt.tmod y.toInt := by
    have q1 : (x.toInt.tdiv y.toInt * y.toInt).natAbs ≤ x.toInt.natAbs := by
      rw [Int.natAbs_mul, Int.natAbs_tdiv]; exact Nat.div_mul_le_self _ _
    have q2 : x.toInt.tdiv y.toInt * y.toInt = x.toInt - x.toInt.tmod y.toInt := by rw [Int.mul_comm]; omega
    rw [Int32.toInt_mul, hd, q2]
    rw [q2] at q1
    have : x.toInt ≤ 0 ∨ 0 ≤ x.toInt := by omega
    have s : 0 ≤ x.toInt → 0 ≤ x.toInt.tmod y.toInt := fun h => Int.tmod_nonneg _ h
    exact z_bm32 (by omega) (by
      rcases this with h | h
      · omega
      · have := s h; omega)
  rw [Int32.toInt_sub, p, z_bm32 (by omega) (by omega)]
  omega
/-- the remainder that is never below 0 -/
def fM (x m : Int32) : Int32 := if x - x / m * m < 0 then x - x / m * m + m else x - x / m * m
theorem fM_bd {x m : Int32} (hm : 0 < m.toInt) (hm2 : m.toInt < 1000000000) : 0 ≤ (fM x m).toInt ∧ (fM x m).toInt < m.toInt := by
  have r := z_irem (x := x) hm
  have m1 : (x.toInt.tmod m.toInt).natAbs < m.toInt.natAbs := by rw [Int.natAbs_tmod]; exact Nat.mod_lt _ (by omega)
  unfold fM
  by_cases c : x - x / m * m < 0
  · rw [if_pos c]
    rw [Int32.lt_iff_toInt_lt, r, Int32.toInt_zero] at c
    rw [z_iadd (by rw [r]; omega) (by rw [r]; omega), r]
    omega
  · rw [if_neg c]
    rw [Int32.lt_iff_toInt_lt, r, Int32.toInt_zero] at c
    rw [r]
    omega
theorem j_floorMod {G : zG} (hG : zGok G) {k' : Nat} (hk : 1 ≤ k') {σ : zSt} {Q : zRt} (x m : Int32) (hm : 0 < m.toInt) (h : Q (some (.int (fM x m))) σ) : zCalls G k' yJ9_floorMod_7cf53 [.int x, .int m] σ Q := by
  have r := z_irem (x := x) hm
  have hm0 : 0 ≤ m := by rw [Int32.le_iff_toInt_le, Int32.toInt_zero]; omega
  have xr := z_ixor (x := x) hm0
  refine rnJ9_floorMod_7cf53 hG hk x m ?_
  refine sgJ9_floorMod_7cf53 hG [] 60 0 ?_
  refine And.intro (fun q => by rw [q, Int32.toInt_zero] at hm; omega) ?_
  have s0 : 0 ≤ x.toInt → 0 ≤ x.toInt.tmod m.toInt := fun h => Int.tmod_nonneg _ h
  have s1 : x.toInt ≤ 0 → x.toInt.tmod m.toInt ≤ 0 := fun h => by
    have := Int.tmod_nonneg m.toInt (show 0 ≤ -x.toInt by omega)
    rw [Int.neg_tmod] at this
    omega
  refine And.intro (fun c => ?_) (fun c => ?_)
  · have c : ¬ x ^^^ m < 0 := Int32.not_lt.mpr c
    rw [xr, Int32.lt_iff_toInt_lt, Int32.toInt_zero] at c
    have e : fM x m = x - x / m * m := by
      unfold fM
      rw [if_neg]
      rw [Int32.lt_iff_toInt_lt, r, Int32.toInt_zero]
      have := s0 (by omega)
      omega
    rw [e] at h
    exact h
  · have c : x ^^^ m < 0 := Int32.not_le.mp c
    rw [xr, Int32.lt_iff_toInt_lt, Int32.toInt_zero] at c
    refine And.intro (fun d => ?_) (fun d => ?_)
    · have e : fM x m = x - x / m * m := by
        unfold fM
        rw [if_neg]
        rw [d]; decide
      rw [e] at h
      exact h
    · have e : fM x m = x - x / m * m + m := by
        unfold fM
        rw [if_pos]
        rw [Int32.lt_iff_toInt_lt, r, Int32.toInt_zero]
        have t1 := s1 (by omega)
        have t2 : x.toInt.tmod m.toInt ≠ 0 := fun q => d (z_i_eq.mpr (by rw [r, q]; rfl))
        omega
      rw [e] at h
      exact h
-- ===== sheet =====
def shE (kind v : Int32) : Int32 := if kind = 0 then v.toInt8.toInt32 else if kind = 1 then v.toInt16.toInt32 else v
def shV (kind n f step : Int32) (k : Nat) : Int32 := if ¬ kind = 3 ∧ nI k < n then fM (shE kind (f + nI k * step)) 51 else 0
def shP (E : Nat → Int32) (π : zPl) : zPl := (π.1, (fun j => if j % 3 = 2 then E (j / 3) else π.2.1 j), π.2.2)
def sShe (S : zS) (kind n f step : Int32) : Int32 × zS := if ¬ (0 ≤ kind ∧ kind ≤ 3) ∨ 6 < n then (-1, S) else if ¬ kind = 3 ∧ n < 0 then (-2, S) else (if kind = 3 then -3 else nI S.1.1, (shP (shV kind n f step) S.1, S.2))
theorem shV_bd (kind n f step : Int32) (k : Nat) : -50 ≤ shV kind n f step k ∧ shV kind n f step k ≤ 50 := by
  unfold shV
  split
  · have := fM_bd (x := shE kind (f + nI k * step)) (m := 51) (by decide) (by decide)
    have e1 : (51 : Int32).toInt = 51 := by decide
    have e2 : (-50 : Int32).toInt = -50 := by decide
    have e3 : (50 : Int32).toInt = 50 := by decide
    rw [Int32.le_iff_toInt_le, Int32.le_iff_toInt_le]
    omega
  · decide
theorem shP_v {E : Nat → Int32} {π : zPl} (hE : ∀ k, -50 ≤ E k ∧ E k ≤ 50) (h : vPl π) : vPl (shP E π) := by
  refine ⟨⟨h.1.1, fun k hk => ?_⟩, h.2⟩
  have r := h.1.2 k hk
  show okRow (if 3 * k % 3 = 2 then E (3 * k / 3) else π.2.1 (3 * k)) (if (3 * k + 1) % 3 = 2 then E ((3 * k + 1) / 3) else π.2.1 (3 * k + 1)) (if (3 * k + 2) % 3 = 2 then E ((3 * k + 2) / 3) else π.2.1 (3 * k + 2))
  rw [if_neg (by omega), if_neg (by omega), if_pos (by omega)]
  exact ⟨r.1, r.2.1, hE _, r.2.2.2⟩
theorem c_sheetEntry {G : zG} (hG : zGok G) {k' : Nat} (hk : 1 ≤ k') {σ : zSt} {Q : zRt} (kind v : Int32) (h : Q (some (.int (shE kind v))) σ) : zCalls G k' yX11_sheetEntry [.int kind, .int v] σ Q := by
  refine rnX11_sheetEntry hG hk kind v ?_
  refine sgX11_sheetEntry hG [] 60 0 ?_
  unfold shE at h
  refine And.intro (fun c => ?_) (fun c => ?_)
  · rw [if_neg c] at h
    refine And.intro (fun d => ?_) (fun d => ?_)
    · rw [if_neg d] at h; exact h
    · rw [if_pos d] at h; exact h
  · rw [if_pos c] at h; exact h
theorem c_sheet {G : zG} (hG : zGok G) {k' : Nat} (hk : 3 ≤ k') {I : Nat → Nat → Int32} {J : Nat → Nat → Int64} {past : Nat → Nat} {Q : zRt} {S : zS} (hS : cSt I J past S) (hv : vS S) (kind n f step : Int32) (h : ∀ I', cSt I' J past (sShe S kind n f step).2 → cFr I J I' J → Q (some (.int (sShe S kind n f step).1)) (zK0, I', J, zR0 past)) : zCalls G k' yX11_sheet [.ref 0, .int kind, .int n, .int f, .int step] (zK0, I, J, zR0 past) Q := by
  have h6 := hv.1.1.1
  have no : (¬ (0 ≤ kind ∧ kind ≤ 3) ∨ 6 < n) → Q (some (.int (-1))) (zK0, I, J, zR0 past) := fun q => by
    have e : sShe S kind n f step = (-1, S) := by unfold sShe; rw [if_pos q]
    rw [e] at h
    exact h I hS (fun _ _ => ⟨rfl, rfl⟩)
  have loop : (¬ (¬ (0 ≤ kind ∧ kind ≤ 3) ∨ 6 < n)) → ¬ (¬ kind = 3 ∧ n < 0) → ∀ mis : Bool, mis = decide (kind = 3) → ∀ (r i : Nat) (v : Int32) (o : Option Value) (I' : Nat → Nat → Int32), v = nI i → i + r = S.1.1 → (∀ x, x ≠ 2 → I' x = I x) → (∀ j, j < 18 → I' 2 j = if j % 3 = 2 ∧ j / 3 < i then shV kind n f step (j / 3) else I 2 j) → aX11_sheet G Q 44 [some (.ref 0), some (.int kind), some (.int n), some (.int f), some (.int step), some (.int (zb mis)), some (.int v), o] [] (zK0, I', J, zR0 past) := by
    intro a1 a2 mis hmis r
    have e1 : sShe S kind n f step = (if kind = 3 then -3 else nI S.1.1, (shP (shV kind n f step) S.1, S.2)) := by unfold sShe; rw [if_neg a1, if_neg a2]
    have sv : ∀ k, shV kind n f step k = if ¬ mis = true ∧ nI k < n then fM (shE kind (f + nI k * step)) 51 else 0 := by
      intro k
      unfold shV
      rw [hmis]
      by_cases c : kind = 3 <;> simp [c]
    generalize hE : shV kind n f step = E at *
    induction r with
    | zero =>
      intro i v o I' ev hi f1 f2
      subst ev
      have e0 : I' 1 0 = nI S.1.1 := by rw [f1 1 (by decide)]; exact hS.1.1
      have hq : cPl I' J 1 (shP E S.1) := ⟨e0, by rw [f1 1 (by decide)]; exact hS.1.2.1, fun j hj => by
        have hj : j < 3 * S.1.1 := hj
        show I' 2 j = if j % 3 = 2 then E (j / 3) else S.1.2.1 j
        rw [f2 j (by omega)]
        by_cases c : j % 3 = 2
        · rw [if_pos ⟨c, by omega⟩, if_pos c]
        · rw [if_neg (fun q => c q.1), if_neg c]; exact hS.1.2.2.1 j hj, fun i hi j hj => hS.1.2.2.2 i hi j hj⟩
      have hS1 := cSt_chg hS hv (fun x a b => f1 x b) hq
      have k : Q (some (.int (if kind = 3 then -3 else nI S.1.1))) (zK0, I', J, zR0 past) := by
        rw [e1] at h
        exact h I' hS1 (fun x hx => ⟨f1 x (by omega), rfl⟩)
      refine sgX11_sheet hG [44] 60 44 ?_
      refine And.intro (fun _ => ?_) (fun q => absurd (by rw [e0, nI_leI (by omega) (by omega)]; omega) q)
      refine And.intro (fun c => ?_) (fun c => ?_)
      · have c := (zb_eq0 _).mp c
        rw [c] at hmis
        rw [if_neg (of_decide_eq_false hmis.symm), ← e0] at k
        exact k
      · have c := z_nb1 (x := 0) c
        rw [c] at hmis
        rw [if_pos (of_decide_eq_true hmis.symm)] at k
        exact k
    | succ r ih =>
      intro i v o I' ev hi f1 f2
      subst ev
      have e0 : I' 1 0 = nI S.1.1 := by rw [f1 1 (by decide)]; exact hS.1.1
      have nx : ∀ (o : Option Value) (w : Int32), w = E i → aX11_sheet G Q 44 [some (.ref 0), some (.int kind), some (.int n), some (.int f), some (.int step), some (.int (zb mis)), some (.int (nI i + 1)), o] [] (zK0, z_upI I' 2 (3 * i + 2) w, J, zR0 past) := by
        intro o w hw
        refine ih (i + 1) _ o _ (by rw [nI_1]) (by omega) (fun x hx => by rw [z_upI_ne hx]; exact f1 x hx) (fun j hj => ?_)
        by_cases c : j = 3 * i + 2
        · subst c; rw [uI_s, if_pos (by omega), show (3 * i + 2) / 3 = i by omega]; exact hw
        · rw [uI_k c, f2 j hj]
          by_cases d : j % 3 = 2 ∧ j / 3 < i
          · rw [if_pos d, if_pos (by omega)]
          · rw [if_neg d, if_neg (by omega)]
      refine sgX11_sheet hG [44] 60 44 ?_
      refine And.intro (fun q => absurd q (by rw [e0, nI_leI (by omega) (by omega)]; omega)) (fun _ => ?_)
      refine And.intro (fun c => ?_) (fun c => ?_)
      · have c := z_nb1 (x := 0) c
        refine And.intro (fun _ => ?_) (fun q => absurd rfl q)
        refine c_putBound hG (by decide) (π := S.1) (Or.inl rfl) e0 h6 i (by omega) 0 ?_
        exact nx _ 0 (by rw [sv i, if_neg (fun q => q.1 c)])
      · have c := (zb_eq0 _).mp c
        refine And.intro (fun d => ?_) (fun d => ?_)
        · refine And.intro (fun _ => ?_) (fun q => absurd rfl q)
          refine c_putBound hG (by decide) (π := S.1) (Or.inl rfl) e0 h6 i (by omega) 0 ?_
          exact nx _ 0 (by rw [sv i, if_neg (fun q => Int32.not_lt.mpr d q.2)])
        · refine And.intro (fun q => absurd q (by decide)) (fun _ => ?_)
          refine c_sheetEntry hG (by decide) _ _ ?_
          refine j_floorMod hG (by decide) _ _ (by decide) ?_
          refine c_putBound hG (by decide) (π := S.1) (Or.inl rfl) e0 h6 i (by omega) _ ?_
          exact nx _ _ (by rw [sv i, if_pos ⟨by rw [c]; decide, Int32.not_le.mp d⟩])
  refine rnX11_sheet hG hk 0 kind n f step ?_
  refine sgX11_sheet hG [44] 60 0 ?_
  refine And.intro (fun c1 => ?_) (fun c1 => ?_)
  · exact no (Or.inl (fun q => absurd q.1 (Int32.not_le.mpr c1)))
  refine And.intro (fun c2 => ?_) (fun c2 => ?_)
  · exact no (Or.inl (fun q => absurd q.2 (Int32.not_le.mpr c2)))
  refine And.intro (fun c3 => ?_) (fun c3 => ?_)
  · have a1 : ¬ (¬ (0 ≤ kind ∧ kind ≤ 3) ∨ 6 < n) := fun q => q.elim (fun z => z ⟨Int32.not_lt.mp c1, Int32.not_lt.mp c2⟩) (fun z => absurd c3 (Int32.not_le.mpr z))
    refine And.intro (fun c4 => ?_) (fun c4 => ?_)
    · refine And.intro (fun c5 => ?_) (fun c5 => ?_)
      · exact loop a1 (fun q => absurd q.2 (Int32.not_lt.mpr c5)) false (by rw [decide_eq_false c4]) S.1.1 0 0 none I rfl (by omega) (fun _ _ => rfl) (fun j hj => by rw [if_neg (by omega)])
      · refine And.intro (fun q => absurd rfl q) (fun _ => ?_)
        have e : sShe S kind n f step = (-2, S) := by unfold sShe; rw [if_neg a1, if_pos ⟨c4, Int32.not_le.mp c5⟩]
        rw [e] at h
        exact h I hS (fun _ _ => ⟨rfl, rfl⟩)
    · have l := loop a1 (fun q => q.1 c4) true (by rw [decide_eq_true c4]) S.1.1 0 0 none I rfl (by omega) (fun _ _ => rfl) (fun j hj => by rw [if_neg (by omega)])
      refine And.intro (fun c5 => ?_) (fun c5 => ?_)
      · exact l
      · refine And.intro (fun _ => ?_) (fun q => absurd q (by decide))
        exact l
  · exact no (Or.inr (Int32.not_le.mp c3))
theorem m_sheet {G : zG} (hG : zGok G) {k' : Nat} (hk : 2 ≤ k') {I : Nat → Nat → Int32} {J : Nat → Nat → Int64} {past : Nat → Nat} {Q : zRt} {S : zS} (hS : mSt I J S) (hv : vS S) (kind n f step : Int32) (h : ∀ I', mSt I' J (sShe S kind n f step).2 → mFr I J I' J → Q (some (.int (sShe S kind n f step).1)) (zK0, I', J, zR0 past)) : zCalls G k' yX12_sheet [.ref 305, .int kind, .int n, .int f, .int step] (zK0, I, J, zR0 past) Q := by
  have h6 := hv.1.1.1
  have h8 := hv.1.2.1
  have hS0 := mSt_thr (v := 0) hS
  have hQ0 : mQ I J (z_upI I 305 5 0) J := mQ_u (by omega)
  have no : (¬ (0 ≤ kind ∧ kind ≤ 3) ∨ 6 < n) → Q (some (.int (-1))) (zK0, z_upI I 305 5 0, J, zR0 past) := fun q => by
    have e : sShe S kind n f step = (-1, S) := by unfold sShe; rw [if_pos q]
    rw [e] at h
    exact h _ hS0 (mQ_fr hQ0)
  have loop : (¬ (¬ (0 ≤ kind ∧ kind ≤ 3) ∨ 6 < n)) → ¬ (¬ kind = 3 ∧ n < 0) → ∀ (r i : Nat) (v u : Int32) (o7 o8 : Option Value) (I' : Nat → Nat → Int32), v = nI i → u = f + nI i * step → i + r = S.1.1 → (∀ x, x ≠ 306 → I' x = z_upI I 305 5 0 x) → (I' 306 0 = I 306 0 ∧ ∀ j, 19 ≤ j → I' 306 j = I 306 j) → (∀ j, j < 18 → I' 306 (1 + j) = if j % 3 = 2 ∧ j / 3 < i then shV kind n f step (j / 3) else I 306 (1 + j)) → aX12_sheet G Q 40 [some (.ref 305), some (.int kind), some (.int n), some (.int f), some (.int step), some (.int u), some (.int v), o7, o8] [] (zK0, I', J, zR0 past) := by
    intro a1 a2 r
    have e1 : sShe S kind n f step = (if kind = 3 then -3 else nI S.1.1, (shP (shV kind n f step) S.1, S.2)) := by unfold sShe; rw [if_neg a1, if_neg a2]
    have sv : ∀ k, shV kind n f step k = if ¬ kind = 3 ∧ nI k < n then fM (shE kind (f + nI k * step)) 51 else 0 := fun k => rfl
    generalize hE : shV kind n f step = E at *
    induction r with
    | zero =>
      intro i v u o7 o8 I' ev eu hi f1 f2 f3
      subst ev
      have e0 : I' 306 (0 : Int32).toNatClampNeg = nI S.1.1 := by show I' 306 0 = _; rw [f2.1]; exact hS.1.1
      have hq : mPl I' 306 0 (shP E S.1) := ⟨e0, by rw [f2.2 _ (by omega)]; exact hS.1.2.1, fun j hj => by
        have hj : j < 3 * S.1.1 := hj
        show I' 306 (0 + 1 + j) = if j % 3 = 2 then E (j / 3) else S.1.2.1 j
        rw [Nat.zero_add, f3 j (by omega)]
        by_cases c : j % 3 = 2
        · rw [if_pos ⟨c, by omega⟩, if_pos c]
        · rw [if_neg (fun q => c q.1), if_neg c]; have := hS.1.2.2.1 j hj; rw [Nat.zero_add] at this; exact this, fun i hi j hj => by
        have hi : i < S.1.2.2.1 := hi
        rw [f2.2 _ (by omega)]; exact hS.1.2.2.2 i hi j hj⟩
      have hS1 := mSt_pl hS0 f1 hq
      have k : Q (some (.int (if kind = 3 then -3 else nI S.1.1))) (zK0, I', J, zR0 past) := by
        rw [e1] at h
        exact h I' hS1 (fun x hx => ⟨by rw [f1 x (by omega), z_upI_ne (by omega)], rfl⟩)
      refine sgX12_sheet hG [40] 100 40 ?_
      refine And.intro (by unfold vp_in; decide) ?_
      refine And.intro (fun _ => ?_) (fun q => absurd (by rw [e0, nI_leI (by omega) (by omega)]; omega) q)
      refine And.intro (fun c => ?_) (fun c => ?_)
      · refine And.intro (by unfold vp_in; decide) ?_
        rw [if_neg c, ← e0] at k
        exact k
      · rw [if_pos c] at k
        exact k
    | succ r ih =>
      intro i v u o7 o8 I' ev eu hi f1 f2 f3
      subst ev
      subst eu
      have e0 : I' 306 (0 : Int32).toNatClampNeg = nI S.1.1 := by show I' 306 0 = _; rw [f2.1]; exact hS.1.1
      have ei : (1 : Int32) + 3 * nI i + 2 = nI (1 + (3 * i + 2)) := by rw [show (2 : Int32) = nI 2 from rfl]; exact z_13kw i 2
      have ec : ((1 : Int32) + 3 * nI i + 2).toNatClampNeg = 1 + (3 * i + 2) := by rw [ei, nI_clamp (by omega)]
      have eu : f + nI i * step + step = f + nI (i + 1) * step := by rw [nI_succ, Int32.add_mul, Int32.one_mul, Int32.add_assoc]
      have nx : ∀ (o7 o8 : Option Value) (w : Int32), w = E i → aX12_sheet G Q 40 [some (.ref 305), some (.int kind), some (.int n), some (.int f), some (.int step), some (.int (f + nI i * step + step)), some (.int (nI i + 1)), o7, o8] [] (zK0, z_upI I' 306 ((1 : Int32) + 3 * nI i + 2).toNatClampNeg w, J, zR0 past) := by
        intro o7 o8 w hw
        rw [ec]
        refine ih (i + 1) _ _ o7 o8 _ (by rw [nI_1]) eu (by omega) (fun x hx => by rw [z_upI_ne hx]; exact f1 x hx) ⟨by rw [uI_k (by omega)]; exact f2.1, fun j hj => by rw [uI_k (by omega)]; exact f2.2 j hj⟩ (fun j hj => ?_)
        by_cases c : j = 3 * i + 2
        · subst c; rw [uI_s, if_pos (by omega), show (3 * i + 2) / 3 = i by omega]; exact hw
        · rw [uI_k (by omega), f3 j hj]
          by_cases d : j % 3 = 2 ∧ j / 3 < i
          · rw [if_pos d, if_pos (by omega)]
          · rw [if_neg d, if_neg (by omega)]
      have vin : vp_in ((1 : Int32) + 3 * nI i + 2) 140 := by rw [ei]; exact vp_in_nI (by omega) (by omega)
      have tail : ∀ w, w = shE kind (f + nI i * step) → aX12_sheet G Q 74 [some (.ref 305), some (.int kind), some (.int n), some (.int f), some (.int step), some (.int (f + nI i * step)), some (.int (nI i)), o7, o8] [.int w] (zK0, I', J, zR0 past) := by
        intro w hw
        refine sgX12_sheet hG [40] 100 74 ?_
        refine And.intro (by decide) ?_
        refine And.intro (fun c => ?_) (fun c => ?_)
        · exact And.intro vin (nx _ _ 0 (by rw [sv i, if_neg (fun q => q.1 c)]))
        · refine And.intro (fun d => ?_) (fun d => ?_)
          · refine And.intro (fun g => ?_) (fun g => ?_)
            · refine And.intro vin (nx _ _ _ ?_)
              rw [sv i, if_pos ⟨c, d⟩, ← hw]
              unfold fM
              rw [if_neg (Int32.not_lt.mpr g)]
            · refine And.intro vin (nx _ _ _ ?_)
              rw [sv i, if_pos ⟨c, d⟩, ← hw]
              unfold fM
              rw [if_pos (Int32.not_le.mp g)]
          · exact And.intro vin (nx _ _ 0 (by rw [sv i, if_neg (fun q => d q.2)]))
      refine sgX12_sheet hG [40, 74] 100 40 ?_
      refine And.intro (by unfold vp_in; decide) ?_
      refine And.intro (fun q => absurd q (by rw [e0, nI_leI (by omega) (by omega)]; omega)) (fun _ => ?_)
      refine And.intro (fun c => ?_) (fun c => ?_)
      · refine And.intro (fun d => ?_) (fun d => ?_)
        · exact tail _ (by unfold shE; rw [if_neg c, if_neg d])
        · exact tail _ (by unfold shE; rw [if_neg c, if_pos d])
      · exact tail _ (by unfold shE; rw [if_pos c])
  refine rnX12_sheet hG hk 305 kind n f step ?_
  refine sgX12_sheet hG [40] 60 0 ?_
  refine m_in hG (by decide) _ _ _ ?_
  rw [zb_if]
  refine And.intro (fun c => ?_) (fun c => ?_)
  · have c := (zb_eq0 _).mp c
    rw [decide_eq_false_iff_not] at c
    exact no (Or.inl c)
  have c := z_nb1 (x := 0) c
  rw [decide_eq_true_eq] at c
  refine And.intro (fun c3 => ?_) (fun c3 => ?_)
  · have a1 : ¬ (¬ (0 ≤ kind ∧ kind ≤ 3) ∨ 6 < n) := fun q => q.elim (fun z => z c) (fun z => absurd c3 (Int32.not_le.mpr z))
    have k3 : ¬ 3 ≤ kind ↔ ¬ kind = 3 := by
      constructor
      · intro q z; exact q (by rw [z]; decide)
      · intro q z; exact q (Int32.le_antisymm c.2 z)
    have fin : ¬ (¬ kind = 3 ∧ n < 0) → aX12_sheet G Q 40 [some (.ref 305), some (.int kind), some (.int n), some (.int f), some (.int step), some (.int f), some (.int 0), none, none] [] (zK0, z_upI I 305 5 0, J, zR0 past) := fun q => loop a1 q S.1.1 0 0 f none none _ rfl (by rw [nI_0, Int32.zero_mul, Int32.add_zero]) (by omega) (fun _ _ => rfl) ⟨by rw [z_upI_ne (by decide)], fun j _ => by rw [z_upI_ne (by decide)]⟩ (fun j hj => by rw [z_upI_ne (by decide), if_neg (by omega)])
    refine And.intro (fun c4 => ?_) (fun c4 => ?_)
    · exact fin (fun q => (k3.mpr q.1) c4)
    · refine And.intro (fun c5 => ?_) (fun c5 => ?_)
      · exact fin (fun q => absurd q.2 (Int32.not_lt.mpr c5))
      · have e : sShe S kind n f step = (-2, S) := by unfold sShe; rw [if_neg a1, if_pos ⟨k3.mp c4, Int32.not_le.mp c5⟩]
        rw [e] at h
        exact h _ hS0 (mQ_fr hQ0)
  · exact no (Or.inr (Int32.not_le.mp c3))
