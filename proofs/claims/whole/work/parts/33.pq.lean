-- ===== Int32 and Int64 by whole numbers =====
theorem i_of (x : Int32) : x = Int32.ofInt x.toInt := (Int32.ofInt_toInt x).symm
theorem l_of (x : Int64) : x = Int64.ofInt x.toInt := (Int64.ofInt_toInt x).symm
theorem iI_T {a : Int} (h : a.natAbs < 2 ^ 31) : (Int32.ofInt a).toInt = a := by rw [Int32.toInt_ofInt, z_bm32 (by omega) (by omega)]
theorem lI_T {a : Int} (h : a.natAbs < 2 ^ 63) : (Int64.ofInt a).toInt = a := by rw [Int64.toInt_ofInt, z_bm64 (by omega) (by omega)]
theorem lI_lt {a b : Int} (ha : a.natAbs < 2 ^ 63) (hb : b.natAbs < 2 ^ 63) : Int64.ofInt a < Int64.ofInt b ↔ a < b := by rw [Int64.lt_iff_toInt_lt, lI_T ha, lI_T hb]
theorem lI_le {a b : Int} (ha : a.natAbs < 2 ^ 63) (hb : b.natAbs < 2 ^ 63) : Int64.ofInt a ≤ Int64.ofInt b ↔ a ≤ b := by rw [Int64.le_iff_toInt_le, lI_T ha, lI_T hb]
theorem lI_eq {a b : Int} (ha : a.natAbs < 2 ^ 63) (hb : b.natAbs < 2 ^ 63) : Int64.ofInt a = Int64.ofInt b ↔ a = b := by rw [z_l_eq, lI_T ha, lI_T hb]
theorem iI_lt {a b : Int} (ha : a.natAbs < 2 ^ 31) (hb : b.natAbs < 2 ^ 31) : Int32.ofInt a < Int32.ofInt b ↔ a < b := by rw [Int32.lt_iff_toInt_lt, iI_T ha, iI_T hb]
theorem iI_le {a b : Int} (ha : a.natAbs < 2 ^ 31) (hb : b.natAbs < 2 ^ 31) : Int32.ofInt a ≤ Int32.ofInt b ↔ a ≤ b := by rw [Int32.le_iff_toInt_le, iI_T ha, iI_T hb]
theorem iI_eq {a b : Int} (ha : a.natAbs < 2 ^ 31) (hb : b.natAbs < 2 ^ 31) : Int32.ofInt a = Int32.ofInt b ↔ a = b := by rw [z_i_eq, iI_T ha, iI_T hb]
theorem iI_l {a : Int} (h : a.natAbs < 2 ^ 31) : (Int32.ofInt a).toInt64 = Int64.ofInt a := by rw [z_l_eq, z_i2l, iI_T h, lI_T (by omega)]
theorem lI_i (a : Int) : (Int64.ofInt a).toInt32 = Int32.ofInt a := by first | exact Int64.toInt32_ofInt | simp
theorem nI_I (n : Nat) : nI n = Int32.ofInt n := rfl
theorem lN_I (n : Nat) : lN n = Int64.ofInt n := rfl
theorem bd_mul {a b : Int} {A B : Nat} (ha : a.natAbs ≤ A) (hb : b.natAbs ≤ B) : (a * b).natAbs ≤ A * B := by rw [Int.natAbs_mul]; exact Nat.mul_le_mul ha hb
theorem bd_add {a b : Int} {A B : Nat} (ha : a.natAbs ≤ A) (hb : b.natAbs ≤ B) : (a + b).natAbs ≤ A + B := by omega
theorem bd_sub {a b : Int} {A B : Nat} (ha : a.natAbs ≤ A) (hb : b.natAbs ≤ B) : (a - b).natAbs ≤ A + B := by omega
-- ===== a point =====
def bPt (x y d : Int32) : Bool := ((decide (1 ≤ d) && decide (d ≤ 12)) && (decide (0 ≤ x) && decide (x ≤ 6 * d))) && (decide (0 ≤ y) && decide (y ≤ 6 * d))
theorem bPt_in {x y d : Int32} (h : bPt x y d = true) : ∃ xn yn dn : Nat, x = nI xn ∧ y = nI yn ∧ d = nI dn ∧ 1 ≤ dn ∧ dn ≤ 12 ∧ xn ≤ 6 * dn ∧ yn ≤ 6 * dn := by
  simp only [bPt, Bool.and_eq_true, decide_eq_true_eq] at h
  obtain ⟨⟨⟨a, b⟩, c, d'⟩, e, f⟩ := h
  obtain ⟨dn, h1, rfl⟩ := nI_of (x := d) (fun q => by
    have := Int32.lt_iff_toInt_lt.mp q
    have a := Int32.le_iff_toInt_le.mp a
    have e1 : (1 : Int32).toInt = 1 := by decide
    rw [Int32.toInt_zero] at this
    omega)
  obtain ⟨xn, h2, rfl⟩ := nI_of (Int32.not_lt.mpr c)
  obtain ⟨yn, h3, rfl⟩ := nI_of (Int32.not_lt.mpr e)
  rw [show (1 : Int32) = nI 1 from rfl, nI_leI (by omega) (by omega)] at a
  rw [show (12 : Int32) = nI 12 from rfl, nI_leI (by omega) (by omega)] at b
  rw [show (6 : Int32) = nI 6 from rfl, pk_mul, nI_leI h2 (by omega)] at d'
  rw [show (6 : Int32) = nI 6 from rfl, pk_mul, nI_leI h3 (by omega)] at f
  exact ⟨xn, yn, dn, rfl, rfl, rfl, a, b, d', f⟩
theorem c_isPoint {G : zG} (hG : zGok G) {k' : Nat} (hk : 1 ≤ k') {σ : zSt} {Q : zRt} (x y d : Int32) (h : Q (some (.int (zb (bPt x y d)))) σ) : zCalls G k' yX11_isPoint [.int x, .int y, .int d] σ Q := by
  have no : bPt x y d = false → Q (some (.int 0)) σ := fun e => by rw [e] at h; exact h
  refine rnX11_isPoint hG hk x y d ?_
  refine sgX11_isPoint hG [] 60 0 ?_
  refine And.intro (fun c1 => ?_) (fun c1 => ?_)
  · exact And.intro (Or.inl rfl) (no (by simp [bPt, Int32.not_le.mpr c1]))
  refine And.intro (fun c2 => ?_) (fun c2 => ?_)
  · exact And.intro (Or.inl rfl) (no (by simp [bPt, Int32.not_le.mpr c2]))
  refine And.intro (fun c3 => ?_) (fun c3 => ?_)
  · exact And.intro (Or.inl rfl) (no (by simp [bPt, Int32.not_le.mpr c3]))
  refine And.intro (fun c4 => ?_) (fun c4 => ?_)
  · exact And.intro (Or.inl rfl) (no (by simp [bPt, Int32.not_le.mpr c4]))
  refine And.intro (fun c5 => ?_) (fun c5 => ?_)
  · exact And.intro (Or.inl rfl) (no (by simp [bPt, Int32.not_le.mpr c5]))
  refine And.intro (fun c6 => ?_) (fun c6 => ?_)
  · exact And.intro (Or.inl rfl) (no (by simp [bPt, Int32.not_le.mpr c6]))
  refine And.intro (Or.inr rfl) ?_
  have e : bPt x y d = true := by simp [bPt, Int32.not_lt.mp c1, Int32.not_lt.mp c2, Int32.not_lt.mp c3, Int32.not_lt.mp c4, Int32.not_lt.mp c5, Int32.not_lt.mp c6]
  rw [e] at h; exact h
theorem m_isPoint {G : zG} (hG : zGok G) {k' : Nat} (hk : 2 ≤ k') {σ : zSt} {Q : zRt} (x y d : Int32) (h : Q (some (.int (zb (bPt x y d)))) σ) : zCalls G k' yX12_isPoint [.int x, .int y, .int d] σ Q := by
  have no : bPt x y d = false → Q (some (.int 0)) σ := fun e => by rw [e] at h; exact h
  refine rnX12_isPoint hG hk x y d ?_
  refine sgX12_isPoint hG [] 60 0 ?_
  refine m_in hG (by decide) _ _ _ ?_
  rw [z_ifb]
  refine And.intro (fun c1 => ?_) (fun c1 => ?_)
  · have c1 := (zb_eq0 _).mp c1
    exact And.intro (Or.inl rfl) (no (by unfold bPt; rw [c1]; rfl))
  have c1 := z_nb1 (x := 0) c1
  refine m_in hG (by decide) _ _ _ ?_
  rw [z_ifb]
  refine And.intro (fun c2 => ?_) (fun c2 => ?_)
  · have c2 := (zb_eq0 _).mp c2
    exact And.intro (Or.inl rfl) (no (by unfold bPt; rw [c1, c2]; rfl))
  have c2 := z_nb1 (x := 0) c2
  refine m_in hG (by decide) _ _ _ ?_
  rw [z_ifb]
  refine And.intro (fun c3 => ?_) (fun c3 => ?_)
  · have c3 := (zb_eq0 _).mp c3
    exact And.intro (Or.inl rfl) (no (by unfold bPt; rw [c1, c2, c3]; rfl))
  have c3 := z_nb1 (x := 0) c3
  refine And.intro (Or.inr rfl) ?_
  have e : bPt x y d = true := by unfold bPt; rw [c1, c2, c3]; rfl
  rw [e] at h; exact h
-- ===== the list of whole points =====
theorem zPts_len (π : zPl) (o : Int32) : (zPts π o).length ≤ 49 := zPtT_len _ 49
theorem zPts_in {π : zPl} {o : Int32} {i : Nat} {q : Nat × Nat} (h : (zPts π o)[i]? = some q) : q.1 < 7 ∧ q.2 < 7 ∧ i < (zPts π o).length := by
  have := zPtT_in _ 49 q (List.mem_of_getElem? h)
  exact ⟨by omega, this.2.2, (List.getElem?_eq_some_iff.mp h).1⟩
theorem z_tk {α : Type} {L : List α} {i : Nat} {q : α} {f : α → Bool} (h : L[i]? = some q) : (L.take (i + 1)).countP f = (L.take i).countP f + (if f q then 1 else 0) := by
  rw [List.take_succ, List.countP_append, h]
  congr 1
  show List.countP f [q] = _
  rw [List.countP_singleton]
theorem z_get {α : Type} {L : List α} {i : Nat} (h : i < L.length) : ∃ q, L[i]? = some q := ⟨L[i], List.getElem?_eq_getElem h⟩
/-- the points stand there -/
abbrev bdL (L : List (Nat × Nat)) : Prop := L.length ≤ 49 ∧ ∀ (i : Nat) (q : Nat × Nat), L[i]? = some q → q.1 < 7 ∧ q.2 < 7
theorem zPts_bd (π : zPl) (o : Int32) : bdL (zPts π o) := ⟨zPts_len π o, fun _ _ h => ⟨(zPts_in h).1, (zPts_in h).2.1⟩⟩
theorem cPts_fr {I I1 : Nat → Nat → Int32} {L : List (Nat × Nat)} (h : cPts I L) (h1 : I1 264 = I 264) (h2 : I1 265 = I 265) (h3 : I1 266 = I 266) : cPts I1 L := ⟨by rw [h1]; exact h.1, fun i q hq => by rw [h2, h3]; exact h.2 i q hq⟩
theorem mPts_fr {I I1 : Nat → Nat → Int32} {L : List (Nat × Nat)} (h : mPts I L) (h1 : I1 305 29 = I 305 29) (h2 : I1 316 = I 316) : mPts I1 L := ⟨by rw [h1]; exact h.1, fun i q hq => by rw [h2]; exact h.2 i q hq⟩
theorem c_has {G : zG} (hG : zGok G) {k' : Nat} (hk : 1 ≤ k') {I : Nat → Nat → Int32} {J : Nat → Nat → Int64} {past : Nat → Nat} {Q : zRt} {n : Nat} (hn : I 264 0 = nI n) (hn2 : n ≤ 49) (i : Nat) (hi : i < n) (h : Q (some (.int 1)) (zK0, I, J, zR0 past)) : zCalls G k' yX10_has [.ref 264, .int (nI i)] (zK0, I, J, zR0 past) Q := by
  refine rnX10_has hG hk 264 _ ?_
  refine sgX10_has hG [] 60 0 ?_
  refine And.intro (fun c => absurd c (nI_pos (by omega))) (fun _ => ?_)
  refine And.intro (fun c => absurd c (by rw [hn, nI_leI (by omega) (by omega)]; omega)) (fun _ => ?_)
  refine And.intro (fun c => absurd c (by rw [show Int32.ofNat 49 = nI 49 from rfl, nI_leI (by omega) (by omega)]; omega)) (fun _ => ?_)
  exact And.intro (Or.inr rfl) h
def zSm (a b : Int) (q : Nat × Nat) : Int := a * q.1 + b * q.2
theorem zSm_bd {a b : Int} {q : Nat × Nat} (ha : a.natAbs ≤ 1000000000) (hb : b.natAbs ≤ 1000000000) (h1 : q.1 < 7) (h2 : q.2 < 7) : (zSm a b q).natAbs ≤ 14000000000 := by
  have x := bd_mul (b := (q.1 : Int)) (B := 7) ha (by omega)
  have y := bd_mul (b := (q.2 : Int)) (B := 7) hb (by omega)
  have z := bd_add x y
  unfold zSm
  omega
theorem c_sum {G : zG} (hG : zGok G) {k' : Nat} (hk : 2 ≤ k') {I : Nat → Nat → Int32} {J : Nat → Nat → Int64} {past : Nat → Nat} {Q : zRt} {L : List (Nat × Nat)} (hL : cPts I L) (hb : bdL L) {i : Nat} {q : Nat × Nat} (hq : L[i]? = some q) (a b : Int) (h : Q (some (.long (Int64.ofInt (zSm a b q)))) (zK0, I, J, zR0 past)) : zCalls G k' yX10_sum [.ref 264, .int (nI i), .long (Int64.ofInt a), .long (Int64.ofInt b)] (zK0, I, J, zR0 past) Q := by
  have hi := (List.getElem?_eq_some_iff.mp hq).1
  have h49 := hb.1
  obtain ⟨b1, b2⟩ := hb.2 i q hq
  obtain ⟨e1, e2⟩ := hL.2 i q hq
  have en : (nI i).toNatClampNeg = i := nI_clamp (by omega)
  refine rnX10_sum hG hk 264 _ _ _ ?_
  refine sgX10_sum hG [] 60 0 ?_
  refine c_has hG (by decide) hL.1 (by omega) i hi ?_
  refine And.intro (fun c => absurd c (by decide)) (fun _ => ?_)
  refine And.intro (by exact vp_in_nI (by omega) (by omega)) ?_
  refine And.intro (by exact vp_in_nI (by omega) (by omega)) ?_
  have e : Int64.ofInt a * (I 265 (nI i).toNatClampNeg).toInt64 + Int64.ofInt b * (I 266 (nI i).toNatClampNeg).toInt64 = Int64.ofInt (zSm a b q) := by
    rw [en, e1, e2, nI_l (by omega), nI_l (by omega), lN_I, lN_I, ← Int64.ofInt_mul, ← Int64.ofInt_mul, ← Int64.ofInt_add]; rfl
  rw [← e] at h
  exact h
def zAbv (a b c : Int) (L : List (Nat × Nat)) : Nat := L.countP (fun q => decide (c < zSm a b q))
theorem c_above {G : zG} (hG : zGok G) {k' : Nat} (hk : 3 ≤ k') {I : Nat → Nat → Int32} {J : Nat → Nat → Int64} {past : Nat → Nat} {Q : zRt} {L : List (Nat × Nat)} (hL : cPts I L) (hb : bdL L) (a b c : Int) (ha : a.natAbs ≤ 1000000000) (hb' : b.natAbs ≤ 1000000000) (hc : c.natAbs ≤ 1000000000) (h : Q (some (.int (nI (zAbv a b c L)))) (zK0, I, J, zR0 past)) : zCalls G k' yX10_above [.ref 264, .long (Int64.ofInt a), .long (Int64.ofInt b), .long (Int64.ofInt c)] (zK0, I, J, zR0 past) Q := by
  have h49 := hb.1
  have loop : ∀ (r i : Nat) (v w : Int32), v = nI i → w = nI ((L.take i).countP (fun q => decide (c < zSm a b q))) → i + r = L.length → aX10_above G Q 6 [some (.ref 264), some (.long (Int64.ofInt a)), none, some (.long (Int64.ofInt b)), none, some (.long (Int64.ofInt c)), none, some (.int w), some (.int v)] [] (zK0, I, J, zR0 past) := by
    intro r
    induction r with
    | zero =>
      intro i v w ev ew hi
      subst ev
      subst ew
      refine sgX10_above hG [6] 60 6 ?_
      refine And.intro (fun _ => ?_) (fun q => absurd (by rw [hL.1, nI_leI (by omega) (by omega)]; omega) q)
      rw [List.take_of_length_le (by omega)]
      exact h
    | succ r ih =>
      intro i v w ev ew hi
      subst ev
      subst ew
      obtain ⟨q, hq⟩ := z_get (L := L) (i := i) (by omega)
      obtain ⟨b1, b2⟩ := hb.2 i q hq
      have hlen : (L.take i).countP (fun q => decide (c < zSm a b q)) ≤ 49 := Nat.le_trans List.countP_le_length (Nat.le_trans (List.length_take_le i L) (by omega))
      have ht := z_tk (f := fun q => decide (c < zSm a b q)) hq
      have bs := zSm_bd ha hb' b1 b2
      refine sgX10_above hG [6] 60 6 ?_
      refine And.intro (fun q => absurd q (by rw [hL.1, nI_leI (by omega) (by omega)]; omega)) (fun _ => ?_)
      refine c_sum hG (by decide) hL hb hq a b ?_
      refine And.intro (fun c1 => ?_) (fun c1 => ?_)
      · rw [lI_le (by omega) (by omega)] at c1
        rw [if_neg (by rw [decide_eq_true_eq]; omega)] at ht
        exact ih (i + 1) _ _ (by rw [nI_1]) (by rw [ht]; rfl) (by omega)
      · rw [lI_le (by omega) (by omega)] at c1
        rw [if_pos (by rw [decide_eq_true_eq]; omega)] at ht
        exact ih (i + 1) _ _ (by rw [nI_1]) (by rw [ht, nI_1]) (by omega)
  refine rnX10_above hG hk 264 _ _ _ ?_
  refine sgX10_above hG [6] 60 0 ?_
  exact loop L.length 0 0 0 rfl rfl (by omega)
theorem c_ptell {G : zG} (hG : zGok G) {k' : Nat} (hk : 2 ≤ k') {I : Nat → Nat → Int32} {J : Nat → Nat → Int64} {past : Nat → Nat} {Q : zRt} {L : List (Nat × Nat)} (hL : cPts I L) (hb : bdL L) {i : Nat} {q : Nat × Nat} (hq : L[i]? = some q) {N : List Int64} (hN : cNm I J N) (h98 : N.length + 1 < 98) (h : ∀ I' J', (∀ x, x ≠ 128 → I' x = I x) → (∀ x, x ≠ 129 → J' x = J x) → cNm I' J' (N ++ [lN q.1, lN q.2]) → Q none (zK0, I', J', zR0 past)) : zCalls G k' yX10_tell [.ref 264, .int (nI i), .ref 128] (zK0, I, J, zR0 past) Q := by
  have hi := (List.getElem?_eq_some_iff.mp hq).1
  have h49 := hb.1
  obtain ⟨b1, b2⟩ := hb.2 i q hq
  obtain ⟨e1, e2⟩ := hL.2 i q hq
  have en : (nI i).toNatClampNeg = i := nI_clamp (by omega)
  refine rnX10_tell hG hk 264 _ 128 ?_
  refine sgX10_tell hG [] 60 0 ?_
  refine c_has hG (by decide) hL.1 (by omega) i hi ?_
  refine And.intro (fun c => absurd c (by decide)) (fun _ => ?_)
  refine And.intro (by exact vp_in_nI (by omega) (by omega)) ?_
  refine c_tell hG (by decide) hN (by omega) _ (fun I1 J1 f1 g1 q1 => ?_)
  refine And.intro (by exact vp_in_nI (by omega) (by omega)) ?_
  refine c_tell hG (by decide) q1 (by rw [List.length_append, List.length_singleton]; omega) _ (fun I2 J2 f2 g2 q2 => ?_)
  rw [f1 266 (by decide), en, e1, e2, nI_l (by omega), nI_l (by omega), List.append_assoc] at q2
  exact h I2 J2 (fun x hx => (f2 x hx).trans (f1 x hx)) (fun x hx => (g2 x hx).trans (g1 x hx)) q2
