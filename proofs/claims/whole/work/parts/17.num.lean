-- ===== numbers: ints and longs as whole numbers =====
theorem z_bm64 {n : Int} (h1 : -9223372036854775808 ≤ n) (h2 : n < 9223372036854775808) : n.bmod (2 ^ 64) = n := by
  rw [Int.bmod_def]
  split <;> omega
theorem z_bm32 {n : Int} (h1 : -2147483648 ≤ n) (h2 : n < 2147483648) : n.bmod (2 ^ 32) = n := by
  rw [Int.bmod_def]
  split <;> omega
theorem z_ladd {a b : Int64} (h1 : -9223372036854775808 ≤ a.toInt + b.toInt) (h2 : a.toInt + b.toInt < 9223372036854775808) : (a + b).toInt = a.toInt + b.toInt := by rw [Int64.toInt_add, z_bm64 h1 h2]
theorem z_lsub {a b : Int64} (h1 : -9223372036854775808 ≤ a.toInt - b.toInt) (h2 : a.toInt - b.toInt < 9223372036854775808) : (a - b).toInt = a.toInt - b.toInt := by rw [Int64.toInt_sub, z_bm64 h1 h2]
theorem z_lmul {a b : Int64} (h1 : -9223372036854775808 ≤ a.toInt * b.toInt) (h2 : a.toInt * b.toInt < 9223372036854775808) : (a * b).toInt = a.toInt * b.toInt := by rw [Int64.toInt_mul, z_bm64 h1 h2]
theorem z_lneg {a : Int64} (h : -9223372036854775808 < a.toInt) : (-a).toInt = -a.toInt := by
  have := Int64.toInt_lt a
  rw [Int64.toInt_neg, z_bm64 (by omega) (by omega)]
theorem z_iadd {a b : Int32} (h1 : -2147483648 ≤ a.toInt + b.toInt) (h2 : a.toInt + b.toInt < 2147483648) : (a + b).toInt = a.toInt + b.toInt := by rw [Int32.toInt_add, z_bm32 h1 h2]
theorem z_isub {a b : Int32} (h1 : -2147483648 ≤ a.toInt - b.toInt) (h2 : a.toInt - b.toInt < 2147483648) : (a - b).toInt = a.toInt - b.toInt := by rw [Int32.toInt_sub, z_bm32 h1 h2]
theorem z_imul {a b : Int32} (h1 : -2147483648 ≤ a.toInt * b.toInt) (h2 : a.toInt * b.toInt < 2147483648) : (a * b).toInt = a.toInt * b.toInt := by rw [Int32.toInt_mul, z_bm32 h1 h2]
theorem z_l_eq {a b : Int64} : a = b ↔ a.toInt = b.toInt := Int64.toInt_inj.symm
theorem z_i_eq {a b : Int32} : a = b ↔ a.toInt = b.toInt := Int32.toInt_inj.symm
theorem z_ldiv {a b : Int64} (h : -9223372036854775808 < a.toInt) : (a / b).toInt = a.toInt.tdiv b.toInt := by
  rw [Int64.toInt_div]
  have h0 := Int64.toInt_lt a
  have h1 : (a.toInt.tdiv b.toInt).natAbs ≤ a.toInt.natAbs := by rw [Int.natAbs_tdiv]; exact Nat.div_le_self _ _
  exact z_bm64 (by omega) (by omega)
theorem z_i2l (x : Int32) : x.toInt64.toInt = x.toInt := Int32.toInt_toInt64 x
theorem z_lN0 : lN 0 = 0 := rfl
/-- the size of a long, as a long -/
theorem z_abs {x : Int64} (h : -9223372036854775808 < x.toInt) : (if x < 0 then -x else x) = lN x.toInt.natAbs := by
  have h2 := Int64.toInt_lt x
  split
  · rename_i c
    rw [Int64.lt_iff_toInt_lt, Int64.toInt_zero] at c
    rw [z_l_eq, z_lneg h, pk_lT (by omega)]
    omega
  · rename_i c
    rw [Int64.lt_iff_toInt_lt, Int64.toInt_zero] at c
    rw [z_l_eq, pk_lT (by omega)]
    omega
def zgcd (a b : Int64) : Int64 := lN (Nat.gcd a.toInt.natAbs b.toInt.natAbs)
-- ===== the model's common() =====
theorem m_common_loop {G : zG} (hG : zGok G) {σ : zSt} {Q : zRt} (o0 o1 o2 o8 o9 : Option Value) : ∀ (y x : Nat), x < 2 ^ 63 → y < 2 ^ 63 → Q (some (.long (lN (Nat.gcd x y)))) σ →
    aX12_common G Q 28 [o0, o1, o2, none, some (.long (lN x)), none, some (.long (lN y)), none, o8, o9] [] σ := by
  intro y
  induction y using Nat.strongRecOn generalizing o8 o9 with
  | ind y ih =>
    intro x hx hy h
    refine sgX12_common hG [28] 40 28 ?_
    refine And.intro (fun c => ?_) (fun c => ?_)
    · have e : y = 0 := by
        rw [← z_lN0, pk_lEQ hy (by omega)] at c
        exact c
      subst e
      rw [Nat.gcd_zero_right] at h
      exact h
    · have hy0 : 0 < y := by
        rcases Nat.eq_zero_or_pos y with e | e
        · subst e; exact absurd rfl c
        · exact e
      refine And.intro c ?_
      have e := pk_lRem hx hy0 hy
      have k := ih (x % y) (Nat.mod_lt _ hy0) (some (.long (lN (x % y)))) none y hy (by have := Nat.mod_lt x hy0; omega) (by rw [Nat.gcd_comm, ← Nat.gcd_rec, Nat.gcd_comm]; exact h)
      rw [← e] at k
      exact k
theorem m_common {G : zG} (hG : zGok G) {k' : Nat} (hk : 1 ≤ k') {σ : zSt} {Q : zRt} (a b : Int64) (ha : -9223372036854775808 < a.toInt) (hb : -9223372036854775808 < b.toInt) (h : Q (some (.long (zgcd a b))) σ) : zCalls G k' yX12_common [.long a, .long b] σ Q := by
  refine rnX12_common hG hk a b ?_
  have a2 := Int64.toInt_lt a
  have b2 := Int64.toInt_lt b
  have e1 := z_abs ha
  have e2 := z_abs hb
  have fin := m_common_loop hG (σ := σ) (Q := Q) (some (.long a)) none (some (.long b)) none none b.toInt.natAbs a.toInt.natAbs (by omega) (by omega) h
  refine sgX12_common hG [28] 40 0 ?_
  refine And.intro (fun c => ?_) (fun c => ?_)
  · rw [if_neg (Int64.not_lt.mpr c)] at e1
    refine And.intro (fun d => ?_) (fun d => ?_)
    · rw [if_neg (Int64.not_lt.mpr d)] at e2
      rw [← e1, ← e2] at fin
      exact fin
    · rw [if_pos (Int64.not_le.mp d)] at e2
      rw [← e1, ← e2] at fin
      exact fin
  · rw [if_pos (Int64.not_le.mp c)] at e1
    refine And.intro (fun d => ?_) (fun d => ?_)
    · rw [if_neg (Int64.not_lt.mpr d)] at e2
      rw [← e1, ← e2] at fin
      exact fin
    · rw [if_pos (Int64.not_le.mp d)] at e2
      rw [← e1, ← e2] at fin
      exact fin
-- ===== the class's greatestDivisor() =====
theorem j_abs {G : zG} (hG : zGok G) {k' : Nat} (hk : 1 ≤ k') {σ : zSt} {Q : zRt} (a : Int64) (ha : -9223372036854775808 < a.toInt) (h : Q (some (.long (lN a.toInt.natAbs))) σ) : zCalls G k' yJ9_abs_067f4 [.long a] σ Q := by
  refine rnJ9_abs_067f4 hG hk a ?_
  have e1 := z_abs ha
  refine sgJ9_abs_067f4 hG [] 40 0 ?_
  refine And.intro (fun c => ?_) (fun c => ?_)
  · rw [if_neg (Int64.not_lt.mpr c)] at e1
    rw [← e1] at h
    exact h
  · rw [if_pos (Int64.not_le.mp c)] at e1
    rw [← e1] at h
    exact h
theorem c_gd_loop {G : zG} (hG : zGok G) {σ : zSt} {Q : zRt} (o0 o1 o2 : Option Value) : ∀ (t : Nat) (o9 o10 : Option Value) (s x y : Nat), y < 2 ^ t → s + 2 * t + 1 ≤ 100 → x < 2 ^ 63 → y < 2 ^ 63 → Q (some (.long (lN (Nat.gcd x y)))) σ →
    aX11_greatestDivisor G Q 15 [o0, o1, o2, none, some (.long (lN x)), none, some (.long (lN y)), none, some (.int (nI s)), o9, o10] [] σ := by
  have exit0 : ∀ (o9 o10 : Option Value) (s x : Nat), s < 100 → x < 2 ^ 63 → Q (some (.long (lN x))) σ → aX11_greatestDivisor G Q 15 [o0, o1, o2, none, some (.long (lN x)), none, some (.long (lN 0)), none, some (.int (nI s)), o9, o10] [] σ := by
    intro o9 o10 s x hs hx h
    refine sgX11_greatestDivisor hG [15] 40 15 ?_
    refine And.intro (fun c => ?_) (fun c => ?_)
    · exact absurd c (by rw [show (100 : Int32) = nI 100 from rfl, nI_leI (by omega) (by omega)]; omega)
    · refine And.intro (fun _ => ?_) (fun c => absurd rfl c)
      exact h
  have one : ∀ (o9 o10 : Option Value) (s x y : Nat), s < 100 → x < 2 ^ 63 → y < 2 ^ 63 → 0 < y → (aX11_greatestDivisor G Q 15 [o0, o1, o2, none, some (.long (lN y)), none, some (.long (lN (x % y))), none, some (.int (nI (s + 1))), some (.long (lN (x % y))), none] [] σ) → aX11_greatestDivisor G Q 15 [o0, o1, o2, none, some (.long (lN x)), none, some (.long (lN y)), none, some (.int (nI s)), o9, o10] [] σ := by
    intro o9 o10 s x y hs hx hy h0 k
    have hne : ¬ lN y = 0 := by rw [← z_lN0, pk_lEQ hy (by omega)]; omega
    refine sgX11_greatestDivisor hG [15] 40 15 ?_
    refine And.intro (fun c => ?_) (fun c => ?_)
    · exact absurd c (by rw [show (100 : Int32) = nI 100 from rfl, nI_leI (by omega) (by omega)]; omega)
    · refine And.intro (fun c => absurd c hne) (fun c => ?_)
      refine And.intro hne ?_
      rw [← pk_lRem hx h0 hy, ← nI_1] at k
      exact k
  intro t
  induction t with
  | zero =>
    intro o9 o10 s x y hy hs hx hy2 h
    have e : y = 0 := by omega
    subst e
    rw [Nat.gcd_zero_right] at h
    exact exit0 o9 o10 s x (by omega) hx h
  | succ t ih =>
    intro o9 o10 s x y hy hs hx hy2 h
    rcases Nat.eq_zero_or_pos y with e | h0
    · subst e
      rw [Nat.gcd_zero_right] at h
      exact exit0 o9 o10 s x (by omega) hx h
    · have g1 : Nat.gcd y (x % y) = Nat.gcd x y := by rw [Nat.gcd_comm, ← Nat.gcd_rec, Nat.gcd_comm]
      refine one o9 o10 s x y (by omega) hx hy2 h0 ?_
      have hr := Nat.mod_lt x h0
      rcases Nat.eq_zero_or_pos (x % y) with e | h1
      · rw [e] at g1 ⊢
        rw [Nat.gcd_zero_right] at g1
        rw [← g1] at h
        exact exit0 _ _ _ _ (by omega) hy2 h
      · generalize x % y = r at *
        refine one _ _ _ _ _ (by omega) hy2 (by omega) h1 ?_
        have hr2 := Nat.mod_lt y h1
        have g2 : Nat.gcd r (y % r) = Nat.gcd y r := by rw [Nat.gcd_comm, ← Nat.gcd_rec, Nat.gcd_comm]
        refine ih _ _ _ _ _ ?_ (by omega) (by omega) (by omega) (by rw [g2, g1]; exact h)
        have hq : y % r + r ≤ y := by
          have := Nat.div_add_mod y r
          have h3 : 1 ≤ y / r := Nat.div_pos (by omega) h1
          have h4 : r * 1 ≤ r * (y / r) := Nat.mul_le_mul_left r h3
          omega
        rw [Nat.pow_succ] at hy
        omega
theorem c_gd {G : zG} (hG : zGok G) {k' : Nat} (hk : 2 ≤ k') {σ : zSt} {Q : zRt} (a b : Int64) (ha : -9223372036854775808 < a.toInt) (hb : b.toInt.natAbs < 2 ^ 49) (h : Q (some (.long (zgcd a b))) σ) : zCalls G k' yX11_greatestDivisor [.long a, .long b] σ Q := by
  refine rnX11_greatestDivisor hG hk a b ?_
  have a2 := Int64.toInt_lt a
  refine sgX11_greatestDivisor hG [15] 40 0 ?_
  refine j_abs hG (by decide) _ ha ?_
  refine j_abs hG (by decide) _ (by omega) ?_
  exact c_gd_loop hG (some (.long a)) none (some (.long b)) 49 none none 0 _ _ hb (by omega) (by omega) (by omega) h
