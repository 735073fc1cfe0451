-- ===== reading what was written =====
theorem uI_s {f : Nat → Nat → Int32} {p k : Nat} {v : Int32} : z_upI f p k v p k = v := by rw [z_upI_self, pk_us]
theorem uI_k {f : Nat → Nat → Int32} {p k j : Nat} {v : Int32} (h : j ≠ k) : z_upI f p k v p j = f p j := by rw [z_upI_self, pk_un h]
theorem uI_p {f : Nat → Nat → Int32} {p k q j : Nat} {v : Int32} (h : q ≠ p) : z_upI f p k v q j = f q j := by rw [z_upI_ne h]
theorem uJ_s {f : Nat → Nat → Int64} {p k : Nat} {v : Int64} : z_upJ f p k v p k = v := by rw [z_upJ_self, pk_uLs]
theorem uJ_k {f : Nat → Nat → Int64} {p k j : Nat} {v : Int64} (h : j ≠ k) : z_upJ f p k v p j = f p j := by rw [z_upJ_self, pk_uLn h]
theorem uJ_p {f : Nat → Nat → Int64} {p k q j : Nat} {v : Int64} (h : q ≠ p) : z_upJ f p k v q j = f q j := by rw [z_upJ_ne h]
-- ===== fractions =====
def zred (a b : Int64) : Int64 × Int64 := (a / (if b < 0 then -(zgcd a b) else zgcd a b), b / (if b < 0 then -(zgcd a b) else zgcd a b))
theorem zgcd_pos {a b : Int64} (h : ¬ b = 0) : ∃ g, zgcd a b = lN g ∧ 0 < g ∧ g ≤ b.toInt.natAbs := by
  have h0 : b.toInt ≠ 0 := fun q => h (z_l_eq.mpr (by rw [q]; rfl))
  exact ⟨_, rfl, Nat.gcd_pos_of_pos_right _ (by omega), Nat.gcd_le_right _ (by omega)⟩
theorem zgcd_ne {a b : Int64} (h : ¬ b = 0) : ¬ zgcd a b = 0 := by
  obtain ⟨g, e, h1, h2⟩ := zgcd_pos (a := a) h
  have b1 := Int64.toInt_lt b
  have b2 := Int64.le_toInt b
  rw [e]
  intro q
  rcases Nat.lt_or_ge g (2 ^ 63) with hg | hg
  · rw [← z_lN0, pk_lEQ hg (by omega)] at q; omega
  · have : g = 2 ^ 63 := by omega
    subst this
    exact absurd q (by decide)
theorem z_neg_ne {x : Int64} (h : ¬ x = 0) : ¬ -x = 0 := by
  intro q
  apply h
  have : - -x = -0 := by rw [q]
  rw [Int64.neg_neg] at this
  rw [this]; rfl
theorem m_set {G : zG} (hG : zGok G) {k' : Nat} (hk : 2 ≤ k') {I : Nat → Nat → Int32} {J : Nat → Nat → Int64} {past : Nat → Nat} {Q : zRt} (a b : Int64) (ha : -9223372036854775808 < a.toInt) (hb : -9223372036854775808 < b.toInt) (h0 : ¬ b = 0) (h : Q none (zK0, I, z_upJ (z_upJ J 305 6 (zred a b).1) 305 7 (zred a b).2, zR0 past)) : zCalls G k' yX12_set [.ref 305, .long a, .long b] (zK0, I, J, zR0 past) Q := by
  refine rnX12_set hG hk 305 a b ?_
  refine sgX12_set hG [] 60 0 ?_
  refine m_common hG (by decide) a b ha hb ?_
  have hg := zgcd_ne (a := a) h0
  refine And.intro (fun c => ?_) (fun c => ?_)
  · refine And.intro hg (And.intro hg ?_)
    have e : (if b < 0 then -(zgcd a b) else zgcd a b) = zgcd a b := if_neg (Int64.not_lt.mpr c)
    simp only [zred, e] at h
    exact h
  · refine And.intro (z_neg_ne hg) (And.intro (z_neg_ne hg) ?_)
    have e : (if b < 0 then -(zgcd a b) else zgcd a b) = -zgcd a b := if_pos (Int64.not_le.mp c)
    simp only [zred, e] at h
    exact h
theorem c_put {G : zG} (hG : zGok G) {k' : Nat} (hk : 3 ≤ k') {I : Nat → Nat → Int32} {J : Nat → Nat → Int64} {past : Nat → Nat} {Q : zRt} (p : Nat) (hp : Nat.beq (zKd zK0 p).1 6 = true) (a b : Int64) (ha : -9223372036854775808 < a.toInt) (hb : b.toInt.natAbs < 2 ^ 49) (h0 : ¬ b = 0) (h : Q none (zK0, I, z_upJ (z_upJ J p 0 (zred a b).1) p 1 (zred a b).2, zR0 past)) : zCalls G k' yX6_put [.ref p, .long a, .long b] (zK0, I, J, zR0 past) Q := by
  refine rnX6_put hG hk p a b ?_
  refine sgX6_put hG [] 60 0 ?_
  refine c_gd hG (by decide) a b ha hb ?_
  have hg := zgcd_ne (a := a) h0
  refine And.intro (fun c => absurd c h0) (fun c => ?_)
  refine And.intro (fun _ => ?_) (fun c => absurd c hg)
  refine And.intro (fun c => ?_) (fun c => ?_)
  · refine And.intro hg ?_
    refine zB_in hp ?_
    refine And.intro hg ?_
    refine zB_in hp ?_
    have e : (if b < 0 then -(zgcd a b) else zgcd a b) = zgcd a b := if_neg (Int64.not_lt.mpr c)
    simp only [zred, e] at h
    exact h
  · refine And.intro (z_neg_ne hg) ?_
    refine zB_in hp ?_
    refine And.intro (z_neg_ne hg) ?_
    refine zB_in hp ?_
    have e : (if b < 0 then -(zgcd a b) else zgcd a b) = -zgcd a b := if_pos (Int64.not_le.mp c)
    simp only [zred, e] at h
    exact h
theorem c_rcopy {G : zG} (hG : zGok G) {k' : Nat} (hk : 1 ≤ k') {I : Nat → Nat → Int32} {J : Nat → Nat → Int64} {past : Nat → Nat} {Q : zRt} (p q : Nat) (hp : Nat.beq (zKd zK0 p).1 6 = true) (hq : Nat.beq (zKd zK0 q).1 6 = true) (hpq : q ≠ p) (h : Q none (zK0, I, z_upJ (z_upJ J p 0 (J q 0)) p 1 (J q 1), zR0 past)) : zCalls G k' yX6_copy [.ref p, .ref q] (zK0, I, J, zR0 past) Q := by
  refine rnX6_copy hG hk p q ?_
  refine sgX6_copy hG [] 60 0 ?_
  refine zB_in hq ?_
  refine zB_in hp ?_
  refine zB_in hq ?_
  refine zB_in hp ?_
  rw [uJ_p hpq]
  exact h
theorem c_isBelow {G : zG} (hG : zGok G) {k' : Nat} (hk : 1 ≤ k') {I : Nat → Nat → Int32} {J : Nat → Nat → Int64} {past : Nat → Nat} {Q : zRt} (p q : Nat) (hp : Nat.beq (zKd zK0 p).1 6 = true) (hq : Nat.beq (zKd zK0 q).1 6 = true) (h : Q (some (.int (if J p 0 * J q 1 < J q 0 * J p 1 then 1 else 0))) (zK0, I, J, zR0 past)) : zCalls G k' yX6_isBelow [.ref p, .ref q] (zK0, I, J, zR0 past) Q := by
  refine rnX6_isBelow hG hk p q ?_
  refine sgX6_isBelow hG [] 60 0 ?_
  refine zB_in hp ?_
  refine zB_in hq ?_
  refine zB_in hq ?_
  refine zB_in hp ?_
  refine And.intro (fun c => ?_) (fun c => ?_)
  · refine And.intro (Or.inl rfl) ?_
    rw [if_neg (Int64.not_lt.mpr c)] at h
    exact h
  · refine And.intro (Or.inr rfl) ?_
    rw [if_pos (Int64.not_le.mp c)] at h
    exact h
