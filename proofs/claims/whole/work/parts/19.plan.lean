-- ===== plans =====
abbrev zPl : Type := Nat × (Nat → Int32) × Nat × (Nat → Nat → Int32)
def pR (π : zPl) (k w : Nat) : Int32 := if k < π.1 then π.2.1 (3 * k + w) else zBx (3 * (k - π.1) + w)
def zPerm (j : Nat) : Nat := [0, 1, 2, 5, 6, 7, 8, 9, 10, 11, 12, 13, 14, 3, 4].getD j 0
/-- the model's picture of a plan: in the array a from place o on -/
def mPl (I : Nat → Nat → Int32) (a o : Nat) (π : zPl) : Prop := I a o = nI π.1 ∧ I a (o + 19) = nI π.2.2.1 ∧ (∀ j, j < 3 * π.1 → I a (o + 1 + j) = π.2.1 j) ∧ ∀ i, i < π.2.2.1 → ∀ j, j < 15 → I a (o + 20 + 15 * i + j) = π.2.2.2 i j
/-- the class's picture: the object p and what hangs on it -/
def cPl (I : Nat → Nat → Int32) (J : Nat → Nat → Int64) (p : Nat) (π : zPl) : Prop := I p 0 = nI π.1 ∧ I p 1 = nI π.2.2.1 ∧ (∀ j, j < 3 * π.1 → I (p + 1) j = π.2.1 j) ∧ ∀ i, i < π.2.2.1 → ∀ j, j < 15 → J (p + 3 + i) j = (π.2.2.2 i (zPerm j)).toInt64
def okRow (a b c : Int32) : Prop := (-5 ≤ a ∧ a ≤ 5) ∧ (-5 ≤ b ∧ b ≤ 5) ∧ (-50 ≤ c ∧ c ≤ 50) ∧ (¬ a = 0 ∨ ¬ b = 0)
def vRw (π : zPl) : Prop := π.1 ≤ 6 ∧ ∀ k, k < π.1 → okRow (π.2.1 (3 * k)) (π.2.1 (3 * k + 1)) (π.2.1 (3 * k + 2))
theorem z_3kw (k w : Nat) : (3 : Int32) * nI k + nI w = nI (3 * k + w) := by rw [show (3 : Int32) = nI 3 from rfl, pk_mul, nI_add]
theorem z_13kw (k w : Nat) : (1 : Int32) + 3 * nI k + nI w = nI (1 + (3 * k + w)) := by rw [show (1 : Int32) = nI 1 from rfl, show (3 : Int32) = nI 3 from rfl, pk_mul, nI_add, nI_add, Nat.add_assoc]
theorem m_of {G : zG} (hG : zGok G) {k' : Nat} (hk : 1 ≤ k') {I : Nat → Nat → Int32} {J : Nat → Nat → Int64} {past : Nat → Nat} {Q : zRt} {π : zPl} (hm : mPl I 306 0 π) (h6 : π.1 ≤ 6) (k w : Nat) (hkn : k < π.1 + 4) (hw : w < 3) (h : Q (some (.int (pR π k w))) (zK0, I, J, zR0 past)) : zCalls G k' yX12_of [.ref 305, .int (nI k), .int (nI w)] (zK0, I, J, zR0 past) Q := by
  have e0 : I 306 0 = nI π.1 := hm.1
  refine rnX12_of hG hk 305 (nI k) (nI w) ?_
  refine sgX12_of hG [] 60 0 ?_
  refine And.intro (by unfold vp_in; decide) ?_
  refine And.intro (fun c => ?_) (fun c => ?_)
  · have c : nI π.1 ≤ nI k := by rw [← e0]; exact c
    rw [nI_leI (by omega) (by omega)] at c
    refine And.intro (by unfold vp_in; decide) ?_
    have e1 : (3 : Int32) * (nI k - I 306 (0 : Int32).toNatClampNeg) + nI w = nI (3 * (k - π.1) + w) := by
      rw [show I 306 (0 : Int32).toNatClampNeg = nI π.1 from e0, pk_sub c, z_3kw]
    refine And.intro (by rw [e1]; exact vp_in_nI (by omega) (by omega)) ?_
    have e2 : zBx ((3 : Int32) * (nI k - I 306 (0 : Int32).toNatClampNeg) + nI w).toNatClampNeg = pR π k w := by
      rw [e1, nI_clamp (by omega)]; unfold pR; rw [if_neg (by omega)]
    rw [← e2] at h
    exact h
  · have c : ¬ nI π.1 ≤ nI k := by rw [← e0]; exact c
    rw [nI_leI (by omega) (by omega)] at c
    have e1 := z_13kw k w
    refine And.intro (by rw [e1]; exact vp_in_nI (by omega) (by omega)) ?_
    have e2 : I 306 ((1 : Int32) + 3 * nI k + nI w).toNatClampNeg = pR π k w := by
      rw [e1, nI_clamp (by omega)]; unfold pR; rw [if_pos (by omega)]
      have := hm.2.2.1 (3 * k + w) (by omega)
      rw [← this]
    rw [← e2] at h
    exact h
theorem m_lines2 {G : zG} (hG : zGok G) {k' : Nat} (hk : 1 ≤ k') {I : Nat → Nat → Int32} {J : Nat → Nat → Int64} {past : Nat → Nat} {Q : zRt} {π : zPl} (hm : mPl I 306 0 π) (h : Q (some (.int (nI (π.1 + 4)))) (zK0, I, J, zR0 past)) : zCalls G k' yX12_lines [.ref 305] (zK0, I, J, zR0 past) Q := by
  refine m_lines hG hk ?_
  rw [show I 306 0 = nI π.1 from hm.1, show (4 : Int32) = nI 4 from rfl, nI_add]
  exact h
theorem c_allRows {G : zG} (hG : zGok G) {k' : Nat} (hk : 1 ≤ k') {I : Nat → Nat → Int32} {J : Nat → Nat → Int64} {past : Nat → Nat} {Q : zRt} {π : zPl} {p : Nat} (hp : p = 1 ∨ p = 12) (hc : I p 0 = nI π.1) (h : Q (some (.int (nI (π.1 + 4)))) (zK0, I, J, zR0 past)) : zCalls G k' yX5_allRows [.ref p] (zK0, I, J, zR0 past) Q := by
  rw [← nI_add, ← hc] at h
  rcases hp with rfl | rfl
  all_goals
    refine rnX5_allRows hG hk _ ?_
    refine sgX5_allRows hG [] 60 0 ?_
    exact h
theorem c_isTold0 {G : zG} (hG : zGok G) {k' : Nat} (hk : 1 ≤ k') {I : Nat → Nat → Int32} {J : Nat → Nat → Int64} {past : Nat → Nat} {Q : zRt} {π : zPl} {p : Nat} (hp : p = 1 ∨ p = 12) (hc : I p 0 = nI π.1) (h6 : π.1 ≤ 6) (k : Int32) (h1 : (0 ≤ k ∧ k < nI π.1) → Q (some (.int 1)) (zK0, I, J, zR0 past)) (h0 : ¬ (0 ≤ k ∧ k < nI π.1) → Q (some (.int 0)) (zK0, I, J, zR0 past)) : zCalls G k' yX5_isTold [.ref p, .int k] (zK0, I, J, zR0 past) Q := by
  have s6 : nI π.1 ≤ (6 : Int32) := by rw [show (6 : Int32) = nI 6 from rfl, nI_leI (by omega) (by omega)]; exact h6
  rcases hp with rfl | rfl
  all_goals
    refine rnX5_isTold hG hk _ k ?_
    refine sgX5_isTold hG [] 60 0 ?_
    refine And.intro (fun c => ?_) (fun c => ?_)
    · exact And.intro (Or.inl rfl) (h0 (fun q => absurd q.1 (Int32.not_le.mpr c)))
    · refine And.intro (fun c2 => ?_) (fun c2 => ?_)
      · rw [hc] at c2
        exact And.intro (Or.inl rfl) (h0 (fun q => absurd q.2 (Int32.not_lt.mpr c2)))
      · rw [hc] at c2
        refine And.intro (fun c3 => absurd (Int32.le_trans s6 c3) c2) (fun _ => ?_)
        exact And.intro (Or.inr rfl) (h1 ⟨Int32.not_lt.mp c, Int32.not_le.mp c2⟩)
theorem c_part {G : zG} (hG : zGok G) {k' : Nat} (hk : 2 ≤ k') {I : Nat → Nat → Int32} {J : Nat → Nat → Int64} {past : Nat → Nat} {Q : zRt} {π : zPl} {p : Nat} (hp : p = 1 ∨ p = 12) (hc : cPl I J p π) (h6 : π.1 ≤ 6) (k w : Nat) (hkn : k < π.1 + 4) (hw : w < 3) (h : Q (some (.int (pR π k w))) (zK0, I, J, zR0 past)) : zCalls G k' yX5_part [.ref p, .int (nI k), .int (nI w)] (zK0, I, J, zR0 past) Q := by
  have e0 : I p 0 = nI π.1 := hc.1
  have e3 := hc.2.2.1
  have w0 : ¬ nI w < 0 := nI_pos (by omega)
  have k0 : ¬ nI k < 0 := nI_pos (by omega)
  have w2 : nI w ≤ 2 := by rw [show (2 : Int32) = nI 2 from rfl, nI_leI (by omega) (by omega)]; omega
  have kn : ¬ nI (π.1 + 4) ≤ nI k := by rw [nI_leI (by omega) (by omega)]; omega
  have fin : ∀ (x : Int32), x = pR π k w → Q (some (.int x)) (zK0, I, J, zR0 past) := fun x hx => by rw [hx]; exact h
  rcases hp with rfl | rfl
  all_goals
    refine rnX5_part hG hk _ (nI k) (nI w) ?_
    refine sgX5_part hG [] 60 0 ?_
    refine And.intro (fun c => absurd c k0) (fun _ => ?_)
    refine c_allRows hG (by decide) (by decide) e0 ?_
    refine And.intro (fun c => absurd c kn) (fun _ => ?_)
    refine And.intro (fun c => absurd c w0) (fun _ => ?_)
    refine And.intro (fun _ => ?_) (fun c => absurd w2 c)
    refine c_isTold0 hG (by decide) (by decide) e0 h6 (nI k) (fun c => ?_) (fun c => ?_)
    rotate_left
    · have c : π.1 ≤ k := by
        have c2 : ¬ nI k < nI π.1 := fun q => c ⟨Int32.not_lt.mp k0, q⟩
        rw [nI_ltI (by omega) (by omega)] at c2
        omega
      refine And.intro (fun _ => ?_) (fun q => absurd rfl q)
      have e1 : (3 : Int32) * (nI k - nI π.1) + nI w = nI (3 * (k - π.1) + w) := by rw [pk_sub c, z_3kw]
      rw [← e0] at e1
      have n0 : ¬ nI (3 * (k - π.1) + w) < 0 := nI_pos (by omega)
      have n12 : ¬ Int32.ofNat 12 ≤ nI (3 * (k - π.1) + w) := by rw [show Int32.ofNat 12 = nI 12 from rfl, nI_leI (by omega) (by omega)]; omega
      rw [← e1] at n0 n12
      refine And.intro (fun q => absurd q n0) (fun _ => ?_)
      refine And.intro (fun q => absurd q n12) (fun _ => ?_)
      refine And.intro (by rw [e1]; exact vp_in_nI (by omega) (by omega)) ?_
      refine fin _ ?_
      rw [e1, nI_clamp (by omega)]; unfold pR; rw [if_neg (by omega)]
    · have c : k < π.1 := by
        have c2 := c.2
        rw [nI_ltI (by omega) (by omega)] at c2
        exact c2
      refine And.intro (fun q => absurd q (by decide)) (fun _ => ?_)
      have e1 := z_3kw k w
      refine And.intro (by rw [e1]; exact vp_in_nI (by omega) (by omega)) ?_
      refine fin _ ?_
      rw [e1, nI_clamp (by omega)]; unfold pR; rw [if_pos (by omega)]
      exact e3 (3 * k + w) (by omega)
