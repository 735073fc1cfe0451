-- ===== changes of a plan =====
def bBd (c : Int32) : Bool := decide (-50 ≤ c) && decide (c ≤ 50)
def bTl (π : zPl) (k : Int32) : Bool := decide (0 ≤ k) && decide (k < nI π.1)
def bRw (a b c : Int32) : Bool := (decide (-5 ≤ a) && decide (a ≤ 5)) && ((decide (-5 ≤ b) && decide (b ≤ 5)) && (bBd c && (decide (¬ a = 0) || decide (¬ b = 0))))
def sBec (π : zPl) (k c : Int32) : Int32 × zPl := if bTl π k && bBd c then (if π.2.1 (3 * k.toNatClampNeg + 2) = c then (-2, π) else (100 + π.2.1 (3 * k.toNatClampNeg + 2), (π.1, upd π.2.1 (3 * k.toNatClampNeg + 2) c, π.2.2))) else (-1, π)
def sAdd (π : zPl) (a b c : Int32) : Int32 × zPl := if bRw a b c then (if π.1 = 6 then (-2, π) else (nI (π.1 + 1), (π.1 + 1, upd (upd (upd π.2.1 (3 * π.1) a) (3 * π.1 + 1) b) (3 * π.1 + 2) c, π.2.2))) else (-1, π)
def sDrp (π : zPl) (k : Int32) : Int32 × zPl := if bTl π k then (nI (π.1 - 1), (π.1 - 1, (fun j => if j < 3 * k.toNatClampNeg then π.2.1 j else π.2.1 (j + 3)), π.2.2)) else (-1, π)
def sClr (π : zPl) : Int32 × zPl := (nI π.2.2.1, (π.1, π.2.1, 0, π.2.2.2))
theorem bTl_in {π : zPl} {k : Int32} (h : bTl π k = true) (h6 : π.1 ≤ 6) : ∃ n, n < π.1 ∧ k = nI n := by
  unfold bTl at h
  rw [Bool.and_eq_true, decide_eq_true_eq, decide_eq_true_eq] at h
  obtain ⟨j, h1, h2⟩ := nI_of (x := k) (Int32.not_lt.mpr h.1)
  refine ⟨j, ?_, h2⟩
  rw [h2, nI_ltI h1 (by omega)] at h
  exact h.2
theorem z_nb1 {b : Bool} {x : Int32} (c : ¬ zb b = 0) : b = true := by
  cases b with
  | true => rfl
  | false => exact absurd rfl c
theorem c_isTold {G : zG} (hG : zGok G) {k' : Nat} (hk : 1 ≤ k') {I : Nat → Nat → Int32} {J : Nat → Nat → Int64} {past : Nat → Nat} {Q : zRt} {π : zPl} {p : Nat} (hp : p = 1 ∨ p = 12) (hc : I p 0 = nI π.1) (h6 : π.1 ≤ 6) (k : Int32) (h : Q (some (.int (zb (bTl π k)))) (zK0, I, J, zR0 past)) : zCalls G k' yX5_isTold [.ref p, .int k] (zK0, I, J, zR0 past) Q := by
  refine c_isTold0 hG hk hp hc h6 k (fun c => ?_) (fun c => ?_)
  · have e : bTl π k = true := by unfold bTl; rw [decide_eq_true c.1, decide_eq_true c.2]; rfl
    rw [e] at h; exact h
  · have e : bTl π k = false := by
      cases z : bTl π k with
      | false => rfl
      | true =>
        unfold bTl at z
        rw [Bool.and_eq_true, decide_eq_true_eq, decide_eq_true_eq] at z
        exact absurd z c
    rw [e] at h; exact h
theorem c_isBound {G : zG} (hG : zGok G) {k' : Nat} (hk : 1 ≤ k') {σ : zSt} {Q : zRt} (c : Int32) (h : Q (some (.int (zb (bBd c)))) σ) : zCalls G k' yX11_isBound [.int c] σ Q := by
  refine rnX11_isBound hG hk c ?_
  refine sgX11_isBound hG [] 60 0 ?_
  refine And.intro (fun c1 => ?_) (fun c1 => ?_)
  · refine And.intro (Or.inl rfl) ?_
    have e : bBd c = false := by simp [bBd, Int32.not_le.mpr c1]
    rw [e] at h; exact h
  · refine And.intro (fun c2 => ?_) (fun c2 => ?_)
    · refine And.intro (Or.inl rfl) ?_
      have e : bBd c = false := by simp [bBd, Int32.not_le.mpr c2]
      rw [e] at h; exact h
    · refine And.intro (Or.inr rfl) ?_
      have e : bBd c = true := by simp [bBd, Int32.not_lt.mp c1, Int32.not_lt.mp c2]
      rw [e] at h; exact h
theorem c_isRow {G : zG} (hG : zGok G) {k' : Nat} (hk : 2 ≤ k') {σ : zSt} {Q : zRt} (a b c : Int32) (h : Q (some (.int (zb (bRw a b c)))) σ) : zCalls G k' yX11_isRow [.int a, .int b, .int c] σ Q := by
  have no : bRw a b c = false → Q (some (.int 0)) σ := fun e => by rw [e] at h; exact h
  refine rnX11_isRow hG hk a b c ?_
  refine sgX11_isRow hG [] 60 0 ?_
  refine And.intro (fun c1 => ?_) (fun c1 => ?_)
  · exact And.intro (Or.inl rfl) (no (by simp [bRw, Int32.not_le.mpr c1]))
  refine And.intro (fun c2 => ?_) (fun c2 => ?_)
  · exact And.intro (Or.inl rfl) (no (by simp [bRw, Int32.not_le.mpr c2]))
  refine And.intro (fun c3 => ?_) (fun c3 => ?_)
  · exact And.intro (Or.inl rfl) (no (by simp [bRw, Int32.not_le.mpr c3]))
  refine And.intro (fun c4 => ?_) (fun c4 => ?_)
  · exact And.intro (Or.inl rfl) (no (by simp [bRw, Int32.not_le.mpr c4]))
  have tail : (¬ a = 0 ∨ ¬ b = 0) → bRw a b c = bBd c := by
    intro q
    rcases q with q | q <;> simp [bRw, Int32.not_lt.mp c1, Int32.not_lt.mp c2, Int32.not_lt.mp c3, Int32.not_lt.mp c4, q]
  refine And.intro (fun c5 => ?_) (fun c5 => ?_)
  · rw [tail (Or.inl c5)] at h
    refine c_isBound hG (by decide) c ?_
    refine And.intro (fun c6 => ?_) (fun c6 => ?_)
    · rw [(zb_eq0 _).mp c6] at h
      exact And.intro (Or.inl rfl) h
    · rw [z_nb1 (x := 0) c6] at h
      exact And.intro (Or.inr rfl) h
  · refine And.intro (fun c6 => ?_) (fun c6 => ?_)
    · exact And.intro (Or.inl rfl) (no (by simp [bRw, c5, c6]))
    · rw [tail (Or.inr c6)] at h
      refine c_isBound hG (by decide) c ?_
      refine And.intro (fun c7 => ?_) (fun c7 => ?_)
      · rw [(zb_eq0 _).mp c7] at h
        exact And.intro (Or.inl rfl) h
      · rw [z_nb1 (x := 0) c7] at h
        exact And.intro (Or.inr rfl) h
/-- the plan places that are worked on -/
theorem zp_ne {p q : Nat} (hp : p = 1 ∨ p = 12) (h : q = p ∨ (p + 2 ≤ q)) : q ≠ p + 1 := by omega
theorem c_putBound {G : zG} (hG : zGok G) {k' : Nat} (hk : 2 ≤ k') {I : Nat → Nat → Int32} {J : Nat → Nat → Int64} {past : Nat → Nat} {Q : zRt} {π : zPl} {p : Nat} (hp : p = 1 ∨ p = 12) (hc : I p 0 = nI π.1) (h6 : π.1 ≤ 6) (k : Nat) (hkn : k < π.1) (c : Int32) (h : Q none (zK0, z_upI I (p + 1) (3 * k + 2) c, J, zR0 past)) : zCalls G k' yX5_putBound [.ref p, .int (nI k), .int c] (zK0, I, J, zR0 past) Q := by
  have e : bTl π (nI k) = true := by
    simp [bTl, nI_pos' (n := k) (by omega), nI_ltI (a := k) (b := π.1) (by omega) (by omega), hkn]
  have e1 : (3 : Int32) * nI k + 2 = nI (3 * k + 2) := z_3kw k 2
  have e2 : ((3 : Int32) * nI k + 2).toNatClampNeg = 3 * k + 2 := by rw [e1, nI_clamp (by omega)]
  rcases hp with rfl | rfl
  all_goals
    refine rnX5_putBound hG hk _ (nI k) c ?_
    refine sgX5_putBound hG [] 60 0 ?_
    refine c_isTold hG (by decide) (by decide) hc h6 (nI k) ?_
    rw [e]
    refine And.intro (fun q => absurd q (by decide)) (fun _ => ?_)
    refine And.intro (by rw [e1]; exact vp_in_nI (by omega) (by omega)) ?_
    rw [e2]
    exact h
theorem c_changeBound {G : zG} (hG : zGok G) {k' : Nat} (hk : 3 ≤ k') {I : Nat → Nat → Int32} {J : Nat → Nat → Int64} {past : Nat → Nat} {Q : zRt} {π : zPl} {p : Nat} (hp : p = 1 ∨ p = 12) (hc : cPl I J p π) (h6 : π.1 ≤ 6) (k c : Int32) (h : ∀ I', (∀ q, q ≠ p + 1 → I' q = I q) → cPl I' J p (sBec π k c).2 → Q (some (.int (sBec π k c).1)) (zK0, I', J, zR0 past)) : zCalls G k' yX5_changeBound [.ref p, .int k, .int c] (zK0, I, J, zR0 past) Q := by
  have no : (bTl π k && bBd c) = false → Q (some (.int (-1))) (zK0, I, J, zR0 past) := by
    intro e
    have e2 : sBec π k c = (-1, π) := by unfold sBec; rw [e]; rfl
    have := h I (fun _ _ => rfl) (by rw [e2]; exact hc)
    rw [e2] at this; exact this
  have hp2 := hp
  rcases hp with rfl | rfl
  all_goals
    refine rnX5_changeBound hG hk _ k c ?_
    refine sgX5_changeBound hG [] 60 0 ?_
    refine c_isTold hG (by decide) hp2 hc.1 h6 k ?_
    refine And.intro (fun c1 => ?_) (fun c1 => ?_)
    · exact no (by rw [(zb_eq0 _).mp c1]; rfl)
    have t1 := z_nb1 (x := 0) c1
    refine c_isBound hG (by decide) c ?_
    refine And.intro (fun c2 => ?_) (fun c2 => ?_)
    · have t2 := z_nb1 (x := 0) c2
      obtain ⟨n, hn, rfl⟩ := bTl_in t1 h6
      refine c_part hG (by decide) hp2 hc h6 n 2 (by omega) (by omega) ?_
      have ep : pR π n 2 = π.2.1 (3 * n + 2) := by unfold pR; rw [if_pos hn]
      have ec : (nI n).toNatClampNeg = n := nI_clamp (by omega)
      rw [ep]
      refine And.intro (fun c3 => ?_) (fun c3 => ?_)
      · refine c_putBound hG (by decide) hp2 hc.1 h6 n hn c ?_
        have e2 : sBec π (nI n) c = (100 + π.2.1 (3 * n + 2), (π.1, upd π.2.1 (3 * n + 2) c, π.2.2)) := by
          unfold sBec; rw [t1, t2, ec, if_neg c3]; rfl
        rw [e2] at h
        refine h _ (fun q hq => z_upI_ne hq) ⟨?_, ?_, fun j hj => ?_, fun i hi j hj => hc.2.2.2 i hi j hj⟩
        · rw [uI_p (by decide)]; exact hc.1
        · rw [uI_p (by decide)]; exact hc.2.1
        · show _ = upd π.2.1 (3 * n + 2) c j
          by_cases hx : j = 3 * n + 2
          · subst hx; rw [uI_s, pk_us]
          · rw [uI_k hx, pk_un hx]; exact hc.2.2.1 j hj
      · have e2 : sBec π (nI n) c = (-2, π) := by
          unfold sBec; rw [t1, t2, ec, if_pos c3]; rfl
        have := h I (fun _ _ => rfl) (by rw [e2]; exact hc)
        rw [e2] at this; exact this
    · exact no (by rw [(zb_eq0 _).mp c2, Bool.and_false])
theorem c_append {G : zG} (hG : zGok G) {k' : Nat} (hk : 1 ≤ k') {I : Nat → Nat → Int32} {J : Nat → Nat → Int64} {past : Nat → Nat} {Q : zRt} {π : zPl} {p : Nat} (hp : p = 1 ∨ p = 12) (hc : cPl I J p π) (h6 : π.1 < 6) (a b c : Int32) (h : ∀ I', (∀ q, q ≠ p → q ≠ p + 1 → I' q = I q) → cPl I' J p (π.1 + 1, upd (upd (upd π.2.1 (3 * π.1) a) (3 * π.1 + 1) b) (3 * π.1 + 2) c, π.2.2) → Q none (zK0, I', J, zR0 past)) : zCalls G k' yX5_append [.ref p, .int a, .int b, .int c] (zK0, I, J, zR0 past) Q := by
  have e0 := hc.1
  have n0 : ¬ I p 0 < 0 := by rw [e0]; exact nI_pos (by omega)
  have n6 : ¬ (6 : Int32) ≤ I p 0 := by rw [e0, show (6 : Int32) = nI 6 from rfl, nI_leI (by omega) (by omega)]; omega
  have e1 : (3 : Int32) * nI π.1 = nI (3 * π.1) := by rw [show (3 : Int32) = nI 3 from rfl, pk_mul]
  have e2 : nI (3 * π.1) + 2 = nI (3 * π.1 + 2) := by rw [show (2 : Int32) = nI 2 from rfl, nI_add]
  have fin : ∀ q r : Nat, q = p + 1 → r = p → cPl (z_upI (z_upI (z_upI (z_upI I q (3 * π.1) a) q (3 * π.1 + 1) b) q (3 * π.1 + 2) c) r 0 (nI (π.1 + 1))) J p (π.1 + 1, upd (upd (upd π.2.1 (3 * π.1) a) (3 * π.1 + 1) b) (3 * π.1 + 2) c, π.2.2) := by
    intro q r hq hr
    subst hq; subst hr
    refine ⟨uI_s, ?_, fun j hj => ?_, fun i hi j hj => hc.2.2.2 i hi j hj⟩
    · rw [uI_k (by decide), uI_p (by omega), uI_p (by omega), uI_p (by omega)]; exact hc.2.1
    · show _ = upd (upd (upd π.2.1 (3 * π.1) a) (3 * π.1 + 1) b) (3 * π.1 + 2) c j
      have hj : j < 3 * (π.1 + 1) := hj
      rw [uI_p (by omega)]
      by_cases x2 : j = 3 * π.1 + 2
      · subst x2; rw [uI_s, pk_us]
      · rw [uI_k x2, pk_un x2]
        by_cases x1 : j = 3 * π.1 + 1
        · subst x1; rw [uI_s, pk_us]
        · rw [uI_k x1, pk_un x1]
          by_cases x0 : j = 3 * π.1
          · subst x0; rw [uI_s, pk_us]
          · rw [uI_k x0, pk_un x0]; exact hc.2.2.1 j (by omega)
  have hp2 := hp
  rcases hp with rfl | rfl
  all_goals
    refine rnX5_append hG hk _ a b c ?_
    refine sgX5_append hG [] 60 0 ?_
    refine And.intro (fun q => absurd q n0) (fun _ => ?_)
    refine And.intro (fun q => absurd q n6) (fun _ => ?_)
    refine And.intro (by rw [e0, e1]; exact vp_in_nI (by omega) (by omega)) ?_
    refine And.intro (by rw [uI_p (by decide), e0, e1, nI_1]; exact vp_in_nI (by omega) (by omega)) ?_
    refine And.intro (by rw [uI_p (by decide), uI_p (by decide), e0, e1, e2]; exact vp_in_nI (by omega) (by omega)) ?_
    refine h _ (fun q q1 q2 => by rw [z_upI_ne q1, z_upI_ne q2, z_upI_ne q2, z_upI_ne q2]) ?_
    simp only [uI_p (show (1 : Nat) ≠ 2 by decide), uI_p (show (12 : Nat) ≠ 13 by decide), e0, e1, e2, nI_1, nI_clamp (show 3 * π.1 < 2 ^ 31 by omega), nI_clamp (show 3 * π.1 + 1 < 2 ^ 31 by omega), nI_clamp (show 3 * π.1 + 2 < 2 ^ 31 by omega)]
    exact fin _ _ rfl rfl
theorem c_addRow {G : zG} (hG : zGok G) {k' : Nat} (hk : 3 ≤ k') {I : Nat → Nat → Int32} {J : Nat → Nat → Int64} {past : Nat → Nat} {Q : zRt} {π : zPl} {p : Nat} (hp : p = 1 ∨ p = 12) (hc : cPl I J p π) (h6 : π.1 ≤ 6) (a b c : Int32) (h : ∀ I', (∀ q, q ≠ p → q ≠ p + 1 → I' q = I q) → cPl I' J p (sAdd π a b c).2 → Q (some (.int (sAdd π a b c).1)) (zK0, I', J, zR0 past)) : zCalls G k' yX5_addRow [.ref p, .int a, .int b, .int c] (zK0, I, J, zR0 past) Q := by
  have e0 := hc.1
  have hp2 := hp
  rcases hp with rfl | rfl
  all_goals
    refine rnX5_addRow hG hk _ a b c ?_
    refine sgX5_addRow hG [] 60 0 ?_
    refine c_isRow hG (by decide) a b c ?_
    refine And.intro (fun c1 => ?_) (fun c1 => ?_)
    · have t1 := z_nb1 (x := 0) c1
      refine And.intro (fun c2 => ?_) (fun c2 => ?_)
      · rw [e0, show (6 : Int32) = nI 6 from rfl, nI_ltI (by omega) (by omega)] at c2
        refine c_append hG (by decide) hp2 hc c2 a b c (fun I' hf hq => ?_)
        have e2 : sAdd π a b c = (nI (π.1 + 1), (π.1 + 1, upd (upd (upd π.2.1 (3 * π.1) a) (3 * π.1 + 1) b) (3 * π.1 + 2) c, π.2.2)) := by unfold sAdd; rw [if_pos t1, if_neg (by omega)]
        rw [e2] at h
        have k := h I' hf hq
        have e3 : I' _ 0 = nI (π.1 + 1) := hq.1
        rw [← e3] at k
        exact k
      · rw [e0, show (6 : Int32) = nI 6 from rfl, nI_ltI (by omega) (by omega)] at c2
        have e2 : sAdd π a b c = (-2, π) := by unfold sAdd; rw [if_pos t1, if_pos (by omega)]
        rw [e2] at h
        exact h I (fun _ _ _ => rfl) hc
    · have e2 : sAdd π a b c = (-1, π) := by unfold sAdd; rw [(zb_eq0 _).mp c1]; rfl
      rw [e2] at h
      exact h I (fun _ _ _ => rfl) hc
theorem c_dropCuts {G : zG} (hG : zGok G) {k' : Nat} (hk : 1 ≤ k') {I : Nat → Nat → Int32} {J : Nat → Nat → Int64} {past : Nat → Nat} {Q : zRt} {π : zPl} (hc : cPl I J 1 π) (h : ∀ I', (∀ q, q ≠ 1 → I' q = I q) → cPl I' J 1 (sClr π).2 → Q (some (.int (sClr π).1)) (zK0, I', J, zR0 past)) : zCalls G k' yX5_dropCuts [.ref 1] (zK0, I, J, zR0 past) Q := by
  refine rnX5_dropCuts hG hk 1 ?_
  refine sgX5_dropCuts hG [] 60 0 ?_
  have k := h (z_upI I 1 1 0) (fun q hq => z_upI_ne hq) ⟨by rw [uI_k (by decide)]; exact hc.1, uI_s, fun j hj => by rw [uI_p (by decide)]; exact hc.2.2.1 j hj, fun i hi => absurd hi (Nat.not_lt_zero i)⟩
  have e : (sClr π).1 = I 1 1 := hc.2.1.symm
  rw [e] at k
  exact k
theorem c_dropRow {G : zG} (hG : zGok G) {k' : Nat} (hk : 2 ≤ k') {I : Nat → Nat → Int32} {J : Nat → Nat → Int64} {past : Nat → Nat} {Q : zRt} {π : zPl} {p : Nat} (hp : p = 1 ∨ p = 12) (hc : cPl I J p π) (h6 : π.1 ≤ 6) (k : Int32) (h : ∀ I', (∀ q, q ≠ p → q ≠ p + 1 → I' q = I q) → cPl I' J p (sDrp π k).2 → Q (some (.int (sDrp π k).1)) (zK0, I', J, zR0 past)) : zCalls G k' yX5_dropRow [.ref p, .int k] (zK0, I, J, zR0 past) Q := by
  have e0 := hc.1
  have loop : bTl π k = true → ∀ (r i : Nat) (v : Int32) (I' : Nat → Nat → Int32), v = nI i → 3 * k.toNatClampNeg ≤ i → i + r = 3 * (π.1 - 1) → (∀ q, q ≠ p + 1 → I' q = I q) → (∀ j, j < 18 → I' (p + 1) j = if j < 3 * k.toNatClampNeg then I (p + 1) j else if j < i then I (p + 1) (j + 3) else I (p + 1) j) → aX5_dropRow G Q 14 [some (.ref p), some (.int k), some (.int v)] [] (zK0, I', J, zR0 past) := by
    intro t1 r
    obtain ⟨n, hn, rfl⟩ := bTl_in t1 h6
    have ec : (nI n).toNatClampNeg = n := nI_clamp (by omega)
    rw [ec]
    induction r with
    | zero =>
      intro i v I' ev hi hir hf hg
      subst ev
      have e1 : I' p 0 = nI π.1 := by rw [hf p (by omega)]; exact e0
      have em : (3 : Int32) * (I' p 0 - 1) = nI (3 * (π.1 - 1)) := by rw [e1, show (1 : Int32) = nI 1 from rfl, pk_sub (by omega), show (3 : Int32) = nI 3 from rfl, pk_mul]
      have cge : (3 : Int32) * (I' p 0 - 1) ≤ nI i := by rw [em, nI_leI (by omega) (by omega)]; omega
      have e2 : sDrp π (nI n) = (nI (π.1 - 1), (π.1 - 1, (fun j => if j < 3 * n then π.2.1 j else π.2.1 (j + 3)), π.2.2)) := by unfold sDrp; rw [if_pos t1, ec]
      have k2 := h (z_upI I' p 0 (nI (π.1 - 1))) (fun q q1 q2 => by rw [z_upI_ne q1]; exact hf q q2) (by
        rw [e2]
        refine ⟨uI_s, by rw [uI_k (by decide), hf p (by omega)]; exact hc.2.1, fun j hj => ?_, fun i hi j hj => hc.2.2.2 i hi j hj⟩
        have hj : j < 3 * (π.1 - 1) := hj
        show _ = if j < 3 * n then π.2.1 j else π.2.1 (j + 3)
        rw [uI_p (by omega), hg j (by omega)]
        split
        · exact hc.2.2.1 j (by omega)
        · rw [if_pos (by omega)]; exact hc.2.2.1 (j + 3) (by omega))
      rw [e2] at k2
      have em2 : I' p 0 - 1 = nI (π.1 - 1) := by rw [e1, show (1 : Int32) = nI 1 from rfl, pk_sub (by omega)]
      have k3 : Q (some (.int (z_upI I' p 0 (I' p 0 - 1) p 0))) (zK0, z_upI I' p 0 (I' p 0 - 1), J, zR0 past) := by rw [uI_s, em2]; exact k2
      rcases hp with rfl | rfl
      all_goals
        refine sgX5_dropRow hG [14] 60 14 ?_
        refine And.intro (fun _ => ?_) (fun c => absurd cge c)
        exact k3
    | succ r ih =>
      intro i v I' ev hi hir hf hg
      subst ev
      have e1 : I' p 0 = nI π.1 := by rw [hf p (by omega)]; exact e0
      have em : (3 : Int32) * (I' p 0 - 1) = nI (3 * (π.1 - 1)) := by rw [e1, show (1 : Int32) = nI 1 from rfl, pk_sub (by omega), show (3 : Int32) = nI 3 from rfl, pk_mul]
      have cge : ¬ (3 : Int32) * (I' p 0 - 1) ≤ nI i := by rw [em, nI_leI (by omega) (by omega)]; omega
      have ei : nI i + 3 = nI (i + 3) := by rw [show (3 : Int32) = nI 3 from rfl, nI_add]
      have l18 : ¬ Int32.ofNat 18 ≤ nI i + 3 := by rw [ei, show Int32.ofNat 18 = nI 18 from rfl, nI_leI (by omega) (by omega)]; omega
      have nxt := ih (i + 1) (nI i + 1) (z_upI I' (p + 1) i (I' (p + 1) (i + 3))) (by rw [nI_1]) (by omega) (by omega) (fun q hq => by rw [z_upI_ne hq]; exact hf q hq) (fun j hj => by
        by_cases x : j = i
        · subst x
          rw [uI_s, hg (j + 3) (by omega), if_neg (by omega), if_neg (by omega), if_neg (by omega), if_pos (by omega)]
        · rw [uI_k x, hg j hj]
          split
          · rfl
          · by_cases y : j < i
            · rw [if_pos y, if_pos (by omega)]
            · rw [if_neg y, if_neg (by omega)])
      have en : (nI i).toNatClampNeg = i := nI_clamp (by omega)
      have en3 : (nI i + 3).toNatClampNeg = i + 3 := by rw [ei, nI_clamp (by omega)]
      rcases hp with rfl | rfl
      all_goals
        refine sgX5_dropRow hG [14] 60 14 ?_
        refine And.intro (fun c => absurd c cge) (fun _ => ?_)
        refine And.intro (fun c => absurd c l18) (fun _ => ?_)
        refine And.intro (by rw [ei]; exact vp_in_nI (by omega) (by omega)) ?_
        refine And.intro (vp_in_nI (by omega) (by omega)) ?_
        rw [en, en3]
        exact nxt
  have fin : bTl π k = true → aX5_dropRow G Q 14 [some (.ref p), some (.int k), some (.int (3 * k))] [] (zK0, I, J, zR0 past) := by
    intro t1
    obtain ⟨n, hn, e⟩ := bTl_in t1 h6
    have ec : k.toNatClampNeg = n := by rw [e, nI_clamp (by omega)]
    refine loop t1 (3 * (π.1 - 1) - 3 * n) (3 * n) _ I (by rw [e, show (3 : Int32) = nI 3 from rfl, pk_mul]) (by omega) (by omega) (fun _ _ => rfl) (fun j hj => ?_)
    rw [ec]
    split
    · rfl
    · rfl
  have hp2 := hp
  rcases hp with rfl | rfl
  all_goals
    refine rnX5_dropRow hG hk _ k ?_
    refine sgX5_dropRow hG [14] 60 0 ?_
    refine c_isTold hG (by decide) hp2 e0 h6 k ?_
    refine And.intro (fun c1 => ?_) (fun c1 => ?_)
    · exact fin (z_nb1 (x := 0) c1)
    · have e2 : sDrp π k = (-1, π) := by unfold sDrp; rw [(zb_eq0 _).mp c1]; rfl
      rw [e2] at h
      exact h I (fun _ _ _ => rfl) hc
