-- ===== which points hold =====
def zAllF (c : Nat → Bool) : Nat → Nat → Bool
  | _, 0 => true
  | k, r + 1 => c k && zAllF c (k + 1) r
def zCn (π : zPl) (x y d out : Int32) (k : Nat) : Bool := decide (nI k = out) || decide (pR π k 0 * x + pR π k 1 * y ≤ pR π k 2 * d)
def zHd (π : zPl) (x y d out : Int32) : Bool := zAllF (zCn π x y d out) 0 (π.1 + 4)
def zb (b : Bool) : Int32 := if b then 1 else 0
theorem zb_01 (b : Bool) : zb b = 0 ∨ zb b = 1 := by cases b <;> simp [zb]
theorem zb_eq0 (b : Bool) : zb b = 0 ↔ b = false := by cases b <;> simp [zb]
theorem zb_if {c : Prop} [Decidable c] : (if c then (1 : Int32) else 0) = zb (decide c) := by unfold zb; by_cases h : c <;> simp [h]
theorem c_holds {G : zG} (hG : zGok G) {k' : Nat} (hk : 3 ≤ k') {I : Nat → Nat → Int32} {J : Nat → Nat → Int64} {past : Nat → Nat} {Q : zRt} {π : zPl} {p : Nat} (hp : p = 1 ∨ p = 12) (hc : cPl I J p π) (h6 : π.1 ≤ 6) (x y d out : Int32) (h : Q (some (.int (zb (zHd π x y d out)))) (zK0, I, J, zR0 past)) : zCalls G k' yX5_holds [.ref p, .int x, .int y, .int d, .int out] (zK0, I, J, zR0 past) Q := by
  have loop : ∀ (r k : Nat), k + r = π.1 + 4 → Q (some (.int (zb (zAllF (zCn π x y d out) k r)))) (zK0, I, J, zR0 past) → aX5_holds G Q 3 [some (.ref p), some (.int x), some (.int y), some (.int d), some (.int out), some (.int (nI k))] [] (zK0, I, J, zR0 past) := by
    intro r
    induction r with
    | zero =>
      intro k hkr h
      have kn : nI (π.1 + 4) ≤ nI k := by rw [nI_leI (by omega) (by omega)]; omega
      rcases hp with rfl | rfl
      all_goals
        refine sgX5_holds hG [3] 60 3 ?_
        refine c_allRows hG (by decide) (by decide) hc.1 ?_
        refine And.intro (fun _ => ?_) (fun c => absurd kn c)
        exact And.intro (Or.inr rfl) h
    | succ r ih =>
      intro k hkr h
      have kn : ¬ nI (π.1 + 4) ≤ nI k := by rw [nI_leI (by omega) (by omega)]; omega
      have nx : (zCn π x y d out k = true → aX5_holds G Q 3 [some (.ref p), some (.int x), some (.int y), some (.int d), some (.int out), some (.int (nI k + 1))] [] (zK0, I, J, zR0 past)) := by
        intro c
        rw [nI_1]
        refine ih (k + 1) (by omega) ?_
        simpa [zAllF, c] using h
      have hc0 := hc
      rcases hp with rfl | rfl
      all_goals
        refine sgX5_holds hG [3] 60 3 ?_
        refine c_allRows hG (by decide) (by decide) hc.1 ?_
        refine And.intro (fun c => absurd c kn) (fun _ => ?_)
        refine And.intro (fun c => nx (by simp [zCn, c])) (fun c => ?_)
        refine c_part hG (by decide) (by decide) hc0 h6 k 0 (by omega) (by omega) ?_
        refine c_part hG (by decide) (by decide) hc0 h6 k 1 (by omega) (by omega) ?_
        refine c_part hG (by decide) (by decide) hc0 h6 k 2 (by omega) (by omega) ?_
        refine And.intro (fun c2 => nx (by simp [zCn, c2])) (fun c2 => ?_)
        refine And.intro (Or.inl rfl) ?_
        have e : zCn π x y d out k = false := by simp [zCn, c, c2]
        simpa [zAllF, e, zb] using h
  have l0 := loop (π.1 + 4) 0 (by omega) h
  have hp2 := hp
  rcases hp with rfl | rfl
  all_goals
    refine rnX5_holds hG hk _ x y d out ?_
    refine sgX5_holds hG [3] 60 0 ?_
    exact l0
theorem m_isIn0 {G : zG} (hG : zGok G) {k' : Nat} (hk : 3 ≤ k') {I : Nat → Nat → Int32} {J : Nat → Nat → Int64} {past : Nat → Nat} {Q : zRt} {π : zPl} (hm : mPl I 306 0 π) (h6 : π.1 ≤ 6) (x y d : Int32) (h : Q (some (.int (zb (zHd π x y d (-1))))) (zK0, I, J, zR0 past)) : zCalls G k' yX12_isIn [.ref 305, .int 0, .int x, .int y, .int d] (zK0, I, J, zR0 past) Q := by
  have nm1 : ∀ k : Nat, k < 100 → ¬ nI k = -1 := by
    intro k hk q
    have e := nI_toInt (n := k) (by omega)
    rw [q] at e
    have : (-1 : Int32).toInt = -1 := by decide
    omega
  have loop : ∀ (r k : Nat), k + r = π.1 + 4 → Q (some (.int (zb (zAllF (zCn π x y d (-1)) k r)))) (zK0, I, J, zR0 past) → aX12_isIn G Q 43 [some (.ref 305), some (.int 0), some (.int x), some (.int y), some (.int d), some (.int (nI k))] [] (zK0, I, J, zR0 past) := by
    intro r
    induction r with
    | zero =>
      intro k hkr h
      have kn : nI (π.1 + 4) ≤ nI k := by rw [nI_leI (by omega) (by omega)]; omega
      refine sgX12_isIn hG [43] 60 43 ?_
      refine m_lines2 hG (by decide) hm ?_
      refine And.intro (fun _ => ?_) (fun c => absurd kn c)
      exact And.intro (Or.inr rfl) h
    | succ r ih =>
      intro k hkr h
      have kn : ¬ nI (π.1 + 4) ≤ nI k := by rw [nI_leI (by omega) (by omega)]; omega
      have nx : (zCn π x y d (-1) k = true → aX12_isIn G Q 43 [some (.ref 305), some (.int 0), some (.int x), some (.int y), some (.int d), some (.int (nI k + 1))] [] (zK0, I, J, zR0 past)) := by
        intro c
        rw [nI_1]
        refine ih (k + 1) (by omega) ?_
        simpa [zAllF, c] using h
      refine sgX12_isIn hG [43] 60 43 ?_
      refine m_lines2 hG (by decide) hm ?_
      refine And.intro (fun c => absurd c kn) (fun _ => ?_)
      refine m_of hG (by decide) hm h6 k 0 (by omega) (by omega) ?_
      refine m_of hG (by decide) hm h6 k 1 (by omega) (by omega) ?_
      refine m_of hG (by decide) hm h6 k 2 (by omega) (by omega) ?_
      refine And.intro (fun c2 => nx (by simp [zCn, c2])) (fun c2 => ?_)
      refine And.intro (Or.inl rfl) ?_
      have e : zCn π x y d (-1) k = false := by simp [zCn, nm1 k (by omega), c2]
      simpa [zAllF, e, zb] using h
  refine rnX12_isIn hG hk 305 0 x y d ?_
  refine sgX12_isIn hG [43] 60 0 ?_
  refine And.intro (fun _ => ?_) (fun c => absurd (by decide) c)
  exact loop (π.1 + 4) 0 (by omega) h
theorem m_isWhole {G : zG} (hG : zGok G) {k' : Nat} (hk : 4 ≤ k') {I : Nat → Nat → Int32} {J : Nat → Nat → Int64} {past : Nat → Nat} {Q : zRt} {π : zPl} (hm : mPl I 306 0 π) (h6 : π.1 ≤ 6) (x y : Int32) (h : Q (some (.int (zb (zHd π x y 1 (-1))))) (zK0, I, J, zR0 past)) : zCalls G k' yX12_isWhole [.ref 305, .int x, .int y] (zK0, I, J, zR0 past) Q := by
  refine rnX12_isWhole hG hk 305 x y ?_
  refine sgX12_isWhole hG [] 60 0 ?_
  refine m_isIn0 hG (by decide) hm h6 x y 1 ?_
  exact And.intro (zb_01 _) h
