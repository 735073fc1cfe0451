-- ===== instructions at places that are not numbers =====
theorem op_in {x : Option Nat} {q : Nat} {F : Nat → Prop} {N : Prop} (hx : x = some q) (h : F q) : (match (generalizing := false) x with | some q => F q | none => N) := by subst hx; exact h
theorem pr_in {x : Nat × Nat} {a b : Nat} {F : Nat → Nat → Prop} (hx : x = (a, b)) (h : F a b) : (match (generalizing := false) x with | (t, n) => F t n) := by subst hx; exact h
-- ===== the places of plans =====
def zPS : List Nat := [1, 12, 27, 38, 49, 60, 71, 82, 93, 104, 115, 271, 282]
def zPlc (past : Nat → Nat) (p : Nat) : Prop := Nat.beq (zKd zK0 p).1 5 = true ∧ zR0 past p 2 = some (p + 1) ∧ zR0 past p 3 = some (p + 2) ∧ zKd zK0 (p + 1) = (14, 18) ∧ zKd zK0 (p + 2) = (20, 8) ∧ ∀ i, i < 8 → zR0 past (p + 2) i = some (p + 3 + i) ∧ zKd zK0 (p + 3 + i) = (15, 15)
theorem zR0_t {past : Nat → Nat} {p : Nat} (h : Nat.beq p 26 = false) (k : Nat) : zR0 past p k = zNth none (zNth [] zRt0 p) k := by unfold zR0; rw [h]
theorem zPS_a : ∀ p ∈ zPS, Nat.beq p 26 = false ∧ Nat.beq (p + 2) 26 = false ∧ Nat.beq (zKd zK0 p).1 5 = true ∧ zNth none (zNth [] zRt0 p) 2 = some (p + 1) ∧ zNth none (zNth [] zRt0 p) 3 = some (p + 2) ∧ zKd zK0 (p + 1) = (14, 18) ∧ zKd zK0 (p + 2) = (20, 8) ∧ ∀ i, i < 8 → zNth none (zNth [] zRt0 (p + 2)) i = some (p + 3 + i) ∧ zKd zK0 (p + 3 + i) = (15, 15) := by decide +kernel
theorem zPlc_of {past : Nat → Nat} {p : Nat} (h : p ∈ zPS) : zPlc past p := by
  obtain ⟨a, b, c, d, e, f, g, i⟩ := zPS_a p h
  exact ⟨c, by rw [zR0_t a]; exact d, by rw [zR0_t a]; exact e, f, g, fun j hj => ⟨by rw [zR0_t b]; exact (i j hj).1, (i j hj).2⟩⟩
theorem zPS_apart : ∀ p ∈ zPS, ∀ q ∈ zPS, p ≠ q → p + 11 ≤ q ∨ q + 11 ≤ p := by decide +kernel
theorem c_copyRows {G : zG} (hG : zGok G) {k' : Nat} (hk : 2 ≤ k') {I : Nat → Nat → Int32} {J : Nat → Nat → Int64} {past : Nat → Nat} {Q : zRt} (p q : Nat) (hp : p ∈ zPS) (hq : q ∈ zPS) (h : Q none (zK0, va_up (z_upI I p 0 (I q 0)) (p + 1) (va_cpy (z_upI I p 0 (I q 0) (q + 1)) (z_upI I p 0 (I q 0) (p + 1)) 0 0 18), J, zR0 past)) : zCalls G k' yX5_copyRows [.ref p, .ref q] (zK0, I, J, zR0 past) Q := by
  obtain ⟨a1, a2, a3, a4, a5, a6⟩ := zPlc_of (past := past) hp
  obtain ⟨b1, b2, b3, b4, b5, b6⟩ := zPlc_of (past := past) hq
  generalize p + 1 = p1 at *
  generalize q + 1 = q1 at *
  have g1 : Nat.ble 13 (zKd zK0 p1).1 = true := by rw [a4]; rfl
  have g2 : Nat.ble (zKd zK0 p1).1 20 = true := by rw [a4]; rfl
  have g3 : Nat.beq (zKd zK0 q1).1 14 = true := by rw [b4]; rfl
  have g4 : Nat.beq (zKd zK0 p1).1 14 = true := by rw [a4]; rfl
  have g5 : ¬ (0 : Int32) < 0 ∧ ¬ (0 : Int32) < 0 ∧ ¬ Int32.ofNat (zKd zK0 p1).2 < 0 ∧ (0 : Int32).toNatClampNeg + (Int32.ofNat (zKd zK0 p1).2).toNatClampNeg ≤ (zKd zK0 q1).2 ∧ (0 : Int32).toNatClampNeg + (Int32.ofNat (zKd zK0 p1).2).toNatClampNeg ≤ (zKd zK0 p1).2 := by rw [a4, b4]; decide
  have e : (Int32.ofNat (zKd zK0 p1).2).toNatClampNeg = 18 := by rw [a4]; decide
  rw [← e] at h
  refine rnX5_copyRows hG hk p q ?_
  refine sgX5_copyRows hG [] 60 0 ?_
  refine zB_in b1 ?_
  refine zB_in a1 ?_
  refine zB_in b1 (op_in b2 ?_)
  refine zB_in a1 (op_in a2 ?_)
  refine zB_in a1 (op_in a2 ?_)
  refine zB_in g1 (zB_in g2 ?_)
  refine zB_in g3 (zB_in g4 ?_)
  refine And.intro g5 ?_
  exact h
theorem va_up_ne2 {α : Type} {f : Nat → α} {p q : Nat} {v : α} (h : q ≠ p) : va_up f p v q = f q := va_up_ne _ _ h
theorem cpy18 {f g : Nat → Int32} {j : Nat} (h : j < 18) : va_cpy f g 0 0 18 j = f j := by rw [pk_cpy_in (Nat.zero_le j) (by omega)]; congr 1; omega
theorem cpy15 {f g : Nat → Int64} {j : Nat} (h : j < 15) : va_cpy f g 0 0 15 j = f j := by rw [pk_cpy_in (Nat.zero_le j) (by omega)]; congr 1; omega
/-- one plan is copied onto another one -/
theorem c_copy {G : zG} (hG : zGok G) {k' : Nat} (hk : 3 ≤ k') {I : Nat → Nat → Int32} {J : Nat → Nat → Int64} {past : Nat → Nat} {Q : zRt} {π : zPl} (p q : Nat) (hp : p ∈ zPS) (hq : q ∈ zPS) (hpq : p ≠ q) (hc : cPl I J q π) (h6 : π.1 ≤ 6) (h8 : π.2.2.1 ≤ 8) (h : ∀ I' J', (∀ x, x < p ∨ p + 11 ≤ x → I' x = I x ∧ J' x = J x) → cPl I' J' p π → Q none (zK0, I', J', zR0 past)) : zCalls G k' yX5_copy [.ref p, .ref q] (zK0, I, J, zR0 past) Q := by
  have hap := zPS_apart p hp q hq hpq
  obtain ⟨a1, a2, a3, a4, a5, a6⟩ := zPlc_of (past := past) hp
  obtain ⟨b1, b2, b3, b4, b5, b6⟩ := zPlc_of (past := past) hq
  have loop : ∀ (r i : Nat) (v : Int32) (I' : Nat → Nat → Int32) (J' : Nat → Nat → Int64), v = nI i → i + r = π.2.2.1 → (∀ x, x < p ∨ p + 11 ≤ x → I' x = I x ∧ J' x = J x) → I' p 0 = nI π.1 → I' p 1 = nI π.2.2.1 → (∀ j, j < 3 * π.1 → I' (p + 1) j = π.2.1 j) → (∀ t, t < i → ∀ j, j < 15 → J' (p + 3 + t) j = J (q + 3 + t) j) → aX5_copy G Q 15 [some (.ref p), some (.ref q), some (.int v)] [] (zK0, I', J', zR0 past) := by
    intro r
    induction r with
    | zero =>
      intro i v I' J' ev hir hf g0 g1 g2 g3
      subst ev
      have e1 : I' q 1 = nI π.2.2.1 := by rw [(hf q (by omega)).1]; exact hc.2.1
      refine sgX5_copy hG [15] 60 15 ?_
      refine zB_in b1 ?_
      refine And.intro (fun _ => ?_) (fun c => absurd (by rw [e1, nI_leI (by omega) (by omega)]; omega) c)
      exact h I' J' hf ⟨g0, g1, g2, fun t ht j hj => by rw [g3 t (by omega) j hj]; exact hc.2.2.2 t ht j hj⟩
    | succ r ih =>
      intro i v I' J' ev hir hf g0 g1 g2 g3
      subst ev
      have e1 : I' q 1 = nI π.2.2.1 := by rw [(hf q (by omega)).1]; exact hc.2.1
      have en : (nI i).toNatClampNeg = i := nI_clamp (by omega)
      have e15 : zKd zK0 (p + 3 + i) = (15, 15) := (a6 i (by omega)).2
      have f15 : zKd zK0 (q + 3 + i) = (15, 15) := (b6 i (by omega)).2
      refine sgX5_copy hG [15] 60 15 ?_
      refine zB_in b1 ?_
      refine And.intro (fun c => absurd c (by rw [e1, nI_leI (by omega) (by omega)]; omega)) (fun _ => ?_)
      refine And.intro (fun c => absurd c (by rw [show (8 : Int32) = nI 8 from rfl, nI_leI (by omega) (by omega)]; omega)) (fun _ => ?_)
      have b7 := (b6 i (by omega)).1
      have a7 := (a6 i (by omega)).1
      obtain ⟨pi, hpi⟩ : ∃ x, x = p + 3 + i := ⟨_, rfl⟩
      obtain ⟨qi, hqi⟩ : ∃ x, x = q + 3 + i := ⟨_, rfl⟩
      rw [← hpi] at e15 a7
      rw [← hqi] at f15 b7
      generalize p + 2 = p2 at *
      generalize q + 2 = q2 at *
      have w1 : Nat.beq (zKd zK0 q2).1 20 = true := by rw [b5]; rfl
      have w2 : vp_in (nI i) (zKd zK0 q2).2 := by rw [b5]; exact vp_in_nI (by omega) (by omega)
      have w3 : zR0 past q2 (nI i).toNatClampNeg = some qi := by rw [en]; exact b7
      have w4 : Nat.beq (zKd zK0 p2).1 20 = true := by rw [a5]; rfl
      have w5 : vp_in (nI i) (zKd zK0 p2).2 := by rw [a5]; exact vp_in_nI (by omega) (by omega)
      have w6 : zR0 past p2 (nI i).toNatClampNeg = some pi := by rw [en]; exact a7
      have w7 : Nat.beq (zKd zK0 qi).1 15 = true := by rw [f15]; rfl
      have w8 : Nat.beq (zKd zK0 pi).1 15 = true := by rw [e15]; rfl
      have w9 : ¬ (0 : Int32) < 0 ∧ ¬ (0 : Int32) < 0 ∧ ¬ (15 : Int32) < 0 ∧ (0 : Int32).toNatClampNeg + (15 : Int32).toNatClampNeg ≤ (zKd zK0 qi).2 ∧ (0 : Int32).toNatClampNeg + (15 : Int32).toNatClampNeg ≤ (zKd zK0 pi).2 := by rw [f15, e15]; decide
      refine zB_in b1 (op_in b3 ?_)
      refine zB_in w1 (And.intro w2 ⟨qi, w3, ?_⟩)
      refine zB_in a1 (op_in a3 ?_)
      refine zB_in w4 (And.intro w5 ⟨pi, w6, ?_⟩)
      refine zB_in w7 (zB_in w8 ?_)
      refine And.intro w9 ?_
      subst hpi
      subst hqi
      refine ih (i + 1) _ _ _ (by rw [nI_1]) (by omega) (fun x hx => ⟨(hf x hx).1, by rw [va_up_ne2 (by omega)]; exact (hf x hx).2⟩) g0 g1 g2 (fun t ht j hj => ?_)
      by_cases x : t = i
      · subst x
        rw [va_up_self]
        show va_cpy _ _ 0 0 15 j = _
        rw [cpy15 hj, (hf (q + 3 + t) (by omega)).2]
      · rw [va_up_ne2 (by omega)]; exact g3 t (by omega) j hj
  refine rnX5_copy hG hk p q ?_
  refine sgX5_copy hG [15] 60 0 ?_
  refine zB_in a1 ?_
  refine c_copyRows hG (by decide) p q hp hq ?_
  refine zB_in b1 (zB_in a1 ?_)
  refine loop π.2.2.1 0 0 _ J rfl (by omega) (fun x hx => ⟨?_, rfl⟩) ?_ ?_ (fun j hj => ?_) (fun t ht => absurd ht (Nat.not_lt_zero t))
  · rw [z_upI_ne (by omega), va_up_ne2 (by omega), z_upI_ne (by omega)]
  · rw [uI_k (by decide), va_up_ne2 (by omega), uI_s]; exact hc.1
  · rw [uI_s, va_up_ne2 (by omega), uI_p (by omega)]; exact hc.2.1
  · rw [uI_p (by omega), va_up_self, cpy18 (by omega), uI_p (by omega)]; exact hc.2.2.1 j hj
