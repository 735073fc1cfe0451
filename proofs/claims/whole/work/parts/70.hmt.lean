-- ===== hulls: turns =====
abbrev zVc : Type := Int × Int
def crs (u v : zVc) : Int := u.1 * v.2 - u.2 * v.1
def lxp (u : zVc) : Prop := 0 < u.1 ∨ (u.1 = 0 ∧ 0 < u.2)
def vsb (p q : zVc) : zVc := (q.1 - p.1, q.2 - p.2)
def trn (p : Nat → zVc) (i j k : Nat) : Int := crs (vsb (p i) (p j)) (vsb (p i) (p k))
def fr2 (p : Nat → zVc) (i j : Nat) : Int := (vsb (p i) (p j)).1 * (vsb (p i) (p j)).1 + (vsb (p i) (p j)).2 * (vsb (p i) (p j)).2
theorem cr_1 (u v w : zVc) : crs u w * v.1 = crs u v * w.1 + crs v w * u.1 := by unfold crs; grind
theorem cr_t {u v w : zVc} (hu : lxp u) (hv : lxp v) (hw : lxp w) (h1 : 0 ≤ crs u v) (h2 : 0 ≤ crs v w) : 0 ≤ crs u w ∧ (0 < crs u v ∨ 0 < crs v w → 0 < crs u w) := by
  have id := cr_1 u v w
  have u1 : 0 ≤ u.1 := by rcases hu with z | z <;> omega
  have w1 : 0 ≤ w.1 := by rcases hw with z | z <;> omega
  rcases hv with v1 | ⟨v1, v2⟩
  · have a := Int.mul_nonneg h1 w1
    have b := Int.mul_nonneg h2 u1
    refine ⟨?_, fun hs => ?_⟩
    · rcases Int.lt_or_le (crs u w) 0 with z | z
      · have := Int.mul_neg_of_neg_of_pos z v1; omega
      · exact z
    · have key : 0 < crs u w * v.1 := by
        rcases hu with u0 | ⟨u0, u2⟩
        · rcases hs with s | s
          · rcases hw with w0 | ⟨w0, w2⟩
            · have := Int.mul_pos s w0; omega
            · have e : crs v w = v.1 * w.2 := by unfold crs; rw [w0, Int.mul_zero, Int.sub_zero]
              have q := Int.mul_pos v1 w2
              have := Int.mul_pos (show 0 < crs v w by omega) u0
              omega
          · have := Int.mul_pos s u0; omega
        · exfalso
          have e : crs u v = -(u.2 * v.1) := by unfold crs; rw [u0, Int.zero_mul, Int.zero_sub]
          have := Int.mul_pos u2 v1
          omega
      rcases Int.lt_or_le 0 (crs u w) with z | z
      · exact z
      · have := Int.mul_nonpos_of_nonpos_of_nonneg z (Int.le_of_lt v1); omega
  · have e1 : crs v w = -(v.2 * w.1) := by unfold crs; rw [v1, Int.zero_mul, Int.zero_sub]
    have e2 : crs u v = u.1 * v.2 := by unfold crs; rw [v1, Int.mul_zero, Int.sub_zero]
    have w0 : w.1 = 0 := by
      rcases Int.lt_or_le 0 w.1 with z | z
      · have := Int.mul_pos v2 z; omega
      · omega
    have w2 : 0 < w.2 := by rcases hw with z | z <;> omega
    have e3 : crs u w = u.1 * w.2 := by unfold crs; rw [w0, Int.mul_zero, Int.sub_zero]
    refine ⟨by rw [e3]; exact Int.mul_nonneg u1 (Int.le_of_lt w2), fun hs => ?_⟩
    rcases hs with s | s
    · rw [e3]
      refine Int.mul_pos ?_ w2
      rcases Int.lt_or_le 0 u.1 with z | z
      · exact z
      · have : u.1 = 0 := by omega
        rw [e2, this, Int.zero_mul] at s
        omega
    · rw [e1, w0, Int.mul_zero] at s; omega
theorem cr_ww {u v w : zVc} (hu : lxp u) (hv : lxp v) (hw : lxp w) (h1 : 0 ≤ crs u v) (h2 : 0 ≤ crs v w) : 0 ≤ crs u w := (cr_t hu hv hw h1 h2).1
theorem cr_sw {u v w : zVc} (hu : lxp u) (hv : lxp v) (hw : lxp w) (h1 : 0 < crs u v) (h2 : 0 ≤ crs v w) : 0 < crs u w := (cr_t hu hv hw (Int.le_of_lt h1) h2).2 (Or.inl h1)
theorem cr_ws {u v w : zVc} (hu : lxp u) (hv : lxp v) (hw : lxp w) (h1 : 0 ≤ crs u v) (h2 : 0 < crs v w) : 0 < crs u w := (cr_t hu hv hw h1 (Int.le_of_lt h2)).2 (Or.inr h2)
theorem cr_far {u v : zVc} (hu : lxp u) (hv : lxp v) (h : crs u v = 0) : u.1 * u.1 + u.2 * u.2 < (u.1 + v.1) * (u.1 + v.1) + (u.2 + v.2) * (u.2 + v.2) := by
  have dot : 0 ≤ u.1 * v.1 + u.2 * v.2 := by
    rcases hv with v1 | ⟨v1, v2⟩
    · have u1 : 0 ≤ u.1 := by rcases hu with z | z <;> omega
      have e : (u.1 * v.1 + u.2 * v.2) * v.1 = u.1 * (v.1 * v.1 + v.2 * v.2) := by unfold crs at h; grind
      have s1 : 0 ≤ v.1 * v.1 := Int.mul_nonneg (Int.le_of_lt v1) (Int.le_of_lt v1)
      have s2 : 0 ≤ v.2 * v.2 := by
        rcases Int.le_total 0 v.2 with z | z
        · exact Int.mul_nonneg z z
        · exact Int.mul_nonneg_of_nonpos_of_nonpos z z
      have k := Int.mul_nonneg u1 (Int.add_nonneg s1 s2)
      rcases Int.lt_or_le (u.1 * v.1 + u.2 * v.2) 0 with z | z
      · have := Int.mul_neg_of_neg_of_pos z v1; omega
      · exact z
    · have e : u.1 * v.2 = 0 := by unfold crs at h; rw [v1, Int.mul_zero, Int.sub_zero] at h; exact h
      have u0 : u.1 = 0 := by
        rcases Int.mul_eq_zero.mp e with z | z
        · exact z
        · omega
      have u2 : 0 < u.2 := by rcases hu with z | z <;> omega
      have := Int.mul_pos u2 v2
      rw [u0, Int.zero_mul]
      omega
  have s1 : 0 ≤ v.1 * v.1 := by
    rcases Int.le_total 0 v.1 with z | z
    · exact Int.mul_nonneg z z
    · exact Int.mul_nonneg_of_nonpos_of_nonpos z z
  have s2 : 0 ≤ v.2 * v.2 := by
    rcases Int.le_total 0 v.2 with z | z
    · exact Int.mul_nonneg z z
    · exact Int.mul_nonneg_of_nonpos_of_nonpos z z
  have sv : 0 < v.1 * v.1 + v.2 * v.2 := by
    rcases hv with z | ⟨_, z⟩
    · have := Int.mul_pos z z; omega
    · have := Int.mul_pos z z; omega
  have e : (u.1 + v.1) * (u.1 + v.1) + (u.2 + v.2) * (u.2 + v.2) = u.1 * u.1 + u.2 * u.2 + 2 * (u.1 * v.1 + u.2 * v.2) + (v.1 * v.1 + v.2 * v.2) := by grind
  omega
theorem tr_in (p : Nat → zVc) (a b o : Nat) : trn p a b o = crs (vsb (p o) (p b)) (vsb (p a) (p o)) := by unfold trn crs vsb; grind
theorem tr_up (p : Nat → zVc) (a b c : Nat) : trn p a b c = crs (vsb (p a) (p b)) (vsb (p b) (p c)) := by unfold trn crs vsb; grind
theorem tr_dn (p : Nat → zVc) (a b o : Nat) : trn p a b o = crs (vsb (p o) (p a)) (vsb (p a) (p b)) := by unfold trn crs vsb; grind
theorem cr_r (w a b c : zVc) : crs w (vsb a c) = crs w (vsb a b) + crs w (vsb b c) := by unfold crs vsb; grind
theorem cr_l (w a b c : zVc) : crs (vsb a c) w = crs (vsb a b) w + crs (vsb b c) w := by unfold crs vsb; grind
theorem cr_0 (u : zVc) : crs u u = 0 := by unfold crs; grind
-- ===== a chain: the latest first =====
def hPop (t : Nat → Nat → Nat → Int) (i : Nat) : List Nat → List Nat
  | b :: a :: r => if t a b i ≤ 0 then hPop t i (a :: r) else b :: a :: r
  | s => s
def hLow (t : Nat → Nat → Nat → Int) : Nat → List Nat
  | 0 => []
  | i + 1 => i :: hPop t i (hLow t i)
def hOk (p : Nat → zVc) : List Nat → Prop
  | [] => True
  | [a] => a = 0
  | b :: a :: r => a < b ∧ (∀ o, a < o → o < b → 0 ≤ trn p a b o) ∧ (∀ c, r.head? = some c → 0 < trn p c a b) ∧ hOk p (a :: r)
abbrev hLx (p : Nat → zVc) (n : Nat) : Prop := ∀ i j, i < j → j < n → lxp (vsb (p i) (p j))
theorem hPop_ok {p : Nat → zVc} {n : Nat} (hp : hLx p n) {i : Nat} (hi : i < n) : ∀ (r : List Nat) (t : Nat), hOk p (t :: r) → t < i → (∀ o, t < o → o < i → 0 ≤ trn p t i o) → hOk p (i :: hPop (trn p) i (t :: r))
  | [], t, h, ht, hv => ⟨ht, hv, fun c hc => (by cases hc), h⟩
  | a :: r, t, h, ht, hv => by
    obtain ⟨h1, h2, h3, h4⟩ := h
    show hOk p (i :: (if trn p a t i ≤ 0 then hPop (trn p) i (a :: r) else t :: a :: r))
    by_cases c : trn p a t i ≤ 0
    · rw [if_pos c]
      have g : 0 ≤ trn p a i t := by
        have e : trn p a i t = -trn p a t i := by unfold trn crs; grind
        omega
      refine hPop_ok hp hi r a h4 (by omega) (fun o o1 o2 => ?_)
      have lat := hp a t h1 (by omega)
      have lti := hp t i ht hi
      have lai := hp a i (by omega) hi
      rcases Nat.lt_trichotomy o t with z | z | z
      · have lao := hp a o o1 (by omega)
        have loT := hp o t z (by omega)
        have loI := hp o i o2 hi
        have k1 := h2 o o1 z
        rw [tr_in] at k1 g ⊢
        -- k1 : 0 ≤ crs (o t) (a o); g : 0 ≤ crs (t i) (a t)
        have e1 : 0 ≤ crs (vsb (p a) (p t)) (vsb (p a) (p o)) := by
          rw [cr_l _ _ (p o) _, cr_0]; omega
        have k2 := cr_ww lti lat lao g e1
        rw [cr_l _ _ (p t) _]
        omega
      · rw [z]; exact g
      · have lto := hp t o z (by omega)
        have loI := hp o i o2 hi
        have k1 := hv o z o2
        rw [tr_in] at k1 g ⊢
        have e1 : 0 ≤ crs (vsb (p o) (p i)) (vsb (p t) (p i)) := by
          rw [cr_r _ _ (p o) _, cr_0]; omega
        have k2 := cr_ww loI lti lat e1 g
        rw [cr_r _ _ (p t) _]
        omega
    · rw [if_neg c]
      refine ⟨ht, hv, fun q hq => ?_, h1, h2, h3, h4⟩
      cases hq
      omega
theorem hPop_ne (t : Nat → Nat → Nat → Int) (i : Nat) : ∀ (r : List Nat) (a : Nat), ∃ b s, hPop t i (a :: r) = b :: s
  | [], a => ⟨a, [], rfl⟩
  | c :: r, a => by
    show ∃ b s, (if t c a i ≤ 0 then hPop t i (c :: r) else a :: c :: r) = b :: s
    split
    · exact hPop_ne t i r c
    · exact ⟨_, _, rfl⟩
theorem hLow_ok {p : Nat → zVc} {n : Nat} (hp : hLx p n) : ∀ i, i ≤ n → hOk p (hLow (trn p) i)
  | 0, _ => trivial
  | 1, _ => rfl
  | i + 2, hi => by
    have k := hLow_ok hp (i + 1) (by omega)
    show hOk p ((i + 1) :: hPop (trn p) (i + 1) (i :: hPop (trn p) i (hLow (trn p) i)))
    exact hPop_ok hp (by omega) _ i k (by omega) (fun o a b => by omega)
/-- below an edge -/
theorem hOk_lo {p : Nat → zVc} {n : Nat} (hp : hLx p n) : ∀ (r : List Nat) (a b : Nat), hOk p (a :: r) → a < b → b < n → (∀ c, r.head? = some c → 0 < trn p c a b) → ∀ o, o < a → 0 < crs (vsb (p o) (p a)) (vsb (p a) (p b))
  | [], a, b, h, _, _, _, o, ho => by have h : a = 0 := h; omega
  | c :: r, a, b, h, hab, hb, hc, o, ho => by
    obtain ⟨h1, h2, h3, h4⟩ := h
    have w := hp a b hab hb
    have u := hp c a h1 (by omega)
    have k0 := hc c rfl
    rw [tr_up] at k0
    rcases Nat.lt_trichotomy o c with z | z | z
    · have ih := hOk_lo hp r c a h4 h1 (by omega) h3 o z
      have k := cr_sw (hp o c z (by omega)) u w ih (Int.le_of_lt k0)
      rw [cr_l _ _ (p c) _]
      omega
    · rw [z]; exact k0
    · have k1 := h2 o z ho
      rw [tr_in] at k1
      have lco := hp c o z (by omega)
      have loA := hp o a ho (by omega)
      have e1 : 0 ≤ crs (vsb (p o) (p a)) (vsb (p c) (p a)) := by
        rw [cr_r _ _ (p o) _, cr_0]; omega
      exact cr_ws loA u w e1 k0
/-- above an edge -/
theorem hOk_hi {p : Nat → zVc} {n : Nat} (hp : hLx p n) {a b : Nat} {lo : List Nat} (hab : a < b) : ∀ (hi : List Nat) (t : Nat) (s : List Nat), hi ++ b :: a :: lo = t :: s → hOk p (t :: s) → t < n → b ≤ t ∧ (∀ o, b < o → o ≤ t → 0 < crs (vsb (p a) (p b)) (vsb (p b) (p o))) ∧ ∃ c, s.head? = some c ∧ c < t ∧ (b < t → 0 < crs (vsb (p a) (p b)) (vsb (p c) (p t))) ∧ (t = b → c = a)
  | [], t, s, e, h, hn => by
    cases e
    exact ⟨Nat.le_refl _, fun o x y => by omega, a, rfl, hab, fun x => by omega, fun _ => rfl⟩
  | x :: hi, t, s, e, h, hn => by
    rw [List.cons_append] at e
    injection e with e1 e2
    subst e1
    obtain ⟨t', s', es⟩ : ∃ t' s', hi ++ b :: a :: lo = t' :: s' := by
      cases hi with
      | nil => exact ⟨_, _, rfl⟩
      | cons y hi => exact ⟨_, _, rfl⟩
    rw [es] at e2
    subst e2
    obtain ⟨h1, h2, h3, h4⟩ := h
    obtain ⟨i1, i2, c, i3, i4, i5, i6⟩ := hOk_hi hp hab hi t' s' es h4 (by omega)
    have w := hp a b hab (by omega)
    have le := hp t' x h1 hn
    have k3 := h3 c i3
    rw [tr_up] at k3
    have lct := hp c t' i4 (by omega)
    have key : 0 < crs (vsb (p a) (p b)) (vsb (p t') (p x)) := by
      rcases Nat.lt_or_ge b t' with z | z
      · exact cr_sw w lct le (i5 z) (Int.le_of_lt k3)
      · have : t' = b := by omega
        rw [i6 this, this] at k3
        rw [this]; exact k3
    have base : 0 ≤ crs (vsb (p a) (p b)) (vsb (p b) (p t')) := by
      rcases Nat.lt_or_ge b t' with z | z
      · exact Int.le_of_lt (i2 t' z (Nat.le_refl _))
      · have : t' = b := by omega
        rw [this]
        unfold crs vsb
        simp
    refine ⟨by omega, fun o o1 o2 => ?_, t', rfl, h1, fun _ => key, fun q => by omega⟩
    rcases Nat.lt_or_ge t' o with z | z
    · have k : 0 < crs (vsb (p a) (p b)) (vsb (p t') (p o)) := by
        rcases Nat.lt_or_ge o x with y | y
        · have k1 := h2 o z y
          have k1 : 0 ≤ crs (vsb (p t') (p x)) (vsb (p t') (p o)) := k1
          exact cr_sw w le (hp t' o z (by omega)) key k1
        · have : o = x := by omega
          rw [this]; exact key
      rw [cr_r _ _ (p t') _]
      omega
    · exact i2 o o1 z
/-- from a to b: all others lie to the left, or on the way -/
def hSt (p : Nat → zVc) (n a b : Nat) : Prop := a ≠ b ∧ a < n ∧ b < n ∧ ∀ o, o < n → o ≠ a → o ≠ b → 0 < trn p a b o ∨ (trn p a b o = 0 ∧ fr2 p a o < fr2 p a b)
theorem hOk_st {p : Nat → zVc} {n : Nat} (hp : hLx p n) {hi lo : List Nat} {a b t : Nat} {s : List Nat} (e : hi ++ b :: a :: lo = t :: s) (h : hOk p (t :: s)) (hn : t + 1 = n) (hE : hOk p (b :: a :: lo)) : hSt p n a b := by
  obtain ⟨h1, h2, h3, h4⟩ := hE
  obtain ⟨i1, i2, _⟩ := hOk_hi hp h1 hi t s e h (by omega)
  refine ⟨by omega, by omega, by omega, fun o o1 o2 o3 => ?_⟩
  rcases Nat.lt_trichotomy o a with z | z | z
  · left
    rw [tr_dn]
    exact hOk_lo hp lo a b h4 h1 (by omega) h3 o z
  · exact absurd z o2
  · rcases Nat.lt_trichotomy o b with y | y | y
    · have k := h2 o z y
      rcases Int.lt_or_le 0 (trn p a b o) with q | q
      · exact Or.inl q
      · right
        have k0 : trn p a b o = 0 := by omega
        refine ⟨k0, ?_⟩
        rw [tr_in] at k0
        have k1 : crs (vsb (p a) (p o)) (vsb (p o) (p b)) = 0 := by
          have : crs (vsb (p a) (p o)) (vsb (p o) (p b)) = -crs (vsb (p o) (p b)) (vsb (p a) (p o)) := by unfold crs; grind
          omega
        have f := cr_far (hp a o z (by omega)) (hp o b y (by omega)) k1
        have e1 : (vsb (p a) (p o)).1 + (vsb (p o) (p b)).1 = (vsb (p a) (p b)).1 := by unfold vsb; simp only; omega
        have e2 : (vsb (p a) (p o)).2 + (vsb (p o) (p b)).2 = (vsb (p a) (p b)).2 := by unfold vsb; simp only; omega
        rw [e1, e2] at f
        exact f
    · exact absurd y o3
    · left
      rw [tr_up]
      exact i2 o y (by omega)
