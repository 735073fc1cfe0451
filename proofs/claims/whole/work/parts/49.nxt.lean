-- ===== the next region: stretches between two slices =====
theorem fLt_t {f g : zFr} : fLt f g = true ↔ f.1 * g.2 < g.1 * f.2 := by unfold fLt; rw [decide_eq_true_eq]
theorem fLt_f {f g : zFr} : fLt f g = false ↔ g.1 * f.2 ≤ f.1 * g.2 := by unfold fLt; rw [decide_eq_false_iff_not, Int.not_lt]
theorem fRed_lt1 {a b : Int} (hb : 0 < b) {g : zFr} : fLt (fRed a b) g = true ↔ a * g.2 < g.1 * b := by
  rw [fLt_t]
  have v := fRed_val (a := a) (b := b) (by omega)
  have r := (fRed_R (a := a) (b := b) (by omega)).1
  generalize fRed a b = x at *
  have e1 : a * g.2 * x.2 = x.1 * g.2 * b := by grind
  have e2 : g.1 * b * x.2 = g.1 * x.2 * b := by grind
  constructor
  · intro h
    refine Int.lt_of_mul_lt_mul_right (a := x.2) ?_ (by omega)
    rw [e1, e2]
    exact Int.mul_lt_mul_of_pos_right h hb
  · intro h
    refine Int.lt_of_mul_lt_mul_right (a := b) ?_ (by omega)
    rw [← e1, ← e2]
    exact Int.mul_lt_mul_of_pos_right h r
theorem fRed_lt2 {a b : Int} (hb : 0 < b) {g : zFr} : fLt g (fRed a b) = true ↔ g.1 * b < a * g.2 := by
  rw [fLt_t]
  have v := fRed_val (a := a) (b := b) (by omega)
  have r := (fRed_R (a := a) (b := b) (by omega)).1
  generalize fRed a b = x at *
  have e1 : a * g.2 * x.2 = x.1 * g.2 * b := by grind
  have e2 : g.1 * b * x.2 = g.1 * x.2 * b := by grind
  constructor
  · intro h
    refine Int.lt_of_mul_lt_mul_right (a := x.2) ?_ (by omega)
    rw [e1, e2]
    exact Int.mul_lt_mul_of_pos_right h hb
  · intro h
    refine Int.lt_of_mul_lt_mul_right (a := b) ?_ (by omega)
    rw [← e1, ← e2]
    exact Int.mul_lt_mul_of_pos_right h r
theorem f_lt_le {a b c : zFr} (ha : 0 < a.2) (hb : 0 < b.2) (hc : 0 < c.2) (h1 : a.1 * b.2 < b.1 * a.2) (h2 : b.1 * c.2 ≤ c.1 * b.2) : a.1 * c.2 < c.1 * a.2 := by
  refine Int.lt_of_mul_lt_mul_right (a := b.2) ?_ (by omega)
  have k1 := Int.mul_lt_mul_of_pos_right h1 hc
  have k2 := Int.mul_le_mul_of_nonneg_right h2 (Int.le_of_lt ha)
  have e1 : a.1 * c.2 * b.2 = a.1 * b.2 * c.2 := by grind
  have e2 : b.1 * a.2 * c.2 = b.1 * c.2 * a.2 := by grind
  have e3 : c.1 * a.2 * b.2 = c.1 * b.2 * a.2 := by grind
  omega
theorem f_le_lt {a b c : zFr} (ha : 0 < a.2) (hb : 0 < b.2) (hc : 0 < c.2) (h1 : a.1 * b.2 ≤ b.1 * a.2) (h2 : b.1 * c.2 < c.1 * b.2) : a.1 * c.2 < c.1 * a.2 := by
  refine Int.lt_of_mul_lt_mul_right (a := b.2) ?_ (by omega)
  have k1 := Int.mul_le_mul_of_nonneg_right h1 (Int.le_of_lt hc)
  have k2 := Int.mul_lt_mul_of_pos_right h2 ha
  have e1 : a.1 * c.2 * b.2 = a.1 * b.2 * c.2 := by grind
  have e2 : b.1 * a.2 * c.2 = b.1 * c.2 * a.2 := by grind
  have e3 : c.1 * a.2 * b.2 = c.1 * b.2 * a.2 := by grind
  omega
theorem f_le_le {a b c : zFr} (ha : 0 < a.2) (hb : 0 < b.2) (hc : 0 < c.2) (h1 : a.1 * b.2 ≤ b.1 * a.2) (h2 : b.1 * c.2 ≤ c.1 * b.2) : a.1 * c.2 ≤ c.1 * a.2 := by
  refine Int.le_of_mul_le_mul_right (a := b.2) ?_ hb
  have k1 := Int.mul_le_mul_of_nonneg_right h1 (Int.le_of_lt hc)
  have k2 := Int.mul_le_mul_of_nonneg_right h2 (Int.le_of_lt ha)
  have e1 : a.1 * c.2 * b.2 = a.1 * b.2 * c.2 := by grind
  have e2 : b.1 * a.2 * c.2 = b.1 * c.2 * a.2 := by grind
  have e3 : c.1 * a.2 * b.2 = c.1 * b.2 * a.2 := by grind
  omega
/-- nothing is left of it -/
def fD (st : zSl) : Prop := st.1 = false ∨ fLt st.2.2 st.2.1 = true
theorem nwL_ge {f : zFr} {a q : Int} (hf : 0 < f.2) : 0 < (nwL f a q).2 ∧ f.1 * (nwL f a q).2 ≤ (nwL f a q).1 * f.2 := by
  unfold nwL
  split
  · rename_i c
    have r := (fRed_R (a := q) (b := a) (by omega)).1
    refine ⟨r, ?_⟩
    have k : fLt f (fRed q a) = true := by
      rw [← fRed_neg (by omega)]
      refine (fRed_lt2 (by omega)).mpr ?_
      have e1 : f.1 * -a = -(f.1 * a) := by grind
      have e2 : -q * f.2 = -(q * f.2) := by grind
      omega
    rw [fLt_t] at k
    omega
  · exact ⟨hf, Int.le_refl _⟩
theorem nwH_le {f : zFr} {a q : Int} (hf : 0 < f.2) : 0 < (nwH f a q).2 ∧ (nwH f a q).1 * f.2 ≤ f.1 * (nwH f a q).2 := by
  unfold nwH
  split
  · rename_i c
    have r := (fRed_R (a := q) (b := a) (by omega)).1
    refine ⟨r, ?_⟩
    have k : fLt (fRed q a) f = true := (fRed_lt1 (by omega)).mpr c.2
    rw [fLt_t] at k
    omega
  · exact ⟨hf, Int.le_refl _⟩
theorem nw_dead {st : zSl} {a q : Int} (h1 : 0 < st.2.1.2) (h2 : 0 < st.2.2.2) (h : fD st) : fD (nw st a q) := by
  rcases h with h | h
  · left
    show (st.1 && _) = false
    rw [h]; rfl
  · right
    show fLt (nwH st.2.2 a q) (nwL st.2.1 a q) = true
    rw [fLt_t] at h ⊢
    obtain ⟨a1, a2⟩ := nwL_ge (f := st.2.1) (a := a) (q := q) h1
    obtain ⟨b1, b2⟩ := nwH_le (f := st.2.2) (a := a) (q := q) h2
    exact f_lt_le b1 h1 a1 (f_le_lt b1 h2 h1 b2 h) a2
theorem bw_both {A C f g m : Int} {lo hi : zFr} (hf : 0 < f) (hg : 0 < g) (l2 : 0 < lo.2) (h2 : 0 < hi.2) (hl : m * lo.2 ≤ lo.1) (hh : hi.1 ≤ (m + 1) * hi.2) (hA : A ≤ 0) (hC : C ≤ 0) : nw (true, lo, hi) (C * f - A * g) ((C * f - A * g) * m - A * g) = (true, lo, hi) := by
  have p1 : 0 ≤ -C * f * hi.2 := Int.mul_nonneg (Int.mul_nonneg (by omega) (by omega)) (by omega)
  have p2 : 0 ≤ -A * g * lo.2 := Int.mul_nonneg (Int.mul_nonneg (by omega) (by omega)) (by omega)
  have p3 : 0 ≤ -A * g := Int.mul_nonneg (by omega) (by omega)
  have nH : ¬ (0 < C * f - A * g ∧ ((C * f - A * g) * m - A * g) * hi.2 < hi.1 * (C * f - A * g)) := by
    rintro ⟨z1, z2⟩
    have p4 : 0 ≤ (C * f - A * g) * ((m + 1) * hi.2 - hi.1) := Int.mul_nonneg (by omega) (by omega)
    have e : ((C * f - A * g) * m - A * g) * hi.2 - hi.1 * (C * f - A * g) = (C * f - A * g) * ((m + 1) * hi.2 - hi.1) + -C * f * hi.2 := by grind
    omega
  have nL : ¬ (C * f - A * g < 0 ∧ ((C * f - A * g) * m - A * g) * lo.2 < lo.1 * (C * f - A * g)) := by
    rintro ⟨z1, z2⟩
    have p4 : 0 ≤ (C * f - A * g) * (m * lo.2 - lo.1) := Int.mul_nonneg_of_nonpos_of_nonpos (by omega) (by omega)
    have e : ((C * f - A * g) * m - A * g) * lo.2 - lo.1 * (C * f - A * g) = (C * f - A * g) * (m * lo.2 - lo.1) + -A * g * lo.2 := by grind
    omega
  have nF : C * f - A * g ≠ 0 ∨ 0 ≤ (C * f - A * g) * m - A * g := by
    by_cases c : C * f - A * g = 0
    · right
      rw [c]
      have e : -A * g = -(A * g) := by grind
      omega
    · left; exact c
  unfold nw nwL nwH
  rw [if_neg nL, if_neg nH, decide_eq_true nF]
  rfl
theorem bw_none {A C f g m : Int} {lo hi : zFr} {b : Bool} (hf : 0 < f) (hg : 0 < g) (l2 : 0 < lo.2) (h2 : 0 < hi.2) (hl : m * lo.2 ≤ lo.1) (hh : hi.1 ≤ (m + 1) * hi.2) (hA : 0 < A) (hC : 0 < C) : fD (nw (b, lo, hi) (C * f - A * g) ((C * f - A * g) * m - A * g)) := by
  have p1 : 0 < C * f * hi.2 := Int.mul_pos (Int.mul_pos hC hf) h2
  have p2 : 0 < A * g * lo.2 := Int.mul_pos (Int.mul_pos hA hg) l2
  have p3 : 0 < A * g := Int.mul_pos hA hg
  have p5 : 0 < C * f * lo.2 := Int.mul_pos (Int.mul_pos hC hf) l2
  have p6 : 0 < A * g * hi.2 := Int.mul_pos (Int.mul_pos hA hg) h2
  rcases Int.lt_trichotomy (C * f - A * g) 0 with c | c | c
  · right
    show fLt (nwH hi _ _) (nwL lo _ _) = true
    have eH : nwH hi (C * f - A * g) ((C * f - A * g) * m - A * g) = hi := by unfold nwH; rw [if_neg (fun z => by omega)]
    rw [eH]
    unfold nwL
    by_cases d : ((C * f - A * g) * m - A * g) * lo.2 < lo.1 * (C * f - A * g)
    · rw [if_pos ⟨c, d⟩, ← fRed_neg (by omega)]
      refine (fRed_lt2 (by omega)).mpr ?_
      have p4 : 0 ≤ (C * f - A * g) * (hi.1 - (m + 1) * hi.2) := Int.mul_nonneg_of_nonpos_of_nonpos (by omega) (by omega)
      have e : -((C * f - A * g) * m - A * g) * hi.2 - hi.1 * -(C * f - A * g) = (C * f - A * g) * (hi.1 - (m + 1) * hi.2) + C * f * hi.2 := by grind
      omega
    · rw [if_neg (fun z => d z.2), fLt_t]
      have q : (m + 1) * lo.2 < lo.1 := by
        rcases Int.lt_or_le ((m + 1) * lo.2) lo.1 with t | t
        · exact t
        · have p4 : 0 ≤ (C * f - A * g) * (lo.1 - (m + 1) * lo.2) := Int.mul_nonneg_of_nonpos_of_nonpos (by omega) (by omega)
          have e : ((C * f - A * g) * m - A * g) * lo.2 - lo.1 * (C * f - A * g) = -((C * f - A * g) * (lo.1 - (m + 1) * lo.2)) - C * f * lo.2 := by grind
          omega
      have k1 := Int.mul_le_mul_of_nonneg_right hh (Int.le_of_lt l2)
      have k2 := Int.mul_lt_mul_of_pos_right q h2
      have e : (m + 1) * hi.2 * lo.2 = (m + 1) * lo.2 * hi.2 := by grind
      omega
  · left
    show (b && decide _) = false
    rw [decide_eq_false (fun z => ?_), Bool.and_false]
    rcases z with z | z
    · exact z c
    · rw [c] at z
      omega
  · right
    show fLt (nwH hi _ _) (nwL lo _ _) = true
    have eL : nwL lo (C * f - A * g) ((C * f - A * g) * m - A * g) = lo := by unfold nwL; rw [if_neg (fun z => by omega)]
    rw [eL]
    unfold nwH
    by_cases d : ((C * f - A * g) * m - A * g) * hi.2 < hi.1 * (C * f - A * g)
    · rw [if_pos ⟨c, d⟩]
      refine (fRed_lt1 c).mpr ?_
      have p4 : 0 ≤ (C * f - A * g) * (lo.1 - m * lo.2) := Int.mul_nonneg (by omega) (by omega)
      have e : lo.1 * (C * f - A * g) - ((C * f - A * g) * m - A * g) * lo.2 = (C * f - A * g) * (lo.1 - m * lo.2) + A * g * lo.2 := by grind
      omega
    · rw [if_neg (fun z => d z.2), fLt_t]
      have q : hi.1 < m * hi.2 := by
        rcases Int.lt_or_le hi.1 (m * hi.2) with t | t
        · exact t
        · have p4 : 0 ≤ (C * f - A * g) * (hi.1 - m * hi.2) := Int.mul_nonneg (by omega) (by omega)
          have e : ((C * f - A * g) * m - A * g) * hi.2 - hi.1 * (C * f - A * g) = -((C * f - A * g) * (hi.1 - m * hi.2)) - A * g * hi.2 := by grind
          omega
      have k1 := Int.mul_le_mul_of_nonneg_right hl (Int.le_of_lt h2)
      have k2 := Int.mul_lt_mul_of_pos_right q l2
      have e : m * hi.2 * lo.2 = m * lo.2 * hi.2 := by grind
      omega
theorem bw_fst {A C f g : Int} {R : Int} {lo hi : zFr} (hf : 0 < f) (hg : 0 < g) (hA : A ≤ 0) (hC : 0 < C) : 0 < C * f - A * g ∧ nw (true, lo, hi) (C * f - A * g) R = (true, lo, if fLt (fRed R (C * f - A * g)) hi then fRed R (C * f - A * g) else hi) := by
  have p1 : 0 < C * f := Int.mul_pos hC hf
  have p2 : 0 ≤ -A * g := Int.mul_nonneg (by omega) (by omega)
  have e : -A * g = -(A * g) := by grind
  have s : 0 < C * f - A * g := by omega
  refine ⟨s, ?_⟩
  unfold nw nwL nwH
  rw [if_neg (fun z => by omega), decide_eq_true (Or.inl (by omega))]
  by_cases c : R * hi.2 < hi.1 * (C * f - A * g)
  · rw [if_pos ⟨s, c⟩, if_pos ((fRed_lt1 s).mpr c)]; rfl
  · rw [if_neg (fun z => c z.2), if_neg (fun z => c ((fRed_lt1 s).mp z))]; rfl
theorem bw_snd {A C f g : Int} {R : Int} {lo hi : zFr} (hf : 0 < f) (hg : 0 < g) (hA : 0 < A) (hC : C ≤ 0) : C * f - A * g < 0 ∧ nw (true, lo, hi) (C * f - A * g) R = (true, if fLt lo (fRed R (C * f - A * g)) then fRed R (C * f - A * g) else lo, hi) := by
  have p1 : 0 < A * g := Int.mul_pos hA hg
  have p2 : 0 ≤ -C * f := Int.mul_nonneg (by omega) (by omega)
  have e : -C * f = -(C * f) := by grind
  have s : C * f - A * g < 0 := by omega
  refine ⟨s, ?_⟩
  have k : fLt lo (fRed R (C * f - A * g)) = true ↔ R * lo.2 < lo.1 * (C * f - A * g) := by
    rw [← fRed_neg (by omega), fRed_lt2 (by omega)]
    have e1 : lo.1 * -(C * f - A * g) = -(lo.1 * (C * f - A * g)) := by grind
    have e2 : -R * lo.2 = -(R * lo.2) := by grind
    omega
  unfold nw nwL nwH
  rw [if_neg (c := 0 < C * f - A * g ∧ _) (fun z => by omega), decide_eq_true (Or.inl (by omega))]
  by_cases c : R * lo.2 < lo.1 * (C * f - A * g)
  · rw [if_pos ⟨s, c⟩, if_pos (k.mpr c)]; rfl
  · rw [if_neg (fun z => c z.2), if_neg (fun z => c (k.mp z))]; rfl
-- ===== the row between two slices at m and m + 1 =====
def bwS (f g : zFr) : Int := g.1 * f.2 - f.1 * g.2
def bwR (f g : zFr) (m k : Int) : Int := k * f.2 * g.2 - f.1 * g.2 + bwS f g * m
def bwG (s : Int) (f g : zFr) (m k : Int) (st : zSl) : zSl := nw st (s * bwS f g) (s * bwR f g m k)
def bwB (a b c d : zFr) (m k : Int) : zSl := bwG (-1) c d m k (bwG 1 a b m k (true, (m, 1), (m + 1, 1)))
def jn (acc st : zSl) : zSl := if st.1 && !fLt st.2.2 st.2.1 then (true, (if !acc.1 || fLt st.2.1 acc.2.1 then st.2.1 else acc.2.1), if !acc.1 || fLt acc.2.2 st.2.2 then st.2.2 else acc.2.2) else acc
def nx1 (s : zSl) (m k : Int) (acc : zSl) : zSl := if !fLt (k, 1) s.2.1 && !fLt s.2.2 (k, 1) then jn acc (true, (m, 1), (m, 1)) else acc
def nx2 (s t : zSl) (m k : Int) (acc : zSl) : zSl := jn acc (bwB s.2.1 t.2.1 s.2.2 t.2.2 m k)
def nxS (T : Nat → zSl) (m k : Nat) (acc : zSl) : zSl := if (T m).1 then (if m = 6 ∨ (T (m + 1)).1 = false then nx1 (T m) m k acc else nx2 (T m) (T (m + 1)) m k (nx1 (T m) m k acc)) else acc
def nxA (T : Nat → zSl) (k : Nat) : Nat → zSl
  | 0 => (false, (0, 1), (0, 1))
  | m + 1 => nxS T m k (nxA T k m)
def nxM (own acc : zSl) : zSl := clo (acc.1, (if fLt acc.2.1 own.2.1 then own.2.1 else acc.2.1), if fLt own.2.2 acc.2.2 then own.2.2 else acc.2.2)
def sNx (own : zSl) (T : Nat → zSl) (k : Nat) : zSl := if own.1 then nxM own (nxA T k 7) else (false, (0, 1), (0, 1))
def sTb (π : zPl) : Nat → Nat → Nat → zSl
  | 0, w, k => sT0 π w k
  | r + 1, w, k => sNx (sTb π r w k) (fun m => sTb π r (1 - w) m) k
-- ===== how large the numbers are =====
theorem fW_p {B : Nat} {f : zFr} (h : fW B f) : 0 < f.2 ∧ f.1.natAbs ≤ 6 * B ∧ f.2.natAbs ≤ B := by
  obtain ⟨r, a, b, c⟩ := h
  have := r.1
  exact ⟨this, by omega, by omega⟩
theorem fW_Bb {B : Nat} (hB : B ≤ 100000000) {f : zFr} (h : fW B f) : fB f := by
  have := fW_p h
  exact ⟨by omega, by omega⟩
theorem bwS_bd {B : Nat} {f g : zFr} (hf : fW B f) (hg : fW B g) : (bwS f g).natAbs ≤ 6 * B * B + 6 * B * B := by
  obtain ⟨_, a1, a2⟩ := fW_p hf
  obtain ⟨_, b1, b2⟩ := fW_p hg
  exact bd_sub (bd_mul b1 a2) (bd_mul a1 b2)
theorem bwR_bd {B : Nat} {f g : zFr} (hf : fW B f) (hg : fW B g) {m k : Int} (hm : m.natAbs ≤ 6) (hk : k.natAbs ≤ 6) : (bwR f g m k).natAbs ≤ 6 * B * B + 6 * B * B + (6 * B * B + 6 * B * B) * 6 := by
  obtain ⟨_, a1, a2⟩ := fW_p hf
  obtain ⟨_, b1, b2⟩ := fW_p hg
  exact bd_add (bd_sub (bd_mul (bd_mul hk a2) b2) (bd_mul a1 b2)) (bd_mul (bwS_bd hf hg) hm)
/-- a stretch between m and m + 1, in the making -/
def bwI (C : Nat) (m : Int) (st : zSl) : Prop := (isR st.2.1 ∧ isR st.2.2) ∧ (st.2.1.2 ≤ C ∧ st.2.2.2 ≤ C) ∧ (m * st.2.1.2 ≤ st.2.1.1 ∧ st.2.2.1 ≤ (m + 1) * st.2.2.2) ∧ st.2.1.1.natAbs ≤ 8 * C ∧ st.2.2.1.natAbs ≤ 8 * C
theorem bwI_nw {C : Nat} {m : Int} {st : zSl} (h : bwI C m st) {a q : Int} (ha : a.natAbs ≤ C) (hq : q.natAbs ≤ 8 * C) : bwI C m (nw st a q) := by
  obtain ⟨⟨r1, r2⟩, ⟨d1, d2⟩, ⟨m1, m2⟩, u1, u2⟩ := h
  have g1 := nwL_ge (f := st.2.1) (a := a) (q := q) r1.1
  have g2 := nwH_le (f := st.2.2) (a := a) (q := q) r2.1
  have key : a ≠ 0 → isR (fRed q a) ∧ (fRed q a).2 ≤ C ∧ (fRed q a).1.natAbs ≤ 8 * C := by
    intro n
    have r := fRed_R (a := q) n
    have b := fRed_bd (a := q) n
    have := r.1
    exact ⟨r, by omega, by omega⟩
  have kL : isR (nwL st.2.1 a q) ∧ (nwL st.2.1 a q).2 ≤ C ∧ (nwL st.2.1 a q).1.natAbs ≤ 8 * C := by
    unfold nwL
    split
    · rename_i c; exact key (by omega)
    · exact ⟨r1, d1, u1⟩
  have kH : isR (nwH st.2.2 a q) ∧ (nwH st.2.2 a q).2 ≤ C ∧ (nwH st.2.2 a q).1.natAbs ≤ 8 * C := by
    unfold nwH
    split
    · rename_i c; exact key (by omega)
    · exact ⟨r2, d2, u2⟩
  have i1 : m * (nwL st.2.1 a q).2 ≤ (nwL st.2.1 a q).1 := by
    have t := f_le_le (a := (m, 1)) (b := st.2.1) (c := nwL st.2.1 a q) (by show (0 : Int) < 1; decide) r1.1 g1.1 (by show m * st.2.1.2 ≤ st.2.1.1 * 1; omega) g1.2
    have t : m * (nwL st.2.1 a q).2 ≤ (nwL st.2.1 a q).1 * 1 := t
    omega
  have i2 : (nwH st.2.2 a q).1 ≤ (m + 1) * (nwH st.2.2 a q).2 := by
    have t := f_le_le (a := nwH st.2.2 a q) (b := st.2.2) (c := (m + 1, 1)) g2.1 r2.1 (by show (0 : Int) < 1; decide) g2.2 (by show st.2.2.1 * 1 ≤ (m + 1) * st.2.2.2; omega)
    have t : (nwH st.2.2 a q).1 * 1 ≤ (m + 1) * (nwH st.2.2 a q).2 := t
    omega
  exact ⟨⟨kL.1, kH.1⟩, ⟨kL.2.1, kH.2.1⟩, ⟨i1, i2⟩, kL.2.2, kH.2.2⟩
theorem isR_1 (n : Int) : isR (n, 1) := ⟨show (0 : Int) < 1 by decide, Nat.gcd_one_right _⟩
theorem bwI_0 {C : Nat} (hC : 1 ≤ C) {m : Int} (h0 : 0 ≤ m) (h6 : m ≤ 6) : bwI C m (true, (m, 1), (m + 1, 1)) := by
  refine ⟨⟨isR_1 m, isR_1 (m + 1)⟩, ⟨?_, ?_⟩, ⟨?_, ?_⟩, ?_, ?_⟩
  · show (1 : Int) ≤ C; omega
  · show (1 : Int) ≤ C; omega
  · show m * 1 ≤ m; omega
  · show m + 1 ≤ (m + 1) * 1; omega
  · show m.natAbs ≤ 8 * C; omega
  · show (m + 1).natAbs ≤ 8 * C; omega
theorem bwI_G {B C : Nat} (hB : 6 * B * B + 6 * B * B ≤ C) {s m k : Int} (hs : s = 1 ∨ s = -1) {f g : zFr} (hf : fW B f) (hg : fW B g) (hm : m.natAbs ≤ 6) (hk : k.natAbs ≤ 6) {st : zSl} (h : bwI C m st) : bwI C m (bwG s f g m k st) := by
  have b1 := bwS_bd hf hg
  have b2 := bwR_bd hf hg hm hk
  have b3 : (6 * B * B + 6 * B * B) * 6 ≤ 6 * C := by omega
  unfold bwG
  rcases hs with rfl | rfl
  · rw [Int.one_mul, Int.one_mul]
    exact bwI_nw h (by omega) (by omega)
  · exact bwI_nw h (by omega) (by omega)
theorem bwI_B {C : Nat} (hC : C ≤ 100000000) {m : Int} {st : zSl} (h : bwI C m st) : fB st.2.1 ∧ fB st.2.2 := by
  obtain ⟨⟨r1, r2⟩, ⟨d1, d2⟩, _, u1, u2⟩ := h
  have := r1.1
  have := r2.1
  exact ⟨⟨by omega, by omega⟩, ⟨by omega, by omega⟩⟩
def accW (C : Nat) (acc : zSl) : Prop := acc.1 = true → fW C acc.2.1 ∧ fW C acc.2.2
theorem jn_W {C : Nat} {m : Int} (h0 : 0 ≤ m) (h5 : m ≤ 5) {acc st : zSl} (ha : accW C acc) (h : bwI C m st) : accW C (jn acc st) := by
  unfold jn
  split
  · rename_i c
    rw [Bool.and_eq_true, Bool.not_eq_true', fLt_f] at c
    obtain ⟨⟨r1, r2⟩, ⟨d1, d2⟩, ⟨m1, m2⟩, u1, u2⟩ := h
    have p1 := r1.1
    have p2 := r2.1
    have q1 : 0 ≤ m * st.2.1.2 := Int.mul_nonneg h0 (by omega)
    have q2 : (m + 1) * st.2.2.2 ≤ 6 * st.2.2.2 := Int.mul_le_mul_of_nonneg_right (by omega) (by omega)
    have t1 : st.2.1.1 ≤ 6 * st.2.1.2 := by
      have t := f_le_le (a := st.2.1) (b := st.2.2) (c := (6, 1)) p1 p2 (by show (0 : Int) < 1; decide) c.2 (by show st.2.2.1 * 1 ≤ 6 * st.2.2.2; omega)
      have t : st.2.1.1 * 1 ≤ 6 * st.2.1.2 := t
      omega
    have t2 : 0 ≤ st.2.2.1 := by
      have t := f_le_le (a := (0, 1)) (b := st.2.1) (c := st.2.2) (by show (0 : Int) < 1; decide) p1 p2 (by show 0 * st.2.1.2 ≤ st.2.1.1 * 1; omega) c.2
      have t : 0 * st.2.2.2 ≤ st.2.2.1 * 1 := t
      omega
    have w1 : fW C st.2.1 := ⟨r1, d1, by omega, t1⟩
    have w2 : fW C st.2.2 := ⟨r2, d2, t2, by omega⟩
    intro _
    refine ⟨?_, ?_⟩
    · show fW C (if _ then _ else _)
      split
      · exact w1
      · rename_i z
        have : acc.1 = true := by cases e : acc.1 with | true => rfl | false => rw [e] at z; exact absurd rfl z
        exact (ha this).1
    · show fW C (if _ then _ else _)
      split
      · exact w2
      · rename_i z
        have : acc.1 = true := by cases e : acc.1 with | true => rfl | false => rw [e] at z; exact absurd rfl z
        exact (ha this).2
  · exact ha
theorem jn_p {C : Nat} (hC : 1 ≤ C) {m : Int} (h0 : 0 ≤ m) (h6 : m ≤ 6) {acc : zSl} (ha : accW C acc) : accW C (jn acc (true, (m, 1), (m, 1))) := by
  have w : fW C (m, 1) := ⟨isR_1 m, by show (1 : Int) ≤ C; omega, h0, by show m ≤ 6 * 1; omega⟩
  unfold jn
  split
  · intro _
    refine ⟨?_, ?_⟩
    · show fW C (if _ then _ else _)
      split
      · exact w
      · rename_i z
        have : acc.1 = true := by cases e : acc.1 with | true => rfl | false => rw [e] at z; exact absurd rfl z
        exact (ha this).1
    · show fW C (if _ then _ else _)
      split
      · exact w
      · rename_i z
        have : acc.1 = true := by cases e : acc.1 with | true => rfl | false => rw [e] at z; exact absurd rfl z
        exact (ha this).2
  · exact ha
theorem nx1_W {C : Nat} (hC : 1 ≤ C) {m k : Nat} (h6 : m ≤ 6) {s acc : zSl} (ha : accW C acc) : accW C (nx1 s m k acc) := by
  unfold nx1
  split
  · exact jn_p hC (by omega) (by omega) ha
  · exact ha
theorem nx2_W {B C : Nat} (hB : 6 * B * B + 6 * B * B ≤ C) (hC : 1 ≤ C) {m k : Nat} (h5 : m ≤ 5) (hk : k ≤ 6) {s t acc : zSl} (hs : slW B s) (ht : slW B t) (s1 : s.1 = true) (t1 : t.1 = true) (ha : accW C acc) : accW C (nx2 s t m k acc) := by
  have hs := (hs s1).1
  have ht := (ht t1).1
  exact jn_W (by omega) (by omega) ha (bwI_G hB (Or.inr rfl) hs.2 ht.2 (by omega) (by omega) (bwI_G hB (Or.inl rfl) hs.1 ht.1 (by omega) (by omega) (bwI_0 hC (by omega) (by omega))))
theorem nxS_W {B C : Nat} (hB : 6 * B * B + 6 * B * B ≤ C) (hC : 1 ≤ C) {T : Nat → zSl} (hT : ∀ m, m < 7 → slW B (T m)) {m k : Nat} (h6 : m < 7) (hk : k < 7) {acc : zSl} (ha : accW C acc) : accW C (nxS T m k acc) := by
  unfold nxS
  split
  · rename_i c
    split
    · exact nx1_W hC (by omega) ha
    · rename_i d
      have d1 : m ≠ 6 := fun q => d (Or.inl q)
      have d2 : (T (m + 1)).1 = true := by cases e : (T (m + 1)).1 with | true => rfl | false => exact absurd (Or.inr e) d
      exact nx2_W hB hC (by omega) (by omega) (hT m h6) (hT (m + 1) (by omega)) c d2 (nx1_W hC (by omega) ha)
  · exact ha
theorem nxA_W {B C : Nat} (hB : 6 * B * B + 6 * B * B ≤ C) (hC : 1 ≤ C) {T : Nat → zSl} (hT : ∀ m, m < 7 → slW B (T m)) {k : Nat} (hk : k < 7) : ∀ m, m ≤ 7 → accW C (nxA T k m)
  | 0, _ => fun q => absurd (show false = true from q) (by decide)
  | m + 1, h => nxS_W hB hC hT (by omega) hk (nxA_W hB hC hT hk m (by omega))
theorem fW_mono {B C : Nat} (h : B ≤ C) {f : zFr} (hf : fW B f) : fW C f := ⟨hf.1, by have := hf.2.1; omega, hf.2.2⟩
theorem sNx_W {B C : Nat} (hB : 6 * B * B + 6 * B * B ≤ C) (hBC : B ≤ C) (hC : 1 ≤ C) {T : Nat → zSl} (hT : ∀ m, m < 7 → slW B (T m)) {own : zSl} (ho : slW B own) {k : Nat} (hk : k < 7) : slW C (sNx own T k) := by
  unfold sNx
  split
  · rename_i c
    obtain ⟨⟨o1, o2⟩, _⟩ := ho c
    have ha := nxA_W hB hC hT hk 7 (by omega)
    generalize nxA T k 7 = acc at *
    unfold nxM clo
    intro h
    have h : (acc.1 && !fLt (if fLt own.2.2 acc.2.2 then own.2.2 else acc.2.2) (if fLt acc.2.1 own.2.1 then own.2.1 else acc.2.1)) = true := h
    rw [Bool.and_eq_true, Bool.not_eq_true', fLt_f] at h
    obtain ⟨a1, a2⟩ := ha h.1
    refine ⟨⟨?_, ?_⟩, h.2⟩
    · show fW C (if _ then _ else _)
      split
      · exact fW_mono hBC o1
      · exact a1
    · show fW C (if _ then _ else _)
      split
      · exact fW_mono hBC o2
      · exact a2
  · intro q; exact absurd q (by decide)
theorem sTb_W {π : zPl} (hv : vRw π) : (∀ w k, w < 2 → k < 7 → slW 5 (sTb π 0 w k)) ∧ (∀ w k, w < 2 → k < 7 → slW 300 (sTb π 1 w k)) ∧ ∀ w k, w < 2 → k < 7 → slW 1080000 (sTb π 2 w k) := by
  have h0 : ∀ w k, w < 2 → k < 7 → slW 5 (sTb π 0 w k) := fun w k a b => sT0_W hv a b
  have h1 : ∀ w k, w < 2 → k < 7 → slW 300 (sTb π 1 w k) := fun w k a b => sNx_W (B := 5) (by decide) (by decide) (by decide) (fun m hm => h0 (1 - w) m (by omega) hm) (h0 w k a b) b
  exact ⟨h0, h1, fun w k a b => sNx_W (B := 300) (by decide) (by decide) (by decide) (fun m hm => h1 (1 - w) m (by omega) hm) (h1 w k a b) b⟩
