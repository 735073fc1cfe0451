-- ===== the abstract machine: state, locals, programs =====
abbrev zSt : Type := List (Nat × Nat) × (Nat → Nat → Int32) × (Nat → Nat → Int64) × (Nat → Nat → Option Nat)
abbrev zLs : Type := List (Option Value)
abbrev zKn : Type := zLs → List Value → zSt → Prop
abbrev zRt : Type := Option Value → zSt → Prop
abbrev zCl : Type := MethodName → List Value → zSt → zRt → Prop
abbrev zOp : Type := zCl → zRt → zKn → (Nat → zKn) → zKn
abbrev zPg : Type := List (Nat × zOp)
noncomputable def zPc (r : zPg) : Nat := List.rec (motive := fun _ => Nat) 0 (fun e _ _ => e.1) r
noncomputable def zDrop (pc : Nat) (p : zPg) : zPg := List.rec (motive := fun _ => zPg) [] (fun e r ih => Bool.rec ih (e :: r) (Nat.beq e.1 pc)) p
noncomputable def zElem (pc : Nat) (p : List Nat) : Bool := List.rec (motive := fun _ => Bool) false (fun e _ ih => Bool.rec ih true (Nat.beq e pc)) p
noncomputable def zM (C : zCl) (Rt : zRt) (A : Nat → zKn) (stops : List Nat) (prog : zPg) (n : Nat) : zPg → zKn :=
  Nat.rec (motive := fun _ => zPg → zKn) (fun r => List.rec (motive := fun _ => zKn) (fun _ _ _ => False) (fun e _ _ => A e.1) r)
    (fun _ ih r => List.rec (motive := fun _ => zKn) (fun _ _ _ => False)
      (fun e r _ => e.2 C Rt
        (fun ls st σ => Bool.rec (ih r ls st σ) (A (zPc r) ls st σ) (zElem (zPc r) stops))
        (fun t ls st σ => Bool.rec (ih (zDrop t prog) ls st σ) (A t ls st σ) (zElem t stops))) r) n
/-- a check that a program decides where the place is a number -/
abbrev zB (b : Bool) (a : Prop) : Prop := Bool.rec (motive := fun _ => Prop) False a b
theorem zB_in {b : Bool} {a : Prop} (h : b = true) (k : a) : zB b a := by subst h; exact k
theorem zB_out {b : Bool} {a : Prop} (h : zB b a) : b = true ∧ a := by cases b with | false => exact h.elim | true => exact ⟨rfl, h⟩
noncomputable def zKd (K : List (Nat × Nat)) (p : Nat) : Nat × Nat := List.rec (motive := fun _ => Nat → Nat × Nat) (fun _ => (99, 0)) (fun e _ ih p => Nat.rec e (fun j _ => ih j) p) K p
noncomputable def zLd (ls : zLs) (i : Nat) (k : Value → Prop) : Prop :=
  List.rec (motive := fun _ => Nat → Prop) (fun _ => False) (fun o _ ih i => Nat.rec (Option.rec False (fun v => k v) o) (fun j _ => ih j) i) ls i
/-- a long that stands there goes -/
def zClr (o : Option Value) (k : Option Value → Prop) : Prop := match o with
  | some (.long _) => k none
  | some (.double _) => k none
  | some (.int x) => k (some (.int x))
  | some (.ref x) => k (some (.ref x))
  | some .null => k (some .null)
  | _ => k none
noncomputable def zS1 (ls : zLs) (i : Nat) (v : Value) (k : zLs → Prop) : Prop :=
  List.rec (motive := fun _ => Nat → (zLs → Prop) → Prop) (fun _ _ => False)
    (fun o r ih i k => Nat.rec (k (some v :: r)) (fun j _ => Nat.rec (zClr o (fun o' => ih 0 (fun r' => k (o' :: r')))) (fun j' _ => ih (j' + 1) (fun r' => k (o :: r'))) j) i) ls i k
noncomputable def zS2 (ls : zLs) (i : Nat) (v : Value) (k : zLs → Prop) : Prop :=
  List.rec (motive := fun _ => Nat → (zLs → Prop) → Prop) (fun _ _ => False)
    (fun o r ih i k => Nat.rec (List.rec False (fun _ r2 _ => k (some v :: none :: r2)) r) (fun j _ => Nat.rec (zClr o (fun o' => ih 0 (fun r' => k (o' :: r')))) (fun j' _ => ih (j' + 1) (fun r' => k (o :: r'))) j) i) ls i k
noncomputable def zPop (n : Nat) : List Value → List Value → (List Value → List Value → Prop) → Prop :=
  Nat.rec (motive := fun _ => List Value → List Value → (List Value → List Value → Prop) → Prop) (fun st acc k => k acc st) (fun _ ih st acc k => List.rec False (fun v r _ => ih r (v :: acc) k) st) n
noncomputable def zWd8 (st : List Value) : Nat := List.rec (motive := fun _ => Nat) 0 (fun v _ ih => Nat.add v.category ih) st
def z_upI (f : Nat → Nat → Int32) (p k : Nat) (v : Int32) : Nat → Nat → Int32 := va_up f p (upd (f p) k v)
def z_upJ (f : Nat → Nat → Int64) (p k : Nat) (v : Int64) : Nat → Nat → Int64 := va_up f p (vp_updL (f p) k v)
def z_upR (f : Nat → Nat → Option Nat) (p k : Nat) (v : Option Nat) : Nat → Nat → Option Nat := va_up f p (va_up (f p) k v)
-- ===== facts of these =====
theorem zKd_eq : ∀ (K : List (Nat × Nat)) (p : Nat), zKd K p = (K[p]?).getD (99, 0)
  | [], _ => rfl
  | _ :: _, 0 => rfl
  | _ :: r, p + 1 => by rw [List.getElem?_cons_succ]; exact zKd_eq r p
theorem zKd_lt {K : List (Nat × Nat)} {p t n : Nat} (h : zKd K p = (t, n)) (ht : t ≠ 99) : p < K.length := by
  rw [zKd_eq] at h
  rcases Nat.lt_or_ge p K.length with q | q
  · exact q
  · rw [List.getElem?_eq_none q] at h
    exact absurd (congrArg Prod.fst h).symm ht
theorem zLd_out : ∀ {ls : zLs} {i : Nat} {k : Value → Prop}, zLd ls i k → ∃ v, ls[i]? = some (some v) ∧ k v
  | [], _, _, h => h.elim
  | none :: _, 0, _, h => h.elim
  | some v :: _, 0, _, h => ⟨v, rfl, h⟩
  | _ :: r, i + 1, k, h => zLd_out (ls := r) (i := i) (k := k) h
theorem zClr_out {o : Option Value} {k : Option Value → Prop} (h : zClr o k) : ∃ o', k o' ∧ ∀ w, o' = some w → o = some w ∧ w.category = 1 := by
  unfold zClr at h
  split at h
  all_goals exact ⟨_, h, fun w hw => by cases hw <;> exact ⟨rfl, rfl⟩⟩
theorem zS1_out : ∀ {ls : zLs} {i : Nat} {v : Value} {k : zLs → Prop}, zS1 ls i v k → ∃ ls', k ls' ∧ (ls'.length = ls.length ∧ i < ls.length) ∧ ∀ (j : Nat) (w : Value), ls'[j]? = some (some w) → (j = i ∧ w = v) ∨ (j ≠ i ∧ ls[j]? = some (some w) ∧ ¬ (j + 1 = i ∧ w.category = 2))
  | [], _, _, _, h => h.elim
  | o :: r, 0, v, k, h => by
    refine ⟨_, h, ⟨rfl, by simp⟩, fun j w hj => ?_⟩
    cases j with
    | zero => left; cases hj; exact ⟨rfl, rfl⟩
    | succ j => right; exact ⟨by omega, hj, by omega⟩
  | o :: r, 1, v, k, h => by
    have h : zClr o (fun o' => zS1 r 0 v (fun r' => k (o' :: r'))) := h
    obtain ⟨o', h, ho⟩ := zClr_out h
    obtain ⟨r', h, hlen, hr⟩ := zS1_out h
    refine ⟨_, h, ⟨by simp [hlen.1], by rw [List.length_cons]; omega⟩, fun j w hj => ?_⟩
    cases j with
    | zero =>
      have hj : some o' = some (some w) := hj
      cases hj
      have h2 := ho w rfl
      right
      exact ⟨by omega, by rw [h2.1]; rfl, fun q => by omega⟩
    | succ j =>
      rcases hr j w hj with q | q
      · left; exact ⟨by omega, q.2⟩
      · right; exact ⟨by omega, q.2.1, by omega⟩
  | o :: r, i + 2, v, k, h => by
    have h : zS1 r (i + 1) v (fun r' => k (o :: r')) := h
    obtain ⟨r', h, hlen, hr⟩ := zS1_out h
    refine ⟨_, h, ⟨by simp [hlen.1], by rw [List.length_cons]; omega⟩, fun j w hj => ?_⟩
    cases j with
    | zero => right; exact ⟨by omega, hj, by omega⟩
    | succ j =>
      rcases hr j w hj with q | q
      · left; exact ⟨by omega, q.2⟩
      · right; exact ⟨by omega, q.2.1, fun z => q.2.2 ⟨by omega, z.2⟩⟩
theorem zS2_out : ∀ {ls : zLs} {i : Nat} {v : Value} {k : zLs → Prop}, zS2 ls i v k → ∃ ls', k ls' ∧ (ls'.length = ls.length ∧ i + 1 < ls.length) ∧ ∀ (j : Nat) (w : Value), ls'[j]? = some (some w) → (j = i ∧ w = v) ∨ (j ≠ i ∧ j ≠ i + 1 ∧ ls[j]? = some (some w) ∧ ¬ (j + 1 = i ∧ w.category = 2))
  | [], _, _, _, h => h.elim
  | [_], 0, _, _, h => h.elim
  | o :: o2 :: r, 0, v, k, h => by
    refine ⟨_, h, ⟨rfl, by simp⟩, fun j w hj => ?_⟩
    match j, hj with
    | 0, hj => left; cases hj; exact ⟨rfl, rfl⟩
    | 1, hj => cases hj
    | j + 2, hj => right; exact ⟨by omega, by omega, hj, by omega⟩
  | o :: r, 1, v, k, h => by
    have h : zClr o (fun o' => zS2 r 0 v (fun r' => k (o' :: r'))) := h
    obtain ⟨o', h, ho⟩ := zClr_out h
    obtain ⟨r', h, hlen, hr⟩ := zS2_out h
    refine ⟨_, h, ⟨by simp [hlen.1], by rw [List.length_cons]; omega⟩, fun j w hj => ?_⟩
    cases j with
    | zero =>
      have hj : some o' = some (some w) := hj
      cases hj
      have h2 := ho w rfl
      right
      exact ⟨by omega, by omega, by rw [h2.1]; rfl, fun q => by omega⟩
    | succ j =>
      rcases hr j w hj with q | q
      · left; exact ⟨by omega, q.2⟩
      · right; exact ⟨by omega, by omega, q.2.2.1, by omega⟩
  | o :: r, i + 2, v, k, h => by
    have h : zS2 r (i + 1) v (fun r' => k (o :: r')) := h
    obtain ⟨r', h, hlen, hr⟩ := zS2_out h
    refine ⟨_, h, ⟨by simp [hlen.1], by rw [List.length_cons]; omega⟩, fun j w hj => ?_⟩
    cases j with
    | zero => right; exact ⟨by omega, by omega, hj, by omega⟩
    | succ j =>
      rcases hr j w hj with q | q
      · left; exact ⟨by omega, q.2⟩
      · right; exact ⟨by omega, by omega, q.2.2.1, fun z => q.2.2.2 ⟨by omega, z.2⟩⟩
theorem zPop_out : ∀ {n : Nat} {st acc : List Value} {k : List Value → List Value → Prop}, zPop n st acc k → ∃ as r, st = as.reverse ++ r ∧ as.length = n ∧ k (as ++ acc) r
  | 0, st, acc, k, h => ⟨[], st, rfl, rfl, h⟩
  | n + 1, [], acc, k, h => h.elim
  | n + 1, v :: st, acc, k, h => by
    have h : zPop n st (v :: acc) k := h
    obtain ⟨as, r, e1, e2, h⟩ := zPop_out h
    refine ⟨as ++ [v], r, ?_, by rw [List.length_append, e2]; rfl, ?_⟩
    · rw [e1, List.reverse_append]; rfl
    · rw [List.append_assoc]; exact h
theorem zWd8_eq : ∀ st : List Value, zWd8 st = (st.map fun v => v.category).sum
  | [] => rfl
  | v :: r => by
    rw [List.map_cons, List.sum_cons, ← zWd8_eq r]; rfl
