-- ===== the most of fractions, in whatever order =====
def ofr (o : Option zFr) (f : zFr) : Option zFr := match o with
  | none => some f
  | some g => if fLt g f then some f else some g
def mxL (L : List zFr) : Option zFr := L.foldl ofr none
def isMx (P : zFr → Prop) (o : Option zFr) : Prop := match o with
  | none => ∀ f, ¬ P f
  | some g => P g ∧ ∀ f, P f → fLt g f = false
theorem ofr_mx {P : zFr → Prop} {o : Option zFr} {f : zFr} (hP : ∀ x, P x → isR x) (hf : isR f) (h : isMx P o) : isMx (fun x => P x ∨ x = f) (ofr o f) := by
  cases o with
  | none =>
    refine ⟨Or.inr rfl, fun x hx => ?_⟩
    rcases hx with hx | hx
    · exact absurd hx (h x)
    · rw [hx, fLt_f]; exact Int.le_refl _
  | some g =>
    obtain ⟨h1, h2⟩ := h
    have pg := (hP g h1).1
    have pf := hf.1
    show isMx _ (if fLt g f then some f else some g)
    by_cases c : fLt g f = true
    · rw [if_pos c]
      refine ⟨Or.inr rfl, fun x hx => ?_⟩
      rcases hx with hx | hx
      · have px := (hP x hx).1
        have k := h2 x hx
        rw [fLt_f] at k ⊢
        rw [fLt_t] at c
        exact Int.le_of_lt (f_le_lt px pg pf k c)
      · rw [hx, fLt_f]; exact Int.le_refl _
    · rw [if_neg c]
      refine ⟨Or.inl h1, fun x hx => ?_⟩
      rcases hx with hx | hx
      · exact h2 x hx
      · rw [hx]; exact Bool.eq_false_iff.mpr c
theorem mxL_go : ∀ (L : List zFr) (o : Option zFr) (P : zFr → Prop), (∀ x, P x → isR x) → (∀ x, x ∈ L → isR x) → isMx P o → isMx (fun x => P x ∨ x ∈ L) (L.foldl ofr o)
  | [], o, P, _, _, h => by
    have e : (fun x => P x ∨ x ∈ ([] : List zFr)) = P := funext fun x => propext ⟨fun q => q.elim id (fun q => absurd q List.not_mem_nil), Or.inl⟩
    rw [e]; exact h
  | f :: L, o, P, hP, hL, h => by
    have hf := hL f (List.mem_cons_self)
    have k := mxL_go L (ofr o f) (fun x => P x ∨ x = f) (fun x hx => hx.elim (hP x) (fun q => by rw [q]; exact hf)) (fun x hx => hL x (List.mem_cons_of_mem _ hx)) (ofr_mx hP hf h)
    have e : (fun x => P x ∨ x ∈ f :: L) = (fun x => (P x ∨ x = f) ∨ x ∈ L) := funext fun x => propext (by rw [List.mem_cons]; exact or_assoc.symm)
    rw [e]; exact k
theorem mxL_mx {L : List zFr} (hL : ∀ x, x ∈ L → isR x) : isMx (fun x => x ∈ L) (mxL L) := by
  have k := mxL_go L none (fun _ => False) (fun _ q => q.elim) hL (fun _ q => q)
  have e : (fun x => False ∨ x ∈ L) = (fun x => x ∈ L) := funext fun x => propext ⟨fun q => q.elim False.elim id, Or.inr⟩
  rw [e] at k; exact k
theorem isMx_uniq {P : zFr → Prop} (hP : ∀ x, P x → isR x) {o p : Option zFr} (h1 : isMx P o) (h2 : isMx P p) : o = p := by
  cases o with
  | none => cases p with
    | none => rfl
    | some g => exact absurd h2.1 (h1 g)
  | some f => cases p with
    | none => exact absurd h1.1 (h2 f)
    | some g =>
      have a := h1.2 g h2.1
      have b := h2.2 f h1.1
      rw [fLt_f] at a b
      rw [isR_uniq (hP f h1.1) (hP g h2.1) (Int.le_antisymm b a)]
theorem mxL_same {L M : List zFr} (hL : ∀ x, x ∈ L → isR x) (h : ∀ x, x ∈ L ↔ x ∈ M) : mxL L = mxL M := by
  have e : (fun x => x ∈ M) = (fun x => x ∈ L) := funext fun x => propext (h x).symm
  have k := mxL_mx (L := M) (fun x hx => hL x ((h x).mpr hx))
  rw [e] at k
  exact isMx_uniq hL (mxL_mx hL) k
theorem mxL_in {L : List zFr} (hL : ∀ x, x ∈ L → isR x) {g : zFr} (h : mxL L = some g) : g ∈ L := by
  have k := mxL_mx hL
  rw [h] at k
  exact k.1
theorem mxL_some {L : List zFr} (hL : ∀ x, x ∈ L → isR x) {f : zFr} (h : f ∈ L) : ∃ g, mxL L = some g := by
  have k := mxL_mx hL
  cases c : mxL L with
  | none => rw [c] at k; exact absurd h (k f)
  | some g => exact ⟨g, rfl⟩
theorem mxL_push (L : List zFr) (f : zFr) : mxL (L ++ [f]) = ofr (mxL L) f := by unfold mxL; rw [List.foldl_append]; rfl
-- ===== the first that blocks =====
theorem z_argmin {S g : Nat → Int} : ∀ n, (∃ k, k < n ∧ 0 < g k) → (∀ m, m < n → 0 ≤ S m) → ∃ k, k < n ∧ 0 < g k ∧ ∀ m, m < n → S k * g m ≤ S m * g k
  | 0, h, _ => by obtain ⟨k, h, _⟩ := h; omega
  | n + 1, h, hS => by
    have sg : ∀ k m, k < n + 1 → m < n + 1 → 0 < g k → g m ≤ 0 → S k * g m ≤ S m * g k := by
      intro k m a b c d
      have x := Int.mul_nonpos_of_nonneg_of_nonpos (hS k a) d
      have y := Int.mul_nonneg (hS m b) (Int.le_of_lt c)
      omega
    by_cases c : ∃ k, k < n ∧ 0 < g k
    · obtain ⟨k, k1, k2, k3⟩ := z_argmin n c (fun m hm => hS m (by omega))
      by_cases d : S k * g n ≤ S n * g k
      · refine ⟨k, by omega, k2, fun m hm => ?_⟩
        rcases (show m < n ∨ m = n by omega) with z | z
        · exact k3 m z
        · rw [z]; exact d
      · have gn : 0 < g n := by
          rcases Int.lt_or_le 0 (g n) with z | z
          · exact z
          · exact absurd (sg k n (by omega) (by omega) k2 z) d
        refine ⟨n, by omega, gn, fun m hm => ?_⟩
        rcases (show m < n ∨ m = n by omega) with z | z
        · rcases Int.lt_or_le 0 (g m) with y | y
          · have a := Int.mul_le_mul_of_nonneg_right (k3 m z) (Int.le_of_lt gn)
            have b := Int.mul_le_mul_of_nonneg_right (Int.le_of_lt (Int.not_le.mp d)) (Int.le_of_lt y)
            refine Int.le_of_mul_le_mul_right (a := g k) ?_ k2
            have e1 : S n * g m * g k = S n * g k * g m := by grind
            have e2 : S m * g n * g k = S m * g k * g n := by grind
            have e3 : S k * g n * g m = S k * g m * g n := by grind
            omega
          · exact sg n m (by omega) (by omega) gn y
        · rw [z]; exact Int.le_refl _
    · obtain ⟨k, k1, k2⟩ := h
      have e : k = n := by
        rcases (show k < n ∨ k = n by omega) with z | z
        · exact absurd ⟨k, z, k2⟩ c
        · exact z
      subst e
      refine ⟨k, by omega, k2, fun m hm => ?_⟩
      rcases (show m < k ∨ m = k by omega) with z | z
      · exact sg k m (by omega) (by omega) k2 (by
          rcases Int.lt_or_le 0 (g m) with y | y
          · exact absurd ⟨m, z, y⟩ c
          · exact y)
      · rw [z]; exact Int.le_refl _
theorem zAllF_t (c : Nat → Bool) : ∀ n k, zAllF c k n = true ↔ ∀ m, k ≤ m → m < k + n → c m = true
  | 0, k => ⟨fun _ m a b => by omega, fun _ => rfl⟩
  | n + 1, k => by
    show (c k && zAllF c (k + 1) n) = true ↔ _
    rw [Bool.and_eq_true, zAllF_t c n (k + 1)]
    refine ⟨fun h m a b => ?_, fun h => ⟨h k (by omega) (by omega), fun m a b => h m (by omega) (by omega)⟩⟩
    rcases (show m = k ∨ k + 1 ≤ m by omega) with z | z
    · rw [z]; exact h.1
    · exact h.2 m z (by omega)
-- ===== corners =====
def rI (π : zPl) (i w : Nat) : Int := (pR π i w).toInt
def kD (π : zPl) (i j : Nat) : Int := rI π i 0 * rI π j 1 - rI π j 0 * rI π i 1
def kX (π : zPl) (i j : Nat) : Int := rI π i 2 * rI π j 1 - rI π j 2 * rI π i 1
def kY (π : zPl) (i j : Nat) : Int := rI π i 0 * rI π j 2 - rI π j 0 * rI π i 2
def kS (d : Int) : Int := if d < 0 then -1 else 1
def kHm (π : zPl) (x y d : Int) (m : Nat) : Bool := decide (rI π m 0 * x + rI π m 1 * y ≤ rI π m 2 * d)
def kHs (π : zPl) (x y d : Int) : Bool := zAllF (kHm π x y d) 0 (π.1 + 4)
def kHq (π : zPl) (x y d : Int) : Bool := decide (d ≠ 0) && kHs π (kS d * x) (kS d * y) (kS d * d)
def kH (π : zPl) (i j : Nat) : Bool := kHq π (kX π i j) (kY π i j) (kD π i j)
def kF (π : zPl) (a b : Int) (i j : Nat) : zFr := fRed (a * kX π i j + b * kY π i j) (kD π i j)
def kL (π : zPl) (a b : Int) (i j : Nat) : List zFr := if kH π i j then [kF π a b i j] else []
theorem k_neg (π : zPl) (i j : Nat) : kD π j i = -kD π i j ∧ kX π j i = -kX π i j ∧ kY π j i = -kY π i j := by
  unfold kD kX kY
  refine ⟨by omega, by omega, by omega⟩
theorem kS_neg {d : Int} (h : d ≠ 0) : kS (-d) = -kS d := by
  unfold kS
  by_cases c : d < 0
  · rw [if_pos c, if_neg (by omega)]; rfl
  · rw [if_neg c, if_pos (by omega)]
theorem kHq_neg (π : zPl) (x y d : Int) : kHq π (-x) (-y) (-d) = kHq π x y d := by
  unfold kHq
  by_cases h : d = 0
  · rw [h]; rfl
  · have e1 : decide (-d ≠ 0) = true := decide_eq_true (by omega)
    have e2 : decide (d ≠ 0) = true := decide_eq_true h
    rw [e1, e2, kS_neg h, Int.neg_mul_neg, Int.neg_mul_neg, Int.neg_mul_neg]
theorem kHq_0 (π : zPl) (x y : Int) : kHq π x y 0 = false := by
  unfold kHq
  have e1 : decide ((0 : Int) ≠ 0) = false := decide_eq_false (fun q => q rfl)
  rw [e1, Bool.false_and]
theorem kF_neg {x y d : Int} (h : d ≠ 0) (a b : Int) : fRed (a * -x + b * -y) (-d) = fRed (a * x + b * y) d := by
  rw [Int.mul_neg, Int.mul_neg, ← Int.neg_add]
  exact fRed_neg h
theorem kL_sym (π : zPl) (a b : Int) (i j : Nat) : kL π a b j i = kL π a b i j := by
  obtain ⟨e1, e2, e3⟩ := k_neg π i j
  unfold kL kH kF
  rw [e1, e2, e3, kHq_neg]
  by_cases d : kD π i j = 0
  · rw [d, kHq_0, if_neg (by decide), if_neg (by decide)]
  · rw [kF_neg d]
/-- the class: all j below i -/
def kC (π : zPl) (a b : Int) (i : Nat) : Nat → List zFr
  | 0 => []
  | j + 1 => kC π a b i j ++ kL π a b i j
def kCo (π : zPl) (a b : Int) : Nat → List zFr
  | 0 => []
  | i + 1 => kCo π a b i ++ kC π a b i i
/-- the model: all j above i -/
def kM (π : zPl) (a b : Int) (i : Nat) : Nat → List zFr
  | 0 => []
  | r + 1 => kM π a b i r ++ kL π a b i (i + 1 + r)
def kMo (π : zPl) (a b : Int) (n : Nat) : Nat → List zFr
  | 0 => []
  | i + 1 => kMo π a b n i ++ kM π a b i (n - (i + 1))
theorem kC_m {π : zPl} {a b : Int} {i : Nat} {f : zFr} : ∀ n, f ∈ kC π a b i n ↔ ∃ j, j < n ∧ f ∈ kL π a b i j
  | 0 => ⟨fun h => absurd h List.not_mem_nil, fun ⟨_, h, _⟩ => by omega⟩
  | n + 1 => by
    show f ∈ _ ++ _ ↔ _
    rw [List.mem_append, kC_m n]
    constructor
    · rintro (⟨j, h1, h2⟩ | h)
      · exact ⟨j, by omega, h2⟩
      · exact ⟨n, by omega, h⟩
    · rintro ⟨j, h1, h2⟩
      rcases (show j < n ∨ j = n by omega) with z | z
      · exact Or.inl ⟨j, z, h2⟩
      · rw [z] at h2; exact Or.inr h2
theorem kCo_m {π : zPl} {a b : Int} {f : zFr} : ∀ n, f ∈ kCo π a b n ↔ ∃ i j, j < i ∧ i < n ∧ f ∈ kL π a b i j
  | 0 => ⟨fun h => absurd h List.not_mem_nil, fun ⟨_, _, _, h, _⟩ => by omega⟩
  | n + 1 => by
    show f ∈ _ ++ _ ↔ _
    rw [List.mem_append, kCo_m n, kC_m]
    constructor
    · rintro (⟨i, j, h1, h2, h3⟩ | ⟨j, h1, h2⟩)
      · exact ⟨i, j, h1, by omega, h3⟩
      · exact ⟨n, j, h1, by omega, h2⟩
    · rintro ⟨i, j, h1, h2, h3⟩
      rcases (show i < n ∨ i = n by omega) with z | z
      · exact Or.inl ⟨i, j, h1, z, h3⟩
      · rw [z] at h1 h3; exact Or.inr ⟨j, h1, h3⟩
theorem kM_m {π : zPl} {a b : Int} {i : Nat} {f : zFr} : ∀ n, f ∈ kM π a b i n ↔ ∃ j, i < j ∧ j < i + 1 + n ∧ f ∈ kL π a b i j
  | 0 => ⟨fun h => absurd h List.not_mem_nil, fun ⟨_, h, k, _⟩ => by omega⟩
  | n + 1 => by
    show f ∈ _ ++ _ ↔ _
    rw [List.mem_append, kM_m n]
    constructor
    · rintro (⟨j, h1, h2, h3⟩ | h)
      · exact ⟨j, h1, by omega, h3⟩
      · exact ⟨i + 1 + n, by omega, by omega, h⟩
    · rintro ⟨j, h1, h2, h3⟩
      rcases (show j < i + 1 + n ∨ j = i + 1 + n by omega) with z | z
      · exact Or.inl ⟨j, h1, z, h3⟩
      · rw [z] at h3; exact Or.inr h3
theorem kMo_m {π : zPl} {a b : Int} {N : Nat} {f : zFr} : ∀ n, n ≤ N → (f ∈ kMo π a b N n ↔ ∃ i j, i < j ∧ j < N ∧ i < n ∧ f ∈ kL π a b i j)
  | 0, _ => ⟨fun h => absurd h List.not_mem_nil, fun ⟨_, _, _, _, h, _⟩ => by omega⟩
  | n + 1, hn => by
    show f ∈ _ ++ _ ↔ _
    rw [List.mem_append, kMo_m n (by omega), kM_m]
    constructor
    · rintro (⟨i, j, h1, h2, h3, h4⟩ | ⟨j, h1, h2, h3⟩)
      · exact ⟨i, j, h1, h2, by omega, h4⟩
      · exact ⟨n, j, h1, by omega, by omega, h3⟩
    · rintro ⟨i, j, h1, h2, h3, h4⟩
      rcases (show i < n ∨ i = n by omega) with z | z
      · exact Or.inl ⟨i, j, h1, h2, z, h4⟩
      · rw [z] at h1 h4; exact Or.inr ⟨j, h1, by omega, h4⟩
theorem kL_1 {π : zPl} {a b : Int} {i j : Nat} {f : zFr} (h : f ∈ kL π a b i j) : kH π i j = true ∧ kD π i j ≠ 0 ∧ f = kF π a b i j := by
  unfold kL at h
  split at h
  · rename_i c
    have d := c
    unfold kH kHq at d
    rw [Bool.and_eq_true, decide_eq_true_eq] at d
    rw [List.mem_singleton] at h
    exact ⟨c, d.1, h⟩
  · exact absurd h List.not_mem_nil
theorem kL_R {π : zPl} {a b : Int} {i j : Nat} {f : zFr} (h : f ∈ kL π a b i j) : isR f := by
  obtain ⟨_, d, rfl⟩ := kL_1 h
  exact fRed_R d
def mx0 (π : zPl) (a b : Int) : Option zFr := mxL (kMo π a b (π.1 + 4) (π.1 + 4))
theorem kCo_R {π : zPl} {a b : Int} {n : Nat} : ∀ x, x ∈ kCo π a b n → isR x := by
  intro x hx
  obtain ⟨i, j, _, _, h⟩ := (kCo_m n).mp hx
  exact kL_R h
theorem kCo_mx (π : zPl) (a b : Int) : mxL (kCo π a b (π.1 + 4)) = mx0 π a b := by
  refine mxL_same kCo_R (fun x => ?_)
  rw [kCo_m, kMo_m _ (Nat.le_refl _)]
  constructor
  · rintro ⟨i, j, h1, h2, h3⟩
    exact ⟨j, i, h1, h2, by omega, by rw [kL_sym]; exact h3⟩
  · rintro ⟨i, j, h1, h2, h3, h4⟩
    exact ⟨j, i, h1, h2, by rw [kL_sym]; exact h4⟩
theorem zAllF_c {c d : Nat → Bool} : ∀ n k, (∀ m, k ≤ m → m < k + n → c m = d m) → zAllF c k n = zAllF d k n
  | 0, _, _ => rfl
  | n + 1, k, h => by
    show (c k && zAllF c (k + 1) n) = (d k && zAllF d (k + 1) n)
    rw [h k (by omega) (by omega), zAllF_c n (k + 1) (fun m a b => h m (by omega) (by omega))]
theorem nI_m1 {k : Nat} (hk : k < 100) : ¬ nI k = -1 := by
  intro q
  have e := nI_toInt (n := k) (by omega)
  rw [q] at e
  have : (-1 : Int32).toInt = -1 := by decide
  omega
theorem zHd_k {π : zPl} (hv : vRw π) {x y d : Int} (bx : x.natAbs ≤ 1000000) (bY : y.natAbs ≤ 1000000) (bd : d.natAbs ≤ 1000000) {X Y D : Int32} (eX : X = Int32.ofInt x) (eY : Y = Int32.ofInt y) (eD : D = Int32.ofInt d) : zHd π X Y D (-1) = kHs π x y d := by
  have h6 := hv.1
  refine zAllF_c _ _ (fun m _ hm => ?_)
  obtain ⟨b0, b1, b2⟩ := pR_bd hv (k := m) (by omega)
  have m0 := bd_mul b0 bx
  have m1 := bd_mul b1 bY
  have m2 := bd_mul b2 bd
  have m3 := bd_add m0 m1
  unfold zCn kHm rI
  rw [decide_eq_false (nI_m1 (show m < 100 by omega)), Bool.false_or]
  have e1 : pR π m 0 * X + pR π m 1 * Y = Int32.ofInt ((pR π m 0).toInt * x + (pR π m 1).toInt * y) := by
    rw [Int32.ofInt_add, Int32.ofInt_mul, Int32.ofInt_mul, ← i_of, ← i_of, eX, eY]
  have e2 : pR π m 2 * D = Int32.ofInt ((pR π m 2).toInt * d) := by rw [Int32.ofInt_mul, ← i_of, eD]
  rw [e1, e2]
  exact decide_eq_decide.mpr (iI_le (by omega) (by omega))
theorem kHs_t {π : zPl} {x y d : Int} : kHs π x y d = true ↔ ∀ m, m < π.1 + 4 → rI π m 0 * x + rI π m 1 * y ≤ rI π m 2 * d := by
  unfold kHs
  rw [zAllF_t]
  constructor
  · intro h m hm
    have := h m (by omega) (by omega)
    unfold kHm at this
    rw [decide_eq_true_eq] at this
    exact this
  · intro h m _ hm
    unfold kHm
    rw [decide_eq_true_eq]
    exact h m (by omega)
theorem rI_box (π : zPl) {j w : Nat} : rI π (π.1 + j) w = (zBx (3 * j + w)).toInt := by
  unfold rI pR
  rw [if_neg (by omega), show 3 * (π.1 + j - π.1) + w = 3 * j + w by omega]
theorem zHd_1 {π : zPl} (hv : vRw π) {x y : Nat} (hx : x < 7) (hy : y < 7) (h : zHd π (nI x) (nI y) 1 (-1) = true) : ∀ m, m < π.1 + 4 → rI π m 0 * x + rI π m 1 * y ≤ rI π m 2 := by
  have k := zHd_k hv (x := x) (y := y) (d := 1) (X := nI x) (Y := nI y) (D := 1) (by omega) (by omega) (by omega) rfl rfl rfl
  rw [h] at k
  intro m hm
  have := kHs_t.mp k.symm m hm
  rw [Int.mul_one] at this
  exact this
/-- where there is a point there is a corner -/
theorem k_ex {π : zPl} (hv : vRw π) {x y : Nat} (hx : x < 7) (hy : y < 7) (h : zHd π (nI x) (nI y) 1 (-1) = true) : ∃ i j, i < π.1 + 4 ∧ j < π.1 + 4 ∧ i ≠ j ∧ kH π i j = true := by
  have hp := zHd_1 hv hx hy h
  have r30 : rI π (π.1 + 3) 1 = 1 := by rw [rI_box]; decide
  have r10 : rI π (π.1 + 1) 0 = 1 := by rw [rI_box]; decide
  have r11 : rI π (π.1 + 1) 1 = 0 := by rw [rI_box]; decide
  obtain ⟨i, i1, i2, i3⟩ := z_argmin (S := fun m => rI π m 2 - (rI π m 0 * x + rI π m 1 * y)) (g := fun m => rI π m 1) (π.1 + 4) ⟨π.1 + 3, by omega, by show 0 < rI π (π.1 + 3) 1; rw [r30]; decide⟩ (fun m hm => by have := hp m hm; show 0 ≤ rI π m 2 - (rI π m 0 * x + rI π m 1 * y); omega)
  have i2 : 0 < rI π i 1 := i2
  obtain ⟨k, k1, k2, k3⟩ := z_argmin (S := fun m => rI π i 1 * (rI π m 2 - (rI π m 0 * x + rI π m 1 * y)) - rI π m 1 * (rI π i 2 - (rI π i 0 * x + rI π i 1 * y))) (g := fun m => rI π m 0 * rI π i 1 - rI π m 1 * rI π i 0) (π.1 + 4) ⟨π.1 + 1, by omega, by show 0 < rI π (π.1 + 1) 0 * rI π i 1 - rI π (π.1 + 1) 1 * rI π i 0; rw [r10, r11]; omega⟩ (fun m hm => by
    have := i3 m hm
    show 0 ≤ rI π i 1 * (rI π m 2 - (rI π m 0 * x + rI π m 1 * y)) - rI π m 1 * (rI π i 2 - (rI π i 0 * x + rI π i 1 * y))
    have this : (rI π i 2 - (rI π i 0 * x + rI π i 1 * y)) * rI π m 1 ≤ (rI π m 2 - (rI π m 0 * x + rI π m 1 * y)) * rI π i 1 := this
    have e1 := Int.mul_comm (rI π i 1) (rI π m 2 - (rI π m 0 * x + rI π m 1 * y))
    have e2 := Int.mul_comm (rI π m 1) (rI π i 2 - (rI π i 0 * x + rI π i 1 * y))
    rw [e1, e2]
    omega)
  have k2 : 0 < rI π k 0 * rI π i 1 - rI π k 1 * rI π i 0 := k2
  have eD : kD π k i = rI π k 0 * rI π i 1 - rI π k 1 * rI π i 0 := by unfold kD; rw [Int.mul_comm (rI π i 0)]
  refine ⟨k, i, k1, i1, ?_, ?_⟩
  · rintro rfl
    rw [Int.mul_comm] at k2
    omega
  · unfold kH kHq
    have e1 : kS (kD π k i) = 1 := by unfold kS; rw [if_neg (by omega)]
    rw [e1, decide_eq_true (show kD π k i ≠ 0 by omega), Bool.true_and, Int.one_mul, Int.one_mul, Int.one_mul, kHs_t]
    intro m hm
    have q := k3 m hm
    rw [eD]
    unfold kX kY
    generalize rI π k 0 = a1 at *
    generalize rI π k 1 = b1 at *
    generalize rI π k 2 = c1 at *
    generalize rI π i 0 = a2 at *
    generalize rI π i 1 = b2 at *
    generalize rI π i 2 = c2 at *
    generalize rI π m 0 = a3 at *
    generalize rI π m 1 = b3 at *
    generalize rI π m 2 = c3 at *
    have id1 : b2 * (c3 * (a1 * b2 - b1 * a2) - (a3 * (c1 * b2 - c2 * b1) + b3 * (a1 * c2 - a2 * c1))) = (b2 * (c3 - (a3 * x + b3 * y)) - b3 * (c2 - (a2 * x + b2 * y))) * (a1 * b2 - b1 * a2) - (b2 * (c1 - (a1 * x + b1 * y)) - b1 * (c2 - (a2 * x + b2 * y))) * (a3 * b2 - b3 * a2) := by grind
    have nn : 0 ≤ b2 * (c3 * (a1 * b2 - b1 * a2) - (a3 * (c1 * b2 - c2 * b1) + b3 * (a1 * c2 - a2 * c1))) := by rw [id1]; omega
    have := Int.nonneg_of_mul_nonneg_right nn i2
    omega
theorem mx0_ex {π : zPl} (hv : vRw π) {x y : Nat} (hx : x < 7) (hy : y < 7) (h : zHd π (nI x) (nI y) 1 (-1) = true) (a b : Int) : ∃ g, mx0 π a b = some g := by
  obtain ⟨i, j, hi, hj, hn, hh⟩ := k_ex hv hx hy h
  have m1 : kF π a b i j ∈ kL π a b i j := by unfold kL; rw [if_pos hh]; exact List.mem_singleton.mpr rfl
  rw [← kCo_mx]
  rcases Nat.lt_or_gt_of_ne hn with z | z
  · exact mxL_some kCo_R ((kCo_m _).mpr ⟨j, i, z, hj, by rw [kL_sym]; exact m1⟩)
  · exact mxL_some kCo_R ((kCo_m _).mpr ⟨i, j, z, hi, m1⟩)
/-- where there is a point the slice is there -/
theorem nwF_pt {π : zPl} (hv : vRw π) {w k o : Nat} (hw : w < 2) (hk : k < 7) (ho : o < 7) (h : ∀ m, m < π.1 + 4 → rI π m w * k + rI π m (1 - w) * o ≤ rI π m 2) : ∀ i, i ≤ π.1 + 4 → (nwF π w k i).1 = true ∧ (nwF π w k i).2.1.1 ≤ o * (nwF π w k i).2.1.2 ∧ o * (nwF π w k i).2.2.2 ≤ (nwF π w k i).2.2.1
  | 0, _ => by
    refine ⟨rfl, ?_, ?_⟩
    · show (0 : Int) ≤ o * 1; omega
    · show (o : Int) * 1 ≤ 6; omega
  | i + 1, hi => by
    obtain ⟨h1, h2, h3⟩ := nwF_pt hv hw hk ho h i (by omega)
    have hr := h i (by omega)
    have hr : (pR π i (1 - w)).toInt * o ≤ zRs π w k i := by
      unfold zRs
      have hr : (pR π i w).toInt * k + (pR π i (1 - w)).toInt * o ≤ (pR π i 2).toInt := hr
      omega
    have e0 : nwF π w k (i + 1) = nw (nwF π w k i) (pR π i (1 - w)).toInt (zRs π w k i) := rfl
    rw [e0]
    unfold nw
    generalize (pR π i (1 - w)).toInt = a at *
    generalize zRs π w k i = q at *
    generalize nwF π w k i = st at *
    refine ⟨?_, ?_, ?_⟩
    · show (st.1 && decide (a ≠ 0 ∨ 0 ≤ q)) = true
      rw [h1, Bool.true_and, decide_eq_true_eq]
      rcases Int.lt_or_le q 0 with z | z
      · left; intro e; rw [e] at hr; omega
      · exact Or.inr z
    · show (nwL st.2.1 a q).1 ≤ o * (nwL st.2.1 a q).2
      unfold nwL
      split
      · rename_i c
        obtain ⟨s0, s1, s2, s3, s4, s5⟩ := fS_f (a := q) (show a ≠ 0 by omega)
        have sn := s4 c.1
        rcases Int.lt_or_le (o * (fRed q a).2) (fRed q a).1 with z | z
        · exfalso
          have m := Int.mul_lt_mul_of_neg_left z sn
          have e : fS q a * (o * (fRed q a).2) = fS q a * (fRed q a).2 * o := by grind
          rw [e, s1, s2] at m
          omega
        · exact z
      · exact h2
    · show o * (nwH st.2.2 a q).2 ≤ (nwH st.2.2 a q).1
      unfold nwH
      split
      · rename_i c
        obtain ⟨s0, s1, s2, s3, s4, s5⟩ := fS_f (a := q) (show a ≠ 0 by omega)
        have sp := s3 c.1
        rcases Int.lt_or_le (fRed q a).1 (o * (fRed q a).2) with z | z
        · exfalso
          have m := Int.mul_lt_mul_of_pos_left z sp
          have e : fS q a * (o * (fRed q a).2) = fS q a * (fRed q a).2 * o := by grind
          rw [e, s1, s2] at m
          omega
        · exact z
      · exact h3
theorem sT0_pt {π : zPl} (hv : vRw π) {w k o : Nat} (hw : w < 2) (hk : k < 7) (ho : o < 7) (h : ∀ m, m < π.1 + 4 → rI π m w * k + rI π m (1 - w) * o ≤ rI π m 2) : (sT0 π w k).1 = true := by
  obtain ⟨h1, h2, h3⟩ := nwF_pt hv hw hk ho h (π.1 + 4) (Nat.le_refl _)
  obtain ⟨⟨r1, r2⟩, _⟩ := inv0_F hv hw hk (π.1 + 4) (Nat.le_refl _)
  show (clo (nwF π w k (π.1 + 4))).1 = true
  generalize nwF π w k (π.1 + 4) = st at *
  show (st.1 && !fLt st.2.2 st.2.1) = true
  have e : fLt st.2.2 st.2.1 = false := by
    rw [fLt_f]
    have a := Int.mul_le_mul_of_nonneg_right h2 (Int.le_of_lt r2.1)
    have b := Int.mul_le_mul_of_nonneg_right h3 (Int.le_of_lt r1.1)
    have c : (o : Int) * st.2.1.2 * st.2.2.2 = o * st.2.2.2 * st.2.1.2 := by grind
    omega
  rw [h1, e]; rfl
