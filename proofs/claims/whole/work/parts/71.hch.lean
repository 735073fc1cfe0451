-- ===== the whole round =====
def ajc (R : Nat → Nat → Prop) : List Nat → Prop
  | b :: a :: r => R a b ∧ ajc R (a :: r)
  | _ => True
theorem ajc_join {R : Nat → Nat → Prop} {m : Nat} {L : List Nat} (hL : ajc R (m :: L)) : ∀ U, ajc R (U ++ [m]) → ajc R (U ++ m :: L)
  | [], _ => hL
  | [b], h => ⟨h.1, hL⟩
  | b :: a :: U, h => ⟨h.1, ajc_join hL (a :: U) h.2⟩
theorem ajc_map {R R' : Nat → Nat → Prop} {f : Nat → Nat} (hR : ∀ a b, R a b → R' (f a) (f b)) : ∀ T, ajc R T → ajc R' (T.map f)
  | [], _ => trivial
  | [_], _ => trivial
  | b :: a :: T, h => ⟨hR a b h.1, ajc_map hR (a :: T) h.2⟩
theorem ajc_get {R : Nat → Nat → Prop} : ∀ (H : List Nat) (x : Nat), ajc R (x :: H) → ∀ i, i < H.length → R (H.getD i 0) ((x :: H).getD i 0)
  | [], x, _, i, hi => by simp at hi
  | a :: H, x, h, 0, _ => h.1
  | a :: H, x, h, i + 1, hi => by
    have k := ajc_get H a h.2 i (by simpa using hi)
    exact k
theorem hOk_aj {p : Nat → zVc} {n : Nat} (hp : hLx p n) {t : Nat} {s : List Nat} (h : hOk p (t :: s)) (hn : t + 1 = n) : ∀ (suf hi : List Nat), hi ++ suf = t :: s → hOk p suf → ajc (hSt p n) suf
  | [], _, _, _ => trivial
  | [_], _, _, _ => trivial
  | b :: a :: lo, hi, e, hs => ⟨hOk_st hp e h hn hs, hOk_aj hp h hn (a :: lo) (hi ++ [b]) (by rw [List.append_assoc]; exact e) hs.2.2.2⟩
theorem hOk_lt {p : Nat → zVc} : ∀ (s : List Nat) (t : Nat), hOk p (t :: s) → ∀ x, x ∈ s → x < t
  | [], _, _, x, hx => absurd hx List.not_mem_nil
  | a :: s, t, h, x, hx => by
    rcases List.mem_cons.mp hx with e | hx
    · rw [e]; exact h.1
    · have := hOk_lt s a h.2.2.2 x hx
      have := h.1
      omega
theorem hOk_last {p : Nat → zVc} : ∀ (s : List Nat) (t : Nat), hOk p (t :: s) → ∃ U, t :: s = U ++ [0] ∧ ∀ x, x ∈ U → 0 < x
  | [], t, h => ⟨[], by have h : t = 0 := h; rw [h]; rfl, fun x hx => absurd hx List.not_mem_nil⟩
  | a :: s, t, h => by
    obtain ⟨U, e, hU⟩ := hOk_last s a h.2.2.2
    refine ⟨t :: U, by rw [e]; rfl, fun x hx => ?_⟩
    rcases List.mem_cons.mp hx with q | hx
    · rw [q]; have := h.1; omega
    · exact hU x hx
/-- not many: x grows -/
theorem hOk_len {p : Nat → zVc} {n : Nat} (hp : hLx p n) {m : Int} (hm : ∀ i, i < n → m ≤ (p i).1 ∧ (p i).1 ≤ m + 6) : ∀ (r : List Nat) (a b : Nat), b < n → hOk p (b :: a :: r) → ((a :: r).length : Int) ≤ (p a).1 - m + 1
  | [], a, b, hb, h => by
    have := hm a (by have := h.1; omega)
    show (1 : Int) ≤ _
    omega
  | c :: r, a, b, hb, h => by
    obtain ⟨h1, h2, h3, h4⟩ := h
    have ih := hOk_len hp hm r c a (by omega) h4
    have k := h3 c rfl
    rw [tr_up] at k
    have lu := hp c a h4.1 (by omega)
    have lv := hp a b h1 hb
    have x : (p c).1 < (p a).1 := by
      rcases lu with z | ⟨z, y⟩
      · have z : 0 < (p a).1 - (p c).1 := z; omega
      · exfalso
        have v0 : 0 ≤ (vsb (p a) (p b)).1 := by rcases lv with q | q <;> omega
        have e : crs (vsb (p c) (p a)) (vsb (p a) (p b)) = -((vsb (p c) (p a)).2 * (vsb (p a) (p b)).1) := by
          show (vsb (p c) (p a)).1 * _ - _ = _
          rw [z, Int.zero_mul, Int.zero_sub]
        have := Int.mul_nonneg (Int.le_of_lt y) v0
        omega
    have el : (a :: c :: r).length = (c :: r).length + 1 := rfl
    rw [el]
    omega
theorem hOk_8 {p : Nat → zVc} {n : Nat} (hp : hLx p n) {m : Int} (hm : ∀ i, i < n → m ≤ (p i).1 ∧ (p i).1 ≤ m + 6) {s : List Nat} (hs : ∀ x, x ∈ s → x < n) (h : hOk p s) : s.length ≤ 8 := by
  match s, hs, h with
  | [], _, _ => exact Nat.zero_le _
  | [_], _, _ => show 1 ≤ 8; decide
  | b :: a :: r, hs, h =>
    have k := hOk_len hp hm r a b (hs b List.mem_cons_self) h
    have := (hm a (hs a (List.mem_cons_of_mem _ List.mem_cons_self))).2
    have el : (b :: a :: r).length = (a :: r).length + 1 := rfl
    omega
-- ===== the way back: turned about =====
def pn (p : Nat → zVc) (n j : Nat) : zVc := (-(p (n - 1 - j)).1, -(p (n - 1 - j)).2)
theorem pn_t (p : Nat → zVc) (n i j k : Nat) : trn (pn p n) i j k = trn p (n - 1 - i) (n - 1 - j) (n - 1 - k) := by unfold trn crs vsb pn; grind
theorem pn_f (p : Nat → zVc) (n i j : Nat) : fr2 (pn p n) i j = fr2 p (n - 1 - i) (n - 1 - j) := by unfold fr2 vsb pn; grind
theorem pn_lx {p : Nat → zVc} {n : Nat} (hp : hLx p n) : hLx (pn p n) n := by
  intro i j hij hj
  have k := hp (n - 1 - j) (n - 1 - i) (by omega) (by omega)
  have e : vsb (pn p n i) (pn p n j) = vsb (p (n - 1 - j)) (p (n - 1 - i)) := by
    unfold vsb pn
    refine Prod.ext ?_ ?_
    · simp only; omega
    · simp only; omega
  rw [e]; exact k
theorem pn_st {p : Nat → zVc} {n a b : Nat} (h : hSt (pn p n) n a b) : hSt p n (n - 1 - a) (n - 1 - b) := by
  obtain ⟨h1, h2, h3, h4⟩ := h
  refine ⟨by omega, by omega, by omega, fun o o1 o2 o3 => ?_⟩
  have k := h4 (n - 1 - o) (by omega) (by omega) (by omega)
  rw [pn_t, pn_f, pn_f, show n - 1 - (n - 1 - o) = o by omega] at k
  exact k
def hUp (t : Nat → Nat → Nat → Int) (n : Nat) : Nat → List Nat
  | 0 => []
  | k + 1 => (n - 1 - k) :: hPop t (n - 1 - k) (hUp t n k)
theorem hPop_map {t t' : Nat → Nat → Nat → Int} {f : Nat → Nat} (h : ∀ a b c, t' a b c = t (f a) (f b) (f c)) (i : Nat) : ∀ s, hPop t (f i) (s.map f) = (hPop t' i s).map f
  | [] => rfl
  | [_] => rfl
  | b :: a :: r => by
    show (if t (f a) (f b) (f i) ≤ 0 then hPop t (f i) ((a :: r).map f) else _) = (if t' a b i ≤ 0 then hPop t' i (a :: r) else b :: a :: r).map f
    rw [h]
    split
    · exact hPop_map h i (a :: r)
    · rfl
theorem hUp_map (p : Nat → zVc) (n : Nat) : ∀ k, hUp (trn p) n k = (hLow (trn (pn p n)) k).map (fun j => n - 1 - j)
  | 0 => rfl
  | k + 1 => by
    show (n - 1 - k) :: hPop (trn p) (n - 1 - k) (hUp (trn p) n k) = ((k :: hPop (trn (pn p n)) k (hLow (trn (pn p n)) k)).map (fun j => n - 1 - j))
    rw [hUp_map p n k, List.map_cons, ← hPop_map (t := trn p) (f := fun j => n - 1 - j) (fun a b c => pn_t p n a b c) k]
theorem hPop_in (t : Nat → Nat → Nat → Int) (i : Nat) : ∀ (s : List Nat) (x : Nat), x ∈ hPop t i s → x ∈ s
  | [], x, h => h
  | [_], x, h => h
  | b :: a :: r, x, h => by
    have h : x ∈ (if t a b i ≤ 0 then hPop t i (a :: r) else b :: a :: r) := h
    split at h
    · exact List.mem_cons_of_mem _ (hPop_in t i (a :: r) x h)
    · exact h
theorem hLow_in (t : Nat → Nat → Nat → Int) : ∀ (n x : Nat), x ∈ hLow t n → x < n
  | 0, x, h => absurd h List.not_mem_nil
  | n + 1, x, h => by
    rcases List.mem_cons.mp h with e | h
    · omega
    · have := hLow_in t n x (hPop_in t n _ x h); omega
theorem hUp_in (t : Nat → Nat → Nat → Int) {n : Nat} (hn : 0 < n) : ∀ (k x : Nat), x ∈ hUp t n k → x < n
  | 0, x, h => absurd h List.not_mem_nil
  | k + 1, x, h => by
    rcases List.mem_cons.mp h with e | h
    · omega
    · exact hUp_in t hn k x (hPop_in t _ _ x h)
/-- the corners, the latest first -/
def hCs (t : Nat → Nat → Nat → Int) (n : Nat) : List Nat := if n ≤ 1 then hLow t n else (hUp t n n ++ (hLow t n).tail).tail
theorem hCs_f {p : Nat → zVc} {n : Nat} (hp : hLx p n) (h2 : 2 ≤ n) : hUp (trn p) n n ++ (hLow (trn p) n).tail = 0 :: hCs (trn p) n ∧ ajc (hSt p n) (0 :: hCs (trn p) n) ∧ (∃ U, hCs (trn p) n = U ++ [0] ∧ (∀ x, x ∈ U → 0 < x) ∧ ∀ x, x ∈ U → x < n) := by
  obtain ⟨m, rfl⟩ : ∃ m, n = m + 1 := ⟨n - 1, by omega⟩
  have k1 := hLow_ok hp (m + 1) (Nat.le_refl _)
  have k2 := hLow_ok (pn_lx hp) (m + 1) (Nat.le_refl _)
  have eu := hUp_map p (m + 1) (m + 1)
  have el : hLow (trn p) (m + 1) = m :: hPop (trn p) m (hLow (trn p) m) := rfl
  have ep : hLow (trn (pn p (m + 1))) (m + 1) = m :: hPop (trn (pn p (m + 1))) m (hLow (trn (pn p (m + 1))) m) := rfl
  have hin := hLow_in (trn p) (m + 1)
  have hup := hUp_in (trn p) (show 0 < m + 1 by omega) (m + 1)
  have e0 : hUp (trn p) (m + 1) (m + 1) = 0 :: hPop (trn p) (m + 1 - 1 - m) (hUp (trn p) (m + 1) m) := by
    show (m + 1 - 1 - m) :: _ = _
    rw [show m + 1 - 1 - m = 0 by omega]
  rw [el] at k1 hin
  rw [ep] at k2 eu
  generalize hPop (trn p) m (hLow (trn p) m) = s1 at *
  generalize hPop (trn (pn p (m + 1))) m (hLow (trn (pn p (m + 1))) m) = s2 at *
  obtain ⟨U1, l1, p1⟩ := hOk_last s1 m k1
  obtain ⟨U2, l2, p2⟩ := hOk_last s2 m k2
  have lt2 := hOk_lt s2 m k2
  have eH : hCs (trn p) (m + 1) = (hUp (trn p) (m + 1) (m + 1) ++ s1).tail := by
    unfold hCs
    rw [if_neg (by omega), el]; rfl
  have eF : hUp (trn p) (m + 1) (m + 1) ++ s1 = 0 :: hCs (trn p) (m + 1) := by rw [eH, e0]; rfl
  have aj : ajc (hSt p (m + 1)) (hUp (trn p) (m + 1) (m + 1) ++ s1) := by
    have a1 := hOk_aj hp k1 rfl (m :: s1) [] rfl k1
    have a2 := ajc_map (f := fun j => m + 1 - 1 - j) (R' := hSt p (m + 1)) (fun a b h => pn_st h) _ (hOk_aj (pn_lx hp) k2 rfl (m :: s2) [] rfl k2)
    rw [← eu] at a2
    have e3 : hUp (trn p) (m + 1) (m + 1) = U2.map (fun j => m + 1 - 1 - j) ++ [m] := by
      rw [eu, l2, List.map_append]; rfl
    rw [e3] at a2 ⊢
    rw [List.append_assoc]
    exact ajc_join a1 _ a2
  refine ⟨by rw [el]; exact eF, by rw [← eF]; exact aj, ?_⟩
  -- the last is 0, none of the others
  have u1 : ∃ V, s1 = V ++ [0] ∧ ∀ x, x ∈ V → 0 < x := by
    cases U1 with
    | nil =>
      exfalso
      have : m :: s1 = [0] := l1
      injection this with a b
      omega
    | cons z U1 =>
      rw [List.cons_append] at l1
      injection l1 with a b
      exact ⟨U1, b, fun x hx => p1 x (List.mem_cons_of_mem _ hx)⟩
  obtain ⟨V, v1, v2⟩ := u1
  have eT : hCs (trn p) (m + 1) = (s2.map (fun j => m + 1 - 1 - j) ++ V) ++ [0] := by
    rw [eH, eu, List.map_cons, List.cons_append, List.tail_cons, v1, List.append_assoc]
  refine ⟨_, eT, fun x hx => ?_, fun x hx => ?_⟩
  · rcases List.mem_append.mp hx with hx | hx
    · obtain ⟨y, hy, rfl⟩ := List.mem_map.mp hx
      have := lt2 y hy
      show 0 < m + 1 - 1 - y
      omega
    · exact v2 x hx
  · rcases List.mem_append.mp hx with hx | hx
    · obtain ⟨y, hy, rfl⟩ := List.mem_map.mp hx
      show m + 1 - 1 - y < m + 1
      omega
    · exact hin x (List.mem_cons_of_mem _ (by rw [v1]; exact List.mem_append.mpr (Or.inl hx)))
theorem hLow_8 {p : Nat → zVc} {n : Nat} (hp : hLx p n) {m : Int} (hm : ∀ i, i < n → m ≤ (p i).1 ∧ (p i).1 ≤ m + 6) {k : Nat} (hk : k ≤ n) : (hLow (trn p) k).length ≤ 8 := hOk_8 hp hm (fun x hx => by have := hLow_in _ k x hx; omega) (hLow_ok hp k hk)
theorem hUp_8 {p : Nat → zVc} {n : Nat} (hp : hLx p n) {m : Int} (hm : ∀ i, i < n → m ≤ (p i).1 ∧ (p i).1 ≤ m + 6) {k : Nat} (hk : k ≤ n) : (hUp (trn p) n k).length ≤ 8 := by
  rw [hUp_map, List.length_map]
  refine hLow_8 (pn_lx hp) (m := -m - 6) (fun i hi => ?_) hk
  have := hm (n - 1 - i) (by omega)
  show -m - 6 ≤ -(p (n - 1 - i)).1 ∧ -(p (n - 1 - i)).1 ≤ -m - 6 + 6
  omega
theorem hCs_16 {p : Nat → zVc} {n : Nat} (hp : hLx p n) {m : Int} (hm : ∀ i, i < n → m ≤ (p i).1 ∧ (p i).1 ≤ m + 6) : (hCs (trn p) n).length ≤ 16 := by
  have a := hLow_8 hp hm (Nat.le_refl n)
  have b := hUp_8 hp hm (Nat.le_refl n)
  unfold hCs
  split
  · omega
  · rw [List.length_tail, List.length_append, List.length_tail]; omega
-- ===== the points of a plan =====
def pv (L : List (Nat × Nat)) (i : Nat) : zVc := (((zP0 L i).1 : Int), ((zP0 L i).2 : Int))
theorem zPtT_pw (h : Nat → Nat → Bool) : ∀ t, (zPtT h t).Pairwise (fun a b => 7 * a.1 + a.2 < 7 * b.1 + b.2)
  | 0 => List.Pairwise.nil
  | t + 1 => by
    unfold zPtT
    rw [List.pairwise_append]
    refine ⟨zPtT_pw h t, ?_, fun a ha b hb => ?_⟩
    · split
      · exact List.pairwise_singleton _ _
      · exact List.Pairwise.nil
    · have k := (zPtT_in h t a ha).2.1
      split at hb
      · rw [List.mem_singleton] at hb
        subst hb
        have := Nat.div_add_mod t 7
        show 7 * a.1 + a.2 < 7 * (t / 7) + t % 7
        omega
      · exact absurd hb List.not_mem_nil
theorem pv_lxL {L : List (Nat × Nat)} (bL : bdL L) (pw : L.Pairwise (fun a b => 7 * a.1 + a.2 < 7 * b.1 + b.2)) : hLx (pv L) L.length := by
  intro i j hij hj
  have hi : i < L.length := by omega
  have a := zP0_at hi
  have b := zP0_at hj
  have a1 := bL.2 i _ a
  have b1 := bL.2 j _ b
  have k := List.pairwise_iff_getElem.mp pw i j hi hj hij
  have ea : L[i]'hi = zP0 L i := Option.some.inj ((List.getElem?_eq_getElem hi).symm.trans a)
  have eb : L[j]'hj = zP0 L j := Option.some.inj ((List.getElem?_eq_getElem hj).symm.trans b)
  rw [ea, eb] at k
  show 0 < ((zP0 L j).1 : Int) - ((zP0 L i).1 : Int) ∨ (((zP0 L j).1 : Int) - ((zP0 L i).1 : Int) = 0 ∧ 0 < ((zP0 L j).2 : Int) - ((zP0 L i).2 : Int))
  omega
theorem zPts_pw (π : zPl) (o : Int32) : (zPts π o).Pairwise (fun a b => 7 * a.1 + a.2 < 7 * b.1 + b.2) := by unfold zPts; exact zPtT_pw _ _
theorem pv_bd {L : List (Nat × Nat)} (bL : bdL L) : ∀ i, i < L.length → (0 : Int) ≤ (pv L i).1 ∧ (pv L i).1 ≤ 0 + 6 := by
  intro i hi
  have := bL.2 i _ (zP0_at hi)
  show (0 : Int) ≤ ((zP0 L i).1 : Int) ∧ ((zP0 L i).1 : Int) ≤ 0 + 6
  omega
