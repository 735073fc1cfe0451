-- ===== what a constructor makes =====
/-- the object at o, and what lies behind it -/
def zBu (kd : List (Nat × Nat)) (rel : Nat → Nat → Option Nat) (o : Nat) (σ σ' : zSt) : Prop := σ'.1 = σ.1 ++ kd ∧ (∀ x, x < o → σ'.2.1 x = σ.2.1 x ∧ σ'.2.2.1 x = σ.2.2.1 x ∧ σ'.2.2.2 x = σ.2.2.2 x) ∧ ∀ x, o ≤ x → x < o + 1 + kd.length → ∀ k, σ'.2.2.2 x k = (rel (x - o) k).map (· + o) ∧ ((zKd σ'.1 x).1 ≠ 9 → σ'.2.1 x k = 0)
/-- a fresh object at the end of the world -/
def zFo (t o : Nat) (σ : zSt) : Prop := σ.1.length = o + 1 ∧ o < 900000 ∧ Nat.beq (zKd σ.1 o).1 t = true ∧ ∀ k, σ.2.1 o k = 0 ∧ σ.2.2.2 o k = none
theorem i_6 {G : zG} {k' : Nat} (hk : 2 ≤ k') {o : Nat} {σ : zSt} {Q : zRt} (hf : zFo 6 o σ) (h : ∀ σ', zBu [] (fun _ _ => none) o σ σ' → Q none σ') : zCallK G k' 0 0 yX6_init [.ref o] σ Q := by
  obtain ⟨K, I, J, P⟩ := σ
  obtain ⟨h1, h2, h3, h4⟩ := hf
  refine zMethodK (k := 1) hk (by decide) (by decide +kernel) cdX6_init _ rfl (Nat.le_of_ble_eq_true rfl) ?_
  refine zStep (pkX6_init (C := zCalls G 0) (Rt := Q)) [1] 10 0 ?_
  refine at_obj ol_X6_1 (by decide +kernel) (by decide) (by decide) ?_
  refine zStep (pkX6_init (C := zCalls G 0) (Rt := Q)) [14] 20 4 ?_
  refine zB_in h3 ?_
  refine zB_in h3 ?_
  refine at_ret (by decide +kernel) ?_
  refine h _ ⟨(List.append_nil K).symm, fun x hx => ⟨rfl, by show z_upJ (z_upJ J o 0 0) o 1 1 x = J x; rw [z_upJ_ne (by omega), z_upJ_ne (by omega)], rfl⟩, fun x a b k => ?_⟩
  have e : x = o := by have b : x < o + 1 + 0 := b; omega
  subst e
  exact ⟨(h4 k).2, fun _ => (h4 k).1⟩
def rPut (rel : Nat → Nat → Option Nat) (k j : Nat) : Nat → Nat → Option Nat := fun x i => if x = 0 ∧ i = k then some j else rel x i
def rSub (rel : Nat → Nat → Option Nat) (n : Nat) (rel2 : Nat → Nat → Option Nat) : Nat → Nat → Option Nat := fun x k => if x < n then rel x k else (rel2 (x - n) k).map (· + n)
def rN : Nat → Nat → Option Nat := fun _ _ => none
theorem bu_0 {t o : Nat} {σ : zSt} (h : zFo t o σ) : zBu [] rN o σ σ := by
  refine ⟨(List.append_nil _).symm, fun x hx => ⟨rfl, rfl, rfl⟩, fun x a b k => ?_⟩
  have e : x = o := by have b : x < o + 1 + 0 := b; omega
  subst e
  exact ⟨(h.2.2.2 k).2, fun _ => (h.2.2.2 k).1⟩
theorem bu_I {kd : List (Nat × Nat)} {rel : Nat → Nat → Option Nat} {o : Nat} {σ : zSt} {K : List (Nat × Nat)} {I : Nat → Nat → Int32} {J : Nat → Nat → Int64} {P : Nat → Nat → Option Nat} {j : Nat} (h : zBu kd rel o σ (K, I, J, P)) : zBu kd rel o σ (K, z_upI I o j 0, J, P) := by
  obtain ⟨h1, h2, h3⟩ := h
  refine ⟨h1, fun x hx => ⟨(z_upI_ne (by omega)).trans (h2 x hx).1, (h2 x hx).2⟩, fun x a b k => ⟨(h3 x a b k).1, fun q => ?_⟩⟩
  have e := (h3 x a b k).2 q
  show z_upI I o j 0 x k = 0
  by_cases c : x = o
  · subst c
    by_cases d : k = j
    · subst d; exact uI_s
    · rw [uI_k d]; exact e
  · rw [z_upI_ne c]; exact e
theorem bu_J {kd : List (Nat × Nat)} {rel : Nat → Nat → Option Nat} {o : Nat} {σ : zSt} {K : List (Nat × Nat)} {I : Nat → Nat → Int32} {J : Nat → Nat → Int64} {P : Nat → Nat → Option Nat} {j : Nat} {v : Int64} (h : zBu kd rel o σ (K, I, J, P)) : zBu kd rel o σ (K, I, z_upJ J o j v, P) := by
  obtain ⟨h1, h2, h3⟩ := h
  exact ⟨h1, fun x hx => ⟨(h2 x hx).1, (z_upJ_ne (by omega)).trans (h2 x hx).2.1, (h2 x hx).2.2⟩, h3⟩
theorem bu_len {kd : List (Nat × Nat)} {rel : Nat → Nat → Option Nat} {o : Nat} {σ σ1 : zSt} (hl : σ.1.length = o + 1) (h : zBu kd rel o σ σ1) : σ1.1.length = o + 1 + kd.length := by
  rw [h.1, List.length_append, hl]
theorem bu_kd {kd : List (Nat × Nat)} {rel : Nat → Nat → Option Nat} {o t : Nat} {σ σ1 : zSt} (hl : σ.1.length = o + 1) (hk : Nat.beq (zKd σ.1 o).1 t = true) (h : zBu kd rel o σ σ1) : Nat.beq (zKd σ1.1 o).1 t = true := by
  rw [h.1, zKd_l (by omega)]; exact hk
theorem bu_new {kd : List (Nat × Nat)} {rel : Nat → Nat → Option Nat} {o : Nat} {σ σ1 : zSt} (hl : σ.1.length = o + 1) (h : zBu kd rel o σ σ1) {d : Nat × Nat} (hr : ∀ k, rel (kd.length + 1) k = none) : zBu (kd ++ [d]) rel o σ (zNw σ1 d) := by
  have hL := bu_len hl h
  obtain ⟨h1, h2, h3⟩ := h
  refine ⟨by show σ1.1 ++ [d] = _; rw [h1, List.append_assoc], fun x hx => ?_, fun x a b k => ?_⟩
  · exact ⟨(va_up_ne _ _ (by omega)).trans (h2 x hx).1, (va_up_ne _ _ (by omega)).trans (h2 x hx).2.1, (va_up_ne _ _ (by omega)).trans (h2 x hx).2.2⟩
  · rw [List.length_append] at b
    have b : x < o + 1 + (kd.length + 1) := b
    by_cases c : x = σ1.1.length
    · subst c
      refine ⟨?_, fun _ => ?_⟩
      · show va_up σ1.2.2.2 σ1.1.length (fun _ => none) σ1.1.length k = _
        rw [va_up_self, show σ1.1.length - o = kd.length + 1 by omega, hr k]
        rfl
      · show va_up σ1.2.1 σ1.1.length (fun _ => 0) σ1.1.length k = 0
        rw [va_up_self]
    · obtain ⟨e1, e2⟩ := h3 x a (by omega) k
      refine ⟨?_, fun q => ?_⟩
      · show va_up σ1.2.2.2 σ1.1.length (fun _ => none) x k = _
        rw [va_up_ne _ _ c]; exact e1
      · show va_up σ1.2.1 σ1.1.length (fun _ => 0) x k = 0
        rw [va_up_ne _ _ c]
        refine e2 ?_
        rw [show zKd (zNw σ1 d).1 x = zKd σ1.1 x from zKd_l (by omega)] at q
        exact q
theorem bu_put {kd : List (Nat × Nat)} {rel : Nat → Nat → Option Nat} {o b k : Nat} {σ σ1 : zSt} (h : zBu kd rel o σ σ1) (j : Nat) (e : b = o + j) : zBu kd (rPut rel k j) o σ (σ1.1, σ1.2.1, σ1.2.2.1, z_upR σ1.2.2.2 o k (some b)) := by
  subst e
  obtain ⟨h1, h2, h3⟩ := h
  refine ⟨h1, fun x hx => ⟨(h2 x hx).1, (h2 x hx).2.1, (z_upR_ne (by omega)).trans (h2 x hx).2.2⟩, fun x a b i => ⟨?_, (h3 x a b i).2⟩⟩
  have e := (h3 x a b i).1
  show z_upR σ1.2.2.2 o k (some (o + j)) x i = (rPut rel k j (x - o) i).map (· + o)
  unfold rPut
  by_cases c : x = o
  · subst c
    rw [z_upR_self]
    by_cases d : i = k
    · subst d
      rw [va_up_self, if_pos ⟨Nat.sub_self x, rfl⟩]
      show some (x + j) = some (j + x)
      rw [Nat.add_comm]
    · rw [va_up_ne _ _ d, if_neg (fun q => d q.2)]; exact e
  · rw [z_upR_ne c, if_neg (fun q => c (by omega))]; exact e
/-- an object made inside -/
theorem bu_fo {kd : List (Nat × Nat)} {rel : Nat → Nat → Option Nat} {o t n : Nat} {σ σ1 : zSt} (hl : σ.1.length = o + 1) (h : zBu kd rel o σ σ1) (ho : o + 1 + kd.length < 900000) : zFo t σ1.1.length (zNw σ1 (t, n)) := by
  have hL := bu_len hl h
  refine ⟨by show (σ1.1 ++ [(t, n)]).length = _; rw [List.length_append]; rfl, by omega, ?_, fun k => ⟨?_, ?_⟩⟩
  · rw [show zKd (zNw σ1 (t, n)).1 σ1.1.length = (t, n) from zKd_r]
    exact Nat.beq_refl t
  · show va_up σ1.2.1 σ1.1.length (fun _ => 0) σ1.1.length k = 0
    rw [va_up_self]
  · show va_up σ1.2.2.2 σ1.1.length (fun _ => none) σ1.1.length k = none
    rw [va_up_self]
theorem bu_sub {kd kd2 : List (Nat × Nat)} {rel rel2 : Nat → Nat → Option Nat} {o : Nat} {d : Nat × Nat} {σ σ1 σ2 : zSt} (hl : σ.1.length = o + 1) (h : zBu kd rel o σ σ1) (h2 : zBu kd2 rel2 σ1.1.length (zNw σ1 d) σ2) : zBu (kd ++ d :: kd2) (rSub rel (kd.length + 1) rel2) o σ σ2 := by
  have hL := bu_len hl h
  obtain ⟨a1, a2, a3⟩ := h
  obtain ⟨b1, b2, b3⟩ := h2
  refine ⟨by rw [b1]; show (σ1.1 ++ [d]) ++ kd2 = _; rw [a1, List.append_assoc, List.append_assoc]; rfl, fun x hx => ?_, fun x a b k => ?_⟩
  · obtain ⟨e1, e2, e3⟩ := b2 x (by omega)
    exact ⟨e1.trans ((va_up_ne _ _ (by omega)).trans (a2 x hx).1), e2.trans ((va_up_ne _ _ (by omega)).trans (a2 x hx).2.1), e3.trans ((va_up_ne _ _ (by omega)).trans (a2 x hx).2.2)⟩
  · rw [List.length_append, List.length_cons] at b
    unfold rSub
    by_cases c : x < σ1.1.length
    · obtain ⟨e1, e2, e3⟩ := b2 x c
      obtain ⟨f1, f2⟩ := a3 x a (by omega) k
      rw [if_pos (by omega), e3, show (zNw σ1 d).2.2.2 x = σ1.2.2.2 x from va_up_ne _ _ (by omega)]
      refine ⟨f1, fun q => ?_⟩
      rw [e1, show (zNw σ1 d).2.1 x = σ1.2.1 x from va_up_ne _ _ (by omega)]
      refine f2 ?_
      rw [b1, show (zNw σ1 d).1 = σ1.1 ++ [d] from rfl, List.append_assoc, zKd_l c] at q
      exact q
    · obtain ⟨f1, f2⟩ := b3 x (by omega) (by omega) k
      rw [if_neg (by omega), f1, Option.map_map, show x - o - (kd.length + 1) = x - σ1.1.length by omega]
      refine ⟨?_, f2⟩
      congr 1
      funext z
      show z + σ1.1.length = z + (kd.length + 1) + o
      omega
