-- ===== what a constructor makes =====
/-- the object at o, and what lies behind it -/
def zBu (kd : List (Nat × Nat)) (rel : Nat → Nat → Option Nat) (o : Nat) (σ σ' : zSt) : Prop := σ'.1 = σ.1 ++ kd ∧ (∀ x, x < o → σ'.2.1 x = σ.2.1 x ∧ σ'.2.2.1 x = σ.2.2.1 x ∧ σ'.2.2.2 x = σ.2.2.2 x) ∧ ∀ x, o ≤ x → x < o + 1 + kd.length → ∀ k, σ'.2.2.2 x k = (rel (x - o) k).map (· + o) ∧ ((zKd σ'.1 x).1 ≠ 9 → σ'.2.1 x k = 0)
/-- a fresh object at the end of the world -/
def zFo (t o : Nat) (σ : zSt) : Prop := σ.1.length = o + 1 ∧ o < 900000 ∧ Nat.beq (zKd σ.1 o).1 t = true ∧ ∀ k, σ.2.1 o k = 0 ∧ σ.2.2.2 o k = none
theorem i_6 {G : zG} {k' : Nat} (hk : 2 ≤ k') {o : Nat} {σ : zSt} {Q : zRt} (hf : zFo 6 o σ) (h : ∀ σ', zBu [] (fun _ _ => none) o σ σ' → Q none σ') : zCallK G k' 0 0 yX6_init [.ref o] σ Q := by
  obtain ⟨K, I, J, P⟩ := σ
  obtain ⟨h1, h2, h3, h4⟩ := hf
  refine zMethodK (k := 1) hk (by decide) (by decide +kernel) cdX6_init _ rfl (Nat.le_of_ble_eq_true rfl) ?_
  refine zStep (pkX6_init (C := zCalls G 0) (Rt := Q)) [1] 10 0 ?_
  refine at_obj ol_X6_1 (by decide +kernel) (by decide) (by decide) ?_
  refine zStep (pkX6_init (C := zCalls G 0) (Rt := Q)) [14] 20 4 ?_
  refine zB_in h3 ?_
  refine zB_in h3 ?_
  refine at_ret (by decide +kernel) ?_
  refine h _ ⟨(List.append_nil K).symm, fun x hx => ⟨rfl, by show z_upJ (z_upJ J o 0 0) o 1 1 x = J x; rw [z_upJ_ne (by omega), z_upJ_ne (by omega)], rfl⟩, fun x a b k => ?_⟩
  have e : x = o := by have b : x < o + 1 + 0 := b; omega
  subst e
  exact ⟨(h4 k).2, fun _ => (h4 k).1⟩
