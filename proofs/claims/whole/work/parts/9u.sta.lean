-- ===== what holds where the law begins =====
theorem st_K {s : State} {A : Array Value} (hts : ∀ w ∈ zWs, w.before A s = true) : ∃ D : va_G, ∀ (c : Nat) (q : vw_C), vwCl[c]? = some q → u_Kn s q.1 q.2.1 q.2.2 (D.1 c) (D.2 c) := by
  have h0 : ∀ c : Nat, ∃ x : ClassId × (Nat → Nat), ∀ q : vw_C, vwCl[c]? = some q → u_Kn s q.1 q.2.1 q.2.2 x.1 x.2 := fun c => by
    match c with
    | 0 => obtain ⟨a, i, h⟩ := u_known hts zin0 (hts _ nw_X0); exact ⟨(a, i), fun q hq => by cases hq; exact h⟩
    | 1 => obtain ⟨a, i, h⟩ := u_known hts zin1 (hts _ nw_X1); exact ⟨(a, i), fun q hq => by cases hq; exact h⟩
    | 2 => obtain ⟨a, i, h⟩ := u_known hts zin2 (hts _ nw_X2); exact ⟨(a, i), fun q hq => by cases hq; exact h⟩
    | 3 => obtain ⟨a, i, h⟩ := u_known hts zin3 (hts _ nw_X3); exact ⟨(a, i), fun q hq => by cases hq; exact h⟩
    | 4 => obtain ⟨a, i, h⟩ := u_known hts zin4 (hts _ nw_X4); exact ⟨(a, i), fun q hq => by cases hq; exact h⟩
    | 5 => obtain ⟨a, i, h⟩ := u_known hts zin5 (hts _ nw_X5); exact ⟨(a, i), fun q hq => by cases hq; exact h⟩
    | 6 => obtain ⟨a, i, h⟩ := u_known hts zin6 (hts _ nw_X6); exact ⟨(a, i), fun q hq => by cases hq; exact h⟩
    | 7 => obtain ⟨a, i, h⟩ := u_known hts zin7 (hts _ nw_X7); exact ⟨(a, i), fun q hq => by cases hq; exact h⟩
    | 8 => obtain ⟨a, i, h⟩ := u_known hts zin8 (hts _ nw_X8); exact ⟨(a, i), fun q hq => by cases hq; exact h⟩
    | 9 => obtain ⟨a, i, h⟩ := u_known hts zin9 (hts _ nw_X9); exact ⟨(a, i), fun q hq => by cases hq; exact h⟩
    | 10 => obtain ⟨a, i, h⟩ := u_known hts zin10 (hts _ nw_X10); exact ⟨(a, i), fun q hq => by cases hq; exact h⟩
    | 11 => obtain ⟨a, i, h⟩ := u_known hts zin11 (hts _ nw_X11); exact ⟨(a, i), fun q hq => by cases hq; exact h⟩
    | 12 => obtain ⟨a, i, h⟩ := u_known hts zin12 (hts _ nw_X12); exact ⟨(a, i), fun q hq => by cases hq; exact h⟩
    | n + 13 => exact ⟨(0, fun _ => 0), fun q hq => absurd (List.getElem?_eq_some_iff.mp hq).1 (by show ¬ n + 13 < 13; omega)⟩
  obtain ⟨f, hf⟩ := Classical.axiomOfChoice h0
  exact ⟨(fun c => (f c).1, fun c => (f c).2), hf⟩
theorem st_p {s : State} {A : Array Value} {ty : FieldType} (h : (Cond.arrayClass ty).before A s = true) : ∃ cA : ClassId, ArrOfT s cA ty ∧ s.vm.findClass ("[" ++ ty.toString) = some cA := by
  obtain ⟨c, k, comp, h1, h2, h3⟩ := Cond.arrayClass_spec h
  exact ⟨c, fun n z => ⟨(fun k h => by cases h), k, h2, comp, h3⟩, h1⟩
theorem st_o {s : State} {A : Array Value} {C : String} (h : (Cond.arrayOver (.object C)).before A s = true) : ∃ cA : ClassId, ArrOfT s cA (.object C) ∧ va_RA s cA (.object C) := by
  obtain ⟨comp, c, k, h1, h2, h3, h4, h5⟩ := Cond.arrayOver_spec h
  exact ⟨c, fun n z => ⟨(fun k h => by cases h), k, h3, comp, h4⟩, k, comp, h3, h4, h1, h5⟩
/-- the class of arrays of arrays of longs lies over that of arrays of longs -/
theorem st_a {s : State} {A : Array Value} (h : (Cond.arrayOver (.array .long)).before A s = true) : ∃ (cA cB : ClassId) (k : Class), s.vm.findClass "[[J" = some cA ∧ s.vm.findClass "[J" = some cB ∧ s.vm.classes[cA]? = some k ∧ k.kind = .array cB (.array .long) := by
  have h : (Cond.arrayOver (.array .long)).value A s none s [] = some true := by simpa [Cond.before, Cond.holds] using h
  obtain ⟨cB, b1, h⟩ := Option.bind_eq_some_iff.mp (show (s.vm.findClass "[J").bind _ = some true from h)
  obtain ⟨cA, b2, h⟩ := Option.bind_eq_some_iff.mp h
  obtain ⟨k, b3, h⟩ := Option.map_eq_some_iff.mp h
  have hp : ∀ x : Class, s.vm.classes[cA]? = some x → (match x.kind with | .array component _ => component == cB | _ => false) = true := fun x hx => by
    obtain ⟨hlt, q, -⟩ := Array.findIdx?_eq_some_iff_getElem.mp b2
    rw [(Array.getElem?_eq_some_iff.mp hx).2] at q
    exact q
  have hp := hp k b3
  cases hk : k.kind with
  | array cC t =>
    rw [hk] at h hp
    have h : (decide (t = FieldType.array .long) && decide (s.vm.findClass "[[J" = some cA)) = true := h
    rw [Bool.and_eq_true] at h
    have e1 := of_decide_eq_true h.1
    have e2 := of_decide_eq_true h.2
    have e3 : cC = cB := by simpa using hp
    exact ⟨cA, cB, k, e2, b1, b3, by rw [hk, e1, e3]⟩
  | _ => rw [hk] at h; exact absurd h (by simp)
theorem st_Y {s : State} {A : Array Value} (hts : ∀ w ∈ lw_tbl, w.before A s = true) : ∃ Y : Nat → ClassId, (∀ G : zG, zgY G = Y → ∀ (k : Nat) (q : ClassId × FieldType), (zTy G)[k]? = some q → ArrOfT s q.1 q.2 ∧ va_RA s q.1 q.2) ∧ ∃ kA : Class, s.vm.classes[Y 20]? = some kA ∧ kA.kind = .array (Y 15) (.array .long) := by
  obtain ⟨c13, a13, b13⟩ := st_p (hts (.arrayClass .byte) (by decide +kernel))
  obtain ⟨c14, a14, b14⟩ := st_p (hts (.arrayClass .int) (by decide +kernel))
  obtain ⟨c15, a15, b15⟩ := st_p (hts (.arrayClass .long) (by decide +kernel))
  obtain ⟨c16, a16, b16⟩ := st_p (hts (.arrayClass .boolean) (by decide +kernel))
  obtain ⟨c17, a17, b17⟩ := st_o (C := RX3) (hts (.arrayOver (.object RX3)) (by decide +kernel))
  obtain ⟨c18, a18, b18⟩ := st_o (C := RX5) (hts (.arrayOver (.object RX5)) (by decide +kernel))
  obtain ⟨c19, a19, b19⟩ := st_o (C := RX9) (hts (.arrayOver (.object RX9)) (by decide +kernel))
  obtain ⟨c20, cB, k20, d1, d2, d3, d4⟩ := st_a (hts (.arrayOver (.array .long)) (by decide +kernel))
  have eB : cB = c15 := Option.some.inj (d2.symm.trans b15)
  subst eB
  refine ⟨fun t => [c13, c14, cB, c16, c17, c18, c19, c20].getD (t - 13) 0, fun G hG k q hq => ?_, k20, d3, d4⟩
  unfold zTy at hq
  rw [hG] at hq
  match k with
  | 0 => cases hq; exact ⟨a13, b13⟩
  | 1 => cases hq; exact ⟨a14, b14⟩
  | 2 => cases hq; exact ⟨a15, b15⟩
  | 3 => cases hq; exact ⟨a16, b16⟩
  | 4 => cases hq; exact ⟨a17, b17⟩
  | 5 => cases hq; exact ⟨a18, b18⟩
  | 6 => cases hq; exact ⟨a19, b19⟩
  | 7 => cases hq; exact ⟨fun n z => ⟨(fun k h => by cases h), k20, d3, cB, d4⟩, d1⟩
  | n + 8 => exact absurd (List.getElem?_eq_some_iff.mp hq).1 (by show ¬ n + 8 < 8; omega)
