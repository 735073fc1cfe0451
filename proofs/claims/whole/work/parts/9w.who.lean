-- ===== the law's beginning, for every script =====
def zGP (G : zG) (U : State) (H : Heap) : Prop := zStr G U H ∧ zThr G U H ∧ (va_AO RX3 U ∧ va_AO RX5 U ∧ va_AO RX9 U) ∧ ∃ kA : Class, U.vm.classes[zgY G 20]? = some kA ∧ kA.kind = .array (zgY G 15) (.array .long)
theorem zGP_warm {G : zG} {s U : State} {H : Heap} (hW : s.WarmedH U.vm) (h : zGP G s H) : zGP G U H := by
  obtain ⟨⟨a1, a2, a3, a4⟩, b, ⟨c1, c2, c3⟩, kA, d1, d2⟩ := h
  have hal := hW.alike
  refine ⟨⟨vk_S.moved hal a1, ⟨a2.1.warm hW, a2.2.1.warm hW, a2.2.2.1.warm hW, a2.2.2.2.1.warm hW, a2.2.2.2.2.warm hW⟩, va_Z.moved hal a3, a4.imp (va_Z.moved hal) (va_Z.moved hal)⟩, zThr_warm hW b, ⟨va_AO.moved hal c1, va_AO.moved hal c2, va_AO.moved hal c3⟩, ?_⟩
  obtain ⟨k1, e1, e2⟩ := hal.2.2 _ _ d1
  exact ⟨k1, e1, by rw [e2]; exact d2⟩
theorem zGP_kept {G : zG} {U : State} {H H1 : Heap} (hq : ∀ a : Nat, a < H.size → ¬ zA G a → H1[a]? = H[a]?) (h : zGP G U H) : zGP G U H1 := by
  obtain ⟨⟨a1, a2, a3, a4⟩, b, c⟩ := h
  exact ⟨⟨vk_S.kept a1 hq, a2, va_Z.kept a3 hq, a4.imp (fun z => va_Z.kept z hq) (fun z => va_Z.kept z hq)⟩, zThr_kept hq b, c⟩
theorem whole_start {p : Program} {e : Env} {s : State} {m : MethodId} {below : List Frame} {meth : Method} {c : Code} (l : Launch) (hflags : l.flags = flags0) {b L : Nat} {xs : Nat → Int32} (hL : L ≤ 2560) (C0 : lw_At p s m meth c b L xs) : W p l e room_1 s m #[Value.ref b] below meth c s.heap [] 0 0 (lw_Z below #[Value.ref b] s) (entryFrame m ([Value.ref b] : List Value).toArray 8) := by
  obtain ⟨hx, hcode, hret, hml, hown, hts, hscr, hbl, hlk, hgv⟩ := C0
  have hs := flat_of_before _ hgv
  have hws : ∀ w ∈ zWs, w.before #[Value.ref b] s = true := fun w hw => hts w (List.mem_filter.mp hw).1
  obtain ⟨D, hD⟩ := st_K hws
  obtain ⟨Y, hY, hM⟩ := st_Y hts
  obtain ⟨S, hSb, hS⟩ := st_S hts hs
  let G0 : zG := (l, D, Y, s.heap.size, S, (L, xs), fun _ _ => True)
  let G : zG := (l, D, Y, s.heap.size, S, (L, xs), zGP G0)
  have hG : zGok G := ⟨fun s U H hW h => zGP_warm (G := G0) hW h, fun U H H1 hq h => zGP_kept (G := G0) hq h⟩
  obtain ⟨⟨t0, t1⟩, ⟨z0, z1⟩, hst, hth⟩ := hS G0 rfl rfl
  have hao : va_AO RX3 s ∧ va_AO RX5 s ∧ va_AO RX9 s := ⟨va_AO.of (hts (.arrayOver (.object RX3)) (by decide +kernel)), va_AO.of (hts (.arrayOver (.object RX5)) (by decide +kernel)), va_AO.of (hts (.arrayOver (.object RX9)) (by decide +kernel))⟩
  have hP : zGP G0 s s.heap := ⟨hst, hth, hao, hM⟩
  have hPm : zPm G s s.heap := by
    refine ⟨fun w hw => ?_, fun t ht => ?_, z0, z1, hP⟩
    · have h9 := List.mem_filter.mp hw
      refine va_Nw.of ?_ (hts w h9.1)
      have h8 := h9.2
      cases w <;> first | rfl | exact absurd h8 (by simp [zIsN])
    · match t, ht with
      | 0, _ => exact t0
      | 1, _ => exact t1
      | 2, _ =>
        obtain ⟨scr, q1, q2, q3, q4, q5⟩ := hscr
        show va_T .int (S 2) L (fun j => .int (xs j)) (zA G) s s.heap
        rw [hSb]
        refine ⟨scr, q1, q2, q3, by omega, by rw [q4], q5, ?_⟩
        show ¬ s.heap.size ≤ b
        omega
  have hE : zEnv G RL code 8 ret p s m #[Value.ref b] meth c := ⟨hx, hcode, hml, hret, hlk, hown, hws, ⟨hD, hY G rfl⟩, hPm⟩
  have hT : zTok G := by
    refine ⟨?_, fun U H h => h.2.1⟩
    show (!l.flags.contains noTraceFlag) = false
    rw [hflags]
    decide +kernel
  have hw := w_start (G := G) (b := b) (I := fun _ _ => 0) (J := fun _ _ => 0) (P := fun _ _ => none) (fun U h => h.2.2.1) (fun U h => h.2.2.2) hT (fun U H h => h.1) hG hL
  have hle := lv_entry [Value.ref b] (n := 8) (show 1 ≤ 8 by decide)
  rw [lg_entry_eq]
  have kk := hw p e s m #[Value.ref b] below meth c hE s.heap [] _ ⟨Nat.zero_le _, fun k q hq => by cases hq⟩ va_S.rf ⟨hle.1, hle.2.1, by decide, fun i v hi => ?_⟩
  · intro T hT X
    obtain ⟨t, a1, b1⟩ := kk T hT X
    exact ⟨t, a1, b1 rfl rfl⟩
  · match i, hi with
    | 0, hi =>
      have e : v = .ref 1000002 := (Option.some.inj (Option.some.inj hi)).symm
      subst e
      have h0 := hle.2.2 (0, Value.ref b) List.mem_cons_self
      rw [show zV G (.ref 1000002) = Value.ref b by show Value.ref (S 2) = Value.ref b; rw [hSb]]
      exact h0
    | 1, hi => cases hi
    | 2, hi => cases hi
    | 3, hi => cases hi
    | 4, hi => cases hi
    | 5, hi => cases hi
    | 6, hi => cases hi
    | 7, hi => cases hi
    | i + 8, hi => cases hi
