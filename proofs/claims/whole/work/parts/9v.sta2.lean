-- ===== tables, strings and statics where the law begins =====
def stQ : List Nat := [50, 70, 72, 74, 76]
def stT (i : Nat) : Term := .string "SplitSlices$Signs" (stQ.getD i 0)
abbrev stV (i : Nat) : Term := .field (stT i) "java/lang/String" "value" "[B"
abbrev st1 : List Cond := flatC (Jvm.Cond.and given_1 narrow_1)
theorem st_b1 : ∀ j, j < 12 → Cond.eq (.elem (.static "SplitSlices" "BOX" "[I") (.int (Int32.ofNat j))) (.int (zBx j)) ∈ st1 := by decide +kernel
theorem st_b2 : ∀ j, j < 12 → Cond.eq (.elem (.static "SplitSlicesModel" "ALWAYS" "[I") (.int (Int32.ofNat j))) (.int (zBx j)) ∈ st1 := by decide +kernel
theorem st_s1 : ∀ i, i < 5 → Cond.exactly (stT i) "java/lang/String" ∈ st1 ∧ Cond.eq (.field (stT i) "java/lang/String" "coder" "B") (.int 0) ∈ st1 ∧ Cond.arrayOf (stV i) .byte ∈ st1 ∧ Cond.eq (.length (stV i)) (.int (Int32.ofNat (zLn.getD i 0))) ∈ st1 := by decide +kernel
theorem st_s2 : ∀ i, i < 5 → ∀ j, j < zLn.getD i 0 → Cond.eq (.elem (stV i) (.int (Int32.ofNat j))) (.int ((zBy.getD i []).getD j 0)) ∈ st1 := by decide +kernel
theorem st_s3 : ∀ i, i < 5 → ∀ j, j < 5 → i ≠ j → Cond.not (Cond.eq (stT i) (stT j)) ∈ st1 ∨ Cond.not (Cond.eq (stT j) (stT i)) ∈ st1 := by decide +kernel
theorem st_x : ∀ w ∈ zXB, w ∈ lw_tbl := by decide +kernel
theorem st_t {s : State} {A : Array Value} {C n : String} {P : Nat → Prop} (hP : ∀ a : Nat, a < s.heap.size → ¬ P a) (hl : (Cond.laysStatic C n "[I").before A s = true) (hi : (Cond.initialized C).before A s = true) (h1 : (Cond.arrayOf (.static C n "[I") .int).before A s = true) (h2 : (Cond.eq (.length (.static C n "[I")) (.int 12)).before A s = true) (h3 : ∀ j, j < 12 → (Cond.eq (.elem (.static C n "[I") (.int (Int32.ofNat j))) (.int (zBx j))).before A s = true) : ∃ t : Nat, va_T .int t 12 (fun j => .int (zBx j)) P s s.heap ∧ va_Z C n "[I" (.ref t) P s s.heap := by
  obtain ⟨t, ht, hT⟩ := va_Tof (tm := .static C n "[I") (ty := .int) (N := 12) (f := fun j => .int (zBx j)) (A := P) (by decide) h1 (va_eqt h2) (fun j hj => va_eqt (h3 j hj)) hP
  exact ⟨t, hT, va_Zof hl hi ht hP⟩
theorem st_m {s : State} {A : Array Value} {C tx : String} {k : Nat} (h1 : (Cond.stringRef C k tx).before A s = true) (h2 : (Cond.exactly (.string C k) "java/lang/String").before A s = true) : ∃ a, vk_R C k tx a s := by
  obtain ⟨a, c, cell, k, q, -⟩ := Cond.exactly_spec (args := A) (first := s) (o := none) (s := s) (idx := []) h2
  exact ⟨a, vk_R.of h1 q⟩
theorem st_S {s : State} {b : Nat} (hts : ∀ w ∈ lw_tbl, w.before #[Value.ref b] s = true) (hs : ∀ w ∈ st1, w.before #[Value.ref b] s = true) : ∃ S : Nat → Nat, S 2 = b ∧ ∀ G : zG, zgS G = S → zgB G = s.heap.size → (va_T .int (S 0) 12 (fun j => .int (zBx j)) (zA G) s s.heap ∧ va_T .int (S 1) 12 (fun j => .int (zBx j)) (zA G) s s.heap) ∧ (va_Z RX11 "BOX" "[I" (.ref (S 0)) (zA G) s s.heap ∧ va_Z RX12 "ALWAYS" "[I" (.ref (S 1)) (zA G) s s.heap) ∧ zStr G s s.heap ∧ zThr G s s.heap := by
  let P : Nat → Prop := fun q => s.heap.size ≤ q
  have hP : ∀ a : Nat, a < s.heap.size → ¬ P a := fun a h q => absurd h (Nat.not_lt.mpr q)
  obtain ⟨t0, a0, z0⟩ := st_t (C := "SplitSlices") (n := "BOX") hP (hts _ (by decide +kernel)) (hts _ (by decide +kernel)) (hs _ (by decide +kernel)) (hs _ (by decide +kernel)) (fun j hj => hs _ (st_b1 j hj))
  obtain ⟨t1, a1, z1⟩ := st_t (C := "SplitSlicesModel") (n := "ALWAYS") hP (hts _ (by decide +kernel)) (hts _ (by decide +kernel)) (hs _ (by decide +kernel)) (hs _ (by decide +kernel)) (fun j hj => hs _ (st_b2 j hj))
  obtain ⟨aK, aV, hS, he⟩ := vk_Sof (args := #[Value.ref b]) (s := s) (N := 5) (tm := stT) (len := zLn) (byt := zBy) (A := P) (by decide +kernel) (fun i hi => hs _ (st_s1 i hi).1) (fun i hi => hs _ (st_s1 i hi).2.1) (fun i hi => hs _ (st_s1 i hi).2.2.1) (fun i hi => hs _ (st_s1 i hi).2.2.2) (fun i hi j hj => hs _ (st_s2 i hi j hj)) (fun i j hi hj hij => (st_s3 i hi j hj hij).elim (fun q => Or.inl (hs _ q)) (fun q => Or.inr (hs _ q))) hP
  have hc := va_Zof (C := "java/lang/String") (n := "COMPACT_STRINGS") (d := "Z") (v := .int 1) (A := P) (hts _ (by decide +kernel)) (hts _ (by decide +kernel)) (va_eqi (hs _ (by decide +kernel))) hP
  have hf : ∃ f : Nat, va_Z "jdk/internal/util/Preconditions" "SIOOBE_FORMATTER" "Ljava/util/function/BiFunction;" .null P s s.heap ∨ va_Z "jdk/internal/util/Preconditions" "SIOOBE_FORMATTER" "Ljava/util/function/BiFunction;" (.ref f) P s s.heap := by
    rcases va_Zqof (C := "jdk/internal/util/Preconditions") (n := "SIOOBE_FORMATTER") (d := "Ljava/util/function/BiFunction;") (A := P) (hts _ (by decide +kernel)) (hts _ (by decide +kernel)) (hs _ (by decide +kernel)) hP with z | ⟨t, z⟩
    · exact ⟨0, Or.inl z⟩
    · exact ⟨t, Or.inr z⟩
  obtain ⟨f, hf⟩ := hf
  have m1 := st_m (s := s) (A := #[Value.ref b]) (C := "SplitSlices") (k := 129) (tx := "no such row, or no such part of it") (hts _ (by decide +kernel)) (hs _ (by decide +kernel))
  have m2 := st_m (s := s) (A := #[Value.ref b]) (C := "SplitSlices") (k := 383) (tx := "no such number") (hts _ (by decide +kernel)) (hs _ (by decide +kernel))
  have x1 := vx_Zqof (C := Bundle.tN) (n := "UNASSIGNED_STACK") (d := Bundle.steD) (A := P) (hts _ (by decide +kernel)) (hts _ (by decide +kernel)) (hs _ (by decide +kernel)) hP
  have x2 := vx_Zqof (C := Bundle.tN) (n := "SUPPRESSED_SENTINEL") (d := Bundle.listD) (A := P) (hts _ (by decide +kernel)) (hts _ (by decide +kernel)) (hs _ (by decide +kernel)) hP
  refine ⟨fun n => if n = 0 then t0 else if n = 1 then t1 else if n = 2 then b else if n = 200 then f else if n < 100 then aK (n - 3) else aV (n - 103), rfl, fun G hg hb => ?_⟩
  have eP : zA G = P := by
    funext q
    show (zgB G ≤ q) = (s.heap.size ≤ q)
    rw [hb]
  have eK : ∀ i, i < 5 → zgS G (3 + i) = aK i := fun i hi => by
    rw [hg]
    show (if 3 + i = 0 then t0 else if 3 + i = 1 then t1 else if 3 + i = 2 then b else if 3 + i = 200 then f else if 3 + i < 100 then aK (3 + i - 3) else aV (3 + i - 103)) = aK i
    rw [if_neg (by omega), if_neg (by omega), if_neg (by omega), if_neg (by omega), if_pos (by omega), Nat.add_sub_cancel_left]
  have eV : ∀ i, i < 5 → zgS G (103 + i) = aV i := fun i hi => by
    rw [hg]
    show (if 103 + i = 0 then t0 else if 103 + i = 1 then t1 else if 103 + i = 2 then b else if 103 + i = 200 then f else if 103 + i < 100 then aK (103 + i - 3) else aV (103 + i - 103)) = aV i
    rw [if_neg (by omega), if_neg (by omega), if_neg (by omega), if_neg (by omega), if_neg (by omega), Nat.add_sub_cancel_left]
  have eF : zgS G 200 = f := by rw [hg]; rfl
  rw [eP]
  refine ⟨⟨a0, a1⟩, ⟨z0, z1⟩, ?_, ?_⟩
  · unfold zStr
    rw [eP, eF]
    refine ⟨⟨fun i hi => ?_, fun i j hi hj e => hS.2 i j hi hj (by rw [← eK i hi, ← eK j hj]; exact e)⟩, ?_, hc, hf⟩
    · show va_O "java/lang/String" (zgS G (3 + i)) P s s.heap ∧ va_OF "java/lang/String" "coder" "B" (.int 0) (zgS G (3 + i)) P s s.heap ∧ va_OF "java/lang/String" "value" "[B" (.ref (zgS G (103 + i))) (zgS G (3 + i)) P s s.heap ∧ va_T .byte (zgS G (103 + i)) (zLn.getD i 0) (fun j => .int ((zBy.getD i []).getD j 0)) P s s.heap
      rw [eK i hi, eV i hi]
      exact hS.1 i hi
    · unfold zStR
      rw [show zgS G 3 = aK 0 from eK 0 (by decide), show zgS G 4 = aK 1 from eK 1 (by decide), show zgS G 5 = aK 2 from eK 2 (by decide), show zgS G 6 = aK 3 from eK 3 (by decide), show zgS G 7 = aK 4 from eK 4 (by decide)]
      exact ⟨vk_R.of (hts _ (by decide +kernel)) (he 0 (by decide)), vk_R.of (hts _ (by decide +kernel)) (he 1 (by decide)), vk_R.of (hts _ (by decide +kernel)) (he 2 (by decide)), vk_R.of (hts _ (by decide +kernel)) (he 3 (by decide)), vk_R.of (hts _ (by decide +kernel)) (he 4 (by decide))⟩
  · unfold zThr
    rw [eP]
    exact ⟨fun w hw => va_Nw.of (zXB_t w hw).1 (hts w (st_x w hw)), m1, m2, x1, x2⟩
