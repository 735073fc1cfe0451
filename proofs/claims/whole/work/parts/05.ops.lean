-- ===== instructions: what they do =====
def o_ic (v : Int32) : zOp := fun _ _ nx _ ls st σ => nx ls (.int v :: st) σ
def o_lc (v : Int64) : zOp := fun _ _ nx _ ls st σ => nx ls (.long v :: st) σ
noncomputable def o_il (i : Nat) : zOp := fun _ _ nx _ ls st σ => zLd ls i (fun v => match v with | .int x => nx ls (.int x :: st) σ | _ => False)
noncomputable def o_ll (i : Nat) : zOp := fun _ _ nx _ ls st σ => zLd ls i (fun v => match v with | .long x => nx ls (.long x :: st) σ | _ => False)
noncomputable def o_al (i : Nat) : zOp := fun _ _ nx _ ls st σ => zLd ls i (fun v => match v with | .ref x => nx ls (.ref x :: st) σ | _ => False)
noncomputable def o_is (i : Nat) : zOp := fun _ _ nx _ ls st σ => match st with | .int x :: r => zS1 ls i (.int x) (fun ls' => nx ls' r σ) | _ => False
noncomputable def o_ls (i : Nat) : zOp := fun _ _ nx _ ls st σ => match st with | .long x :: r => zS2 ls i (.long x) (fun ls' => nx ls' r σ) | _ => False
noncomputable def o_as (i : Nat) : zOp := fun _ _ nx _ ls st σ => match st with | .ref x :: r => zS1 ls i (.ref x) (fun ls' => nx ls' r σ) | _ => False
noncomputable def o_inc (i : Nat) (n : Int32) : zOp := fun _ _ nx _ ls st σ => zLd ls i (fun v => match v with | .int x => zS1 ls i (.int (x + n)) (fun ls' => nx ls' st σ) | _ => False)
def o_iadd : zOp := fun _ _ nx _ ls st σ => match st with | .int y :: .int x :: r => nx ls (.int (x + y) :: r) σ | _ => False
def o_isub : zOp := fun _ _ nx _ ls st σ => match st with | .int y :: .int x :: r => nx ls (.int (x - y) :: r) σ | _ => False
def o_imul : zOp := fun _ _ nx _ ls st σ => match st with | .int y :: .int x :: r => nx ls (.int (x * y) :: r) σ | _ => False
def o_iand : zOp := fun _ _ nx _ ls st σ => match st with | .int y :: .int x :: r => nx ls (.int (x &&& y) :: r) σ | _ => False
def o_ior : zOp := fun _ _ nx _ ls st σ => match st with | .int y :: .int x :: r => nx ls (.int (x ||| y) :: r) σ | _ => False
def o_ixor : zOp := fun _ _ nx _ ls st σ => match st with | .int y :: .int x :: r => nx ls (.int (x ^^^ y) :: r) σ | _ => False
def o_ishl : zOp := fun _ _ nx _ ls st σ => match st with | .int y :: .int x :: r => nx ls (.int (x <<< (y &&& 31)) :: r) σ | _ => False
def o_ishr : zOp := fun _ _ nx _ ls st σ => match st with | .int y :: .int x :: r => nx ls (.int (x >>> (y &&& 31)) :: r) σ | _ => False
def o_iushr : zOp := fun _ _ nx _ ls st σ => match st with | .int y :: .int x :: r => nx ls (.int ((x.toUInt32 >>> (y.toUInt32 &&& Int32.toUInt32 31)).toInt32) :: r) σ | _ => False
def o_ladd : zOp := fun _ _ nx _ ls st σ => match st with | .long y :: .long x :: r => nx ls (.long (x + y) :: r) σ | _ => False
def o_lsub : zOp := fun _ _ nx _ ls st σ => match st with | .long y :: .long x :: r => nx ls (.long (x - y) :: r) σ | _ => False
def o_lmul : zOp := fun _ _ nx _ ls st σ => match st with | .long y :: .long x :: r => nx ls (.long (x * y) :: r) σ | _ => False
def o_lxor : zOp := fun _ _ nx _ ls st σ => match st with | .long y :: .long x :: r => nx ls (.long (x ^^^ y) :: r) σ | _ => False
def o_idiv : zOp := fun _ _ nx _ ls st σ => match st with | .int y :: .int x :: r => ¬ y = 0 ∧ nx ls (.int (x / y) :: r) σ | _ => False
def o_irem : zOp := fun _ _ nx _ ls st σ => match st with | .int y :: .int x :: r => ¬ y = 0 ∧ nx ls (.int (x - x / y * y) :: r) σ | _ => False
def o_ldiv : zOp := fun _ _ nx _ ls st σ => match st with | .long y :: .long x :: r => ¬ y = 0 ∧ nx ls (.long (x / y) :: r) σ | _ => False
def o_lrem : zOp := fun _ _ nx _ ls st σ => match st with | .long y :: .long x :: r => ¬ y = 0 ∧ nx ls (.long (x - x / y * y) :: r) σ | _ => False
def o_ineg : zOp := fun _ _ nx _ ls st σ => match st with | .int x :: r => nx ls (.int (-x) :: r) σ | _ => False
def o_lneg : zOp := fun _ _ nx _ ls st σ => match st with | .long x :: r => nx ls (.long (-x) :: r) σ | _ => False
def o_i2l : zOp := fun _ _ nx _ ls st σ => match st with | .int x :: r => nx ls (.long (x.toInt64) :: r) σ | _ => False
def o_l2i : zOp := fun _ _ nx _ ls st σ => match st with | .long x :: r => nx ls (.int (x.toInt32) :: r) σ | _ => False
def o_i2b : zOp := fun _ _ nx _ ls st σ => match st with | .int x :: r => nx ls (.int (x.toInt8.toInt32) :: r) σ | _ => False
def o_i2s : zOp := fun _ _ nx _ ls st σ => match st with | .int x :: r => nx ls (.int (x.toInt16.toInt32) :: r) σ | _ => False
def o_i2c : zOp := fun _ _ nx _ ls st σ => match st with | .int x :: r => nx ls (.int ((x.toUInt32 % 65536).toInt32) :: r) σ | _ => False
def o_dup : zOp := fun _ _ nx _ ls st σ => match st with | .int x :: r => nx ls (.int x :: .int x :: r) σ | .ref x :: r => nx ls (.ref x :: .ref x :: r) σ | _ => False
def o_pop : zOp := fun _ _ nx _ ls st σ => match st with | .int _ :: r => nx ls r σ | .ref _ :: r => nx ls r σ | _ => False
def o_dup2 : zOp := fun _ _ nx _ ls st σ => match st with | .int x :: .ref y :: r => nx ls (.int x :: .ref y :: .int x :: .ref y :: r) σ | _ => False
def o_dup_x1 : zOp := fun _ _ nx _ ls st σ => match st with | .int x :: .ref y :: r => nx ls (.int x :: .ref y :: .int x :: r) σ | _ => False
def o_if_eq (t : Nat) : zOp := fun _ _ nx jp ls st σ => match st with | .int x :: r => (x = 0 → jp t ls r σ) ∧ (¬ x = 0 → nx ls r σ) | _ => False
def o_ic_eq (t : Nat) : zOp := fun _ _ nx jp ls st σ => match st with | .int y :: .int x :: r => (x = y → jp t ls r σ) ∧ (¬ x = y → nx ls r σ) | _ => False
def o_lc_eq (t : Nat) : zOp := fun _ _ nx jp ls st σ => match st with | .long y :: .long x :: r => (x = y → jp t ls r σ) ∧ (¬ x = y → nx ls r σ) | _ => False
def o_if_ne (t : Nat) : zOp := fun _ _ nx jp ls st σ => match st with | .int x :: r => (¬ x = 0 → jp t ls r σ) ∧ (x = 0 → nx ls r σ) | _ => False
def o_ic_ne (t : Nat) : zOp := fun _ _ nx jp ls st σ => match st with | .int y :: .int x :: r => (¬ x = y → jp t ls r σ) ∧ (x = y → nx ls r σ) | _ => False
def o_lc_ne (t : Nat) : zOp := fun _ _ nx jp ls st σ => match st with | .long y :: .long x :: r => (¬ x = y → jp t ls r σ) ∧ (x = y → nx ls r σ) | _ => False
def o_if_lt (t : Nat) : zOp := fun _ _ nx jp ls st σ => match st with | .int x :: r => (x < 0 → jp t ls r σ) ∧ (¬ x < 0 → nx ls r σ) | _ => False
def o_ic_lt (t : Nat) : zOp := fun _ _ nx jp ls st σ => match st with | .int y :: .int x :: r => (x < y → jp t ls r σ) ∧ (¬ x < y → nx ls r σ) | _ => False
def o_lc_lt (t : Nat) : zOp := fun _ _ nx jp ls st σ => match st with | .long y :: .long x :: r => (x < y → jp t ls r σ) ∧ (¬ x < y → nx ls r σ) | _ => False
def o_if_ge (t : Nat) : zOp := fun _ _ nx jp ls st σ => match st with | .int x :: r => (0 ≤ x → jp t ls r σ) ∧ (¬ 0 ≤ x → nx ls r σ) | _ => False
def o_ic_ge (t : Nat) : zOp := fun _ _ nx jp ls st σ => match st with | .int y :: .int x :: r => (y ≤ x → jp t ls r σ) ∧ (¬ y ≤ x → nx ls r σ) | _ => False
def o_lc_ge (t : Nat) : zOp := fun _ _ nx jp ls st σ => match st with | .long y :: .long x :: r => (y ≤ x → jp t ls r σ) ∧ (¬ y ≤ x → nx ls r σ) | _ => False
def o_if_gt (t : Nat) : zOp := fun _ _ nx jp ls st σ => match st with | .int x :: r => (0 < x → jp t ls r σ) ∧ (¬ 0 < x → nx ls r σ) | _ => False
def o_ic_gt (t : Nat) : zOp := fun _ _ nx jp ls st σ => match st with | .int y :: .int x :: r => (y < x → jp t ls r σ) ∧ (¬ y < x → nx ls r σ) | _ => False
def o_lc_gt (t : Nat) : zOp := fun _ _ nx jp ls st σ => match st with | .long y :: .long x :: r => (y < x → jp t ls r σ) ∧ (¬ y < x → nx ls r σ) | _ => False
def o_if_le (t : Nat) : zOp := fun _ _ nx jp ls st σ => match st with | .int x :: r => (x ≤ 0 → jp t ls r σ) ∧ (¬ x ≤ 0 → nx ls r σ) | _ => False
def o_ic_le (t : Nat) : zOp := fun _ _ nx jp ls st σ => match st with | .int y :: .int x :: r => (x ≤ y → jp t ls r σ) ∧ (¬ x ≤ y → nx ls r σ) | _ => False
def o_lc_le (t : Nat) : zOp := fun _ _ nx jp ls st σ => match st with | .long y :: .long x :: r => (x ≤ y → jp t ls r σ) ∧ (¬ x ≤ y → nx ls r σ) | _ => False
def o_go (t : Nat) : zOp := fun _ _ _ jp ls st σ => jp t ls st σ
def zSw (jp : Nat → Prop) (d : Nat) (x : Int32) : List (Int32 × Nat) → Prop
  | [] => jp d
  | q :: r => (x = q.1 → jp q.2) ∧ (¬ x = q.1 → zSw jp d x r)
def o_sw (cs : List (Int32 × Nat)) (d : Nat) : zOp := fun _ _ _ jp ls st σ => match st with | .int x :: r => zSw (fun t => jp t ls r σ) d x cs | _ => False
section ZO
variable {G : zG} {R : Room} {own : String} {cc : ByteArray} {nL : Nat} {ret : Option FieldType} {F : List Frame → Array Value → State → State → Prop} {cs sl : Nat} {C : zCl} {Rt : zRt} {pc : Nat}
theorem k_iconst {n : Int} {v : Int32} (hd : decode cc pc = .ok (.iconst n, 1)) (hv : Int32.ofInt n = v) : zOK G R own cc nL ret F cs sl C Rt pc (pc + 1) (o_ic v) := by
  intro nx jp hn hj ls st σ h
  intro p e s m args below meth c hE H locs lsR hw hS hl
  exact lv_iconst hE.1 hE.2.1 hd hv (hn _ _ _ h p e s m args below meth c hE H locs lsR hw hS hl)

theorem k_bipush {n : Int} {v : Int32} (hd : decode cc pc = .ok (.bipush n, 2)) (hv : (Int8.ofInt n).toInt32 = v) : zOK G R own cc nL ret F cs sl C Rt pc (pc + 2) (o_ic v) := by
  intro nx jp hn hj ls st σ h
  intro p e s m args below meth c hE H locs lsR hw hS hl
  exact lv_bipush hE.1 hE.2.1 hd hv (hn _ _ _ h p e s m args below meth c hE H locs lsR hw hS hl)

theorem k_sipush {n : Int} {v : Int32} (hd : decode cc pc = .ok (.sipush n, 3)) (hv : (Int16.ofInt n).toInt32 = v) : zOK G R own cc nL ret F cs sl C Rt pc (pc + 3) (o_ic v) := by
  intro nx jp hn hj ls st σ h
  intro p e s m args below meth c hE H locs lsR hw hS hl
  exact lv_sipush hE.1 hE.2.1 hd hv (hn _ _ _ h p e s m args below meth c hE H locs lsR hw hS hl)

theorem k_lconst {n : Fin 2} {v : Int64} (hd : decode cc pc = .ok (.lconst n, 1)) (hv : Int64.ofNat (n : Nat) = v) : zOK G R own cc nL ret F cs sl C Rt pc (pc + 1) (o_lc v) := by
  intro nx jp hn hj ls st σ h
  intro p e s m args below meth c hE H locs lsR hw hS hl
  exact lv_lconst hE.1 hE.2.1 hd hv (hn _ _ _ h p e s m args below meth c hE H locs lsR hw hS hl)

theorem k_ldc {i : Nat} {v : Int32} (hc : Cond.constant own i v ∈ zWs) (hd : decode cc pc = .ok (.ldc i, 2)) : zOK G R own cc nL ret F cs sl C Rt pc (pc + 2) (o_ic v) := by
  intro nx jp hn hj ls st σ h
  intro p e s m args below meth c hE H locs lsR hw hS hl
  exact lv_ldc hE.1 hE.2.1 hE.2.2.2.2.2.1 (hE.2.2.2.2.2.2.1 _ hc) hd (hn _ _ _ h p e s m args below meth c hE H locs lsR hw hS hl)

theorem k_ldcw {i : Nat} {v : Int32} (hc : Cond.constant own i v ∈ zWs) (hd : decode cc pc = .ok (.ldc_w i, 3)) : zOK G R own cc nL ret F cs sl C Rt pc (pc + 3) (o_ic v) := by
  intro nx jp hn hj ls st σ h
  intro p e s m args below meth c hE H locs lsR hw hS hl
  exact lv_ldcw hE.1 hE.2.1 hE.2.2.2.2.2.1 (hE.2.2.2.2.2.2.1 _ hc) hd (hn _ _ _ h p e s m args below meth c hE H locs lsR hw hS hl)

theorem k_ldc2 {i : Nat} {v : Int64} (hc : Cond.constantLong own i v ∈ zWs) (hd : decode cc pc = .ok (.ldc2_w i, 3)) : zOK G R own cc nL ret F cs sl C Rt pc (pc + 3) (o_lc v) := by
  intro nx jp hn hj ls st σ h
  intro p e s m args below meth c hE H locs lsR hw hS hl
  exact lv_ldc2 hE.1 hE.2.1 hE.2.2.2.2.2.1 (hE.2.2.2.2.2.2.1 _ hc) hd (hn _ _ _ h p e s m args below meth c hE H locs lsR hw hS hl)

theorem k_iload_n {k : Fin 4} {i : Nat} (hd : decode cc pc = .ok (.iload_n k, 1)) (hi : (k : Nat) = i) : zOK G R own cc nL ret F cs sl C Rt pc (pc + 1) (o_il i) := by
  intro nx jp hn hj ls st σ h
  obtain ⟨v, hv, h⟩ := zLd_out h
  split at h
  · intro p e s m args below meth c hE H locs lsR hw hS hl
    exact lv_iload_n hE.1 hE.2.1 hd hi (hl.2.2.2 _ _ hv) (hn _ _ _ h p e s m args below meth c hE H locs lsR hw hS hl)
  · exact h.elim

theorem k_iload {i : Nat} (hd : decode cc pc = .ok (.iload i, 2)) : zOK G R own cc nL ret F cs sl C Rt pc (pc + 2) (o_il i) := by
  intro nx jp hn hj ls st σ h
  obtain ⟨v, hv, h⟩ := zLd_out h
  split at h
  · intro p e s m args below meth c hE H locs lsR hw hS hl
    exact lv_iload hE.1 hE.2.1 hd (hl.2.2.2 _ _ hv) (hn _ _ _ h p e s m args below meth c hE H locs lsR hw hS hl)
  · exact h.elim

theorem k_lload_n {k : Fin 4} {i : Nat} (hd : decode cc pc = .ok (.lload_n k, 1)) (hi : (k : Nat) = i) : zOK G R own cc nL ret F cs sl C Rt pc (pc + 1) (o_ll i) := by
  intro nx jp hn hj ls st σ h
  obtain ⟨v, hv, h⟩ := zLd_out h
  split at h
  · intro p e s m args below meth c hE H locs lsR hw hS hl
    exact lv_lload_n hE.1 hE.2.1 hd hi (hl.2.2.2 _ _ hv) (hn _ _ _ h p e s m args below meth c hE H locs lsR hw hS hl)
  · exact h.elim

theorem k_lload {i : Nat} (hd : decode cc pc = .ok (.lload i, 2)) : zOK G R own cc nL ret F cs sl C Rt pc (pc + 2) (o_ll i) := by
  intro nx jp hn hj ls st σ h
  obtain ⟨v, hv, h⟩ := zLd_out h
  split at h
  · intro p e s m args below meth c hE H locs lsR hw hS hl
    exact lv_lload hE.1 hE.2.1 hd (hl.2.2.2 _ _ hv) (hn _ _ _ h p e s m args below meth c hE H locs lsR hw hS hl)
  · exact h.elim

theorem k_aload_n {k : Fin 4} {i : Nat} (hd : decode cc pc = .ok (.aload_n k, 1)) (hi : (k : Nat) = i) : zOK G R own cc nL ret F cs sl C Rt pc (pc + 1) (o_al i) := by
  intro nx jp hn hj ls st σ h
  obtain ⟨v, hv, h⟩ := zLd_out h
  split at h
  · intro p e s m args below meth c hE H locs lsR hw hS hl
    exact lv_aload_n hE.1 hE.2.1 hd hi (hl.2.2.2 _ _ hv) (hn _ _ _ h p e s m args below meth c hE H locs lsR hw hS hl)
  · exact h.elim

theorem k_aload {i : Nat} (hd : decode cc pc = .ok (.aload i, 2)) : zOK G R own cc nL ret F cs sl C Rt pc (pc + 2) (o_al i) := by
  intro nx jp hn hj ls st σ h
  obtain ⟨v, hv, h⟩ := zLd_out h
  split at h
  · intro p e s m args below meth c hE H locs lsR hw hS hl
    exact lv_aload hE.1 hE.2.1 hd (hl.2.2.2 _ _ hv) (hn _ _ _ h p e s m args below meth c hE H locs lsR hw hS hl)
  · exact h.elim

end ZO
/-- the pairs of the locals -/
def zPr (G : zG) : Nat → zLs → List (Nat × Value)
  | _, [] => []
  | i, none :: r => zPr G (i + 1) r
  | i, some v :: r => (i, zV G v) :: zPr G (i + 1) r
theorem zPr_in {G : zG} : ∀ {ls : zLs} {i : Nat} {q : Nat × Value}, q ∈ zPr G i ls → ∃ (j : Nat) (v : Value), q = (i + j, zV G v) ∧ ls[j]? = some (some v)
  | [], _, _, h => absurd h List.not_mem_nil
  | none :: r, i, q, h => by
    obtain ⟨j, v, e, hj⟩ := zPr_in (ls := r) h
    exact ⟨j + 1, v, by rw [e]; congr 1; omega, hj⟩
  | some w :: r, i, q, h => by
    rcases List.mem_cons.mp h with h | h
    · exact ⟨0, w, h, rfl⟩
    · obtain ⟨j, v, e, hj⟩ := zPr_in (ls := r) h
      exact ⟨j + 1, v, by rw [e]; congr 1; omega, hj⟩
theorem zPr_mem {G : zG} : ∀ {ls : zLs} {i j : Nat} {v : Value}, ls[j]? = some (some v) → (i + j, zV G v) ∈ zPr G i ls
  | [], _, _, _, h => by simp at h
  | none :: r, i, 0, _, h => by cases h
  | none :: r, i, j + 1, v, h => by
    have := zPr_mem (G := G) (ls := r) (i := i + 1) (j := j) (v := v) h
    rw [show i + (j + 1) = i + 1 + j by omega]; exact this
  | some w :: r, i, 0, v, h => by cases h; exact List.mem_cons_self
  | some w :: r, i, j + 1, v, h => by
    have := zPr_mem (G := G) (ls := r) (i := i + 1) (j := j) (v := v) h
    rw [show i + (j + 1) = i + 1 + j by omega]; exact List.mem_cons_of_mem _ this
theorem zV_cat (G : zG) (v : Value) : (zV G v).category = v.category := by cases v <;> rfl
theorem zLo_has {G : zG} {nL : Nat} {lsR : Array Slot} {ls : zLs} (h : zLo G nL lsR ls) : lv_has lsR nL (zPr G 0 ls) :=
  ⟨h.1, h.2.1, fun q hq => by obtain ⟨j, v, e, hj⟩ := zPr_in hq; rw [e, Nat.zero_add]; exact h.2.2.2 j v hj⟩
theorem zLo_1 {G : zG} {nL : Nat} {lsR lsR' : Array Slot} {ls ls' : zLs} {i : Nat} {v : Value} (hn : ls'.length ≤ nL) (ho : ∀ (j : Nat) (w : Value), ls'[j]? = some (some w) → (j = i ∧ w = v) ∨ (j ≠ i ∧ ls[j]? = some (some w) ∧ ¬ (j + 1 = i ∧ w.category = 2)))
    (h : lv_has lsR' nL ((i, zV G v) :: (zPr G 0 ls).filter (fun q => !(q.1 == i) && !(q.1 + 1 == i && q.2.category == 2)))) : zLo G nL lsR' ls' := by
  refine ⟨h.1, h.2.1, hn, fun j w hj => ?_⟩
  rcases ho j w hj with ⟨e1, e2⟩ | ⟨e1, e2, e3⟩
  · subst e1; subst e2; exact h.2.2 _ List.mem_cons_self
  · refine h.2.2 (j, zV G w) (List.mem_cons_of_mem _ (List.mem_filter.mpr ⟨?_, ?_⟩))
    · have := zPr_mem (G := G) (i := 0) e2; rw [Nat.zero_add] at this; exact this
    · simp only [zV_cat]
      by_cases h1 : j + 1 = i
      · have h2 : ¬ w.category = 2 := fun q => e3 ⟨h1, q⟩
        simp [e1, h1, h2]
      · simp [e1, h1]
theorem zLo_2 {G : zG} {nL : Nat} {lsR lsR' : Array Slot} {ls ls' : zLs} {i : Nat} {v : Value} (hn : ls'.length ≤ nL) (ho : ∀ (j : Nat) (w : Value), ls'[j]? = some (some w) → (j = i ∧ w = v) ∨ (j ≠ i ∧ j ≠ i + 1 ∧ ls[j]? = some (some w) ∧ ¬ (j + 1 = i ∧ w.category = 2)))
    (h : lv_has lsR' nL ((i, zV G v) :: (zPr G 0 ls).filter (fun q => !(q.1 == i) && (!(q.1 == i + 1) && !(q.1 + 1 == i && q.2.category == 2))))) : zLo G nL lsR' ls' := by
  refine ⟨h.1, h.2.1, hn, fun j w hj => ?_⟩
  rcases ho j w hj with ⟨e1, e2⟩ | ⟨e1, e4, e2, e3⟩
  · subst e1; subst e2; exact h.2.2 _ List.mem_cons_self
  · refine h.2.2 (j, zV G w) (List.mem_cons_of_mem _ (List.mem_filter.mpr ⟨?_, ?_⟩))
    · have := zPr_mem (G := G) (i := 0) e2; rw [Nat.zero_add] at this; exact this
    · simp only [zV_cat]
      by_cases h1 : j + 1 = i
      · have h2 : ¬ w.category = 2 := fun q => e3 ⟨h1, q⟩
        simp [e1, e4, h1, h2]
      · simp [e1, e4, h1]
