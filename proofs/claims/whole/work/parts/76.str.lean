-- ===== Strings: the five forms, as places 1000003 .. 1000007; their bytes 1000103 .. 1000107 =====
def zLn : List Nat := [7, 5, 2, 4, 1]
def zBy : List (List Int32) := [[43, 53, 120, 43, 53, 121, 60], [98, 57, 43, 57, 57], [100, 57], [115, 57, 57, 57], [99]]
def zStR (G : zG) (U : State) : Prop := vk_R RX8 50 "+5x+5y<" (zgS G 3) U ∧ vk_R RX8 70 "b9+99" (zgS G 4) U ∧ vk_R RX8 72 "d9" (zgS G 5) U ∧ vk_R RX8 74 "s999" (zgS G 6) U ∧ vk_R RX8 76 "c" (zgS G 7) U
def zStr (G : zG) (U : State) (H : Heap) : Prop := vk_S 5 zLn zBy (fun i => zgS G (3 + i)) (fun i => zgS G (103 + i)) (zA G) U H ∧ zStR G U ∧ va_Z "java/lang/String" "COMPACT_STRINGS" "Z" (.int 1) (zA G) U H ∧ (va_Z "jdk/internal/util/Preconditions" "SIOOBE_FORMATTER" "Ljava/util/function/BiFunction;" .null (zA G) U H ∨ va_Z "jdk/internal/util/Preconditions" "SIOOBE_FORMATTER" "Ljava/util/function/BiFunction;" (.ref (zgS G 200)) (zA G) U H)
/-- what the other premises of a context say of the Strings -/
def zSok (G : zG) : Prop := ∀ (U : State) (H : Heap), zgP G U H → zStr G U H
def o_ldS (t : Nat) : zOp := fun _ _ nx _ ls st σ => nx ls (.ref (1000003 + t) :: st) σ
def o_gC : zOp := fun _ _ nx _ ls st σ => nx ls (.int 1 :: st) σ
def o_gF : zOp := fun _ _ nx _ ls st σ => nx ls (.null :: st) σ ∧ nx ls (.ref 1000200 :: st) σ
noncomputable def o_gSv : zOp := fun _ _ nx _ ls st σ => match st with | .ref p :: r => zB (Nat.ble 1000003 p) (zB (Nat.ble p 1000007) (nx ls (.ref (p + 100) :: r) σ)) | _ => False
noncomputable def o_gSc : zOp := fun _ _ nx _ ls st σ => match st with | .ref p :: r => zB (Nat.ble 1000003 p) (zB (Nat.ble p 1000007) (nx ls (.int 0 :: r) σ)) | _ => False
noncomputable def o_bl : zOp := fun _ _ nx _ ls st σ => match st with | .ref p :: r => zB (Nat.ble 1000103 p) (zB (Nat.ble p 1000107) (nx ls (.int (nI (zLn.getD (p - 1000103) 0)) :: r) σ)) | _ => False
noncomputable def o_bx : zOp := fun _ _ nx _ ls st σ => match st with | .int k :: .ref p :: r => zB (Nat.ble 1000103 p) (zB (Nat.ble p 1000107) (vp_in k (zLn.getD (p - 1000103) 0) ∧ nx ls (.int ((zBy.getD (p - 1000103) []).getD k.toNatClampNeg 0) :: r) σ)) | _ => False
noncomputable def o_vS (y : MethodName) (n : Nat) : zOp := fun C _ nx _ ls st σ => zPop n st [] (fun as r => match as with | .ref b :: as => zB (Nat.ble 1000003 b) (zB (Nat.ble b 1000007) (zB (Nat.ble (zWd8 r) 8) (C y (.ref b :: as) σ (fun v σ' => match v with | some v => nx ls (v :: r) σ' | none => False)))) | _ => False)
def o_nr (ty : FieldType) : zOp := fun _ Rt _ _ _ st σ => match st with | [.int x] => narrow ty (.int x) = .int x ∧ Rt (some (.int x)) σ | _ => False
theorem zAdS {G : zG} {p : Nat} (h : 1000000 ≤ p) : zAd G p = zgS G (p - 1000000) := by unfold zAd; rw [if_neg (by omega)]
section ZSR
variable {G : zG} {R : Room} {own : String} {cc : ByteArray} {nL : Nat} {ret : Option FieldType} {F : List Frame → Array Value → State → State → Prop} {cs sl : Nat} {C : zCl} {Rt : zRt} {pc : Nat} {k' : Nat}
theorem zSt_at (hs : zSok G) {p : Program} {s : State} {m : MethodId} {args : Array Value} {meth : Method} {c : Code} (hE : zEnv G own cc nL ret p s m args meth c) : zStr G s s.heap := hs _ _ hE.2.2.2.2.2.2.2.2.2.2.2.2
theorem k_ldS (hs : zSok G) {idx t : Nat} {tx : String} (hR : ∀ U, zStR G U → vk_R own idx tx (zgS G (3 + t)) U) (hd : decode cc pc = .ok (.ldc idx, 2)) : zOK G R own cc nL ret F cs sl C Rt pc (pc + 2) (o_ldS t) := by
  intro nx jp hn hj ls st σ h
  intro p e s m args below meth c hE H locs lsR hw hS hl
  have e0 : Value.ref (zgS G (3 + t)) = zV G (.ref (1000003 + t)) := by
    show _ = Value.ref (zAd G (1000003 + t))
    rw [zAdS (by omega), show 1000003 + t - 1000000 = 3 + t by omega]
  refine va_ldcS hE.1 hE.2.1 hE.2.2.2.2.2.1 (hR s (zSt_at hs hE).2.1) hd ?_
  rw [e0]
  exact hn _ _ _ h p e s m args below meth c hE H locs lsR hw hS hl
theorem k_gC (hs : zSok G) {idx : Nat} (hlk : Cond.fieldLink own idx "java/lang/String" "COMPACT_STRINGS" "Z" ∈ zWs) (hd : decode cc pc = .ok (.getstatic idx, 3)) : zOK G R own cc nL ret F cs sl C Rt pc (pc + 3) o_gC := by
  intro nx jp hn hj ls st σ h
  intro p e s m args below meth c hE H locs lsR hw hS hl
  exact va_gets hE.1 hE.2.1 (zSt_at hs hE).2.2.1 hS hE.2.2.2.2.2.1 (hE.2.2.2.2.2.2.1 _ hlk) (fun _ h9 => h9) hd (hn _ _ _ h p e s m args below meth c hE H locs lsR hw hS hl)
theorem k_gF (hs : zSok G) {idx : Nat} (hlk : Cond.fieldLink own idx "jdk/internal/util/Preconditions" "SIOOBE_FORMATTER" "Ljava/util/function/BiFunction;" ∈ zWs) (hd : decode cc pc = .ok (.getstatic idx, 3)) : zOK G R own cc nL ret F cs sl C Rt pc (pc + 3) o_gF := by
  intro nx jp hn hj ls st σ h
  intro p e s m args below meth c hE H locs lsR hw hS hl
  rcases (zSt_at hs hE).2.2.2 with z | z
  · exact va_gets hE.1 hE.2.1 z hS hE.2.2.2.2.2.1 (hE.2.2.2.2.2.2.1 _ hlk) (fun _ h9 => h9) hd (hn _ _ _ h.1 p e s m args below meth c hE H locs lsR hw hS hl)
  · have e0 : Value.ref (zgS G 200) = zV G (.ref 1000200) := by
      show _ = Value.ref (zAd G 1000200)
      rw [zAdS (by decide)]
    refine va_gets hE.1 hE.2.1 z hS hE.2.2.2.2.2.1 (hE.2.2.2.2.2.2.1 _ hlk) (fun _ h9 => h9) hd ?_
    rw [e0]
    exact hn _ _ _ h.2 p e s m args below meth c hE H locs lsR hw hS hl
theorem zSt_v (hs : zSok G) {q : Nat} (h1 : 1000003 ≤ q) (h2 : q ≤ 1000007) {p : Program} {s : State} {m : MethodId} {args : Array Value} {meth : Method} {c : Code} (hE : zEnv G own cc nL ret p s m args meth c) : va_OF "java/lang/String" "value" "[B" (.ref (zAd G (q + 100))) (zAd G q) (zA G) s s.heap := by
  have ho := ((zSt_at hs hE).1.1 (q - 1000003) (by omega)).2.2.1
  have ho : va_OF "java/lang/String" "value" "[B" (.ref (zgS G (103 + (q - 1000003)))) (zgS G (3 + (q - 1000003))) (zA G) s s.heap := ho
  rw [show 103 + (q - 1000003) = q + 100 - 1000000 by omega, show 3 + (q - 1000003) = q - 1000000 by omega, ← zAdS (G := G) (p := q + 100) (by omega), ← zAdS (G := G) (p := q) (by omega)] at ho
  exact ho
theorem zSt_c (hs : zSok G) {q : Nat} (h1 : 1000003 ≤ q) (h2 : q ≤ 1000007) {p : Program} {s : State} {m : MethodId} {args : Array Value} {meth : Method} {c : Code} (hE : zEnv G own cc nL ret p s m args meth c) : va_OF "java/lang/String" "coder" "B" (.int 0) (zAd G q) (zA G) s s.heap := by
  have ho := ((zSt_at hs hE).1.1 (q - 1000003) (by omega)).2.1
  have ho : va_OF "java/lang/String" "coder" "B" (.int 0) (zgS G (3 + (q - 1000003))) (zA G) s s.heap := ho
  rw [show 3 + (q - 1000003) = q - 1000000 by omega, ← zAdS (G := G) (p := q) (by omega)] at ho
  exact ho
theorem zSt_r (hs : zSok G) {q : Nat} (h1 : 1000003 ≤ q) (h2 : q ≤ 1000007) {p : Program} {s : State} {m : MethodId} {args : Array Value} {meth : Method} {c : Code} (hE : zEnv G own cc nL ret p s m args meth c) {H : Heap} {locs : List Loc} (hS : va_S (zA G) s.heap H locs) : ∃ cell : Cell, H[zAd G q]? = some cell ∧ cell.vm.isStatics = false ∧ s.vm.findClass "java/lang/String" = some cell.cls := by
  have hrc := vk_recv (i := q - 1000003) (zSt_at hs hE).1 (by omega) hS
  have hrc : ∃ cell : Cell, H[zgS G (3 + (q - 1000003))]? = some cell ∧ cell.vm.isStatics = false ∧ s.vm.findClass "java/lang/String" = some cell.cls := hrc
  rw [show 3 + (q - 1000003) = q - 1000000 by omega, ← zAdS (G := G) (p := q) (by omega)] at hrc
  exact hrc
theorem k_gSv (hs : zSok G) {idx : Nat} (hlk : Cond.fieldLink own idx "java/lang/String" "value" "[B" ∈ zWs) (hd : decode cc pc = .ok (.getfield idx, 3)) : zOK G R own cc nL ret F cs sl C Rt pc (pc + 3) o_gSv := by
  intro nx jp hn hj ls st σ h
  simp only [o_gSv] at h
  split at h
  · rename_i q r
    obtain ⟨h1, h⟩ := zB_out h
    obtain ⟨h2, h⟩ := zB_out h
    have h1 := Nat.le_of_ble_eq_true h1
    have h2 := Nat.le_of_ble_eq_true h2
    intro p e s m args below meth c hE H locs lsR hw hS hl
    have ho := zSt_v hs h1 h2 hE
    exact vk_getf hE.1 hE.2.1 ho hS hE.2.2.2.2.2.1 (hE.2.2.2.2.2.2.1 _ hlk) (fun _ h9 => h9) hd (hn _ _ _ h p e s m args below meth c hE H locs lsR hw hS hl)
  · exact h.elim
theorem k_gSc (hs : zSok G) {idx : Nat} (hlk : Cond.fieldLink own idx "java/lang/String" "coder" "B" ∈ zWs) (hd : decode cc pc = .ok (.getfield idx, 3)) : zOK G R own cc nL ret F cs sl C Rt pc (pc + 3) o_gSc := by
  intro nx jp hn hj ls st σ h
  simp only [o_gSc] at h
  split at h
  · rename_i q r
    obtain ⟨h1, h⟩ := zB_out h
    obtain ⟨h2, h⟩ := zB_out h
    have h1 := Nat.le_of_ble_eq_true h1
    have h2 := Nat.le_of_ble_eq_true h2
    intro p e s m args below meth c hE H locs lsR hw hS hl
    have ho := zSt_c hs h1 h2 hE
    exact vk_getf hE.1 hE.2.1 ho hS hE.2.2.2.2.2.1 (hE.2.2.2.2.2.2.1 _ hlk) (fun _ h9 => h9) hd (hn _ _ _ h p e s m args below meth c hE H locs lsR hw hS hl)
  · exact h.elim
theorem zSt_by (hs : zSok G) {q : Nat} (h1 : 1000103 ≤ q) (h2 : q ≤ 1000107) {p : Program} {s : State} {m : MethodId} {args : Array Value} {meth : Method} {c : Code} (hE : zEnv G own cc nL ret p s m args meth c) : va_T .byte (zAd G q) (zLn.getD (q - 1000103) 0) (fun j => .int ((zBy.getD (q - 1000103) []).getD j 0)) (zA G) s s.heap := by
  have ho := ((zSt_at hs hE).1.1 (q - 1000103) (by omega)).2.2.2
  have ho : va_T .byte (zgS G (103 + (q - 1000103))) (zLn.getD (q - 1000103) 0) (fun j => .int ((zBy.getD (q - 1000103) []).getD j 0)) (zA G) s s.heap := ho
  rw [show 103 + (q - 1000103) = q - 1000000 by omega, ← zAdS (G := G) (p := q) (by omega)] at ho
  exact ho
theorem k_bl (hs : zSok G) (hd : decode cc pc = .ok (.arraylength, 1)) : zOK G R own cc nL ret F cs sl C Rt pc (pc + 1) o_bl := by
  intro nx jp hn hj ls st σ h
  simp only [o_bl] at h
  split at h
  · rename_i q r
    obtain ⟨h1, h⟩ := zB_out h
    obtain ⟨h2, h⟩ := zB_out h
    intro p e s m args below meth c hE H locs lsR hw hS hl
    exact va_tlen hE.1 hE.2.1 (zSt_by hs (Nat.le_of_ble_eq_true h1) (Nat.le_of_ble_eq_true h2) hE) hS rfl hd (hn _ _ _ h p e s m args below meth c hE H locs lsR hw hS hl)
  · exact h.elim
theorem k_bx (hs : zSok G) (hd : decode cc pc = .ok (.baload, 1)) : zOK G R own cc nL ret F cs sl C Rt pc (pc + 1) o_bx := by
  intro nx jp hn hj ls st σ h
  simp only [o_bx] at h
  split at h
  · rename_i k q r
    obtain ⟨h1, h⟩ := zB_out h
    obtain ⟨h2, h⟩ := zB_out h
    intro p e s m args below meth c hE H locs lsR hw hS hl
    exact va_tb hE.1 hE.2.1 (zSt_by hs (Nat.le_of_ble_eq_true h1) (Nat.le_of_ble_eq_true h2) hE) hS h.1 rfl hd (hn _ _ _ h.2 p e s m args below meth c hE H locs lsR hw hS hl)
  · exact h.elim
theorem k_nr {ty : FieldType} {nxt : Nat} (hr : ret = some ty) (hd : decode cc pc = .ok (.ireturn, 1)) : zOK G R own cc nL ret (zF G Rt cs sl) cs sl C Rt pc nxt (o_nr ty) := by
  intro nx jp hn hj ls st σ h
  simp only [o_nr] at h
  split at h
  · intro p e s m args below meth c hE H locs lsR hw hS hl
    exact W.zret hE.1 hE.2.1 (hE.2.2.2.1.trans hr) h.1 (zqc_of h.2 hw hS args) hS.2.2 hd hE.2.2.2.2.1
  · exact h.elim
theorem k_vS (hs : zSok G) (hG : zGok G) (hR : zRoom R k' cs sl) {y : MethodName} {idx n : Nat} (hy : y.cls = "java/lang/String") (hi : Cond.initialized y.cls ∈ zWs) (him : Cond.instanceMethod y ∈ zWs) (hse : Cond.selects y.cls y y ∈ zWs) (hlk : Cond.methodLink own idx y ∈ zWs) (hdy : y.cls ≠ "java/lang/invoke/MethodHandle" ∧ y.cls ≠ "java/lang/invoke/VarHandle" ∧ (parseMethodDescriptor y.desc).map (fun d => d.parameters.length) = some n) (hd : decode cc pc = .ok (.invokevirtual idx, 3)) : zOK G R own cc nL ret F cs sl (zCalls G k') Rt pc (pc + 3) (o_vS y (n + 1)) := by
  intro nx jp hn hj ls st σ h
  obtain ⟨as, r, e1, e2, h⟩ := zPop_out h
  rw [List.append_nil] at h
  split at h
  · rename_i b as
    obtain ⟨h1, h⟩ := zB_out h
    obtain ⟨h2, h⟩ := zB_out h
    obtain ⟨h8, h⟩ := zB_out h
    have h1 := Nat.le_of_ble_eq_true h1
    have h2 := Nat.le_of_ble_eq_true h2
    intro p e s m args below meth c hE H locs lsR hw hS hl
    have e3 : st.map (zV G) = (as.map (zV G)).reverse ++ .ref (zAd G b) :: r.map (zV G) := by
      rw [e1, List.map_append, List.map_reverse, List.map_cons, List.reverse_cons, List.append_assoc]; rfl
    rw [e3]
    obtain ⟨bytes, maxL, rt, k, g1, g2, g3, g4⟩ := h
    obtain ⟨hr1, hr2⟩ := zRoom_fit hR g1 g2
    have hrc := zSt_r hs h1 h2 hE hS
    rw [← hy] at hrc
    have hp : PreV s H y.cls (zAd G b) (zPre G (.ref b :: as) σ) (as.map (zV G)) := ⟨zPre_blind hG, hrc, zpre_at hG hE hw hS⟩
    refine zcall (va_runV (Ts := zWs) (C := y.cls) ⟨hE.1, hE.2.1, hE.2.2.1, hE.2.2.2.2.2.1, hE.2.2.2.2.2.2.1⟩ g4 ⟨zcallB hE.2.2.2.2.2.2.1 g3 hi hlk hdy hr1, hE.2.2.2.2.2.2.1 _ him, hE.2.2.2.2.2.2.1 _ hse⟩ hp rfl (by rw [List.length_map]; simpa using e2) hl.1 rfl (lv_room (by rw [zwd_map]; exact Nat.le_of_ble_eq_true h8)) hd hr2) hS (fun v σ2 H1 locs1 hk hw1 hS1 => ?_)
    cases v with
    | some v => exact hn _ _ _ hk p e s m args below meth c hE H1 locs1 lsR hw1 hS1 hl
    | none => exact hk.elim
  · exact h.elim
end ZSR
