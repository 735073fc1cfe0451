def R_law : String := "SplitSlicesLaw"
def lw_P (b : Addr) (xs : List Int32) (args : Array Value) (s : State) : Prop := args = #[.ref b] ∧ s.IntsAt b xs ∧ xs.length ≤ 2560 ∧ (Jvm.Cond.and given_1 narrow_1).before args s = true
def lw_Q (_ : Array Value) (s : State) (o : Outcome) (t : State) : Prop := o = .returned (some (.int 1)) ∧ Framed s o t [] 601024 7293034
def lw_Z (below : List Frame) (a : Array Value) (s : State) : State → Prop := fun t => ∃ o, t.status = .running ∧ Ended t below o ∧ lw_Q a s o t
/-- the law's own end, with 1 on the stack, nothing written that was there before, its room as the claim has it -/
theorem lw_ret {p : Program} {l : Launch} {e : Env} {s : State} {m : MethodId} {below : List Frame} {meth : Method} {c : Code} {b : Nat} (hx : p.tables.exec = Jvm.exec) (hb : c.code = code) (hr : meth.sig.returnType = ret) (hlocks : meth.locks = false) {pc : Nat} {H : Heap} {ls : Array Slot} (hdg : decode code pc = .ok (.ireturn, 1)) : W p l e room_1 s m #[Value.ref b] below meth c H [] 601024 7293034 (lw_Z below #[Value.ref b] s) (F0 m pc ls [.int 1]) := by
  intro T hT X
  obtain ⟨fs, hret, hrun, hended, hW, hframe⟩ := X.leave (v := some (.int 1)) (hlocks := hlocks) (fun h => by rw [hr] at h; cases h)
  have hmeth' : T.vm.method? m = some meth := X.method'
  refine ⟨T.setFrames fs, ?_, .returned (some (.int 1)), hrun, hended, rfl, ⟨_, rfl⟩, hW, hframe⟩
  jvm_step X.here [X.here.top, hx, hb, hdg, hmeth', hr, ret, narrow_b1]
  (try refine ⟨rfl, ?_⟩); (try refine ⟨rfl, ?_⟩)
  first | (intro acts; rw [hret _ acts rfl rfl rfl]) | rw [hret _ _ rfl rfl rfl]
  exact Steps.refl _
/-- what holds at the law's entry: the machine, the code, the tables' words (any of lw_tbl by 'hts w (by decide +kernel)'), the script of L ints xs at the cell b, what the Statement gives of the start (any of its parts by flat_of_before) -/
def lw_At (p : Program) (s : State) (m : MethodId) (meth : Method) (c : Code) (b L : Nat) (xs : Nat → Int32) : Prop :=
  p.tables.exec = Jvm.exec ∧ c.code = code ∧ meth.sig.returnType = ret ∧ c.maxLocals = 8 ∧ s.vm.findClass R_law = some m.cls ∧ (∀ w ∈ lw_tbl, w.before #[Value.ref b] s = true) ∧ va_X b L xs s s.heap ∧ b < s.heap.size ∧ meth.locks = false ∧ (Jvm.Cond.and given_1 narrow_1).before #[Value.ref b] s = true
-- ===== the law's program =====
theorem zRoom_w {cs sl : Nat} (hc : cs ≤ 601024) (hs : sl ≤ 7293034) : zRoom room_1 9 cs sl := ⟨by decide, by decide, hc, hs⟩
/-- the law's end -/
def zFw (G : zG) (b : Nat) : List Frame → Array Value → State → State → Prop := fun below args s t => args = #[Value.ref b] → s.heap.size = zgB G → lw_Z below #[Value.ref b] s t
def o_w : zOp := fun _ _ _ _ _ st _ => match st with | [.int x] => x = 1 | _ => False
theorem k_w {G : zG} {b : Nat} {cs sl : Nat} (hc : cs ≤ 601024) (hs : sl ≤ 7293034) {C : zCl} {Rt : zRt} {pc nxt : Nat} (hd : decode code pc = .ok (.ireturn, 1)) : zOK G room_1 RL code 8 ret (zFw G b) cs sl C Rt pc nxt o_w := by
  intro nx jp hn hj ls st σ h
  simp only [o_w] at h
  split at h
  · subst h
    intro p e s m args below meth c hE H locs lsR hw hS hl
    intro T hT X
    by_cases h1 : args = #[Value.ref b]
    · by_cases h2 : s.heap.size = zgB G
      · subst h1
        have X2 : Stand p (zgL G) e room_1 s m #[Value.ref b] below meth c T [] cs sl := Stand.forget (locs := []) X (fun y hy => by rw [h2]; exact hS.2.2 y hy)
        obtain ⟨t, a1, b1⟩ := lw_ret hE.1 hE.2.1 hE.2.2.2.1 hE.2.2.2.2.1 hd T hT (stand_widen X2 hc hs)
        exact ⟨t, a1, fun _ _ => b1⟩
      · exact ⟨_, Steps.refl _, fun _ q => absurd q h2⟩
    · exact ⟨_, Steps.refl _, fun q => absurd q h1⟩
  · exact h.elim
theorem mk_L_23 : zMk RL 23 yX11_sign := Or.inl (zWs_in 386 (by decide +kernel) rfl)
theorem dy_X11_sign : yX11_sign.cls ≠ "java/lang/invoke/MethodHandle" ∧ yX11_sign.cls ≠ "java/lang/invoke/VarHandle" ∧ (parseMethodDescriptor yX11_sign.desc).map (fun d => d.parameters.length) = some 1 := by decide +kernel
theorem im_X11_sign : Cond.instanceMethod yX11_sign ∈ zWs := (zWs_in 387 (by decide +kernel) rfl)
theorem se_X11_sign : Cond.selects yX11_sign.cls yX11_sign yX11_sign ∈ zWs := (zWs_in 388 (by decide +kernel) rfl)
theorem mk_L_27 : zMk RL 27 yX12_sign := Or.inl (zWs_in 1222 (by decide +kernel) rfl)
theorem dy_X12_sign : yX12_sign.cls ≠ "java/lang/invoke/MethodHandle" ∧ yX12_sign.cls ≠ "java/lang/invoke/VarHandle" ∧ (parseMethodDescriptor yX12_sign.desc).map (fun d => d.parameters.length) = some 1 := by decide +kernel
theorem im_X12_sign : Cond.instanceMethod yX12_sign ∈ zWs := (zWs_in 1223 (by decide +kernel) rfl)
theorem se_X12_sign : Cond.selects yX12_sign.cls yX12_sign yX12_sign ∈ zWs := (zWs_in 1224 (by decide +kernel) rfl)
theorem mk_L_28 : zMk RL 28 yX11_end := Or.inl (zWs_in 398 (by decide +kernel) rfl)
theorem dy_X11_end : yX11_end.cls ≠ "java/lang/invoke/MethodHandle" ∧ yX11_end.cls ≠ "java/lang/invoke/VarHandle" ∧ (parseMethodDescriptor yX11_end.desc).map (fun d => d.parameters.length) = some 1 := by decide +kernel
theorem im_X11_end : Cond.instanceMethod yX11_end ∈ zWs := (zWs_in 399 (by decide +kernel) rfl)
theorem se_X11_end : Cond.selects yX11_end.cls yX11_end yX11_end ∈ zWs := (zWs_in 400 (by decide +kernel) rfl)
theorem mk_L_32 : zMk RL 32 yX12_end := Or.inl (zWs_in 1226 (by decide +kernel) rfl)
theorem dy_X12_end : yX12_end.cls ≠ "java/lang/invoke/MethodHandle" ∧ yX12_end.cls ≠ "java/lang/invoke/VarHandle" ∧ (parseMethodDescriptor yX12_end.desc).map (fun d => d.parameters.length) = some 1 := by decide +kernel
theorem im_X12_end : Cond.instanceMethod yX12_end ∈ zWs := (zWs_in 1227 (by decide +kernel) rfl)
theorem se_X12_end : Cond.selects yX12_end.cls yX12_end yX12_end ∈ zWs := (zWs_in 1228 (by decide +kernel) rfl)
theorem mk_L_33 : zMk RL 33 yX11_rows := Or.inl (zWs_in 406 (by decide +kernel) rfl)
theorem dy_X11_rows : yX11_rows.cls ≠ "java/lang/invoke/MethodHandle" ∧ yX11_rows.cls ≠ "java/lang/invoke/VarHandle" ∧ (parseMethodDescriptor yX11_rows.desc).map (fun d => d.parameters.length) = some 0 := by decide +kernel
theorem im_X11_rows : Cond.instanceMethod yX11_rows ∈ zWs := (zWs_in 407 (by decide +kernel) rfl)
theorem se_X11_rows : Cond.selects yX11_rows.cls yX11_rows yX11_rows ∈ zWs := (zWs_in 408 (by decide +kernel) rfl)
theorem mk_L_37 : zMk RL 37 yX12_rows := Or.inl (zWs_in 1233 (by decide +kernel) rfl)
theorem dy_X12_rows : yX12_rows.cls ≠ "java/lang/invoke/MethodHandle" ∧ yX12_rows.cls ≠ "java/lang/invoke/VarHandle" ∧ (parseMethodDescriptor yX12_rows.desc).map (fun d => d.parameters.length) = some 0 := by decide +kernel
theorem im_X12_rows : Cond.instanceMethod yX12_rows ∈ zWs := (zWs_in 1234 (by decide +kernel) rfl)
theorem se_X12_rows : Cond.selects yX12_rows.cls yX12_rows yX12_rows ∈ zWs := (zWs_in 1235 (by decide +kernel) rfl)
theorem mk_L_43 : zMk RL 43 yX12_row := Or.inl (zWs_in 1288 (by decide +kernel) rfl)
theorem dy_X12_row : yX12_row.cls ≠ "java/lang/invoke/MethodHandle" ∧ yX12_row.cls ≠ "java/lang/invoke/VarHandle" ∧ (parseMethodDescriptor yX12_row.desc).map (fun d => d.parameters.length) = some 2 := by decide +kernel
theorem im_X12_row : Cond.instanceMethod yX12_row ∈ zWs := (zWs_in 1289 (by decide +kernel) rfl)
theorem se_X12_row : Cond.selects yX12_row.cls yX12_row yX12_row ∈ zWs := (zWs_in 1290 (by decide +kernel) rfl)
theorem mk_L_44 : zMk RL 44 yX12_thrown := Or.inl (zWs_in 1218 (by decide +kernel) rfl)
theorem dy_X12_thrown : yX12_thrown.cls ≠ "java/lang/invoke/MethodHandle" ∧ yX12_thrown.cls ≠ "java/lang/invoke/VarHandle" ∧ (parseMethodDescriptor yX12_thrown.desc).map (fun d => d.parameters.length) = some 0 := by decide +kernel
theorem im_X12_thrown : Cond.instanceMethod yX12_thrown ∈ zWs := (zWs_in 1219 (by decide +kernel) rfl)
theorem se_X12_thrown : Cond.selects yX12_thrown.cls yX12_thrown yX12_thrown ∈ zWs := (zWs_in 1220 (by decide +kernel) rfl)
theorem mk_L_47 : zMk RL 47 yX11_sheet := Or.inl (zWs_in 540 (by decide +kernel) rfl)
theorem dy_X11_sheet : yX11_sheet.cls ≠ "java/lang/invoke/MethodHandle" ∧ yX11_sheet.cls ≠ "java/lang/invoke/VarHandle" ∧ (parseMethodDescriptor yX11_sheet.desc).map (fun d => d.parameters.length) = some 4 := by decide +kernel
theorem im_X11_sheet : Cond.instanceMethod yX11_sheet ∈ zWs := (zWs_in 541 (by decide +kernel) rfl)
theorem se_X11_sheet : Cond.selects yX11_sheet.cls yX11_sheet yX11_sheet ∈ zWs := (zWs_in 542 (by decide +kernel) rfl)
theorem mk_L_51 : zMk RL 51 yX12_sheet := Or.inl (zWs_in 1306 (by decide +kernel) rfl)
theorem dy_X12_sheet : yX12_sheet.cls ≠ "java/lang/invoke/MethodHandle" ∧ yX12_sheet.cls ≠ "java/lang/invoke/VarHandle" ∧ (parseMethodDescriptor yX12_sheet.desc).map (fun d => d.parameters.length) = some 4 := by decide +kernel
theorem im_X12_sheet : Cond.instanceMethod yX12_sheet ∈ zWs := (zWs_in 1307 (by decide +kernel) rfl)
theorem se_X12_sheet : Cond.selects yX12_sheet.cls yX12_sheet yX12_sheet ∈ zWs := (zWs_in 1308 (by decide +kernel) rfl)
theorem mk_L_52 : zMk RL 52 yX11_becomes := Or.inl (zWs_in 554 (by decide +kernel) rfl)
theorem dy_X11_becomes : yX11_becomes.cls ≠ "java/lang/invoke/MethodHandle" ∧ yX11_becomes.cls ≠ "java/lang/invoke/VarHandle" ∧ (parseMethodDescriptor yX11_becomes.desc).map (fun d => d.parameters.length) = some 2 := by decide +kernel
theorem im_X11_becomes : Cond.instanceMethod yX11_becomes ∈ zWs := (zWs_in 555 (by decide +kernel) rfl)
theorem se_X11_becomes : Cond.selects yX11_becomes.cls yX11_becomes yX11_becomes ∈ zWs := (zWs_in 556 (by decide +kernel) rfl)
theorem mk_L_55 : zMk RL 55 yX12_becomes := Or.inl (zWs_in 1310 (by decide +kernel) rfl)
theorem dy_X12_becomes : yX12_becomes.cls ≠ "java/lang/invoke/MethodHandle" ∧ yX12_becomes.cls ≠ "java/lang/invoke/VarHandle" ∧ (parseMethodDescriptor yX12_becomes.desc).map (fun d => d.parameters.length) = some 2 := by decide +kernel
theorem im_X12_becomes : Cond.instanceMethod yX12_becomes ∈ zWs := (zWs_in 1311 (by decide +kernel) rfl)
theorem se_X12_becomes : Cond.selects yX12_becomes.cls yX12_becomes yX12_becomes ∈ zWs := (zWs_in 1312 (by decide +kernel) rfl)
theorem mk_L_56 : zMk RL 56 yX11_adds := Or.inl (zWs_in 564 (by decide +kernel) rfl)
theorem dy_X11_adds : yX11_adds.cls ≠ "java/lang/invoke/MethodHandle" ∧ yX11_adds.cls ≠ "java/lang/invoke/VarHandle" ∧ (parseMethodDescriptor yX11_adds.desc).map (fun d => d.parameters.length) = some 3 := by decide +kernel
theorem im_X11_adds : Cond.instanceMethod yX11_adds ∈ zWs := (zWs_in 565 (by decide +kernel) rfl)
theorem se_X11_adds : Cond.selects yX11_adds.cls yX11_adds yX11_adds ∈ zWs := (zWs_in 566 (by decide +kernel) rfl)
theorem mk_L_60 : zMk RL 60 yX12_adds := Or.inl (zWs_in 1322 (by decide +kernel) rfl)
theorem dy_X12_adds : yX12_adds.cls ≠ "java/lang/invoke/MethodHandle" ∧ yX12_adds.cls ≠ "java/lang/invoke/VarHandle" ∧ (parseMethodDescriptor yX12_adds.desc).map (fun d => d.parameters.length) = some 3 := by decide +kernel
theorem im_X12_adds : Cond.instanceMethod yX12_adds ∈ zWs := (zWs_in 1323 (by decide +kernel) rfl)
theorem se_X12_adds : Cond.selects yX12_adds.cls yX12_adds yX12_adds ∈ zWs := (zWs_in 1324 (by decide +kernel) rfl)
theorem mk_L_61 : zMk RL 61 yX11_drops := Or.inl (zWs_in 573 (by decide +kernel) rfl)
theorem dy_X11_drops : yX11_drops.cls ≠ "java/lang/invoke/MethodHandle" ∧ yX11_drops.cls ≠ "java/lang/invoke/VarHandle" ∧ (parseMethodDescriptor yX11_drops.desc).map (fun d => d.parameters.length) = some 1 := by decide +kernel
theorem im_X11_drops : Cond.instanceMethod yX11_drops ∈ zWs := (zWs_in 574 (by decide +kernel) rfl)
theorem se_X11_drops : Cond.selects yX11_drops.cls yX11_drops yX11_drops ∈ zWs := (zWs_in 575 (by decide +kernel) rfl)
theorem mk_L_64 : zMk RL 64 yX12_drops := Or.inl (zWs_in 1334 (by decide +kernel) rfl)
theorem dy_X12_drops : yX12_drops.cls ≠ "java/lang/invoke/MethodHandle" ∧ yX12_drops.cls ≠ "java/lang/invoke/VarHandle" ∧ (parseMethodDescriptor yX12_drops.desc).map (fun d => d.parameters.length) = some 1 := by decide +kernel
theorem im_X12_drops : Cond.instanceMethod yX12_drops ∈ zWs := (zWs_in 1335 (by decide +kernel) rfl)
theorem se_X12_drops : Cond.selects yX12_drops.cls yX12_drops yX12_drops ∈ zWs := (zWs_in 1336 (by decide +kernel) rfl)
theorem mk_L_65 : zMk RL 65 yX11_slice := Or.inl (zWs_in 581 (by decide +kernel) rfl)
theorem dy_X11_slice : yX11_slice.cls ≠ "java/lang/invoke/MethodHandle" ∧ yX11_slice.cls ≠ "java/lang/invoke/VarHandle" ∧ (parseMethodDescriptor yX11_slice.desc).map (fun d => d.parameters.length) = some 3 := by decide +kernel
theorem im_X11_slice : Cond.instanceMethod yX11_slice ∈ zWs := (zWs_in 582 (by decide +kernel) rfl)
theorem se_X11_slice : Cond.selects yX11_slice.cls yX11_slice yX11_slice ∈ zWs := (zWs_in 583 (by decide +kernel) rfl)
theorem mk_L_68 : zMk RL 68 yX12_slice := Or.inl (zWs_in 1342 (by decide +kernel) rfl)
theorem dy_X12_slice : yX12_slice.cls ≠ "java/lang/invoke/MethodHandle" ∧ yX12_slice.cls ≠ "java/lang/invoke/VarHandle" ∧ (parseMethodDescriptor yX12_slice.desc).map (fun d => d.parameters.length) = some 3 := by decide +kernel
theorem im_X12_slice : Cond.instanceMethod yX12_slice ∈ zWs := (zWs_in 1343 (by decide +kernel) rfl)
theorem se_X12_slice : Cond.selects yX12_slice.cls yX12_slice yX12_slice ∈ zWs := (zWs_in 1344 (by decide +kernel) rfl)
theorem mk_L_69 : zMk RL 69 yX11_inside := Or.inl (zWs_in 678 (by decide +kernel) rfl)
theorem dy_X11_inside : yX11_inside.cls ≠ "java/lang/invoke/MethodHandle" ∧ yX11_inside.cls ≠ "java/lang/invoke/VarHandle" ∧ (parseMethodDescriptor yX11_inside.desc).map (fun d => d.parameters.length) = some 4 := by decide +kernel
theorem im_X11_inside : Cond.instanceMethod yX11_inside ∈ zWs := (zWs_in 679 (by decide +kernel) rfl)
theorem se_X11_inside : Cond.selects yX11_inside.cls yX11_inside yX11_inside ∈ zWs := (zWs_in 680 (by decide +kernel) rfl)
theorem mk_L_72 : zMk RL 72 yX12_inside := Or.inl (zWs_in 1412 (by decide +kernel) rfl)
theorem dy_X12_inside : yX12_inside.cls ≠ "java/lang/invoke/MethodHandle" ∧ yX12_inside.cls ≠ "java/lang/invoke/VarHandle" ∧ (parseMethodDescriptor yX12_inside.desc).map (fun d => d.parameters.length) = some 4 := by decide +kernel
theorem im_X12_inside : Cond.instanceMethod yX12_inside ∈ zWs := (zWs_in 1413 (by decide +kernel) rfl)
theorem se_X12_inside : Cond.selects yX12_inside.cls yX12_inside yX12_inside ∈ zWs := (zWs_in 1414 (by decide +kernel) rfl)
theorem mk_L_73 : zMk RL 73 yX11_round := Or.inl (zWs_in 703 (by decide +kernel) rfl)
theorem dy_X11_round : yX11_round.cls ≠ "java/lang/invoke/MethodHandle" ∧ yX11_round.cls ≠ "java/lang/invoke/VarHandle" ∧ (parseMethodDescriptor yX11_round.desc).map (fun d => d.parameters.length) = some 3 := by decide +kernel
theorem im_X11_round : Cond.instanceMethod yX11_round ∈ zWs := (zWs_in 704 (by decide +kernel) rfl)
theorem se_X11_round : Cond.selects yX11_round.cls yX11_round yX11_round ∈ zWs := (zWs_in 705 (by decide +kernel) rfl)
theorem mk_L_76 : zMk RL 76 yX12_round := Or.inl (zWs_in 1430 (by decide +kernel) rfl)
theorem dy_X12_round : yX12_round.cls ≠ "java/lang/invoke/MethodHandle" ∧ yX12_round.cls ≠ "java/lang/invoke/VarHandle" ∧ (parseMethodDescriptor yX12_round.desc).map (fun d => d.parameters.length) = some 3 := by decide +kernel
theorem im_X12_round : Cond.instanceMethod yX12_round ∈ zWs := (zWs_in 1431 (by decide +kernel) rfl)
theorem se_X12_round : Cond.selects yX12_round.cls yX12_round yX12_round ∈ zWs := (zWs_in 1432 (by decide +kernel) rfl)
theorem mk_L_77 : zMk RL 77 yX11_splits := Or.inl (zWs_in 707 (by decide +kernel) rfl)
theorem dy_X11_splits : yX11_splits.cls ≠ "java/lang/invoke/MethodHandle" ∧ yX11_splits.cls ≠ "java/lang/invoke/VarHandle" ∧ (parseMethodDescriptor yX11_splits.desc).map (fun d => d.parameters.length) = some 4 := by decide +kernel
theorem im_X11_splits : Cond.instanceMethod yX11_splits ∈ zWs := (zWs_in 708 (by decide +kernel) rfl)
theorem se_X11_splits : Cond.selects yX11_splits.cls yX11_splits yX11_splits ∈ zWs := (zWs_in 709 (by decide +kernel) rfl)
theorem mk_L_80 : zMk RL 80 yX12_splits := Or.inl (zWs_in 1434 (by decide +kernel) rfl)
theorem dy_X12_splits : yX12_splits.cls ≠ "java/lang/invoke/MethodHandle" ∧ yX12_splits.cls ≠ "java/lang/invoke/VarHandle" ∧ (parseMethodDescriptor yX12_splits.desc).map (fun d => d.parameters.length) = some 4 := by decide +kernel
theorem im_X12_splits : Cond.instanceMethod yX12_splits ∈ zWs := (zWs_in 1435 (by decide +kernel) rfl)
theorem se_X12_splits : Cond.selects yX12_splits.cls yX12_splits yX12_splits ∈ zWs := (zWs_in 1436 (by decide +kernel) rfl)
theorem mk_L_81 : zMk RL 81 yX11_slices := Or.inl (zWs_in 713 (by decide +kernel) rfl)
theorem dy_X11_slices : yX11_slices.cls ≠ "java/lang/invoke/MethodHandle" ∧ yX11_slices.cls ≠ "java/lang/invoke/VarHandle" ∧ (parseMethodDescriptor yX11_slices.desc).map (fun d => d.parameters.length) = some 1 := by decide +kernel
theorem im_X11_slices : Cond.instanceMethod yX11_slices ∈ zWs := (zWs_in 714 (by decide +kernel) rfl)
theorem se_X11_slices : Cond.selects yX11_slices.cls yX11_slices yX11_slices ∈ zWs := (zWs_in 715 (by decide +kernel) rfl)
theorem mk_L_84 : zMk RL 84 yX12_slices := Or.inl (zWs_in 1438 (by decide +kernel) rfl)
theorem dy_X12_slices : yX12_slices.cls ≠ "java/lang/invoke/MethodHandle" ∧ yX12_slices.cls ≠ "java/lang/invoke/VarHandle" ∧ (parseMethodDescriptor yX12_slices.desc).map (fun d => d.parameters.length) = some 1 := by decide +kernel
theorem im_X12_slices : Cond.instanceMethod yX12_slices ∈ zWs := (zWs_in 1439 (by decide +kernel) rfl)
theorem se_X12_slices : Cond.selects yX12_slices.cls yX12_slices yX12_slices ∈ zWs := (zWs_in 1440 (by decide +kernel) rfl)
theorem mk_L_85 : zMk RL 85 yX11_cut := Or.inl (zWs_in 730 (by decide +kernel) rfl)
theorem dy_X11_cut : yX11_cut.cls ≠ "java/lang/invoke/MethodHandle" ∧ yX11_cut.cls ≠ "java/lang/invoke/VarHandle" ∧ (parseMethodDescriptor yX11_cut.desc).map (fun d => d.parameters.length) = some 3 := by decide +kernel
theorem im_X11_cut : Cond.instanceMethod yX11_cut ∈ zWs := (zWs_in 731 (by decide +kernel) rfl)
theorem se_X11_cut : Cond.selects yX11_cut.cls yX11_cut yX11_cut ∈ zWs := (zWs_in 732 (by decide +kernel) rfl)
theorem mk_L_88 : zMk RL 88 yX12_cut := Or.inl (zWs_in 1442 (by decide +kernel) rfl)
theorem dy_X12_cut : yX12_cut.cls ≠ "java/lang/invoke/MethodHandle" ∧ yX12_cut.cls ≠ "java/lang/invoke/VarHandle" ∧ (parseMethodDescriptor yX12_cut.desc).map (fun d => d.parameters.length) = some 3 := by decide +kernel
theorem im_X12_cut : Cond.instanceMethod yX12_cut ∈ zWs := (zWs_in 1443 (by decide +kernel) rfl)
theorem se_X12_cut : Cond.selects yX12_cut.cls yX12_cut yX12_cut ∈ zWs := (zWs_in 1444 (by decide +kernel) rfl)
theorem mk_L_89 : zMk RL 89 yX11_stores := Or.inl (zWs_in 765 (by decide +kernel) rfl)
theorem dy_X11_stores : yX11_stores.cls ≠ "java/lang/invoke/MethodHandle" ∧ yX11_stores.cls ≠ "java/lang/invoke/VarHandle" ∧ (parseMethodDescriptor yX11_stores.desc).map (fun d => d.parameters.length) = some 3 := by decide +kernel
theorem im_X11_stores : Cond.instanceMethod yX11_stores ∈ zWs := (zWs_in 766 (by decide +kernel) rfl)
theorem se_X11_stores : Cond.selects yX11_stores.cls yX11_stores yX11_stores ∈ zWs := (zWs_in 767 (by decide +kernel) rfl)
theorem mk_L_92 : zMk RL 92 yX12_stores := Or.inl (zWs_in 1463 (by decide +kernel) rfl)
theorem dy_X12_stores : yX12_stores.cls ≠ "java/lang/invoke/MethodHandle" ∧ yX12_stores.cls ≠ "java/lang/invoke/VarHandle" ∧ (parseMethodDescriptor yX12_stores.desc).map (fun d => d.parameters.length) = some 3 := by decide +kernel
theorem im_X12_stores : Cond.instanceMethod yX12_stores ∈ zWs := (zWs_in 1464 (by decide +kernel) rfl)
theorem se_X12_stores : Cond.selects yX12_stores.cls yX12_stores yX12_stores ∈ zWs := (zWs_in 1465 (by decide +kernel) rfl)
theorem mk_L_93 : zMk RL 93 yX11_checks := Or.inl (zWs_in 777 (by decide +kernel) rfl)
theorem dy_X11_checks : yX11_checks.cls ≠ "java/lang/invoke/MethodHandle" ∧ yX11_checks.cls ≠ "java/lang/invoke/VarHandle" ∧ (parseMethodDescriptor yX11_checks.desc).map (fun d => d.parameters.length) = some 1 := by decide +kernel
theorem im_X11_checks : Cond.instanceMethod yX11_checks ∈ zWs := (zWs_in 778 (by decide +kernel) rfl)
theorem se_X11_checks : Cond.selects yX11_checks.cls yX11_checks yX11_checks ∈ zWs := (zWs_in 779 (by decide +kernel) rfl)
theorem mk_L_96 : zMk RL 96 yX12_checks := Or.inl (zWs_in 1475 (by decide +kernel) rfl)
theorem dy_X12_checks : yX12_checks.cls ≠ "java/lang/invoke/MethodHandle" ∧ yX12_checks.cls ≠ "java/lang/invoke/VarHandle" ∧ (parseMethodDescriptor yX12_checks.desc).map (fun d => d.parameters.length) = some 1 := by decide +kernel
theorem im_X12_checks : Cond.instanceMethod yX12_checks ∈ zWs := (zWs_in 1476 (by decide +kernel) rfl)
theorem se_X12_checks : Cond.selects yX12_checks.cls yX12_checks yX12_checks ∈ zWs := (zWs_in 1477 (by decide +kernel) rfl)
theorem mk_L_97 : zMk RL 97 yX11_stronger := Or.inl (zWs_in 795 (by decide +kernel) rfl)
theorem dy_X11_stronger : yX11_stronger.cls ≠ "java/lang/invoke/MethodHandle" ∧ yX11_stronger.cls ≠ "java/lang/invoke/VarHandle" ∧ (parseMethodDescriptor yX11_stronger.desc).map (fun d => d.parameters.length) = some 1 := by decide +kernel
theorem im_X11_stronger : Cond.instanceMethod yX11_stronger ∈ zWs := (zWs_in 796 (by decide +kernel) rfl)
theorem se_X11_stronger : Cond.selects yX11_stronger.cls yX11_stronger yX11_stronger ∈ zWs := (zWs_in 797 (by decide +kernel) rfl)
theorem mk_L_100 : zMk RL 100 yX12_stronger := Or.inl (zWs_in 1495 (by decide +kernel) rfl)
theorem dy_X12_stronger : yX12_stronger.cls ≠ "java/lang/invoke/MethodHandle" ∧ yX12_stronger.cls ≠ "java/lang/invoke/VarHandle" ∧ (parseMethodDescriptor yX12_stronger.desc).map (fun d => d.parameters.length) = some 1 := by decide +kernel
theorem im_X12_stronger : Cond.instanceMethod yX12_stronger ∈ zWs := (zWs_in 1496 (by decide +kernel) rfl)
theorem se_X12_stronger : Cond.selects yX12_stronger.cls yX12_stronger yX12_stronger ∈ zWs := (zWs_in 1497 (by decide +kernel) rfl)
theorem mk_L_101 : zMk RL 101 yX11_clears := Or.inl (zWs_in 820 (by decide +kernel) rfl)
theorem dy_X11_clears : yX11_clears.cls ≠ "java/lang/invoke/MethodHandle" ∧ yX11_clears.cls ≠ "java/lang/invoke/VarHandle" ∧ (parseMethodDescriptor yX11_clears.desc).map (fun d => d.parameters.length) = some 0 := by decide +kernel
theorem im_X11_clears : Cond.instanceMethod yX11_clears ∈ zWs := (zWs_in 821 (by decide +kernel) rfl)
theorem se_X11_clears : Cond.selects yX11_clears.cls yX11_clears yX11_clears ∈ zWs := (zWs_in 822 (by decide +kernel) rfl)
theorem mk_L_104 : zMk RL 104 yX12_clears := Or.inl (zWs_in 1503 (by decide +kernel) rfl)
theorem dy_X12_clears : yX12_clears.cls ≠ "java/lang/invoke/MethodHandle" ∧ yX12_clears.cls ≠ "java/lang/invoke/VarHandle" ∧ (parseMethodDescriptor yX12_clears.desc).map (fun d => d.parameters.length) = some 0 := by decide +kernel
theorem im_X12_clears : Cond.instanceMethod yX12_clears ∈ zWs := (zWs_in 1504 (by decide +kernel) rfl)
theorem se_X12_clears : Cond.selects yX12_clears.cls yX12_clears yX12_clears ∈ zWs := (zWs_in 1505 (by decide +kernel) rfl)
theorem mk_L_105 : zMk RL 105 yX11_breaks := Or.inl (zWs_in 828 (by decide +kernel) rfl)
theorem dy_X11_breaks : yX11_breaks.cls ≠ "java/lang/invoke/MethodHandle" ∧ yX11_breaks.cls ≠ "java/lang/invoke/VarHandle" ∧ (parseMethodDescriptor yX11_breaks.desc).map (fun d => d.parameters.length) = some 3 := by decide +kernel
theorem im_X11_breaks : Cond.instanceMethod yX11_breaks ∈ zWs := (zWs_in 829 (by decide +kernel) rfl)
theorem se_X11_breaks : Cond.selects yX11_breaks.cls yX11_breaks yX11_breaks ∈ zWs := (zWs_in 830 (by decide +kernel) rfl)
theorem mk_L_108 : zMk RL 108 yX12_breaks := Or.inl (zWs_in 1507 (by decide +kernel) rfl)
theorem dy_X12_breaks : yX12_breaks.cls ≠ "java/lang/invoke/MethodHandle" ∧ yX12_breaks.cls ≠ "java/lang/invoke/VarHandle" ∧ (parseMethodDescriptor yX12_breaks.desc).map (fun d => d.parameters.length) = some 3 := by decide +kernel
theorem im_X12_breaks : Cond.instanceMethod yX12_breaks ∈ zWs := (zWs_in 1508 (by decide +kernel) rfl)
theorem se_X12_breaks : Cond.selects yX12_breaks.cls yX12_breaks yX12_breaks ∈ zWs := (zWs_in 1509 (by decide +kernel) rfl)
theorem mk_L_109 : zMk RL 109 yX11_wholes := Or.inl (zWs_in 837 (by decide +kernel) rfl)
theorem dy_X11_wholes : yX11_wholes.cls ≠ "java/lang/invoke/MethodHandle" ∧ yX11_wholes.cls ≠ "java/lang/invoke/VarHandle" ∧ (parseMethodDescriptor yX11_wholes.desc).map (fun d => d.parameters.length) = some 0 := by decide +kernel
theorem im_X11_wholes : Cond.instanceMethod yX11_wholes ∈ zWs := (zWs_in 838 (by decide +kernel) rfl)
theorem se_X11_wholes : Cond.selects yX11_wholes.cls yX11_wholes yX11_wholes ∈ zWs := (zWs_in 839 (by decide +kernel) rfl)
theorem mk_L_112 : zMk RL 112 yX12_wholes := Or.inl (zWs_in 1511 (by decide +kernel) rfl)
theorem dy_X12_wholes : yX12_wholes.cls ≠ "java/lang/invoke/MethodHandle" ∧ yX12_wholes.cls ≠ "java/lang/invoke/VarHandle" ∧ (parseMethodDescriptor yX12_wholes.desc).map (fun d => d.parameters.length) = some 0 := by decide +kernel
theorem im_X12_wholes : Cond.instanceMethod yX12_wholes ∈ zWs := (zWs_in 1512 (by decide +kernel) rfl)
theorem se_X12_wholes : Cond.selects yX12_wholes.cls yX12_wholes yX12_wholes ∈ zWs := (zWs_in 1513 (by decide +kernel) rfl)
theorem mk_L_113 : zMk RL 113 yX11_hull := Or.inl (zWs_in 846 (by decide +kernel) rfl)
theorem dy_X11_hull : yX11_hull.cls ≠ "java/lang/invoke/MethodHandle" ∧ yX11_hull.cls ≠ "java/lang/invoke/VarHandle" ∧ (parseMethodDescriptor yX11_hull.desc).map (fun d => d.parameters.length) = some 0 := by decide +kernel
theorem im_X11_hull : Cond.instanceMethod yX11_hull ∈ zWs := (zWs_in 847 (by decide +kernel) rfl)
theorem se_X11_hull : Cond.selects yX11_hull.cls yX11_hull yX11_hull ∈ zWs := (zWs_in 848 (by decide +kernel) rfl)
theorem mk_L_116 : zMk RL 116 yX12_hull := Or.inl (zWs_in 1519 (by decide +kernel) rfl)
theorem dy_X12_hull : yX12_hull.cls ≠ "java/lang/invoke/MethodHandle" ∧ yX12_hull.cls ≠ "java/lang/invoke/VarHandle" ∧ (parseMethodDescriptor yX12_hull.desc).map (fun d => d.parameters.length) = some 0 := by decide +kernel
theorem im_X12_hull : Cond.instanceMethod yX12_hull ∈ zWs := (zWs_in 1520 (by decide +kernel) rfl)
theorem se_X12_hull : Cond.selects yX12_hull.cls yX12_hull yX12_hull ∈ zWs := (zWs_in 1521 (by decide +kernel) rfl)
theorem mk_L_117 : zMk RL 117 yX11_nearest := Or.inl (zWs_in 862 (by decide +kernel) rfl)
theorem dy_X11_nearest : yX11_nearest.cls ≠ "java/lang/invoke/MethodHandle" ∧ yX11_nearest.cls ≠ "java/lang/invoke/VarHandle" ∧ (parseMethodDescriptor yX11_nearest.desc).map (fun d => d.parameters.length) = some 3 := by decide +kernel
theorem im_X11_nearest : Cond.instanceMethod yX11_nearest ∈ zWs := (zWs_in 863 (by decide +kernel) rfl)
theorem se_X11_nearest : Cond.selects yX11_nearest.cls yX11_nearest yX11_nearest ∈ zWs := (zWs_in 864 (by decide +kernel) rfl)
theorem mk_L_120 : zMk RL 120 yX12_nearest := Or.inl (zWs_in 1535 (by decide +kernel) rfl)
theorem dy_X12_nearest : yX12_nearest.cls ≠ "java/lang/invoke/MethodHandle" ∧ yX12_nearest.cls ≠ "java/lang/invoke/VarHandle" ∧ (parseMethodDescriptor yX12_nearest.desc).map (fun d => d.parameters.length) = some 3 := by decide +kernel
theorem im_X12_nearest : Cond.instanceMethod yX12_nearest ∈ zWs := (zWs_in 1536 (by decide +kernel) rfl)
theorem se_X12_nearest : Cond.selects yX12_nearest.cls yX12_nearest yX12_nearest ∈ zWs := (zWs_in 1537 (by decide +kernel) rfl)
theorem mk_L_121 : zMk RL 121 yX11_most := Or.inl (zWs_in 871 (by decide +kernel) rfl)
theorem dy_X11_most : yX11_most.cls ≠ "java/lang/invoke/MethodHandle" ∧ yX11_most.cls ≠ "java/lang/invoke/VarHandle" ∧ (parseMethodDescriptor yX11_most.desc).map (fun d => d.parameters.length) = some 3 := by decide +kernel
theorem im_X11_most : Cond.instanceMethod yX11_most ∈ zWs := (zWs_in 872 (by decide +kernel) rfl)
theorem se_X11_most : Cond.selects yX11_most.cls yX11_most yX11_most ∈ zWs := (zWs_in 873 (by decide +kernel) rfl)
theorem mk_L_124 : zMk RL 124 yX12_most := Or.inl (zWs_in 1543 (by decide +kernel) rfl)
theorem dy_X12_most : yX12_most.cls ≠ "java/lang/invoke/MethodHandle" ∧ yX12_most.cls ≠ "java/lang/invoke/VarHandle" ∧ (parseMethodDescriptor yX12_most.desc).map (fun d => d.parameters.length) = some 3 := by decide +kernel
theorem im_X12_most : Cond.instanceMethod yX12_most ∈ zWs := (zWs_in 1544 (by decide +kernel) rfl)
theorem se_X12_most : Cond.selects yX12_most.cls yX12_most yX12_most ∈ zWs := (zWs_in 1545 (by decide +kernel) rfl)
theorem mk_L_125 : zMk RL 125 yX11_gains := Or.inl (zWs_in 918 (by decide +kernel) rfl)
theorem dy_X11_gains : yX11_gains.cls ≠ "java/lang/invoke/MethodHandle" ∧ yX11_gains.cls ≠ "java/lang/invoke/VarHandle" ∧ (parseMethodDescriptor yX11_gains.desc).map (fun d => d.parameters.length) = some 2 := by decide +kernel
theorem im_X11_gains : Cond.instanceMethod yX11_gains ∈ zWs := (zWs_in 919 (by decide +kernel) rfl)
theorem se_X11_gains : Cond.selects yX11_gains.cls yX11_gains yX11_gains ∈ zWs := (zWs_in 920 (by decide +kernel) rfl)
theorem mk_L_128 : zMk RL 128 yX12_gains := Or.inl (zWs_in 1566 (by decide +kernel) rfl)
theorem dy_X12_gains : yX12_gains.cls ≠ "java/lang/invoke/MethodHandle" ∧ yX12_gains.cls ≠ "java/lang/invoke/VarHandle" ∧ (parseMethodDescriptor yX12_gains.desc).map (fun d => d.parameters.length) = some 2 := by decide +kernel
theorem im_X12_gains : Cond.instanceMethod yX12_gains ∈ zWs := (zWs_in 1567 (by decide +kernel) rfl)
theorem se_X12_gains : Cond.selects yX12_gains.cls yX12_gains yX12_gains ∈ zWs := (zWs_in 1568 (by decide +kernel) rfl)
theorem mk_L_129 : zMk RL 129 yX11_loses := Or.inl (zWs_in 924 (by decide +kernel) rfl)
theorem dy_X11_loses : yX11_loses.cls ≠ "java/lang/invoke/MethodHandle" ∧ yX11_loses.cls ≠ "java/lang/invoke/VarHandle" ∧ (parseMethodDescriptor yX11_loses.desc).map (fun d => d.parameters.length) = some 3 := by decide +kernel
theorem im_X11_loses : Cond.instanceMethod yX11_loses ∈ zWs := (zWs_in 925 (by decide +kernel) rfl)
theorem se_X11_loses : Cond.selects yX11_loses.cls yX11_loses yX11_loses ∈ zWs := (zWs_in 926 (by decide +kernel) rfl)
theorem mk_L_132 : zMk RL 132 yX12_loses := Or.inl (zWs_in 1570 (by decide +kernel) rfl)
theorem dy_X12_loses : yX12_loses.cls ≠ "java/lang/invoke/MethodHandle" ∧ yX12_loses.cls ≠ "java/lang/invoke/VarHandle" ∧ (parseMethodDescriptor yX12_loses.desc).map (fun d => d.parameters.length) = some 3 := by decide +kernel
theorem im_X12_loses : Cond.instanceMethod yX12_loses ∈ zWs := (zWs_in 1571 (by decide +kernel) rfl)
theorem se_X12_loses : Cond.selects yX12_loses.cls yX12_loses yX12_loses ∈ zWs := (zWs_in 1572 (by decide +kernel) rfl)
theorem mk_L_133 : zMk RL 133 yX11_tightest := Or.inl (zWs_in 929 (by decide +kernel) rfl)
theorem dy_X11_tightest : yX11_tightest.cls ≠ "java/lang/invoke/MethodHandle" ∧ yX11_tightest.cls ≠ "java/lang/invoke/VarHandle" ∧ (parseMethodDescriptor yX11_tightest.desc).map (fun d => d.parameters.length) = some 0 := by decide +kernel
theorem im_X11_tightest : Cond.instanceMethod yX11_tightest ∈ zWs := (zWs_in 930 (by decide +kernel) rfl)
theorem se_X11_tightest : Cond.selects yX11_tightest.cls yX11_tightest yX11_tightest ∈ zWs := (zWs_in 931 (by decide +kernel) rfl)
theorem mk_L_136 : zMk RL 136 yX12_tightest := Or.inl (zWs_in 1574 (by decide +kernel) rfl)
theorem dy_X12_tightest : yX12_tightest.cls ≠ "java/lang/invoke/MethodHandle" ∧ yX12_tightest.cls ≠ "java/lang/invoke/VarHandle" ∧ (parseMethodDescriptor yX12_tightest.desc).map (fun d => d.parameters.length) = some 0 := by decide +kernel
theorem im_X12_tightest : Cond.instanceMethod yX12_tightest ∈ zWs := (zWs_in 1575 (by decide +kernel) rfl)
theorem se_X12_tightest : Cond.selects yX12_tightest.cls yX12_tightest yX12_tightest ∈ zWs := (zWs_in 1576 (by decide +kernel) rfl)
theorem mk_L_137 : zMk RL 137 yX11_day := Or.inl (zWs_in 933 (by decide +kernel) rfl)
theorem dy_X11_day : yX11_day.cls ≠ "java/lang/invoke/MethodHandle" ∧ yX11_day.cls ≠ "java/lang/invoke/VarHandle" ∧ (parseMethodDescriptor yX11_day.desc).map (fun d => d.parameters.length) = some 0 := by decide +kernel
theorem im_X11_day : Cond.instanceMethod yX11_day ∈ zWs := (zWs_in 934 (by decide +kernel) rfl)
theorem se_X11_day : Cond.selects yX11_day.cls yX11_day yX11_day ∈ zWs := (zWs_in 935 (by decide +kernel) rfl)
theorem mk_L_140 : zMk RL 140 yX12_day := Or.inl (zWs_in 1582 (by decide +kernel) rfl)
theorem dy_X12_day : yX12_day.cls ≠ "java/lang/invoke/MethodHandle" ∧ yX12_day.cls ≠ "java/lang/invoke/VarHandle" ∧ (parseMethodDescriptor yX12_day.desc).map (fun d => d.parameters.length) = some 0 := by decide +kernel
theorem im_X12_day : Cond.instanceMethod yX12_day ∈ zWs := (zWs_in 1583 (by decide +kernel) rfl)
theorem se_X12_day : Cond.selects yX12_day.cls yX12_day yX12_day ∈ zWs := (zWs_in 1584 (by decide +kernel) rfl)
theorem mk_L_141 : zMk RL 141 yX11_undo := Or.inl (zWs_in 961 (by decide +kernel) rfl)
theorem dy_X11_undo : yX11_undo.cls ≠ "java/lang/invoke/MethodHandle" ∧ yX11_undo.cls ≠ "java/lang/invoke/VarHandle" ∧ (parseMethodDescriptor yX11_undo.desc).map (fun d => d.parameters.length) = some 0 := by decide +kernel
theorem im_X11_undo : Cond.instanceMethod yX11_undo ∈ zWs := (zWs_in 962 (by decide +kernel) rfl)
theorem se_X11_undo : Cond.selects yX11_undo.cls yX11_undo yX11_undo ∈ zWs := (zWs_in 963 (by decide +kernel) rfl)
theorem mk_L_144 : zMk RL 144 yX12_undo := Or.inl (zWs_in 1594 (by decide +kernel) rfl)
theorem dy_X12_undo : yX12_undo.cls ≠ "java/lang/invoke/MethodHandle" ∧ yX12_undo.cls ≠ "java/lang/invoke/VarHandle" ∧ (parseMethodDescriptor yX12_undo.desc).map (fun d => d.parameters.length) = some 0 := by decide +kernel
theorem im_X12_undo : Cond.instanceMethod yX12_undo ∈ zWs := (zWs_in 1595 (by decide +kernel) rfl)
theorem se_X12_undo : Cond.selects yX12_undo.cls yX12_undo yX12_undo ∈ zWs := (zWs_in 1596 (by decide +kernel) rfl)
theorem mk_L_145 : zMk RL 145 yX11_years := Or.inl (zWs_in 969 (by decide +kernel) rfl)
theorem dy_X11_years : yX11_years.cls ≠ "java/lang/invoke/MethodHandle" ∧ yX11_years.cls ≠ "java/lang/invoke/VarHandle" ∧ (parseMethodDescriptor yX11_years.desc).map (fun d => d.parameters.length) = some 2 := by decide +kernel
theorem im_X11_years : Cond.instanceMethod yX11_years ∈ zWs := (zWs_in 970 (by decide +kernel) rfl)
theorem se_X11_years : Cond.selects yX11_years.cls yX11_years yX11_years ∈ zWs := (zWs_in 971 (by decide +kernel) rfl)
theorem mk_L_148 : zMk RL 148 yX12_years := Or.inl (zWs_in 1598 (by decide +kernel) rfl)
theorem dy_X12_years : yX12_years.cls ≠ "java/lang/invoke/MethodHandle" ∧ yX12_years.cls ≠ "java/lang/invoke/VarHandle" ∧ (parseMethodDescriptor yX12_years.desc).map (fun d => d.parameters.length) = some 2 := by decide +kernel
theorem im_X12_years : Cond.instanceMethod yX12_years ∈ zWs := (zWs_in 1599 (by decide +kernel) rfl)
theorem se_X12_years : Cond.selects yX12_years.cls yX12_years yX12_years ∈ zWs := (zWs_in 1600 (by decide +kernel) rfl)
theorem mk_L_149 : zMk RL 149 yX11_keep := Or.inl (zWs_in 986 (by decide +kernel) rfl)
theorem dy_X11_keep : yX11_keep.cls ≠ "java/lang/invoke/MethodHandle" ∧ yX11_keep.cls ≠ "java/lang/invoke/VarHandle" ∧ (parseMethodDescriptor yX11_keep.desc).map (fun d => d.parameters.length) = some 1 := by decide +kernel
theorem im_X11_keep : Cond.instanceMethod yX11_keep ∈ zWs := (zWs_in 987 (by decide +kernel) rfl)
theorem se_X11_keep : Cond.selects yX11_keep.cls yX11_keep yX11_keep ∈ zWs := (zWs_in 988 (by decide +kernel) rfl)
theorem mk_L_152 : zMk RL 152 yX12_keep := Or.inl (zWs_in 1611 (by decide +kernel) rfl)
theorem dy_X12_keep : yX12_keep.cls ≠ "java/lang/invoke/MethodHandle" ∧ yX12_keep.cls ≠ "java/lang/invoke/VarHandle" ∧ (parseMethodDescriptor yX12_keep.desc).map (fun d => d.parameters.length) = some 1 := by decide +kernel
theorem im_X12_keep : Cond.instanceMethod yX12_keep ∈ zWs := (zWs_in 1612 (by decide +kernel) rfl)
theorem se_X12_keep : Cond.selects yX12_keep.cls yX12_keep yX12_keep ∈ zWs := (zWs_in 1613 (by decide +kernel) rfl)
theorem mk_L_153 : zMk RL 153 yX11_again := Or.inl (zWs_in 991 (by decide +kernel) rfl)
theorem dy_X11_again : yX11_again.cls ≠ "java/lang/invoke/MethodHandle" ∧ yX11_again.cls ≠ "java/lang/invoke/VarHandle" ∧ (parseMethodDescriptor yX11_again.desc).map (fun d => d.parameters.length) = some 1 := by decide +kernel
theorem im_X11_again : Cond.instanceMethod yX11_again ∈ zWs := (zWs_in 992 (by decide +kernel) rfl)
theorem se_X11_again : Cond.selects yX11_again.cls yX11_again yX11_again ∈ zWs := (zWs_in 993 (by decide +kernel) rfl)
theorem mk_L_156 : zMk RL 156 yX12_again := Or.inl (zWs_in 1615 (by decide +kernel) rfl)
theorem dy_X12_again : yX12_again.cls ≠ "java/lang/invoke/MethodHandle" ∧ yX12_again.cls ≠ "java/lang/invoke/VarHandle" ∧ (parseMethodDescriptor yX12_again.desc).map (fun d => d.parameters.length) = some 1 := by decide +kernel
theorem im_X12_again : Cond.instanceMethod yX12_again ∈ zWs := (zWs_in 1616 (by decide +kernel) rfl)
theorem se_X12_again : Cond.selects yX12_again.cls yX12_again yX12_again ∈ zWs := (zWs_in 1617 (by decide +kernel) rfl)
theorem mk_L_157 : zMk RL 157 yX11_count := Or.inl (zWs_in 999 (by decide +kernel) rfl)
theorem dy_X11_count : yX11_count.cls ≠ "java/lang/invoke/MethodHandle" ∧ yX11_count.cls ≠ "java/lang/invoke/VarHandle" ∧ (parseMethodDescriptor yX11_count.desc).map (fun d => d.parameters.length) = some 1 := by decide +kernel
theorem im_X11_count : Cond.instanceMethod yX11_count ∈ zWs := (zWs_in 1000 (by decide +kernel) rfl)
theorem se_X11_count : Cond.selects yX11_count.cls yX11_count yX11_count ∈ zWs := (zWs_in 1001 (by decide +kernel) rfl)
theorem mk_L_160 : zMk RL 160 yX12_count := Or.inl (zWs_in 1619 (by decide +kernel) rfl)
theorem dy_X12_count : yX12_count.cls ≠ "java/lang/invoke/MethodHandle" ∧ yX12_count.cls ≠ "java/lang/invoke/VarHandle" ∧ (parseMethodDescriptor yX12_count.desc).map (fun d => d.parameters.length) = some 1 := by decide +kernel
theorem im_X12_count : Cond.instanceMethod yX12_count ∈ zWs := (zWs_in 1620 (by decide +kernel) rfl)
theorem se_X12_count : Cond.selects yX12_count.cls yX12_count yX12_count ∈ zWs := (zWs_in 1621 (by decide +kernel) rfl)
theorem mk_L_164 : zMk RL 164 yX12_told := Or.inl (zWs_in 1631 (by decide +kernel) rfl)
theorem dy_X12_told : yX12_told.cls ≠ "java/lang/invoke/MethodHandle" ∧ yX12_told.cls ≠ "java/lang/invoke/VarHandle" ∧ (parseMethodDescriptor yX12_told.desc).map (fun d => d.parameters.length) = some 1 := by decide +kernel
theorem im_X12_told : Cond.instanceMethod yX12_told ∈ zWs := (zWs_in 1632 (by decide +kernel) rfl)
theorem se_X12_told : Cond.selects yX12_told.cls yX12_told yX12_told ∈ zWs := (zWs_in 1633 (by decide +kernel) rfl)
noncomputable def pgL_law (G : zG) : zPg := [(20, o_ic (0)), (21, o_is 4), (23, o_il 4), (25, o_al 0), (26, o_sl 2 (zgN G)), (27, o_ic (5)), (28, o_isub), (29, o_ic_gt 1364), (32, o_al 0), (33, o_il 4), (35, o_xs 2 (zgN G) (zgX G)), (36, o_ic (63)), (38, o_iand), (39, o_sw [(0, 184), (1, 209), (2, 234), (3, 247), (4, 315), (5, 376), (6, 413), (7, 462), (8, 487), (9, 536), (10, 597), (11, 646), (12, 707), (13, 732), (14, 781), (15, 830), (16, 855), (17, 880), (18, 893), (19, 942), (20, 955), (21, 968), (22, 1017), (23, 1066), (24, 1103), (25, 1152), (26, 1165), (27, 1178), (28, 1191), (29, 1228), (30, 1253), (31, 1278), (32, 1303)] 1358), (184, o_al 1), (185, o_al 0), (186, o_il 4), (188, o_ic (1)), (189, o_iadd), (190, o_xs 2 (zgN G) (zgX G)), (191, o_vr2 yX11_sign 11 2), (194, o_al 2), (195, o_al 0), (196, o_il 4), (198, o_ic (1)), (199, o_iadd), (200, o_xs 2 (zgN G) (zgX G)), (201, o_vr2 yX12_sign 12 2), (204, o_ic_eq 1358), (207, o_ic (0)), (208, o_w), (209, o_al 1), (210, o_al 0), (211, o_il 4), (213, o_ic (1)), (214, o_iadd), (215, o_xs 2 (zgN G) (zgX G)), (216, o_vr2 yX11_end 11 2), (219, o_al 2), (220, o_al 0), (221, o_il 4), (223, o_ic (1)), (224, o_iadd), (225, o_xs 2 (zgN G) (zgX G)), (226, o_vr2 yX12_end 12 2), (229, o_ic_eq 1358), (232, o_ic (0)), (233, o_w), (234, o_al 1), (235, o_vr2 yX11_rows 11 1), (238, o_al 2), (239, o_vr2 yX12_rows 12 1), (242, o_ic_eq 1358), (245, o_ic (0)), (246, o_w), (247, o_al 1), (248, o_al 0), (249, o_il 4), (251, o_ic (1)), (252, o_iadd), (253, o_xs 2 (zgN G) (zgX G)), (254, o_al 0), (255, o_il 4), (257, o_ic (2)), (258, o_iadd), (259, o_xs 2 (zgN G) (zgX G)), (260, o_al 3), (261, o_no), (264, o_is 5), (266, o_al 2), (267, o_al 0), (268, o_il 4), (270, o_ic (1)), (271, o_iadd), (272, o_xs 2 (zgN G) (zgX G)), (273, o_al 0), (274, o_il 4), (276, o_ic (2)), (277, o_iadd), (278, o_xs 2 (zgN G) (zgX G)), (279, o_vr2 yX12_row 12 3), (282, o_is 6), (284, o_al 2), (285, o_vr2 yX12_thrown 12 1), (288, o_il 5), (290, o_ic_eq 295), (293, o_ic (0)), (294, o_w), (295, o_il 5), (297, o_if_ne 312), (300, o_al 3), (301, o_ic (0)), (302, o_xJ), (303, o_il 6), (305, o_i2l), (306, o_lc_eq 312), (310, o_ic (0)), (311, o_w), (312, o_go 1358), (315, o_al 1), (316, o_al 0), (317, o_il 4), (319, o_ic (1)), (320, o_iadd), (321, o_xs 2 (zgN G) (zgX G)), (322, o_al 0), (323, o_il 4), (325, o_ic (2)), (326, o_iadd), (327, o_xs 2 (zgN G) (zgX G)), (328, o_al 0), (329, o_il 4), (331, o_ic (3)), (332, o_iadd), (333, o_xs 2 (zgN G) (zgX G)), (334, o_al 0), (335, o_il 4), (337, o_ic (4)), (338, o_iadd), (339, o_xs 2 (zgN G) (zgX G)), (340, o_vr2 yX11_sheet 11 5), (343, o_al 2), (344, o_al 0), (345, o_il 4), (347, o_ic (1)), (348, o_iadd), (349, o_xs 2 (zgN G) (zgX G)), (350, o_al 0), (351, o_il 4), (353, o_ic (2)), (354, o_iadd), (355, o_xs 2 (zgN G) (zgX G)), (356, o_al 0), (357, o_il 4), (359, o_ic (3)), (360, o_iadd), (361, o_xs 2 (zgN G) (zgX G)), (362, o_al 0), (363, o_il 4), (365, o_ic (4)), (366, o_iadd), (367, o_xs 2 (zgN G) (zgX G)), (368, o_vr2 yX12_sheet 12 5), (371, o_ic_eq 1358), (374, o_ic (0)), (375, o_w), (376, o_al 1), (377, o_al 0), (378, o_il 4), (380, o_ic (1)), (381, o_iadd), (382, o_xs 2 (zgN G) (zgX G)), (383, o_al 0), (384, o_il 4), (386, o_ic (2)), (387, o_iadd), (388, o_xs 2 (zgN G) (zgX G)), (389, o_vr2 yX11_becomes 11 3), (392, o_al 2), (393, o_al 0), (394, o_il 4), (396, o_ic (1)), (397, o_iadd), (398, o_xs 2 (zgN G) (zgX G)), (399, o_al 0), (400, o_il 4), (402, o_ic (2)), (403, o_iadd), (404, o_xs 2 (zgN G) (zgX G)), (405, o_vr2 yX12_becomes 12 3), (408, o_ic_eq 1358), (411, o_ic (0)), (412, o_w), (413, o_al 1), (414, o_al 0), (415, o_il 4), (417, o_ic (1)), (418, o_iadd), (419, o_xs 2 (zgN G) (zgX G)), (420, o_al 0), (421, o_il 4), (423, o_ic (2)), (424, o_iadd), (425, o_xs 2 (zgN G) (zgX G)), (426, o_al 0), (427, o_il 4), (429, o_ic (3)), (430, o_iadd), (431, o_xs 2 (zgN G) (zgX G)), (432, o_vr2 yX11_adds 11 4), (435, o_al 2), (436, o_al 0), (437, o_il 4), (439, o_ic (1)), (440, o_iadd), (441, o_xs 2 (zgN G) (zgX G)), (442, o_al 0), (443, o_il 4), (445, o_ic (2)), (446, o_iadd), (447, o_xs 2 (zgN G) (zgX G)), (448, o_al 0), (449, o_il 4), (451, o_ic (3)), (452, o_iadd), (453, o_xs 2 (zgN G) (zgX G)), (454, o_vr2 yX12_adds 12 4), (457, o_ic_eq 1358), (460, o_ic (0)), (461, o_w), (462, o_al 1), (463, o_al 0), (464, o_il 4), (466, o_ic (1)), (467, o_iadd), (468, o_xs 2 (zgN G) (zgX G)), (469, o_vr2 yX11_drops 11 2), (472, o_al 2), (473, o_al 0), (474, o_il 4), (476, o_ic (1)), (477, o_iadd), (478, o_xs 2 (zgN G) (zgX G)), (479, o_vr2 yX12_drops 12 2), (482, o_ic_eq 1358), (485, o_ic (0)), (486, o_w), (487, o_al 1), (488, o_al 0), (489, o_il 4), (491, o_ic (1)), (492, o_iadd), (493, o_xs 2 (zgN G) (zgX G)), (494, o_al 0), (495, o_il 4), (497, o_ic (2)), (498, o_iadd), (499, o_xs 2 (zgN G) (zgX G)), (500, o_al 0), (501, o_il 4), (503, o_ic (3)), (504, o_iadd), (505, o_xs 2 (zgN G) (zgX G)), (506, o_vr2 yX11_slice 11 4), (509, o_al 2), (510, o_al 0), (511, o_il 4), (513, o_ic (1)), (514, o_iadd), (515, o_xs 2 (zgN G) (zgX G)), (516, o_al 0), (517, o_il 4), (519, o_ic (2)), (520, o_iadd), (521, o_xs 2 (zgN G) (zgX G)), (522, o_al 0), (523, o_il 4), (525, o_ic (3)), (526, o_iadd), (527, o_xs 2 (zgN G) (zgX G)), (528, o_vr2 yX12_slice 12 4), (531, o_ic_eq 1358), (534, o_ic (0)), (535, o_w), (536, o_al 1), (537, o_al 0), (538, o_il 4), (540, o_ic (1)), (541, o_iadd), (542, o_xs 2 (zgN G) (zgX G)), (543, o_al 0), (544, o_il 4), (546, o_ic (2)), (547, o_iadd), (548, o_xs 2 (zgN G) (zgX G)), (549, o_al 0), (550, o_il 4), (552, o_ic (3)), (553, o_iadd), (554, o_xs 2 (zgN G) (zgX G)), (555, o_al 0), (556, o_il 4), (558, o_ic (4)), (559, o_iadd), (560, o_xs 2 (zgN G) (zgX G)), (561, o_vr2 yX11_inside 11 5), (564, o_al 2), (565, o_al 0), (566, o_il 4), (568, o_ic (1)), (569, o_iadd), (570, o_xs 2 (zgN G) (zgX G)), (571, o_al 0), (572, o_il 4), (574, o_ic (2)), (575, o_iadd), (576, o_xs 2 (zgN G) (zgX G)), (577, o_al 0), (578, o_il 4), (580, o_ic (3)), (581, o_iadd), (582, o_xs 2 (zgN G) (zgX G)), (583, o_al 0), (584, o_il 4), (586, o_ic (4)), (587, o_iadd), (588, o_xs 2 (zgN G) (zgX G)), (589, o_vr2 yX12_inside 12 5), (592, o_ic_eq 1358), (595, o_ic (0)), (596, o_w), (597, o_al 1), (598, o_al 0), (599, o_il 4), (601, o_ic (1)), (602, o_iadd), (603, o_xs 2 (zgN G) (zgX G)), (604, o_al 0), (605, o_il 4), (607, o_ic (2)), (608, o_iadd), (609, o_xs 2 (zgN G) (zgX G)), (610, o_al 0), (611, o_il 4), (613, o_ic (3)), (614, o_iadd), (615, o_xs 2 (zgN G) (zgX G)), (616, o_vr2 yX11_round 11 4), (619, o_al 2), (620, o_al 0), (621, o_il 4), (623, o_ic (1)), (624, o_iadd), (625, o_xs 2 (zgN G) (zgX G)), (626, o_al 0), (627, o_il 4), (629, o_ic (2)), (630, o_iadd), (631, o_xs 2 (zgN G) (zgX G)), (632, o_al 0), (633, o_il 4), (635, o_ic (3)), (636, o_iadd), (637, o_xs 2 (zgN G) (zgX G)), (638, o_vr2 yX12_round 12 4), (641, o_ic_eq 1358), (644, o_ic (0)), (645, o_w), (646, o_al 1), (647, o_al 0), (648, o_il 4), (650, o_ic (1)), (651, o_iadd), (652, o_xs 2 (zgN G) (zgX G)), (653, o_al 0), (654, o_il 4), (656, o_ic (2)), (657, o_iadd), (658, o_xs 2 (zgN G) (zgX G)), (659, o_al 0), (660, o_il 4), (662, o_ic (3)), (663, o_iadd), (664, o_xs 2 (zgN G) (zgX G)), (665, o_al 0), (666, o_il 4), (668, o_ic (4)), (669, o_iadd), (670, o_xs 2 (zgN G) (zgX G)), (671, o_vr2 yX11_splits 11 5), (674, o_al 2), (675, o_al 0), (676, o_il 4), (678, o_ic (1)), (679, o_iadd), (680, o_xs 2 (zgN G) (zgX G)), (681, o_al 0), (682, o_il 4), (684, o_ic (2)), (685, o_iadd), (686, o_xs 2 (zgN G) (zgX G)), (687, o_al 0), (688, o_il 4), (690, o_ic (3)), (691, o_iadd), (692, o_xs 2 (zgN G) (zgX G)), (693, o_al 0), (694, o_il 4), (696, o_ic (4)), (697, o_iadd), (698, o_xs 2 (zgN G) (zgX G)), (699, o_vr2 yX12_splits 12 5), (702, o_ic_eq 1358), (705, o_ic (0)), (706, o_w), (707, o_al 1), (708, o_al 0), (709, o_il 4), (711, o_ic (1)), (712, o_iadd), (713, o_xs 2 (zgN G) (zgX G)), (714, o_vr2 yX11_slices 11 2), (717, o_al 2), (718, o_al 0), (719, o_il 4), (721, o_ic (1)), (722, o_iadd), (723, o_xs 2 (zgN G) (zgX G)), (724, o_vr2 yX12_slices 12 2), (727, o_ic_eq 1358), (730, o_ic (0)), (731, o_w), (732, o_al 1), (733, o_al 0), (734, o_il 4), (736, o_ic (1)), (737, o_iadd), (738, o_xs 2 (zgN G) (zgX G)), (739, o_al 0), (740, o_il 4), (742, o_ic (2)), (743, o_iadd), (744, o_xs 2 (zgN G) (zgX G)), (745, o_al 0), (746, o_il 4), (748, o_ic (3)), (749, o_iadd), (750, o_xs 2 (zgN G) (zgX G)), (751, o_vr2 yX11_cut 11 4), (754, o_al 2), (755, o_al 0), (756, o_il 4), (758, o_ic (1)), (759, o_iadd), (760, o_xs 2 (zgN G) (zgX G)), (761, o_al 0), (762, o_il 4), (764, o_ic (2)), (765, o_iadd), (766, o_xs 2 (zgN G) (zgX G)), (767, o_al 0), (768, o_il 4), (770, o_ic (3)), (771, o_iadd), (772, o_xs 2 (zgN G) (zgX G)), (773, o_vr2 yX12_cut 12 4), (776, o_ic_eq 1358), (779, o_ic (0)), (780, o_w), (781, o_al 1), (782, o_al 0), (783, o_il 4), (785, o_ic (1)), (786, o_iadd), (787, o_xs 2 (zgN G) (zgX G)), (788, o_al 0), (789, o_il 4), (791, o_ic (2)), (792, o_iadd), (793, o_xs 2 (zgN G) (zgX G)), (794, o_al 0), (795, o_il 4), (797, o_ic (3)), (798, o_iadd), (799, o_xs 2 (zgN G) (zgX G)), (800, o_vr2 yX11_stores 11 4), (803, o_al 2), (804, o_al 0), (805, o_il 4), (807, o_ic (1)), (808, o_iadd), (809, o_xs 2 (zgN G) (zgX G)), (810, o_al 0), (811, o_il 4), (813, o_ic (2)), (814, o_iadd), (815, o_xs 2 (zgN G) (zgX G)), (816, o_al 0), (817, o_il 4), (819, o_ic (3)), (820, o_iadd), (821, o_xs 2 (zgN G) (zgX G)), (822, o_vr2 yX12_stores 12 4), (825, o_ic_eq 1358), (828, o_ic (0)), (829, o_w), (830, o_al 1), (831, o_al 0), (832, o_il 4), (834, o_ic (1)), (835, o_iadd), (836, o_xs 2 (zgN G) (zgX G)), (837, o_vr2 yX11_checks 11 2), (840, o_al 2), (841, o_al 0), (842, o_il 4), (844, o_ic (1)), (845, o_iadd), (846, o_xs 2 (zgN G) (zgX G)), (847, o_vr2 yX12_checks 12 2), (850, o_ic_eq 1358), (853, o_ic (0)), (854, o_w), (855, o_al 1), (856, o_al 0), (857, o_il 4), (859, o_ic (1)), (860, o_iadd), (861, o_xs 2 (zgN G) (zgX G)), (862, o_vr2 yX11_stronger 11 2), (865, o_al 2), (866, o_al 0), (867, o_il 4), (869, o_ic (1)), (870, o_iadd), (871, o_xs 2 (zgN G) (zgX G)), (872, o_vr2 yX12_stronger 12 2), (875, o_ic_eq 1358), (878, o_ic (0)), (879, o_w), (880, o_al 1), (881, o_vr2 yX11_clears 11 1), (884, o_al 2), (885, o_vr2 yX12_clears 12 1), (888, o_ic_eq 1358), (891, o_ic (0)), (892, o_w), (893, o_al 1), (894, o_al 0), (895, o_il 4), (897, o_ic (1)), (898, o_iadd), (899, o_xs 2 (zgN G) (zgX G)), (900, o_al 0), (901, o_il 4), (903, o_ic (2)), (904, o_iadd), (905, o_xs 2 (zgN G) (zgX G)), (906, o_al 0), (907, o_il 4), (909, o_ic (3)), (910, o_iadd), (911, o_xs 2 (zgN G) (zgX G)), (912, o_vr2 yX11_breaks 11 4), (915, o_al 2), (916, o_al 0), (917, o_il 4), (919, o_ic (1)), (920, o_iadd), (921, o_xs 2 (zgN G) (zgX G)), (922, o_al 0), (923, o_il 4), (925, o_ic (2)), (926, o_iadd), (927, o_xs 2 (zgN G) (zgX G)), (928, o_al 0), (929, o_il 4), (931, o_ic (3)), (932, o_iadd), (933, o_xs 2 (zgN G) (zgX G)), (934, o_vr2 yX12_breaks 12 4), (937, o_ic_eq 1358), (940, o_ic (0)), (941, o_w), (942, o_al 1), (943, o_vr2 yX11_wholes 11 1), (946, o_al 2), (947, o_vr2 yX12_wholes 12 1), (950, o_ic_eq 1358), (953, o_ic (0)), (954, o_w), (955, o_al 1), (956, o_vr2 yX11_hull 11 1), (959, o_al 2), (960, o_vr2 yX12_hull 12 1), (963, o_ic_eq 1358), (966, o_ic (0)), (967, o_w), (968, o_al 1), (969, o_al 0), (970, o_il 4), (972, o_ic (1)), (973, o_iadd), (974, o_xs 2 (zgN G) (zgX G)), (975, o_al 0), (976, o_il 4), (978, o_ic (2)), (979, o_iadd), (980, o_xs 2 (zgN G) (zgX G)), (981, o_al 0), (982, o_il 4), (984, o_ic (3)), (985, o_iadd), (986, o_xs 2 (zgN G) (zgX G)), (987, o_vr2 yX11_nearest 11 4), (990, o_al 2), (991, o_al 0), (992, o_il 4), (994, o_ic (1)), (995, o_iadd), (996, o_xs 2 (zgN G) (zgX G)), (997, o_al 0), (998, o_il 4), (1000, o_ic (2)), (1001, o_iadd), (1002, o_xs 2 (zgN G) (zgX G)), (1003, o_al 0), (1004, o_il 4), (1006, o_ic (3)), (1007, o_iadd), (1008, o_xs 2 (zgN G) (zgX G)), (1009, o_vr2 yX12_nearest 12 4), (1012, o_ic_eq 1358), (1015, o_ic (0)), (1016, o_w), (1017, o_al 1), (1018, o_al 0), (1019, o_il 4), (1021, o_ic (1)), (1022, o_iadd), (1023, o_xs 2 (zgN G) (zgX G)), (1024, o_al 0), (1025, o_il 4), (1027, o_ic (2)), (1028, o_iadd), (1029, o_xs 2 (zgN G) (zgX G)), (1030, o_al 0), (1031, o_il 4), (1033, o_ic (3)), (1034, o_iadd), (1035, o_xs 2 (zgN G) (zgX G)), (1036, o_vr2 yX11_most 11 4), (1039, o_al 2), (1040, o_al 0), (1041, o_il 4), (1043, o_ic (1)), (1044, o_iadd), (1045, o_xs 2 (zgN G) (zgX G)), (1046, o_al 0), (1047, o_il 4), (1049, o_ic (2)), (1050, o_iadd), (1051, o_xs 2 (zgN G) (zgX G)), (1052, o_al 0), (1053, o_il 4), (1055, o_ic (3)), (1056, o_iadd), (1057, o_xs 2 (zgN G) (zgX G)), (1058, o_vr2 yX12_most 12 4), (1061, o_ic_eq 1358), (1064, o_ic (0)), (1065, o_w), (1066, o_al 1), (1067, o_al 0), (1068, o_il 4), (1070, o_ic (1)), (1071, o_iadd), (1072, o_xs 2 (zgN G) (zgX G)), (1073, o_al 0), (1074, o_il 4), (1076, o_ic (2)), (1077, o_iadd), (1078, o_xs 2 (zgN G) (zgX G)), (1079, o_vr2 yX11_gains 11 3), (1082, o_al 2), (1083, o_al 0), (1084, o_il 4), (1086, o_ic (1)), (1087, o_iadd), (1088, o_xs 2 (zgN G) (zgX G)), (1089, o_al 0), (1090, o_il 4), (1092, o_ic (2)), (1093, o_iadd), (1094, o_xs 2 (zgN G) (zgX G)), (1095, o_vr2 yX12_gains 12 3), (1098, o_ic_eq 1358), (1101, o_ic (0)), (1102, o_w), (1103, o_al 1), (1104, o_al 0), (1105, o_il 4), (1107, o_ic (1)), (1108, o_iadd), (1109, o_xs 2 (zgN G) (zgX G)), (1110, o_al 0), (1111, o_il 4), (1113, o_ic (2)), (1114, o_iadd), (1115, o_xs 2 (zgN G) (zgX G)), (1116, o_al 0), (1117, o_il 4), (1119, o_ic (3)), (1120, o_iadd), (1121, o_xs 2 (zgN G) (zgX G)), (1122, o_vr2 yX11_loses 11 4), (1125, o_al 2), (1126, o_al 0), (1127, o_il 4), (1129, o_ic (1)), (1130, o_iadd), (1131, o_xs 2 (zgN G) (zgX G)), (1132, o_al 0), (1133, o_il 4), (1135, o_ic (2)), (1136, o_iadd), (1137, o_xs 2 (zgN G) (zgX G)), (1138, o_al 0), (1139, o_il 4), (1141, o_ic (3)), (1142, o_iadd), (1143, o_xs 2 (zgN G) (zgX G)), (1144, o_vr2 yX12_loses 12 4), (1147, o_ic_eq 1358), (1150, o_ic (0)), (1151, o_w), (1152, o_al 1), (1153, o_vr2 yX11_tightest 11 1), (1156, o_al 2), (1157, o_vr2 yX12_tightest 12 1), (1160, o_ic_eq 1358), (1163, o_ic (0)), (1164, o_w), (1165, o_al 1), (1166, o_vr2 yX11_day 11 1), (1169, o_al 2), (1170, o_vr2 yX12_day 12 1), (1173, o_ic_eq 1358), (1176, o_ic (0)), (1177, o_w), (1178, o_al 1), (1179, o_vr2 yX11_undo 11 1), (1182, o_al 2), (1183, o_vr2 yX12_undo 12 1), (1186, o_ic_eq 1358), (1189, o_ic (0)), (1190, o_w), (1191, o_al 1), (1192, o_al 0), (1193, o_il 4), (1195, o_ic (1)), (1196, o_iadd), (1197, o_xs 2 (zgN G) (zgX G)), (1198, o_al 0), (1199, o_il 4), (1201, o_ic (2)), (1202, o_iadd), (1203, o_xs 2 (zgN G) (zgX G)), (1204, o_vr2 yX11_years 11 3), (1207, o_al 2), (1208, o_al 0), (1209, o_il 4), (1211, o_ic (1)), (1212, o_iadd), (1213, o_xs 2 (zgN G) (zgX G)), (1214, o_al 0), (1215, o_il 4), (1217, o_ic (2)), (1218, o_iadd), (1219, o_xs 2 (zgN G) (zgX G)), (1220, o_vr2 yX12_years 12 3), (1223, o_ic_eq 1358), (1226, o_ic (0)), (1227, o_w), (1228, o_al 1), (1229, o_al 0), (1230, o_il 4), (1232, o_ic (1)), (1233, o_iadd), (1234, o_xs 2 (zgN G) (zgX G)), (1235, o_vr2 yX11_keep 11 2), (1238, o_al 2), (1239, o_al 0), (1240, o_il 4), (1242, o_ic (1)), (1243, o_iadd), (1244, o_xs 2 (zgN G) (zgX G)), (1245, o_vr2 yX12_keep 12 2), (1248, o_ic_eq 1358), (1251, o_ic (0)), (1252, o_w), (1253, o_al 1), (1254, o_al 0), (1255, o_il 4), (1257, o_ic (1)), (1258, o_iadd), (1259, o_xs 2 (zgN G) (zgX G)), (1260, o_vr2 yX11_again 11 2), (1263, o_al 2), (1264, o_al 0), (1265, o_il 4), (1267, o_ic (1)), (1268, o_iadd), (1269, o_xs 2 (zgN G) (zgX G)), (1270, o_vr2 yX12_again 12 2), (1273, o_ic_eq 1358), (1276, o_ic (0)), (1277, o_w), (1278, o_al 1), (1279, o_al 0), (1280, o_il 4), (1282, o_ic (1)), (1283, o_iadd), (1284, o_xs 2 (zgN G) (zgX G)), (1285, o_vr2 yX11_count 11 2), (1288, o_al 2), (1289, o_al 0), (1290, o_il 4), (1292, o_ic (1)), (1293, o_iadd), (1294, o_xs 2 (zgN G) (zgX G)), (1295, o_vr2 yX12_count 12 2), (1298, o_ic_eq 1358), (1301, o_ic (0)), (1302, o_w), (1303, o_al 1), (1304, o_al 0), (1305, o_il 4), (1307, o_ic (1)), (1308, o_iadd), (1309, o_xs 2 (zgN G) (zgX G)), (1310, o_al 3), (1311, o_no), (1314, o_is 5), (1316, o_al 2), (1317, o_al 0), (1318, o_il 4), (1320, o_ic (1)), (1321, o_iadd), (1322, o_xs 2 (zgN G) (zgX G)), (1323, o_vr2 yX12_told 12 2), (1326, o_ls 6), (1328, o_al 2), (1329, o_vr2 yX12_thrown 12 1), (1332, o_il 5), (1334, o_ic_eq 1339), (1337, o_ic (0)), (1338, o_w), (1339, o_il 5), (1341, o_if_ne 1355), (1344, o_al 3), (1345, o_ic (0)), (1346, o_xJ), (1347, o_ll 6), (1349, o_lc_eq 1355), (1353, o_ic (0)), (1354, o_w), (1355, o_go 1358), (1358, o_inc 4 (5)), (1361, o_go 23), (1364, o_ic (1)), (1365, o_w)]
set_option maxRecDepth 40000 in
theorem pkL_law {G : zG} (hG : zGok G) {b cs sl : Nat} (hc : cs ≤ 601024) (hs : sl ≤ 7293034) (Q : zRt) : zPOK G room_1 RL code 8 ret (zFw G b) cs sl (zCalls G 9) Q (pgL_law G) := by
  refine And.intro (k_iconst (pc := 20) (by decide +kernel : decode code 20 = .ok (.iconst 0, 1)) (by decide)) ?_
  refine And.intro (k_istore (pc := 21) (by decide +kernel : decode code 21 = .ok (.istore 4, 2))) ?_
  refine And.intro (k_iload (pc := 23) (by decide +kernel : decode code 23 = .ok (.iload 4, 2))) ?_
  refine And.intro (k_aload_n (pc := 25) (by decide +kernel : decode code 25 = .ok (.aload_n 0, 1)) rfl) ?_
  refine And.intro (k_sl (pc := 26) (by decide) rfl (by decide +kernel : decode code 26 = .ok (.arraylength, 1))) ?_
  refine And.intro (k_iconst (pc := 27) (by decide +kernel : decode code 27 = .ok (.iconst 5, 1)) (by decide)) ?_
  refine And.intro (k_isub (pc := 28) (by decide +kernel : decode code 28 = .ok (.isub, 1))) ?_
  refine And.intro (k_icmp_gt (pc := 29) (by decide +kernel : decode code 29 = .ok (.if_icmp .gt 1335, 3)) (by decide)) ?_
  refine And.intro (k_aload_n (pc := 32) (by decide +kernel : decode code 32 = .ok (.aload_n 0, 1)) rfl) ?_
  refine And.intro (k_iload (pc := 33) (by decide +kernel : decode code 33 = .ok (.iload 4, 2))) ?_
  refine And.intro (k_xs (pc := 35) (by decide) rfl rfl (by decide +kernel : decode code 35 = .ok (.iaload, 1))) ?_
  refine And.intro (k_bipush (pc := 36) (by decide +kernel : decode code 36 = .ok (.bipush 63, 2)) (by decide)) ?_
  refine And.intro (k_iand (pc := 38) (by decide +kernel : decode code 38 = .ok (.iand, 1))) ?_
  refine And.intro (k_tsw (pc := 39) (by decide +kernel : decode code 39 = .ok (.tableswitch 1319 0 32 #[145, 170, 195, 208, 276, 337, 374, 423, 448, 497, 558, 607, 668, 693, 742, 791, 816, 841, 854, 903, 916, 929, 978, 1027, 1064, 1113, 1126, 1139, 1152, 1189, 1214, 1239, 1264], 145)) (ztsw_hit (by decide)) (ztsw_no (by decide)) (by decide)) ?_
  refine And.intro (k_aload_n (pc := 184) (by decide +kernel : decode code 184 = .ok (.aload_n 1, 1)) rfl) ?_
  refine And.intro (k_aload_n (pc := 185) (by decide +kernel : decode code 185 = .ok (.aload_n 0, 1)) rfl) ?_
  refine And.intro (k_iload (pc := 186) (by decide +kernel : decode code 186 = .ok (.iload 4, 2))) ?_
  refine And.intro (k_iconst (pc := 188) (by decide +kernel : decode code 188 = .ok (.iconst 1, 1)) (by decide)) ?_
  refine And.intro (k_iadd (pc := 189) (by decide +kernel : decode code 189 = .ok (.iadd, 1))) ?_
  refine And.intro (k_xs (pc := 190) (by decide) rfl rfl (by decide +kernel : decode code 190 = .ok (.iaload, 1))) ?_
  refine And.intro (k_crV (n := 1) (pc := 191) hG (zRoom_w hc hs) (tag := 11) rfl ini_X11 im_X11_sign se_X11_sign mk_L_23 dy_X11_sign (by decide +kernel : decode code 191 = .ok (.invokevirtual 23, 3))) ?_
  refine And.intro (k_aload_n (pc := 194) (by decide +kernel : decode code 194 = .ok (.aload_n 2, 1)) rfl) ?_
  refine And.intro (k_aload_n (pc := 195) (by decide +kernel : decode code 195 = .ok (.aload_n 0, 1)) rfl) ?_
  refine And.intro (k_iload (pc := 196) (by decide +kernel : decode code 196 = .ok (.iload 4, 2))) ?_
  refine And.intro (k_iconst (pc := 198) (by decide +kernel : decode code 198 = .ok (.iconst 1, 1)) (by decide)) ?_
  refine And.intro (k_iadd (pc := 199) (by decide +kernel : decode code 199 = .ok (.iadd, 1))) ?_
  refine And.intro (k_xs (pc := 200) (by decide) rfl rfl (by decide +kernel : decode code 200 = .ok (.iaload, 1))) ?_
  refine And.intro (k_crV (n := 1) (pc := 201) hG (zRoom_w hc hs) (tag := 12) rfl ini_X12 im_X12_sign se_X12_sign mk_L_27 dy_X12_sign (by decide +kernel : decode code 201 = .ok (.invokevirtual 27, 3))) ?_
  refine And.intro (k_icmp_eq (pc := 204) (by decide +kernel : decode code 204 = .ok (.if_icmp .eq 1154, 3)) (by decide)) ?_
  refine And.intro (k_iconst (pc := 207) (by decide +kernel : decode code 207 = .ok (.iconst 0, 1)) (by decide)) ?_
  refine And.intro (k_w hc hs (pc := 208) (by decide +kernel : decode code 208 = .ok (.ireturn, 1))) ?_
  refine And.intro (k_aload_n (pc := 209) (by decide +kernel : decode code 209 = .ok (.aload_n 1, 1)) rfl) ?_
  refine And.intro (k_aload_n (pc := 210) (by decide +kernel : decode code 210 = .ok (.aload_n 0, 1)) rfl) ?_
  refine And.intro (k_iload (pc := 211) (by decide +kernel : decode code 211 = .ok (.iload 4, 2))) ?_
  refine And.intro (k_iconst (pc := 213) (by decide +kernel : decode code 213 = .ok (.iconst 1, 1)) (by decide)) ?_
  refine And.intro (k_iadd (pc := 214) (by decide +kernel : decode code 214 = .ok (.iadd, 1))) ?_
  refine And.intro (k_xs (pc := 215) (by decide) rfl rfl (by decide +kernel : decode code 215 = .ok (.iaload, 1))) ?_
  refine And.intro (k_crV (n := 1) (pc := 216) hG (zRoom_w hc hs) (tag := 11) rfl ini_X11 im_X11_end se_X11_end mk_L_28 dy_X11_end (by decide +kernel : decode code 216 = .ok (.invokevirtual 28, 3))) ?_
  refine And.intro (k_aload_n (pc := 219) (by decide +kernel : decode code 219 = .ok (.aload_n 2, 1)) rfl) ?_
  refine And.intro (k_aload_n (pc := 220) (by decide +kernel : decode code 220 = .ok (.aload_n 0, 1)) rfl) ?_
  refine And.intro (k_iload (pc := 221) (by decide +kernel : decode code 221 = .ok (.iload 4, 2))) ?_
  refine And.intro (k_iconst (pc := 223) (by decide +kernel : decode code 223 = .ok (.iconst 1, 1)) (by decide)) ?_
  refine And.intro (k_iadd (pc := 224) (by decide +kernel : decode code 224 = .ok (.iadd, 1))) ?_
  refine And.intro (k_xs (pc := 225) (by decide) rfl rfl (by decide +kernel : decode code 225 = .ok (.iaload, 1))) ?_
  refine And.intro (k_crV (n := 1) (pc := 226) hG (zRoom_w hc hs) (tag := 12) rfl ini_X12 im_X12_end se_X12_end mk_L_32 dy_X12_end (by decide +kernel : decode code 226 = .ok (.invokevirtual 32, 3))) ?_
  refine And.intro (k_icmp_eq (pc := 229) (by decide +kernel : decode code 229 = .ok (.if_icmp .eq 1129, 3)) (by decide)) ?_
  refine And.intro (k_iconst (pc := 232) (by decide +kernel : decode code 232 = .ok (.iconst 0, 1)) (by decide)) ?_
  refine And.intro (k_w hc hs (pc := 233) (by decide +kernel : decode code 233 = .ok (.ireturn, 1))) ?_
  refine And.intro (k_aload_n (pc := 234) (by decide +kernel : decode code 234 = .ok (.aload_n 1, 1)) rfl) ?_
  refine And.intro (k_crV (n := 0) (pc := 235) hG (zRoom_w hc hs) (tag := 11) rfl ini_X11 im_X11_rows se_X11_rows mk_L_33 dy_X11_rows (by decide +kernel : decode code 235 = .ok (.invokevirtual 33, 3))) ?_
  refine And.intro (k_aload_n (pc := 238) (by decide +kernel : decode code 238 = .ok (.aload_n 2, 1)) rfl) ?_
  refine And.intro (k_crV (n := 0) (pc := 239) hG (zRoom_w hc hs) (tag := 12) rfl ini_X12 im_X12_rows se_X12_rows mk_L_37 dy_X12_rows (by decide +kernel : decode code 239 = .ok (.invokevirtual 37, 3))) ?_
  refine And.intro (k_icmp_eq (pc := 242) (by decide +kernel : decode code 242 = .ok (.if_icmp .eq 1116, 3)) (by decide)) ?_
  refine And.intro (k_iconst (pc := 245) (by decide +kernel : decode code 245 = .ok (.iconst 0, 1)) (by decide)) ?_
  refine And.intro (k_w hc hs (pc := 246) (by decide +kernel : decode code 246 = .ok (.ireturn, 1))) ?_
  refine And.intro (k_aload_n (pc := 247) (by decide +kernel : decode code 247 = .ok (.aload_n 1, 1)) rfl) ?_
  refine And.intro (k_aload_n (pc := 248) (by decide +kernel : decode code 248 = .ok (.aload_n 0, 1)) rfl) ?_
  refine And.intro (k_iload (pc := 249) (by decide +kernel : decode code 249 = .ok (.iload 4, 2))) ?_
  refine And.intro (k_iconst (pc := 251) (by decide +kernel : decode code 251 = .ok (.iconst 1, 1)) (by decide)) ?_
  refine And.intro (k_iadd (pc := 252) (by decide +kernel : decode code 252 = .ok (.iadd, 1))) ?_
  refine And.intro (k_xs (pc := 253) (by decide) rfl rfl (by decide +kernel : decode code 253 = .ok (.iaload, 1))) ?_
  refine And.intro (k_aload_n (pc := 254) (by decide +kernel : decode code 254 = .ok (.aload_n 0, 1)) rfl) ?_
  refine And.intro (k_iload (pc := 255) (by decide +kernel : decode code 255 = .ok (.iload 4, 2))) ?_
  refine And.intro (k_iconst (pc := 257) (by decide +kernel : decode code 257 = .ok (.iconst 2, 1)) (by decide)) ?_
  refine And.intro (k_iadd (pc := 258) (by decide +kernel : decode code 258 = .ok (.iadd, 1))) ?_
  refine And.intro (k_xs (pc := 259) (by decide) rfl rfl (by decide +kernel : decode code 259 = .ok (.iaload, 1))) ?_
  refine And.intro (k_aload_n (pc := 260) (by decide +kernel : decode code 260 = .ok (.aload_n 3, 1)) rfl) ?_
  refine And.intro (k_no) ?_
  refine And.intro (k_istore (pc := 264) (by decide +kernel : decode code 264 = .ok (.istore 5, 2))) ?_
  refine And.intro (k_aload_n (pc := 266) (by decide +kernel : decode code 266 = .ok (.aload_n 2, 1)) rfl) ?_
  refine And.intro (k_aload_n (pc := 267) (by decide +kernel : decode code 267 = .ok (.aload_n 0, 1)) rfl) ?_
  refine And.intro (k_iload (pc := 268) (by decide +kernel : decode code 268 = .ok (.iload 4, 2))) ?_
  refine And.intro (k_iconst (pc := 270) (by decide +kernel : decode code 270 = .ok (.iconst 1, 1)) (by decide)) ?_
  refine And.intro (k_iadd (pc := 271) (by decide +kernel : decode code 271 = .ok (.iadd, 1))) ?_
  refine And.intro (k_xs (pc := 272) (by decide) rfl rfl (by decide +kernel : decode code 272 = .ok (.iaload, 1))) ?_
  refine And.intro (k_aload_n (pc := 273) (by decide +kernel : decode code 273 = .ok (.aload_n 0, 1)) rfl) ?_
  refine And.intro (k_iload (pc := 274) (by decide +kernel : decode code 274 = .ok (.iload 4, 2))) ?_
  refine And.intro (k_iconst (pc := 276) (by decide +kernel : decode code 276 = .ok (.iconst 2, 1)) (by decide)) ?_
  refine And.intro (k_iadd (pc := 277) (by decide +kernel : decode code 277 = .ok (.iadd, 1))) ?_
  refine And.intro (k_xs (pc := 278) (by decide) rfl rfl (by decide +kernel : decode code 278 = .ok (.iaload, 1))) ?_
  refine And.intro (k_crV (n := 2) (pc := 279) hG (zRoom_w hc hs) (tag := 12) rfl ini_X12 im_X12_row se_X12_row mk_L_43 dy_X12_row (by decide +kernel : decode code 279 = .ok (.invokevirtual 43, 3))) ?_
  refine And.intro (k_istore (pc := 282) (by decide +kernel : decode code 282 = .ok (.istore 6, 2))) ?_
  refine And.intro (k_aload_n (pc := 284) (by decide +kernel : decode code 284 = .ok (.aload_n 2, 1)) rfl) ?_
  refine And.intro (k_crV (n := 0) (pc := 285) hG (zRoom_w hc hs) (tag := 12) rfl ini_X12 im_X12_thrown se_X12_thrown mk_L_44 dy_X12_thrown (by decide +kernel : decode code 285 = .ok (.invokevirtual 44, 3))) ?_
  refine And.intro (k_iload (pc := 288) (by decide +kernel : decode code 288 = .ok (.iload 5, 2))) ?_
  refine And.intro (k_icmp_eq (pc := 290) (by decide +kernel : decode code 290 = .ok (.if_icmp .eq 5, 3)) (by decide)) ?_
  refine And.intro (k_iconst (pc := 293) (by decide +kernel : decode code 293 = .ok (.iconst 0, 1)) (by decide)) ?_
  refine And.intro (k_w hc hs (pc := 294) (by decide +kernel : decode code 294 = .ok (.ireturn, 1))) ?_
  refine And.intro (k_iload (pc := 295) (by decide +kernel : decode code 295 = .ok (.iload 5, 2))) ?_
  refine And.intro (k_if_ne (pc := 297) (by decide +kernel : decode code 297 = .ok (.ifCond .ne 15, 3)) (by decide)) ?_
  refine And.intro (k_aload_n (pc := 300) (by decide +kernel : decode code 300 = .ok (.aload_n 3, 1)) rfl) ?_
  refine And.intro (k_iconst (pc := 301) (by decide +kernel : decode code 301 = .ok (.iconst 0, 1)) (by decide)) ?_
  refine And.intro (k_lald (pc := 302) (by decide +kernel : decode code 302 = .ok (.laload, 1))) ?_
  refine And.intro (k_iload (pc := 303) (by decide +kernel : decode code 303 = .ok (.iload 6, 2))) ?_
  refine And.intro (k_i2l (pc := 305) (by decide +kernel : decode code 305 = .ok (.i2l, 1))) ?_
  refine And.intro (k_lcmp_eq (pc := 306) (by decide +kernel : decode code 306 = .ok (.lcmp, 1)) (by decide +kernel : decode code 307 = .ok (.ifCond .eq 5, 3)) (by decide)) ?_
  refine And.intro (k_iconst (pc := 310) (by decide +kernel : decode code 310 = .ok (.iconst 0, 1)) (by decide)) ?_
  refine And.intro (k_w hc hs (pc := 311) (by decide +kernel : decode code 311 = .ok (.ireturn, 1))) ?_
  refine And.intro (k_goto (pc := 312) (by decide +kernel : decode code 312 = .ok (.goto 1046, 3)) (by decide)) ?_
  refine And.intro (k_aload_n (pc := 315) (by decide +kernel : decode code 315 = .ok (.aload_n 1, 1)) rfl) ?_
  refine And.intro (k_aload_n (pc := 316) (by decide +kernel : decode code 316 = .ok (.aload_n 0, 1)) rfl) ?_
  refine And.intro (k_iload (pc := 317) (by decide +kernel : decode code 317 = .ok (.iload 4, 2))) ?_
  refine And.intro (k_iconst (pc := 319) (by decide +kernel : decode code 319 = .ok (.iconst 1, 1)) (by decide)) ?_
  refine And.intro (k_iadd (pc := 320) (by decide +kernel : decode code 320 = .ok (.iadd, 1))) ?_
  refine And.intro (k_xs (pc := 321) (by decide) rfl rfl (by decide +kernel : decode code 321 = .ok (.iaload, 1))) ?_
  refine And.intro (k_aload_n (pc := 322) (by decide +kernel : decode code 322 = .ok (.aload_n 0, 1)) rfl) ?_
  refine And.intro (k_iload (pc := 323) (by decide +kernel : decode code 323 = .ok (.iload 4, 2))) ?_
  refine And.intro (k_iconst (pc := 325) (by decide +kernel : decode code 325 = .ok (.iconst 2, 1)) (by decide)) ?_
  refine And.intro (k_iadd (pc := 326) (by decide +kernel : decode code 326 = .ok (.iadd, 1))) ?_
  refine And.intro (k_xs (pc := 327) (by decide) rfl rfl (by decide +kernel : decode code 327 = .ok (.iaload, 1))) ?_
  refine And.intro (k_aload_n (pc := 328) (by decide +kernel : decode code 328 = .ok (.aload_n 0, 1)) rfl) ?_
  refine And.intro (k_iload (pc := 329) (by decide +kernel : decode code 329 = .ok (.iload 4, 2))) ?_
  refine And.intro (k_iconst (pc := 331) (by decide +kernel : decode code 331 = .ok (.iconst 3, 1)) (by decide)) ?_
  refine And.intro (k_iadd (pc := 332) (by decide +kernel : decode code 332 = .ok (.iadd, 1))) ?_
  refine And.intro (k_xs (pc := 333) (by decide) rfl rfl (by decide +kernel : decode code 333 = .ok (.iaload, 1))) ?_
  refine And.intro (k_aload_n (pc := 334) (by decide +kernel : decode code 334 = .ok (.aload_n 0, 1)) rfl) ?_
  refine And.intro (k_iload (pc := 335) (by decide +kernel : decode code 335 = .ok (.iload 4, 2))) ?_
  refine And.intro (k_iconst (pc := 337) (by decide +kernel : decode code 337 = .ok (.iconst 4, 1)) (by decide)) ?_
  refine And.intro (k_iadd (pc := 338) (by decide +kernel : decode code 338 = .ok (.iadd, 1))) ?_
  refine And.intro (k_xs (pc := 339) (by decide) rfl rfl (by decide +kernel : decode code 339 = .ok (.iaload, 1))) ?_
  refine And.intro (k_crV (n := 4) (pc := 340) hG (zRoom_w hc hs) (tag := 11) rfl ini_X11 im_X11_sheet se_X11_sheet mk_L_47 dy_X11_sheet (by decide +kernel : decode code 340 = .ok (.invokevirtual 47, 3))) ?_
  refine And.intro (k_aload_n (pc := 343) (by decide +kernel : decode code 343 = .ok (.aload_n 2, 1)) rfl) ?_
  refine And.intro (k_aload_n (pc := 344) (by decide +kernel : decode code 344 = .ok (.aload_n 0, 1)) rfl) ?_
  refine And.intro (k_iload (pc := 345) (by decide +kernel : decode code 345 = .ok (.iload 4, 2))) ?_
  refine And.intro (k_iconst (pc := 347) (by decide +kernel : decode code 347 = .ok (.iconst 1, 1)) (by decide)) ?_
  refine And.intro (k_iadd (pc := 348) (by decide +kernel : decode code 348 = .ok (.iadd, 1))) ?_
  refine And.intro (k_xs (pc := 349) (by decide) rfl rfl (by decide +kernel : decode code 349 = .ok (.iaload, 1))) ?_
  refine And.intro (k_aload_n (pc := 350) (by decide +kernel : decode code 350 = .ok (.aload_n 0, 1)) rfl) ?_
  refine And.intro (k_iload (pc := 351) (by decide +kernel : decode code 351 = .ok (.iload 4, 2))) ?_
  refine And.intro (k_iconst (pc := 353) (by decide +kernel : decode code 353 = .ok (.iconst 2, 1)) (by decide)) ?_
  refine And.intro (k_iadd (pc := 354) (by decide +kernel : decode code 354 = .ok (.iadd, 1))) ?_
  refine And.intro (k_xs (pc := 355) (by decide) rfl rfl (by decide +kernel : decode code 355 = .ok (.iaload, 1))) ?_
  refine And.intro (k_aload_n (pc := 356) (by decide +kernel : decode code 356 = .ok (.aload_n 0, 1)) rfl) ?_
  refine And.intro (k_iload (pc := 357) (by decide +kernel : decode code 357 = .ok (.iload 4, 2))) ?_
  refine And.intro (k_iconst (pc := 359) (by decide +kernel : decode code 359 = .ok (.iconst 3, 1)) (by decide)) ?_
  refine And.intro (k_iadd (pc := 360) (by decide +kernel : decode code 360 = .ok (.iadd, 1))) ?_
  refine And.intro (k_xs (pc := 361) (by decide) rfl rfl (by decide +kernel : decode code 361 = .ok (.iaload, 1))) ?_
  refine And.intro (k_aload_n (pc := 362) (by decide +kernel : decode code 362 = .ok (.aload_n 0, 1)) rfl) ?_
  refine And.intro (k_iload (pc := 363) (by decide +kernel : decode code 363 = .ok (.iload 4, 2))) ?_
  refine And.intro (k_iconst (pc := 365) (by decide +kernel : decode code 365 = .ok (.iconst 4, 1)) (by decide)) ?_
  refine And.intro (k_iadd (pc := 366) (by decide +kernel : decode code 366 = .ok (.iadd, 1))) ?_
  refine And.intro (k_xs (pc := 367) (by decide) rfl rfl (by decide +kernel : decode code 367 = .ok (.iaload, 1))) ?_
  refine And.intro (k_crV (n := 4) (pc := 368) hG (zRoom_w hc hs) (tag := 12) rfl ini_X12 im_X12_sheet se_X12_sheet mk_L_51 dy_X12_sheet (by decide +kernel : decode code 368 = .ok (.invokevirtual 51, 3))) ?_
  refine And.intro (k_icmp_eq (pc := 371) (by decide +kernel : decode code 371 = .ok (.if_icmp .eq 987, 3)) (by decide)) ?_
  refine And.intro (k_iconst (pc := 374) (by decide +kernel : decode code 374 = .ok (.iconst 0, 1)) (by decide)) ?_
  refine And.intro (k_w hc hs (pc := 375) (by decide +kernel : decode code 375 = .ok (.ireturn, 1))) ?_
  refine And.intro (k_aload_n (pc := 376) (by decide +kernel : decode code 376 = .ok (.aload_n 1, 1)) rfl) ?_
  refine And.intro (k_aload_n (pc := 377) (by decide +kernel : decode code 377 = .ok (.aload_n 0, 1)) rfl) ?_
  refine And.intro (k_iload (pc := 378) (by decide +kernel : decode code 378 = .ok (.iload 4, 2))) ?_
  refine And.intro (k_iconst (pc := 380) (by decide +kernel : decode code 380 = .ok (.iconst 1, 1)) (by decide)) ?_
  refine And.intro (k_iadd (pc := 381) (by decide +kernel : decode code 381 = .ok (.iadd, 1))) ?_
  refine And.intro (k_xs (pc := 382) (by decide) rfl rfl (by decide +kernel : decode code 382 = .ok (.iaload, 1))) ?_
  refine And.intro (k_aload_n (pc := 383) (by decide +kernel : decode code 383 = .ok (.aload_n 0, 1)) rfl) ?_
  refine And.intro (k_iload (pc := 384) (by decide +kernel : decode code 384 = .ok (.iload 4, 2))) ?_
  refine And.intro (k_iconst (pc := 386) (by decide +kernel : decode code 386 = .ok (.iconst 2, 1)) (by decide)) ?_
  refine And.intro (k_iadd (pc := 387) (by decide +kernel : decode code 387 = .ok (.iadd, 1))) ?_
  refine And.intro (k_xs (pc := 388) (by decide) rfl rfl (by decide +kernel : decode code 388 = .ok (.iaload, 1))) ?_
  refine And.intro (k_crV (n := 2) (pc := 389) hG (zRoom_w hc hs) (tag := 11) rfl ini_X11 im_X11_becomes se_X11_becomes mk_L_52 dy_X11_becomes (by decide +kernel : decode code 389 = .ok (.invokevirtual 52, 3))) ?_
  refine And.intro (k_aload_n (pc := 392) (by decide +kernel : decode code 392 = .ok (.aload_n 2, 1)) rfl) ?_
  refine And.intro (k_aload_n (pc := 393) (by decide +kernel : decode code 393 = .ok (.aload_n 0, 1)) rfl) ?_
  refine And.intro (k_iload (pc := 394) (by decide +kernel : decode code 394 = .ok (.iload 4, 2))) ?_
  refine And.intro (k_iconst (pc := 396) (by decide +kernel : decode code 396 = .ok (.iconst 1, 1)) (by decide)) ?_
  refine And.intro (k_iadd (pc := 397) (by decide +kernel : decode code 397 = .ok (.iadd, 1))) ?_
  refine And.intro (k_xs (pc := 398) (by decide) rfl rfl (by decide +kernel : decode code 398 = .ok (.iaload, 1))) ?_
  refine And.intro (k_aload_n (pc := 399) (by decide +kernel : decode code 399 = .ok (.aload_n 0, 1)) rfl) ?_
  refine And.intro (k_iload (pc := 400) (by decide +kernel : decode code 400 = .ok (.iload 4, 2))) ?_
  refine And.intro (k_iconst (pc := 402) (by decide +kernel : decode code 402 = .ok (.iconst 2, 1)) (by decide)) ?_
  refine And.intro (k_iadd (pc := 403) (by decide +kernel : decode code 403 = .ok (.iadd, 1))) ?_
  refine And.intro (k_xs (pc := 404) (by decide) rfl rfl (by decide +kernel : decode code 404 = .ok (.iaload, 1))) ?_
  refine And.intro (k_crV (n := 2) (pc := 405) hG (zRoom_w hc hs) (tag := 12) rfl ini_X12 im_X12_becomes se_X12_becomes mk_L_55 dy_X12_becomes (by decide +kernel : decode code 405 = .ok (.invokevirtual 55, 3))) ?_
  refine And.intro (k_icmp_eq (pc := 408) (by decide +kernel : decode code 408 = .ok (.if_icmp .eq 950, 3)) (by decide)) ?_
  refine And.intro (k_iconst (pc := 411) (by decide +kernel : decode code 411 = .ok (.iconst 0, 1)) (by decide)) ?_
  refine And.intro (k_w hc hs (pc := 412) (by decide +kernel : decode code 412 = .ok (.ireturn, 1))) ?_
  refine And.intro (k_aload_n (pc := 413) (by decide +kernel : decode code 413 = .ok (.aload_n 1, 1)) rfl) ?_
  refine And.intro (k_aload_n (pc := 414) (by decide +kernel : decode code 414 = .ok (.aload_n 0, 1)) rfl) ?_
  refine And.intro (k_iload (pc := 415) (by decide +kernel : decode code 415 = .ok (.iload 4, 2))) ?_
  refine And.intro (k_iconst (pc := 417) (by decide +kernel : decode code 417 = .ok (.iconst 1, 1)) (by decide)) ?_
  refine And.intro (k_iadd (pc := 418) (by decide +kernel : decode code 418 = .ok (.iadd, 1))) ?_
  refine And.intro (k_xs (pc := 419) (by decide) rfl rfl (by decide +kernel : decode code 419 = .ok (.iaload, 1))) ?_
  refine And.intro (k_aload_n (pc := 420) (by decide +kernel : decode code 420 = .ok (.aload_n 0, 1)) rfl) ?_
  refine And.intro (k_iload (pc := 421) (by decide +kernel : decode code 421 = .ok (.iload 4, 2))) ?_
  refine And.intro (k_iconst (pc := 423) (by decide +kernel : decode code 423 = .ok (.iconst 2, 1)) (by decide)) ?_
  refine And.intro (k_iadd (pc := 424) (by decide +kernel : decode code 424 = .ok (.iadd, 1))) ?_
  refine And.intro (k_xs (pc := 425) (by decide) rfl rfl (by decide +kernel : decode code 425 = .ok (.iaload, 1))) ?_
  refine And.intro (k_aload_n (pc := 426) (by decide +kernel : decode code 426 = .ok (.aload_n 0, 1)) rfl) ?_
  refine And.intro (k_iload (pc := 427) (by decide +kernel : decode code 427 = .ok (.iload 4, 2))) ?_
  refine And.intro (k_iconst (pc := 429) (by decide +kernel : decode code 429 = .ok (.iconst 3, 1)) (by decide)) ?_
  refine And.intro (k_iadd (pc := 430) (by decide +kernel : decode code 430 = .ok (.iadd, 1))) ?_
  refine And.intro (k_xs (pc := 431) (by decide) rfl rfl (by decide +kernel : decode code 431 = .ok (.iaload, 1))) ?_
  refine And.intro (k_crV (n := 3) (pc := 432) hG (zRoom_w hc hs) (tag := 11) rfl ini_X11 im_X11_adds se_X11_adds mk_L_56 dy_X11_adds (by decide +kernel : decode code 432 = .ok (.invokevirtual 56, 3))) ?_
  refine And.intro (k_aload_n (pc := 435) (by decide +kernel : decode code 435 = .ok (.aload_n 2, 1)) rfl) ?_
  refine And.intro (k_aload_n (pc := 436) (by decide +kernel : decode code 436 = .ok (.aload_n 0, 1)) rfl) ?_
  refine And.intro (k_iload (pc := 437) (by decide +kernel : decode code 437 = .ok (.iload 4, 2))) ?_
  refine And.intro (k_iconst (pc := 439) (by decide +kernel : decode code 439 = .ok (.iconst 1, 1)) (by decide)) ?_
  refine And.intro (k_iadd (pc := 440) (by decide +kernel : decode code 440 = .ok (.iadd, 1))) ?_
  refine And.intro (k_xs (pc := 441) (by decide) rfl rfl (by decide +kernel : decode code 441 = .ok (.iaload, 1))) ?_
  refine And.intro (k_aload_n (pc := 442) (by decide +kernel : decode code 442 = .ok (.aload_n 0, 1)) rfl) ?_
  refine And.intro (k_iload (pc := 443) (by decide +kernel : decode code 443 = .ok (.iload 4, 2))) ?_
  refine And.intro (k_iconst (pc := 445) (by decide +kernel : decode code 445 = .ok (.iconst 2, 1)) (by decide)) ?_
  refine And.intro (k_iadd (pc := 446) (by decide +kernel : decode code 446 = .ok (.iadd, 1))) ?_
  refine And.intro (k_xs (pc := 447) (by decide) rfl rfl (by decide +kernel : decode code 447 = .ok (.iaload, 1))) ?_
  refine And.intro (k_aload_n (pc := 448) (by decide +kernel : decode code 448 = .ok (.aload_n 0, 1)) rfl) ?_
  refine And.intro (k_iload (pc := 449) (by decide +kernel : decode code 449 = .ok (.iload 4, 2))) ?_
  refine And.intro (k_iconst (pc := 451) (by decide +kernel : decode code 451 = .ok (.iconst 3, 1)) (by decide)) ?_
  refine And.intro (k_iadd (pc := 452) (by decide +kernel : decode code 452 = .ok (.iadd, 1))) ?_
  refine And.intro (k_xs (pc := 453) (by decide) rfl rfl (by decide +kernel : decode code 453 = .ok (.iaload, 1))) ?_
  refine And.intro (k_crV (n := 3) (pc := 454) hG (zRoom_w hc hs) (tag := 12) rfl ini_X12 im_X12_adds se_X12_adds mk_L_60 dy_X12_adds (by decide +kernel : decode code 454 = .ok (.invokevirtual 60, 3))) ?_
  refine And.intro (k_icmp_eq (pc := 457) (by decide +kernel : decode code 457 = .ok (.if_icmp .eq 901, 3)) (by decide)) ?_
  refine And.intro (k_iconst (pc := 460) (by decide +kernel : decode code 460 = .ok (.iconst 0, 1)) (by decide)) ?_
  refine And.intro (k_w hc hs (pc := 461) (by decide +kernel : decode code 461 = .ok (.ireturn, 1))) ?_
  refine And.intro (k_aload_n (pc := 462) (by decide +kernel : decode code 462 = .ok (.aload_n 1, 1)) rfl) ?_
  refine And.intro (k_aload_n (pc := 463) (by decide +kernel : decode code 463 = .ok (.aload_n 0, 1)) rfl) ?_
  refine And.intro (k_iload (pc := 464) (by decide +kernel : decode code 464 = .ok (.iload 4, 2))) ?_
  refine And.intro (k_iconst (pc := 466) (by decide +kernel : decode code 466 = .ok (.iconst 1, 1)) (by decide)) ?_
  refine And.intro (k_iadd (pc := 467) (by decide +kernel : decode code 467 = .ok (.iadd, 1))) ?_
  refine And.intro (k_xs (pc := 468) (by decide) rfl rfl (by decide +kernel : decode code 468 = .ok (.iaload, 1))) ?_
  refine And.intro (k_crV (n := 1) (pc := 469) hG (zRoom_w hc hs) (tag := 11) rfl ini_X11 im_X11_drops se_X11_drops mk_L_61 dy_X11_drops (by decide +kernel : decode code 469 = .ok (.invokevirtual 61, 3))) ?_
  refine And.intro (k_aload_n (pc := 472) (by decide +kernel : decode code 472 = .ok (.aload_n 2, 1)) rfl) ?_
  refine And.intro (k_aload_n (pc := 473) (by decide +kernel : decode code 473 = .ok (.aload_n 0, 1)) rfl) ?_
  refine And.intro (k_iload (pc := 474) (by decide +kernel : decode code 474 = .ok (.iload 4, 2))) ?_
  refine And.intro (k_iconst (pc := 476) (by decide +kernel : decode code 476 = .ok (.iconst 1, 1)) (by decide)) ?_
  refine And.intro (k_iadd (pc := 477) (by decide +kernel : decode code 477 = .ok (.iadd, 1))) ?_
  refine And.intro (k_xs (pc := 478) (by decide) rfl rfl (by decide +kernel : decode code 478 = .ok (.iaload, 1))) ?_
  refine And.intro (k_crV (n := 1) (pc := 479) hG (zRoom_w hc hs) (tag := 12) rfl ini_X12 im_X12_drops se_X12_drops mk_L_64 dy_X12_drops (by decide +kernel : decode code 479 = .ok (.invokevirtual 64, 3))) ?_
  refine And.intro (k_icmp_eq (pc := 482) (by decide +kernel : decode code 482 = .ok (.if_icmp .eq 876, 3)) (by decide)) ?_
  refine And.intro (k_iconst (pc := 485) (by decide +kernel : decode code 485 = .ok (.iconst 0, 1)) (by decide)) ?_
  refine And.intro (k_w hc hs (pc := 486) (by decide +kernel : decode code 486 = .ok (.ireturn, 1))) ?_
  refine And.intro (k_aload_n (pc := 487) (by decide +kernel : decode code 487 = .ok (.aload_n 1, 1)) rfl) ?_
  refine And.intro (k_aload_n (pc := 488) (by decide +kernel : decode code 488 = .ok (.aload_n 0, 1)) rfl) ?_
  refine And.intro (k_iload (pc := 489) (by decide +kernel : decode code 489 = .ok (.iload 4, 2))) ?_
  refine And.intro (k_iconst (pc := 491) (by decide +kernel : decode code 491 = .ok (.iconst 1, 1)) (by decide)) ?_
  refine And.intro (k_iadd (pc := 492) (by decide +kernel : decode code 492 = .ok (.iadd, 1))) ?_
  refine And.intro (k_xs (pc := 493) (by decide) rfl rfl (by decide +kernel : decode code 493 = .ok (.iaload, 1))) ?_
  refine And.intro (k_aload_n (pc := 494) (by decide +kernel : decode code 494 = .ok (.aload_n 0, 1)) rfl) ?_
  refine And.intro (k_iload (pc := 495) (by decide +kernel : decode code 495 = .ok (.iload 4, 2))) ?_
  refine And.intro (k_iconst (pc := 497) (by decide +kernel : decode code 497 = .ok (.iconst 2, 1)) (by decide)) ?_
  refine And.intro (k_iadd (pc := 498) (by decide +kernel : decode code 498 = .ok (.iadd, 1))) ?_
  refine And.intro (k_xs (pc := 499) (by decide) rfl rfl (by decide +kernel : decode code 499 = .ok (.iaload, 1))) ?_
  refine And.intro (k_aload_n (pc := 500) (by decide +kernel : decode code 500 = .ok (.aload_n 0, 1)) rfl) ?_
  refine And.intro (k_iload (pc := 501) (by decide +kernel : decode code 501 = .ok (.iload 4, 2))) ?_
  refine And.intro (k_iconst (pc := 503) (by decide +kernel : decode code 503 = .ok (.iconst 3, 1)) (by decide)) ?_
  refine And.intro (k_iadd (pc := 504) (by decide +kernel : decode code 504 = .ok (.iadd, 1))) ?_
  refine And.intro (k_xs (pc := 505) (by decide) rfl rfl (by decide +kernel : decode code 505 = .ok (.iaload, 1))) ?_
  refine And.intro (k_crV (n := 3) (pc := 506) hG (zRoom_w hc hs) (tag := 11) rfl ini_X11 im_X11_slice se_X11_slice mk_L_65 dy_X11_slice (by decide +kernel : decode code 506 = .ok (.invokevirtual 65, 3))) ?_
  refine And.intro (k_aload_n (pc := 509) (by decide +kernel : decode code 509 = .ok (.aload_n 2, 1)) rfl) ?_
  refine And.intro (k_aload_n (pc := 510) (by decide +kernel : decode code 510 = .ok (.aload_n 0, 1)) rfl) ?_
  refine And.intro (k_iload (pc := 511) (by decide +kernel : decode code 511 = .ok (.iload 4, 2))) ?_
  refine And.intro (k_iconst (pc := 513) (by decide +kernel : decode code 513 = .ok (.iconst 1, 1)) (by decide)) ?_
  refine And.intro (k_iadd (pc := 514) (by decide +kernel : decode code 514 = .ok (.iadd, 1))) ?_
  refine And.intro (k_xs (pc := 515) (by decide) rfl rfl (by decide +kernel : decode code 515 = .ok (.iaload, 1))) ?_
  refine And.intro (k_aload_n (pc := 516) (by decide +kernel : decode code 516 = .ok (.aload_n 0, 1)) rfl) ?_
  refine And.intro (k_iload (pc := 517) (by decide +kernel : decode code 517 = .ok (.iload 4, 2))) ?_
  refine And.intro (k_iconst (pc := 519) (by decide +kernel : decode code 519 = .ok (.iconst 2, 1)) (by decide)) ?_
  refine And.intro (k_iadd (pc := 520) (by decide +kernel : decode code 520 = .ok (.iadd, 1))) ?_
  refine And.intro (k_xs (pc := 521) (by decide) rfl rfl (by decide +kernel : decode code 521 = .ok (.iaload, 1))) ?_
  refine And.intro (k_aload_n (pc := 522) (by decide +kernel : decode code 522 = .ok (.aload_n 0, 1)) rfl) ?_
  refine And.intro (k_iload (pc := 523) (by decide +kernel : decode code 523 = .ok (.iload 4, 2))) ?_
  refine And.intro (k_iconst (pc := 525) (by decide +kernel : decode code 525 = .ok (.iconst 3, 1)) (by decide)) ?_
  refine And.intro (k_iadd (pc := 526) (by decide +kernel : decode code 526 = .ok (.iadd, 1))) ?_
  refine And.intro (k_xs (pc := 527) (by decide) rfl rfl (by decide +kernel : decode code 527 = .ok (.iaload, 1))) ?_
  refine And.intro (k_crV (n := 3) (pc := 528) hG (zRoom_w hc hs) (tag := 12) rfl ini_X12 im_X12_slice se_X12_slice mk_L_68 dy_X12_slice (by decide +kernel : decode code 528 = .ok (.invokevirtual 68, 3))) ?_
  refine And.intro (k_icmp_eq (pc := 531) (by decide +kernel : decode code 531 = .ok (.if_icmp .eq 827, 3)) (by decide)) ?_
  refine And.intro (k_iconst (pc := 534) (by decide +kernel : decode code 534 = .ok (.iconst 0, 1)) (by decide)) ?_
  refine And.intro (k_w hc hs (pc := 535) (by decide +kernel : decode code 535 = .ok (.ireturn, 1))) ?_
  refine And.intro (k_aload_n (pc := 536) (by decide +kernel : decode code 536 = .ok (.aload_n 1, 1)) rfl) ?_
  refine And.intro (k_aload_n (pc := 537) (by decide +kernel : decode code 537 = .ok (.aload_n 0, 1)) rfl) ?_
  refine And.intro (k_iload (pc := 538) (by decide +kernel : decode code 538 = .ok (.iload 4, 2))) ?_
  refine And.intro (k_iconst (pc := 540) (by decide +kernel : decode code 540 = .ok (.iconst 1, 1)) (by decide)) ?_
  refine And.intro (k_iadd (pc := 541) (by decide +kernel : decode code 541 = .ok (.iadd, 1))) ?_
  refine And.intro (k_xs (pc := 542) (by decide) rfl rfl (by decide +kernel : decode code 542 = .ok (.iaload, 1))) ?_
  refine And.intro (k_aload_n (pc := 543) (by decide +kernel : decode code 543 = .ok (.aload_n 0, 1)) rfl) ?_
  refine And.intro (k_iload (pc := 544) (by decide +kernel : decode code 544 = .ok (.iload 4, 2))) ?_
  refine And.intro (k_iconst (pc := 546) (by decide +kernel : decode code 546 = .ok (.iconst 2, 1)) (by decide)) ?_
  refine And.intro (k_iadd (pc := 547) (by decide +kernel : decode code 547 = .ok (.iadd, 1))) ?_
  refine And.intro (k_xs (pc := 548) (by decide) rfl rfl (by decide +kernel : decode code 548 = .ok (.iaload, 1))) ?_
  refine And.intro (k_aload_n (pc := 549) (by decide +kernel : decode code 549 = .ok (.aload_n 0, 1)) rfl) ?_
  refine And.intro (k_iload (pc := 550) (by decide +kernel : decode code 550 = .ok (.iload 4, 2))) ?_
  refine And.intro (k_iconst (pc := 552) (by decide +kernel : decode code 552 = .ok (.iconst 3, 1)) (by decide)) ?_
  refine And.intro (k_iadd (pc := 553) (by decide +kernel : decode code 553 = .ok (.iadd, 1))) ?_
  refine And.intro (k_xs (pc := 554) (by decide) rfl rfl (by decide +kernel : decode code 554 = .ok (.iaload, 1))) ?_
  refine And.intro (k_aload_n (pc := 555) (by decide +kernel : decode code 555 = .ok (.aload_n 0, 1)) rfl) ?_
  refine And.intro (k_iload (pc := 556) (by decide +kernel : decode code 556 = .ok (.iload 4, 2))) ?_
  refine And.intro (k_iconst (pc := 558) (by decide +kernel : decode code 558 = .ok (.iconst 4, 1)) (by decide)) ?_
  refine And.intro (k_iadd (pc := 559) (by decide +kernel : decode code 559 = .ok (.iadd, 1))) ?_
  refine And.intro (k_xs (pc := 560) (by decide) rfl rfl (by decide +kernel : decode code 560 = .ok (.iaload, 1))) ?_
  refine And.intro (k_crV (n := 4) (pc := 561) hG (zRoom_w hc hs) (tag := 11) rfl ini_X11 im_X11_inside se_X11_inside mk_L_69 dy_X11_inside (by decide +kernel : decode code 561 = .ok (.invokevirtual 69, 3))) ?_
  refine And.intro (k_aload_n (pc := 564) (by decide +kernel : decode code 564 = .ok (.aload_n 2, 1)) rfl) ?_
  refine And.intro (k_aload_n (pc := 565) (by decide +kernel : decode code 565 = .ok (.aload_n 0, 1)) rfl) ?_
  refine And.intro (k_iload (pc := 566) (by decide +kernel : decode code 566 = .ok (.iload 4, 2))) ?_
  refine And.intro (k_iconst (pc := 568) (by decide +kernel : decode code 568 = .ok (.iconst 1, 1)) (by decide)) ?_
  refine And.intro (k_iadd (pc := 569) (by decide +kernel : decode code 569 = .ok (.iadd, 1))) ?_
  refine And.intro (k_xs (pc := 570) (by decide) rfl rfl (by decide +kernel : decode code 570 = .ok (.iaload, 1))) ?_
  refine And.intro (k_aload_n (pc := 571) (by decide +kernel : decode code 571 = .ok (.aload_n 0, 1)) rfl) ?_
  refine And.intro (k_iload (pc := 572) (by decide +kernel : decode code 572 = .ok (.iload 4, 2))) ?_
  refine And.intro (k_iconst (pc := 574) (by decide +kernel : decode code 574 = .ok (.iconst 2, 1)) (by decide)) ?_
  refine And.intro (k_iadd (pc := 575) (by decide +kernel : decode code 575 = .ok (.iadd, 1))) ?_
  refine And.intro (k_xs (pc := 576) (by decide) rfl rfl (by decide +kernel : decode code 576 = .ok (.iaload, 1))) ?_
  refine And.intro (k_aload_n (pc := 577) (by decide +kernel : decode code 577 = .ok (.aload_n 0, 1)) rfl) ?_
  refine And.intro (k_iload (pc := 578) (by decide +kernel : decode code 578 = .ok (.iload 4, 2))) ?_
  refine And.intro (k_iconst (pc := 580) (by decide +kernel : decode code 580 = .ok (.iconst 3, 1)) (by decide)) ?_
  refine And.intro (k_iadd (pc := 581) (by decide +kernel : decode code 581 = .ok (.iadd, 1))) ?_
  refine And.intro (k_xs (pc := 582) (by decide) rfl rfl (by decide +kernel : decode code 582 = .ok (.iaload, 1))) ?_
  refine And.intro (k_aload_n (pc := 583) (by decide +kernel : decode code 583 = .ok (.aload_n 0, 1)) rfl) ?_
  refine And.intro (k_iload (pc := 584) (by decide +kernel : decode code 584 = .ok (.iload 4, 2))) ?_
  refine And.intro (k_iconst (pc := 586) (by decide +kernel : decode code 586 = .ok (.iconst 4, 1)) (by decide)) ?_
  refine And.intro (k_iadd (pc := 587) (by decide +kernel : decode code 587 = .ok (.iadd, 1))) ?_
  refine And.intro (k_xs (pc := 588) (by decide) rfl rfl (by decide +kernel : decode code 588 = .ok (.iaload, 1))) ?_
  refine And.intro (k_crV (n := 4) (pc := 589) hG (zRoom_w hc hs) (tag := 12) rfl ini_X12 im_X12_inside se_X12_inside mk_L_72 dy_X12_inside (by decide +kernel : decode code 589 = .ok (.invokevirtual 72, 3))) ?_
  refine And.intro (k_icmp_eq (pc := 592) (by decide +kernel : decode code 592 = .ok (.if_icmp .eq 766, 3)) (by decide)) ?_
  refine And.intro (k_iconst (pc := 595) (by decide +kernel : decode code 595 = .ok (.iconst 0, 1)) (by decide)) ?_
  refine And.intro (k_w hc hs (pc := 596) (by decide +kernel : decode code 596 = .ok (.ireturn, 1))) ?_
  refine And.intro (k_aload_n (pc := 597) (by decide +kernel : decode code 597 = .ok (.aload_n 1, 1)) rfl) ?_
  refine And.intro (k_aload_n (pc := 598) (by decide +kernel : decode code 598 = .ok (.aload_n 0, 1)) rfl) ?_
  refine And.intro (k_iload (pc := 599) (by decide +kernel : decode code 599 = .ok (.iload 4, 2))) ?_
  refine And.intro (k_iconst (pc := 601) (by decide +kernel : decode code 601 = .ok (.iconst 1, 1)) (by decide)) ?_
  refine And.intro (k_iadd (pc := 602) (by decide +kernel : decode code 602 = .ok (.iadd, 1))) ?_
  refine And.intro (k_xs (pc := 603) (by decide) rfl rfl (by decide +kernel : decode code 603 = .ok (.iaload, 1))) ?_
  refine And.intro (k_aload_n (pc := 604) (by decide +kernel : decode code 604 = .ok (.aload_n 0, 1)) rfl) ?_
  refine And.intro (k_iload (pc := 605) (by decide +kernel : decode code 605 = .ok (.iload 4, 2))) ?_
  refine And.intro (k_iconst (pc := 607) (by decide +kernel : decode code 607 = .ok (.iconst 2, 1)) (by decide)) ?_
  refine And.intro (k_iadd (pc := 608) (by decide +kernel : decode code 608 = .ok (.iadd, 1))) ?_
  refine And.intro (k_xs (pc := 609) (by decide) rfl rfl (by decide +kernel : decode code 609 = .ok (.iaload, 1))) ?_
  refine And.intro (k_aload_n (pc := 610) (by decide +kernel : decode code 610 = .ok (.aload_n 0, 1)) rfl) ?_
  refine And.intro (k_iload (pc := 611) (by decide +kernel : decode code 611 = .ok (.iload 4, 2))) ?_
  refine And.intro (k_iconst (pc := 613) (by decide +kernel : decode code 613 = .ok (.iconst 3, 1)) (by decide)) ?_
  refine And.intro (k_iadd (pc := 614) (by decide +kernel : decode code 614 = .ok (.iadd, 1))) ?_
  refine And.intro (k_xs (pc := 615) (by decide) rfl rfl (by decide +kernel : decode code 615 = .ok (.iaload, 1))) ?_
  refine And.intro (k_crV (n := 3) (pc := 616) hG (zRoom_w hc hs) (tag := 11) rfl ini_X11 im_X11_round se_X11_round mk_L_73 dy_X11_round (by decide +kernel : decode code 616 = .ok (.invokevirtual 73, 3))) ?_
  refine And.intro (k_aload_n (pc := 619) (by decide +kernel : decode code 619 = .ok (.aload_n 2, 1)) rfl) ?_
  refine And.intro (k_aload_n (pc := 620) (by decide +kernel : decode code 620 = .ok (.aload_n 0, 1)) rfl) ?_
  refine And.intro (k_iload (pc := 621) (by decide +kernel : decode code 621 = .ok (.iload 4, 2))) ?_
  refine And.intro (k_iconst (pc := 623) (by decide +kernel : decode code 623 = .ok (.iconst 1, 1)) (by decide)) ?_
  refine And.intro (k_iadd (pc := 624) (by decide +kernel : decode code 624 = .ok (.iadd, 1))) ?_
  refine And.intro (k_xs (pc := 625) (by decide) rfl rfl (by decide +kernel : decode code 625 = .ok (.iaload, 1))) ?_
  refine And.intro (k_aload_n (pc := 626) (by decide +kernel : decode code 626 = .ok (.aload_n 0, 1)) rfl) ?_
  refine And.intro (k_iload (pc := 627) (by decide +kernel : decode code 627 = .ok (.iload 4, 2))) ?_
  refine And.intro (k_iconst (pc := 629) (by decide +kernel : decode code 629 = .ok (.iconst 2, 1)) (by decide)) ?_
  refine And.intro (k_iadd (pc := 630) (by decide +kernel : decode code 630 = .ok (.iadd, 1))) ?_
  refine And.intro (k_xs (pc := 631) (by decide) rfl rfl (by decide +kernel : decode code 631 = .ok (.iaload, 1))) ?_
  refine And.intro (k_aload_n (pc := 632) (by decide +kernel : decode code 632 = .ok (.aload_n 0, 1)) rfl) ?_
  refine And.intro (k_iload (pc := 633) (by decide +kernel : decode code 633 = .ok (.iload 4, 2))) ?_
  refine And.intro (k_iconst (pc := 635) (by decide +kernel : decode code 635 = .ok (.iconst 3, 1)) (by decide)) ?_
  refine And.intro (k_iadd (pc := 636) (by decide +kernel : decode code 636 = .ok (.iadd, 1))) ?_
  refine And.intro (k_xs (pc := 637) (by decide) rfl rfl (by decide +kernel : decode code 637 = .ok (.iaload, 1))) ?_
  refine And.intro (k_crV (n := 3) (pc := 638) hG (zRoom_w hc hs) (tag := 12) rfl ini_X12 im_X12_round se_X12_round mk_L_76 dy_X12_round (by decide +kernel : decode code 638 = .ok (.invokevirtual 76, 3))) ?_
  refine And.intro (k_icmp_eq (pc := 641) (by decide +kernel : decode code 641 = .ok (.if_icmp .eq 717, 3)) (by decide)) ?_
  refine And.intro (k_iconst (pc := 644) (by decide +kernel : decode code 644 = .ok (.iconst 0, 1)) (by decide)) ?_
  refine And.intro (k_w hc hs (pc := 645) (by decide +kernel : decode code 645 = .ok (.ireturn, 1))) ?_
  refine And.intro (k_aload_n (pc := 646) (by decide +kernel : decode code 646 = .ok (.aload_n 1, 1)) rfl) ?_
  refine And.intro (k_aload_n (pc := 647) (by decide +kernel : decode code 647 = .ok (.aload_n 0, 1)) rfl) ?_
  refine And.intro (k_iload (pc := 648) (by decide +kernel : decode code 648 = .ok (.iload 4, 2))) ?_
  refine And.intro (k_iconst (pc := 650) (by decide +kernel : decode code 650 = .ok (.iconst 1, 1)) (by decide)) ?_
  refine And.intro (k_iadd (pc := 651) (by decide +kernel : decode code 651 = .ok (.iadd, 1))) ?_
  refine And.intro (k_xs (pc := 652) (by decide) rfl rfl (by decide +kernel : decode code 652 = .ok (.iaload, 1))) ?_
  refine And.intro (k_aload_n (pc := 653) (by decide +kernel : decode code 653 = .ok (.aload_n 0, 1)) rfl) ?_
  refine And.intro (k_iload (pc := 654) (by decide +kernel : decode code 654 = .ok (.iload 4, 2))) ?_
  refine And.intro (k_iconst (pc := 656) (by decide +kernel : decode code 656 = .ok (.iconst 2, 1)) (by decide)) ?_
  refine And.intro (k_iadd (pc := 657) (by decide +kernel : decode code 657 = .ok (.iadd, 1))) ?_
  refine And.intro (k_xs (pc := 658) (by decide) rfl rfl (by decide +kernel : decode code 658 = .ok (.iaload, 1))) ?_
  refine And.intro (k_aload_n (pc := 659) (by decide +kernel : decode code 659 = .ok (.aload_n 0, 1)) rfl) ?_
  refine And.intro (k_iload (pc := 660) (by decide +kernel : decode code 660 = .ok (.iload 4, 2))) ?_
  refine And.intro (k_iconst (pc := 662) (by decide +kernel : decode code 662 = .ok (.iconst 3, 1)) (by decide)) ?_
  refine And.intro (k_iadd (pc := 663) (by decide +kernel : decode code 663 = .ok (.iadd, 1))) ?_
  refine And.intro (k_xs (pc := 664) (by decide) rfl rfl (by decide +kernel : decode code 664 = .ok (.iaload, 1))) ?_
  refine And.intro (k_aload_n (pc := 665) (by decide +kernel : decode code 665 = .ok (.aload_n 0, 1)) rfl) ?_
  refine And.intro (k_iload (pc := 666) (by decide +kernel : decode code 666 = .ok (.iload 4, 2))) ?_
  refine And.intro (k_iconst (pc := 668) (by decide +kernel : decode code 668 = .ok (.iconst 4, 1)) (by decide)) ?_
  refine And.intro (k_iadd (pc := 669) (by decide +kernel : decode code 669 = .ok (.iadd, 1))) ?_
  refine And.intro (k_xs (pc := 670) (by decide) rfl rfl (by decide +kernel : decode code 670 = .ok (.iaload, 1))) ?_
  refine And.intro (k_crV (n := 4) (pc := 671) hG (zRoom_w hc hs) (tag := 11) rfl ini_X11 im_X11_splits se_X11_splits mk_L_77 dy_X11_splits (by decide +kernel : decode code 671 = .ok (.invokevirtual 77, 3))) ?_
  refine And.intro (k_aload_n (pc := 674) (by decide +kernel : decode code 674 = .ok (.aload_n 2, 1)) rfl) ?_
  refine And.intro (k_aload_n (pc := 675) (by decide +kernel : decode code 675 = .ok (.aload_n 0, 1)) rfl) ?_
  refine And.intro (k_iload (pc := 676) (by decide +kernel : decode code 676 = .ok (.iload 4, 2))) ?_
  refine And.intro (k_iconst (pc := 678) (by decide +kernel : decode code 678 = .ok (.iconst 1, 1)) (by decide)) ?_
  refine And.intro (k_iadd (pc := 679) (by decide +kernel : decode code 679 = .ok (.iadd, 1))) ?_
  refine And.intro (k_xs (pc := 680) (by decide) rfl rfl (by decide +kernel : decode code 680 = .ok (.iaload, 1))) ?_
  refine And.intro (k_aload_n (pc := 681) (by decide +kernel : decode code 681 = .ok (.aload_n 0, 1)) rfl) ?_
  refine And.intro (k_iload (pc := 682) (by decide +kernel : decode code 682 = .ok (.iload 4, 2))) ?_
  refine And.intro (k_iconst (pc := 684) (by decide +kernel : decode code 684 = .ok (.iconst 2, 1)) (by decide)) ?_
  refine And.intro (k_iadd (pc := 685) (by decide +kernel : decode code 685 = .ok (.iadd, 1))) ?_
  refine And.intro (k_xs (pc := 686) (by decide) rfl rfl (by decide +kernel : decode code 686 = .ok (.iaload, 1))) ?_
  refine And.intro (k_aload_n (pc := 687) (by decide +kernel : decode code 687 = .ok (.aload_n 0, 1)) rfl) ?_
  refine And.intro (k_iload (pc := 688) (by decide +kernel : decode code 688 = .ok (.iload 4, 2))) ?_
  refine And.intro (k_iconst (pc := 690) (by decide +kernel : decode code 690 = .ok (.iconst 3, 1)) (by decide)) ?_
  refine And.intro (k_iadd (pc := 691) (by decide +kernel : decode code 691 = .ok (.iadd, 1))) ?_
  refine And.intro (k_xs (pc := 692) (by decide) rfl rfl (by decide +kernel : decode code 692 = .ok (.iaload, 1))) ?_
  refine And.intro (k_aload_n (pc := 693) (by decide +kernel : decode code 693 = .ok (.aload_n 0, 1)) rfl) ?_
  refine And.intro (k_iload (pc := 694) (by decide +kernel : decode code 694 = .ok (.iload 4, 2))) ?_
  refine And.intro (k_iconst (pc := 696) (by decide +kernel : decode code 696 = .ok (.iconst 4, 1)) (by decide)) ?_
  refine And.intro (k_iadd (pc := 697) (by decide +kernel : decode code 697 = .ok (.iadd, 1))) ?_
  refine And.intro (k_xs (pc := 698) (by decide) rfl rfl (by decide +kernel : decode code 698 = .ok (.iaload, 1))) ?_
  refine And.intro (k_crV (n := 4) (pc := 699) hG (zRoom_w hc hs) (tag := 12) rfl ini_X12 im_X12_splits se_X12_splits mk_L_80 dy_X12_splits (by decide +kernel : decode code 699 = .ok (.invokevirtual 80, 3))) ?_
  refine And.intro (k_icmp_eq (pc := 702) (by decide +kernel : decode code 702 = .ok (.if_icmp .eq 656, 3)) (by decide)) ?_
  refine And.intro (k_iconst (pc := 705) (by decide +kernel : decode code 705 = .ok (.iconst 0, 1)) (by decide)) ?_
  refine And.intro (k_w hc hs (pc := 706) (by decide +kernel : decode code 706 = .ok (.ireturn, 1))) ?_
  refine And.intro (k_aload_n (pc := 707) (by decide +kernel : decode code 707 = .ok (.aload_n 1, 1)) rfl) ?_
  refine And.intro (k_aload_n (pc := 708) (by decide +kernel : decode code 708 = .ok (.aload_n 0, 1)) rfl) ?_
  refine And.intro (k_iload (pc := 709) (by decide +kernel : decode code 709 = .ok (.iload 4, 2))) ?_
  refine And.intro (k_iconst (pc := 711) (by decide +kernel : decode code 711 = .ok (.iconst 1, 1)) (by decide)) ?_
  refine And.intro (k_iadd (pc := 712) (by decide +kernel : decode code 712 = .ok (.iadd, 1))) ?_
  refine And.intro (k_xs (pc := 713) (by decide) rfl rfl (by decide +kernel : decode code 713 = .ok (.iaload, 1))) ?_
  refine And.intro (k_crV (n := 1) (pc := 714) hG (zRoom_w hc hs) (tag := 11) rfl ini_X11 im_X11_slices se_X11_slices mk_L_81 dy_X11_slices (by decide +kernel : decode code 714 = .ok (.invokevirtual 81, 3))) ?_
  refine And.intro (k_aload_n (pc := 717) (by decide +kernel : decode code 717 = .ok (.aload_n 2, 1)) rfl) ?_
  refine And.intro (k_aload_n (pc := 718) (by decide +kernel : decode code 718 = .ok (.aload_n 0, 1)) rfl) ?_
  refine And.intro (k_iload (pc := 719) (by decide +kernel : decode code 719 = .ok (.iload 4, 2))) ?_
  refine And.intro (k_iconst (pc := 721) (by decide +kernel : decode code 721 = .ok (.iconst 1, 1)) (by decide)) ?_
  refine And.intro (k_iadd (pc := 722) (by decide +kernel : decode code 722 = .ok (.iadd, 1))) ?_
  refine And.intro (k_xs (pc := 723) (by decide) rfl rfl (by decide +kernel : decode code 723 = .ok (.iaload, 1))) ?_
  refine And.intro (k_crV (n := 1) (pc := 724) hG (zRoom_w hc hs) (tag := 12) rfl ini_X12 im_X12_slices se_X12_slices mk_L_84 dy_X12_slices (by decide +kernel : decode code 724 = .ok (.invokevirtual 84, 3))) ?_
  refine And.intro (k_icmp_eq (pc := 727) (by decide +kernel : decode code 727 = .ok (.if_icmp .eq 631, 3)) (by decide)) ?_
  refine And.intro (k_iconst (pc := 730) (by decide +kernel : decode code 730 = .ok (.iconst 0, 1)) (by decide)) ?_
  refine And.intro (k_w hc hs (pc := 731) (by decide +kernel : decode code 731 = .ok (.ireturn, 1))) ?_
  refine And.intro (k_aload_n (pc := 732) (by decide +kernel : decode code 732 = .ok (.aload_n 1, 1)) rfl) ?_
  refine And.intro (k_aload_n (pc := 733) (by decide +kernel : decode code 733 = .ok (.aload_n 0, 1)) rfl) ?_
  refine And.intro (k_iload (pc := 734) (by decide +kernel : decode code 734 = .ok (.iload 4, 2))) ?_
  refine And.intro (k_iconst (pc := 736) (by decide +kernel : decode code 736 = .ok (.iconst 1, 1)) (by decide)) ?_
  refine And.intro (k_iadd (pc := 737) (by decide +kernel : decode code 737 = .ok (.iadd, 1))) ?_
  refine And.intro (k_xs (pc := 738) (by decide) rfl rfl (by decide +kernel : decode code 738 = .ok (.iaload, 1))) ?_
  refine And.intro (k_aload_n (pc := 739) (by decide +kernel : decode code 739 = .ok (.aload_n 0, 1)) rfl) ?_
  refine And.intro (k_iload (pc := 740) (by decide +kernel : decode code 740 = .ok (.iload 4, 2))) ?_
  refine And.intro (k_iconst (pc := 742) (by decide +kernel : decode code 742 = .ok (.iconst 2, 1)) (by decide)) ?_
  refine And.intro (k_iadd (pc := 743) (by decide +kernel : decode code 743 = .ok (.iadd, 1))) ?_
  refine And.intro (k_xs (pc := 744) (by decide) rfl rfl (by decide +kernel : decode code 744 = .ok (.iaload, 1))) ?_
  refine And.intro (k_aload_n (pc := 745) (by decide +kernel : decode code 745 = .ok (.aload_n 0, 1)) rfl) ?_
  refine And.intro (k_iload (pc := 746) (by decide +kernel : decode code 746 = .ok (.iload 4, 2))) ?_
  refine And.intro (k_iconst (pc := 748) (by decide +kernel : decode code 748 = .ok (.iconst 3, 1)) (by decide)) ?_
  refine And.intro (k_iadd (pc := 749) (by decide +kernel : decode code 749 = .ok (.iadd, 1))) ?_
  refine And.intro (k_xs (pc := 750) (by decide) rfl rfl (by decide +kernel : decode code 750 = .ok (.iaload, 1))) ?_
  refine And.intro (k_crV (n := 3) (pc := 751) hG (zRoom_w hc hs) (tag := 11) rfl ini_X11 im_X11_cut se_X11_cut mk_L_85 dy_X11_cut (by decide +kernel : decode code 751 = .ok (.invokevirtual 85, 3))) ?_
  refine And.intro (k_aload_n (pc := 754) (by decide +kernel : decode code 754 = .ok (.aload_n 2, 1)) rfl) ?_
  refine And.intro (k_aload_n (pc := 755) (by decide +kernel : decode code 755 = .ok (.aload_n 0, 1)) rfl) ?_
  refine And.intro (k_iload (pc := 756) (by decide +kernel : decode code 756 = .ok (.iload 4, 2))) ?_
  refine And.intro (k_iconst (pc := 758) (by decide +kernel : decode code 758 = .ok (.iconst 1, 1)) (by decide)) ?_
  refine And.intro (k_iadd (pc := 759) (by decide +kernel : decode code 759 = .ok (.iadd, 1))) ?_
  refine And.intro (k_xs (pc := 760) (by decide) rfl rfl (by decide +kernel : decode code 760 = .ok (.iaload, 1))) ?_
  refine And.intro (k_aload_n (pc := 761) (by decide +kernel : decode code 761 = .ok (.aload_n 0, 1)) rfl) ?_
  refine And.intro (k_iload (pc := 762) (by decide +kernel : decode code 762 = .ok (.iload 4, 2))) ?_
  refine And.intro (k_iconst (pc := 764) (by decide +kernel : decode code 764 = .ok (.iconst 2, 1)) (by decide)) ?_
  refine And.intro (k_iadd (pc := 765) (by decide +kernel : decode code 765 = .ok (.iadd, 1))) ?_
  refine And.intro (k_xs (pc := 766) (by decide) rfl rfl (by decide +kernel : decode code 766 = .ok (.iaload, 1))) ?_
  refine And.intro (k_aload_n (pc := 767) (by decide +kernel : decode code 767 = .ok (.aload_n 0, 1)) rfl) ?_
  refine And.intro (k_iload (pc := 768) (by decide +kernel : decode code 768 = .ok (.iload 4, 2))) ?_
  refine And.intro (k_iconst (pc := 770) (by decide +kernel : decode code 770 = .ok (.iconst 3, 1)) (by decide)) ?_
  refine And.intro (k_iadd (pc := 771) (by decide +kernel : decode code 771 = .ok (.iadd, 1))) ?_
  refine And.intro (k_xs (pc := 772) (by decide) rfl rfl (by decide +kernel : decode code 772 = .ok (.iaload, 1))) ?_
  refine And.intro (k_crV (n := 3) (pc := 773) hG (zRoom_w hc hs) (tag := 12) rfl ini_X12 im_X12_cut se_X12_cut mk_L_88 dy_X12_cut (by decide +kernel : decode code 773 = .ok (.invokevirtual 88, 3))) ?_
  refine And.intro (k_icmp_eq (pc := 776) (by decide +kernel : decode code 776 = .ok (.if_icmp .eq 582, 3)) (by decide)) ?_
  refine And.intro (k_iconst (pc := 779) (by decide +kernel : decode code 779 = .ok (.iconst 0, 1)) (by decide)) ?_
  refine And.intro (k_w hc hs (pc := 780) (by decide +kernel : decode code 780 = .ok (.ireturn, 1))) ?_
  refine And.intro (k_aload_n (pc := 781) (by decide +kernel : decode code 781 = .ok (.aload_n 1, 1)) rfl) ?_
  refine And.intro (k_aload_n (pc := 782) (by decide +kernel : decode code 782 = .ok (.aload_n 0, 1)) rfl) ?_
  refine And.intro (k_iload (pc := 783) (by decide +kernel : decode code 783 = .ok (.iload 4, 2))) ?_
  refine And.intro (k_iconst (pc := 785) (by decide +kernel : decode code 785 = .ok (.iconst 1, 1)) (by decide)) ?_
  refine And.intro (k_iadd (pc := 786) (by decide +kernel : decode code 786 = .ok (.iadd, 1))) ?_
  refine And.intro (k_xs (pc := 787) (by decide) rfl rfl (by decide +kernel : decode code 787 = .ok (.iaload, 1))) ?_
  refine And.intro (k_aload_n (pc := 788) (by decide +kernel : decode code 788 = .ok (.aload_n 0, 1)) rfl) ?_
  refine And.intro (k_iload (pc := 789) (by decide +kernel : decode code 789 = .ok (.iload 4, 2))) ?_
  refine And.intro (k_iconst (pc := 791) (by decide +kernel : decode code 791 = .ok (.iconst 2, 1)) (by decide)) ?_
  refine And.intro (k_iadd (pc := 792) (by decide +kernel : decode code 792 = .ok (.iadd, 1))) ?_
  refine And.intro (k_xs (pc := 793) (by decide) rfl rfl (by decide +kernel : decode code 793 = .ok (.iaload, 1))) ?_
  refine And.intro (k_aload_n (pc := 794) (by decide +kernel : decode code 794 = .ok (.aload_n 0, 1)) rfl) ?_
  refine And.intro (k_iload (pc := 795) (by decide +kernel : decode code 795 = .ok (.iload 4, 2))) ?_
  refine And.intro (k_iconst (pc := 797) (by decide +kernel : decode code 797 = .ok (.iconst 3, 1)) (by decide)) ?_
  refine And.intro (k_iadd (pc := 798) (by decide +kernel : decode code 798 = .ok (.iadd, 1))) ?_
  refine And.intro (k_xs (pc := 799) (by decide) rfl rfl (by decide +kernel : decode code 799 = .ok (.iaload, 1))) ?_
  refine And.intro (k_crV (n := 3) (pc := 800) hG (zRoom_w hc hs) (tag := 11) rfl ini_X11 im_X11_stores se_X11_stores mk_L_89 dy_X11_stores (by decide +kernel : decode code 800 = .ok (.invokevirtual 89, 3))) ?_
  refine And.intro (k_aload_n (pc := 803) (by decide +kernel : decode code 803 = .ok (.aload_n 2, 1)) rfl) ?_
  refine And.intro (k_aload_n (pc := 804) (by decide +kernel : decode code 804 = .ok (.aload_n 0, 1)) rfl) ?_
  refine And.intro (k_iload (pc := 805) (by decide +kernel : decode code 805 = .ok (.iload 4, 2))) ?_
  refine And.intro (k_iconst (pc := 807) (by decide +kernel : decode code 807 = .ok (.iconst 1, 1)) (by decide)) ?_
  refine And.intro (k_iadd (pc := 808) (by decide +kernel : decode code 808 = .ok (.iadd, 1))) ?_
  refine And.intro (k_xs (pc := 809) (by decide) rfl rfl (by decide +kernel : decode code 809 = .ok (.iaload, 1))) ?_
  refine And.intro (k_aload_n (pc := 810) (by decide +kernel : decode code 810 = .ok (.aload_n 0, 1)) rfl) ?_
  refine And.intro (k_iload (pc := 811) (by decide +kernel : decode code 811 = .ok (.iload 4, 2))) ?_
  refine And.intro (k_iconst (pc := 813) (by decide +kernel : decode code 813 = .ok (.iconst 2, 1)) (by decide)) ?_
  refine And.intro (k_iadd (pc := 814) (by decide +kernel : decode code 814 = .ok (.iadd, 1))) ?_
  refine And.intro (k_xs (pc := 815) (by decide) rfl rfl (by decide +kernel : decode code 815 = .ok (.iaload, 1))) ?_
  refine And.intro (k_aload_n (pc := 816) (by decide +kernel : decode code 816 = .ok (.aload_n 0, 1)) rfl) ?_
  refine And.intro (k_iload (pc := 817) (by decide +kernel : decode code 817 = .ok (.iload 4, 2))) ?_
  refine And.intro (k_iconst (pc := 819) (by decide +kernel : decode code 819 = .ok (.iconst 3, 1)) (by decide)) ?_
  refine And.intro (k_iadd (pc := 820) (by decide +kernel : decode code 820 = .ok (.iadd, 1))) ?_
  refine And.intro (k_xs (pc := 821) (by decide) rfl rfl (by decide +kernel : decode code 821 = .ok (.iaload, 1))) ?_
  refine And.intro (k_crV (n := 3) (pc := 822) hG (zRoom_w hc hs) (tag := 12) rfl ini_X12 im_X12_stores se_X12_stores mk_L_92 dy_X12_stores (by decide +kernel : decode code 822 = .ok (.invokevirtual 92, 3))) ?_
  refine And.intro (k_icmp_eq (pc := 825) (by decide +kernel : decode code 825 = .ok (.if_icmp .eq 533, 3)) (by decide)) ?_
  refine And.intro (k_iconst (pc := 828) (by decide +kernel : decode code 828 = .ok (.iconst 0, 1)) (by decide)) ?_
  refine And.intro (k_w hc hs (pc := 829) (by decide +kernel : decode code 829 = .ok (.ireturn, 1))) ?_
  refine And.intro (k_aload_n (pc := 830) (by decide +kernel : decode code 830 = .ok (.aload_n 1, 1)) rfl) ?_
  refine And.intro (k_aload_n (pc := 831) (by decide +kernel : decode code 831 = .ok (.aload_n 0, 1)) rfl) ?_
  refine And.intro (k_iload (pc := 832) (by decide +kernel : decode code 832 = .ok (.iload 4, 2))) ?_
  refine And.intro (k_iconst (pc := 834) (by decide +kernel : decode code 834 = .ok (.iconst 1, 1)) (by decide)) ?_
  refine And.intro (k_iadd (pc := 835) (by decide +kernel : decode code 835 = .ok (.iadd, 1))) ?_
  refine And.intro (k_xs (pc := 836) (by decide) rfl rfl (by decide +kernel : decode code 836 = .ok (.iaload, 1))) ?_
  refine And.intro (k_crV (n := 1) (pc := 837) hG (zRoom_w hc hs) (tag := 11) rfl ini_X11 im_X11_checks se_X11_checks mk_L_93 dy_X11_checks (by decide +kernel : decode code 837 = .ok (.invokevirtual 93, 3))) ?_
  refine And.intro (k_aload_n (pc := 840) (by decide +kernel : decode code 840 = .ok (.aload_n 2, 1)) rfl) ?_
  refine And.intro (k_aload_n (pc := 841) (by decide +kernel : decode code 841 = .ok (.aload_n 0, 1)) rfl) ?_
  refine And.intro (k_iload (pc := 842) (by decide +kernel : decode code 842 = .ok (.iload 4, 2))) ?_
  refine And.intro (k_iconst (pc := 844) (by decide +kernel : decode code 844 = .ok (.iconst 1, 1)) (by decide)) ?_
  refine And.intro (k_iadd (pc := 845) (by decide +kernel : decode code 845 = .ok (.iadd, 1))) ?_
  refine And.intro (k_xs (pc := 846) (by decide) rfl rfl (by decide +kernel : decode code 846 = .ok (.iaload, 1))) ?_
  refine And.intro (k_crV (n := 1) (pc := 847) hG (zRoom_w hc hs) (tag := 12) rfl ini_X12 im_X12_checks se_X12_checks mk_L_96 dy_X12_checks (by decide +kernel : decode code 847 = .ok (.invokevirtual 96, 3))) ?_
  refine And.intro (k_icmp_eq (pc := 850) (by decide +kernel : decode code 850 = .ok (.if_icmp .eq 508, 3)) (by decide)) ?_
  refine And.intro (k_iconst (pc := 853) (by decide +kernel : decode code 853 = .ok (.iconst 0, 1)) (by decide)) ?_
  refine And.intro (k_w hc hs (pc := 854) (by decide +kernel : decode code 854 = .ok (.ireturn, 1))) ?_
  refine And.intro (k_aload_n (pc := 855) (by decide +kernel : decode code 855 = .ok (.aload_n 1, 1)) rfl) ?_
  refine And.intro (k_aload_n (pc := 856) (by decide +kernel : decode code 856 = .ok (.aload_n 0, 1)) rfl) ?_
  refine And.intro (k_iload (pc := 857) (by decide +kernel : decode code 857 = .ok (.iload 4, 2))) ?_
  refine And.intro (k_iconst (pc := 859) (by decide +kernel : decode code 859 = .ok (.iconst 1, 1)) (by decide)) ?_
  refine And.intro (k_iadd (pc := 860) (by decide +kernel : decode code 860 = .ok (.iadd, 1))) ?_
  refine And.intro (k_xs (pc := 861) (by decide) rfl rfl (by decide +kernel : decode code 861 = .ok (.iaload, 1))) ?_
  refine And.intro (k_crV (n := 1) (pc := 862) hG (zRoom_w hc hs) (tag := 11) rfl ini_X11 im_X11_stronger se_X11_stronger mk_L_97 dy_X11_stronger (by decide +kernel : decode code 862 = .ok (.invokevirtual 97, 3))) ?_
  refine And.intro (k_aload_n (pc := 865) (by decide +kernel : decode code 865 = .ok (.aload_n 2, 1)) rfl) ?_
  refine And.intro (k_aload_n (pc := 866) (by decide +kernel : decode code 866 = .ok (.aload_n 0, 1)) rfl) ?_
  refine And.intro (k_iload (pc := 867) (by decide +kernel : decode code 867 = .ok (.iload 4, 2))) ?_
  refine And.intro (k_iconst (pc := 869) (by decide +kernel : decode code 869 = .ok (.iconst 1, 1)) (by decide)) ?_
  refine And.intro (k_iadd (pc := 870) (by decide +kernel : decode code 870 = .ok (.iadd, 1))) ?_
  refine And.intro (k_xs (pc := 871) (by decide) rfl rfl (by decide +kernel : decode code 871 = .ok (.iaload, 1))) ?_
  refine And.intro (k_crV (n := 1) (pc := 872) hG (zRoom_w hc hs) (tag := 12) rfl ini_X12 im_X12_stronger se_X12_stronger mk_L_100 dy_X12_stronger (by decide +kernel : decode code 872 = .ok (.invokevirtual 100, 3))) ?_
  refine And.intro (k_icmp_eq (pc := 875) (by decide +kernel : decode code 875 = .ok (.if_icmp .eq 483, 3)) (by decide)) ?_
  refine And.intro (k_iconst (pc := 878) (by decide +kernel : decode code 878 = .ok (.iconst 0, 1)) (by decide)) ?_
  refine And.intro (k_w hc hs (pc := 879) (by decide +kernel : decode code 879 = .ok (.ireturn, 1))) ?_
  refine And.intro (k_aload_n (pc := 880) (by decide +kernel : decode code 880 = .ok (.aload_n 1, 1)) rfl) ?_
  refine And.intro (k_crV (n := 0) (pc := 881) hG (zRoom_w hc hs) (tag := 11) rfl ini_X11 im_X11_clears se_X11_clears mk_L_101 dy_X11_clears (by decide +kernel : decode code 881 = .ok (.invokevirtual 101, 3))) ?_
  refine And.intro (k_aload_n (pc := 884) (by decide +kernel : decode code 884 = .ok (.aload_n 2, 1)) rfl) ?_
  refine And.intro (k_crV (n := 0) (pc := 885) hG (zRoom_w hc hs) (tag := 12) rfl ini_X12 im_X12_clears se_X12_clears mk_L_104 dy_X12_clears (by decide +kernel : decode code 885 = .ok (.invokevirtual 104, 3))) ?_
  refine And.intro (k_icmp_eq (pc := 888) (by decide +kernel : decode code 888 = .ok (.if_icmp .eq 470, 3)) (by decide)) ?_
  refine And.intro (k_iconst (pc := 891) (by decide +kernel : decode code 891 = .ok (.iconst 0, 1)) (by decide)) ?_
  refine And.intro (k_w hc hs (pc := 892) (by decide +kernel : decode code 892 = .ok (.ireturn, 1))) ?_
  refine And.intro (k_aload_n (pc := 893) (by decide +kernel : decode code 893 = .ok (.aload_n 1, 1)) rfl) ?_
  refine And.intro (k_aload_n (pc := 894) (by decide +kernel : decode code 894 = .ok (.aload_n 0, 1)) rfl) ?_
  refine And.intro (k_iload (pc := 895) (by decide +kernel : decode code 895 = .ok (.iload 4, 2))) ?_
  refine And.intro (k_iconst (pc := 897) (by decide +kernel : decode code 897 = .ok (.iconst 1, 1)) (by decide)) ?_
  refine And.intro (k_iadd (pc := 898) (by decide +kernel : decode code 898 = .ok (.iadd, 1))) ?_
  refine And.intro (k_xs (pc := 899) (by decide) rfl rfl (by decide +kernel : decode code 899 = .ok (.iaload, 1))) ?_
  refine And.intro (k_aload_n (pc := 900) (by decide +kernel : decode code 900 = .ok (.aload_n 0, 1)) rfl) ?_
  refine And.intro (k_iload (pc := 901) (by decide +kernel : decode code 901 = .ok (.iload 4, 2))) ?_
  refine And.intro (k_iconst (pc := 903) (by decide +kernel : decode code 903 = .ok (.iconst 2, 1)) (by decide)) ?_
  refine And.intro (k_iadd (pc := 904) (by decide +kernel : decode code 904 = .ok (.iadd, 1))) ?_
  refine And.intro (k_xs (pc := 905) (by decide) rfl rfl (by decide +kernel : decode code 905 = .ok (.iaload, 1))) ?_
  refine And.intro (k_aload_n (pc := 906) (by decide +kernel : decode code 906 = .ok (.aload_n 0, 1)) rfl) ?_
  refine And.intro (k_iload (pc := 907) (by decide +kernel : decode code 907 = .ok (.iload 4, 2))) ?_
  refine And.intro (k_iconst (pc := 909) (by decide +kernel : decode code 909 = .ok (.iconst 3, 1)) (by decide)) ?_
  refine And.intro (k_iadd (pc := 910) (by decide +kernel : decode code 910 = .ok (.iadd, 1))) ?_
  refine And.intro (k_xs (pc := 911) (by decide) rfl rfl (by decide +kernel : decode code 911 = .ok (.iaload, 1))) ?_
  refine And.intro (k_crV (n := 3) (pc := 912) hG (zRoom_w hc hs) (tag := 11) rfl ini_X11 im_X11_breaks se_X11_breaks mk_L_105 dy_X11_breaks (by decide +kernel : decode code 912 = .ok (.invokevirtual 105, 3))) ?_
  refine And.intro (k_aload_n (pc := 915) (by decide +kernel : decode code 915 = .ok (.aload_n 2, 1)) rfl) ?_
  refine And.intro (k_aload_n (pc := 916) (by decide +kernel : decode code 916 = .ok (.aload_n 0, 1)) rfl) ?_
  refine And.intro (k_iload (pc := 917) (by decide +kernel : decode code 917 = .ok (.iload 4, 2))) ?_
  refine And.intro (k_iconst (pc := 919) (by decide +kernel : decode code 919 = .ok (.iconst 1, 1)) (by decide)) ?_
  refine And.intro (k_iadd (pc := 920) (by decide +kernel : decode code 920 = .ok (.iadd, 1))) ?_
  refine And.intro (k_xs (pc := 921) (by decide) rfl rfl (by decide +kernel : decode code 921 = .ok (.iaload, 1))) ?_
  refine And.intro (k_aload_n (pc := 922) (by decide +kernel : decode code 922 = .ok (.aload_n 0, 1)) rfl) ?_
  refine And.intro (k_iload (pc := 923) (by decide +kernel : decode code 923 = .ok (.iload 4, 2))) ?_
  refine And.intro (k_iconst (pc := 925) (by decide +kernel : decode code 925 = .ok (.iconst 2, 1)) (by decide)) ?_
  refine And.intro (k_iadd (pc := 926) (by decide +kernel : decode code 926 = .ok (.iadd, 1))) ?_
  refine And.intro (k_xs (pc := 927) (by decide) rfl rfl (by decide +kernel : decode code 927 = .ok (.iaload, 1))) ?_
  refine And.intro (k_aload_n (pc := 928) (by decide +kernel : decode code 928 = .ok (.aload_n 0, 1)) rfl) ?_
  refine And.intro (k_iload (pc := 929) (by decide +kernel : decode code 929 = .ok (.iload 4, 2))) ?_
  refine And.intro (k_iconst (pc := 931) (by decide +kernel : decode code 931 = .ok (.iconst 3, 1)) (by decide)) ?_
  refine And.intro (k_iadd (pc := 932) (by decide +kernel : decode code 932 = .ok (.iadd, 1))) ?_
  refine And.intro (k_xs (pc := 933) (by decide) rfl rfl (by decide +kernel : decode code 933 = .ok (.iaload, 1))) ?_
  refine And.intro (k_crV (n := 3) (pc := 934) hG (zRoom_w hc hs) (tag := 12) rfl ini_X12 im_X12_breaks se_X12_breaks mk_L_108 dy_X12_breaks (by decide +kernel : decode code 934 = .ok (.invokevirtual 108, 3))) ?_
  refine And.intro (k_icmp_eq (pc := 937) (by decide +kernel : decode code 937 = .ok (.if_icmp .eq 421, 3)) (by decide)) ?_
  refine And.intro (k_iconst (pc := 940) (by decide +kernel : decode code 940 = .ok (.iconst 0, 1)) (by decide)) ?_
  refine And.intro (k_w hc hs (pc := 941) (by decide +kernel : decode code 941 = .ok (.ireturn, 1))) ?_
  refine And.intro (k_aload_n (pc := 942) (by decide +kernel : decode code 942 = .ok (.aload_n 1, 1)) rfl) ?_
  refine And.intro (k_crV (n := 0) (pc := 943) hG (zRoom_w hc hs) (tag := 11) rfl ini_X11 im_X11_wholes se_X11_wholes mk_L_109 dy_X11_wholes (by decide +kernel : decode code 943 = .ok (.invokevirtual 109, 3))) ?_
  refine And.intro (k_aload_n (pc := 946) (by decide +kernel : decode code 946 = .ok (.aload_n 2, 1)) rfl) ?_
  refine And.intro (k_crV (n := 0) (pc := 947) hG (zRoom_w hc hs) (tag := 12) rfl ini_X12 im_X12_wholes se_X12_wholes mk_L_112 dy_X12_wholes (by decide +kernel : decode code 947 = .ok (.invokevirtual 112, 3))) ?_
  refine And.intro (k_icmp_eq (pc := 950) (by decide +kernel : decode code 950 = .ok (.if_icmp .eq 408, 3)) (by decide)) ?_
  refine And.intro (k_iconst (pc := 953) (by decide +kernel : decode code 953 = .ok (.iconst 0, 1)) (by decide)) ?_
  refine And.intro (k_w hc hs (pc := 954) (by decide +kernel : decode code 954 = .ok (.ireturn, 1))) ?_
  refine And.intro (k_aload_n (pc := 955) (by decide +kernel : decode code 955 = .ok (.aload_n 1, 1)) rfl) ?_
  refine And.intro (k_crV (n := 0) (pc := 956) hG (zRoom_w hc hs) (tag := 11) rfl ini_X11 im_X11_hull se_X11_hull mk_L_113 dy_X11_hull (by decide +kernel : decode code 956 = .ok (.invokevirtual 113, 3))) ?_
  refine And.intro (k_aload_n (pc := 959) (by decide +kernel : decode code 959 = .ok (.aload_n 2, 1)) rfl) ?_
  refine And.intro (k_crV (n := 0) (pc := 960) hG (zRoom_w hc hs) (tag := 12) rfl ini_X12 im_X12_hull se_X12_hull mk_L_116 dy_X12_hull (by decide +kernel : decode code 960 = .ok (.invokevirtual 116, 3))) ?_
  refine And.intro (k_icmp_eq (pc := 963) (by decide +kernel : decode code 963 = .ok (.if_icmp .eq 395, 3)) (by decide)) ?_
  refine And.intro (k_iconst (pc := 966) (by decide +kernel : decode code 966 = .ok (.iconst 0, 1)) (by decide)) ?_
  refine And.intro (k_w hc hs (pc := 967) (by decide +kernel : decode code 967 = .ok (.ireturn, 1))) ?_
  refine And.intro (k_aload_n (pc := 968) (by decide +kernel : decode code 968 = .ok (.aload_n 1, 1)) rfl) ?_
  refine And.intro (k_aload_n (pc := 969) (by decide +kernel : decode code 969 = .ok (.aload_n 0, 1)) rfl) ?_
  refine And.intro (k_iload (pc := 970) (by decide +kernel : decode code 970 = .ok (.iload 4, 2))) ?_
  refine And.intro (k_iconst (pc := 972) (by decide +kernel : decode code 972 = .ok (.iconst 1, 1)) (by decide)) ?_
  refine And.intro (k_iadd (pc := 973) (by decide +kernel : decode code 973 = .ok (.iadd, 1))) ?_
  refine And.intro (k_xs (pc := 974) (by decide) rfl rfl (by decide +kernel : decode code 974 = .ok (.iaload, 1))) ?_
  refine And.intro (k_aload_n (pc := 975) (by decide +kernel : decode code 975 = .ok (.aload_n 0, 1)) rfl) ?_
  refine And.intro (k_iload (pc := 976) (by decide +kernel : decode code 976 = .ok (.iload 4, 2))) ?_
  refine And.intro (k_iconst (pc := 978) (by decide +kernel : decode code 978 = .ok (.iconst 2, 1)) (by decide)) ?_
  refine And.intro (k_iadd (pc := 979) (by decide +kernel : decode code 979 = .ok (.iadd, 1))) ?_
  refine And.intro (k_xs (pc := 980) (by decide) rfl rfl (by decide +kernel : decode code 980 = .ok (.iaload, 1))) ?_
  refine And.intro (k_aload_n (pc := 981) (by decide +kernel : decode code 981 = .ok (.aload_n 0, 1)) rfl) ?_
  refine And.intro (k_iload (pc := 982) (by decide +kernel : decode code 982 = .ok (.iload 4, 2))) ?_
  refine And.intro (k_iconst (pc := 984) (by decide +kernel : decode code 984 = .ok (.iconst 3, 1)) (by decide)) ?_
  refine And.intro (k_iadd (pc := 985) (by decide +kernel : decode code 985 = .ok (.iadd, 1))) ?_
  refine And.intro (k_xs (pc := 986) (by decide) rfl rfl (by decide +kernel : decode code 986 = .ok (.iaload, 1))) ?_
  refine And.intro (k_crV (n := 3) (pc := 987) hG (zRoom_w hc hs) (tag := 11) rfl ini_X11 im_X11_nearest se_X11_nearest mk_L_117 dy_X11_nearest (by decide +kernel : decode code 987 = .ok (.invokevirtual 117, 3))) ?_
  refine And.intro (k_aload_n (pc := 990) (by decide +kernel : decode code 990 = .ok (.aload_n 2, 1)) rfl) ?_
  refine And.intro (k_aload_n (pc := 991) (by decide +kernel : decode code 991 = .ok (.aload_n 0, 1)) rfl) ?_
  refine And.intro (k_iload (pc := 992) (by decide +kernel : decode code 992 = .ok (.iload 4, 2))) ?_
  refine And.intro (k_iconst (pc := 994) (by decide +kernel : decode code 994 = .ok (.iconst 1, 1)) (by decide)) ?_
  refine And.intro (k_iadd (pc := 995) (by decide +kernel : decode code 995 = .ok (.iadd, 1))) ?_
  refine And.intro (k_xs (pc := 996) (by decide) rfl rfl (by decide +kernel : decode code 996 = .ok (.iaload, 1))) ?_
  refine And.intro (k_aload_n (pc := 997) (by decide +kernel : decode code 997 = .ok (.aload_n 0, 1)) rfl) ?_
  refine And.intro (k_iload (pc := 998) (by decide +kernel : decode code 998 = .ok (.iload 4, 2))) ?_
  refine And.intro (k_iconst (pc := 1000) (by decide +kernel : decode code 1000 = .ok (.iconst 2, 1)) (by decide)) ?_
  refine And.intro (k_iadd (pc := 1001) (by decide +kernel : decode code 1001 = .ok (.iadd, 1))) ?_
  refine And.intro (k_xs (pc := 1002) (by decide) rfl rfl (by decide +kernel : decode code 1002 = .ok (.iaload, 1))) ?_
  refine And.intro (k_aload_n (pc := 1003) (by decide +kernel : decode code 1003 = .ok (.aload_n 0, 1)) rfl) ?_
  refine And.intro (k_iload (pc := 1004) (by decide +kernel : decode code 1004 = .ok (.iload 4, 2))) ?_
  refine And.intro (k_iconst (pc := 1006) (by decide +kernel : decode code 1006 = .ok (.iconst 3, 1)) (by decide)) ?_
  refine And.intro (k_iadd (pc := 1007) (by decide +kernel : decode code 1007 = .ok (.iadd, 1))) ?_
  refine And.intro (k_xs (pc := 1008) (by decide) rfl rfl (by decide +kernel : decode code 1008 = .ok (.iaload, 1))) ?_
  refine And.intro (k_crV (n := 3) (pc := 1009) hG (zRoom_w hc hs) (tag := 12) rfl ini_X12 im_X12_nearest se_X12_nearest mk_L_120 dy_X12_nearest (by decide +kernel : decode code 1009 = .ok (.invokevirtual 120, 3))) ?_
  refine And.intro (k_icmp_eq (pc := 1012) (by decide +kernel : decode code 1012 = .ok (.if_icmp .eq 346, 3)) (by decide)) ?_
  refine And.intro (k_iconst (pc := 1015) (by decide +kernel : decode code 1015 = .ok (.iconst 0, 1)) (by decide)) ?_
  refine And.intro (k_w hc hs (pc := 1016) (by decide +kernel : decode code 1016 = .ok (.ireturn, 1))) ?_
  refine And.intro (k_aload_n (pc := 1017) (by decide +kernel : decode code 1017 = .ok (.aload_n 1, 1)) rfl) ?_
  refine And.intro (k_aload_n (pc := 1018) (by decide +kernel : decode code 1018 = .ok (.aload_n 0, 1)) rfl) ?_
  refine And.intro (k_iload (pc := 1019) (by decide +kernel : decode code 1019 = .ok (.iload 4, 2))) ?_
  refine And.intro (k_iconst (pc := 1021) (by decide +kernel : decode code 1021 = .ok (.iconst 1, 1)) (by decide)) ?_
  refine And.intro (k_iadd (pc := 1022) (by decide +kernel : decode code 1022 = .ok (.iadd, 1))) ?_
  refine And.intro (k_xs (pc := 1023) (by decide) rfl rfl (by decide +kernel : decode code 1023 = .ok (.iaload, 1))) ?_
  refine And.intro (k_aload_n (pc := 1024) (by decide +kernel : decode code 1024 = .ok (.aload_n 0, 1)) rfl) ?_
  refine And.intro (k_iload (pc := 1025) (by decide +kernel : decode code 1025 = .ok (.iload 4, 2))) ?_
  refine And.intro (k_iconst (pc := 1027) (by decide +kernel : decode code 1027 = .ok (.iconst 2, 1)) (by decide)) ?_
  refine And.intro (k_iadd (pc := 1028) (by decide +kernel : decode code 1028 = .ok (.iadd, 1))) ?_
  refine And.intro (k_xs (pc := 1029) (by decide) rfl rfl (by decide +kernel : decode code 1029 = .ok (.iaload, 1))) ?_
  refine And.intro (k_aload_n (pc := 1030) (by decide +kernel : decode code 1030 = .ok (.aload_n 0, 1)) rfl) ?_
  refine And.intro (k_iload (pc := 1031) (by decide +kernel : decode code 1031 = .ok (.iload 4, 2))) ?_
  refine And.intro (k_iconst (pc := 1033) (by decide +kernel : decode code 1033 = .ok (.iconst 3, 1)) (by decide)) ?_
  refine And.intro (k_iadd (pc := 1034) (by decide +kernel : decode code 1034 = .ok (.iadd, 1))) ?_
  refine And.intro (k_xs (pc := 1035) (by decide) rfl rfl (by decide +kernel : decode code 1035 = .ok (.iaload, 1))) ?_
  refine And.intro (k_crV (n := 3) (pc := 1036) hG (zRoom_w hc hs) (tag := 11) rfl ini_X11 im_X11_most se_X11_most mk_L_121 dy_X11_most (by decide +kernel : decode code 1036 = .ok (.invokevirtual 121, 3))) ?_
  refine And.intro (k_aload_n (pc := 1039) (by decide +kernel : decode code 1039 = .ok (.aload_n 2, 1)) rfl) ?_
  refine And.intro (k_aload_n (pc := 1040) (by decide +kernel : decode code 1040 = .ok (.aload_n 0, 1)) rfl) ?_
  refine And.intro (k_iload (pc := 1041) (by decide +kernel : decode code 1041 = .ok (.iload 4, 2))) ?_
  refine And.intro (k_iconst (pc := 1043) (by decide +kernel : decode code 1043 = .ok (.iconst 1, 1)) (by decide)) ?_
  refine And.intro (k_iadd (pc := 1044) (by decide +kernel : decode code 1044 = .ok (.iadd, 1))) ?_
  refine And.intro (k_xs (pc := 1045) (by decide) rfl rfl (by decide +kernel : decode code 1045 = .ok (.iaload, 1))) ?_
  refine And.intro (k_aload_n (pc := 1046) (by decide +kernel : decode code 1046 = .ok (.aload_n 0, 1)) rfl) ?_
  refine And.intro (k_iload (pc := 1047) (by decide +kernel : decode code 1047 = .ok (.iload 4, 2))) ?_
  refine And.intro (k_iconst (pc := 1049) (by decide +kernel : decode code 1049 = .ok (.iconst 2, 1)) (by decide)) ?_
  refine And.intro (k_iadd (pc := 1050) (by decide +kernel : decode code 1050 = .ok (.iadd, 1))) ?_
  refine And.intro (k_xs (pc := 1051) (by decide) rfl rfl (by decide +kernel : decode code 1051 = .ok (.iaload, 1))) ?_
  refine And.intro (k_aload_n (pc := 1052) (by decide +kernel : decode code 1052 = .ok (.aload_n 0, 1)) rfl) ?_
  refine And.intro (k_iload (pc := 1053) (by decide +kernel : decode code 1053 = .ok (.iload 4, 2))) ?_
  refine And.intro (k_iconst (pc := 1055) (by decide +kernel : decode code 1055 = .ok (.iconst 3, 1)) (by decide)) ?_
  refine And.intro (k_iadd (pc := 1056) (by decide +kernel : decode code 1056 = .ok (.iadd, 1))) ?_
  refine And.intro (k_xs (pc := 1057) (by decide) rfl rfl (by decide +kernel : decode code 1057 = .ok (.iaload, 1))) ?_
  refine And.intro (k_crV (n := 3) (pc := 1058) hG (zRoom_w hc hs) (tag := 12) rfl ini_X12 im_X12_most se_X12_most mk_L_124 dy_X12_most (by decide +kernel : decode code 1058 = .ok (.invokevirtual 124, 3))) ?_
  refine And.intro (k_icmp_eq (pc := 1061) (by decide +kernel : decode code 1061 = .ok (.if_icmp .eq 297, 3)) (by decide)) ?_
  refine And.intro (k_iconst (pc := 1064) (by decide +kernel : decode code 1064 = .ok (.iconst 0, 1)) (by decide)) ?_
  refine And.intro (k_w hc hs (pc := 1065) (by decide +kernel : decode code 1065 = .ok (.ireturn, 1))) ?_
  refine And.intro (k_aload_n (pc := 1066) (by decide +kernel : decode code 1066 = .ok (.aload_n 1, 1)) rfl) ?_
  refine And.intro (k_aload_n (pc := 1067) (by decide +kernel : decode code 1067 = .ok (.aload_n 0, 1)) rfl) ?_
  refine And.intro (k_iload (pc := 1068) (by decide +kernel : decode code 1068 = .ok (.iload 4, 2))) ?_
  refine And.intro (k_iconst (pc := 1070) (by decide +kernel : decode code 1070 = .ok (.iconst 1, 1)) (by decide)) ?_
  refine And.intro (k_iadd (pc := 1071) (by decide +kernel : decode code 1071 = .ok (.iadd, 1))) ?_
  refine And.intro (k_xs (pc := 1072) (by decide) rfl rfl (by decide +kernel : decode code 1072 = .ok (.iaload, 1))) ?_
  refine And.intro (k_aload_n (pc := 1073) (by decide +kernel : decode code 1073 = .ok (.aload_n 0, 1)) rfl) ?_
  refine And.intro (k_iload (pc := 1074) (by decide +kernel : decode code 1074 = .ok (.iload 4, 2))) ?_
  refine And.intro (k_iconst (pc := 1076) (by decide +kernel : decode code 1076 = .ok (.iconst 2, 1)) (by decide)) ?_
  refine And.intro (k_iadd (pc := 1077) (by decide +kernel : decode code 1077 = .ok (.iadd, 1))) ?_
  refine And.intro (k_xs (pc := 1078) (by decide) rfl rfl (by decide +kernel : decode code 1078 = .ok (.iaload, 1))) ?_
  refine And.intro (k_crV (n := 2) (pc := 1079) hG (zRoom_w hc hs) (tag := 11) rfl ini_X11 im_X11_gains se_X11_gains mk_L_125 dy_X11_gains (by decide +kernel : decode code 1079 = .ok (.invokevirtual 125, 3))) ?_
  refine And.intro (k_aload_n (pc := 1082) (by decide +kernel : decode code 1082 = .ok (.aload_n 2, 1)) rfl) ?_
  refine And.intro (k_aload_n (pc := 1083) (by decide +kernel : decode code 1083 = .ok (.aload_n 0, 1)) rfl) ?_
  refine And.intro (k_iload (pc := 1084) (by decide +kernel : decode code 1084 = .ok (.iload 4, 2))) ?_
  refine And.intro (k_iconst (pc := 1086) (by decide +kernel : decode code 1086 = .ok (.iconst 1, 1)) (by decide)) ?_
  refine And.intro (k_iadd (pc := 1087) (by decide +kernel : decode code 1087 = .ok (.iadd, 1))) ?_
  refine And.intro (k_xs (pc := 1088) (by decide) rfl rfl (by decide +kernel : decode code 1088 = .ok (.iaload, 1))) ?_
  refine And.intro (k_aload_n (pc := 1089) (by decide +kernel : decode code 1089 = .ok (.aload_n 0, 1)) rfl) ?_
  refine And.intro (k_iload (pc := 1090) (by decide +kernel : decode code 1090 = .ok (.iload 4, 2))) ?_
  refine And.intro (k_iconst (pc := 1092) (by decide +kernel : decode code 1092 = .ok (.iconst 2, 1)) (by decide)) ?_
  refine And.intro (k_iadd (pc := 1093) (by decide +kernel : decode code 1093 = .ok (.iadd, 1))) ?_
  refine And.intro (k_xs (pc := 1094) (by decide) rfl rfl (by decide +kernel : decode code 1094 = .ok (.iaload, 1))) ?_
  refine And.intro (k_crV (n := 2) (pc := 1095) hG (zRoom_w hc hs) (tag := 12) rfl ini_X12 im_X12_gains se_X12_gains mk_L_128 dy_X12_gains (by decide +kernel : decode code 1095 = .ok (.invokevirtual 128, 3))) ?_
  refine And.intro (k_icmp_eq (pc := 1098) (by decide +kernel : decode code 1098 = .ok (.if_icmp .eq 260, 3)) (by decide)) ?_
  refine And.intro (k_iconst (pc := 1101) (by decide +kernel : decode code 1101 = .ok (.iconst 0, 1)) (by decide)) ?_
  refine And.intro (k_w hc hs (pc := 1102) (by decide +kernel : decode code 1102 = .ok (.ireturn, 1))) ?_
  refine And.intro (k_aload_n (pc := 1103) (by decide +kernel : decode code 1103 = .ok (.aload_n 1, 1)) rfl) ?_
  refine And.intro (k_aload_n (pc := 1104) (by decide +kernel : decode code 1104 = .ok (.aload_n 0, 1)) rfl) ?_
  refine And.intro (k_iload (pc := 1105) (by decide +kernel : decode code 1105 = .ok (.iload 4, 2))) ?_
  refine And.intro (k_iconst (pc := 1107) (by decide +kernel : decode code 1107 = .ok (.iconst 1, 1)) (by decide)) ?_
  refine And.intro (k_iadd (pc := 1108) (by decide +kernel : decode code 1108 = .ok (.iadd, 1))) ?_
  refine And.intro (k_xs (pc := 1109) (by decide) rfl rfl (by decide +kernel : decode code 1109 = .ok (.iaload, 1))) ?_
  refine And.intro (k_aload_n (pc := 1110) (by decide +kernel : decode code 1110 = .ok (.aload_n 0, 1)) rfl) ?_
  refine And.intro (k_iload (pc := 1111) (by decide +kernel : decode code 1111 = .ok (.iload 4, 2))) ?_
  refine And.intro (k_iconst (pc := 1113) (by decide +kernel : decode code 1113 = .ok (.iconst 2, 1)) (by decide)) ?_
  refine And.intro (k_iadd (pc := 1114) (by decide +kernel : decode code 1114 = .ok (.iadd, 1))) ?_
  refine And.intro (k_xs (pc := 1115) (by decide) rfl rfl (by decide +kernel : decode code 1115 = .ok (.iaload, 1))) ?_
  refine And.intro (k_aload_n (pc := 1116) (by decide +kernel : decode code 1116 = .ok (.aload_n 0, 1)) rfl) ?_
  refine And.intro (k_iload (pc := 1117) (by decide +kernel : decode code 1117 = .ok (.iload 4, 2))) ?_
  refine And.intro (k_iconst (pc := 1119) (by decide +kernel : decode code 1119 = .ok (.iconst 3, 1)) (by decide)) ?_
  refine And.intro (k_iadd (pc := 1120) (by decide +kernel : decode code 1120 = .ok (.iadd, 1))) ?_
  refine And.intro (k_xs (pc := 1121) (by decide) rfl rfl (by decide +kernel : decode code 1121 = .ok (.iaload, 1))) ?_
  refine And.intro (k_crV (n := 3) (pc := 1122) hG (zRoom_w hc hs) (tag := 11) rfl ini_X11 im_X11_loses se_X11_loses mk_L_129 dy_X11_loses (by decide +kernel : decode code 1122 = .ok (.invokevirtual 129, 3))) ?_
  refine And.intro (k_aload_n (pc := 1125) (by decide +kernel : decode code 1125 = .ok (.aload_n 2, 1)) rfl) ?_
  refine And.intro (k_aload_n (pc := 1126) (by decide +kernel : decode code 1126 = .ok (.aload_n 0, 1)) rfl) ?_
  refine And.intro (k_iload (pc := 1127) (by decide +kernel : decode code 1127 = .ok (.iload 4, 2))) ?_
  refine And.intro (k_iconst (pc := 1129) (by decide +kernel : decode code 1129 = .ok (.iconst 1, 1)) (by decide)) ?_
  refine And.intro (k_iadd (pc := 1130) (by decide +kernel : decode code 1130 = .ok (.iadd, 1))) ?_
  refine And.intro (k_xs (pc := 1131) (by decide) rfl rfl (by decide +kernel : decode code 1131 = .ok (.iaload, 1))) ?_
  refine And.intro (k_aload_n (pc := 1132) (by decide +kernel : decode code 1132 = .ok (.aload_n 0, 1)) rfl) ?_
  refine And.intro (k_iload (pc := 1133) (by decide +kernel : decode code 1133 = .ok (.iload 4, 2))) ?_
  refine And.intro (k_iconst (pc := 1135) (by decide +kernel : decode code 1135 = .ok (.iconst 2, 1)) (by decide)) ?_
  refine And.intro (k_iadd (pc := 1136) (by decide +kernel : decode code 1136 = .ok (.iadd, 1))) ?_
  refine And.intro (k_xs (pc := 1137) (by decide) rfl rfl (by decide +kernel : decode code 1137 = .ok (.iaload, 1))) ?_
  refine And.intro (k_aload_n (pc := 1138) (by decide +kernel : decode code 1138 = .ok (.aload_n 0, 1)) rfl) ?_
  refine And.intro (k_iload (pc := 1139) (by decide +kernel : decode code 1139 = .ok (.iload 4, 2))) ?_
  refine And.intro (k_iconst (pc := 1141) (by decide +kernel : decode code 1141 = .ok (.iconst 3, 1)) (by decide)) ?_
  refine And.intro (k_iadd (pc := 1142) (by decide +kernel : decode code 1142 = .ok (.iadd, 1))) ?_
  refine And.intro (k_xs (pc := 1143) (by decide) rfl rfl (by decide +kernel : decode code 1143 = .ok (.iaload, 1))) ?_
  refine And.intro (k_crV (n := 3) (pc := 1144) hG (zRoom_w hc hs) (tag := 12) rfl ini_X12 im_X12_loses se_X12_loses mk_L_132 dy_X12_loses (by decide +kernel : decode code 1144 = .ok (.invokevirtual 132, 3))) ?_
  refine And.intro (k_icmp_eq (pc := 1147) (by decide +kernel : decode code 1147 = .ok (.if_icmp .eq 211, 3)) (by decide)) ?_
  refine And.intro (k_iconst (pc := 1150) (by decide +kernel : decode code 1150 = .ok (.iconst 0, 1)) (by decide)) ?_
  refine And.intro (k_w hc hs (pc := 1151) (by decide +kernel : decode code 1151 = .ok (.ireturn, 1))) ?_
  refine And.intro (k_aload_n (pc := 1152) (by decide +kernel : decode code 1152 = .ok (.aload_n 1, 1)) rfl) ?_
  refine And.intro (k_crV (n := 0) (pc := 1153) hG (zRoom_w hc hs) (tag := 11) rfl ini_X11 im_X11_tightest se_X11_tightest mk_L_133 dy_X11_tightest (by decide +kernel : decode code 1153 = .ok (.invokevirtual 133, 3))) ?_
  refine And.intro (k_aload_n (pc := 1156) (by decide +kernel : decode code 1156 = .ok (.aload_n 2, 1)) rfl) ?_
  refine And.intro (k_crV (n := 0) (pc := 1157) hG (zRoom_w hc hs) (tag := 12) rfl ini_X12 im_X12_tightest se_X12_tightest mk_L_136 dy_X12_tightest (by decide +kernel : decode code 1157 = .ok (.invokevirtual 136, 3))) ?_
  refine And.intro (k_icmp_eq (pc := 1160) (by decide +kernel : decode code 1160 = .ok (.if_icmp .eq 198, 3)) (by decide)) ?_
  refine And.intro (k_iconst (pc := 1163) (by decide +kernel : decode code 1163 = .ok (.iconst 0, 1)) (by decide)) ?_
  refine And.intro (k_w hc hs (pc := 1164) (by decide +kernel : decode code 1164 = .ok (.ireturn, 1))) ?_
  refine And.intro (k_aload_n (pc := 1165) (by decide +kernel : decode code 1165 = .ok (.aload_n 1, 1)) rfl) ?_
  refine And.intro (k_crV (n := 0) (pc := 1166) hG (zRoom_w hc hs) (tag := 11) rfl ini_X11 im_X11_day se_X11_day mk_L_137 dy_X11_day (by decide +kernel : decode code 1166 = .ok (.invokevirtual 137, 3))) ?_
  refine And.intro (k_aload_n (pc := 1169) (by decide +kernel : decode code 1169 = .ok (.aload_n 2, 1)) rfl) ?_
  refine And.intro (k_crV (n := 0) (pc := 1170) hG (zRoom_w hc hs) (tag := 12) rfl ini_X12 im_X12_day se_X12_day mk_L_140 dy_X12_day (by decide +kernel : decode code 1170 = .ok (.invokevirtual 140, 3))) ?_
  refine And.intro (k_icmp_eq (pc := 1173) (by decide +kernel : decode code 1173 = .ok (.if_icmp .eq 185, 3)) (by decide)) ?_
  refine And.intro (k_iconst (pc := 1176) (by decide +kernel : decode code 1176 = .ok (.iconst 0, 1)) (by decide)) ?_
  refine And.intro (k_w hc hs (pc := 1177) (by decide +kernel : decode code 1177 = .ok (.ireturn, 1))) ?_
  refine And.intro (k_aload_n (pc := 1178) (by decide +kernel : decode code 1178 = .ok (.aload_n 1, 1)) rfl) ?_
  refine And.intro (k_crV (n := 0) (pc := 1179) hG (zRoom_w hc hs) (tag := 11) rfl ini_X11 im_X11_undo se_X11_undo mk_L_141 dy_X11_undo (by decide +kernel : decode code 1179 = .ok (.invokevirtual 141, 3))) ?_
  refine And.intro (k_aload_n (pc := 1182) (by decide +kernel : decode code 1182 = .ok (.aload_n 2, 1)) rfl) ?_
  refine And.intro (k_crV (n := 0) (pc := 1183) hG (zRoom_w hc hs) (tag := 12) rfl ini_X12 im_X12_undo se_X12_undo mk_L_144 dy_X12_undo (by decide +kernel : decode code 1183 = .ok (.invokevirtual 144, 3))) ?_
  refine And.intro (k_icmp_eq (pc := 1186) (by decide +kernel : decode code 1186 = .ok (.if_icmp .eq 172, 3)) (by decide)) ?_
  refine And.intro (k_iconst (pc := 1189) (by decide +kernel : decode code 1189 = .ok (.iconst 0, 1)) (by decide)) ?_
  refine And.intro (k_w hc hs (pc := 1190) (by decide +kernel : decode code 1190 = .ok (.ireturn, 1))) ?_
  refine And.intro (k_aload_n (pc := 1191) (by decide +kernel : decode code 1191 = .ok (.aload_n 1, 1)) rfl) ?_
  refine And.intro (k_aload_n (pc := 1192) (by decide +kernel : decode code 1192 = .ok (.aload_n 0, 1)) rfl) ?_
  refine And.intro (k_iload (pc := 1193) (by decide +kernel : decode code 1193 = .ok (.iload 4, 2))) ?_
  refine And.intro (k_iconst (pc := 1195) (by decide +kernel : decode code 1195 = .ok (.iconst 1, 1)) (by decide)) ?_
  refine And.intro (k_iadd (pc := 1196) (by decide +kernel : decode code 1196 = .ok (.iadd, 1))) ?_
  refine And.intro (k_xs (pc := 1197) (by decide) rfl rfl (by decide +kernel : decode code 1197 = .ok (.iaload, 1))) ?_
  refine And.intro (k_aload_n (pc := 1198) (by decide +kernel : decode code 1198 = .ok (.aload_n 0, 1)) rfl) ?_
  refine And.intro (k_iload (pc := 1199) (by decide +kernel : decode code 1199 = .ok (.iload 4, 2))) ?_
  refine And.intro (k_iconst (pc := 1201) (by decide +kernel : decode code 1201 = .ok (.iconst 2, 1)) (by decide)) ?_
  refine And.intro (k_iadd (pc := 1202) (by decide +kernel : decode code 1202 = .ok (.iadd, 1))) ?_
  refine And.intro (k_xs (pc := 1203) (by decide) rfl rfl (by decide +kernel : decode code 1203 = .ok (.iaload, 1))) ?_
  refine And.intro (k_crV (n := 2) (pc := 1204) hG (zRoom_w hc hs) (tag := 11) rfl ini_X11 im_X11_years se_X11_years mk_L_145 dy_X11_years (by decide +kernel : decode code 1204 = .ok (.invokevirtual 145, 3))) ?_
  refine And.intro (k_aload_n (pc := 1207) (by decide +kernel : decode code 1207 = .ok (.aload_n 2, 1)) rfl) ?_
  refine And.intro (k_aload_n (pc := 1208) (by decide +kernel : decode code 1208 = .ok (.aload_n 0, 1)) rfl) ?_
  refine And.intro (k_iload (pc := 1209) (by decide +kernel : decode code 1209 = .ok (.iload 4, 2))) ?_
  refine And.intro (k_iconst (pc := 1211) (by decide +kernel : decode code 1211 = .ok (.iconst 1, 1)) (by decide)) ?_
  refine And.intro (k_iadd (pc := 1212) (by decide +kernel : decode code 1212 = .ok (.iadd, 1))) ?_
  refine And.intro (k_xs (pc := 1213) (by decide) rfl rfl (by decide +kernel : decode code 1213 = .ok (.iaload, 1))) ?_
  refine And.intro (k_aload_n (pc := 1214) (by decide +kernel : decode code 1214 = .ok (.aload_n 0, 1)) rfl) ?_
  refine And.intro (k_iload (pc := 1215) (by decide +kernel : decode code 1215 = .ok (.iload 4, 2))) ?_
  refine And.intro (k_iconst (pc := 1217) (by decide +kernel : decode code 1217 = .ok (.iconst 2, 1)) (by decide)) ?_
  refine And.intro (k_iadd (pc := 1218) (by decide +kernel : decode code 1218 = .ok (.iadd, 1))) ?_
  refine And.intro (k_xs (pc := 1219) (by decide) rfl rfl (by decide +kernel : decode code 1219 = .ok (.iaload, 1))) ?_
  refine And.intro (k_crV (n := 2) (pc := 1220) hG (zRoom_w hc hs) (tag := 12) rfl ini_X12 im_X12_years se_X12_years mk_L_148 dy_X12_years (by decide +kernel : decode code 1220 = .ok (.invokevirtual 148, 3))) ?_
  refine And.intro (k_icmp_eq (pc := 1223) (by decide +kernel : decode code 1223 = .ok (.if_icmp .eq 135, 3)) (by decide)) ?_
  refine And.intro (k_iconst (pc := 1226) (by decide +kernel : decode code 1226 = .ok (.iconst 0, 1)) (by decide)) ?_
  refine And.intro (k_w hc hs (pc := 1227) (by decide +kernel : decode code 1227 = .ok (.ireturn, 1))) ?_
  refine And.intro (k_aload_n (pc := 1228) (by decide +kernel : decode code 1228 = .ok (.aload_n 1, 1)) rfl) ?_
  refine And.intro (k_aload_n (pc := 1229) (by decide +kernel : decode code 1229 = .ok (.aload_n 0, 1)) rfl) ?_
  refine And.intro (k_iload (pc := 1230) (by decide +kernel : decode code 1230 = .ok (.iload 4, 2))) ?_
  refine And.intro (k_iconst (pc := 1232) (by decide +kernel : decode code 1232 = .ok (.iconst 1, 1)) (by decide)) ?_
  refine And.intro (k_iadd (pc := 1233) (by decide +kernel : decode code 1233 = .ok (.iadd, 1))) ?_
  refine And.intro (k_xs (pc := 1234) (by decide) rfl rfl (by decide +kernel : decode code 1234 = .ok (.iaload, 1))) ?_
  refine And.intro (k_crV (n := 1) (pc := 1235) hG (zRoom_w hc hs) (tag := 11) rfl ini_X11 im_X11_keep se_X11_keep mk_L_149 dy_X11_keep (by decide +kernel : decode code 1235 = .ok (.invokevirtual 149, 3))) ?_
  refine And.intro (k_aload_n (pc := 1238) (by decide +kernel : decode code 1238 = .ok (.aload_n 2, 1)) rfl) ?_
  refine And.intro (k_aload_n (pc := 1239) (by decide +kernel : decode code 1239 = .ok (.aload_n 0, 1)) rfl) ?_
  refine And.intro (k_iload (pc := 1240) (by decide +kernel : decode code 1240 = .ok (.iload 4, 2))) ?_
  refine And.intro (k_iconst (pc := 1242) (by decide +kernel : decode code 1242 = .ok (.iconst 1, 1)) (by decide)) ?_
  refine And.intro (k_iadd (pc := 1243) (by decide +kernel : decode code 1243 = .ok (.iadd, 1))) ?_
  refine And.intro (k_xs (pc := 1244) (by decide) rfl rfl (by decide +kernel : decode code 1244 = .ok (.iaload, 1))) ?_
  refine And.intro (k_crV (n := 1) (pc := 1245) hG (zRoom_w hc hs) (tag := 12) rfl ini_X12 im_X12_keep se_X12_keep mk_L_152 dy_X12_keep (by decide +kernel : decode code 1245 = .ok (.invokevirtual 152, 3))) ?_
  refine And.intro (k_icmp_eq (pc := 1248) (by decide +kernel : decode code 1248 = .ok (.if_icmp .eq 110, 3)) (by decide)) ?_
  refine And.intro (k_iconst (pc := 1251) (by decide +kernel : decode code 1251 = .ok (.iconst 0, 1)) (by decide)) ?_
  refine And.intro (k_w hc hs (pc := 1252) (by decide +kernel : decode code 1252 = .ok (.ireturn, 1))) ?_
  refine And.intro (k_aload_n (pc := 1253) (by decide +kernel : decode code 1253 = .ok (.aload_n 1, 1)) rfl) ?_
  refine And.intro (k_aload_n (pc := 1254) (by decide +kernel : decode code 1254 = .ok (.aload_n 0, 1)) rfl) ?_
  refine And.intro (k_iload (pc := 1255) (by decide +kernel : decode code 1255 = .ok (.iload 4, 2))) ?_
  refine And.intro (k_iconst (pc := 1257) (by decide +kernel : decode code 1257 = .ok (.iconst 1, 1)) (by decide)) ?_
  refine And.intro (k_iadd (pc := 1258) (by decide +kernel : decode code 1258 = .ok (.iadd, 1))) ?_
  refine And.intro (k_xs (pc := 1259) (by decide) rfl rfl (by decide +kernel : decode code 1259 = .ok (.iaload, 1))) ?_
  refine And.intro (k_crV (n := 1) (pc := 1260) hG (zRoom_w hc hs) (tag := 11) rfl ini_X11 im_X11_again se_X11_again mk_L_153 dy_X11_again (by decide +kernel : decode code 1260 = .ok (.invokevirtual 153, 3))) ?_
  refine And.intro (k_aload_n (pc := 1263) (by decide +kernel : decode code 1263 = .ok (.aload_n 2, 1)) rfl) ?_
  refine And.intro (k_aload_n (pc := 1264) (by decide +kernel : decode code 1264 = .ok (.aload_n 0, 1)) rfl) ?_
  refine And.intro (k_iload (pc := 1265) (by decide +kernel : decode code 1265 = .ok (.iload 4, 2))) ?_
  refine And.intro (k_iconst (pc := 1267) (by decide +kernel : decode code 1267 = .ok (.iconst 1, 1)) (by decide)) ?_
  refine And.intro (k_iadd (pc := 1268) (by decide +kernel : decode code 1268 = .ok (.iadd, 1))) ?_
  refine And.intro (k_xs (pc := 1269) (by decide) rfl rfl (by decide +kernel : decode code 1269 = .ok (.iaload, 1))) ?_
  refine And.intro (k_crV (n := 1) (pc := 1270) hG (zRoom_w hc hs) (tag := 12) rfl ini_X12 im_X12_again se_X12_again mk_L_156 dy_X12_again (by decide +kernel : decode code 1270 = .ok (.invokevirtual 156, 3))) ?_
  refine And.intro (k_icmp_eq (pc := 1273) (by decide +kernel : decode code 1273 = .ok (.if_icmp .eq 85, 3)) (by decide)) ?_
  refine And.intro (k_iconst (pc := 1276) (by decide +kernel : decode code 1276 = .ok (.iconst 0, 1)) (by decide)) ?_
  refine And.intro (k_w hc hs (pc := 1277) (by decide +kernel : decode code 1277 = .ok (.ireturn, 1))) ?_
  refine And.intro (k_aload_n (pc := 1278) (by decide +kernel : decode code 1278 = .ok (.aload_n 1, 1)) rfl) ?_
  refine And.intro (k_aload_n (pc := 1279) (by decide +kernel : decode code 1279 = .ok (.aload_n 0, 1)) rfl) ?_
  refine And.intro (k_iload (pc := 1280) (by decide +kernel : decode code 1280 = .ok (.iload 4, 2))) ?_
  refine And.intro (k_iconst (pc := 1282) (by decide +kernel : decode code 1282 = .ok (.iconst 1, 1)) (by decide)) ?_
  refine And.intro (k_iadd (pc := 1283) (by decide +kernel : decode code 1283 = .ok (.iadd, 1))) ?_
  refine And.intro (k_xs (pc := 1284) (by decide) rfl rfl (by decide +kernel : decode code 1284 = .ok (.iaload, 1))) ?_
  refine And.intro (k_crV (n := 1) (pc := 1285) hG (zRoom_w hc hs) (tag := 11) rfl ini_X11 im_X11_count se_X11_count mk_L_157 dy_X11_count (by decide +kernel : decode code 1285 = .ok (.invokevirtual 157, 3))) ?_
  refine And.intro (k_aload_n (pc := 1288) (by decide +kernel : decode code 1288 = .ok (.aload_n 2, 1)) rfl) ?_
  refine And.intro (k_aload_n (pc := 1289) (by decide +kernel : decode code 1289 = .ok (.aload_n 0, 1)) rfl) ?_
  refine And.intro (k_iload (pc := 1290) (by decide +kernel : decode code 1290 = .ok (.iload 4, 2))) ?_
  refine And.intro (k_iconst (pc := 1292) (by decide +kernel : decode code 1292 = .ok (.iconst 1, 1)) (by decide)) ?_
  refine And.intro (k_iadd (pc := 1293) (by decide +kernel : decode code 1293 = .ok (.iadd, 1))) ?_
  refine And.intro (k_xs (pc := 1294) (by decide) rfl rfl (by decide +kernel : decode code 1294 = .ok (.iaload, 1))) ?_
  refine And.intro (k_crV (n := 1) (pc := 1295) hG (zRoom_w hc hs) (tag := 12) rfl ini_X12 im_X12_count se_X12_count mk_L_160 dy_X12_count (by decide +kernel : decode code 1295 = .ok (.invokevirtual 160, 3))) ?_
  refine And.intro (k_icmp_eq (pc := 1298) (by decide +kernel : decode code 1298 = .ok (.if_icmp .eq 60, 3)) (by decide)) ?_
  refine And.intro (k_iconst (pc := 1301) (by decide +kernel : decode code 1301 = .ok (.iconst 0, 1)) (by decide)) ?_
  refine And.intro (k_w hc hs (pc := 1302) (by decide +kernel : decode code 1302 = .ok (.ireturn, 1))) ?_
  refine And.intro (k_aload_n (pc := 1303) (by decide +kernel : decode code 1303 = .ok (.aload_n 1, 1)) rfl) ?_
  refine And.intro (k_aload_n (pc := 1304) (by decide +kernel : decode code 1304 = .ok (.aload_n 0, 1)) rfl) ?_
  refine And.intro (k_iload (pc := 1305) (by decide +kernel : decode code 1305 = .ok (.iload 4, 2))) ?_
  refine And.intro (k_iconst (pc := 1307) (by decide +kernel : decode code 1307 = .ok (.iconst 1, 1)) (by decide)) ?_
  refine And.intro (k_iadd (pc := 1308) (by decide +kernel : decode code 1308 = .ok (.iadd, 1))) ?_
  refine And.intro (k_xs (pc := 1309) (by decide) rfl rfl (by decide +kernel : decode code 1309 = .ok (.iaload, 1))) ?_
  refine And.intro (k_aload_n (pc := 1310) (by decide +kernel : decode code 1310 = .ok (.aload_n 3, 1)) rfl) ?_
  refine And.intro (k_no) ?_
  refine And.intro (k_istore (pc := 1314) (by decide +kernel : decode code 1314 = .ok (.istore 5, 2))) ?_
  refine And.intro (k_aload_n (pc := 1316) (by decide +kernel : decode code 1316 = .ok (.aload_n 2, 1)) rfl) ?_
  refine And.intro (k_aload_n (pc := 1317) (by decide +kernel : decode code 1317 = .ok (.aload_n 0, 1)) rfl) ?_
  refine And.intro (k_iload (pc := 1318) (by decide +kernel : decode code 1318 = .ok (.iload 4, 2))) ?_
  refine And.intro (k_iconst (pc := 1320) (by decide +kernel : decode code 1320 = .ok (.iconst 1, 1)) (by decide)) ?_
  refine And.intro (k_iadd (pc := 1321) (by decide +kernel : decode code 1321 = .ok (.iadd, 1))) ?_
  refine And.intro (k_xs (pc := 1322) (by decide) rfl rfl (by decide +kernel : decode code 1322 = .ok (.iaload, 1))) ?_
  refine And.intro (k_crV (n := 1) (pc := 1323) hG (zRoom_w hc hs) (tag := 12) rfl ini_X12 im_X12_told se_X12_told mk_L_164 dy_X12_told (by decide +kernel : decode code 1323 = .ok (.invokevirtual 164, 3))) ?_
  refine And.intro (k_lstore (pc := 1326) (by decide +kernel : decode code 1326 = .ok (.lstore 6, 2))) ?_
  refine And.intro (k_aload_n (pc := 1328) (by decide +kernel : decode code 1328 = .ok (.aload_n 2, 1)) rfl) ?_
  refine And.intro (k_crV (n := 0) (pc := 1329) hG (zRoom_w hc hs) (tag := 12) rfl ini_X12 im_X12_thrown se_X12_thrown mk_L_44 dy_X12_thrown (by decide +kernel : decode code 1329 = .ok (.invokevirtual 44, 3))) ?_
  refine And.intro (k_iload (pc := 1332) (by decide +kernel : decode code 1332 = .ok (.iload 5, 2))) ?_
  refine And.intro (k_icmp_eq (pc := 1334) (by decide +kernel : decode code 1334 = .ok (.if_icmp .eq 5, 3)) (by decide)) ?_
  refine And.intro (k_iconst (pc := 1337) (by decide +kernel : decode code 1337 = .ok (.iconst 0, 1)) (by decide)) ?_
  refine And.intro (k_w hc hs (pc := 1338) (by decide +kernel : decode code 1338 = .ok (.ireturn, 1))) ?_
  refine And.intro (k_iload (pc := 1339) (by decide +kernel : decode code 1339 = .ok (.iload 5, 2))) ?_
  refine And.intro (k_if_ne (pc := 1341) (by decide +kernel : decode code 1341 = .ok (.ifCond .ne 14, 3)) (by decide)) ?_
  refine And.intro (k_aload_n (pc := 1344) (by decide +kernel : decode code 1344 = .ok (.aload_n 3, 1)) rfl) ?_
  refine And.intro (k_iconst (pc := 1345) (by decide +kernel : decode code 1345 = .ok (.iconst 0, 1)) (by decide)) ?_
  refine And.intro (k_lald (pc := 1346) (by decide +kernel : decode code 1346 = .ok (.laload, 1))) ?_
  refine And.intro (k_lload (pc := 1347) (by decide +kernel : decode code 1347 = .ok (.lload 6, 2))) ?_
  refine And.intro (k_lcmp_eq (pc := 1349) (by decide +kernel : decode code 1349 = .ok (.lcmp, 1)) (by decide +kernel : decode code 1350 = .ok (.ifCond .eq 5, 3)) (by decide)) ?_
  refine And.intro (k_iconst (pc := 1353) (by decide +kernel : decode code 1353 = .ok (.iconst 0, 1)) (by decide)) ?_
  refine And.intro (k_w hc hs (pc := 1354) (by decide +kernel : decode code 1354 = .ok (.ireturn, 1))) ?_
  refine And.intro (k_goto (pc := 1355) (by decide +kernel : decode code 1355 = .ok (.goto 3, 3)) (by decide)) ?_
  refine And.intro (k_iinc (pc := 1358) (by decide +kernel : decode code 1358 = .ok (.iinc 4 5, 3)) (by decide)) ?_
  refine And.intro (k_goto (pc := 1361) (by decide +kernel : decode code 1361 = .ok (.goto (-1338), 3)) (by decide)) ?_
  refine And.intro (k_iconst (pc := 1364) (by decide +kernel : decode code 1364 = .ok (.iconst 1, 1)) (by decide)) ?_
  refine And.intro (k_w hc hs (pc := 1365) (by decide +kernel : decode code 1365 = .ok (.ireturn, 1))) ?_
  exact trivial
