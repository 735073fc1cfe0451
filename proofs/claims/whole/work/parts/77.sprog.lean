def o_no : zOp := fun _ _ _ _ _ _ _ => False
theorem k_no {G : zG} {R : Room} {own : String} {cc : ByteArray} {nL : Nat} {ret : Option FieldType} {F : List Frame → Array Value → State → State → Prop} {cs sl : Nat} {C : zCl} {Rt : zRt} {pc nxt : Nat} : zOK G R own cc nL ret F cs sl C Rt pc nxt o_no := fun _ _ _ _ _ _ _ h => h.elim
theorem fs_J0_1053 : Cond.fieldLink RJ0 1053 "jdk/internal/util/Preconditions" "SIOOBE_FORMATTER" "Ljava/util/function/BiFunction;" ∈ zWs := zWs_in 443 (by decide +kernel) rfl
theorem fs_J0_38 : Cond.fieldLink RJ0 38 "java/lang/String" "COMPACT_STRINGS" "Z" ∈ zWs := zWs_in 427 (by decide +kernel) rfl
theorem fs_J0_15 : Cond.fieldLink RJ0 15 "java/lang/String" "coder" "B" ∈ zWs := zWs_in 1653 (by decide +kernel) rfl
theorem fs_J0_9 : Cond.fieldLink RJ0 9 "java/lang/String" "value" "[B" ∈ zWs := zWs_in 1652 (by decide +kernel) rfl
theorem ml_J0_335 : Cond.methodLink RJ0 335 yJ0_coder_7d493 ∈ zWs := zWs_in 423 (by decide +kernel) rfl
theorem sini_J0 : Cond.initialized RJ0 ∈ zWs := zWs_in 100 (by decide +kernel) rfl
theorem sim_J0_coder_7d493 : Cond.instanceMethod yJ0_coder_7d493 ∈ zWs := zWs_in 424 (by decide +kernel) rfl
theorem sse_J0_coder_7d493 : Cond.selects yJ0_coder_7d493.cls yJ0_coder_7d493 yJ0_coder_7d493 ∈ zWs := zWs_in 425 (by decide +kernel) rfl
theorem sdy_J0_coder_7d493 : yJ0_coder_7d493.cls ≠ "java/lang/invoke/MethodHandle" ∧ yJ0_coder_7d493.cls ≠ "java/lang/invoke/VarHandle" ∧ (parseMethodDescriptor yJ0_coder_7d493.desc).map (fun d => d.parameters.length) = some 0 := by decide +kernel
theorem ml_J0_492 : Cond.methodLink RJ0 492 yJ0_isLatin1_aae02 ∈ zWs := zWs_in 433 (by decide +kernel) rfl
theorem sim_J0_isLatin1_aae02 : Cond.instanceMethod yJ0_isLatin1_aae02 ∈ zWs := zWs_in 434 (by decide +kernel) rfl
theorem sse_J0_isLatin1_aae02 : Cond.selects yJ0_isLatin1_aae02.cls yJ0_isLatin1_aae02 yJ0_isLatin1_aae02 ∈ zWs := zWs_in 435 (by decide +kernel) rfl
theorem sdy_J0_isLatin1_aae02 : yJ0_isLatin1_aae02.cls ≠ "java/lang/invoke/MethodHandle" ∧ yJ0_isLatin1_aae02.cls ≠ "java/lang/invoke/VarHandle" ∧ (parseMethodDescriptor yJ0_isLatin1_aae02.desc).map (fun d => d.parameters.length) = some 0 := by decide +kernel
theorem ml_X8_23 : Cond.methodLink RX8 23 yJ0_length_8abf5 ∈ zWs := zWs_in 419 (by decide +kernel) rfl
theorem sim_J0_length_8abf5 : Cond.instanceMethod yJ0_length_8abf5 ∈ zWs := zWs_in 420 (by decide +kernel) rfl
theorem sse_J0_length_8abf5 : Cond.selects yJ0_length_8abf5.cls yJ0_length_8abf5 yJ0_length_8abf5 ∈ zWs := zWs_in 421 (by decide +kernel) rfl
theorem sdy_J0_length_8abf5 : yJ0_length_8abf5.cls ≠ "java/lang/invoke/MethodHandle" ∧ yJ0_length_8abf5.cls ≠ "java/lang/invoke/VarHandle" ∧ (parseMethodDescriptor yJ0_length_8abf5.desc).map (fun d => d.parameters.length) = some 0 := by decide +kernel
theorem ml_X8_29 : Cond.methodLink RX8 29 yJ0_charAt_5068e ∈ zWs := zWs_in 429 (by decide +kernel) rfl
theorem sim_J0_charAt_5068e : Cond.instanceMethod yJ0_charAt_5068e ∈ zWs := zWs_in 430 (by decide +kernel) rfl
theorem sse_J0_charAt_5068e : Cond.selects yJ0_charAt_5068e.cls yJ0_charAt_5068e yJ0_charAt_5068e ∈ zWs := zWs_in 431 (by decide +kernel) rfl
theorem sdy_J0_charAt_5068e : yJ0_charAt_5068e.cls ≠ "java/lang/invoke/MethodHandle" ∧ yJ0_charAt_5068e.cls ≠ "java/lang/invoke/VarHandle" ∧ (parseMethodDescriptor yJ0_charAt_5068e.desc).map (fun d => d.parameters.length) = some 1 := by decide +kernel
theorem mk_J0_1059 : zMk RJ0 1059 yJ3_checkIndex_8e157 := Or.inl (zWs_in 445 (by decide +kernel) rfl)
theorem ini_J3 : Cond.initialized RJ3 ∈ zWs := (zWs_in 102 (by decide +kernel) rfl)
theorem dy_J3_checkIndex_8e157 : yJ3_checkIndex_8e157.cls ≠ "java/lang/invoke/MethodHandle" ∧ yJ3_checkIndex_8e157.cls ≠ "java/lang/invoke/VarHandle" ∧ (parseMethodDescriptor yJ3_checkIndex_8e157.desc).map (fun d => d.parameters.length) = some 3 := by decide +kernel
theorem sta_J3_checkIndex_8e157 : Cond.static yJ3_checkIndex_8e157 ∈ zWs := (zWs_in 446 (by decide +kernel) rfl)
theorem mk_J0_495 : zMk RJ0 495 yJ1_charAt_3b067 := Or.inl (zWs_in 437 (by decide +kernel) rfl)
theorem ini_J1 : Cond.initialized RJ1 ∈ zWs := (zWs_in 101 (by decide +kernel) rfl)
theorem dy_J1_charAt_3b067 : yJ1_charAt_3b067.cls ≠ "java/lang/invoke/MethodHandle" ∧ yJ1_charAt_3b067.cls ≠ "java/lang/invoke/VarHandle" ∧ (parseMethodDescriptor yJ1_charAt_3b067.desc).map (fun d => d.parameters.length) = some 2 := by decide +kernel
theorem sta_J1_charAt_3b067 : Cond.static yJ1_charAt_3b067 ∈ zWs := (zWs_in 438 (by decide +kernel) rfl)
theorem mk_X8_33 : zMk RX8 33 yX8_fits := Or.inl (zWs_in 467 (by decide +kernel) rfl)
theorem dy_X8_fits : yX8_fits.cls ≠ "java/lang/invoke/MethodHandle" ∧ yX8_fits.cls ≠ "java/lang/invoke/VarHandle" ∧ (parseMethodDescriptor yX8_fits.desc).map (fun d => d.parameters.length) = some 2 := by decide +kernel
theorem im_X8_fits : Cond.instanceMethod yX8_fits ∈ zWs := (zWs_in 469 (by decide +kernel) rfl)
theorem se_X8_fits : Cond.selects yX8_fits.cls yX8_fits yX8_fits ∈ zWs := (zWs_in 0 (by decide +kernel) rfl)
theorem mk_X8_56 : zMk RX8 56 yX8_signed := Or.inl (zWs_in 483 (by decide +kernel) rfl)
theorem mk_X8_59 : zMk RX8 59 yX5_append := Or.inl (zWs_in 487 (by decide +kernel) rfl)
noncomputable def pgJ3_checkIndex_8e157 : zPg := [(0, o_il 0), (1, o_if_lt 9), (4, o_il 0), (5, o_il 1), (6, o_ic_lt 16), (9, o_al 2), (10, o_il 0), (11, o_il 1), (12, o_no), (15, o_no), (16, o_il 0), (17, o_ir)]
set_option maxRecDepth 20000 in
theorem pkJ3_checkIndex_8e157 {G : zG} (hs : zSok G) (hG : zGok G) (Q : zRt) : zPOK G (zRm 1) RJ3 cJ3_checkIndex_8e157 3 (some .int) (zF G Q 0 0) 0 0 (zCalls G 1) Q pgJ3_checkIndex_8e157 := by
  refine And.intro (k_iload_n (pc := 0) (by decide +kernel : decode cJ3_checkIndex_8e157 0 = .ok (.iload_n 0, 1)) rfl) ?_
  refine And.intro (k_if_lt (pc := 1) (by decide +kernel : decode cJ3_checkIndex_8e157 1 = .ok (.ifCond .lt 8, 3)) (by decide)) ?_
  refine And.intro (k_iload_n (pc := 4) (by decide +kernel : decode cJ3_checkIndex_8e157 4 = .ok (.iload_n 0, 1)) rfl) ?_
  refine And.intro (k_iload_n (pc := 5) (by decide +kernel : decode cJ3_checkIndex_8e157 5 = .ok (.iload_n 1, 1)) rfl) ?_
  refine And.intro (k_icmp_lt (pc := 6) (by decide +kernel : decode cJ3_checkIndex_8e157 6 = .ok (.if_icmp .lt 10, 3)) (by decide)) ?_
  refine And.intro (k_aload_n (pc := 9) (by decide +kernel : decode cJ3_checkIndex_8e157 9 = .ok (.aload_n 2, 1)) rfl) ?_
  refine And.intro (k_iload_n (pc := 10) (by decide +kernel : decode cJ3_checkIndex_8e157 10 = .ok (.iload_n 0, 1)) rfl) ?_
  refine And.intro (k_iload_n (pc := 11) (by decide +kernel : decode cJ3_checkIndex_8e157 11 = .ok (.iload_n 1, 1)) rfl) ?_
  refine And.intro (k_no) ?_
  refine And.intro (k_no) ?_
  refine And.intro (k_iload_n (pc := 16) (by decide +kernel : decode cJ3_checkIndex_8e157 16 = .ok (.iload_n 0, 1)) rfl) ?_
  refine And.intro (k_ireturn (pc := 17) rfl (by decide +kernel : decode cJ3_checkIndex_8e157 17 = .ok (.ireturn, 1))) ?_
  exact trivial
theorem cdJ3_checkIndex_8e157 : Cond.code yJ3_checkIndex_8e157 cJ3_checkIndex_8e157 3 (some .int) ∈ zWs := zWs_in 447 (by decide +kernel) rfl
abbrev aJ3_checkIndex_8e157 (G : zG) (Q : zRt) : Nat → zKn := zAt G (zRm 1) RJ3 cJ3_checkIndex_8e157 3 (some .int) (zF G Q 0 0) 0 0
theorem rnJ3_checkIndex_8e157 {G : zG} (hG : zGok G) {k' : Nat} (hk : 2 ≤ k') {σ : zSt} {Q : zRt} (v0 : Int32) (v1 : Int32) (v2 : Nat) (h : aJ3_checkIndex_8e157 G Q 0 [some (.int v0), some (.int v1), some (.ref v2)] [] σ) : zCalls G k' yJ3_checkIndex_8e157 [.int v0, .int v1, .ref v2] σ Q := zMethodF hG hk (Nat.le_of_ble_eq_true rfl) (by decide +kernel) cdJ3_checkIndex_8e157 _ rfl (Nat.le_of_ble_eq_true rfl) h
theorem rnNJ3_checkIndex_8e157 {G : zG} (hG : zGok G) {k' : Nat} (hk : 2 ≤ k') {σ : zSt} {Q : zRt} (v0 : Int32) (v1 : Int32) (h : aJ3_checkIndex_8e157 G Q 0 [some (.int v0), some (.int v1), some .null] [] σ) : zCalls G k' yJ3_checkIndex_8e157 [.int v0, .int v1, .null] σ Q := zMethodF hG hk (Nat.le_of_ble_eq_true rfl) (by decide +kernel) cdJ3_checkIndex_8e157 _ rfl (Nat.le_of_ble_eq_true rfl) h
theorem sgJ3_checkIndex_8e157 {G : zG} (hs : zSok G) (hG : zGok G) {Q : zRt} (stops : List Nat) (n pc : Nat) {ls : zLs} {st : List Value} {σ : zSt} (h : zM (zCalls G 1) Q (aJ3_checkIndex_8e157 G Q) stops pgJ3_checkIndex_8e157 n (zDrop pc pgJ3_checkIndex_8e157) ls st σ) : aJ3_checkIndex_8e157 G Q pc ls st σ := zStep (pkJ3_checkIndex_8e157 hs hG Q) stops n pc h
noncomputable def pgJ0_checkIndex_df160 : zPg := [(0, o_il 0), (1, o_il 1), (2, o_gF), (5, o_cr yJ3_checkIndex_8e157 3), (8, o_pop), (9, o_vr)]
set_option maxRecDepth 20000 in
theorem pkJ0_checkIndex_df160 {G : zG} (hs : zSok G) (hG : zGok G) (Q : zRt) : zPOK G (zRm 2) RJ0 cJ0_checkIndex_df160 2 none (zF G Q 0 0) 0 0 (zCalls G 2) Q pgJ0_checkIndex_df160 := by
  refine And.intro (k_iload_n (pc := 0) (by decide +kernel : decode cJ0_checkIndex_df160 0 = .ok (.iload_n 0, 1)) rfl) ?_
  refine And.intro (k_iload_n (pc := 1) (by decide +kernel : decode cJ0_checkIndex_df160 1 = .ok (.iload_n 1, 1)) rfl) ?_
  refine And.intro (k_gF (pc := 2) hs fs_J0_1053 (by decide +kernel : decode cJ0_checkIndex_df160 2 = .ok (.getstatic 1053, 3))) ?_
  refine And.intro (k_crS (n := 3) (pc := 5) hG (zRoom_self 2) ini_J3 sta_J3_checkIndex_8e157 mk_J0_1059 dy_J3_checkIndex_8e157 (by decide +kernel : decode cJ0_checkIndex_df160 5 = .ok (.invokestatic 1059, 3))) ?_
  refine And.intro (k_pop (pc := 8) (by decide +kernel : decode cJ0_checkIndex_df160 8 = .ok (.pop, 1))) ?_
  refine And.intro (k_return (pc := 9) rfl (by decide +kernel : decode cJ0_checkIndex_df160 9 = .ok (.return_, 1))) ?_
  exact trivial
theorem cdJ0_checkIndex_df160 : Cond.code yJ0_checkIndex_df160 cJ0_checkIndex_df160 2 none ∈ zWs := zWs_in 442 (by decide +kernel) rfl
abbrev aJ0_checkIndex_df160 (G : zG) (Q : zRt) : Nat → zKn := zAt G (zRm 2) RJ0 cJ0_checkIndex_df160 2 none (zF G Q 0 0) 0 0
theorem rnJ0_checkIndex_df160 {G : zG} (hG : zGok G) {k' : Nat} (hk : 3 ≤ k') {σ : zSt} {Q : zRt} (v0 : Int32) (v1 : Int32) (h : aJ0_checkIndex_df160 G Q 0 [some (.int v0), some (.int v1)] [] σ) : zCalls G k' yJ0_checkIndex_df160 [.int v0, .int v1] σ Q := zMethodF hG hk (Nat.le_of_ble_eq_true rfl) (by decide +kernel) cdJ0_checkIndex_df160 _ rfl (Nat.le_of_ble_eq_true rfl) h
theorem sgJ0_checkIndex_df160 {G : zG} (hs : zSok G) (hG : zGok G) {Q : zRt} (stops : List Nat) (n pc : Nat) {ls : zLs} {st : List Value} {σ : zSt} (h : zM (zCalls G 2) Q (aJ0_checkIndex_df160 G Q) stops pgJ0_checkIndex_df160 n (zDrop pc pgJ0_checkIndex_df160) ls st σ) : aJ0_checkIndex_df160 G Q pc ls st σ := zStep (pkJ0_checkIndex_df160 hs hG Q) stops n pc h
noncomputable def pgJ0_coder_7d493 : zPg := [(0, o_gC), (3, o_if_eq 13), (6, o_al 0), (7, o_gSc), (10, o_go 14), (13, o_ic (1)), (14, o_nr .byte)]
set_option maxRecDepth 20000 in
theorem pkJ0_coder_7d493 {G : zG} (hs : zSok G) (hG : zGok G) (Q : zRt) : zPOK G (zRm 0) RJ0 cJ0_coder_7d493 1 (some .byte) (zF G Q 0 0) 0 0 (zCalls G 0) Q pgJ0_coder_7d493 := by
  refine And.intro (k_gC (pc := 0) hs fs_J0_38 (by decide +kernel : decode cJ0_coder_7d493 0 = .ok (.getstatic 38, 3))) ?_
  refine And.intro (k_if_eq (pc := 3) (by decide +kernel : decode cJ0_coder_7d493 3 = .ok (.ifCond .eq 10, 3)) (by decide)) ?_
  refine And.intro (k_aload_n (pc := 6) (by decide +kernel : decode cJ0_coder_7d493 6 = .ok (.aload_n 0, 1)) rfl) ?_
  refine And.intro (k_gSc (pc := 7) hs fs_J0_15 (by decide +kernel : decode cJ0_coder_7d493 7 = .ok (.getfield 15, 3))) ?_
  refine And.intro (k_goto (pc := 10) (by decide +kernel : decode cJ0_coder_7d493 10 = .ok (.goto 4, 3)) (by decide)) ?_
  refine And.intro (k_iconst (pc := 13) (by decide +kernel : decode cJ0_coder_7d493 13 = .ok (.iconst 1, 1)) (by decide)) ?_
  refine And.intro (k_nr (pc := 14) rfl (by decide +kernel : decode cJ0_coder_7d493 14 = .ok (.ireturn, 1))) ?_
  exact trivial
theorem cdJ0_coder_7d493 : Cond.code yJ0_coder_7d493 cJ0_coder_7d493 1 (some .byte) ∈ zWs := zWs_in 426 (by decide +kernel) rfl
abbrev aJ0_coder_7d493 (G : zG) (Q : zRt) : Nat → zKn := zAt G (zRm 0) RJ0 cJ0_coder_7d493 1 (some .byte) (zF G Q 0 0) 0 0
theorem rnJ0_coder_7d493 {G : zG} (hG : zGok G) {k' : Nat} (hk : 1 ≤ k') {σ : zSt} {Q : zRt} (v0 : Nat) (h : aJ0_coder_7d493 G Q 0 [some (.ref v0)] [] σ) : zCalls G k' yJ0_coder_7d493 [.ref v0] σ Q := zMethodF hG hk (Nat.le_of_ble_eq_true rfl) (by decide +kernel) cdJ0_coder_7d493 _ rfl (Nat.le_of_ble_eq_true rfl) h
theorem sgJ0_coder_7d493 {G : zG} (hs : zSok G) (hG : zGok G) {Q : zRt} (stops : List Nat) (n pc : Nat) {ls : zLs} {st : List Value} {σ : zSt} (h : zM (zCalls G 0) Q (aJ0_coder_7d493 G Q) stops pgJ0_coder_7d493 n (zDrop pc pgJ0_coder_7d493) ls st σ) : aJ0_coder_7d493 G Q pc ls st σ := zStep (pkJ0_coder_7d493 hs hG Q) stops n pc h
noncomputable def pgJ0_isLatin1_aae02 : zPg := [(0, o_gC), (3, o_if_eq 17), (6, o_al 0), (7, o_gSc), (10, o_if_ne 17), (13, o_ic (1)), (14, o_go 18), (17, o_ic (0)), (18, o_zr)]
set_option maxRecDepth 20000 in
theorem pkJ0_isLatin1_aae02 {G : zG} (hs : zSok G) (hG : zGok G) (Q : zRt) : zPOK G (zRm 0) RJ0 cJ0_isLatin1_aae02 1 (some .boolean) (zF G Q 0 0) 0 0 (zCalls G 0) Q pgJ0_isLatin1_aae02 := by
  refine And.intro (k_gC (pc := 0) hs fs_J0_38 (by decide +kernel : decode cJ0_isLatin1_aae02 0 = .ok (.getstatic 38, 3))) ?_
  refine And.intro (k_if_eq (pc := 3) (by decide +kernel : decode cJ0_isLatin1_aae02 3 = .ok (.ifCond .eq 14, 3)) (by decide)) ?_
  refine And.intro (k_aload_n (pc := 6) (by decide +kernel : decode cJ0_isLatin1_aae02 6 = .ok (.aload_n 0, 1)) rfl) ?_
  refine And.intro (k_gSc (pc := 7) hs fs_J0_15 (by decide +kernel : decode cJ0_isLatin1_aae02 7 = .ok (.getfield 15, 3))) ?_
  refine And.intro (k_if_ne (pc := 10) (by decide +kernel : decode cJ0_isLatin1_aae02 10 = .ok (.ifCond .ne 7, 3)) (by decide)) ?_
  refine And.intro (k_iconst (pc := 13) (by decide +kernel : decode cJ0_isLatin1_aae02 13 = .ok (.iconst 1, 1)) (by decide)) ?_
  refine And.intro (k_goto (pc := 14) (by decide +kernel : decode cJ0_isLatin1_aae02 14 = .ok (.goto 4, 3)) (by decide)) ?_
  refine And.intro (k_iconst (pc := 17) (by decide +kernel : decode cJ0_isLatin1_aae02 17 = .ok (.iconst 0, 1)) (by decide)) ?_
  refine And.intro (k_zreturn (pc := 18) rfl (by decide +kernel : decode cJ0_isLatin1_aae02 18 = .ok (.ireturn, 1))) ?_
  exact trivial
theorem cdJ0_isLatin1_aae02 : Cond.code yJ0_isLatin1_aae02 cJ0_isLatin1_aae02 1 (some .boolean) ∈ zWs := zWs_in 436 (by decide +kernel) rfl
abbrev aJ0_isLatin1_aae02 (G : zG) (Q : zRt) : Nat → zKn := zAt G (zRm 0) RJ0 cJ0_isLatin1_aae02 1 (some .boolean) (zF G Q 0 0) 0 0
theorem rnJ0_isLatin1_aae02 {G : zG} (hG : zGok G) {k' : Nat} (hk : 1 ≤ k') {σ : zSt} {Q : zRt} (v0 : Nat) (h : aJ0_isLatin1_aae02 G Q 0 [some (.ref v0)] [] σ) : zCalls G k' yJ0_isLatin1_aae02 [.ref v0] σ Q := zMethodF hG hk (Nat.le_of_ble_eq_true rfl) (by decide +kernel) cdJ0_isLatin1_aae02 _ rfl (Nat.le_of_ble_eq_true rfl) h
theorem sgJ0_isLatin1_aae02 {G : zG} (hs : zSok G) (hG : zGok G) {Q : zRt} (stops : List Nat) (n pc : Nat) {ls : zLs} {st : List Value} {σ : zSt} (h : zM (zCalls G 0) Q (aJ0_isLatin1_aae02 G Q) stops pgJ0_isLatin1_aae02 n (zDrop pc pgJ0_isLatin1_aae02) ls st σ) : aJ0_isLatin1_aae02 G Q pc ls st σ := zStep (pkJ0_isLatin1_aae02 hs hG Q) stops n pc h
noncomputable def pgJ0_length_8abf5 : zPg := [(0, o_al 0), (1, o_gSv), (4, o_bl), (5, o_al 0), (6, o_vS yJ0_coder_7d493 1), (9, o_ishr), (10, o_ir)]
set_option maxRecDepth 20000 in
theorem pkJ0_length_8abf5 {G : zG} (hs : zSok G) (hG : zGok G) (Q : zRt) : zPOK G (zRm 1) RJ0 cJ0_length_8abf5 1 (some .int) (zF G Q 0 0) 0 0 (zCalls G 1) Q pgJ0_length_8abf5 := by
  refine And.intro (k_aload_n (pc := 0) (by decide +kernel : decode cJ0_length_8abf5 0 = .ok (.aload_n 0, 1)) rfl) ?_
  refine And.intro (k_gSv (pc := 1) hs fs_J0_9 (by decide +kernel : decode cJ0_length_8abf5 1 = .ok (.getfield 9, 3))) ?_
  refine And.intro (k_bl (pc := 4) hs (by decide +kernel : decode cJ0_length_8abf5 4 = .ok (.arraylength, 1))) ?_
  refine And.intro (k_aload_n (pc := 5) (by decide +kernel : decode cJ0_length_8abf5 5 = .ok (.aload_n 0, 1)) rfl) ?_
  refine And.intro (k_vS (n := 0) (pc := 6) hs hG (zRoom_self 1) rfl sini_J0 sim_J0_coder_7d493 sse_J0_coder_7d493 ml_J0_335 sdy_J0_coder_7d493 (by decide +kernel : decode cJ0_length_8abf5 6 = .ok (.invokevirtual 335, 3))) ?_
  refine And.intro (k_ishr (pc := 9) (by decide +kernel : decode cJ0_length_8abf5 9 = .ok (.ishr, 1))) ?_
  refine And.intro (k_ireturn (pc := 10) rfl (by decide +kernel : decode cJ0_length_8abf5 10 = .ok (.ireturn, 1))) ?_
  exact trivial
theorem cdJ0_length_8abf5 : Cond.code yJ0_length_8abf5 cJ0_length_8abf5 1 (some .int) ∈ zWs := zWs_in 422 (by decide +kernel) rfl
abbrev aJ0_length_8abf5 (G : zG) (Q : zRt) : Nat → zKn := zAt G (zRm 1) RJ0 cJ0_length_8abf5 1 (some .int) (zF G Q 0 0) 0 0
theorem rnJ0_length_8abf5 {G : zG} (hG : zGok G) {k' : Nat} (hk : 2 ≤ k') {σ : zSt} {Q : zRt} (v0 : Nat) (h : aJ0_length_8abf5 G Q 0 [some (.ref v0)] [] σ) : zCalls G k' yJ0_length_8abf5 [.ref v0] σ Q := zMethodF hG hk (Nat.le_of_ble_eq_true rfl) (by decide +kernel) cdJ0_length_8abf5 _ rfl (Nat.le_of_ble_eq_true rfl) h
theorem sgJ0_length_8abf5 {G : zG} (hs : zSok G) (hG : zGok G) {Q : zRt} (stops : List Nat) (n pc : Nat) {ls : zLs} {st : List Value} {σ : zSt} (h : zM (zCalls G 1) Q (aJ0_length_8abf5 G Q) stops pgJ0_length_8abf5 n (zDrop pc pgJ0_length_8abf5) ls st σ) : aJ0_length_8abf5 G Q pc ls st σ := zStep (pkJ0_length_8abf5 hs hG Q) stops n pc h
noncomputable def pgJ1_charAt_3b067 : zPg := [(0, o_il 1), (1, o_al 0), (2, o_bl), (3, o_cv yJ0_checkIndex_df160 2), (6, o_al 0), (7, o_il 1), (8, o_bx), (9, o_ic (255)), (12, o_iand), (13, o_i2c), (14, o_nr .char)]
set_option maxRecDepth 20000 in
theorem pkJ1_charAt_3b067 {G : zG} (hs : zSok G) (hG : zGok G) (Q : zRt) : zPOK G (zRm 3) RJ1 cJ1_charAt_3b067 2 (some .char) (zF G Q 0 0) 0 0 (zCalls G 3) Q pgJ1_charAt_3b067 := by
  refine And.intro (k_iload_n (pc := 0) (by decide +kernel : decode cJ1_charAt_3b067 0 = .ok (.iload_n 1, 1)) rfl) ?_
  refine And.intro (k_aload_n (pc := 1) (by decide +kernel : decode cJ1_charAt_3b067 1 = .ok (.aload_n 0, 1)) rfl) ?_
  refine And.intro (k_bl (pc := 2) hs (by decide +kernel : decode cJ1_charAt_3b067 2 = .ok (.arraylength, 1))) ?_
  refine And.intro (k_cvS (n := 2) (pc := 3) hG (zRoom_self 3) ini_J0 sta_J0_checkIndex_df160 mk_J1_9 dy_J0_checkIndex_df160 (by decide +kernel : decode cJ1_charAt_3b067 3 = .ok (.invokestatic 9, 3))) ?_
  refine And.intro (k_aload_n (pc := 6) (by decide +kernel : decode cJ1_charAt_3b067 6 = .ok (.aload_n 0, 1)) rfl) ?_
  refine And.intro (k_iload_n (pc := 7) (by decide +kernel : decode cJ1_charAt_3b067 7 = .ok (.iload_n 1, 1)) rfl) ?_
  refine And.intro (k_bx (pc := 8) hs (by decide +kernel : decode cJ1_charAt_3b067 8 = .ok (.baload, 1))) ?_
  refine And.intro (k_sipush (pc := 9) (by decide +kernel : decode cJ1_charAt_3b067 9 = .ok (.sipush 255, 3)) (by decide)) ?_
  refine And.intro (k_iand (pc := 12) (by decide +kernel : decode cJ1_charAt_3b067 12 = .ok (.iand, 1))) ?_
  refine And.intro (k_i2c (pc := 13) (by decide +kernel : decode cJ1_charAt_3b067 13 = .ok (.i2c, 1))) ?_
  refine And.intro (k_nr (pc := 14) rfl (by decide +kernel : decode cJ1_charAt_3b067 14 = .ok (.ireturn, 1))) ?_
  exact trivial
theorem cdJ1_charAt_3b067 : Cond.code yJ1_charAt_3b067 cJ1_charAt_3b067 2 (some .char) ∈ zWs := zWs_in 439 (by decide +kernel) rfl
abbrev aJ1_charAt_3b067 (G : zG) (Q : zRt) : Nat → zKn := zAt G (zRm 3) RJ1 cJ1_charAt_3b067 2 (some .char) (zF G Q 0 0) 0 0
theorem rnJ1_charAt_3b067 {G : zG} (hG : zGok G) {k' : Nat} (hk : 4 ≤ k') {σ : zSt} {Q : zRt} (v0 : Nat) (v1 : Int32) (h : aJ1_charAt_3b067 G Q 0 [some (.ref v0), some (.int v1)] [] σ) : zCalls G k' yJ1_charAt_3b067 [.ref v0, .int v1] σ Q := zMethodF hG hk (Nat.le_of_ble_eq_true rfl) (by decide +kernel) cdJ1_charAt_3b067 _ rfl (Nat.le_of_ble_eq_true rfl) h
theorem sgJ1_charAt_3b067 {G : zG} (hs : zSok G) (hG : zGok G) {Q : zRt} (stops : List Nat) (n pc : Nat) {ls : zLs} {st : List Value} {σ : zSt} (h : zM (zCalls G 3) Q (aJ1_charAt_3b067 G Q) stops pgJ1_charAt_3b067 n (zDrop pc pgJ1_charAt_3b067) ls st σ) : aJ1_charAt_3b067 G Q pc ls st σ := zStep (pkJ1_charAt_3b067 hs hG Q) stops n pc h
noncomputable def pgJ0_charAt_5068e : zPg := [(0, o_al 0), (1, o_vS yJ0_isLatin1_aae02 1), (4, o_if_eq 16), (7, o_al 0), (8, o_gSv), (11, o_il 1), (12, o_cr yJ1_charAt_3b067 2), (15, o_nr .char), (16, o_al 0), (17, o_gSv), (20, o_il 1), (21, o_no), (24, o_nr .char)]
set_option maxRecDepth 20000 in
theorem pkJ0_charAt_5068e {G : zG} (hs : zSok G) (hG : zGok G) (Q : zRt) : zPOK G (zRm 5) RJ0 cJ0_charAt_5068e 2 (some .char) (zF G Q 0 0) 0 0 (zCalls G 5) Q pgJ0_charAt_5068e := by
  refine And.intro (k_aload_n (pc := 0) (by decide +kernel : decode cJ0_charAt_5068e 0 = .ok (.aload_n 0, 1)) rfl) ?_
  refine And.intro (k_vS (n := 0) (pc := 1) hs hG (zRoom_self 5) rfl sini_J0 sim_J0_isLatin1_aae02 sse_J0_isLatin1_aae02 ml_J0_492 sdy_J0_isLatin1_aae02 (by decide +kernel : decode cJ0_charAt_5068e 1 = .ok (.invokevirtual 492, 3))) ?_
  refine And.intro (k_if_eq (pc := 4) (by decide +kernel : decode cJ0_charAt_5068e 4 = .ok (.ifCond .eq 12, 3)) (by decide)) ?_
  refine And.intro (k_aload_n (pc := 7) (by decide +kernel : decode cJ0_charAt_5068e 7 = .ok (.aload_n 0, 1)) rfl) ?_
  refine And.intro (k_gSv (pc := 8) hs fs_J0_9 (by decide +kernel : decode cJ0_charAt_5068e 8 = .ok (.getfield 9, 3))) ?_
  refine And.intro (k_iload_n (pc := 11) (by decide +kernel : decode cJ0_charAt_5068e 11 = .ok (.iload_n 1, 1)) rfl) ?_
  refine And.intro (k_crS (n := 2) (pc := 12) hG (zRoom_self 5) ini_J1 sta_J1_charAt_3b067 mk_J0_495 dy_J1_charAt_3b067 (by decide +kernel : decode cJ0_charAt_5068e 12 = .ok (.invokestatic 495, 3))) ?_
  refine And.intro (k_nr (pc := 15) rfl (by decide +kernel : decode cJ0_charAt_5068e 15 = .ok (.ireturn, 1))) ?_
  refine And.intro (k_aload_n (pc := 16) (by decide +kernel : decode cJ0_charAt_5068e 16 = .ok (.aload_n 0, 1)) rfl) ?_
  refine And.intro (k_gSv (pc := 17) hs fs_J0_9 (by decide +kernel : decode cJ0_charAt_5068e 17 = .ok (.getfield 9, 3))) ?_
  refine And.intro (k_iload_n (pc := 20) (by decide +kernel : decode cJ0_charAt_5068e 20 = .ok (.iload_n 1, 1)) rfl) ?_
  refine And.intro (k_no) ?_
  refine And.intro (k_nr (pc := 24) rfl (by decide +kernel : decode cJ0_charAt_5068e 24 = .ok (.ireturn, 1))) ?_
  exact trivial
theorem cdJ0_charAt_5068e : Cond.code yJ0_charAt_5068e cJ0_charAt_5068e 2 (some .char) ∈ zWs := zWs_in 432 (by decide +kernel) rfl
abbrev aJ0_charAt_5068e (G : zG) (Q : zRt) : Nat → zKn := zAt G (zRm 5) RJ0 cJ0_charAt_5068e 2 (some .char) (zF G Q 0 0) 0 0
theorem rnJ0_charAt_5068e {G : zG} (hG : zGok G) {k' : Nat} (hk : 6 ≤ k') {σ : zSt} {Q : zRt} (v0 : Nat) (v1 : Int32) (h : aJ0_charAt_5068e G Q 0 [some (.ref v0), some (.int v1)] [] σ) : zCalls G k' yJ0_charAt_5068e [.ref v0, .int v1] σ Q := zMethodF hG hk (Nat.le_of_ble_eq_true rfl) (by decide +kernel) cdJ0_charAt_5068e _ rfl (Nat.le_of_ble_eq_true rfl) h
theorem sgJ0_charAt_5068e {G : zG} (hs : zSok G) (hG : zGok G) {Q : zRt} (stops : List Nat) (n pc : Nat) {ls : zLs} {st : List Value} {σ : zSt} (h : zM (zCalls G 5) Q (aJ0_charAt_5068e G Q) stops pgJ0_charAt_5068e n (zDrop pc pgJ0_charAt_5068e) ls st σ) : aJ0_charAt_5068e G Q pc ls st σ := zStep (pkJ0_charAt_5068e hs hG Q) stops n pc h
noncomputable def pgX8_misfit : zPg := [(0, o_ic (0)), (1, o_is 3), (2, o_il 3), (3, o_al 2), (4, o_vS yJ0_length_8abf5 1), (7, o_ic_ge 35), (10, o_al 0), (11, o_il 1), (12, o_il 3), (13, o_iadd), (14, o_al 2), (15, o_il 3), (16, o_vS yJ0_charAt_5068e 2), (19, o_vr2 yX8_fits 8 3), (22, o_if_ne 29), (25, o_il 1), (26, o_il 3), (27, o_iadd), (28, o_ir), (29, o_inc 3 (1)), (32, o_go 2), (35, o_ic (-1)), (36, o_ir)]
set_option maxRecDepth 20000 in
theorem pkX8_misfit {G : zG} (hs : zSok G) (hG : zGok G) (Q : zRt) : zPOK G (zRm 6) RX8 cX8_misfit 4 (some .int) (zF G Q 0 0) 0 0 (zCalls G 6) Q pgX8_misfit := by
  refine And.intro (k_iconst (pc := 0) (by decide +kernel : decode cX8_misfit 0 = .ok (.iconst 0, 1)) (by decide)) ?_
  refine And.intro (k_istore_n (pc := 1) (by decide +kernel : decode cX8_misfit 1 = .ok (.istore_n 3, 1)) rfl) ?_
  refine And.intro (k_iload_n (pc := 2) (by decide +kernel : decode cX8_misfit 2 = .ok (.iload_n 3, 1)) rfl) ?_
  refine And.intro (k_aload_n (pc := 3) (by decide +kernel : decode cX8_misfit 3 = .ok (.aload_n 2, 1)) rfl) ?_
  refine And.intro (k_vS (n := 0) (pc := 4) hs hG (zRoom_self 6) rfl sini_J0 sim_J0_length_8abf5 sse_J0_length_8abf5 ml_X8_23 sdy_J0_length_8abf5 (by decide +kernel : decode cX8_misfit 4 = .ok (.invokevirtual 23, 3))) ?_
  refine And.intro (k_icmp_ge (pc := 7) (by decide +kernel : decode cX8_misfit 7 = .ok (.if_icmp .ge 28, 3)) (by decide)) ?_
  refine And.intro (k_aload_n (pc := 10) (by decide +kernel : decode cX8_misfit 10 = .ok (.aload_n 0, 1)) rfl) ?_
  refine And.intro (k_iload_n (pc := 11) (by decide +kernel : decode cX8_misfit 11 = .ok (.iload_n 1, 1)) rfl) ?_
  refine And.intro (k_iload_n (pc := 12) (by decide +kernel : decode cX8_misfit 12 = .ok (.iload_n 3, 1)) rfl) ?_
  refine And.intro (k_iadd (pc := 13) (by decide +kernel : decode cX8_misfit 13 = .ok (.iadd, 1))) ?_
  refine And.intro (k_aload_n (pc := 14) (by decide +kernel : decode cX8_misfit 14 = .ok (.aload_n 2, 1)) rfl) ?_
  refine And.intro (k_iload_n (pc := 15) (by decide +kernel : decode cX8_misfit 15 = .ok (.iload_n 3, 1)) rfl) ?_
  refine And.intro (k_vS (n := 1) (pc := 16) hs hG (zRoom_self 6) rfl sini_J0 sim_J0_charAt_5068e sse_J0_charAt_5068e ml_X8_29 sdy_J0_charAt_5068e (by decide +kernel : decode cX8_misfit 16 = .ok (.invokevirtual 29, 3))) ?_
  refine And.intro (k_crV (n := 2) (pc := 19) hG (zRoom_self 6) (tag := 8) rfl ini_X8 im_X8_fits se_X8_fits mk_X8_33 dy_X8_fits (by decide +kernel : decode cX8_misfit 19 = .ok (.invokevirtual 33, 3))) ?_
  refine And.intro (k_if_ne (pc := 22) (by decide +kernel : decode cX8_misfit 22 = .ok (.ifCond .ne 7, 3)) (by decide)) ?_
  refine And.intro (k_iload_n (pc := 25) (by decide +kernel : decode cX8_misfit 25 = .ok (.iload_n 1, 1)) rfl) ?_
  refine And.intro (k_iload_n (pc := 26) (by decide +kernel : decode cX8_misfit 26 = .ok (.iload_n 3, 1)) rfl) ?_
  refine And.intro (k_iadd (pc := 27) (by decide +kernel : decode cX8_misfit 27 = .ok (.iadd, 1))) ?_
  refine And.intro (k_ireturn (pc := 28) rfl (by decide +kernel : decode cX8_misfit 28 = .ok (.ireturn, 1))) ?_
  refine And.intro (k_iinc (pc := 29) (by decide +kernel : decode cX8_misfit 29 = .ok (.iinc 3 1, 3)) (by decide)) ?_
  refine And.intro (k_goto (pc := 32) (by decide +kernel : decode cX8_misfit 32 = .ok (.goto (-30), 3)) (by decide)) ?_
  refine And.intro (k_iconst (pc := 35) (by decide +kernel : decode cX8_misfit 35 = .ok (.iconst (-1), 1)) (by decide)) ?_
  refine And.intro (k_ireturn (pc := 36) rfl (by decide +kernel : decode cX8_misfit 36 = .ok (.ireturn, 1))) ?_
  exact trivial
theorem cdX8_misfit : Cond.code yX8_misfit cX8_misfit 4 (some .int) ∈ zWs := zWs_in 418 (by decide +kernel) rfl
abbrev aX8_misfit (G : zG) (Q : zRt) : Nat → zKn := zAt G (zRm 6) RX8 cX8_misfit 4 (some .int) (zF G Q 0 0) 0 0
theorem rnX8_misfit {G : zG} (hG : zGok G) {k' : Nat} (hk : 7 ≤ k') {σ : zSt} {Q : zRt} (v0 : Nat) (v1 : Int32) (v2 : Nat) (h : aX8_misfit G Q 0 [some (.ref v0), some (.int v1), some (.ref v2), none] [] σ) : zCalls G k' yX8_misfit [.ref v0, .int v1, .ref v2] σ Q := zMethodF hG hk (Nat.le_of_ble_eq_true rfl) (by decide +kernel) cdX8_misfit _ rfl (Nat.le_of_ble_eq_true rfl) h
theorem sgX8_misfit {G : zG} (hs : zSok G) (hG : zGok G) {Q : zRt} (stops : List Nat) (n pc : Nat) {ls : zLs} {st : List Value} {σ : zSt} (h : zM (zCalls G 6) Q (aX8_misfit G Q) stops pgX8_misfit n (zDrop pc pgX8_misfit) ls st σ) : aX8_misfit G Q pc ls st σ := zStep (pkX8_misfit hs hG Q) stops n pc h
noncomputable def pgX8_actForm : zPg := [(0, o_al 0), (1, o_il 1), (2, o_vr2 yX8_at 8 2), (5, o_sw [(98, 40), (100, 43), (115, 46)] 49), (40, o_ldS 1), (42, o_ar), (43, o_ldS 2), (45, o_ar), (46, o_ldS 3), (48, o_ar), (49, o_ldS 4), (51, o_ar)]
set_option maxRecDepth 20000 in
theorem pkX8_actForm {G : zG} (hs : zSok G) (hG : zGok G) (Q : zRt) : zPOK G (zRm 1) RX8 cX8_actForm 2 (some (.object "java/lang/String")) (zF G Q 0 0) 0 0 (zCalls G 1) Q pgX8_actForm := by
  refine And.intro (k_aload_n (pc := 0) (by decide +kernel : decode cX8_actForm 0 = .ok (.aload_n 0, 1)) rfl) ?_
  refine And.intro (k_iload_n (pc := 1) (by decide +kernel : decode cX8_actForm 1 = .ok (.iload_n 1, 1)) rfl) ?_
  refine And.intro (k_crV (n := 1) (pc := 2) hG (zRoom_self 1) (tag := 8) rfl ini_X8 im_X8_at se_X8_at mk_X8_19 dy_X8_at (by decide +kernel : decode cX8_actForm 2 = .ok (.invokevirtual 19, 3))) ?_
  refine And.intro (k_lsw (pc := 5) (by decide +kernel : decode cX8_actForm 5 = .ok (.lookupswitch 44 #[(98, 35), (100, 38), (115, 41)], 35)) (by decide) (zlsw_hit (by decide)) (zlsw_no (by decide) (by decide))) ?_
  refine And.intro (k_ldS (pc := 40) hs (t := 1) (tx := "b9+99") (fun U h => h.2.1) (by decide +kernel : decode cX8_actForm 40 = .ok (.ldc 70, 2))) ?_
  refine And.intro (k_areturn (pc := 42) (Or.inl ⟨_, rfl⟩) rfl (by decide +kernel : decode cX8_actForm 42 = .ok (.areturn, 1))) ?_
  refine And.intro (k_ldS (pc := 43) hs (t := 2) (tx := "d9") (fun U h => h.2.2.1) (by decide +kernel : decode cX8_actForm 43 = .ok (.ldc 72, 2))) ?_
  refine And.intro (k_areturn (pc := 45) (Or.inl ⟨_, rfl⟩) rfl (by decide +kernel : decode cX8_actForm 45 = .ok (.areturn, 1))) ?_
  refine And.intro (k_ldS (pc := 46) hs (t := 3) (tx := "s999") (fun U h => h.2.2.2.1) (by decide +kernel : decode cX8_actForm 46 = .ok (.ldc 74, 2))) ?_
  refine And.intro (k_areturn (pc := 48) (Or.inl ⟨_, rfl⟩) rfl (by decide +kernel : decode cX8_actForm 48 = .ok (.areturn, 1))) ?_
  refine And.intro (k_ldS (pc := 49) hs (t := 4) (tx := "c") (fun U h => h.2.2.2.2) (by decide +kernel : decode cX8_actForm 49 = .ok (.ldc 76, 2))) ?_
  refine And.intro (k_areturn (pc := 51) (Or.inl ⟨_, rfl⟩) rfl (by decide +kernel : decode cX8_actForm 51 = .ok (.areturn, 1))) ?_
  exact trivial
theorem cdX8_actForm : Cond.code yX8_actForm cX8_actForm 2 (some (.object "java/lang/String")) ∈ zWs := zWs_in 944 (by decide +kernel) rfl
abbrev aX8_actForm (G : zG) (Q : zRt) : Nat → zKn := zAt G (zRm 1) RX8 cX8_actForm 2 (some (.object "java/lang/String")) (zF G Q 0 0) 0 0
theorem rnX8_actForm {G : zG} (hG : zGok G) {k' : Nat} (hk : 2 ≤ k') {σ : zSt} {Q : zRt} (v0 : Nat) (v1 : Int32) (h : aX8_actForm G Q 0 [some (.ref v0), some (.int v1)] [] σ) : zCalls G k' yX8_actForm [.ref v0, .int v1] σ Q := zMethodF hG hk (Nat.le_of_ble_eq_true rfl) (by decide +kernel) cdX8_actForm _ rfl (Nat.le_of_ble_eq_true rfl) h
theorem sgX8_actForm {G : zG} (hs : zSok G) (hG : zGok G) {Q : zRt} (stops : List Nat) (n pc : Nat) {ls : zLs} {st : List Value} {σ : zSt} (h : zM (zCalls G 1) Q (aX8_actForm G Q) stops pgX8_actForm n (zDrop pc pgX8_actForm) ls st σ) : aX8_actForm G Q pc ls st σ := zStep (pkX8_actForm hs hG Q) stops n pc h
noncomputable def pgX8_actLength : zPg := [(0, o_al 0), (1, o_il 1), (2, o_vr2 yX8_actForm 8 2), (5, o_vS yJ0_length_8abf5 1), (8, o_ir)]
set_option maxRecDepth 20000 in
theorem pkX8_actLength {G : zG} (hs : zSok G) (hG : zGok G) (Q : zRt) : zPOK G (zRm 2) RX8 cX8_actLength 2 (some .int) (zF G Q 0 0) 0 0 (zCalls G 2) Q pgX8_actLength := by
  refine And.intro (k_aload_n (pc := 0) (by decide +kernel : decode cX8_actLength 0 = .ok (.aload_n 0, 1)) rfl) ?_
  refine And.intro (k_iload_n (pc := 1) (by decide +kernel : decode cX8_actLength 1 = .ok (.iload_n 1, 1)) rfl) ?_
  refine And.intro (k_crV (n := 1) (pc := 2) hG (zRoom_self 2) (tag := 8) rfl ini_X8 im_X8_actForm se_X8_actForm mk_X8_63 dy_X8_actForm (by decide +kernel : decode cX8_actLength 2 = .ok (.invokevirtual 63, 3))) ?_
  refine And.intro (k_vS (n := 0) (pc := 5) hs hG (zRoom_self 2) rfl sini_J0 sim_J0_length_8abf5 sse_J0_length_8abf5 ml_X8_23 sdy_J0_length_8abf5 (by decide +kernel : decode cX8_actLength 5 = .ok (.invokevirtual 23, 3))) ?_
  refine And.intro (k_ireturn (pc := 8) rfl (by decide +kernel : decode cX8_actLength 8 = .ok (.ireturn, 1))) ?_
  exact trivial
theorem cdX8_actLength : Cond.code yX8_actLength cX8_actLength 2 (some .int) ∈ zWs := zWs_in 952 (by decide +kernel) rfl
abbrev aX8_actLength (G : zG) (Q : zRt) : Nat → zKn := zAt G (zRm 2) RX8 cX8_actLength 2 (some .int) (zF G Q 0 0) 0 0
theorem rnX8_actLength {G : zG} (hG : zGok G) {k' : Nat} (hk : 3 ≤ k') {σ : zSt} {Q : zRt} (v0 : Nat) (v1 : Int32) (h : aX8_actLength G Q 0 [some (.ref v0), some (.int v1)] [] σ) : zCalls G k' yX8_actLength [.ref v0, .int v1] σ Q := zMethodF hG hk (Nat.le_of_ble_eq_true rfl) (by decide +kernel) cdX8_actLength _ rfl (Nat.le_of_ble_eq_true rfl) h
theorem sgX8_actLength {G : zG} (hs : zSok G) (hG : zGok G) {Q : zRt} (stops : List Nat) (n pc : Nat) {ls : zLs} {st : List Value} {σ : zSt} (h : zM (zCalls G 2) Q (aX8_actLength G Q) stops pgX8_actLength n (zDrop pc pgX8_actLength) ls st σ) : aX8_actLength G Q pc ls st σ := zStep (pkX8_actLength hs hG Q) stops n pc h
noncomputable def pgX8_readRows : zPg := [(0, o_al 1), (1, o_ic (0)), (2, o_pI 5 0), (5, o_ic (0)), (6, o_is 2), (7, o_ic (0)), (8, o_is 3), (9, o_il 3), (10, o_ic (6)), (12, o_ic_ge 202), (15, o_al 0), (16, o_gI 8 0), (19, o_if_le 202), (22, o_al 0), (23, o_il 2), (24, o_ldS 0), (26, o_vr2 yX8_misfit 8 3), (29, o_is 4), (31, o_il 4), (33, o_ic (-1)), (34, o_ic_eq 40), (37, o_il 4), (39, o_ir), (40, o_il 2), (41, o_ldS 0), (43, o_vS yJ0_length_8abf5 1), (46, o_iadd), (47, o_is 5), (49, o_al 0), (50, o_il 5), (52, o_vr2 yX8_at 8 2), (55, o_ic (45)), (57, o_ic_ne 64), (60, o_ic (1)), (61, o_go 65), (64, o_ic (0)), (65, o_is 6), (67, o_il 6), (69, o_if_eq 79), (72, o_il 5), (74, o_ic (1)), (75, o_iadd), (76, o_go 81), (79, o_il 5), (81, o_is 7), (83, o_al 0), (84, o_il 7), (86, o_vr2 yX8_isDigit 8 2), (89, o_if_ne 95), (92, o_il 7), (94, o_ir), (95, o_al 0), (96, o_il 7), (98, o_ic (1)), (99, o_iadd), (100, o_vr2 yX8_isDigit 8 2), (103, o_if_eq 110), (106, o_ic (2)), (107, o_go 111), (110, o_ic (1)), (111, o_is 8), (113, o_al 0), (114, o_il 7), (116, o_il 8), (118, o_vr2 yX8_number 8 3), (121, o_is 9), (123, o_al 1), (124, o_al 0), (125, o_il 2), (126, o_ic (1)), (127, o_vr2 yX8_signed 8 3), (130, o_al 0), (131, o_il 2), (132, o_ic (3)), (133, o_iadd), (134, o_ic (1)), (135, o_vr2 yX8_signed 8 3), (138, o_il 6), (140, o_if_eq 149), (143, o_il 9), (145, o_ineg), (146, o_go 151), (149, o_il 9), (151, o_vv yX5_append 5 4), (154, o_il 7), (156, o_il 8), (158, o_iadd), (159, o_is 10), (161, o_il 10), (163, o_al 0), (164, o_gI 8 0), (167, o_ic_ne 172), (170, o_ic (-1)), (171, o_ir), (172, o_al 0), (173, o_il 10), (175, o_vr2 yX8_at 8 2), (178, o_ic (59)), (180, o_ic_ne 188), (183, o_il 3), (184, o_ic (5)), (185, o_ic_ne 191), (188, o_il 10), (190, o_ir), (191, o_il 10), (193, o_ic (1)), (194, o_iadd), (195, o_is 2), (196, o_inc 3 (1)), (199, o_go 9), (202, o_ic (-1)), (203, o_ir)]
set_option maxRecDepth 20000 in
theorem pkX8_readRows {G : zG} (hs : zSok G) (hG : zGok G) (Q : zRt) : zPOK G (zRm 7) RX8 cX8_readRows 11 (some .int) (zF G Q 0 0) 0 0 (zCalls G 7) Q pgX8_readRows := by
  refine And.intro (k_aload_n (pc := 0) (by decide +kernel : decode cX8_readRows 0 = .ok (.aload_n 1, 1)) rfl) ?_
  refine And.intro (k_iconst (pc := 1) (by decide +kernel : decode cX8_readRows 1 = .ok (.iconst 0, 1)) (by decide)) ?_
  refine And.intro (k_pI (pc := 2) rfl (by decide) rfl zin5 lk_X8_45 tyX5_ok nmX5 rfl (by decide +kernel) (by decide +kernel : decode cX8_readRows 2 = .ok (.putfield 45, 3))) ?_
  refine And.intro (k_iconst (pc := 5) (by decide +kernel : decode cX8_readRows 5 = .ok (.iconst 0, 1)) (by decide)) ?_
  refine And.intro (k_istore_n (pc := 6) (by decide +kernel : decode cX8_readRows 6 = .ok (.istore_n 2, 1)) rfl) ?_
  refine And.intro (k_iconst (pc := 7) (by decide +kernel : decode cX8_readRows 7 = .ok (.iconst 0, 1)) (by decide)) ?_
  refine And.intro (k_istore_n (pc := 8) (by decide +kernel : decode cX8_readRows 8 = .ok (.istore_n 3, 1)) rfl) ?_
  refine And.intro (k_iload_n (pc := 9) (by decide +kernel : decode cX8_readRows 9 = .ok (.iload_n 3, 1)) rfl) ?_
  refine And.intro (k_bipush (pc := 10) (by decide +kernel : decode cX8_readRows 10 = .ok (.bipush 6, 2)) (by decide)) ?_
  refine And.intro (k_icmp_ge (pc := 12) (by decide +kernel : decode cX8_readRows 12 = .ok (.if_icmp .ge 190, 3)) (by decide)) ?_
  refine And.intro (k_aload_n (pc := 15) (by decide +kernel : decode cX8_readRows 15 = .ok (.aload_n 0, 1)) rfl) ?_
  refine And.intro (k_gI (pc := 16) rfl (by decide) rfl zin8 lk_X8_9 (by decide +kernel : decode cX8_readRows 16 = .ok (.getfield 9, 3))) ?_
  refine And.intro (k_if_le (pc := 19) (by decide +kernel : decode cX8_readRows 19 = .ok (.ifCond .le 183, 3)) (by decide)) ?_
  refine And.intro (k_aload_n (pc := 22) (by decide +kernel : decode cX8_readRows 22 = .ok (.aload_n 0, 1)) rfl) ?_
  refine And.intro (k_iload_n (pc := 23) (by decide +kernel : decode cX8_readRows 23 = .ok (.iload_n 2, 1)) rfl) ?_
  refine And.intro (k_ldS (pc := 24) hs (t := 0) (tx := "+5x+5y<") (fun U h => h.1) (by decide +kernel : decode cX8_readRows 24 = .ok (.ldc 50, 2))) ?_
  refine And.intro (k_crV (n := 2) (pc := 26) hG (zRoom_self 7) (tag := 8) rfl ini_X8 im_X8_misfit se_X8_misfit mk_X8_52 dy_X8_misfit (by decide +kernel : decode cX8_readRows 26 = .ok (.invokevirtual 52, 3))) ?_
  refine And.intro (k_istore (pc := 29) (by decide +kernel : decode cX8_readRows 29 = .ok (.istore 4, 2))) ?_
  refine And.intro (k_iload (pc := 31) (by decide +kernel : decode cX8_readRows 31 = .ok (.iload 4, 2))) ?_
  refine And.intro (k_iconst (pc := 33) (by decide +kernel : decode cX8_readRows 33 = .ok (.iconst (-1), 1)) (by decide)) ?_
  refine And.intro (k_icmp_eq (pc := 34) (by decide +kernel : decode cX8_readRows 34 = .ok (.if_icmp .eq 6, 3)) (by decide)) ?_
  refine And.intro (k_iload (pc := 37) (by decide +kernel : decode cX8_readRows 37 = .ok (.iload 4, 2))) ?_
  refine And.intro (k_ireturn (pc := 39) rfl (by decide +kernel : decode cX8_readRows 39 = .ok (.ireturn, 1))) ?_
  refine And.intro (k_iload_n (pc := 40) (by decide +kernel : decode cX8_readRows 40 = .ok (.iload_n 2, 1)) rfl) ?_
  refine And.intro (k_ldS (pc := 41) hs (t := 0) (tx := "+5x+5y<") (fun U h => h.1) (by decide +kernel : decode cX8_readRows 41 = .ok (.ldc 50, 2))) ?_
  refine And.intro (k_vS (n := 0) (pc := 43) hs hG (zRoom_self 7) rfl sini_J0 sim_J0_length_8abf5 sse_J0_length_8abf5 ml_X8_23 sdy_J0_length_8abf5 (by decide +kernel : decode cX8_readRows 43 = .ok (.invokevirtual 23, 3))) ?_
  refine And.intro (k_iadd (pc := 46) (by decide +kernel : decode cX8_readRows 46 = .ok (.iadd, 1))) ?_
  refine And.intro (k_istore (pc := 47) (by decide +kernel : decode cX8_readRows 47 = .ok (.istore 5, 2))) ?_
  refine And.intro (k_aload_n (pc := 49) (by decide +kernel : decode cX8_readRows 49 = .ok (.aload_n 0, 1)) rfl) ?_
  refine And.intro (k_iload (pc := 50) (by decide +kernel : decode cX8_readRows 50 = .ok (.iload 5, 2))) ?_
  refine And.intro (k_crV (n := 1) (pc := 52) hG (zRoom_self 7) (tag := 8) rfl ini_X8 im_X8_at se_X8_at mk_X8_19 dy_X8_at (by decide +kernel : decode cX8_readRows 52 = .ok (.invokevirtual 19, 3))) ?_
  refine And.intro (k_bipush (pc := 55) (by decide +kernel : decode cX8_readRows 55 = .ok (.bipush 45, 2)) (by decide)) ?_
  refine And.intro (k_icmp_ne (pc := 57) (by decide +kernel : decode cX8_readRows 57 = .ok (.if_icmp .ne 7, 3)) (by decide)) ?_
  refine And.intro (k_iconst (pc := 60) (by decide +kernel : decode cX8_readRows 60 = .ok (.iconst 1, 1)) (by decide)) ?_
  refine And.intro (k_goto (pc := 61) (by decide +kernel : decode cX8_readRows 61 = .ok (.goto 4, 3)) (by decide)) ?_
  refine And.intro (k_iconst (pc := 64) (by decide +kernel : decode cX8_readRows 64 = .ok (.iconst 0, 1)) (by decide)) ?_
  refine And.intro (k_istore (pc := 65) (by decide +kernel : decode cX8_readRows 65 = .ok (.istore 6, 2))) ?_
  refine And.intro (k_iload (pc := 67) (by decide +kernel : decode cX8_readRows 67 = .ok (.iload 6, 2))) ?_
  refine And.intro (k_if_eq (pc := 69) (by decide +kernel : decode cX8_readRows 69 = .ok (.ifCond .eq 10, 3)) (by decide)) ?_
  refine And.intro (k_iload (pc := 72) (by decide +kernel : decode cX8_readRows 72 = .ok (.iload 5, 2))) ?_
  refine And.intro (k_iconst (pc := 74) (by decide +kernel : decode cX8_readRows 74 = .ok (.iconst 1, 1)) (by decide)) ?_
  refine And.intro (k_iadd (pc := 75) (by decide +kernel : decode cX8_readRows 75 = .ok (.iadd, 1))) ?_
  refine And.intro (k_goto (pc := 76) (by decide +kernel : decode cX8_readRows 76 = .ok (.goto 5, 3)) (by decide)) ?_
  refine And.intro (k_iload (pc := 79) (by decide +kernel : decode cX8_readRows 79 = .ok (.iload 5, 2))) ?_
  refine And.intro (k_istore (pc := 81) (by decide +kernel : decode cX8_readRows 81 = .ok (.istore 7, 2))) ?_
  refine And.intro (k_aload_n (pc := 83) (by decide +kernel : decode cX8_readRows 83 = .ok (.aload_n 0, 1)) rfl) ?_
  refine And.intro (k_iload (pc := 84) (by decide +kernel : decode cX8_readRows 84 = .ok (.iload 7, 2))) ?_
  refine And.intro (k_crV (n := 1) (pc := 86) hG (zRoom_self 7) (tag := 8) rfl ini_X8 im_X8_isDigit se_X8_isDigit mk_X8_37 dy_X8_isDigit (by decide +kernel : decode cX8_readRows 86 = .ok (.invokevirtual 37, 3))) ?_
  refine And.intro (k_if_ne (pc := 89) (by decide +kernel : decode cX8_readRows 89 = .ok (.ifCond .ne 6, 3)) (by decide)) ?_
  refine And.intro (k_iload (pc := 92) (by decide +kernel : decode cX8_readRows 92 = .ok (.iload 7, 2))) ?_
  refine And.intro (k_ireturn (pc := 94) rfl (by decide +kernel : decode cX8_readRows 94 = .ok (.ireturn, 1))) ?_
  refine And.intro (k_aload_n (pc := 95) (by decide +kernel : decode cX8_readRows 95 = .ok (.aload_n 0, 1)) rfl) ?_
  refine And.intro (k_iload (pc := 96) (by decide +kernel : decode cX8_readRows 96 = .ok (.iload 7, 2))) ?_
  refine And.intro (k_iconst (pc := 98) (by decide +kernel : decode cX8_readRows 98 = .ok (.iconst 1, 1)) (by decide)) ?_
  refine And.intro (k_iadd (pc := 99) (by decide +kernel : decode cX8_readRows 99 = .ok (.iadd, 1))) ?_
  refine And.intro (k_crV (n := 1) (pc := 100) hG (zRoom_self 7) (tag := 8) rfl ini_X8 im_X8_isDigit se_X8_isDigit mk_X8_37 dy_X8_isDigit (by decide +kernel : decode cX8_readRows 100 = .ok (.invokevirtual 37, 3))) ?_
  refine And.intro (k_if_eq (pc := 103) (by decide +kernel : decode cX8_readRows 103 = .ok (.ifCond .eq 7, 3)) (by decide)) ?_
  refine And.intro (k_iconst (pc := 106) (by decide +kernel : decode cX8_readRows 106 = .ok (.iconst 2, 1)) (by decide)) ?_
  refine And.intro (k_goto (pc := 107) (by decide +kernel : decode cX8_readRows 107 = .ok (.goto 4, 3)) (by decide)) ?_
  refine And.intro (k_iconst (pc := 110) (by decide +kernel : decode cX8_readRows 110 = .ok (.iconst 1, 1)) (by decide)) ?_
  refine And.intro (k_istore (pc := 111) (by decide +kernel : decode cX8_readRows 111 = .ok (.istore 8, 2))) ?_
  refine And.intro (k_aload_n (pc := 113) (by decide +kernel : decode cX8_readRows 113 = .ok (.aload_n 0, 1)) rfl) ?_
  refine And.intro (k_iload (pc := 114) (by decide +kernel : decode cX8_readRows 114 = .ok (.iload 7, 2))) ?_
  refine And.intro (k_iload (pc := 116) (by decide +kernel : decode cX8_readRows 116 = .ok (.iload 8, 2))) ?_
  refine And.intro (k_crV (n := 2) (pc := 118) hG (zRoom_self 7) (tag := 8) rfl ini_X8 im_X8_number se_X8_number mk_X8_41 dy_X8_number (by decide +kernel : decode cX8_readRows 118 = .ok (.invokevirtual 41, 3))) ?_
  refine And.intro (k_istore (pc := 121) (by decide +kernel : decode cX8_readRows 121 = .ok (.istore 9, 2))) ?_
  refine And.intro (k_aload_n (pc := 123) (by decide +kernel : decode cX8_readRows 123 = .ok (.aload_n 1, 1)) rfl) ?_
  refine And.intro (k_aload_n (pc := 124) (by decide +kernel : decode cX8_readRows 124 = .ok (.aload_n 0, 1)) rfl) ?_
  refine And.intro (k_iload_n (pc := 125) (by decide +kernel : decode cX8_readRows 125 = .ok (.iload_n 2, 1)) rfl) ?_
  refine And.intro (k_iconst (pc := 126) (by decide +kernel : decode cX8_readRows 126 = .ok (.iconst 1, 1)) (by decide)) ?_
  refine And.intro (k_crV (n := 2) (pc := 127) hG (zRoom_self 7) (tag := 8) rfl ini_X8 im_X8_signed se_X8_signed mk_X8_56 dy_X8_signed (by decide +kernel : decode cX8_readRows 127 = .ok (.invokevirtual 56, 3))) ?_
  refine And.intro (k_aload_n (pc := 130) (by decide +kernel : decode cX8_readRows 130 = .ok (.aload_n 0, 1)) rfl) ?_
  refine And.intro (k_iload_n (pc := 131) (by decide +kernel : decode cX8_readRows 131 = .ok (.iload_n 2, 1)) rfl) ?_
  refine And.intro (k_iconst (pc := 132) (by decide +kernel : decode cX8_readRows 132 = .ok (.iconst 3, 1)) (by decide)) ?_
  refine And.intro (k_iadd (pc := 133) (by decide +kernel : decode cX8_readRows 133 = .ok (.iadd, 1))) ?_
  refine And.intro (k_iconst (pc := 134) (by decide +kernel : decode cX8_readRows 134 = .ok (.iconst 1, 1)) (by decide)) ?_
  refine And.intro (k_crV (n := 2) (pc := 135) hG (zRoom_self 7) (tag := 8) rfl ini_X8 im_X8_signed se_X8_signed mk_X8_56 dy_X8_signed (by decide +kernel : decode cX8_readRows 135 = .ok (.invokevirtual 56, 3))) ?_
  refine And.intro (k_iload (pc := 138) (by decide +kernel : decode cX8_readRows 138 = .ok (.iload 6, 2))) ?_
  refine And.intro (k_if_eq (pc := 140) (by decide +kernel : decode cX8_readRows 140 = .ok (.ifCond .eq 9, 3)) (by decide)) ?_
  refine And.intro (k_iload (pc := 143) (by decide +kernel : decode cX8_readRows 143 = .ok (.iload 9, 2))) ?_
  refine And.intro (k_ineg (pc := 145) (by decide +kernel : decode cX8_readRows 145 = .ok (.ineg, 1))) ?_
  refine And.intro (k_goto (pc := 146) (by decide +kernel : decode cX8_readRows 146 = .ok (.goto 5, 3)) (by decide)) ?_
  refine And.intro (k_iload (pc := 149) (by decide +kernel : decode cX8_readRows 149 = .ok (.iload 9, 2))) ?_
  refine And.intro (k_cvV (n := 3) (pc := 151) hG (zRoom_self 7) (tag := 5) rfl ini_X5 im_X5_append se_X5_append mk_X8_59 dy_X5_append (by decide +kernel : decode cX8_readRows 151 = .ok (.invokevirtual 59, 3))) ?_
  refine And.intro (k_iload (pc := 154) (by decide +kernel : decode cX8_readRows 154 = .ok (.iload 7, 2))) ?_
  refine And.intro (k_iload (pc := 156) (by decide +kernel : decode cX8_readRows 156 = .ok (.iload 8, 2))) ?_
  refine And.intro (k_iadd (pc := 158) (by decide +kernel : decode cX8_readRows 158 = .ok (.iadd, 1))) ?_
  refine And.intro (k_istore (pc := 159) (by decide +kernel : decode cX8_readRows 159 = .ok (.istore 10, 2))) ?_
  refine And.intro (k_iload (pc := 161) (by decide +kernel : decode cX8_readRows 161 = .ok (.iload 10, 2))) ?_
  refine And.intro (k_aload_n (pc := 163) (by decide +kernel : decode cX8_readRows 163 = .ok (.aload_n 0, 1)) rfl) ?_
  refine And.intro (k_gI (pc := 164) rfl (by decide) rfl zin8 lk_X8_9 (by decide +kernel : decode cX8_readRows 164 = .ok (.getfield 9, 3))) ?_
  refine And.intro (k_icmp_ne (pc := 167) (by decide +kernel : decode cX8_readRows 167 = .ok (.if_icmp .ne 5, 3)) (by decide)) ?_
  refine And.intro (k_iconst (pc := 170) (by decide +kernel : decode cX8_readRows 170 = .ok (.iconst (-1), 1)) (by decide)) ?_
  refine And.intro (k_ireturn (pc := 171) rfl (by decide +kernel : decode cX8_readRows 171 = .ok (.ireturn, 1))) ?_
  refine And.intro (k_aload_n (pc := 172) (by decide +kernel : decode cX8_readRows 172 = .ok (.aload_n 0, 1)) rfl) ?_
  refine And.intro (k_iload (pc := 173) (by decide +kernel : decode cX8_readRows 173 = .ok (.iload 10, 2))) ?_
  refine And.intro (k_crV (n := 1) (pc := 175) hG (zRoom_self 7) (tag := 8) rfl ini_X8 im_X8_at se_X8_at mk_X8_19 dy_X8_at (by decide +kernel : decode cX8_readRows 175 = .ok (.invokevirtual 19, 3))) ?_
  refine And.intro (k_bipush (pc := 178) (by decide +kernel : decode cX8_readRows 178 = .ok (.bipush 59, 2)) (by decide)) ?_
  refine And.intro (k_icmp_ne (pc := 180) (by decide +kernel : decode cX8_readRows 180 = .ok (.if_icmp .ne 8, 3)) (by decide)) ?_
  refine And.intro (k_iload_n (pc := 183) (by decide +kernel : decode cX8_readRows 183 = .ok (.iload_n 3, 1)) rfl) ?_
  refine And.intro (k_iconst (pc := 184) (by decide +kernel : decode cX8_readRows 184 = .ok (.iconst 5, 1)) (by decide)) ?_
  refine And.intro (k_icmp_ne (pc := 185) (by decide +kernel : decode cX8_readRows 185 = .ok (.if_icmp .ne 6, 3)) (by decide)) ?_
  refine And.intro (k_iload (pc := 188) (by decide +kernel : decode cX8_readRows 188 = .ok (.iload 10, 2))) ?_
  refine And.intro (k_ireturn (pc := 190) rfl (by decide +kernel : decode cX8_readRows 190 = .ok (.ireturn, 1))) ?_
  refine And.intro (k_iload (pc := 191) (by decide +kernel : decode cX8_readRows 191 = .ok (.iload 10, 2))) ?_
  refine And.intro (k_iconst (pc := 193) (by decide +kernel : decode cX8_readRows 193 = .ok (.iconst 1, 1)) (by decide)) ?_
  refine And.intro (k_iadd (pc := 194) (by decide +kernel : decode cX8_readRows 194 = .ok (.iadd, 1))) ?_
  refine And.intro (k_istore_n (pc := 195) (by decide +kernel : decode cX8_readRows 195 = .ok (.istore_n 2, 1)) rfl) ?_
  refine And.intro (k_iinc (pc := 196) (by decide +kernel : decode cX8_readRows 196 = .ok (.iinc 3 1, 3)) (by decide)) ?_
  refine And.intro (k_goto (pc := 199) (by decide +kernel : decode cX8_readRows 199 = .ok (.goto (-190), 3)) (by decide)) ?_
  refine And.intro (k_iconst (pc := 202) (by decide +kernel : decode cX8_readRows 202 = .ok (.iconst (-1), 1)) (by decide)) ?_
  refine And.intro (k_ireturn (pc := 203) rfl (by decide +kernel : decode cX8_readRows 203 = .ok (.ireturn, 1))) ?_
  exact trivial
theorem cdX8_readRows : Cond.code yX8_readRows cX8_readRows 11 (some .int) ∈ zWs := zWs_in 413 (by decide +kernel) rfl
abbrev aX8_readRows (G : zG) (Q : zRt) : Nat → zKn := zAt G (zRm 7) RX8 cX8_readRows 11 (some .int) (zF G Q 0 0) 0 0
theorem rnX8_readRows {G : zG} (hG : zGok G) {k' : Nat} (hk : 8 ≤ k') {σ : zSt} {Q : zRt} (v0 : Nat) (v1 : Nat) (h : aX8_readRows G Q 0 [some (.ref v0), some (.ref v1), none, none, none, none, none, none, none, none, none] [] σ) : zCalls G k' yX8_readRows [.ref v0, .ref v1] σ Q := zMethodF hG hk (Nat.le_of_ble_eq_true rfl) (by decide +kernel) cdX8_readRows _ rfl (Nat.le_of_ble_eq_true rfl) h
theorem sgX8_readRows {G : zG} (hs : zSok G) (hG : zGok G) {Q : zRt} (stops : List Nat) (n pc : Nat) {ls : zLs} {st : List Value} {σ : zSt} (h : zM (zCalls G 7) Q (aX8_readRows G Q) stops pgX8_readRows n (zDrop pc pgX8_readRows) ls st σ) : aX8_readRows G Q pc ls st σ := zStep (pkX8_readRows hs hG Q) stops n pc h
