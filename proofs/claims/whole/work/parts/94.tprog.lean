theorem mk_X11_134 : zMk RX11 134 yX5_part := Or.inl (zWs_in 1087 (by decide +kernel) rfl)
theorem mk_X11_385 : zMk RX11 385 yX4_at := Or.inl (zWs_in 1096 (by decide +kernel) rfl)
theorem dy_X4_at : yX4_at.cls ≠ "java/lang/invoke/MethodHandle" ∧ yX4_at.cls ≠ "java/lang/invoke/VarHandle" ∧ (parseMethodDescriptor yX4_at.desc).map (fun d => d.parameters.length) = some 1 := by decide +kernel
theorem im_X4_at : Cond.instanceMethod yX4_at ∈ zWs := (zWs_in 1097 (by decide +kernel) rfl)
theorem se_X4_at : Cond.selects yX4_at.cls yX4_at yX4_at ∈ zWs := (zWs_in 1098 (by decide +kernel) rfl)
noncomputable def pgX11_row (Qx : zSt → Prop) : zPg := [(0, o_il 1), (1, o_if_lt 24), (4, o_il 1), (5, o_al 0), (6, o_gR 11 0), (9, o_vr2 yX5_allRows 5 1), (12, o_ic_ge 24), (15, o_il 2), (16, o_if_lt 24), (19, o_il 2), (20, o_ic (2)), (21, o_ic_le 34), (24, o_thr Qx), (34, o_al 0), (35, o_gR 11 0), (38, o_il 1), (39, o_il 2), (40, o_vr2 yX5_part 5 3), (43, o_ir)]
theorem cdX11_row : Cond.code yX11_row cX11_row 3 (some .int) ∈ zWs := zWs_in 1020 (by decide +kernel) rfl
set_option maxRecDepth 20000 in
theorem pkX11_row {G : zG} (hT : zTok G) (hG : zGok G) (Q : zRt) (Qx : zSt → Prop) : zPOK G zRx RX11 cX11_row 3 (some .int) (zFx G yX11_row Q Qx) 0 0 (zCalls G 6) Q (pgX11_row Qx) := by
  refine And.intro (k_iload_n (pc := 0) (by decide +kernel : decode cX11_row 0 = .ok (.iload_n 1, 1)) rfl) ?_
  refine And.intro (k_if_lt (pc := 1) (by decide +kernel : decode cX11_row 1 = .ok (.ifCond .lt 23, 3)) (by decide)) ?_
  refine And.intro (k_iload_n (pc := 4) (by decide +kernel : decode cX11_row 4 = .ok (.iload_n 1, 1)) rfl) ?_
  refine And.intro (k_aload_n (pc := 5) (by decide +kernel : decode cX11_row 5 = .ok (.aload_n 0, 1)) rfl) ?_
  refine And.intro (k_gR (pc := 6) rfl (by decide) rfl zin11 lk_X11_10 (by decide +kernel : decode cX11_row 6 = .ok (.getfield 10, 3))) ?_
  refine And.intro (k_crV (n := 0) (pc := 9) hG zRoom_x (tag := 5) rfl ini_X5 im_X5_allRows se_X5_allRows mk_X11_124 dy_X5_allRows (by decide +kernel : decode cX11_row 9 = .ok (.invokevirtual 124, 3))) ?_
  refine And.intro (k_icmp_ge (pc := 12) (by decide +kernel : decode cX11_row 12 = .ok (.if_icmp .ge 12, 3)) (by decide)) ?_
  refine And.intro (k_iload_n (pc := 15) (by decide +kernel : decode cX11_row 15 = .ok (.iload_n 2, 1)) rfl) ?_
  refine And.intro (k_if_lt (pc := 16) (by decide +kernel : decode cX11_row 16 = .ok (.ifCond .lt 8, 3)) (by decide)) ?_
  refine And.intro (k_iload_n (pc := 19) (by decide +kernel : decode cX11_row 19 = .ok (.iload_n 2, 1)) rfl) ?_
  refine And.intro (k_iconst (pc := 20) (by decide +kernel : decode cX11_row 20 = .ok (.iconst 2, 1)) (by decide)) ?_
  refine And.intro (k_icmp_le (pc := 21) (by decide +kernel : decode cX11_row 21 = .ok (.if_icmp .le 13, 3)) (by decide)) ?_
  refine And.intro (k_thrS (pc := 24) hT cdX11_row (by decide +kernel : decode cX11_row 24 = .ok (.new 127, 3)) (by decide +kernel : decode cX11_row (24 + 3) = .ok (.dup, 1)) (by decide +kernel : decode cX11_row (24 + 4) = .ok (.ldc 129, 2)) (by decide +kernel : decode cX11_row (24 + 6) = .ok (.invokespecial 131, 3)) (by decide +kernel : decode cX11_row (24 + 9) = .ok (.athrow, 1))) ?_
  refine And.intro (k_aload_n (pc := 34) (by decide +kernel : decode cX11_row 34 = .ok (.aload_n 0, 1)) rfl) ?_
  refine And.intro (k_gR (pc := 35) rfl (by decide) rfl zin11 lk_X11_10 (by decide +kernel : decode cX11_row 35 = .ok (.getfield 10, 3))) ?_
  refine And.intro (k_iload_n (pc := 38) (by decide +kernel : decode cX11_row 38 = .ok (.iload_n 1, 1)) rfl) ?_
  refine And.intro (k_iload_n (pc := 39) (by decide +kernel : decode cX11_row 39 = .ok (.iload_n 2, 1)) rfl) ?_
  refine And.intro (k_crV (n := 2) (pc := 40) hG zRoom_x (tag := 5) rfl ini_X5 im_X5_part se_X5_part mk_X11_134 dy_X5_part (by decide +kernel : decode cX11_row 40 = .ok (.invokevirtual 134, 3))) ?_
  refine And.intro (k_iretX (pc := 43) rfl (by decide +kernel : decode cX11_row 43 = .ok (.ireturn, 1))) ?_
  exact trivial
noncomputable def pgX11_told (Qx : zSt → Prop) : zPg := [(0, o_il 1), (1, o_if_lt 15), (4, o_il 1), (5, o_al 0), (6, o_gR 11 6), (9, o_gI 4 0), (12, o_ic_lt 26), (15, o_thr Qx), (26, o_al 0), (27, o_gR 11 6), (30, o_il 1), (31, o_vr2 yX4_at 4 2), (34, o_lr)]
theorem cdX11_told : Cond.code yX11_told cX11_told 2 (some .long) ∈ zWs := zWs_in 1094 (by decide +kernel) rfl
set_option maxRecDepth 20000 in
theorem pkX11_told {G : zG} (hT : zTok G) (hG : zGok G) (Q : zRt) (Qx : zSt → Prop) : zPOK G zRx RX11 cX11_told 2 (some .long) (zFx G yX11_told Q Qx) 0 0 (zCalls G 6) Q (pgX11_told Qx) := by
  refine And.intro (k_iload_n (pc := 0) (by decide +kernel : decode cX11_told 0 = .ok (.iload_n 1, 1)) rfl) ?_
  refine And.intro (k_if_lt (pc := 1) (by decide +kernel : decode cX11_told 1 = .ok (.ifCond .lt 14, 3)) (by decide)) ?_
  refine And.intro (k_iload_n (pc := 4) (by decide +kernel : decode cX11_told 4 = .ok (.iload_n 1, 1)) rfl) ?_
  refine And.intro (k_aload_n (pc := 5) (by decide +kernel : decode cX11_told 5 = .ok (.aload_n 0, 1)) rfl) ?_
  refine And.intro (k_gR (pc := 6) rfl (by decide) rfl zin11 lk_X11_44 (by decide +kernel : decode cX11_told 6 = .ok (.getfield 44, 3))) ?_
  refine And.intro (k_gI (pc := 9) rfl (by decide) rfl zin4 lk_X11_379 (by decide +kernel : decode cX11_told 9 = .ok (.getfield 379, 3))) ?_
  refine And.intro (k_icmp_lt (pc := 12) (by decide +kernel : decode cX11_told 12 = .ok (.if_icmp .lt 14, 3)) (by decide)) ?_
  refine And.intro (k_thrW (pc := 15) hT cdX11_told (by decide +kernel : decode cX11_told 15 = .ok (.new 127, 3)) (by decide +kernel : decode cX11_told (15 + 3) = .ok (.dup, 1)) (by decide +kernel : decode cX11_told (15 + 4) = .ok (.ldc_w 383, 3)) (by decide +kernel : decode cX11_told (15 + 7) = .ok (.invokespecial 131, 3)) (by decide +kernel : decode cX11_told (15 + 10) = .ok (.athrow, 1))) ?_
  refine And.intro (k_aload_n (pc := 26) (by decide +kernel : decode cX11_told 26 = .ok (.aload_n 0, 1)) rfl) ?_
  refine And.intro (k_gR (pc := 27) rfl (by decide) rfl zin11 lk_X11_44 (by decide +kernel : decode cX11_told 27 = .ok (.getfield 44, 3))) ?_
  refine And.intro (k_iload_n (pc := 30) (by decide +kernel : decode cX11_told 30 = .ok (.iload_n 1, 1)) rfl) ?_
  refine And.intro (k_crV (n := 1) (pc := 31) hG zRoom_x (tag := 4) rfl ini_X4 im_X4_at se_X4_at mk_X11_385 dy_X4_at (by decide +kernel : decode cX11_told 31 = .ok (.invokevirtual 385, 3))) ?_
  refine And.intro (k_lretX (pc := 34) rfl (by decide +kernel : decode cX11_told 34 = .ok (.lreturn, 1))) ?_
  exact trivial
