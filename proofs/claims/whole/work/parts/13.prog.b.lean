noncomputable def pgX11_greatestDivisor : zPg := [(0, o_ll 0), (1, o_cr yJ9_abs_067f4 1), (4, o_ls 4), (6, o_ll 2), (7, o_cr yJ9_abs_067f4 1), (10, o_ls 6), (12, o_ic (0)), (13, o_is 8), (15, o_il 8), (17, o_ic (100)), (19, o_ic_ge 50), (22, o_ll 6), (24, o_lc 0), (25, o_lc_eq 50), (29, o_ll 4), (31, o_ll 6), (33, o_lrem), (34, o_ls 9), (36, o_ll 6), (38, o_ls 4), (40, o_ll 9), (42, o_ls 6), (44, o_inc 8 (1)), (47, o_go 15), (50, o_ll 4), (52, o_lr)]
set_option maxRecDepth 20000 in
theorem pkX11_greatestDivisor {G : zG} (hG : zGok G) (Q : zRt) : zPOK G (zRm 1) RX11 cX11_greatestDivisor 11 (some .long) (zF G Q 0 0) 0 0 (zCalls G 1) Q pgX11_greatestDivisor := by
  refine And.intro (k_lload_n (pc := 0) (by decide +kernel : decode cX11_greatestDivisor 0 = .ok (.lload_n 0, 1)) rfl) ?_
  refine And.intro (k_crS (n := 1) (pc := 1) hG (zRoom_self 1) ini_J9 sta_J9_abs_067f4 mk_X11_388 dy_J9_abs_067f4 (by decide +kernel : decode cX11_greatestDivisor 1 = .ok (.invokestatic 388, 3))) ?_
  refine And.intro (k_lstore (pc := 4) (by decide +kernel : decode cX11_greatestDivisor 4 = .ok (.lstore 4, 2))) ?_
  refine And.intro (k_lload_n (pc := 6) (by decide +kernel : decode cX11_greatestDivisor 6 = .ok (.lload_n 2, 1)) rfl) ?_
  refine And.intro (k_crS (n := 1) (pc := 7) hG (zRoom_self 1) ini_J9 sta_J9_abs_067f4 mk_X11_388 dy_J9_abs_067f4 (by decide +kernel : decode cX11_greatestDivisor 7 = .ok (.invokestatic 388, 3))) ?_
  refine And.intro (k_lstore (pc := 10) (by decide +kernel : decode cX11_greatestDivisor 10 = .ok (.lstore 6, 2))) ?_
  refine And.intro (k_iconst (pc := 12) (by decide +kernel : decode cX11_greatestDivisor 12 = .ok (.iconst 0, 1)) (by decide)) ?_
  refine And.intro (k_istore (pc := 13) (by decide +kernel : decode cX11_greatestDivisor 13 = .ok (.istore 8, 2))) ?_
  refine And.intro (k_iload (pc := 15) (by decide +kernel : decode cX11_greatestDivisor 15 = .ok (.iload 8, 2))) ?_
  refine And.intro (k_bipush (pc := 17) (by decide +kernel : decode cX11_greatestDivisor 17 = .ok (.bipush 100, 2)) (by decide)) ?_
  refine And.intro (k_icmp_ge (pc := 19) (by decide +kernel : decode cX11_greatestDivisor 19 = .ok (.if_icmp .ge 31, 3)) (by decide)) ?_
  refine And.intro (k_lload (pc := 22) (by decide +kernel : decode cX11_greatestDivisor 22 = .ok (.lload 6, 2))) ?_
  refine And.intro (k_lconst (pc := 24) (by decide +kernel : decode cX11_greatestDivisor 24 = .ok (.lconst 0, 1)) (by decide)) ?_
  refine And.intro (k_lcmp_eq (pc := 25) (by decide +kernel : decode cX11_greatestDivisor 25 = .ok (.lcmp, 1)) (by decide +kernel : decode cX11_greatestDivisor 26 = .ok (.ifCond .eq 24, 3)) (by decide)) ?_
  refine And.intro (k_lload (pc := 29) (by decide +kernel : decode cX11_greatestDivisor 29 = .ok (.lload 4, 2))) ?_
  refine And.intro (k_lload (pc := 31) (by decide +kernel : decode cX11_greatestDivisor 31 = .ok (.lload 6, 2))) ?_
  refine And.intro (k_lrem (pc := 33) (by decide +kernel : decode cX11_greatestDivisor 33 = .ok (.lrem, 1))) ?_
  refine And.intro (k_lstore (pc := 34) (by decide +kernel : decode cX11_greatestDivisor 34 = .ok (.lstore 9, 2))) ?_
  refine And.intro (k_lload (pc := 36) (by decide +kernel : decode cX11_greatestDivisor 36 = .ok (.lload 6, 2))) ?_
  refine And.intro (k_lstore (pc := 38) (by decide +kernel : decode cX11_greatestDivisor 38 = .ok (.lstore 4, 2))) ?_
  refine And.intro (k_lload (pc := 40) (by decide +kernel : decode cX11_greatestDivisor 40 = .ok (.lload 9, 2))) ?_
  refine And.intro (k_lstore (pc := 42) (by decide +kernel : decode cX11_greatestDivisor 42 = .ok (.lstore 6, 2))) ?_
  refine And.intro (k_iinc (pc := 44) (by decide +kernel : decode cX11_greatestDivisor 44 = .ok (.iinc 8 1, 3)) (by decide)) ?_
  refine And.intro (k_goto (pc := 47) (by decide +kernel : decode cX11_greatestDivisor 47 = .ok (.goto (-32), 3)) (by decide)) ?_
  refine And.intro (k_lload (pc := 50) (by decide +kernel : decode cX11_greatestDivisor 50 = .ok (.lload 4, 2))) ?_
  refine And.intro (k_lreturn (pc := 52) rfl (by decide +kernel : decode cX11_greatestDivisor 52 = .ok (.lreturn, 1))) ?_
  exact trivial
theorem cdX11_greatestDivisor : Cond.code yX11_greatestDivisor cX11_greatestDivisor 11 (some .long) ∈ zWs := zWs_in 615 (by decide +kernel) rfl
noncomputable def pgX7_at : zPg := [(0, o_al 0), (1, o_gR 7 0), (4, o_il 1), (5, o_ic (2)), (6, o_imul), (7, o_il 2), (8, o_iadd), (9, o_ic (7)), (11, o_imul), (12, o_il 3), (13, o_iadd), (14, o_al 0), (15, o_gR 7 0), (18, o_len), (19, o_cr yJ9_floorMod_7cf53 2), (22, o_xR 19), (23, o_ar)]
set_option maxRecDepth 20000 in
theorem pkX7_at {G : zG} (hG : zGok G) (Q : zRt) : zPOK G (zRm 1) RX7 cX7_at 4 (some (.object "SplitSlices$Slice")) (zF G Q 0 0) 0 0 (zCalls G 1) Q pgX7_at := by
  refine And.intro (k_aload_n (pc := 0) (by decide +kernel : decode cX7_at 0 = .ok (.aload_n 0, 1)) rfl) ?_
  refine And.intro (k_gR (pc := 1) rfl (by decide) rfl zin7 lk_X7_11 (by decide +kernel : decode cX7_at 1 = .ok (.getfield 11, 3))) ?_
  refine And.intro (k_iload_n (pc := 4) (by decide +kernel : decode cX7_at 4 = .ok (.iload_n 1, 1)) rfl) ?_
  refine And.intro (k_iconst (pc := 5) (by decide +kernel : decode cX7_at 5 = .ok (.iconst 2, 1)) (by decide)) ?_
  refine And.intro (k_imul (pc := 6) (by decide +kernel : decode cX7_at 6 = .ok (.imul, 1))) ?_
  refine And.intro (k_iload_n (pc := 7) (by decide +kernel : decode cX7_at 7 = .ok (.iload_n 2, 1)) rfl) ?_
  refine And.intro (k_iadd (pc := 8) (by decide +kernel : decode cX7_at 8 = .ok (.iadd, 1))) ?_
  refine And.intro (k_bipush (pc := 9) (by decide +kernel : decode cX7_at 9 = .ok (.bipush 7, 2)) (by decide)) ?_
  refine And.intro (k_imul (pc := 11) (by decide +kernel : decode cX7_at 11 = .ok (.imul, 1))) ?_
  refine And.intro (k_iload_n (pc := 12) (by decide +kernel : decode cX7_at 12 = .ok (.iload_n 3, 1)) rfl) ?_
  refine And.intro (k_iadd (pc := 13) (by decide +kernel : decode cX7_at 13 = .ok (.iadd, 1))) ?_
  refine And.intro (k_aload_n (pc := 14) (by decide +kernel : decode cX7_at 14 = .ok (.aload_n 0, 1)) rfl) ?_
  refine And.intro (k_gR (pc := 15) rfl (by decide) rfl zin7 lk_X7_11 (by decide +kernel : decode cX7_at 15 = .ok (.getfield 11, 3))) ?_
  refine And.intro (k_alen (pc := 18) (by decide +kernel : decode cX7_at 18 = .ok (.arraylength, 1))) ?_
  refine And.intro (k_crS (n := 2) (pc := 19) hG (zRoom_self 1) ini_J9 sta_J9_floorMod_7cf53 mk_X7_31 dy_J9_floorMod_7cf53 (by decide +kernel : decode cX7_at 19 = .ok (.invokestatic 31, 3))) ?_
  refine And.intro (k_aald19 (pc := 22) (by decide +kernel : decode cX7_at 22 = .ok (.aaload, 1))) ?_
  refine And.intro (k_areturn (pc := 23) (Or.inl ⟨_, rfl⟩) rfl (by decide +kernel : decode cX7_at 23 = .ok (.areturn, 1))) ?_
  exact trivial
theorem cdX7_at : Cond.code yX7_at cX7_at 4 (some (.object "SplitSlices$Slice")) ∈ zWs := zWs_in 603 (by decide +kernel) rfl
noncomputable def pgX10_has : zPg := [(0, o_il 1), (1, o_if_lt 25), (4, o_il 1), (5, o_al 0), (6, o_gI 10 0), (9, o_ic_ge 25), (12, o_il 1), (13, o_al 0), (14, o_gR 10 2), (17, o_len), (18, o_ic_ge 25), (21, o_ic (1)), (22, o_go 26), (25, o_ic (0)), (26, o_zr)]
set_option maxRecDepth 20000 in
theorem pkX10_has {G : zG} (hG : zGok G) (Q : zRt) : zPOK G (zRm 0) RX10 cX10_has 2 (some .boolean) (zF G Q 0 0) 0 0 (zCalls G 0) Q pgX10_has := by
  refine And.intro (k_iload_n (pc := 0) (by decide +kernel : decode cX10_has 0 = .ok (.iload_n 1, 1)) rfl) ?_
  refine And.intro (k_if_lt (pc := 1) (by decide +kernel : decode cX10_has 1 = .ok (.ifCond .lt 24, 3)) (by decide)) ?_
  refine And.intro (k_iload_n (pc := 4) (by decide +kernel : decode cX10_has 4 = .ok (.iload_n 1, 1)) rfl) ?_
  refine And.intro (k_aload_n (pc := 5) (by decide +kernel : decode cX10_has 5 = .ok (.aload_n 0, 1)) rfl) ?_
  refine And.intro (k_gI (pc := 6) rfl (by decide) rfl zin10 lk_X10_9 (by decide +kernel : decode cX10_has 6 = .ok (.getfield 9, 3))) ?_
  refine And.intro (k_icmp_ge (pc := 9) (by decide +kernel : decode cX10_has 9 = .ok (.if_icmp .ge 16, 3)) (by decide)) ?_
  refine And.intro (k_iload_n (pc := 12) (by decide +kernel : decode cX10_has 12 = .ok (.iload_n 1, 1)) rfl) ?_
  refine And.intro (k_aload_n (pc := 13) (by decide +kernel : decode cX10_has 13 = .ok (.aload_n 0, 1)) rfl) ?_
  refine And.intro (k_gR (pc := 14) rfl (by decide) rfl zin10 lk_X10_18 (by decide +kernel : decode cX10_has 14 = .ok (.getfield 18, 3))) ?_
  refine And.intro (k_alen (pc := 17) (by decide +kernel : decode cX10_has 17 = .ok (.arraylength, 1))) ?_
  refine And.intro (k_icmp_ge (pc := 18) (by decide +kernel : decode cX10_has 18 = .ok (.if_icmp .ge 7, 3)) (by decide)) ?_
  refine And.intro (k_iconst (pc := 21) (by decide +kernel : decode cX10_has 21 = .ok (.iconst 1, 1)) (by decide)) ?_
  refine And.intro (k_goto (pc := 22) (by decide +kernel : decode cX10_has 22 = .ok (.goto 4, 3)) (by decide)) ?_
  refine And.intro (k_iconst (pc := 25) (by decide +kernel : decode cX10_has 25 = .ok (.iconst 0, 1)) (by decide)) ?_
  refine And.intro (k_zreturn (pc := 26) rfl (by decide +kernel : decode cX10_has 26 = .ok (.ireturn, 1))) ?_
  exact trivial
theorem cdX10_has : Cond.code yX10_has cX10_has 2 (some .boolean) ∈ zWs := zWs_in 819 (by decide +kernel) rfl
noncomputable def pgX10_sum : zPg := [(0, o_al 0), (1, o_il 1), (2, o_vr2 yX10_has 10 2), (5, o_if_eq 31), (8, o_ll 2), (9, o_al 0), (10, o_gR 10 2), (13, o_il 1), (14, o_xI 14), (15, o_i2l), (16, o_lmul), (17, o_ll 4), (19, o_al 0), (20, o_gR 10 3), (23, o_il 1), (24, o_xI 14), (25, o_i2l), (26, o_lmul), (27, o_ladd), (28, o_go 32), (31, o_lc 0), (32, o_lr)]
set_option maxRecDepth 20000 in
theorem pkX10_sum {G : zG} (hG : zGok G) (Q : zRt) : zPOK G (zRm 1) RX10 cX10_sum 6 (some .long) (zF G Q 0 0) 0 0 (zCalls G 1) Q pgX10_sum := by
  refine And.intro (k_aload_n (pc := 0) (by decide +kernel : decode cX10_sum 0 = .ok (.aload_n 0, 1)) rfl) ?_
  refine And.intro (k_iload_n (pc := 1) (by decide +kernel : decode cX10_sum 1 = .ok (.iload_n 1, 1)) rfl) ?_
  refine And.intro (k_crV (n := 1) (pc := 2) hG (zRoom_self 1) (tag := 10) rfl ini_X10 im_X10_has se_X10_has mk_X10_34 dy_X10_has (by decide +kernel : decode cX10_sum 2 = .ok (.invokevirtual 34, 3))) ?_
  refine And.intro (k_if_eq (pc := 5) (by decide +kernel : decode cX10_sum 5 = .ok (.ifCond .eq 26, 3)) (by decide)) ?_
  refine And.intro (k_lload_n (pc := 8) (by decide +kernel : decode cX10_sum 8 = .ok (.lload_n 2, 1)) rfl) ?_
  refine And.intro (k_aload_n (pc := 9) (by decide +kernel : decode cX10_sum 9 = .ok (.aload_n 0, 1)) rfl) ?_
  refine And.intro (k_gR (pc := 10) rfl (by decide) rfl zin10 lk_X10_18 (by decide +kernel : decode cX10_sum 10 = .ok (.getfield 18, 3))) ?_
  refine And.intro (k_iload_n (pc := 13) (by decide +kernel : decode cX10_sum 13 = .ok (.iload_n 1, 1)) rfl) ?_
  refine And.intro (k_iald (pc := 14) (by decide +kernel : decode cX10_sum 14 = .ok (.iaload, 1))) ?_
  refine And.intro (k_i2l (pc := 15) (by decide +kernel : decode cX10_sum 15 = .ok (.i2l, 1))) ?_
  refine And.intro (k_lmul (pc := 16) (by decide +kernel : decode cX10_sum 16 = .ok (.lmul, 1))) ?_
  refine And.intro (k_lload (pc := 17) (by decide +kernel : decode cX10_sum 17 = .ok (.lload 4, 2))) ?_
  refine And.intro (k_aload_n (pc := 19) (by decide +kernel : decode cX10_sum 19 = .ok (.aload_n 0, 1)) rfl) ?_
  refine And.intro (k_gR (pc := 20) rfl (by decide) rfl zin10 lk_X10_22 (by decide +kernel : decode cX10_sum 20 = .ok (.getfield 22, 3))) ?_
  refine And.intro (k_iload_n (pc := 23) (by decide +kernel : decode cX10_sum 23 = .ok (.iload_n 1, 1)) rfl) ?_
  refine And.intro (k_iald (pc := 24) (by decide +kernel : decode cX10_sum 24 = .ok (.iaload, 1))) ?_
  refine And.intro (k_i2l (pc := 25) (by decide +kernel : decode cX10_sum 25 = .ok (.i2l, 1))) ?_
  refine And.intro (k_lmul (pc := 26) (by decide +kernel : decode cX10_sum 26 = .ok (.lmul, 1))) ?_
  refine And.intro (k_ladd (pc := 27) (by decide +kernel : decode cX10_sum 27 = .ok (.ladd, 1))) ?_
  refine And.intro (k_goto (pc := 28) (by decide +kernel : decode cX10_sum 28 = .ok (.goto 4, 3)) (by decide)) ?_
  refine And.intro (k_lconst (pc := 31) (by decide +kernel : decode cX10_sum 31 = .ok (.lconst 0, 1)) (by decide)) ?_
  refine And.intro (k_lreturn (pc := 32) rfl (by decide +kernel : decode cX10_sum 32 = .ok (.lreturn, 1))) ?_
  exact trivial
theorem cdX10_sum : Cond.code yX10_sum cX10_sum 6 (some .long) ∈ zWs := zWs_in 815 (by decide +kernel) rfl
noncomputable def pgX11_isBound : zPg := [(0, o_il 0), (1, o_ic (-50)), (3, o_ic_lt 16), (6, o_il 0), (7, o_ic (50)), (9, o_ic_gt 16), (12, o_ic (1)), (13, o_go 17), (16, o_ic (0)), (17, o_zr)]
set_option maxRecDepth 20000 in
theorem pkX11_isBound {G : zG} (hG : zGok G) (Q : zRt) : zPOK G (zRm 0) RX11 cX11_isBound 1 (some .boolean) (zF G Q 0 0) 0 0 (zCalls G 0) Q pgX11_isBound := by
  refine And.intro (k_iload_n (pc := 0) (by decide +kernel : decode cX11_isBound 0 = .ok (.iload_n 0, 1)) rfl) ?_
  refine And.intro (k_bipush (pc := 1) (by decide +kernel : decode cX11_isBound 1 = .ok (.bipush (-50), 2)) (by decide)) ?_
  refine And.intro (k_icmp_lt (pc := 3) (by decide +kernel : decode cX11_isBound 3 = .ok (.if_icmp .lt 13, 3)) (by decide)) ?_
  refine And.intro (k_iload_n (pc := 6) (by decide +kernel : decode cX11_isBound 6 = .ok (.iload_n 0, 1)) rfl) ?_
  refine And.intro (k_bipush (pc := 7) (by decide +kernel : decode cX11_isBound 7 = .ok (.bipush 50, 2)) (by decide)) ?_
  refine And.intro (k_icmp_gt (pc := 9) (by decide +kernel : decode cX11_isBound 9 = .ok (.if_icmp .gt 7, 3)) (by decide)) ?_
  refine And.intro (k_iconst (pc := 12) (by decide +kernel : decode cX11_isBound 12 = .ok (.iconst 1, 1)) (by decide)) ?_
  refine And.intro (k_goto (pc := 13) (by decide +kernel : decode cX11_isBound 13 = .ok (.goto 4, 3)) (by decide)) ?_
  refine And.intro (k_iconst (pc := 16) (by decide +kernel : decode cX11_isBound 16 = .ok (.iconst 0, 1)) (by decide)) ?_
  refine And.intro (k_zreturn (pc := 17) rfl (by decide +kernel : decode cX11_isBound 17 = .ok (.ireturn, 1))) ?_
  exact trivial
theorem cdX11_isBound : Cond.code yX11_isBound cX11_isBound 1 (some .boolean) ∈ zWs := zWs_in 514 (by decide +kernel) rfl
noncomputable def pgX11_isRow : zPg := [(0, o_il 0), (1, o_ic (-5)), (3, o_ic_lt 41), (6, o_il 0), (7, o_ic (5)), (8, o_ic_gt 41), (11, o_il 1), (12, o_ic (-5)), (14, o_ic_lt 41), (17, o_il 1), (18, o_ic (5)), (19, o_ic_gt 41), (22, o_il 0), (23, o_if_ne 30), (26, o_il 1), (27, o_if_eq 41), (30, o_il 2), (31, o_cr yX11_isBound 1), (34, o_if_eq 41), (37, o_ic (1)), (38, o_go 42), (41, o_ic (0)), (42, o_zr)]
set_option maxRecDepth 20000 in
theorem pkX11_isRow {G : zG} (hG : zGok G) (Q : zRt) : zPOK G (zRm 1) RX11 cX11_isRow 3 (some .boolean) (zF G Q 0 0) 0 0 (zCalls G 1) Q pgX11_isRow := by
  refine And.intro (k_iload_n (pc := 0) (by decide +kernel : decode cX11_isRow 0 = .ok (.iload_n 0, 1)) rfl) ?_
  refine And.intro (k_bipush (pc := 1) (by decide +kernel : decode cX11_isRow 1 = .ok (.bipush (-5), 2)) (by decide)) ?_
  refine And.intro (k_icmp_lt (pc := 3) (by decide +kernel : decode cX11_isRow 3 = .ok (.if_icmp .lt 38, 3)) (by decide)) ?_
  refine And.intro (k_iload_n (pc := 6) (by decide +kernel : decode cX11_isRow 6 = .ok (.iload_n 0, 1)) rfl) ?_
  refine And.intro (k_iconst (pc := 7) (by decide +kernel : decode cX11_isRow 7 = .ok (.iconst 5, 1)) (by decide)) ?_
  refine And.intro (k_icmp_gt (pc := 8) (by decide +kernel : decode cX11_isRow 8 = .ok (.if_icmp .gt 33, 3)) (by decide)) ?_
  refine And.intro (k_iload_n (pc := 11) (by decide +kernel : decode cX11_isRow 11 = .ok (.iload_n 1, 1)) rfl) ?_
  refine And.intro (k_bipush (pc := 12) (by decide +kernel : decode cX11_isRow 12 = .ok (.bipush (-5), 2)) (by decide)) ?_
  refine And.intro (k_icmp_lt (pc := 14) (by decide +kernel : decode cX11_isRow 14 = .ok (.if_icmp .lt 27, 3)) (by decide)) ?_
  refine And.intro (k_iload_n (pc := 17) (by decide +kernel : decode cX11_isRow 17 = .ok (.iload_n 1, 1)) rfl) ?_
  refine And.intro (k_iconst (pc := 18) (by decide +kernel : decode cX11_isRow 18 = .ok (.iconst 5, 1)) (by decide)) ?_
  refine And.intro (k_icmp_gt (pc := 19) (by decide +kernel : decode cX11_isRow 19 = .ok (.if_icmp .gt 22, 3)) (by decide)) ?_
  refine And.intro (k_iload_n (pc := 22) (by decide +kernel : decode cX11_isRow 22 = .ok (.iload_n 0, 1)) rfl) ?_
  refine And.intro (k_if_ne (pc := 23) (by decide +kernel : decode cX11_isRow 23 = .ok (.ifCond .ne 7, 3)) (by decide)) ?_
  refine And.intro (k_iload_n (pc := 26) (by decide +kernel : decode cX11_isRow 26 = .ok (.iload_n 1, 1)) rfl) ?_
  refine And.intro (k_if_eq (pc := 27) (by decide +kernel : decode cX11_isRow 27 = .ok (.ifCond .eq 14, 3)) (by decide)) ?_
  refine And.intro (k_iload_n (pc := 30) (by decide +kernel : decode cX11_isRow 30 = .ok (.iload_n 2, 1)) rfl) ?_
  refine And.intro (k_crS (n := 1) (pc := 31) hG (zRoom_self 1) ini_X11 sta_X11_isBound mk_X11_337 dy_X11_isBound (by decide +kernel : decode cX11_isRow 31 = .ok (.invokestatic 337, 3))) ?_
  refine And.intro (k_if_eq (pc := 34) (by decide +kernel : decode cX11_isRow 34 = .ok (.ifCond .eq 7, 3)) (by decide)) ?_
  refine And.intro (k_iconst (pc := 37) (by decide +kernel : decode cX11_isRow 37 = .ok (.iconst 1, 1)) (by decide)) ?_
  refine And.intro (k_goto (pc := 38) (by decide +kernel : decode cX11_isRow 38 = .ok (.goto 4, 3)) (by decide)) ?_
  refine And.intro (k_iconst (pc := 41) (by decide +kernel : decode cX11_isRow 41 = .ok (.iconst 0, 1)) (by decide)) ?_
  refine And.intro (k_zreturn (pc := 42) rfl (by decide +kernel : decode cX11_isRow 42 = .ok (.ireturn, 1))) ?_
  exact trivial
theorem cdX11_isRow : Cond.code yX11_isRow cX11_isRow 3 (some .boolean) ∈ zWs := zWs_in 511 (by decide +kernel) rfl
noncomputable def pgX7_narrow : zPg := [(0, o_il 3), (1, o_i2l), (2, o_al 1), (3, o_gJ 6 0), (6, o_il 5), (8, o_i2l), (9, o_al 1), (10, o_gJ 6 1), (13, o_lmul), (14, o_lsub), (15, o_lmul), (16, o_lc 0), (17, o_lc_gt 25), (21, o_ic (1)), (22, o_go 26), (25, o_ic (0)), (26, o_is 6), (28, o_il 3), (29, o_i2l), (30, o_al 2), (31, o_gJ 6 0), (34, o_il 5), (36, o_i2l), (37, o_al 2), (38, o_gJ 6 1), (41, o_lmul), (42, o_lsub), (43, o_lmul), (44, o_lc 0), (45, o_lc_gt 53), (49, o_ic (1)), (50, o_go 54), (53, o_ic (0)), (54, o_is 7), (56, o_il 6), (58, o_il 7), (60, o_ic_ne 66), (63, o_il 6), (65, o_zr), (66, o_al 2), (67, o_gJ 6 0), (70, o_al 1), (71, o_gJ 6 1), (74, o_lmul), (75, o_al 1), (76, o_gJ 6 0), (79, o_al 2), (80, o_gJ 6 1), (83, o_lmul), (84, o_lsub), (85, o_ls 8), (87, o_al 0), (88, o_gR 7 3), (91, o_il 4), (93, o_i2l), (94, o_ll 8), (96, o_lmul), (97, o_il 5), (99, o_i2l), (100, o_al 1), (101, o_gJ 6 1), (104, o_lmul), (105, o_al 1), (106, o_gJ 6 0), (109, o_lsub), (110, o_al 2), (111, o_gJ 6 1), (114, o_lmul), (115, o_ladd), (116, o_ll 8), (118, o_vv yX6_put 6 3), (121, o_il 6), (123, o_if_eq 151), (126, o_al 0), (127, o_gR 7 3), (130, o_al 0), (131, o_gR 7 2), (134, o_vr2 yX6_isBelow 6 2), (137, o_if_eq 151), (140, o_al 0), (141, o_gR 7 2), (144, o_al 0), (145, o_gR 7 3), (148, o_vv yX6_copy 6 2), (151, o_il 7), (153, o_if_eq 181), (156, o_al 0), (157, o_gR 7 1), (160, o_al 0), (161, o_gR 7 3), (164, o_vr2 yX6_isBelow 6 2), (167, o_if_eq 181), (170, o_al 0), (171, o_gR 7 1), (174, o_al 0), (175, o_gR 7 3), (178, o_vv yX6_copy 6 2), (181, o_ic (1)), (182, o_zr)]
set_option maxRecDepth 20000 in
theorem pkX7_narrow {G : zG} (hG : zGok G) (Q : zRt) : zPOK G (zRm 3) RX7 cX7_narrow 10 (some .boolean) (zF G Q 0 0) 0 0 (zCalls G 3) Q pgX7_narrow := by
  refine And.intro (k_iload_n (pc := 0) (by decide +kernel : decode cX7_narrow 0 = .ok (.iload_n 3, 1)) rfl) ?_
  refine And.intro (k_i2l (pc := 1) (by decide +kernel : decode cX7_narrow 1 = .ok (.i2l, 1))) ?_
  refine And.intro (k_aload_n (pc := 2) (by decide +kernel : decode cX7_narrow 2 = .ok (.aload_n 1, 1)) rfl) ?_
  refine And.intro (k_gJ (pc := 3) rfl (by decide) rfl zin6 lk_X7_110 (by decide +kernel : decode cX7_narrow 3 = .ok (.getfield 110, 3))) ?_
  refine And.intro (k_iload (pc := 6) (by decide +kernel : decode cX7_narrow 6 = .ok (.iload 5, 2))) ?_
  refine And.intro (k_i2l (pc := 8) (by decide +kernel : decode cX7_narrow 8 = .ok (.i2l, 1))) ?_
  refine And.intro (k_aload_n (pc := 9) (by decide +kernel : decode cX7_narrow 9 = .ok (.aload_n 1, 1)) rfl) ?_
  refine And.intro (k_gJ (pc := 10) rfl (by decide) rfl zin6 lk_X7_114 (by decide +kernel : decode cX7_narrow 10 = .ok (.getfield 114, 3))) ?_
  refine And.intro (k_lmul (pc := 13) (by decide +kernel : decode cX7_narrow 13 = .ok (.lmul, 1))) ?_
  refine And.intro (k_lsub (pc := 14) (by decide +kernel : decode cX7_narrow 14 = .ok (.lsub, 1))) ?_
  refine And.intro (k_lmul (pc := 15) (by decide +kernel : decode cX7_narrow 15 = .ok (.lmul, 1))) ?_
  refine And.intro (k_lconst (pc := 16) (by decide +kernel : decode cX7_narrow 16 = .ok (.lconst 0, 1)) (by decide)) ?_
  refine And.intro (k_lcmp_gt (pc := 17) (by decide +kernel : decode cX7_narrow 17 = .ok (.lcmp, 1)) (by decide +kernel : decode cX7_narrow 18 = .ok (.ifCond .gt 7, 3)) (by decide)) ?_
  refine And.intro (k_iconst (pc := 21) (by decide +kernel : decode cX7_narrow 21 = .ok (.iconst 1, 1)) (by decide)) ?_
  refine And.intro (k_goto (pc := 22) (by decide +kernel : decode cX7_narrow 22 = .ok (.goto 4, 3)) (by decide)) ?_
  refine And.intro (k_iconst (pc := 25) (by decide +kernel : decode cX7_narrow 25 = .ok (.iconst 0, 1)) (by decide)) ?_
  refine And.intro (k_istore (pc := 26) (by decide +kernel : decode cX7_narrow 26 = .ok (.istore 6, 2))) ?_
  refine And.intro (k_iload_n (pc := 28) (by decide +kernel : decode cX7_narrow 28 = .ok (.iload_n 3, 1)) rfl) ?_
  refine And.intro (k_i2l (pc := 29) (by decide +kernel : decode cX7_narrow 29 = .ok (.i2l, 1))) ?_
  refine And.intro (k_aload_n (pc := 30) (by decide +kernel : decode cX7_narrow 30 = .ok (.aload_n 2, 1)) rfl) ?_
  refine And.intro (k_gJ (pc := 31) rfl (by decide) rfl zin6 lk_X7_110 (by decide +kernel : decode cX7_narrow 31 = .ok (.getfield 110, 3))) ?_
  refine And.intro (k_iload (pc := 34) (by decide +kernel : decode cX7_narrow 34 = .ok (.iload 5, 2))) ?_
  refine And.intro (k_i2l (pc := 36) (by decide +kernel : decode cX7_narrow 36 = .ok (.i2l, 1))) ?_
  refine And.intro (k_aload_n (pc := 37) (by decide +kernel : decode cX7_narrow 37 = .ok (.aload_n 2, 1)) rfl) ?_
  refine And.intro (k_gJ (pc := 38) rfl (by decide) rfl zin6 lk_X7_114 (by decide +kernel : decode cX7_narrow 38 = .ok (.getfield 114, 3))) ?_
  refine And.intro (k_lmul (pc := 41) (by decide +kernel : decode cX7_narrow 41 = .ok (.lmul, 1))) ?_
  refine And.intro (k_lsub (pc := 42) (by decide +kernel : decode cX7_narrow 42 = .ok (.lsub, 1))) ?_
  refine And.intro (k_lmul (pc := 43) (by decide +kernel : decode cX7_narrow 43 = .ok (.lmul, 1))) ?_
  refine And.intro (k_lconst (pc := 44) (by decide +kernel : decode cX7_narrow 44 = .ok (.lconst 0, 1)) (by decide)) ?_
  refine And.intro (k_lcmp_gt (pc := 45) (by decide +kernel : decode cX7_narrow 45 = .ok (.lcmp, 1)) (by decide +kernel : decode cX7_narrow 46 = .ok (.ifCond .gt 7, 3)) (by decide)) ?_
  refine And.intro (k_iconst (pc := 49) (by decide +kernel : decode cX7_narrow 49 = .ok (.iconst 1, 1)) (by decide)) ?_
  refine And.intro (k_goto (pc := 50) (by decide +kernel : decode cX7_narrow 50 = .ok (.goto 4, 3)) (by decide)) ?_
  refine And.intro (k_iconst (pc := 53) (by decide +kernel : decode cX7_narrow 53 = .ok (.iconst 0, 1)) (by decide)) ?_
  refine And.intro (k_istore (pc := 54) (by decide +kernel : decode cX7_narrow 54 = .ok (.istore 7, 2))) ?_
  refine And.intro (k_iload (pc := 56) (by decide +kernel : decode cX7_narrow 56 = .ok (.iload 6, 2))) ?_
  refine And.intro (k_iload (pc := 58) (by decide +kernel : decode cX7_narrow 58 = .ok (.iload 7, 2))) ?_
  refine And.intro (k_icmp_ne (pc := 60) (by decide +kernel : decode cX7_narrow 60 = .ok (.if_icmp .ne 6, 3)) (by decide)) ?_
  refine And.intro (k_iload (pc := 63) (by decide +kernel : decode cX7_narrow 63 = .ok (.iload 6, 2))) ?_
  refine And.intro (k_zreturn (pc := 65) rfl (by decide +kernel : decode cX7_narrow 65 = .ok (.ireturn, 1))) ?_
  refine And.intro (k_aload_n (pc := 66) (by decide +kernel : decode cX7_narrow 66 = .ok (.aload_n 2, 1)) rfl) ?_
  refine And.intro (k_gJ (pc := 67) rfl (by decide) rfl zin6 lk_X7_110 (by decide +kernel : decode cX7_narrow 67 = .ok (.getfield 110, 3))) ?_
  refine And.intro (k_aload_n (pc := 70) (by decide +kernel : decode cX7_narrow 70 = .ok (.aload_n 1, 1)) rfl) ?_
  refine And.intro (k_gJ (pc := 71) rfl (by decide) rfl zin6 lk_X7_114 (by decide +kernel : decode cX7_narrow 71 = .ok (.getfield 114, 3))) ?_
  refine And.intro (k_lmul (pc := 74) (by decide +kernel : decode cX7_narrow 74 = .ok (.lmul, 1))) ?_
  refine And.intro (k_aload_n (pc := 75) (by decide +kernel : decode cX7_narrow 75 = .ok (.aload_n 1, 1)) rfl) ?_
  refine And.intro (k_gJ (pc := 76) rfl (by decide) rfl zin6 lk_X7_110 (by decide +kernel : decode cX7_narrow 76 = .ok (.getfield 110, 3))) ?_
  refine And.intro (k_aload_n (pc := 79) (by decide +kernel : decode cX7_narrow 79 = .ok (.aload_n 2, 1)) rfl) ?_
  refine And.intro (k_gJ (pc := 80) rfl (by decide) rfl zin6 lk_X7_114 (by decide +kernel : decode cX7_narrow 80 = .ok (.getfield 114, 3))) ?_
  refine And.intro (k_lmul (pc := 83) (by decide +kernel : decode cX7_narrow 83 = .ok (.lmul, 1))) ?_
  refine And.intro (k_lsub (pc := 84) (by decide +kernel : decode cX7_narrow 84 = .ok (.lsub, 1))) ?_
  refine And.intro (k_lstore (pc := 85) (by decide +kernel : decode cX7_narrow 85 = .ok (.lstore 8, 2))) ?_
  refine And.intro (k_aload_n (pc := 87) (by decide +kernel : decode cX7_narrow 87 = .ok (.aload_n 0, 1)) rfl) ?_
  refine And.intro (k_gR (pc := 88) rfl (by decide) rfl zin7 lk_X7_27 (by decide +kernel : decode cX7_narrow 88 = .ok (.getfield 27, 3))) ?_
  refine And.intro (k_iload (pc := 91) (by decide +kernel : decode cX7_narrow 91 = .ok (.iload 4, 2))) ?_
  refine And.intro (k_i2l (pc := 93) (by decide +kernel : decode cX7_narrow 93 = .ok (.i2l, 1))) ?_
  refine And.intro (k_lload (pc := 94) (by decide +kernel : decode cX7_narrow 94 = .ok (.lload 8, 2))) ?_
  refine And.intro (k_lmul (pc := 96) (by decide +kernel : decode cX7_narrow 96 = .ok (.lmul, 1))) ?_
  refine And.intro (k_iload (pc := 97) (by decide +kernel : decode cX7_narrow 97 = .ok (.iload 5, 2))) ?_
  refine And.intro (k_i2l (pc := 99) (by decide +kernel : decode cX7_narrow 99 = .ok (.i2l, 1))) ?_
  refine And.intro (k_aload_n (pc := 100) (by decide +kernel : decode cX7_narrow 100 = .ok (.aload_n 1, 1)) rfl) ?_
  refine And.intro (k_gJ (pc := 101) rfl (by decide) rfl zin6 lk_X7_114 (by decide +kernel : decode cX7_narrow 101 = .ok (.getfield 114, 3))) ?_
  refine And.intro (k_lmul (pc := 104) (by decide +kernel : decode cX7_narrow 104 = .ok (.lmul, 1))) ?_
  refine And.intro (k_aload_n (pc := 105) (by decide +kernel : decode cX7_narrow 105 = .ok (.aload_n 1, 1)) rfl) ?_
  refine And.intro (k_gJ (pc := 106) rfl (by decide) rfl zin6 lk_X7_110 (by decide +kernel : decode cX7_narrow 106 = .ok (.getfield 110, 3))) ?_
  refine And.intro (k_lsub (pc := 109) (by decide +kernel : decode cX7_narrow 109 = .ok (.lsub, 1))) ?_
  refine And.intro (k_aload_n (pc := 110) (by decide +kernel : decode cX7_narrow 110 = .ok (.aload_n 2, 1)) rfl) ?_
  refine And.intro (k_gJ (pc := 111) rfl (by decide) rfl zin6 lk_X7_114 (by decide +kernel : decode cX7_narrow 111 = .ok (.getfield 114, 3))) ?_
  refine And.intro (k_lmul (pc := 114) (by decide +kernel : decode cX7_narrow 114 = .ok (.lmul, 1))) ?_
  refine And.intro (k_ladd (pc := 115) (by decide +kernel : decode cX7_narrow 115 = .ok (.ladd, 1))) ?_
  refine And.intro (k_lload (pc := 116) (by decide +kernel : decode cX7_narrow 116 = .ok (.lload 8, 2))) ?_
  refine And.intro (k_cvV (n := 2) (pc := 118) hG (zRoom_self 3) (tag := 6) rfl ini_X6 im_X6_put se_X6_put mk_X7_80 dy_X6_put (by decide +kernel : decode cX7_narrow 118 = .ok (.invokevirtual 80, 3))) ?_
  refine And.intro (k_iload (pc := 121) (by decide +kernel : decode cX7_narrow 121 = .ok (.iload 6, 2))) ?_
  refine And.intro (k_if_eq (pc := 123) (by decide +kernel : decode cX7_narrow 123 = .ok (.ifCond .eq 28, 3)) (by decide)) ?_
  refine And.intro (k_aload_n (pc := 126) (by decide +kernel : decode cX7_narrow 126 = .ok (.aload_n 0, 1)) rfl) ?_
  refine And.intro (k_gR (pc := 127) rfl (by decide) rfl zin7 lk_X7_27 (by decide +kernel : decode cX7_narrow 127 = .ok (.getfield 27, 3))) ?_
  refine And.intro (k_aload_n (pc := 130) (by decide +kernel : decode cX7_narrow 130 = .ok (.aload_n 0, 1)) rfl) ?_
  refine And.intro (k_gR (pc := 131) rfl (by decide) rfl zin7 lk_X7_24 (by decide +kernel : decode cX7_narrow 131 = .ok (.getfield 24, 3))) ?_
  refine And.intro (k_crV (n := 1) (pc := 134) hG (zRoom_self 3) (tag := 6) rfl ini_X6 im_X6_isBelow se_X6_isBelow mk_X7_106 dy_X6_isBelow (by decide +kernel : decode cX7_narrow 134 = .ok (.invokevirtual 106, 3))) ?_
  refine And.intro (k_if_eq (pc := 137) (by decide +kernel : decode cX7_narrow 137 = .ok (.ifCond .eq 14, 3)) (by decide)) ?_
  refine And.intro (k_aload_n (pc := 140) (by decide +kernel : decode cX7_narrow 140 = .ok (.aload_n 0, 1)) rfl) ?_
  refine And.intro (k_gR (pc := 141) rfl (by decide) rfl zin7 lk_X7_24 (by decide +kernel : decode cX7_narrow 141 = .ok (.getfield 24, 3))) ?_
  refine And.intro (k_aload_n (pc := 144) (by decide +kernel : decode cX7_narrow 144 = .ok (.aload_n 0, 1)) rfl) ?_
  refine And.intro (k_gR (pc := 145) rfl (by decide) rfl zin7 lk_X7_27 (by decide +kernel : decode cX7_narrow 145 = .ok (.getfield 27, 3))) ?_
  refine And.intro (k_cvV (n := 1) (pc := 148) hG (zRoom_self 3) (tag := 6) rfl ini_X6 im_X6_copy se_X6_copy mk_X7_116 dy_X6_copy (by decide +kernel : decode cX7_narrow 148 = .ok (.invokevirtual 116, 3))) ?_
  refine And.intro (k_iload (pc := 151) (by decide +kernel : decode cX7_narrow 151 = .ok (.iload 7, 2))) ?_
  refine And.intro (k_if_eq (pc := 153) (by decide +kernel : decode cX7_narrow 153 = .ok (.ifCond .eq 28, 3)) (by decide)) ?_
  refine And.intro (k_aload_n (pc := 156) (by decide +kernel : decode cX7_narrow 156 = .ok (.aload_n 0, 1)) rfl) ?_
  refine And.intro (k_gR (pc := 157) rfl (by decide) rfl zin7 lk_X7_20 (by decide +kernel : decode cX7_narrow 157 = .ok (.getfield 20, 3))) ?_
  refine And.intro (k_aload_n (pc := 160) (by decide +kernel : decode cX7_narrow 160 = .ok (.aload_n 0, 1)) rfl) ?_
  refine And.intro (k_gR (pc := 161) rfl (by decide) rfl zin7 lk_X7_27 (by decide +kernel : decode cX7_narrow 161 = .ok (.getfield 27, 3))) ?_
  refine And.intro (k_crV (n := 1) (pc := 164) hG (zRoom_self 3) (tag := 6) rfl ini_X6 im_X6_isBelow se_X6_isBelow mk_X7_106 dy_X6_isBelow (by decide +kernel : decode cX7_narrow 164 = .ok (.invokevirtual 106, 3))) ?_
  refine And.intro (k_if_eq (pc := 167) (by decide +kernel : decode cX7_narrow 167 = .ok (.ifCond .eq 14, 3)) (by decide)) ?_
  refine And.intro (k_aload_n (pc := 170) (by decide +kernel : decode cX7_narrow 170 = .ok (.aload_n 0, 1)) rfl) ?_
  refine And.intro (k_gR (pc := 171) rfl (by decide) rfl zin7 lk_X7_20 (by decide +kernel : decode cX7_narrow 171 = .ok (.getfield 20, 3))) ?_
  refine And.intro (k_aload_n (pc := 174) (by decide +kernel : decode cX7_narrow 174 = .ok (.aload_n 0, 1)) rfl) ?_
  refine And.intro (k_gR (pc := 175) rfl (by decide) rfl zin7 lk_X7_27 (by decide +kernel : decode cX7_narrow 175 = .ok (.getfield 27, 3))) ?_
  refine And.intro (k_cvV (n := 1) (pc := 178) hG (zRoom_self 3) (tag := 6) rfl ini_X6 im_X6_copy se_X6_copy mk_X7_116 dy_X6_copy (by decide +kernel : decode cX7_narrow 178 = .ok (.invokevirtual 116, 3))) ?_
  refine And.intro (k_iconst (pc := 181) (by decide +kernel : decode cX7_narrow 181 = .ok (.iconst 1, 1)) (by decide)) ?_
  refine And.intro (k_zreturn (pc := 182) rfl (by decide +kernel : decode cX7_narrow 182 = .ok (.ireturn, 1))) ?_
  exact trivial
theorem cdX7_narrow : Cond.code yX7_narrow cX7_narrow 10 (some .boolean) ∈ zWs := zWs_in 658 (by decide +kernel) rfl
noncomputable def pgX9_join : zPg := [(0, o_al 0), (1, o_gI 9 0), (4, o_if_ne 18), (7, o_al 1), (8, o_al 0), (9, o_gR 9 1), (12, o_vr2 yX6_isBelow 6 2), (15, o_if_eq 26), (18, o_al 0), (19, o_gR 9 1), (22, o_al 1), (23, o_vv yX6_copy 6 2), (26, o_al 0), (27, o_gI 9 0), (30, o_if_ne 44), (33, o_al 0), (34, o_gR 9 2), (37, o_al 2), (38, o_vr2 yX6_isBelow 6 2), (41, o_if_eq 52), (44, o_al 0), (45, o_gR 9 2), (48, o_al 2), (49, o_vv yX6_copy 6 2), (52, o_al 0), (53, o_ic (0)), (54, o_pZ 9 0), (57, o_vr)]
set_option maxRecDepth 20000 in
theorem pkX9_join {G : zG} (hG : zGok G) (Q : zRt) : zPOK G (zRm 1) RX9 cX9_join 3 none (zF G Q 0 0) 0 0 (zCalls G 1) Q pgX9_join := by
  refine And.intro (k_aload_n (pc := 0) (by decide +kernel : decode cX9_join 0 = .ok (.aload_n 0, 1)) rfl) ?_
  refine And.intro (k_gZ (pc := 1) rfl (by decide) rfl zin9 lk_X9_9 (by decide +kernel : decode cX9_join 1 = .ok (.getfield 9, 3))) ?_
  refine And.intro (k_if_ne (pc := 4) (by decide +kernel : decode cX9_join 4 = .ok (.ifCond .ne 14, 3)) (by decide)) ?_
  refine And.intro (k_aload_n (pc := 7) (by decide +kernel : decode cX9_join 7 = .ok (.aload_n 1, 1)) rfl) ?_
  refine And.intro (k_aload_n (pc := 8) (by decide +kernel : decode cX9_join 8 = .ok (.aload_n 0, 1)) rfl) ?_
  refine And.intro (k_gR (pc := 9) rfl (by decide) rfl zin9 lk_X9_18 (by decide +kernel : decode cX9_join 9 = .ok (.getfield 18, 3))) ?_
  refine And.intro (k_crV (n := 1) (pc := 12) hG (zRoom_self 1) (tag := 6) rfl ini_X6 im_X6_isBelow se_X6_isBelow mk_X9_37 dy_X6_isBelow (by decide +kernel : decode cX9_join 12 = .ok (.invokevirtual 37, 3))) ?_
  refine And.intro (k_if_eq (pc := 15) (by decide +kernel : decode cX9_join 15 = .ok (.ifCond .eq 11, 3)) (by decide)) ?_
  refine And.intro (k_aload_n (pc := 18) (by decide +kernel : decode cX9_join 18 = .ok (.aload_n 0, 1)) rfl) ?_
  refine And.intro (k_gR (pc := 19) rfl (by decide) rfl zin9 lk_X9_18 (by decide +kernel : decode cX9_join 19 = .ok (.getfield 18, 3))) ?_
  refine And.intro (k_aload_n (pc := 22) (by decide +kernel : decode cX9_join 22 = .ok (.aload_n 1, 1)) rfl) ?_
  refine And.intro (k_cvV (n := 1) (pc := 23) hG (zRoom_self 1) (tag := 6) rfl ini_X6 im_X6_copy se_X6_copy mk_X9_41 dy_X6_copy (by decide +kernel : decode cX9_join 23 = .ok (.invokevirtual 41, 3))) ?_
  refine And.intro (k_aload_n (pc := 26) (by decide +kernel : decode cX9_join 26 = .ok (.aload_n 0, 1)) rfl) ?_
  refine And.intro (k_gZ (pc := 27) rfl (by decide) rfl zin9 lk_X9_9 (by decide +kernel : decode cX9_join 27 = .ok (.getfield 9, 3))) ?_
  refine And.intro (k_if_ne (pc := 30) (by decide +kernel : decode cX9_join 30 = .ok (.ifCond .ne 14, 3)) (by decide)) ?_
  refine And.intro (k_aload_n (pc := 33) (by decide +kernel : decode cX9_join 33 = .ok (.aload_n 0, 1)) rfl) ?_
  refine And.intro (k_gR (pc := 34) rfl (by decide) rfl zin9 lk_X9_22 (by decide +kernel : decode cX9_join 34 = .ok (.getfield 22, 3))) ?_
  refine And.intro (k_aload_n (pc := 37) (by decide +kernel : decode cX9_join 37 = .ok (.aload_n 2, 1)) rfl) ?_
  refine And.intro (k_crV (n := 1) (pc := 38) hG (zRoom_self 1) (tag := 6) rfl ini_X6 im_X6_isBelow se_X6_isBelow mk_X9_37 dy_X6_isBelow (by decide +kernel : decode cX9_join 38 = .ok (.invokevirtual 37, 3))) ?_
  refine And.intro (k_if_eq (pc := 41) (by decide +kernel : decode cX9_join 41 = .ok (.ifCond .eq 11, 3)) (by decide)) ?_
  refine And.intro (k_aload_n (pc := 44) (by decide +kernel : decode cX9_join 44 = .ok (.aload_n 0, 1)) rfl) ?_
  refine And.intro (k_gR (pc := 45) rfl (by decide) rfl zin9 lk_X9_22 (by decide +kernel : decode cX9_join 45 = .ok (.getfield 22, 3))) ?_
  refine And.intro (k_aload_n (pc := 48) (by decide +kernel : decode cX9_join 48 = .ok (.aload_n 2, 1)) rfl) ?_
  refine And.intro (k_cvV (n := 1) (pc := 49) hG (zRoom_self 1) (tag := 6) rfl ini_X6 im_X6_copy se_X6_copy mk_X9_41 dy_X6_copy (by decide +kernel : decode cX9_join 49 = .ok (.invokevirtual 41, 3))) ?_
  refine And.intro (k_aload_n (pc := 52) (by decide +kernel : decode cX9_join 52 = .ok (.aload_n 0, 1)) rfl) ?_
  refine And.intro (k_iconst (pc := 53) (by decide +kernel : decode cX9_join 53 = .ok (.iconst 0, 1)) (by decide)) ?_
  refine And.intro (k_pZ (pc := 54) rfl (by decide) rfl zin9 lk_X9_9 tyX9_ok nmX9 rfl (by decide +kernel) (by decide +kernel : decode cX9_join 54 = .ok (.putfield 9, 3))) ?_
  refine And.intro (k_return (pc := 57) rfl (by decide +kernel : decode cX9_join 57 = .ok (.return_, 1))) ?_
  exact trivial
theorem cdX9_join : Cond.code yX9_join cX9_join 3 none ∈ zWs := zWs_in 646 (by decide +kernel) rfl
noncomputable def pgX7_joinBetween : zPg := [(0, o_al 2), (1, o_gI 9 0), (4, o_if_ne 14), (7, o_al 3), (8, o_gI 9 0), (11, o_if_eq 15), (14, o_vr), (15, o_al 0), (16, o_gR 7 1), (19, o_il 4), (21, o_i2l), (22, o_lc 1), (23, o_vv yX6_put 6 3), (26, o_al 0), (27, o_gR 7 2), (30, o_il 4), (32, o_ic (1)), (33, o_iadd), (34, o_i2l), (35, o_lc 1), (36, o_vv yX6_put 6 3), (39, o_al 0), (40, o_al 2), (41, o_gR 9 1), (44, o_al 3), (45, o_gR 9 1), (48, o_ic (1)), (49, o_il 4), (51, o_il 5), (53, o_vr2 yX7_narrow 7 6), (56, o_if_eq 105), (59, o_al 0), (60, o_al 2), (61, o_gR 9 2), (64, o_al 3), (65, o_gR 9 2), (68, o_ic (-1)), (69, o_il 4), (71, o_il 5), (73, o_vr2 yX7_narrow 7 6), (76, o_if_eq 105), (79, o_al 0), (80, o_gR 7 2), (83, o_al 0), (84, o_gR 7 1), (87, o_vr2 yX6_isBelow 6 2), (90, o_if_ne 105), (93, o_al 1), (94, o_al 0), (95, o_gR 7 1), (98, o_al 0), (99, o_gR 7 2), (102, o_vv yX9_join 9 3), (105, o_vr)]
set_option maxRecDepth 20000 in
theorem pkX7_joinBetween {G : zG} (hG : zGok G) (Q : zRt) : zPOK G (zRm 4) RX7 cX7_joinBetween 6 none (zF G Q 0 0) 0 0 (zCalls G 4) Q pgX7_joinBetween := by
  refine And.intro (k_aload_n (pc := 0) (by decide +kernel : decode cX7_joinBetween 0 = .ok (.aload_n 2, 1)) rfl) ?_
  refine And.intro (k_gZ (pc := 1) rfl (by decide) rfl zin9 lk_X7_72 (by decide +kernel : decode cX7_joinBetween 1 = .ok (.getfield 72, 3))) ?_
  refine And.intro (k_if_ne (pc := 4) (by decide +kernel : decode cX7_joinBetween 4 = .ok (.ifCond .ne 10, 3)) (by decide)) ?_
  refine And.intro (k_aload_n (pc := 7) (by decide +kernel : decode cX7_joinBetween 7 = .ok (.aload_n 3, 1)) rfl) ?_
  refine And.intro (k_gZ (pc := 8) rfl (by decide) rfl zin9 lk_X7_72 (by decide +kernel : decode cX7_joinBetween 8 = .ok (.getfield 72, 3))) ?_
  refine And.intro (k_if_eq (pc := 11) (by decide +kernel : decode cX7_joinBetween 11 = .ok (.ifCond .eq 4, 3)) (by decide)) ?_
  refine And.intro (k_return (pc := 14) rfl (by decide +kernel : decode cX7_joinBetween 14 = .ok (.return_, 1))) ?_
  refine And.intro (k_aload_n (pc := 15) (by decide +kernel : decode cX7_joinBetween 15 = .ok (.aload_n 0, 1)) rfl) ?_
  refine And.intro (k_gR (pc := 16) rfl (by decide) rfl zin7 lk_X7_20 (by decide +kernel : decode cX7_joinBetween 16 = .ok (.getfield 20, 3))) ?_
  refine And.intro (k_iload (pc := 19) (by decide +kernel : decode cX7_joinBetween 19 = .ok (.iload 4, 2))) ?_
  refine And.intro (k_i2l (pc := 21) (by decide +kernel : decode cX7_joinBetween 21 = .ok (.i2l, 1))) ?_
  refine And.intro (k_lconst (pc := 22) (by decide +kernel : decode cX7_joinBetween 22 = .ok (.lconst 1, 1)) (by decide)) ?_
  refine And.intro (k_cvV (n := 2) (pc := 23) hG (zRoom_self 4) (tag := 6) rfl ini_X6 im_X6_put se_X6_put mk_X7_80 dy_X6_put (by decide +kernel : decode cX7_joinBetween 23 = .ok (.invokevirtual 80, 3))) ?_
  refine And.intro (k_aload_n (pc := 26) (by decide +kernel : decode cX7_joinBetween 26 = .ok (.aload_n 0, 1)) rfl) ?_
  refine And.intro (k_gR (pc := 27) rfl (by decide) rfl zin7 lk_X7_24 (by decide +kernel : decode cX7_joinBetween 27 = .ok (.getfield 24, 3))) ?_
  refine And.intro (k_iload (pc := 30) (by decide +kernel : decode cX7_joinBetween 30 = .ok (.iload 4, 2))) ?_
  refine And.intro (k_iconst (pc := 32) (by decide +kernel : decode cX7_joinBetween 32 = .ok (.iconst 1, 1)) (by decide)) ?_
  refine And.intro (k_iadd (pc := 33) (by decide +kernel : decode cX7_joinBetween 33 = .ok (.iadd, 1))) ?_
  refine And.intro (k_i2l (pc := 34) (by decide +kernel : decode cX7_joinBetween 34 = .ok (.i2l, 1))) ?_
  refine And.intro (k_lconst (pc := 35) (by decide +kernel : decode cX7_joinBetween 35 = .ok (.lconst 1, 1)) (by decide)) ?_
  refine And.intro (k_cvV (n := 2) (pc := 36) hG (zRoom_self 4) (tag := 6) rfl ini_X6 im_X6_put se_X6_put mk_X7_80 dy_X6_put (by decide +kernel : decode cX7_joinBetween 36 = .ok (.invokevirtual 80, 3))) ?_
  refine And.intro (k_aload_n (pc := 39) (by decide +kernel : decode cX7_joinBetween 39 = .ok (.aload_n 0, 1)) rfl) ?_
  refine And.intro (k_aload_n (pc := 40) (by decide +kernel : decode cX7_joinBetween 40 = .ok (.aload_n 2, 1)) rfl) ?_
  refine And.intro (k_gR (pc := 41) rfl (by decide) rfl zin9 lk_X7_96 (by decide +kernel : decode cX7_joinBetween 41 = .ok (.getfield 96, 3))) ?_
  refine And.intro (k_aload_n (pc := 44) (by decide +kernel : decode cX7_joinBetween 44 = .ok (.aload_n 3, 1)) rfl) ?_
  refine And.intro (k_gR (pc := 45) rfl (by decide) rfl zin9 lk_X7_96 (by decide +kernel : decode cX7_joinBetween 45 = .ok (.getfield 96, 3))) ?_
  refine And.intro (k_iconst (pc := 48) (by decide +kernel : decode cX7_joinBetween 48 = .ok (.iconst 1, 1)) (by decide)) ?_
  refine And.intro (k_iload (pc := 49) (by decide +kernel : decode cX7_joinBetween 49 = .ok (.iload 4, 2))) ?_
  refine And.intro (k_iload (pc := 51) (by decide +kernel : decode cX7_joinBetween 51 = .ok (.iload 5, 2))) ?_
  refine And.intro (k_crV (n := 5) (pc := 53) hG (zRoom_self 4) (tag := 7) rfl ini_X7 im_X7_narrow se_X7_narrow mk_X7_99 dy_X7_narrow (by decide +kernel : decode cX7_joinBetween 53 = .ok (.invokevirtual 99, 3))) ?_
  refine And.intro (k_if_eq (pc := 56) (by decide +kernel : decode cX7_joinBetween 56 = .ok (.ifCond .eq 49, 3)) (by decide)) ?_
  refine And.intro (k_aload_n (pc := 59) (by decide +kernel : decode cX7_joinBetween 59 = .ok (.aload_n 0, 1)) rfl) ?_
  refine And.intro (k_aload_n (pc := 60) (by decide +kernel : decode cX7_joinBetween 60 = .ok (.aload_n 2, 1)) rfl) ?_
  refine And.intro (k_gR (pc := 61) rfl (by decide) rfl zin9 lk_X7_103 (by decide +kernel : decode cX7_joinBetween 61 = .ok (.getfield 103, 3))) ?_
  refine And.intro (k_aload_n (pc := 64) (by decide +kernel : decode cX7_joinBetween 64 = .ok (.aload_n 3, 1)) rfl) ?_
  refine And.intro (k_gR (pc := 65) rfl (by decide) rfl zin9 lk_X7_103 (by decide +kernel : decode cX7_joinBetween 65 = .ok (.getfield 103, 3))) ?_
  refine And.intro (k_iconst (pc := 68) (by decide +kernel : decode cX7_joinBetween 68 = .ok (.iconst (-1), 1)) (by decide)) ?_
  refine And.intro (k_iload (pc := 69) (by decide +kernel : decode cX7_joinBetween 69 = .ok (.iload 4, 2))) ?_
  refine And.intro (k_iload (pc := 71) (by decide +kernel : decode cX7_joinBetween 71 = .ok (.iload 5, 2))) ?_
  refine And.intro (k_crV (n := 5) (pc := 73) hG (zRoom_self 4) (tag := 7) rfl ini_X7 im_X7_narrow se_X7_narrow mk_X7_99 dy_X7_narrow (by decide +kernel : decode cX7_joinBetween 73 = .ok (.invokevirtual 99, 3))) ?_
  refine And.intro (k_if_eq (pc := 76) (by decide +kernel : decode cX7_joinBetween 76 = .ok (.ifCond .eq 29, 3)) (by decide)) ?_
  refine And.intro (k_aload_n (pc := 79) (by decide +kernel : decode cX7_joinBetween 79 = .ok (.aload_n 0, 1)) rfl) ?_
  refine And.intro (k_gR (pc := 80) rfl (by decide) rfl zin7 lk_X7_24 (by decide +kernel : decode cX7_joinBetween 80 = .ok (.getfield 24, 3))) ?_
  refine And.intro (k_aload_n (pc := 83) (by decide +kernel : decode cX7_joinBetween 83 = .ok (.aload_n 0, 1)) rfl) ?_
  refine And.intro (k_gR (pc := 84) rfl (by decide) rfl zin7 lk_X7_20 (by decide +kernel : decode cX7_joinBetween 84 = .ok (.getfield 20, 3))) ?_
  refine And.intro (k_crV (n := 1) (pc := 87) hG (zRoom_self 4) (tag := 6) rfl ini_X6 im_X6_isBelow se_X6_isBelow mk_X7_106 dy_X6_isBelow (by decide +kernel : decode cX7_joinBetween 87 = .ok (.invokevirtual 106, 3))) ?_
  refine And.intro (k_if_ne (pc := 90) (by decide +kernel : decode cX7_joinBetween 90 = .ok (.ifCond .ne 15, 3)) (by decide)) ?_
  refine And.intro (k_aload_n (pc := 93) (by decide +kernel : decode cX7_joinBetween 93 = .ok (.aload_n 1, 1)) rfl) ?_
  refine And.intro (k_aload_n (pc := 94) (by decide +kernel : decode cX7_joinBetween 94 = .ok (.aload_n 0, 1)) rfl) ?_
  refine And.intro (k_gR (pc := 95) rfl (by decide) rfl zin7 lk_X7_20 (by decide +kernel : decode cX7_joinBetween 95 = .ok (.getfield 20, 3))) ?_
  refine And.intro (k_aload_n (pc := 98) (by decide +kernel : decode cX7_joinBetween 98 = .ok (.aload_n 0, 1)) rfl) ?_
  refine And.intro (k_gR (pc := 99) rfl (by decide) rfl zin7 lk_X7_24 (by decide +kernel : decode cX7_joinBetween 99 = .ok (.getfield 24, 3))) ?_
  refine And.intro (k_cvV (n := 2) (pc := 102) hG (zRoom_self 4) (tag := 9) rfl ini_X9 im_X9_join se_X9_join mk_X7_84 dy_X9_join (by decide +kernel : decode cX7_joinBetween 102 = .ok (.invokevirtual 84, 3))) ?_
  refine And.intro (k_return (pc := 105) rfl (by decide +kernel : decode cX7_joinBetween 105 = .ok (.return_, 1))) ?_
  exact trivial
theorem cdX7_joinBetween : Cond.code yX7_joinBetween cX7_joinBetween 6 none ∈ zWs := zWs_in 654 (by decide +kernel) rfl
noncomputable def pgX9_contains : zPg := [(0, o_al 0), (1, o_gI 9 0), (4, o_if_ne 55), (7, o_al 0), (8, o_gR 9 1), (11, o_gJ 6 0), (14, o_ll 3), (15, o_lmul), (16, o_ll 1), (17, o_al 0), (18, o_gR 9 1), (21, o_gJ 6 1), (24, o_lmul), (25, o_lc_gt 55), (29, o_ll 1), (30, o_al 0), (31, o_gR 9 2), (34, o_gJ 6 1), (37, o_lmul), (38, o_al 0), (39, o_gR 9 2), (42, o_gJ 6 0), (45, o_ll 3), (46, o_lmul), (47, o_lc_gt 55), (51, o_ic (1)), (52, o_go 56), (55, o_ic (0)), (56, o_zr)]
set_option maxRecDepth 20000 in
theorem pkX9_contains {G : zG} (hG : zGok G) (Q : zRt) : zPOK G (zRm 0) RX9 cX9_contains 5 (some .boolean) (zF G Q 0 0) 0 0 (zCalls G 0) Q pgX9_contains := by
  refine And.intro (k_aload_n (pc := 0) (by decide +kernel : decode cX9_contains 0 = .ok (.aload_n 0, 1)) rfl) ?_
  refine And.intro (k_gZ (pc := 1) rfl (by decide) rfl zin9 lk_X9_9 (by decide +kernel : decode cX9_contains 1 = .ok (.getfield 9, 3))) ?_
  refine And.intro (k_if_ne (pc := 4) (by decide +kernel : decode cX9_contains 4 = .ok (.ifCond .ne 51, 3)) (by decide)) ?_
  refine And.intro (k_aload_n (pc := 7) (by decide +kernel : decode cX9_contains 7 = .ok (.aload_n 0, 1)) rfl) ?_
  refine And.intro (k_gR (pc := 8) rfl (by decide) rfl zin9 lk_X9_18 (by decide +kernel : decode cX9_contains 8 = .ok (.getfield 18, 3))) ?_
  refine And.intro (k_gJ (pc := 11) rfl (by decide) rfl zin6 lk_X9_34 (by decide +kernel : decode cX9_contains 11 = .ok (.getfield 34, 3))) ?_
  refine And.intro (k_lload_n (pc := 14) (by decide +kernel : decode cX9_contains 14 = .ok (.lload_n 3, 1)) rfl) ?_
  refine And.intro (k_lmul (pc := 15) (by decide +kernel : decode cX9_contains 15 = .ok (.lmul, 1))) ?_
  refine And.intro (k_lload_n (pc := 16) (by decide +kernel : decode cX9_contains 16 = .ok (.lload_n 1, 1)) rfl) ?_
  refine And.intro (k_aload_n (pc := 17) (by decide +kernel : decode cX9_contains 17 = .ok (.aload_n 0, 1)) rfl) ?_
  refine And.intro (k_gR (pc := 18) rfl (by decide) rfl zin9 lk_X9_18 (by decide +kernel : decode cX9_contains 18 = .ok (.getfield 18, 3))) ?_
  refine And.intro (k_gJ (pc := 21) rfl (by decide) rfl zin6 lk_X9_31 (by decide +kernel : decode cX9_contains 21 = .ok (.getfield 31, 3))) ?_
  refine And.intro (k_lmul (pc := 24) (by decide +kernel : decode cX9_contains 24 = .ok (.lmul, 1))) ?_
  refine And.intro (k_lcmp_gt (pc := 25) (by decide +kernel : decode cX9_contains 25 = .ok (.lcmp, 1)) (by decide +kernel : decode cX9_contains 26 = .ok (.ifCond .gt 29, 3)) (by decide)) ?_
  refine And.intro (k_lload_n (pc := 29) (by decide +kernel : decode cX9_contains 29 = .ok (.lload_n 1, 1)) rfl) ?_
  refine And.intro (k_aload_n (pc := 30) (by decide +kernel : decode cX9_contains 30 = .ok (.aload_n 0, 1)) rfl) ?_
  refine And.intro (k_gR (pc := 31) rfl (by decide) rfl zin9 lk_X9_22 (by decide +kernel : decode cX9_contains 31 = .ok (.getfield 22, 3))) ?_
  refine And.intro (k_gJ (pc := 34) rfl (by decide) rfl zin6 lk_X9_31 (by decide +kernel : decode cX9_contains 34 = .ok (.getfield 31, 3))) ?_
  refine And.intro (k_lmul (pc := 37) (by decide +kernel : decode cX9_contains 37 = .ok (.lmul, 1))) ?_
  refine And.intro (k_aload_n (pc := 38) (by decide +kernel : decode cX9_contains 38 = .ok (.aload_n 0, 1)) rfl) ?_
  refine And.intro (k_gR (pc := 39) rfl (by decide) rfl zin9 lk_X9_22 (by decide +kernel : decode cX9_contains 39 = .ok (.getfield 22, 3))) ?_
  refine And.intro (k_gJ (pc := 42) rfl (by decide) rfl zin6 lk_X9_34 (by decide +kernel : decode cX9_contains 42 = .ok (.getfield 34, 3))) ?_
  refine And.intro (k_lload_n (pc := 45) (by decide +kernel : decode cX9_contains 45 = .ok (.lload_n 3, 1)) rfl) ?_
  refine And.intro (k_lmul (pc := 46) (by decide +kernel : decode cX9_contains 46 = .ok (.lmul, 1))) ?_
  refine And.intro (k_lcmp_gt (pc := 47) (by decide +kernel : decode cX9_contains 47 = .ok (.lcmp, 1)) (by decide +kernel : decode cX9_contains 48 = .ok (.ifCond .gt 7, 3)) (by decide)) ?_
  refine And.intro (k_iconst (pc := 51) (by decide +kernel : decode cX9_contains 51 = .ok (.iconst 1, 1)) (by decide)) ?_
  refine And.intro (k_goto (pc := 52) (by decide +kernel : decode cX9_contains 52 = .ok (.goto 4, 3)) (by decide)) ?_
  refine And.intro (k_iconst (pc := 55) (by decide +kernel : decode cX9_contains 55 = .ok (.iconst 0, 1)) (by decide)) ?_
  refine And.intro (k_zreturn (pc := 56) rfl (by decide +kernel : decode cX9_contains 56 = .ok (.ireturn, 1))) ?_
  exact trivial
theorem cdX9_contains : Cond.code yX9_contains cX9_contains 5 (some .boolean) ∈ zWs := zWs_in 641 (by decide +kernel) rfl
noncomputable def pgX9_emptyIfCrossed : zPg := [(0, o_al 0), (1, o_gR 9 2), (4, o_al 0), (5, o_gR 9 1), (8, o_vr2 yX6_isBelow 6 2), (11, o_if_eq 19), (14, o_al 0), (15, o_ic (1)), (16, o_pZ 9 0), (19, o_vr)]
set_option maxRecDepth 20000 in
theorem pkX9_emptyIfCrossed {G : zG} (hG : zGok G) (Q : zRt) : zPOK G (zRm 1) RX9 cX9_emptyIfCrossed 1 none (zF G Q 0 0) 0 0 (zCalls G 1) Q pgX9_emptyIfCrossed := by
  refine And.intro (k_aload_n (pc := 0) (by decide +kernel : decode cX9_emptyIfCrossed 0 = .ok (.aload_n 0, 1)) rfl) ?_
  refine And.intro (k_gR (pc := 1) rfl (by decide) rfl zin9 lk_X9_22 (by decide +kernel : decode cX9_emptyIfCrossed 1 = .ok (.getfield 22, 3))) ?_
  refine And.intro (k_aload_n (pc := 4) (by decide +kernel : decode cX9_emptyIfCrossed 4 = .ok (.aload_n 0, 1)) rfl) ?_
  refine And.intro (k_gR (pc := 5) rfl (by decide) rfl zin9 lk_X9_18 (by decide +kernel : decode cX9_emptyIfCrossed 5 = .ok (.getfield 18, 3))) ?_
  refine And.intro (k_crV (n := 1) (pc := 8) hG (zRoom_self 1) (tag := 6) rfl ini_X6 im_X6_isBelow se_X6_isBelow mk_X9_37 dy_X6_isBelow (by decide +kernel : decode cX9_emptyIfCrossed 8 = .ok (.invokevirtual 37, 3))) ?_
  refine And.intro (k_if_eq (pc := 11) (by decide +kernel : decode cX9_emptyIfCrossed 11 = .ok (.ifCond .eq 8, 3)) (by decide)) ?_
  refine And.intro (k_aload_n (pc := 14) (by decide +kernel : decode cX9_emptyIfCrossed 14 = .ok (.aload_n 0, 1)) rfl) ?_
  refine And.intro (k_iconst (pc := 15) (by decide +kernel : decode cX9_emptyIfCrossed 15 = .ok (.iconst 1, 1)) (by decide)) ?_
  refine And.intro (k_pZ (pc := 16) rfl (by decide) rfl zin9 lk_X9_9 tyX9_ok nmX9 rfl (by decide +kernel) (by decide +kernel : decode cX9_emptyIfCrossed 16 = .ok (.putfield 9, 3))) ?_
  refine And.intro (k_return (pc := 19) rfl (by decide +kernel : decode cX9_emptyIfCrossed 19 = .ok (.return_, 1))) ?_
  exact trivial
theorem cdX9_emptyIfCrossed : Cond.code yX9_emptyIfCrossed cX9_emptyIfCrossed 1 none ∈ zWs := zWs_in 629 (by decide +kernel) rfl
noncomputable def pgX9_meet : zPg := [(0, o_al 0), (1, o_gR 9 1), (4, o_al 1), (5, o_gR 9 1), (8, o_vr2 yX6_isBelow 6 2), (11, o_if_eq 25), (14, o_al 0), (15, o_gR 9 1), (18, o_al 1), (19, o_gR 9 1), (22, o_vv yX6_copy 6 2), (25, o_al 1), (26, o_gR 9 2), (29, o_al 0), (30, o_gR 9 2), (33, o_vr2 yX6_isBelow 6 2), (36, o_if_eq 50), (39, o_al 0), (40, o_gR 9 2), (43, o_al 1), (44, o_gR 9 2), (47, o_vv yX6_copy 6 2), (50, o_vr)]
set_option maxRecDepth 20000 in
theorem pkX9_meet {G : zG} (hG : zGok G) (Q : zRt) : zPOK G (zRm 1) RX9 cX9_meet 2 none (zF G Q 0 0) 0 0 (zCalls G 1) Q pgX9_meet := by
  refine And.intro (k_aload_n (pc := 0) (by decide +kernel : decode cX9_meet 0 = .ok (.aload_n 0, 1)) rfl) ?_
  refine And.intro (k_gR (pc := 1) rfl (by decide) rfl zin9 lk_X9_18 (by decide +kernel : decode cX9_meet 1 = .ok (.getfield 18, 3))) ?_
  refine And.intro (k_aload_n (pc := 4) (by decide +kernel : decode cX9_meet 4 = .ok (.aload_n 1, 1)) rfl) ?_
  refine And.intro (k_gR (pc := 5) rfl (by decide) rfl zin9 lk_X9_18 (by decide +kernel : decode cX9_meet 5 = .ok (.getfield 18, 3))) ?_
  refine And.intro (k_crV (n := 1) (pc := 8) hG (zRoom_self 1) (tag := 6) rfl ini_X6 im_X6_isBelow se_X6_isBelow mk_X9_37 dy_X6_isBelow (by decide +kernel : decode cX9_meet 8 = .ok (.invokevirtual 37, 3))) ?_
  refine And.intro (k_if_eq (pc := 11) (by decide +kernel : decode cX9_meet 11 = .ok (.ifCond .eq 14, 3)) (by decide)) ?_
  refine And.intro (k_aload_n (pc := 14) (by decide +kernel : decode cX9_meet 14 = .ok (.aload_n 0, 1)) rfl) ?_
  refine And.intro (k_gR (pc := 15) rfl (by decide) rfl zin9 lk_X9_18 (by decide +kernel : decode cX9_meet 15 = .ok (.getfield 18, 3))) ?_
  refine And.intro (k_aload_n (pc := 18) (by decide +kernel : decode cX9_meet 18 = .ok (.aload_n 1, 1)) rfl) ?_
  refine And.intro (k_gR (pc := 19) rfl (by decide) rfl zin9 lk_X9_18 (by decide +kernel : decode cX9_meet 19 = .ok (.getfield 18, 3))) ?_
  refine And.intro (k_cvV (n := 1) (pc := 22) hG (zRoom_self 1) (tag := 6) rfl ini_X6 im_X6_copy se_X6_copy mk_X9_41 dy_X6_copy (by decide +kernel : decode cX9_meet 22 = .ok (.invokevirtual 41, 3))) ?_
  refine And.intro (k_aload_n (pc := 25) (by decide +kernel : decode cX9_meet 25 = .ok (.aload_n 1, 1)) rfl) ?_
  refine And.intro (k_gR (pc := 26) rfl (by decide) rfl zin9 lk_X9_22 (by decide +kernel : decode cX9_meet 26 = .ok (.getfield 22, 3))) ?_
  refine And.intro (k_aload_n (pc := 29) (by decide +kernel : decode cX9_meet 29 = .ok (.aload_n 0, 1)) rfl) ?_
  refine And.intro (k_gR (pc := 30) rfl (by decide) rfl zin9 lk_X9_22 (by decide +kernel : decode cX9_meet 30 = .ok (.getfield 22, 3))) ?_
  refine And.intro (k_crV (n := 1) (pc := 33) hG (zRoom_self 1) (tag := 6) rfl ini_X6 im_X6_isBelow se_X6_isBelow mk_X9_37 dy_X6_isBelow (by decide +kernel : decode cX9_meet 33 = .ok (.invokevirtual 37, 3))) ?_
  refine And.intro (k_if_eq (pc := 36) (by decide +kernel : decode cX9_meet 36 = .ok (.ifCond .eq 14, 3)) (by decide)) ?_
  refine And.intro (k_aload_n (pc := 39) (by decide +kernel : decode cX9_meet 39 = .ok (.aload_n 0, 1)) rfl) ?_
  refine And.intro (k_gR (pc := 40) rfl (by decide) rfl zin9 lk_X9_22 (by decide +kernel : decode cX9_meet 40 = .ok (.getfield 22, 3))) ?_
  refine And.intro (k_aload_n (pc := 43) (by decide +kernel : decode cX9_meet 43 = .ok (.aload_n 1, 1)) rfl) ?_
  refine And.intro (k_gR (pc := 44) rfl (by decide) rfl zin9 lk_X9_22 (by decide +kernel : decode cX9_meet 44 = .ok (.getfield 22, 3))) ?_
  refine And.intro (k_cvV (n := 1) (pc := 47) hG (zRoom_self 1) (tag := 6) rfl ini_X6 im_X6_copy se_X6_copy mk_X9_41 dy_X6_copy (by decide +kernel : decode cX9_meet 47 = .ok (.invokevirtual 41, 3))) ?_
  refine And.intro (k_return (pc := 50) rfl (by decide +kernel : decode cX9_meet 50 = .ok (.return_, 1))) ?_
  exact trivial
theorem cdX9_meet : Cond.code yX9_meet cX9_meet 2 none ∈ zWs := zWs_in 664 (by decide +kernel) rfl
noncomputable def pgX7_boundBySplits : zPg := [(0, o_al 0), (1, o_il 1), (2, o_il 2), (3, o_il 3), (4, o_vr2 yX7_at 7 4), (7, o_as 4), (9, o_al 0), (10, o_il 1), (11, o_ic (1)), (12, o_isub), (13, o_il 2), (14, o_il 3), (15, o_vr2 yX7_at 7 4), (18, o_as 5), (20, o_al 4), (22, o_ic (1)), (23, o_pZ 9 0), (26, o_al 5), (28, o_gI 9 0), (31, o_if_eq 35), (34, o_vr), (35, o_ic (0)), (36, o_is 6), (38, o_il 6), (40, o_ic (7)), (42, o_ic_ge 132), (45, o_al 0), (46, o_il 1), (47, o_ic (1)), (48, o_isub), (49, o_ic (1)), (50, o_il 2), (51, o_isub), (52, o_il 6), (54, o_vr2 yX7_at 7 4), (57, o_as 7), (59, o_al 7), (61, o_il 3), (62, o_i2l), (63, o_lc 1), (64, o_vr2 yX9_contains 9 3), (67, o_if_eq 94), (70, o_al 0), (71, o_gR 7 1), (74, o_il 6), (76, o_i2l), (77, o_lc 1), (78, o_vv yX6_put 6 3), (81, o_al 4), (83, o_al 0), (84, o_gR 7 1), (87, o_al 0), (88, o_gR 7 1), (91, o_vv yX9_join 9 3), (94, o_il 6), (96, o_ic (6)), (98, o_ic_ge 126), (101, o_al 0), (102, o_al 4), (104, o_al 7), (106, o_al 0), (107, o_il 1), (108, o_ic (1)), (109, o_isub), (110, o_ic (1)), (111, o_il 2), (112, o_isub), (113, o_il 6), (115, o_ic (1)), (116, o_iadd), (117, o_vr2 yX7_at 7 4), (120, o_il 6), (122, o_il 3), (123, o_vv yX7_joinBetween 7 6), (126, o_inc 6 (1)), (129, o_go 38), (132, o_al 4), (134, o_gI 9 0), (137, o_if_ne 152), (140, o_al 4), (142, o_al 5), (144, o_vv yX9_meet 9 2), (147, o_al 4), (149, o_vv yX9_emptyIfCrossed 9 1), (152, o_vr)]
set_option maxRecDepth 20000 in
theorem pkX7_boundBySplits {G : zG} (hG : zGok G) (Q : zRt) : zPOK G (zRm 5) RX7 cX7_boundBySplits 8 none (zF G Q 0 0) 0 0 (zCalls G 5) Q pgX7_boundBySplits := by
  refine And.intro (k_aload_n (pc := 0) (by decide +kernel : decode cX7_boundBySplits 0 = .ok (.aload_n 0, 1)) rfl) ?_
  refine And.intro (k_iload_n (pc := 1) (by decide +kernel : decode cX7_boundBySplits 1 = .ok (.iload_n 1, 1)) rfl) ?_
  refine And.intro (k_iload_n (pc := 2) (by decide +kernel : decode cX7_boundBySplits 2 = .ok (.iload_n 2, 1)) rfl) ?_
  refine And.intro (k_iload_n (pc := 3) (by decide +kernel : decode cX7_boundBySplits 3 = .ok (.iload_n 3, 1)) rfl) ?_
  refine And.intro (k_crV (n := 3) (pc := 4) hG (zRoom_self 5) (tag := 7) rfl ini_X7 im_X7_at se_X7_at mk_X7_49 dy_X7_at (by decide +kernel : decode cX7_boundBySplits 4 = .ok (.invokevirtual 49, 3))) ?_
  refine And.intro (k_astore (pc := 7) (by decide +kernel : decode cX7_boundBySplits 7 = .ok (.astore 4, 2))) ?_
  refine And.intro (k_aload_n (pc := 9) (by decide +kernel : decode cX7_boundBySplits 9 = .ok (.aload_n 0, 1)) rfl) ?_
  refine And.intro (k_iload_n (pc := 10) (by decide +kernel : decode cX7_boundBySplits 10 = .ok (.iload_n 1, 1)) rfl) ?_
  refine And.intro (k_iconst (pc := 11) (by decide +kernel : decode cX7_boundBySplits 11 = .ok (.iconst 1, 1)) (by decide)) ?_
  refine And.intro (k_isub (pc := 12) (by decide +kernel : decode cX7_boundBySplits 12 = .ok (.isub, 1))) ?_
  refine And.intro (k_iload_n (pc := 13) (by decide +kernel : decode cX7_boundBySplits 13 = .ok (.iload_n 2, 1)) rfl) ?_
  refine And.intro (k_iload_n (pc := 14) (by decide +kernel : decode cX7_boundBySplits 14 = .ok (.iload_n 3, 1)) rfl) ?_
  refine And.intro (k_crV (n := 3) (pc := 15) hG (zRoom_self 5) (tag := 7) rfl ini_X7 im_X7_at se_X7_at mk_X7_49 dy_X7_at (by decide +kernel : decode cX7_boundBySplits 15 = .ok (.invokevirtual 49, 3))) ?_
  refine And.intro (k_astore (pc := 18) (by decide +kernel : decode cX7_boundBySplits 18 = .ok (.astore 5, 2))) ?_
  refine And.intro (k_aload (pc := 20) (by decide +kernel : decode cX7_boundBySplits 20 = .ok (.aload 4, 2))) ?_
  refine And.intro (k_iconst (pc := 22) (by decide +kernel : decode cX7_boundBySplits 22 = .ok (.iconst 1, 1)) (by decide)) ?_
  refine And.intro (k_pZ (pc := 23) rfl (by decide) rfl zin9 lk_X7_72 tyX9_ok nmX9 rfl (by decide +kernel) (by decide +kernel : decode cX7_boundBySplits 23 = .ok (.putfield 72, 3))) ?_
  refine And.intro (k_aload (pc := 26) (by decide +kernel : decode cX7_boundBySplits 26 = .ok (.aload 5, 2))) ?_
  refine And.intro (k_gZ (pc := 28) rfl (by decide) rfl zin9 lk_X7_72 (by decide +kernel : decode cX7_boundBySplits 28 = .ok (.getfield 72, 3))) ?_
  refine And.intro (k_if_eq (pc := 31) (by decide +kernel : decode cX7_boundBySplits 31 = .ok (.ifCond .eq 4, 3)) (by decide)) ?_
  refine And.intro (k_return (pc := 34) rfl (by decide +kernel : decode cX7_boundBySplits 34 = .ok (.return_, 1))) ?_
  refine And.intro (k_iconst (pc := 35) (by decide +kernel : decode cX7_boundBySplits 35 = .ok (.iconst 0, 1)) (by decide)) ?_
  refine And.intro (k_istore (pc := 36) (by decide +kernel : decode cX7_boundBySplits 36 = .ok (.istore 6, 2))) ?_
  refine And.intro (k_iload (pc := 38) (by decide +kernel : decode cX7_boundBySplits 38 = .ok (.iload 6, 2))) ?_
  refine And.intro (k_bipush (pc := 40) (by decide +kernel : decode cX7_boundBySplits 40 = .ok (.bipush 7, 2)) (by decide)) ?_
  refine And.intro (k_icmp_ge (pc := 42) (by decide +kernel : decode cX7_boundBySplits 42 = .ok (.if_icmp .ge 90, 3)) (by decide)) ?_
  refine And.intro (k_aload_n (pc := 45) (by decide +kernel : decode cX7_boundBySplits 45 = .ok (.aload_n 0, 1)) rfl) ?_
  refine And.intro (k_iload_n (pc := 46) (by decide +kernel : decode cX7_boundBySplits 46 = .ok (.iload_n 1, 1)) rfl) ?_
  refine And.intro (k_iconst (pc := 47) (by decide +kernel : decode cX7_boundBySplits 47 = .ok (.iconst 1, 1)) (by decide)) ?_
  refine And.intro (k_isub (pc := 48) (by decide +kernel : decode cX7_boundBySplits 48 = .ok (.isub, 1))) ?_
  refine And.intro (k_iconst (pc := 49) (by decide +kernel : decode cX7_boundBySplits 49 = .ok (.iconst 1, 1)) (by decide)) ?_
  refine And.intro (k_iload_n (pc := 50) (by decide +kernel : decode cX7_boundBySplits 50 = .ok (.iload_n 2, 1)) rfl) ?_
  refine And.intro (k_isub (pc := 51) (by decide +kernel : decode cX7_boundBySplits 51 = .ok (.isub, 1))) ?_
  refine And.intro (k_iload (pc := 52) (by decide +kernel : decode cX7_boundBySplits 52 = .ok (.iload 6, 2))) ?_
  refine And.intro (k_crV (n := 3) (pc := 54) hG (zRoom_self 5) (tag := 7) rfl ini_X7 im_X7_at se_X7_at mk_X7_49 dy_X7_at (by decide +kernel : decode cX7_boundBySplits 54 = .ok (.invokevirtual 49, 3))) ?_
  refine And.intro (k_astore (pc := 57) (by decide +kernel : decode cX7_boundBySplits 57 = .ok (.astore 7, 2))) ?_
  refine And.intro (k_aload (pc := 59) (by decide +kernel : decode cX7_boundBySplits 59 = .ok (.aload 7, 2))) ?_
  refine And.intro (k_iload_n (pc := 61) (by decide +kernel : decode cX7_boundBySplits 61 = .ok (.iload_n 3, 1)) rfl) ?_
  refine And.intro (k_i2l (pc := 62) (by decide +kernel : decode cX7_boundBySplits 62 = .ok (.i2l, 1))) ?_
  refine And.intro (k_lconst (pc := 63) (by decide +kernel : decode cX7_boundBySplits 63 = .ok (.lconst 1, 1)) (by decide)) ?_
  refine And.intro (k_crV (n := 2) (pc := 64) hG (zRoom_self 5) (tag := 9) rfl ini_X9 im_X9_contains se_X9_contains mk_X7_76 dy_X9_contains (by decide +kernel : decode cX7_boundBySplits 64 = .ok (.invokevirtual 76, 3))) ?_
  refine And.intro (k_if_eq (pc := 67) (by decide +kernel : decode cX7_boundBySplits 67 = .ok (.ifCond .eq 27, 3)) (by decide)) ?_
  refine And.intro (k_aload_n (pc := 70) (by decide +kernel : decode cX7_boundBySplits 70 = .ok (.aload_n 0, 1)) rfl) ?_
  refine And.intro (k_gR (pc := 71) rfl (by decide) rfl zin7 lk_X7_20 (by decide +kernel : decode cX7_boundBySplits 71 = .ok (.getfield 20, 3))) ?_
  refine And.intro (k_iload (pc := 74) (by decide +kernel : decode cX7_boundBySplits 74 = .ok (.iload 6, 2))) ?_
  refine And.intro (k_i2l (pc := 76) (by decide +kernel : decode cX7_boundBySplits 76 = .ok (.i2l, 1))) ?_
  refine And.intro (k_lconst (pc := 77) (by decide +kernel : decode cX7_boundBySplits 77 = .ok (.lconst 1, 1)) (by decide)) ?_
  refine And.intro (k_cvV (n := 2) (pc := 78) hG (zRoom_self 5) (tag := 6) rfl ini_X6 im_X6_put se_X6_put mk_X7_80 dy_X6_put (by decide +kernel : decode cX7_boundBySplits 78 = .ok (.invokevirtual 80, 3))) ?_
  refine And.intro (k_aload (pc := 81) (by decide +kernel : decode cX7_boundBySplits 81 = .ok (.aload 4, 2))) ?_
  refine And.intro (k_aload_n (pc := 83) (by decide +kernel : decode cX7_boundBySplits 83 = .ok (.aload_n 0, 1)) rfl) ?_
  refine And.intro (k_gR (pc := 84) rfl (by decide) rfl zin7 lk_X7_20 (by decide +kernel : decode cX7_boundBySplits 84 = .ok (.getfield 20, 3))) ?_
  refine And.intro (k_aload_n (pc := 87) (by decide +kernel : decode cX7_boundBySplits 87 = .ok (.aload_n 0, 1)) rfl) ?_
  refine And.intro (k_gR (pc := 88) rfl (by decide) rfl zin7 lk_X7_20 (by decide +kernel : decode cX7_boundBySplits 88 = .ok (.getfield 20, 3))) ?_
  refine And.intro (k_cvV (n := 2) (pc := 91) hG (zRoom_self 5) (tag := 9) rfl ini_X9 im_X9_join se_X9_join mk_X7_84 dy_X9_join (by decide +kernel : decode cX7_boundBySplits 91 = .ok (.invokevirtual 84, 3))) ?_
  refine And.intro (k_iload (pc := 94) (by decide +kernel : decode cX7_boundBySplits 94 = .ok (.iload 6, 2))) ?_
  refine And.intro (k_bipush (pc := 96) (by decide +kernel : decode cX7_boundBySplits 96 = .ok (.bipush 6, 2)) (by decide)) ?_
  refine And.intro (k_icmp_ge (pc := 98) (by decide +kernel : decode cX7_boundBySplits 98 = .ok (.if_icmp .ge 28, 3)) (by decide)) ?_
  refine And.intro (k_aload_n (pc := 101) (by decide +kernel : decode cX7_boundBySplits 101 = .ok (.aload_n 0, 1)) rfl) ?_
  refine And.intro (k_aload (pc := 102) (by decide +kernel : decode cX7_boundBySplits 102 = .ok (.aload 4, 2))) ?_
  refine And.intro (k_aload (pc := 104) (by decide +kernel : decode cX7_boundBySplits 104 = .ok (.aload 7, 2))) ?_
  refine And.intro (k_aload_n (pc := 106) (by decide +kernel : decode cX7_boundBySplits 106 = .ok (.aload_n 0, 1)) rfl) ?_
  refine And.intro (k_iload_n (pc := 107) (by decide +kernel : decode cX7_boundBySplits 107 = .ok (.iload_n 1, 1)) rfl) ?_
  refine And.intro (k_iconst (pc := 108) (by decide +kernel : decode cX7_boundBySplits 108 = .ok (.iconst 1, 1)) (by decide)) ?_
  refine And.intro (k_isub (pc := 109) (by decide +kernel : decode cX7_boundBySplits 109 = .ok (.isub, 1))) ?_
  refine And.intro (k_iconst (pc := 110) (by decide +kernel : decode cX7_boundBySplits 110 = .ok (.iconst 1, 1)) (by decide)) ?_
  refine And.intro (k_iload_n (pc := 111) (by decide +kernel : decode cX7_boundBySplits 111 = .ok (.iload_n 2, 1)) rfl) ?_
  refine And.intro (k_isub (pc := 112) (by decide +kernel : decode cX7_boundBySplits 112 = .ok (.isub, 1))) ?_
  refine And.intro (k_iload (pc := 113) (by decide +kernel : decode cX7_boundBySplits 113 = .ok (.iload 6, 2))) ?_
  refine And.intro (k_iconst (pc := 115) (by decide +kernel : decode cX7_boundBySplits 115 = .ok (.iconst 1, 1)) (by decide)) ?_
  refine And.intro (k_iadd (pc := 116) (by decide +kernel : decode cX7_boundBySplits 116 = .ok (.iadd, 1))) ?_
  refine And.intro (k_crV (n := 3) (pc := 117) hG (zRoom_self 5) (tag := 7) rfl ini_X7 im_X7_at se_X7_at mk_X7_49 dy_X7_at (by decide +kernel : decode cX7_boundBySplits 117 = .ok (.invokevirtual 49, 3))) ?_
  refine And.intro (k_iload (pc := 120) (by decide +kernel : decode cX7_boundBySplits 120 = .ok (.iload 6, 2))) ?_
  refine And.intro (k_iload_n (pc := 122) (by decide +kernel : decode cX7_boundBySplits 122 = .ok (.iload_n 3, 1)) rfl) ?_
  refine And.intro (k_cvV (n := 5) (pc := 123) hG (zRoom_self 5) (tag := 7) rfl ini_X7 im_X7_joinBetween se_X7_joinBetween mk_X7_88 dy_X7_joinBetween (by decide +kernel : decode cX7_boundBySplits 123 = .ok (.invokevirtual 88, 3))) ?_
  refine And.intro (k_iinc (pc := 126) (by decide +kernel : decode cX7_boundBySplits 126 = .ok (.iinc 6 1, 3)) (by decide)) ?_
  refine And.intro (k_goto (pc := 129) (by decide +kernel : decode cX7_boundBySplits 129 = .ok (.goto (-91), 3)) (by decide)) ?_
  refine And.intro (k_aload (pc := 132) (by decide +kernel : decode cX7_boundBySplits 132 = .ok (.aload 4, 2))) ?_
  refine And.intro (k_gZ (pc := 134) rfl (by decide) rfl zin9 lk_X7_72 (by decide +kernel : decode cX7_boundBySplits 134 = .ok (.getfield 72, 3))) ?_
  refine And.intro (k_if_ne (pc := 137) (by decide +kernel : decode cX7_boundBySplits 137 = .ok (.ifCond .ne 15, 3)) (by decide)) ?_
  refine And.intro (k_aload (pc := 140) (by decide +kernel : decode cX7_boundBySplits 140 = .ok (.aload 4, 2))) ?_
  refine And.intro (k_aload (pc := 142) (by decide +kernel : decode cX7_boundBySplits 142 = .ok (.aload 5, 2))) ?_
  refine And.intro (k_cvV (n := 1) (pc := 144) hG (zRoom_self 5) (tag := 9) rfl ini_X9 im_X9_meet se_X9_meet mk_X7_92 dy_X9_meet (by decide +kernel : decode cX7_boundBySplits 144 = .ok (.invokevirtual 92, 3))) ?_
  refine And.intro (k_aload (pc := 147) (by decide +kernel : decode cX7_boundBySplits 147 = .ok (.aload 4, 2))) ?_
  refine And.intro (k_cvV (n := 0) (pc := 149) hG (zRoom_self 5) (tag := 9) rfl ini_X9 im_X9_emptyIfCrossed se_X9_emptyIfCrossed mk_X7_69 dy_X9_emptyIfCrossed (by decide +kernel : decode cX7_boundBySplits 149 = .ok (.invokevirtual 69, 3))) ?_
  refine And.intro (k_return (pc := 152) rfl (by decide +kernel : decode cX7_boundBySplits 152 = .ok (.return_, 1))) ?_
  exact trivial
theorem cdX7_boundBySplits : Cond.code yX7_boundBySplits cX7_boundBySplits 8 none ∈ zWs := zWs_in 637 (by decide +kernel) rfl
noncomputable def pgX9_capBy : zPg := [(0, o_il 1), (1, o_if_le 40), (4, o_ll 2), (5, o_al 0), (6, o_gR 9 2), (9, o_gJ 6 1), (12, o_lmul), (13, o_al 0), (14, o_gR 9 2), (17, o_gJ 6 0), (20, o_il 1), (21, o_i2l), (22, o_lmul), (23, o_lc_ge 40), (27, o_al 0), (28, o_gR 9 2), (31, o_ll 2), (32, o_il 1), (33, o_i2l), (34, o_vv yX6_put 6 3), (37, o_go 95), (40, o_il 1), (41, o_if_ge 80), (44, o_ll 2), (45, o_al 0), (46, o_gR 9 1), (49, o_gJ 6 1), (52, o_lmul), (53, o_al 0), (54, o_gR 9 1), (57, o_gJ 6 0), (60, o_il 1), (61, o_i2l), (62, o_lmul), (63, o_lc_ge 80), (67, o_al 0), (68, o_gR 9 1), (71, o_ll 2), (72, o_il 1), (73, o_i2l), (74, o_vv yX6_put 6 3), (77, o_go 95), (80, o_il 1), (81, o_if_ne 95), (84, o_ll 2), (85, o_lc 0), (86, o_lc_ge 95), (90, o_al 0), (91, o_ic (1)), (92, o_pZ 9 0), (95, o_vr)]
set_option maxRecDepth 20000 in
theorem pkX9_capBy {G : zG} (hG : zGok G) (Q : zRt) : zPOK G (zRm 3) RX9 cX9_capBy 4 none (zF G Q 0 0) 0 0 (zCalls G 3) Q pgX9_capBy := by
  refine And.intro (k_iload_n (pc := 0) (by decide +kernel : decode cX9_capBy 0 = .ok (.iload_n 1, 1)) rfl) ?_
  refine And.intro (k_if_le (pc := 1) (by decide +kernel : decode cX9_capBy 1 = .ok (.ifCond .le 39, 3)) (by decide)) ?_
  refine And.intro (k_lload_n (pc := 4) (by decide +kernel : decode cX9_capBy 4 = .ok (.lload_n 2, 1)) rfl) ?_
  refine And.intro (k_aload_n (pc := 5) (by decide +kernel : decode cX9_capBy 5 = .ok (.aload_n 0, 1)) rfl) ?_
  refine And.intro (k_gR (pc := 6) rfl (by decide) rfl zin9 lk_X9_22 (by decide +kernel : decode cX9_capBy 6 = .ok (.getfield 22, 3))) ?_
  refine And.intro (k_gJ (pc := 9) rfl (by decide) rfl zin6 lk_X9_31 (by decide +kernel : decode cX9_capBy 9 = .ok (.getfield 31, 3))) ?_
  refine And.intro (k_lmul (pc := 12) (by decide +kernel : decode cX9_capBy 12 = .ok (.lmul, 1))) ?_
  refine And.intro (k_aload_n (pc := 13) (by decide +kernel : decode cX9_capBy 13 = .ok (.aload_n 0, 1)) rfl) ?_
  refine And.intro (k_gR (pc := 14) rfl (by decide) rfl zin9 lk_X9_22 (by decide +kernel : decode cX9_capBy 14 = .ok (.getfield 22, 3))) ?_
  refine And.intro (k_gJ (pc := 17) rfl (by decide) rfl zin6 lk_X9_34 (by decide +kernel : decode cX9_capBy 17 = .ok (.getfield 34, 3))) ?_
  refine And.intro (k_iload_n (pc := 20) (by decide +kernel : decode cX9_capBy 20 = .ok (.iload_n 1, 1)) rfl) ?_
  refine And.intro (k_i2l (pc := 21) (by decide +kernel : decode cX9_capBy 21 = .ok (.i2l, 1))) ?_
  refine And.intro (k_lmul (pc := 22) (by decide +kernel : decode cX9_capBy 22 = .ok (.lmul, 1))) ?_
  refine And.intro (k_lcmp_ge (pc := 23) (by decide +kernel : decode cX9_capBy 23 = .ok (.lcmp, 1)) (by decide +kernel : decode cX9_capBy 24 = .ok (.ifCond .ge 16, 3)) (by decide)) ?_
  refine And.intro (k_aload_n (pc := 27) (by decide +kernel : decode cX9_capBy 27 = .ok (.aload_n 0, 1)) rfl) ?_
  refine And.intro (k_gR (pc := 28) rfl (by decide) rfl zin9 lk_X9_22 (by decide +kernel : decode cX9_capBy 28 = .ok (.getfield 22, 3))) ?_
  refine And.intro (k_lload_n (pc := 31) (by decide +kernel : decode cX9_capBy 31 = .ok (.lload_n 2, 1)) rfl) ?_
  refine And.intro (k_iload_n (pc := 32) (by decide +kernel : decode cX9_capBy 32 = .ok (.iload_n 1, 1)) rfl) ?_
  refine And.intro (k_i2l (pc := 33) (by decide +kernel : decode cX9_capBy 33 = .ok (.i2l, 1))) ?_
  refine And.intro (k_cvV (n := 2) (pc := 34) hG (zRoom_self 3) (tag := 6) rfl ini_X6 im_X6_put se_X6_put mk_X9_25 dy_X6_put (by decide +kernel : decode cX9_capBy 34 = .ok (.invokevirtual 25, 3))) ?_
  refine And.intro (k_goto (pc := 37) (by decide +kernel : decode cX9_capBy 37 = .ok (.goto 58, 3)) (by decide)) ?_
  refine And.intro (k_iload_n (pc := 40) (by decide +kernel : decode cX9_capBy 40 = .ok (.iload_n 1, 1)) rfl) ?_
  refine And.intro (k_if_ge (pc := 41) (by decide +kernel : decode cX9_capBy 41 = .ok (.ifCond .ge 39, 3)) (by decide)) ?_
  refine And.intro (k_lload_n (pc := 44) (by decide +kernel : decode cX9_capBy 44 = .ok (.lload_n 2, 1)) rfl) ?_
  refine And.intro (k_aload_n (pc := 45) (by decide +kernel : decode cX9_capBy 45 = .ok (.aload_n 0, 1)) rfl) ?_
  refine And.intro (k_gR (pc := 46) rfl (by decide) rfl zin9 lk_X9_18 (by decide +kernel : decode cX9_capBy 46 = .ok (.getfield 18, 3))) ?_
  refine And.intro (k_gJ (pc := 49) rfl (by decide) rfl zin6 lk_X9_31 (by decide +kernel : decode cX9_capBy 49 = .ok (.getfield 31, 3))) ?_
  refine And.intro (k_lmul (pc := 52) (by decide +kernel : decode cX9_capBy 52 = .ok (.lmul, 1))) ?_
  refine And.intro (k_aload_n (pc := 53) (by decide +kernel : decode cX9_capBy 53 = .ok (.aload_n 0, 1)) rfl) ?_
  refine And.intro (k_gR (pc := 54) rfl (by decide) rfl zin9 lk_X9_18 (by decide +kernel : decode cX9_capBy 54 = .ok (.getfield 18, 3))) ?_
  refine And.intro (k_gJ (pc := 57) rfl (by decide) rfl zin6 lk_X9_34 (by decide +kernel : decode cX9_capBy 57 = .ok (.getfield 34, 3))) ?_
  refine And.intro (k_iload_n (pc := 60) (by decide +kernel : decode cX9_capBy 60 = .ok (.iload_n 1, 1)) rfl) ?_
  refine And.intro (k_i2l (pc := 61) (by decide +kernel : decode cX9_capBy 61 = .ok (.i2l, 1))) ?_
  refine And.intro (k_lmul (pc := 62) (by decide +kernel : decode cX9_capBy 62 = .ok (.lmul, 1))) ?_
  refine And.intro (k_lcmp_ge (pc := 63) (by decide +kernel : decode cX9_capBy 63 = .ok (.lcmp, 1)) (by decide +kernel : decode cX9_capBy 64 = .ok (.ifCond .ge 16, 3)) (by decide)) ?_
  refine And.intro (k_aload_n (pc := 67) (by decide +kernel : decode cX9_capBy 67 = .ok (.aload_n 0, 1)) rfl) ?_
  refine And.intro (k_gR (pc := 68) rfl (by decide) rfl zin9 lk_X9_18 (by decide +kernel : decode cX9_capBy 68 = .ok (.getfield 18, 3))) ?_
  refine And.intro (k_lload_n (pc := 71) (by decide +kernel : decode cX9_capBy 71 = .ok (.lload_n 2, 1)) rfl) ?_
  refine And.intro (k_iload_n (pc := 72) (by decide +kernel : decode cX9_capBy 72 = .ok (.iload_n 1, 1)) rfl) ?_
  refine And.intro (k_i2l (pc := 73) (by decide +kernel : decode cX9_capBy 73 = .ok (.i2l, 1))) ?_
  refine And.intro (k_cvV (n := 2) (pc := 74) hG (zRoom_self 3) (tag := 6) rfl ini_X6 im_X6_put se_X6_put mk_X9_25 dy_X6_put (by decide +kernel : decode cX9_capBy 74 = .ok (.invokevirtual 25, 3))) ?_
  refine And.intro (k_goto (pc := 77) (by decide +kernel : decode cX9_capBy 77 = .ok (.goto 18, 3)) (by decide)) ?_
  refine And.intro (k_iload_n (pc := 80) (by decide +kernel : decode cX9_capBy 80 = .ok (.iload_n 1, 1)) rfl) ?_
  refine And.intro (k_if_ne (pc := 81) (by decide +kernel : decode cX9_capBy 81 = .ok (.ifCond .ne 14, 3)) (by decide)) ?_
  refine And.intro (k_lload_n (pc := 84) (by decide +kernel : decode cX9_capBy 84 = .ok (.lload_n 2, 1)) rfl) ?_
  refine And.intro (k_lconst (pc := 85) (by decide +kernel : decode cX9_capBy 85 = .ok (.lconst 0, 1)) (by decide)) ?_
  refine And.intro (k_lcmp_ge (pc := 86) (by decide +kernel : decode cX9_capBy 86 = .ok (.lcmp, 1)) (by decide +kernel : decode cX9_capBy 87 = .ok (.ifCond .ge 8, 3)) (by decide)) ?_
  refine And.intro (k_aload_n (pc := 90) (by decide +kernel : decode cX9_capBy 90 = .ok (.aload_n 0, 1)) rfl) ?_
  refine And.intro (k_iconst (pc := 91) (by decide +kernel : decode cX9_capBy 91 = .ok (.iconst 1, 1)) (by decide)) ?_
  refine And.intro (k_pZ (pc := 92) rfl (by decide) rfl zin9 lk_X9_9 tyX9_ok nmX9 rfl (by decide +kernel) (by decide +kernel : decode cX9_capBy 92 = .ok (.putfield 9, 3))) ?_
  refine And.intro (k_return (pc := 95) rfl (by decide +kernel : decode cX9_capBy 95 = .ok (.return_, 1))) ?_
  exact trivial
theorem cdX9_capBy : Cond.code yX9_capBy cX9_capBy 4 none ∈ zWs := zWs_in 625 (by decide +kernel) rfl
noncomputable def pgX9_fill : zPg := [(0, o_al 0), (1, o_ic (0)), (2, o_pZ 9 0), (5, o_al 0), (6, o_gR 9 1), (9, o_lc 0), (10, o_lc 1), (11, o_vv yX6_put 6 3), (14, o_al 0), (15, o_gR 9 2), (18, o_lc (6)), (21, o_lc 1), (22, o_vv yX6_put 6 3), (25, o_vr)]
set_option maxRecDepth 20000 in
theorem pkX9_fill {G : zG} (hG : zGok G) (Q : zRt) : zPOK G (zRm 3) RX9 cX9_fill 1 none (zF G Q 0 0) 0 0 (zCalls G 3) Q pgX9_fill := by
  refine And.intro (k_aload_n (pc := 0) (by decide +kernel : decode cX9_fill 0 = .ok (.aload_n 0, 1)) rfl) ?_
  refine And.intro (k_iconst (pc := 1) (by decide +kernel : decode cX9_fill 1 = .ok (.iconst 0, 1)) (by decide)) ?_
  refine And.intro (k_pZ (pc := 2) rfl (by decide) rfl zin9 lk_X9_9 tyX9_ok nmX9 rfl (by decide +kernel) (by decide +kernel : decode cX9_fill 2 = .ok (.putfield 9, 3))) ?_
  refine And.intro (k_aload_n (pc := 5) (by decide +kernel : decode cX9_fill 5 = .ok (.aload_n 0, 1)) rfl) ?_
  refine And.intro (k_gR (pc := 6) rfl (by decide) rfl zin9 lk_X9_18 (by decide +kernel : decode cX9_fill 6 = .ok (.getfield 18, 3))) ?_
  refine And.intro (k_lconst (pc := 9) (by decide +kernel : decode cX9_fill 9 = .ok (.lconst 0, 1)) (by decide)) ?_
  refine And.intro (k_lconst (pc := 10) (by decide +kernel : decode cX9_fill 10 = .ok (.lconst 1, 1)) (by decide)) ?_
  refine And.intro (k_cvV (n := 2) (pc := 11) hG (zRoom_self 3) (tag := 6) rfl ini_X6 im_X6_put se_X6_put mk_X9_25 dy_X6_put (by decide +kernel : decode cX9_fill 11 = .ok (.invokevirtual 25, 3))) ?_
  refine And.intro (k_aload_n (pc := 14) (by decide +kernel : decode cX9_fill 14 = .ok (.aload_n 0, 1)) rfl) ?_
  refine And.intro (k_gR (pc := 15) rfl (by decide) rfl zin9 lk_X9_22 (by decide +kernel : decode cX9_fill 15 = .ok (.getfield 22, 3))) ?_
  refine And.intro (k_ldc2 (pc := 18) csl_X9_29 (by decide +kernel : decode cX9_fill 18 = .ok (.ldc2_w 29, 3))) ?_
  refine And.intro (k_lconst (pc := 21) (by decide +kernel : decode cX9_fill 21 = .ok (.lconst 1, 1)) (by decide)) ?_
  refine And.intro (k_cvV (n := 2) (pc := 22) hG (zRoom_self 3) (tag := 6) rfl ini_X6 im_X6_put se_X6_put mk_X9_25 dy_X6_put (by decide +kernel : decode cX9_fill 22 = .ok (.invokevirtual 25, 3))) ?_
  refine And.intro (k_return (pc := 25) rfl (by decide +kernel : decode cX9_fill 25 = .ok (.return_, 1))) ?_
  exact trivial
theorem cdX9_fill : Cond.code yX9_fill cX9_fill 1 none ∈ zWs := zWs_in 608 (by decide +kernel) rfl
noncomputable def pgX7_boundByRows : zPg := [(0, o_al 0), (1, o_ic (0)), (2, o_il 2), (3, o_il 3), (4, o_vr2 yX7_at 7 4), (7, o_as 4), (9, o_al 4), (11, o_vv yX9_fill 9 1), (14, o_ic (0)), (15, o_is 5), (17, o_il 5), (19, o_al 1), (20, o_vr2 yX5_allRows 5 1), (23, o_ic_ge 64), (26, o_al 4), (28, o_al 1), (29, o_il 5), (31, o_ic (1)), (32, o_il 2), (33, o_isub), (34, o_vr2 yX5_part 5 3), (37, o_al 1), (38, o_il 5), (40, o_ic (2)), (41, o_vr2 yX5_part 5 3), (44, o_al 1), (45, o_il 5), (47, o_il 2), (48, o_vr2 yX5_part 5 3), (51, o_il 3), (52, o_imul), (53, o_isub), (54, o_i2l), (55, o_vv yX9_capBy 9 3), (58, o_inc 5 (1)), (61, o_go 17), (64, o_al 4), (66, o_vv yX9_emptyIfCrossed 9 1), (69, o_vr)]
set_option maxRecDepth 20000 in
theorem pkX7_boundByRows {G : zG} (hG : zGok G) (Q : zRt) : zPOK G (zRm 4) RX7 cX7_boundByRows 6 none (zF G Q 0 0) 0 0 (zCalls G 4) Q pgX7_boundByRows := by
  refine And.intro (k_aload_n (pc := 0) (by decide +kernel : decode cX7_boundByRows 0 = .ok (.aload_n 0, 1)) rfl) ?_
  refine And.intro (k_iconst (pc := 1) (by decide +kernel : decode cX7_boundByRows 1 = .ok (.iconst 0, 1)) (by decide)) ?_
  refine And.intro (k_iload_n (pc := 2) (by decide +kernel : decode cX7_boundByRows 2 = .ok (.iload_n 2, 1)) rfl) ?_
  refine And.intro (k_iload_n (pc := 3) (by decide +kernel : decode cX7_boundByRows 3 = .ok (.iload_n 3, 1)) rfl) ?_
  refine And.intro (k_crV (n := 3) (pc := 4) hG (zRoom_self 4) (tag := 7) rfl ini_X7 im_X7_at se_X7_at mk_X7_49 dy_X7_at (by decide +kernel : decode cX7_boundByRows 4 = .ok (.invokevirtual 49, 3))) ?_
  refine And.intro (k_astore (pc := 7) (by decide +kernel : decode cX7_boundByRows 7 = .ok (.astore 4, 2))) ?_
  refine And.intro (k_aload (pc := 9) (by decide +kernel : decode cX7_boundByRows 9 = .ok (.aload 4, 2))) ?_
  refine And.intro (k_cvV (n := 0) (pc := 11) hG (zRoom_self 4) (tag := 9) rfl ini_X9 im_X9_fill se_X9_fill mk_X7_53 dy_X9_fill (by decide +kernel : decode cX7_boundByRows 11 = .ok (.invokevirtual 53, 3))) ?_
  refine And.intro (k_iconst (pc := 14) (by decide +kernel : decode cX7_boundByRows 14 = .ok (.iconst 0, 1)) (by decide)) ?_
  refine And.intro (k_istore (pc := 15) (by decide +kernel : decode cX7_boundByRows 15 = .ok (.istore 5, 2))) ?_
  refine And.intro (k_iload (pc := 17) (by decide +kernel : decode cX7_boundByRows 17 = .ok (.iload 5, 2))) ?_
  refine And.intro (k_aload_n (pc := 19) (by decide +kernel : decode cX7_boundByRows 19 = .ok (.aload_n 1, 1)) rfl) ?_
  refine And.intro (k_crV (n := 0) (pc := 20) hG (zRoom_self 4) (tag := 5) rfl ini_X5 im_X5_allRows se_X5_allRows mk_X7_56 dy_X5_allRows (by decide +kernel : decode cX7_boundByRows 20 = .ok (.invokevirtual 56, 3))) ?_
  refine And.intro (k_icmp_ge (pc := 23) (by decide +kernel : decode cX7_boundByRows 23 = .ok (.if_icmp .ge 41, 3)) (by decide)) ?_
  refine And.intro (k_aload (pc := 26) (by decide +kernel : decode cX7_boundByRows 26 = .ok (.aload 4, 2))) ?_
  refine And.intro (k_aload_n (pc := 28) (by decide +kernel : decode cX7_boundByRows 28 = .ok (.aload_n 1, 1)) rfl) ?_
  refine And.intro (k_iload (pc := 29) (by decide +kernel : decode cX7_boundByRows 29 = .ok (.iload 5, 2))) ?_
  refine And.intro (k_iconst (pc := 31) (by decide +kernel : decode cX7_boundByRows 31 = .ok (.iconst 1, 1)) (by decide)) ?_
  refine And.intro (k_iload_n (pc := 32) (by decide +kernel : decode cX7_boundByRows 32 = .ok (.iload_n 2, 1)) rfl) ?_
  refine And.intro (k_isub (pc := 33) (by decide +kernel : decode cX7_boundByRows 33 = .ok (.isub, 1))) ?_
  refine And.intro (k_crV (n := 2) (pc := 34) hG (zRoom_self 4) (tag := 5) rfl ini_X5 im_X5_part se_X5_part mk_X7_62 dy_X5_part (by decide +kernel : decode cX7_boundByRows 34 = .ok (.invokevirtual 62, 3))) ?_
  refine And.intro (k_aload_n (pc := 37) (by decide +kernel : decode cX7_boundByRows 37 = .ok (.aload_n 1, 1)) rfl) ?_
  refine And.intro (k_iload (pc := 38) (by decide +kernel : decode cX7_boundByRows 38 = .ok (.iload 5, 2))) ?_
  refine And.intro (k_iconst (pc := 40) (by decide +kernel : decode cX7_boundByRows 40 = .ok (.iconst 2, 1)) (by decide)) ?_
  refine And.intro (k_crV (n := 2) (pc := 41) hG (zRoom_self 4) (tag := 5) rfl ini_X5 im_X5_part se_X5_part mk_X7_62 dy_X5_part (by decide +kernel : decode cX7_boundByRows 41 = .ok (.invokevirtual 62, 3))) ?_
  refine And.intro (k_aload_n (pc := 44) (by decide +kernel : decode cX7_boundByRows 44 = .ok (.aload_n 1, 1)) rfl) ?_
  refine And.intro (k_iload (pc := 45) (by decide +kernel : decode cX7_boundByRows 45 = .ok (.iload 5, 2))) ?_
  refine And.intro (k_iload_n (pc := 47) (by decide +kernel : decode cX7_boundByRows 47 = .ok (.iload_n 2, 1)) rfl) ?_
  refine And.intro (k_crV (n := 2) (pc := 48) hG (zRoom_self 4) (tag := 5) rfl ini_X5 im_X5_part se_X5_part mk_X7_62 dy_X5_part (by decide +kernel : decode cX7_boundByRows 48 = .ok (.invokevirtual 62, 3))) ?_
  refine And.intro (k_iload_n (pc := 51) (by decide +kernel : decode cX7_boundByRows 51 = .ok (.iload_n 3, 1)) rfl) ?_
  refine And.intro (k_imul (pc := 52) (by decide +kernel : decode cX7_boundByRows 52 = .ok (.imul, 1))) ?_
  refine And.intro (k_isub (pc := 53) (by decide +kernel : decode cX7_boundByRows 53 = .ok (.isub, 1))) ?_
  refine And.intro (k_i2l (pc := 54) (by decide +kernel : decode cX7_boundByRows 54 = .ok (.i2l, 1))) ?_
  refine And.intro (k_cvV (n := 2) (pc := 55) hG (zRoom_self 4) (tag := 9) rfl ini_X9 im_X9_capBy se_X9_capBy mk_X7_65 dy_X9_capBy (by decide +kernel : decode cX7_boundByRows 55 = .ok (.invokevirtual 65, 3))) ?_
  refine And.intro (k_iinc (pc := 58) (by decide +kernel : decode cX7_boundByRows 58 = .ok (.iinc 5 1, 3)) (by decide)) ?_
  refine And.intro (k_goto (pc := 61) (by decide +kernel : decode cX7_boundByRows 61 = .ok (.goto (-44), 3)) (by decide)) ?_
  refine And.intro (k_aload (pc := 64) (by decide +kernel : decode cX7_boundByRows 64 = .ok (.aload 4, 2))) ?_
  refine And.intro (k_cvV (n := 0) (pc := 66) hG (zRoom_self 4) (tag := 9) rfl ini_X9 im_X9_emptyIfCrossed se_X9_emptyIfCrossed mk_X7_69 dy_X9_emptyIfCrossed (by decide +kernel : decode cX7_boundByRows 66 = .ok (.invokevirtual 69, 3))) ?_
  refine And.intro (k_return (pc := 69) rfl (by decide +kernel : decode cX7_boundByRows 69 = .ok (.return_, 1))) ?_
  exact trivial
theorem cdX7_boundByRows : Cond.code yX7_boundByRows cX7_boundByRows 6 none ∈ zWs := zWs_in 599 (by decide +kernel) rfl
noncomputable def pgX7_workOutFirst : zPg := [(0, o_ic (0)), (1, o_is 2), (2, o_il 2), (3, o_ic (2)), (4, o_ic_ge 34), (7, o_ic (0)), (8, o_is 3), (9, o_il 3), (10, o_ic (7)), (12, o_ic_ge 28), (15, o_al 0), (16, o_al 1), (17, o_il 2), (18, o_il 3), (19, o_vv yX7_boundByRows 7 4), (22, o_inc 3 (1)), (25, o_go 9), (28, o_inc 2 (1)), (31, o_go 2), (34, o_vr)]
set_option maxRecDepth 20000 in
theorem pkX7_workOutFirst {G : zG} (hG : zGok G) (Q : zRt) : zPOK G (zRm 5) RX7 cX7_workOutFirst 4 none (zF G Q 0 0) 0 0 (zCalls G 5) Q pgX7_workOutFirst := by
  refine And.intro (k_iconst (pc := 0) (by decide +kernel : decode cX7_workOutFirst 0 = .ok (.iconst 0, 1)) (by decide)) ?_
  refine And.intro (k_istore_n (pc := 1) (by decide +kernel : decode cX7_workOutFirst 1 = .ok (.istore_n 2, 1)) rfl) ?_
  refine And.intro (k_iload_n (pc := 2) (by decide +kernel : decode cX7_workOutFirst 2 = .ok (.iload_n 2, 1)) rfl) ?_
  refine And.intro (k_iconst (pc := 3) (by decide +kernel : decode cX7_workOutFirst 3 = .ok (.iconst 2, 1)) (by decide)) ?_
  refine And.intro (k_icmp_ge (pc := 4) (by decide +kernel : decode cX7_workOutFirst 4 = .ok (.if_icmp .ge 30, 3)) (by decide)) ?_
  refine And.intro (k_iconst (pc := 7) (by decide +kernel : decode cX7_workOutFirst 7 = .ok (.iconst 0, 1)) (by decide)) ?_
  refine And.intro (k_istore_n (pc := 8) (by decide +kernel : decode cX7_workOutFirst 8 = .ok (.istore_n 3, 1)) rfl) ?_
  refine And.intro (k_iload_n (pc := 9) (by decide +kernel : decode cX7_workOutFirst 9 = .ok (.iload_n 3, 1)) rfl) ?_
  refine And.intro (k_bipush (pc := 10) (by decide +kernel : decode cX7_workOutFirst 10 = .ok (.bipush 7, 2)) (by decide)) ?_
  refine And.intro (k_icmp_ge (pc := 12) (by decide +kernel : decode cX7_workOutFirst 12 = .ok (.if_icmp .ge 16, 3)) (by decide)) ?_
  refine And.intro (k_aload_n (pc := 15) (by decide +kernel : decode cX7_workOutFirst 15 = .ok (.aload_n 0, 1)) rfl) ?_
  refine And.intro (k_aload_n (pc := 16) (by decide +kernel : decode cX7_workOutFirst 16 = .ok (.aload_n 1, 1)) rfl) ?_
  refine And.intro (k_iload_n (pc := 17) (by decide +kernel : decode cX7_workOutFirst 17 = .ok (.iload_n 2, 1)) rfl) ?_
  refine And.intro (k_iload_n (pc := 18) (by decide +kernel : decode cX7_workOutFirst 18 = .ok (.iload_n 3, 1)) rfl) ?_
  refine And.intro (k_cvV (n := 3) (pc := 19) hG (zRoom_self 5) (tag := 7) rfl ini_X7 im_X7_boundByRows se_X7_boundByRows mk_X7_45 dy_X7_boundByRows (by decide +kernel : decode cX7_workOutFirst 19 = .ok (.invokevirtual 45, 3))) ?_
  refine And.intro (k_iinc (pc := 22) (by decide +kernel : decode cX7_workOutFirst 22 = .ok (.iinc 3 1, 3)) (by decide)) ?_
  refine And.intro (k_goto (pc := 25) (by decide +kernel : decode cX7_workOutFirst 25 = .ok (.goto (-16), 3)) (by decide)) ?_
  refine And.intro (k_iinc (pc := 28) (by decide +kernel : decode cX7_workOutFirst 28 = .ok (.iinc 2 1, 3)) (by decide)) ?_
  refine And.intro (k_goto (pc := 31) (by decide +kernel : decode cX7_workOutFirst 31 = .ok (.goto (-29), 3)) (by decide)) ?_
  refine And.intro (k_return (pc := 34) rfl (by decide +kernel : decode cX7_workOutFirst 34 = .ok (.return_, 1))) ?_
  exact trivial
theorem cdX7_workOutFirst : Cond.code yX7_workOutFirst cX7_workOutFirst 4 none ∈ zWs := zWs_in 595 (by decide +kernel) rfl
noncomputable def pgX7_workOut : zPg := [(0, o_al 0), (1, o_al 1), (2, o_vv yX7_workOutFirst 7 2), (5, o_ic (1)), (6, o_is 3), (7, o_il 3), (8, o_il 2), (9, o_ic_gt 63), (12, o_il 3), (13, o_ic (3)), (14, o_ic_ge 63), (17, o_ic (0)), (18, o_is 4), (20, o_il 4), (22, o_ic (2)), (23, o_ic_ge 57), (26, o_ic (0)), (27, o_is 5), (29, o_il 5), (31, o_ic (7)), (33, o_ic_ge 51), (36, o_al 0), (37, o_il 3), (38, o_il 4), (40, o_il 5), (42, o_vv yX7_boundBySplits 7 4), (45, o_inc 5 (1)), (48, o_go 29), (51, o_inc 4 (1)), (54, o_go 20), (57, o_inc 3 (1)), (60, o_go 7), (63, o_vr)]
set_option maxRecDepth 20000 in
theorem pkX7_workOut {G : zG} (hG : zGok G) (Q : zRt) : zPOK G (zRm 6) RX7 cX7_workOut 6 none (zF G Q 0 0) 0 0 (zCalls G 6) Q pgX7_workOut := by
  refine And.intro (k_aload_n (pc := 0) (by decide +kernel : decode cX7_workOut 0 = .ok (.aload_n 0, 1)) rfl) ?_
  refine And.intro (k_aload_n (pc := 1) (by decide +kernel : decode cX7_workOut 1 = .ok (.aload_n 1, 1)) rfl) ?_
  refine And.intro (k_cvV (n := 1) (pc := 2) hG (zRoom_self 6) (tag := 7) rfl ini_X7 im_X7_workOutFirst se_X7_workOutFirst mk_X7_37 dy_X7_workOutFirst (by decide +kernel : decode cX7_workOut 2 = .ok (.invokevirtual 37, 3))) ?_
  refine And.intro (k_iconst (pc := 5) (by decide +kernel : decode cX7_workOut 5 = .ok (.iconst 1, 1)) (by decide)) ?_
  refine And.intro (k_istore_n (pc := 6) (by decide +kernel : decode cX7_workOut 6 = .ok (.istore_n 3, 1)) rfl) ?_
  refine And.intro (k_iload_n (pc := 7) (by decide +kernel : decode cX7_workOut 7 = .ok (.iload_n 3, 1)) rfl) ?_
  refine And.intro (k_iload_n (pc := 8) (by decide +kernel : decode cX7_workOut 8 = .ok (.iload_n 2, 1)) rfl) ?_
  refine And.intro (k_icmp_gt (pc := 9) (by decide +kernel : decode cX7_workOut 9 = .ok (.if_icmp .gt 54, 3)) (by decide)) ?_
  refine And.intro (k_iload_n (pc := 12) (by decide +kernel : decode cX7_workOut 12 = .ok (.iload_n 3, 1)) rfl) ?_
  refine And.intro (k_iconst (pc := 13) (by decide +kernel : decode cX7_workOut 13 = .ok (.iconst 3, 1)) (by decide)) ?_
  refine And.intro (k_icmp_ge (pc := 14) (by decide +kernel : decode cX7_workOut 14 = .ok (.if_icmp .ge 49, 3)) (by decide)) ?_
  refine And.intro (k_iconst (pc := 17) (by decide +kernel : decode cX7_workOut 17 = .ok (.iconst 0, 1)) (by decide)) ?_
  refine And.intro (k_istore (pc := 18) (by decide +kernel : decode cX7_workOut 18 = .ok (.istore 4, 2))) ?_
  refine And.intro (k_iload (pc := 20) (by decide +kernel : decode cX7_workOut 20 = .ok (.iload 4, 2))) ?_
  refine And.intro (k_iconst (pc := 22) (by decide +kernel : decode cX7_workOut 22 = .ok (.iconst 2, 1)) (by decide)) ?_
  refine And.intro (k_icmp_ge (pc := 23) (by decide +kernel : decode cX7_workOut 23 = .ok (.if_icmp .ge 34, 3)) (by decide)) ?_
  refine And.intro (k_iconst (pc := 26) (by decide +kernel : decode cX7_workOut 26 = .ok (.iconst 0, 1)) (by decide)) ?_
  refine And.intro (k_istore (pc := 27) (by decide +kernel : decode cX7_workOut 27 = .ok (.istore 5, 2))) ?_
  refine And.intro (k_iload (pc := 29) (by decide +kernel : decode cX7_workOut 29 = .ok (.iload 5, 2))) ?_
  refine And.intro (k_bipush (pc := 31) (by decide +kernel : decode cX7_workOut 31 = .ok (.bipush 7, 2)) (by decide)) ?_
  refine And.intro (k_icmp_ge (pc := 33) (by decide +kernel : decode cX7_workOut 33 = .ok (.if_icmp .ge 18, 3)) (by decide)) ?_
  refine And.intro (k_aload_n (pc := 36) (by decide +kernel : decode cX7_workOut 36 = .ok (.aload_n 0, 1)) rfl) ?_
  refine And.intro (k_iload_n (pc := 37) (by decide +kernel : decode cX7_workOut 37 = .ok (.iload_n 3, 1)) rfl) ?_
  refine And.intro (k_iload (pc := 38) (by decide +kernel : decode cX7_workOut 38 = .ok (.iload 4, 2))) ?_
  refine And.intro (k_iload (pc := 40) (by decide +kernel : decode cX7_workOut 40 = .ok (.iload 5, 2))) ?_
  refine And.intro (k_cvV (n := 3) (pc := 42) hG (zRoom_self 6) (tag := 7) rfl ini_X7 im_X7_boundBySplits se_X7_boundBySplits mk_X7_41 dy_X7_boundBySplits (by decide +kernel : decode cX7_workOut 42 = .ok (.invokevirtual 41, 3))) ?_
  refine And.intro (k_iinc (pc := 45) (by decide +kernel : decode cX7_workOut 45 = .ok (.iinc 5 1, 3)) (by decide)) ?_
  refine And.intro (k_goto (pc := 48) (by decide +kernel : decode cX7_workOut 48 = .ok (.goto (-19), 3)) (by decide)) ?_
  refine And.intro (k_iinc (pc := 51) (by decide +kernel : decode cX7_workOut 51 = .ok (.iinc 4 1, 3)) (by decide)) ?_
  refine And.intro (k_goto (pc := 54) (by decide +kernel : decode cX7_workOut 54 = .ok (.goto (-34), 3)) (by decide)) ?_
  refine And.intro (k_iinc (pc := 57) (by decide +kernel : decode cX7_workOut 57 = .ok (.iinc 3 1, 3)) (by decide)) ?_
  refine And.intro (k_goto (pc := 60) (by decide +kernel : decode cX7_workOut 60 = .ok (.goto (-53), 3)) (by decide)) ?_
  refine And.intro (k_return (pc := 63) rfl (by decide +kernel : decode cX7_workOut 63 = .ok (.return_, 1))) ?_
  exact trivial
theorem cdX7_workOut : Cond.code yX7_workOut cX7_workOut 6 none ∈ zWs := zWs_in 591 (by decide +kernel) rfl
noncomputable def pgX7_aboveLine : zPg := [(0, o_al 0), (1, o_gJ 6 0), (4, o_al 1), (5, o_gJ 6 1), (8, o_lmul), (9, o_il 4), (11, o_il 2), (12, o_isub), (13, o_i2l), (14, o_lmul), (15, o_al 1), (16, o_gJ 6 0), (19, o_al 0), (20, o_gJ 6 1), (23, o_lmul), (24, o_il 2), (25, o_i2l), (26, o_lmul), (27, o_ladd), (28, o_ls 5), (30, o_il 3), (31, o_i2l), (32, o_al 0), (33, o_gJ 6 1), (36, o_lmul), (37, o_al 1), (38, o_gJ 6 1), (41, o_lmul), (42, o_ll 5), (44, o_cr yJ13_compare_74951 2), (47, o_ir)]
set_option maxRecDepth 20000 in
theorem pkX7_aboveLine {G : zG} (hG : zGok G) (Q : zRt) : zPOK G (zRm 1) RX7 cX7_aboveLine 7 (some .int) (zF G Q 0 0) 0 0 (zCalls G 1) Q pgX7_aboveLine := by
  refine And.intro (k_aload_n (pc := 0) (by decide +kernel : decode cX7_aboveLine 0 = .ok (.aload_n 0, 1)) rfl) ?_
  refine And.intro (k_gJ (pc := 1) rfl (by decide) rfl zin6 lk_X7_110 (by decide +kernel : decode cX7_aboveLine 1 = .ok (.getfield 110, 3))) ?_
  refine And.intro (k_aload_n (pc := 4) (by decide +kernel : decode cX7_aboveLine 4 = .ok (.aload_n 1, 1)) rfl) ?_
  refine And.intro (k_gJ (pc := 5) rfl (by decide) rfl zin6 lk_X7_114 (by decide +kernel : decode cX7_aboveLine 5 = .ok (.getfield 114, 3))) ?_
  refine And.intro (k_lmul (pc := 8) (by decide +kernel : decode cX7_aboveLine 8 = .ok (.lmul, 1))) ?_
  refine And.intro (k_iload (pc := 9) (by decide +kernel : decode cX7_aboveLine 9 = .ok (.iload 4, 2))) ?_
  refine And.intro (k_iload_n (pc := 11) (by decide +kernel : decode cX7_aboveLine 11 = .ok (.iload_n 2, 1)) rfl) ?_
  refine And.intro (k_isub (pc := 12) (by decide +kernel : decode cX7_aboveLine 12 = .ok (.isub, 1))) ?_
  refine And.intro (k_i2l (pc := 13) (by decide +kernel : decode cX7_aboveLine 13 = .ok (.i2l, 1))) ?_
  refine And.intro (k_lmul (pc := 14) (by decide +kernel : decode cX7_aboveLine 14 = .ok (.lmul, 1))) ?_
  refine And.intro (k_aload_n (pc := 15) (by decide +kernel : decode cX7_aboveLine 15 = .ok (.aload_n 1, 1)) rfl) ?_
  refine And.intro (k_gJ (pc := 16) rfl (by decide) rfl zin6 lk_X7_110 (by decide +kernel : decode cX7_aboveLine 16 = .ok (.getfield 110, 3))) ?_
  refine And.intro (k_aload_n (pc := 19) (by decide +kernel : decode cX7_aboveLine 19 = .ok (.aload_n 0, 1)) rfl) ?_
  refine And.intro (k_gJ (pc := 20) rfl (by decide) rfl zin6 lk_X7_114 (by decide +kernel : decode cX7_aboveLine 20 = .ok (.getfield 114, 3))) ?_
  refine And.intro (k_lmul (pc := 23) (by decide +kernel : decode cX7_aboveLine 23 = .ok (.lmul, 1))) ?_
  refine And.intro (k_iload_n (pc := 24) (by decide +kernel : decode cX7_aboveLine 24 = .ok (.iload_n 2, 1)) rfl) ?_
  refine And.intro (k_i2l (pc := 25) (by decide +kernel : decode cX7_aboveLine 25 = .ok (.i2l, 1))) ?_
  refine And.intro (k_lmul (pc := 26) (by decide +kernel : decode cX7_aboveLine 26 = .ok (.lmul, 1))) ?_
  refine And.intro (k_ladd (pc := 27) (by decide +kernel : decode cX7_aboveLine 27 = .ok (.ladd, 1))) ?_
  refine And.intro (k_lstore (pc := 28) (by decide +kernel : decode cX7_aboveLine 28 = .ok (.lstore 5, 2))) ?_
  refine And.intro (k_iload_n (pc := 30) (by decide +kernel : decode cX7_aboveLine 30 = .ok (.iload_n 3, 1)) rfl) ?_
  refine And.intro (k_i2l (pc := 31) (by decide +kernel : decode cX7_aboveLine 31 = .ok (.i2l, 1))) ?_
  refine And.intro (k_aload_n (pc := 32) (by decide +kernel : decode cX7_aboveLine 32 = .ok (.aload_n 0, 1)) rfl) ?_
  refine And.intro (k_gJ (pc := 33) rfl (by decide) rfl zin6 lk_X7_114 (by decide +kernel : decode cX7_aboveLine 33 = .ok (.getfield 114, 3))) ?_
  refine And.intro (k_lmul (pc := 36) (by decide +kernel : decode cX7_aboveLine 36 = .ok (.lmul, 1))) ?_
  refine And.intro (k_aload_n (pc := 37) (by decide +kernel : decode cX7_aboveLine 37 = .ok (.aload_n 1, 1)) rfl) ?_
  refine And.intro (k_gJ (pc := 38) rfl (by decide) rfl zin6 lk_X7_114 (by decide +kernel : decode cX7_aboveLine 38 = .ok (.getfield 114, 3))) ?_
  refine And.intro (k_lmul (pc := 41) (by decide +kernel : decode cX7_aboveLine 41 = .ok (.lmul, 1))) ?_
  refine And.intro (k_lload (pc := 42) (by decide +kernel : decode cX7_aboveLine 42 = .ok (.lload 5, 2))) ?_
  refine And.intro (k_crS (n := 2) (pc := 44) hG (zRoom_self 1) ini_J13 sta_J13_compare_74951 mk_X7_132 dy_J13_compare_74951 (by decide +kernel : decode cX7_aboveLine 44 = .ok (.invokestatic 132, 3))) ?_
  refine And.intro (k_ireturn (pc := 47) rfl (by decide +kernel : decode cX7_aboveLine 47 = .ok (.ireturn, 1))) ?_
  exact trivial
theorem cdX7_aboveLine : Cond.code yX7_aboveLine cX7_aboveLine 7 (some .int) ∈ zWs := zWs_in 699 (by decide +kernel) rfl
noncomputable def pgX7_passes : zPg := [(0, o_il 5), (2, o_ic (1)), (3, o_ic_ge 8), (6, o_ic (0)), (7, o_zr), (8, o_il 2), (9, o_if_ne 16), (12, o_il 3), (13, o_go 18), (16, o_il 4), (18, o_is 6), (20, o_il 2), (21, o_if_ne 29), (24, o_il 4), (26, o_go 30), (29, o_il 3), (30, o_is 7), (32, o_il 6), (34, o_il 5), (36, o_idiv), (37, o_is 8), (39, o_il 6), (41, o_il 5), (43, o_irem), (44, o_is 9), (46, o_al 0), (47, o_il 1), (48, o_il 2), (49, o_il 8), (51, o_vr2 yX7_at 7 4), (54, o_as 10), (56, o_il 9), (58, o_if_ne 73), (61, o_al 10), (63, o_il 7), (65, o_i2l), (66, o_il 5), (68, o_i2l), (69, o_vr2 yX9_contains 9 3), (72, o_zr), (73, o_al 0), (74, o_il 1), (75, o_il 2), (76, o_il 8), (78, o_ic (1)), (79, o_iadd), (80, o_vr2 yX7_at 7 4), (83, o_as 11), (85, o_al 10), (87, o_gI 9 0), (90, o_if_ne 149), (93, o_al 11), (95, o_gI 9 0), (98, o_if_ne 149), (101, o_al 10), (103, o_gR 9 1), (106, o_al 11), (108, o_gR 9 1), (111, o_il 9), (113, o_il 7), (115, o_il 5), (117, o_cr yX7_aboveLine 5), (120, o_if_lt 149), (123, o_al 10), (125, o_gR 9 2), (128, o_al 11), (130, o_gR 9 2), (133, o_il 9), (135, o_il 7), (137, o_il 5), (139, o_cr yX7_aboveLine 5), (142, o_if_gt 149), (145, o_ic (1)), (146, o_go 150), (149, o_ic (0)), (150, o_zr)]
set_option maxRecDepth 20000 in
theorem pkX7_passes {G : zG} (hG : zGok G) (Q : zRt) : zPOK G (zRm 2) RX7 cX7_passes 12 (some .boolean) (zF G Q 0 0) 0 0 (zCalls G 2) Q pgX7_passes := by
  refine And.intro (k_iload (pc := 0) (by decide +kernel : decode cX7_passes 0 = .ok (.iload 5, 2))) ?_
  refine And.intro (k_iconst (pc := 2) (by decide +kernel : decode cX7_passes 2 = .ok (.iconst 1, 1)) (by decide)) ?_
  refine And.intro (k_icmp_ge (pc := 3) (by decide +kernel : decode cX7_passes 3 = .ok (.if_icmp .ge 5, 3)) (by decide)) ?_
  refine And.intro (k_iconst (pc := 6) (by decide +kernel : decode cX7_passes 6 = .ok (.iconst 0, 1)) (by decide)) ?_
  refine And.intro (k_zreturn (pc := 7) rfl (by decide +kernel : decode cX7_passes 7 = .ok (.ireturn, 1))) ?_
  refine And.intro (k_iload_n (pc := 8) (by decide +kernel : decode cX7_passes 8 = .ok (.iload_n 2, 1)) rfl) ?_
  refine And.intro (k_if_ne (pc := 9) (by decide +kernel : decode cX7_passes 9 = .ok (.ifCond .ne 7, 3)) (by decide)) ?_
  refine And.intro (k_iload_n (pc := 12) (by decide +kernel : decode cX7_passes 12 = .ok (.iload_n 3, 1)) rfl) ?_
  refine And.intro (k_goto (pc := 13) (by decide +kernel : decode cX7_passes 13 = .ok (.goto 5, 3)) (by decide)) ?_
  refine And.intro (k_iload (pc := 16) (by decide +kernel : decode cX7_passes 16 = .ok (.iload 4, 2))) ?_
  refine And.intro (k_istore (pc := 18) (by decide +kernel : decode cX7_passes 18 = .ok (.istore 6, 2))) ?_
  refine And.intro (k_iload_n (pc := 20) (by decide +kernel : decode cX7_passes 20 = .ok (.iload_n 2, 1)) rfl) ?_
  refine And.intro (k_if_ne (pc := 21) (by decide +kernel : decode cX7_passes 21 = .ok (.ifCond .ne 8, 3)) (by decide)) ?_
  refine And.intro (k_iload (pc := 24) (by decide +kernel : decode cX7_passes 24 = .ok (.iload 4, 2))) ?_
  refine And.intro (k_goto (pc := 26) (by decide +kernel : decode cX7_passes 26 = .ok (.goto 4, 3)) (by decide)) ?_
  refine And.intro (k_iload_n (pc := 29) (by decide +kernel : decode cX7_passes 29 = .ok (.iload_n 3, 1)) rfl) ?_
  refine And.intro (k_istore (pc := 30) (by decide +kernel : decode cX7_passes 30 = .ok (.istore 7, 2))) ?_
  refine And.intro (k_iload (pc := 32) (by decide +kernel : decode cX7_passes 32 = .ok (.iload 6, 2))) ?_
  refine And.intro (k_iload (pc := 34) (by decide +kernel : decode cX7_passes 34 = .ok (.iload 5, 2))) ?_
  refine And.intro (k_idiv (pc := 36) (by decide +kernel : decode cX7_passes 36 = .ok (.idiv, 1))) ?_
  refine And.intro (k_istore (pc := 37) (by decide +kernel : decode cX7_passes 37 = .ok (.istore 8, 2))) ?_
  refine And.intro (k_iload (pc := 39) (by decide +kernel : decode cX7_passes 39 = .ok (.iload 6, 2))) ?_
  refine And.intro (k_iload (pc := 41) (by decide +kernel : decode cX7_passes 41 = .ok (.iload 5, 2))) ?_
  refine And.intro (k_irem (pc := 43) (by decide +kernel : decode cX7_passes 43 = .ok (.irem, 1))) ?_
  refine And.intro (k_istore (pc := 44) (by decide +kernel : decode cX7_passes 44 = .ok (.istore 9, 2))) ?_
  refine And.intro (k_aload_n (pc := 46) (by decide +kernel : decode cX7_passes 46 = .ok (.aload_n 0, 1)) rfl) ?_
  refine And.intro (k_iload_n (pc := 47) (by decide +kernel : decode cX7_passes 47 = .ok (.iload_n 1, 1)) rfl) ?_
  refine And.intro (k_iload_n (pc := 48) (by decide +kernel : decode cX7_passes 48 = .ok (.iload_n 2, 1)) rfl) ?_
  refine And.intro (k_iload (pc := 49) (by decide +kernel : decode cX7_passes 49 = .ok (.iload 8, 2))) ?_
  refine And.intro (k_crV (n := 3) (pc := 51) hG (zRoom_self 2) (tag := 7) rfl ini_X7 im_X7_at se_X7_at mk_X7_49 dy_X7_at (by decide +kernel : decode cX7_passes 51 = .ok (.invokevirtual 49, 3))) ?_
  refine And.intro (k_astore (pc := 54) (by decide +kernel : decode cX7_passes 54 = .ok (.astore 10, 2))) ?_
  refine And.intro (k_iload (pc := 56) (by decide +kernel : decode cX7_passes 56 = .ok (.iload 9, 2))) ?_
  refine And.intro (k_if_ne (pc := 58) (by decide +kernel : decode cX7_passes 58 = .ok (.ifCond .ne 15, 3)) (by decide)) ?_
  refine And.intro (k_aload (pc := 61) (by decide +kernel : decode cX7_passes 61 = .ok (.aload 10, 2))) ?_
  refine And.intro (k_iload (pc := 63) (by decide +kernel : decode cX7_passes 63 = .ok (.iload 7, 2))) ?_
  refine And.intro (k_i2l (pc := 65) (by decide +kernel : decode cX7_passes 65 = .ok (.i2l, 1))) ?_
  refine And.intro (k_iload (pc := 66) (by decide +kernel : decode cX7_passes 66 = .ok (.iload 5, 2))) ?_
  refine And.intro (k_i2l (pc := 68) (by decide +kernel : decode cX7_passes 68 = .ok (.i2l, 1))) ?_
  refine And.intro (k_crV (n := 2) (pc := 69) hG (zRoom_self 2) (tag := 9) rfl ini_X9 im_X9_contains se_X9_contains mk_X7_76 dy_X9_contains (by decide +kernel : decode cX7_passes 69 = .ok (.invokevirtual 76, 3))) ?_
  refine And.intro (k_zreturn (pc := 72) rfl (by decide +kernel : decode cX7_passes 72 = .ok (.ireturn, 1))) ?_
  refine And.intro (k_aload_n (pc := 73) (by decide +kernel : decode cX7_passes 73 = .ok (.aload_n 0, 1)) rfl) ?_
  refine And.intro (k_iload_n (pc := 74) (by decide +kernel : decode cX7_passes 74 = .ok (.iload_n 1, 1)) rfl) ?_
  refine And.intro (k_iload_n (pc := 75) (by decide +kernel : decode cX7_passes 75 = .ok (.iload_n 2, 1)) rfl) ?_
  refine And.intro (k_iload (pc := 76) (by decide +kernel : decode cX7_passes 76 = .ok (.iload 8, 2))) ?_
  refine And.intro (k_iconst (pc := 78) (by decide +kernel : decode cX7_passes 78 = .ok (.iconst 1, 1)) (by decide)) ?_
  refine And.intro (k_iadd (pc := 79) (by decide +kernel : decode cX7_passes 79 = .ok (.iadd, 1))) ?_
  refine And.intro (k_crV (n := 3) (pc := 80) hG (zRoom_self 2) (tag := 7) rfl ini_X7 im_X7_at se_X7_at mk_X7_49 dy_X7_at (by decide +kernel : decode cX7_passes 80 = .ok (.invokevirtual 49, 3))) ?_
  refine And.intro (k_astore (pc := 83) (by decide +kernel : decode cX7_passes 83 = .ok (.astore 11, 2))) ?_
  refine And.intro (k_aload (pc := 85) (by decide +kernel : decode cX7_passes 85 = .ok (.aload 10, 2))) ?_
  refine And.intro (k_gZ (pc := 87) rfl (by decide) rfl zin9 lk_X7_72 (by decide +kernel : decode cX7_passes 87 = .ok (.getfield 72, 3))) ?_
  refine And.intro (k_if_ne (pc := 90) (by decide +kernel : decode cX7_passes 90 = .ok (.ifCond .ne 59, 3)) (by decide)) ?_
  refine And.intro (k_aload (pc := 93) (by decide +kernel : decode cX7_passes 93 = .ok (.aload 11, 2))) ?_
  refine And.intro (k_gZ (pc := 95) rfl (by decide) rfl zin9 lk_X7_72 (by decide +kernel : decode cX7_passes 95 = .ok (.getfield 72, 3))) ?_
  refine And.intro (k_if_ne (pc := 98) (by decide +kernel : decode cX7_passes 98 = .ok (.ifCond .ne 51, 3)) (by decide)) ?_
  refine And.intro (k_aload (pc := 101) (by decide +kernel : decode cX7_passes 101 = .ok (.aload 10, 2))) ?_
  refine And.intro (k_gR (pc := 103) rfl (by decide) rfl zin9 lk_X7_96 (by decide +kernel : decode cX7_passes 103 = .ok (.getfield 96, 3))) ?_
  refine And.intro (k_aload (pc := 106) (by decide +kernel : decode cX7_passes 106 = .ok (.aload 11, 2))) ?_
  refine And.intro (k_gR (pc := 108) rfl (by decide) rfl zin9 lk_X7_96 (by decide +kernel : decode cX7_passes 108 = .ok (.getfield 96, 3))) ?_
  refine And.intro (k_iload (pc := 111) (by decide +kernel : decode cX7_passes 111 = .ok (.iload 9, 2))) ?_
  refine And.intro (k_iload (pc := 113) (by decide +kernel : decode cX7_passes 113 = .ok (.iload 7, 2))) ?_
  refine And.intro (k_iload (pc := 115) (by decide +kernel : decode cX7_passes 115 = .ok (.iload 5, 2))) ?_
  refine And.intro (k_crS (n := 5) (pc := 117) hG (zRoom_self 2) ini_X7 sta_X7_aboveLine mk_X7_128 dy_X7_aboveLine (by decide +kernel : decode cX7_passes 117 = .ok (.invokestatic 128, 3))) ?_
  refine And.intro (k_if_lt (pc := 120) (by decide +kernel : decode cX7_passes 120 = .ok (.ifCond .lt 29, 3)) (by decide)) ?_
  refine And.intro (k_aload (pc := 123) (by decide +kernel : decode cX7_passes 123 = .ok (.aload 10, 2))) ?_
  refine And.intro (k_gR (pc := 125) rfl (by decide) rfl zin9 lk_X7_103 (by decide +kernel : decode cX7_passes 125 = .ok (.getfield 103, 3))) ?_
  refine And.intro (k_aload (pc := 128) (by decide +kernel : decode cX7_passes 128 = .ok (.aload 11, 2))) ?_
  refine And.intro (k_gR (pc := 130) rfl (by decide) rfl zin9 lk_X7_103 (by decide +kernel : decode cX7_passes 130 = .ok (.getfield 103, 3))) ?_
  refine And.intro (k_iload (pc := 133) (by decide +kernel : decode cX7_passes 133 = .ok (.iload 9, 2))) ?_
  refine And.intro (k_iload (pc := 135) (by decide +kernel : decode cX7_passes 135 = .ok (.iload 7, 2))) ?_
  refine And.intro (k_iload (pc := 137) (by decide +kernel : decode cX7_passes 137 = .ok (.iload 5, 2))) ?_
  refine And.intro (k_crS (n := 5) (pc := 139) hG (zRoom_self 2) ini_X7 sta_X7_aboveLine mk_X7_128 dy_X7_aboveLine (by decide +kernel : decode cX7_passes 139 = .ok (.invokestatic 128, 3))) ?_
  refine And.intro (k_if_gt (pc := 142) (by decide +kernel : decode cX7_passes 142 = .ok (.ifCond .gt 7, 3)) (by decide)) ?_
  refine And.intro (k_iconst (pc := 145) (by decide +kernel : decode cX7_passes 145 = .ok (.iconst 1, 1)) (by decide)) ?_
  refine And.intro (k_goto (pc := 146) (by decide +kernel : decode cX7_passes 146 = .ok (.goto 4, 3)) (by decide)) ?_
  refine And.intro (k_iconst (pc := 149) (by decide +kernel : decode cX7_passes 149 = .ok (.iconst 0, 1)) (by decide)) ?_
  refine And.intro (k_zreturn (pc := 150) rfl (by decide +kernel : decode cX7_passes 150 = .ok (.ireturn, 1))) ?_
  exact trivial
theorem cdX7_passes : Cond.code yX7_passes cX7_passes 12 (some .boolean) ∈ zWs := zWs_in 696 (by decide +kernel) rfl
noncomputable def pgX7_contain : zPg := [(0, o_il 2), (1, o_if_ne 15), (4, o_al 1), (5, o_il 3), (6, o_il 4), (8, o_il 5), (10, o_ic (-1)), (11, o_vr2 yX5_holds 5 5), (14, o_zr), (15, o_al 0), (16, o_il 2), (17, o_ic (1)), (18, o_isub), (19, o_ic (0)), (20, o_il 3), (21, o_il 4), (23, o_il 5), (25, o_vr2 yX7_passes 7 6), (28, o_if_eq 51), (31, o_al 0), (32, o_il 2), (33, o_ic (1)), (34, o_isub), (35, o_ic (1)), (36, o_il 3), (37, o_il 4), (39, o_il 5), (41, o_vr2 yX7_passes 7 6), (44, o_if_eq 51), (47, o_ic (1)), (48, o_go 52), (51, o_ic (0)), (52, o_zr)]
set_option maxRecDepth 20000 in
theorem pkX7_contain {G : zG} (hG : zGok G) (Q : zRt) : zPOK G (zRm 3) RX7 cX7_contain 6 (some .boolean) (zF G Q 0 0) 0 0 (zCalls G 3) Q pgX7_contain := by
  refine And.intro (k_iload_n (pc := 0) (by decide +kernel : decode cX7_contain 0 = .ok (.iload_n 2, 1)) rfl) ?_
  refine And.intro (k_if_ne (pc := 1) (by decide +kernel : decode cX7_contain 1 = .ok (.ifCond .ne 14, 3)) (by decide)) ?_
  refine And.intro (k_aload_n (pc := 4) (by decide +kernel : decode cX7_contain 4 = .ok (.aload_n 1, 1)) rfl) ?_
  refine And.intro (k_iload_n (pc := 5) (by decide +kernel : decode cX7_contain 5 = .ok (.iload_n 3, 1)) rfl) ?_
  refine And.intro (k_iload (pc := 6) (by decide +kernel : decode cX7_contain 6 = .ok (.iload 4, 2))) ?_
  refine And.intro (k_iload (pc := 8) (by decide +kernel : decode cX7_contain 8 = .ok (.iload 5, 2))) ?_
  refine And.intro (k_iconst (pc := 10) (by decide +kernel : decode cX7_contain 10 = .ok (.iconst (-1), 1)) (by decide)) ?_
  refine And.intro (k_crV (n := 4) (pc := 11) hG (zRoom_self 3) (tag := 5) rfl ini_X5 im_X5_holds se_X5_holds mk_X7_120 dy_X5_holds (by decide +kernel : decode cX7_contain 11 = .ok (.invokevirtual 120, 3))) ?_
  refine And.intro (k_zreturn (pc := 14) rfl (by decide +kernel : decode cX7_contain 14 = .ok (.ireturn, 1))) ?_
  refine And.intro (k_aload_n (pc := 15) (by decide +kernel : decode cX7_contain 15 = .ok (.aload_n 0, 1)) rfl) ?_
  refine And.intro (k_iload_n (pc := 16) (by decide +kernel : decode cX7_contain 16 = .ok (.iload_n 2, 1)) rfl) ?_
  refine And.intro (k_iconst (pc := 17) (by decide +kernel : decode cX7_contain 17 = .ok (.iconst 1, 1)) (by decide)) ?_
  refine And.intro (k_isub (pc := 18) (by decide +kernel : decode cX7_contain 18 = .ok (.isub, 1))) ?_
  refine And.intro (k_iconst (pc := 19) (by decide +kernel : decode cX7_contain 19 = .ok (.iconst 0, 1)) (by decide)) ?_
  refine And.intro (k_iload_n (pc := 20) (by decide +kernel : decode cX7_contain 20 = .ok (.iload_n 3, 1)) rfl) ?_
  refine And.intro (k_iload (pc := 21) (by decide +kernel : decode cX7_contain 21 = .ok (.iload 4, 2))) ?_
  refine And.intro (k_iload (pc := 23) (by decide +kernel : decode cX7_contain 23 = .ok (.iload 5, 2))) ?_
  refine And.intro (k_crV (n := 5) (pc := 25) hG (zRoom_self 3) (tag := 7) rfl ini_X7 im_X7_passes se_X7_passes mk_X7_124 dy_X7_passes (by decide +kernel : decode cX7_contain 25 = .ok (.invokevirtual 124, 3))) ?_
  refine And.intro (k_if_eq (pc := 28) (by decide +kernel : decode cX7_contain 28 = .ok (.ifCond .eq 23, 3)) (by decide)) ?_
  refine And.intro (k_aload_n (pc := 31) (by decide +kernel : decode cX7_contain 31 = .ok (.aload_n 0, 1)) rfl) ?_
  refine And.intro (k_iload_n (pc := 32) (by decide +kernel : decode cX7_contain 32 = .ok (.iload_n 2, 1)) rfl) ?_
  refine And.intro (k_iconst (pc := 33) (by decide +kernel : decode cX7_contain 33 = .ok (.iconst 1, 1)) (by decide)) ?_
  refine And.intro (k_isub (pc := 34) (by decide +kernel : decode cX7_contain 34 = .ok (.isub, 1))) ?_
  refine And.intro (k_iconst (pc := 35) (by decide +kernel : decode cX7_contain 35 = .ok (.iconst 1, 1)) (by decide)) ?_
  refine And.intro (k_iload_n (pc := 36) (by decide +kernel : decode cX7_contain 36 = .ok (.iload_n 3, 1)) rfl) ?_
  refine And.intro (k_iload (pc := 37) (by decide +kernel : decode cX7_contain 37 = .ok (.iload 4, 2))) ?_
  refine And.intro (k_iload (pc := 39) (by decide +kernel : decode cX7_contain 39 = .ok (.iload 5, 2))) ?_
  refine And.intro (k_crV (n := 5) (pc := 41) hG (zRoom_self 3) (tag := 7) rfl ini_X7 im_X7_passes se_X7_passes mk_X7_124 dy_X7_passes (by decide +kernel : decode cX7_contain 41 = .ok (.invokevirtual 124, 3))) ?_
  refine And.intro (k_if_eq (pc := 44) (by decide +kernel : decode cX7_contain 44 = .ok (.ifCond .eq 7, 3)) (by decide)) ?_
  refine And.intro (k_iconst (pc := 47) (by decide +kernel : decode cX7_contain 47 = .ok (.iconst 1, 1)) (by decide)) ?_
  refine And.intro (k_goto (pc := 48) (by decide +kernel : decode cX7_contain 48 = .ok (.goto 4, 3)) (by decide)) ?_
  refine And.intro (k_iconst (pc := 51) (by decide +kernel : decode cX7_contain 51 = .ok (.iconst 0, 1)) (by decide)) ?_
  refine And.intro (k_zreturn (pc := 52) rfl (by decide +kernel : decode cX7_contain 52 = .ok (.ireturn, 1))) ?_
  exact trivial
theorem cdX7_contain : Cond.code yX7_contain cX7_contain 6 (some .boolean) ∈ zWs := zWs_in 688 (by decide +kernel) rfl
noncomputable def pgX7_filled : zPg := [(0, o_ic (0)), (1, o_is 3), (2, o_ic (0)), (3, o_is 4), (5, o_il 4), (7, o_ic (7)), (9, o_ic_ge 35), (12, o_al 0), (13, o_il 1), (14, o_il 2), (15, o_il 4), (17, o_vr2 yX7_at 7 4), (20, o_gI 9 0), (23, o_if_ne 29), (26, o_inc 3 (1)), (29, o_inc 4 (1)), (32, o_go 5), (35, o_il 3), (36, o_ir)]
set_option maxRecDepth 20000 in
theorem pkX7_filled {G : zG} (hG : zGok G) (Q : zRt) : zPOK G (zRm 2) RX7 cX7_filled 5 (some .int) (zF G Q 0 0) 0 0 (zCalls G 2) Q pgX7_filled := by
  refine And.intro (k_iconst (pc := 0) (by decide +kernel : decode cX7_filled 0 = .ok (.iconst 0, 1)) (by decide)) ?_
  refine And.intro (k_istore_n (pc := 1) (by decide +kernel : decode cX7_filled 1 = .ok (.istore_n 3, 1)) rfl) ?_
  refine And.intro (k_iconst (pc := 2) (by decide +kernel : decode cX7_filled 2 = .ok (.iconst 0, 1)) (by decide)) ?_
  refine And.intro (k_istore (pc := 3) (by decide +kernel : decode cX7_filled 3 = .ok (.istore 4, 2))) ?_
  refine And.intro (k_iload (pc := 5) (by decide +kernel : decode cX7_filled 5 = .ok (.iload 4, 2))) ?_
  refine And.intro (k_bipush (pc := 7) (by decide +kernel : decode cX7_filled 7 = .ok (.bipush 7, 2)) (by decide)) ?_
  refine And.intro (k_icmp_ge (pc := 9) (by decide +kernel : decode cX7_filled 9 = .ok (.if_icmp .ge 26, 3)) (by decide)) ?_
  refine And.intro (k_aload_n (pc := 12) (by decide +kernel : decode cX7_filled 12 = .ok (.aload_n 0, 1)) rfl) ?_
  refine And.intro (k_iload_n (pc := 13) (by decide +kernel : decode cX7_filled 13 = .ok (.iload_n 1, 1)) rfl) ?_
  refine And.intro (k_iload_n (pc := 14) (by decide +kernel : decode cX7_filled 14 = .ok (.iload_n 2, 1)) rfl) ?_
  refine And.intro (k_iload (pc := 15) (by decide +kernel : decode cX7_filled 15 = .ok (.iload 4, 2))) ?_
  refine And.intro (k_crV (n := 3) (pc := 17) hG (zRoom_self 2) (tag := 7) rfl ini_X7 im_X7_at se_X7_at mk_X7_49 dy_X7_at (by decide +kernel : decode cX7_filled 17 = .ok (.invokevirtual 49, 3))) ?_
  refine And.intro (k_gZ (pc := 20) rfl (by decide) rfl zin9 lk_X7_72 (by decide +kernel : decode cX7_filled 20 = .ok (.getfield 72, 3))) ?_
  refine And.intro (k_if_ne (pc := 23) (by decide +kernel : decode cX7_filled 23 = .ok (.ifCond .ne 6, 3)) (by decide)) ?_
  refine And.intro (k_iinc (pc := 26) (by decide +kernel : decode cX7_filled 26 = .ok (.iinc 3 1, 3)) (by decide)) ?_
  refine And.intro (k_iinc (pc := 29) (by decide +kernel : decode cX7_filled 29 = .ok (.iinc 4 1, 3)) (by decide)) ?_
  refine And.intro (k_goto (pc := 32) (by decide +kernel : decode cX7_filled 32 = .ok (.goto (-27), 3)) (by decide)) ?_
  refine And.intro (k_iload_n (pc := 35) (by decide +kernel : decode cX7_filled 35 = .ok (.iload_n 3, 1)) rfl) ?_
  refine And.intro (k_ireturn (pc := 36) rfl (by decide +kernel : decode cX7_filled 36 = .ok (.ireturn, 1))) ?_
  exact trivial
theorem cdX7_filled : Cond.code yX7_filled cX7_filled 5 (some .int) ∈ zWs := zWs_in 720 (by decide +kernel) rfl
noncomputable def pgX7_findLongest : zPg := [(0, o_al 2), (1, o_lc 0), (2, o_lc 1), (3, o_vv yX6_put 6 3), (6, o_ic (0)), (7, o_is 3), (8, o_il 3), (9, o_ic (7)), (11, o_ic_ge 73), (14, o_al 0), (15, o_il 1), (16, o_ic (0)), (17, o_il 3), (18, o_vr2 yX7_at 7 4), (21, o_as 4), (23, o_al 4), (25, o_gI 9 0), (28, o_if_ne 67), (31, o_al 0), (32, o_gR 7 3), (35, o_al 4), (37, o_gR 9 2), (40, o_al 4), (42, o_gR 9 1), (45, o_vv yX6_putDifference 6 3), (48, o_al 2), (49, o_al 0), (50, o_gR 7 3), (53, o_vr2 yX6_isBelow 6 2), (56, o_if_eq 67), (59, o_al 2), (60, o_al 0), (61, o_gR 7 3), (64, o_vv yX6_copy 6 2), (67, o_inc 3 (1)), (70, o_go 8), (73, o_vr)]
set_option maxRecDepth 20000 in
theorem pkX7_findLongest {G : zG} (hG : zGok G) (Q : zRt) : zPOK G (zRm 4) RX7 cX7_findLongest 5 none (zF G Q 0 0) 0 0 (zCalls G 4) Q pgX7_findLongest := by
  refine And.intro (k_aload_n (pc := 0) (by decide +kernel : decode cX7_findLongest 0 = .ok (.aload_n 2, 1)) rfl) ?_
  refine And.intro (k_lconst (pc := 1) (by decide +kernel : decode cX7_findLongest 1 = .ok (.lconst 0, 1)) (by decide)) ?_
  refine And.intro (k_lconst (pc := 2) (by decide +kernel : decode cX7_findLongest 2 = .ok (.lconst 1, 1)) (by decide)) ?_
  refine And.intro (k_cvV (n := 2) (pc := 3) hG (zRoom_self 4) (tag := 6) rfl ini_X6 im_X6_put se_X6_put mk_X7_80 dy_X6_put (by decide +kernel : decode cX7_findLongest 3 = .ok (.invokevirtual 80, 3))) ?_
  refine And.intro (k_iconst (pc := 6) (by decide +kernel : decode cX7_findLongest 6 = .ok (.iconst 0, 1)) (by decide)) ?_
  refine And.intro (k_istore_n (pc := 7) (by decide +kernel : decode cX7_findLongest 7 = .ok (.istore_n 3, 1)) rfl) ?_
  refine And.intro (k_iload_n (pc := 8) (by decide +kernel : decode cX7_findLongest 8 = .ok (.iload_n 3, 1)) rfl) ?_
  refine And.intro (k_bipush (pc := 9) (by decide +kernel : decode cX7_findLongest 9 = .ok (.bipush 7, 2)) (by decide)) ?_
  refine And.intro (k_icmp_ge (pc := 11) (by decide +kernel : decode cX7_findLongest 11 = .ok (.if_icmp .ge 62, 3)) (by decide)) ?_
  refine And.intro (k_aload_n (pc := 14) (by decide +kernel : decode cX7_findLongest 14 = .ok (.aload_n 0, 1)) rfl) ?_
  refine And.intro (k_iload_n (pc := 15) (by decide +kernel : decode cX7_findLongest 15 = .ok (.iload_n 1, 1)) rfl) ?_
  refine And.intro (k_iconst (pc := 16) (by decide +kernel : decode cX7_findLongest 16 = .ok (.iconst 0, 1)) (by decide)) ?_
  refine And.intro (k_iload_n (pc := 17) (by decide +kernel : decode cX7_findLongest 17 = .ok (.iload_n 3, 1)) rfl) ?_
  refine And.intro (k_crV (n := 3) (pc := 18) hG (zRoom_self 4) (tag := 7) rfl ini_X7 im_X7_at se_X7_at mk_X7_49 dy_X7_at (by decide +kernel : decode cX7_findLongest 18 = .ok (.invokevirtual 49, 3))) ?_
  refine And.intro (k_astore (pc := 21) (by decide +kernel : decode cX7_findLongest 21 = .ok (.astore 4, 2))) ?_
  refine And.intro (k_aload (pc := 23) (by decide +kernel : decode cX7_findLongest 23 = .ok (.aload 4, 2))) ?_
  refine And.intro (k_gZ (pc := 25) rfl (by decide) rfl zin9 lk_X7_72 (by decide +kernel : decode cX7_findLongest 25 = .ok (.getfield 72, 3))) ?_
  refine And.intro (k_if_ne (pc := 28) (by decide +kernel : decode cX7_findLongest 28 = .ok (.ifCond .ne 39, 3)) (by decide)) ?_
  refine And.intro (k_aload_n (pc := 31) (by decide +kernel : decode cX7_findLongest 31 = .ok (.aload_n 0, 1)) rfl) ?_
  refine And.intro (k_gR (pc := 32) rfl (by decide) rfl zin7 lk_X7_27 (by decide +kernel : decode cX7_findLongest 32 = .ok (.getfield 27, 3))) ?_
  refine And.intro (k_aload (pc := 35) (by decide +kernel : decode cX7_findLongest 35 = .ok (.aload 4, 2))) ?_
  refine And.intro (k_gR (pc := 37) rfl (by decide) rfl zin9 lk_X7_103 (by decide +kernel : decode cX7_findLongest 37 = .ok (.getfield 103, 3))) ?_
  refine And.intro (k_aload (pc := 40) (by decide +kernel : decode cX7_findLongest 40 = .ok (.aload 4, 2))) ?_
  refine And.intro (k_gR (pc := 42) rfl (by decide) rfl zin9 lk_X7_96 (by decide +kernel : decode cX7_findLongest 42 = .ok (.getfield 96, 3))) ?_
  refine And.intro (k_cvV (n := 2) (pc := 45) hG (zRoom_self 4) (tag := 6) rfl ini_X6 im_X6_putDifference se_X6_putDifference mk_X7_138 dy_X6_putDifference (by decide +kernel : decode cX7_findLongest 45 = .ok (.invokevirtual 138, 3))) ?_
  refine And.intro (k_aload_n (pc := 48) (by decide +kernel : decode cX7_findLongest 48 = .ok (.aload_n 2, 1)) rfl) ?_
  refine And.intro (k_aload_n (pc := 49) (by decide +kernel : decode cX7_findLongest 49 = .ok (.aload_n 0, 1)) rfl) ?_
  refine And.intro (k_gR (pc := 50) rfl (by decide) rfl zin7 lk_X7_27 (by decide +kernel : decode cX7_findLongest 50 = .ok (.getfield 27, 3))) ?_
  refine And.intro (k_crV (n := 1) (pc := 53) hG (zRoom_self 4) (tag := 6) rfl ini_X6 im_X6_isBelow se_X6_isBelow mk_X7_106 dy_X6_isBelow (by decide +kernel : decode cX7_findLongest 53 = .ok (.invokevirtual 106, 3))) ?_
  refine And.intro (k_if_eq (pc := 56) (by decide +kernel : decode cX7_findLongest 56 = .ok (.ifCond .eq 11, 3)) (by decide)) ?_
  refine And.intro (k_aload_n (pc := 59) (by decide +kernel : decode cX7_findLongest 59 = .ok (.aload_n 2, 1)) rfl) ?_
  refine And.intro (k_aload_n (pc := 60) (by decide +kernel : decode cX7_findLongest 60 = .ok (.aload_n 0, 1)) rfl) ?_
  refine And.intro (k_gR (pc := 61) rfl (by decide) rfl zin7 lk_X7_27 (by decide +kernel : decode cX7_findLongest 61 = .ok (.getfield 27, 3))) ?_
  refine And.intro (k_cvV (n := 1) (pc := 64) hG (zRoom_self 4) (tag := 6) rfl ini_X6 im_X6_copy se_X6_copy mk_X7_116 dy_X6_copy (by decide +kernel : decode cX7_findLongest 64 = .ok (.invokevirtual 116, 3))) ?_
  refine And.intro (k_iinc (pc := 67) (by decide +kernel : decode cX7_findLongest 67 = .ok (.iinc 3 1, 3)) (by decide)) ?_
  refine And.intro (k_goto (pc := 70) (by decide +kernel : decode cX7_findLongest 70 = .ok (.goto (-62), 3)) (by decide)) ?_
  refine And.intro (k_return (pc := 73) rfl (by decide +kernel : decode cX7_findLongest 73 = .ok (.return_, 1))) ?_
  exact trivial
theorem cdX7_findLongest : Cond.code yX7_findLongest cX7_findLongest 5 none ∈ zWs := zWs_in 724 (by decide +kernel) rfl
noncomputable def pgX8_size : zPg := [(0, o_al 0), (1, o_gI 8 0), (4, o_ir)]
set_option maxRecDepth 20000 in
theorem pkX8_size {G : zG} (hG : zGok G) (Q : zRt) : zPOK G (zRm 0) RX8 cX8_size 1 (some .int) (zF G Q 0 0) 0 0 (zCalls G 0) Q pgX8_size := by
  refine And.intro (k_aload_n (pc := 0) (by decide +kernel : decode cX8_size 0 = .ok (.aload_n 0, 1)) rfl) ?_
  refine And.intro (k_gI (pc := 1) rfl (by decide) rfl zin8 lk_X8_9 (by decide +kernel : decode cX8_size 1 = .ok (.getfield 9, 3))) ?_
  refine And.intro (k_ireturn (pc := 4) rfl (by decide +kernel : decode cX8_size 4 = .ok (.ireturn, 1))) ?_
  exact trivial
theorem cdX8_size : Cond.code yX8_size cX8_size 1 (some .int) ∈ zWs := zWs_in 393 (by decide +kernel) rfl
noncomputable def pgX8_append : zPg := [(0, o_al 0), (1, o_gI 8 0), (4, o_if_lt 39), (7, o_al 0), (8, o_gI 8 0), (11, o_al 0), (12, o_gR 8 1), (15, o_len), (16, o_ic_ge 39), (19, o_al 0), (20, o_gR 8 1), (23, o_al 0), (24, o_gI 8 0), (27, o_il 1), (28, o_yI), (29, o_al 0), (30, o_dup), (31, o_gI 8 0), (34, o_ic (1)), (35, o_iadd), (36, o_pI 8 0), (39, o_vr)]
set_option maxRecDepth 20000 in
theorem pkX8_append {G : zG} (hG : zGok G) (Q : zRt) : zPOK G (zRm 0) RX8 cX8_append 2 none (zF G Q 0 0) 0 0 (zCalls G 0) Q pgX8_append := by
  refine And.intro (k_aload_n (pc := 0) (by decide +kernel : decode cX8_append 0 = .ok (.aload_n 0, 1)) rfl) ?_
  refine And.intro (k_gI (pc := 1) rfl (by decide) rfl zin8 lk_X8_9 (by decide +kernel : decode cX8_append 1 = .ok (.getfield 9, 3))) ?_
  refine And.intro (k_if_lt (pc := 4) (by decide +kernel : decode cX8_append 4 = .ok (.ifCond .lt 35, 3)) (by decide)) ?_
  refine And.intro (k_aload_n (pc := 7) (by decide +kernel : decode cX8_append 7 = .ok (.aload_n 0, 1)) rfl) ?_
  refine And.intro (k_gI (pc := 8) rfl (by decide) rfl zin8 lk_X8_9 (by decide +kernel : decode cX8_append 8 = .ok (.getfield 9, 3))) ?_
  refine And.intro (k_aload_n (pc := 11) (by decide +kernel : decode cX8_append 11 = .ok (.aload_n 0, 1)) rfl) ?_
  refine And.intro (k_gR (pc := 12) rfl (by decide) rfl zin8 lk_X8_15 (by decide +kernel : decode cX8_append 12 = .ok (.getfield 15, 3))) ?_
  refine And.intro (k_alen (pc := 15) (by decide +kernel : decode cX8_append 15 = .ok (.arraylength, 1))) ?_
  refine And.intro (k_icmp_ge (pc := 16) (by decide +kernel : decode cX8_append 16 = .ok (.if_icmp .ge 23, 3)) (by decide)) ?_
  refine And.intro (k_aload_n (pc := 19) (by decide +kernel : decode cX8_append 19 = .ok (.aload_n 0, 1)) rfl) ?_
  refine And.intro (k_gR (pc := 20) rfl (by decide) rfl zin8 lk_X8_15 (by decide +kernel : decode cX8_append 20 = .ok (.getfield 15, 3))) ?_
  refine And.intro (k_aload_n (pc := 23) (by decide +kernel : decode cX8_append 23 = .ok (.aload_n 0, 1)) rfl) ?_
  refine And.intro (k_gI (pc := 24) rfl (by decide) rfl zin8 lk_X8_9 (by decide +kernel : decode cX8_append 24 = .ok (.getfield 9, 3))) ?_
  refine And.intro (k_iload_n (pc := 27) (by decide +kernel : decode cX8_append 27 = .ok (.iload_n 1, 1)) rfl) ?_
  refine And.intro (k_iast (pc := 28) (by decide +kernel : decode cX8_append 28 = .ok (.iastore, 1))) ?_
  refine And.intro (k_aload_n (pc := 29) (by decide +kernel : decode cX8_append 29 = .ok (.aload_n 0, 1)) rfl) ?_
  refine And.intro (k_dup (pc := 30) (by decide +kernel : decode cX8_append 30 = .ok (.dup, 1))) ?_
  refine And.intro (k_gI (pc := 31) rfl (by decide) rfl zin8 lk_X8_9 (by decide +kernel : decode cX8_append 31 = .ok (.getfield 9, 3))) ?_
  refine And.intro (k_iconst (pc := 34) (by decide +kernel : decode cX8_append 34 = .ok (.iconst 1, 1)) (by decide)) ?_
  refine And.intro (k_iadd (pc := 35) (by decide +kernel : decode cX8_append 35 = .ok (.iadd, 1))) ?_
  refine And.intro (k_pI (pc := 36) rfl (by decide) rfl zin8 lk_X8_9 tyX8_ok nmX8 rfl (by decide +kernel) (by decide +kernel : decode cX8_append 36 = .ok (.putfield 9, 3))) ?_
  refine And.intro (k_return (pc := 39) rfl (by decide +kernel : decode cX8_append 39 = .ok (.return_, 1))) ?_
  exact trivial
theorem cdX8_append : Cond.code yX8_append cX8_append 2 none ∈ zWs := zWs_in 397 (by decide +kernel) rfl
noncomputable def pgX8_shorten : zPg := [(0, o_il 1), (1, o_if_lt 12), (4, o_il 1), (5, o_al 0), (6, o_gI 8 0), (9, o_ic_le 14), (12, o_ic (0)), (13, o_zr), (14, o_al 0), (15, o_il 1), (16, o_pI 8 0), (19, o_ic (1)), (20, o_zr)]
set_option maxRecDepth 20000 in
theorem pkX8_shorten {G : zG} (hG : zGok G) (Q : zRt) : zPOK G (zRm 0) RX8 cX8_shorten 2 (some .boolean) (zF G Q 0 0) 0 0 (zCalls G 0) Q pgX8_shorten := by
  refine And.intro (k_iload_n (pc := 0) (by decide +kernel : decode cX8_shorten 0 = .ok (.iload_n 1, 1)) rfl) ?_
  refine And.intro (k_if_lt (pc := 1) (by decide +kernel : decode cX8_shorten 1 = .ok (.ifCond .lt 11, 3)) (by decide)) ?_
  refine And.intro (k_iload_n (pc := 4) (by decide +kernel : decode cX8_shorten 4 = .ok (.iload_n 1, 1)) rfl) ?_
  refine And.intro (k_aload_n (pc := 5) (by decide +kernel : decode cX8_shorten 5 = .ok (.aload_n 0, 1)) rfl) ?_
  refine And.intro (k_gI (pc := 6) rfl (by decide) rfl zin8 lk_X8_9 (by decide +kernel : decode cX8_shorten 6 = .ok (.getfield 9, 3))) ?_
  refine And.intro (k_icmp_le (pc := 9) (by decide +kernel : decode cX8_shorten 9 = .ok (.if_icmp .le 5, 3)) (by decide)) ?_
  refine And.intro (k_iconst (pc := 12) (by decide +kernel : decode cX8_shorten 12 = .ok (.iconst 0, 1)) (by decide)) ?_
  refine And.intro (k_zreturn (pc := 13) rfl (by decide +kernel : decode cX8_shorten 13 = .ok (.ireturn, 1))) ?_
  refine And.intro (k_aload_n (pc := 14) (by decide +kernel : decode cX8_shorten 14 = .ok (.aload_n 0, 1)) rfl) ?_
  refine And.intro (k_iload_n (pc := 15) (by decide +kernel : decode cX8_shorten 15 = .ok (.iload_n 1, 1)) rfl) ?_
  refine And.intro (k_pI (pc := 16) rfl (by decide) rfl zin8 lk_X8_9 tyX8_ok nmX8 rfl (by decide +kernel) (by decide +kernel : decode cX8_shorten 16 = .ok (.putfield 9, 3))) ?_
  refine And.intro (k_iconst (pc := 19) (by decide +kernel : decode cX8_shorten 19 = .ok (.iconst 1, 1)) (by decide)) ?_
  refine And.intro (k_zreturn (pc := 20) rfl (by decide +kernel : decode cX8_shorten 20 = .ok (.ireturn, 1))) ?_
  exact trivial
theorem cdX8_shorten : Cond.code yX8_shorten cX8_shorten 2 (some .boolean) ∈ zWs := zWs_in 405 (by decide +kernel) rfl
noncomputable def pgX8_at : zPg := [(0, o_il 1), (1, o_if_lt 30), (4, o_il 1), (5, o_al 0), (6, o_gI 8 0), (9, o_ic_ge 30), (12, o_il 1), (13, o_al 0), (14, o_gR 8 1), (17, o_len), (18, o_ic_ge 30), (21, o_al 0), (22, o_gR 8 1), (25, o_il 1), (26, o_xI 14), (27, o_go 31), (30, o_ic (-1)), (31, o_ir)]
set_option maxRecDepth 20000 in
theorem pkX8_at {G : zG} (hG : zGok G) (Q : zRt) : zPOK G (zRm 0) RX8 cX8_at 2 (some .int) (zF G Q 0 0) 0 0 (zCalls G 0) Q pgX8_at := by
  refine And.intro (k_iload_n (pc := 0) (by decide +kernel : decode cX8_at 0 = .ok (.iload_n 1, 1)) rfl) ?_
  refine And.intro (k_if_lt (pc := 1) (by decide +kernel : decode cX8_at 1 = .ok (.ifCond .lt 29, 3)) (by decide)) ?_
  refine And.intro (k_iload_n (pc := 4) (by decide +kernel : decode cX8_at 4 = .ok (.iload_n 1, 1)) rfl) ?_
  refine And.intro (k_aload_n (pc := 5) (by decide +kernel : decode cX8_at 5 = .ok (.aload_n 0, 1)) rfl) ?_
  refine And.intro (k_gI (pc := 6) rfl (by decide) rfl zin8 lk_X8_9 (by decide +kernel : decode cX8_at 6 = .ok (.getfield 9, 3))) ?_
  refine And.intro (k_icmp_ge (pc := 9) (by decide +kernel : decode cX8_at 9 = .ok (.if_icmp .ge 21, 3)) (by decide)) ?_
  refine And.intro (k_iload_n (pc := 12) (by decide +kernel : decode cX8_at 12 = .ok (.iload_n 1, 1)) rfl) ?_
  refine And.intro (k_aload_n (pc := 13) (by decide +kernel : decode cX8_at 13 = .ok (.aload_n 0, 1)) rfl) ?_
  refine And.intro (k_gR (pc := 14) rfl (by decide) rfl zin8 lk_X8_15 (by decide +kernel : decode cX8_at 14 = .ok (.getfield 15, 3))) ?_
  refine And.intro (k_alen (pc := 17) (by decide +kernel : decode cX8_at 17 = .ok (.arraylength, 1))) ?_
  refine And.intro (k_icmp_ge (pc := 18) (by decide +kernel : decode cX8_at 18 = .ok (.if_icmp .ge 12, 3)) (by decide)) ?_
  refine And.intro (k_aload_n (pc := 21) (by decide +kernel : decode cX8_at 21 = .ok (.aload_n 0, 1)) rfl) ?_
  refine And.intro (k_gR (pc := 22) rfl (by decide) rfl zin8 lk_X8_15 (by decide +kernel : decode cX8_at 22 = .ok (.getfield 15, 3))) ?_
  refine And.intro (k_iload_n (pc := 25) (by decide +kernel : decode cX8_at 25 = .ok (.iload_n 1, 1)) rfl) ?_
  refine And.intro (k_iald (pc := 26) (by decide +kernel : decode cX8_at 26 = .ok (.iaload, 1))) ?_
  refine And.intro (k_goto (pc := 27) (by decide +kernel : decode cX8_at 27 = .ok (.goto 4, 3)) (by decide)) ?_
  refine And.intro (k_iconst (pc := 30) (by decide +kernel : decode cX8_at 30 = .ok (.iconst (-1), 1)) (by decide)) ?_
  refine And.intro (k_ireturn (pc := 31) rfl (by decide +kernel : decode cX8_at 31 = .ok (.ireturn, 1))) ?_
  exact trivial
theorem cdX8_at : Cond.code yX8_at cX8_at 2 (some .int) ∈ zWs := zWs_in 474 (by decide +kernel) rfl
noncomputable def pgX8_isDigit : zPg := [(0, o_al 0), (1, o_il 1), (2, o_vr2 yX8_at 8 2), (5, o_ic (48)), (7, o_ic_lt 24), (10, o_al 0), (11, o_il 1), (12, o_vr2 yX8_at 8 2), (15, o_ic (57)), (17, o_ic_gt 24), (20, o_ic (1)), (21, o_go 25), (24, o_ic (0)), (25, o_zr)]
set_option maxRecDepth 20000 in
theorem pkX8_isDigit {G : zG} (hG : zGok G) (Q : zRt) : zPOK G (zRm 1) RX8 cX8_isDigit 2 (some .boolean) (zF G Q 0 0) 0 0 (zCalls G 1) Q pgX8_isDigit := by
  refine And.intro (k_aload_n (pc := 0) (by decide +kernel : decode cX8_isDigit 0 = .ok (.aload_n 0, 1)) rfl) ?_
  refine And.intro (k_iload_n (pc := 1) (by decide +kernel : decode cX8_isDigit 1 = .ok (.iload_n 1, 1)) rfl) ?_
  refine And.intro (k_crV (n := 1) (pc := 2) hG (zRoom_self 1) (tag := 8) rfl ini_X8 im_X8_at se_X8_at mk_X8_19 dy_X8_at (by decide +kernel : decode cX8_isDigit 2 = .ok (.invokevirtual 19, 3))) ?_
  refine And.intro (k_bipush (pc := 5) (by decide +kernel : decode cX8_isDigit 5 = .ok (.bipush 48, 2)) (by decide)) ?_
  refine And.intro (k_icmp_lt (pc := 7) (by decide +kernel : decode cX8_isDigit 7 = .ok (.if_icmp .lt 17, 3)) (by decide)) ?_
  refine And.intro (k_aload_n (pc := 10) (by decide +kernel : decode cX8_isDigit 10 = .ok (.aload_n 0, 1)) rfl) ?_
  refine And.intro (k_iload_n (pc := 11) (by decide +kernel : decode cX8_isDigit 11 = .ok (.iload_n 1, 1)) rfl) ?_
  refine And.intro (k_crV (n := 1) (pc := 12) hG (zRoom_self 1) (tag := 8) rfl ini_X8 im_X8_at se_X8_at mk_X8_19 dy_X8_at (by decide +kernel : decode cX8_isDigit 12 = .ok (.invokevirtual 19, 3))) ?_
  refine And.intro (k_bipush (pc := 15) (by decide +kernel : decode cX8_isDigit 15 = .ok (.bipush 57, 2)) (by decide)) ?_
  refine And.intro (k_icmp_gt (pc := 17) (by decide +kernel : decode cX8_isDigit 17 = .ok (.if_icmp .gt 7, 3)) (by decide)) ?_
  refine And.intro (k_iconst (pc := 20) (by decide +kernel : decode cX8_isDigit 20 = .ok (.iconst 1, 1)) (by decide)) ?_
  refine And.intro (k_goto (pc := 21) (by decide +kernel : decode cX8_isDigit 21 = .ok (.goto 4, 3)) (by decide)) ?_
  refine And.intro (k_iconst (pc := 24) (by decide +kernel : decode cX8_isDigit 24 = .ok (.iconst 0, 1)) (by decide)) ?_
  refine And.intro (k_zreturn (pc := 25) rfl (by decide +kernel : decode cX8_isDigit 25 = .ok (.ireturn, 1))) ?_
  exact trivial
theorem cdX8_isDigit : Cond.code yX8_isDigit cX8_isDigit 2 (some .boolean) ∈ zWs := zWs_in 478 (by decide +kernel) rfl
noncomputable def pgX8_fits : zPg := [(0, o_il 2), (1, o_sw [(43, 36), (53, 68), (57, 62)] 92), (36, o_al 0), (37, o_il 1), (38, o_vr2 yX8_at 8 2), (41, o_ic (43)), (43, o_ic_eq 56), (46, o_al 0), (47, o_il 1), (48, o_vr2 yX8_at 8 2), (51, o_ic (45)), (53, o_ic_ne 60), (56, o_ic (1)), (57, o_go 61), (60, o_ic (0)), (61, o_zr), (62, o_al 0), (63, o_il 1), (64, o_vr2 yX8_isDigit 8 2), (67, o_zr), (68, o_al 0), (69, o_il 1), (70, o_vr2 yX8_isDigit 8 2), (73, o_if_eq 90), (76, o_al 0), (77, o_il 1), (78, o_vr2 yX8_at 8 2), (81, o_ic (53)), (83, o_ic_gt 90), (86, o_ic (1)), (87, o_go 91), (90, o_ic (0)), (91, o_zr), (92, o_al 0), (93, o_il 1), (94, o_vr2 yX8_at 8 2), (97, o_il 2), (98, o_ic_ne 105), (101, o_ic (1)), (102, o_go 106), (105, o_ic (0)), (106, o_zr)]
set_option maxRecDepth 20000 in
theorem pkX8_fits {G : zG} (hG : zGok G) (Q : zRt) : zPOK G (zRm 2) RX8 cX8_fits 3 (some .boolean) (zF G Q 0 0) 0 0 (zCalls G 2) Q pgX8_fits := by
  refine And.intro (k_iload_n (pc := 0) (by decide +kernel : decode cX8_fits 0 = .ok (.iload_n 2, 1)) rfl) ?_
  refine And.intro (k_lsw (pc := 1) (by decide +kernel : decode cX8_fits 1 = .ok (.lookupswitch 91 #[(43, 35), (53, 67), (57, 61)], 35)) (by decide) (zlsw_hit (by decide)) (zlsw_no (by decide) (by decide))) ?_
  refine And.intro (k_aload_n (pc := 36) (by decide +kernel : decode cX8_fits 36 = .ok (.aload_n 0, 1)) rfl) ?_
  refine And.intro (k_iload_n (pc := 37) (by decide +kernel : decode cX8_fits 37 = .ok (.iload_n 1, 1)) rfl) ?_
  refine And.intro (k_crV (n := 1) (pc := 38) hG (zRoom_self 2) (tag := 8) rfl ini_X8 im_X8_at se_X8_at mk_X8_19 dy_X8_at (by decide +kernel : decode cX8_fits 38 = .ok (.invokevirtual 19, 3))) ?_
  refine And.intro (k_bipush (pc := 41) (by decide +kernel : decode cX8_fits 41 = .ok (.bipush 43, 2)) (by decide)) ?_
  refine And.intro (k_icmp_eq (pc := 43) (by decide +kernel : decode cX8_fits 43 = .ok (.if_icmp .eq 13, 3)) (by decide)) ?_
  refine And.intro (k_aload_n (pc := 46) (by decide +kernel : decode cX8_fits 46 = .ok (.aload_n 0, 1)) rfl) ?_
  refine And.intro (k_iload_n (pc := 47) (by decide +kernel : decode cX8_fits 47 = .ok (.iload_n 1, 1)) rfl) ?_
  refine And.intro (k_crV (n := 1) (pc := 48) hG (zRoom_self 2) (tag := 8) rfl ini_X8 im_X8_at se_X8_at mk_X8_19 dy_X8_at (by decide +kernel : decode cX8_fits 48 = .ok (.invokevirtual 19, 3))) ?_
  refine And.intro (k_bipush (pc := 51) (by decide +kernel : decode cX8_fits 51 = .ok (.bipush 45, 2)) (by decide)) ?_
  refine And.intro (k_icmp_ne (pc := 53) (by decide +kernel : decode cX8_fits 53 = .ok (.if_icmp .ne 7, 3)) (by decide)) ?_
  refine And.intro (k_iconst (pc := 56) (by decide +kernel : decode cX8_fits 56 = .ok (.iconst 1, 1)) (by decide)) ?_
  refine And.intro (k_goto (pc := 57) (by decide +kernel : decode cX8_fits 57 = .ok (.goto 4, 3)) (by decide)) ?_
  refine And.intro (k_iconst (pc := 60) (by decide +kernel : decode cX8_fits 60 = .ok (.iconst 0, 1)) (by decide)) ?_
  refine And.intro (k_zreturn (pc := 61) rfl (by decide +kernel : decode cX8_fits 61 = .ok (.ireturn, 1))) ?_
  refine And.intro (k_aload_n (pc := 62) (by decide +kernel : decode cX8_fits 62 = .ok (.aload_n 0, 1)) rfl) ?_
  refine And.intro (k_iload_n (pc := 63) (by decide +kernel : decode cX8_fits 63 = .ok (.iload_n 1, 1)) rfl) ?_
  refine And.intro (k_crV (n := 1) (pc := 64) hG (zRoom_self 2) (tag := 8) rfl ini_X8 im_X8_isDigit se_X8_isDigit mk_X8_37 dy_X8_isDigit (by decide +kernel : decode cX8_fits 64 = .ok (.invokevirtual 37, 3))) ?_
  refine And.intro (k_zreturn (pc := 67) rfl (by decide +kernel : decode cX8_fits 67 = .ok (.ireturn, 1))) ?_
  refine And.intro (k_aload_n (pc := 68) (by decide +kernel : decode cX8_fits 68 = .ok (.aload_n 0, 1)) rfl) ?_
  refine And.intro (k_iload_n (pc := 69) (by decide +kernel : decode cX8_fits 69 = .ok (.iload_n 1, 1)) rfl) ?_
  refine And.intro (k_crV (n := 1) (pc := 70) hG (zRoom_self 2) (tag := 8) rfl ini_X8 im_X8_isDigit se_X8_isDigit mk_X8_37 dy_X8_isDigit (by decide +kernel : decode cX8_fits 70 = .ok (.invokevirtual 37, 3))) ?_
  refine And.intro (k_if_eq (pc := 73) (by decide +kernel : decode cX8_fits 73 = .ok (.ifCond .eq 17, 3)) (by decide)) ?_
  refine And.intro (k_aload_n (pc := 76) (by decide +kernel : decode cX8_fits 76 = .ok (.aload_n 0, 1)) rfl) ?_
  refine And.intro (k_iload_n (pc := 77) (by decide +kernel : decode cX8_fits 77 = .ok (.iload_n 1, 1)) rfl) ?_
  refine And.intro (k_crV (n := 1) (pc := 78) hG (zRoom_self 2) (tag := 8) rfl ini_X8 im_X8_at se_X8_at mk_X8_19 dy_X8_at (by decide +kernel : decode cX8_fits 78 = .ok (.invokevirtual 19, 3))) ?_
  refine And.intro (k_bipush (pc := 81) (by decide +kernel : decode cX8_fits 81 = .ok (.bipush 53, 2)) (by decide)) ?_
  refine And.intro (k_icmp_gt (pc := 83) (by decide +kernel : decode cX8_fits 83 = .ok (.if_icmp .gt 7, 3)) (by decide)) ?_
  refine And.intro (k_iconst (pc := 86) (by decide +kernel : decode cX8_fits 86 = .ok (.iconst 1, 1)) (by decide)) ?_
  refine And.intro (k_goto (pc := 87) (by decide +kernel : decode cX8_fits 87 = .ok (.goto 4, 3)) (by decide)) ?_
  refine And.intro (k_iconst (pc := 90) (by decide +kernel : decode cX8_fits 90 = .ok (.iconst 0, 1)) (by decide)) ?_
  refine And.intro (k_zreturn (pc := 91) rfl (by decide +kernel : decode cX8_fits 91 = .ok (.ireturn, 1))) ?_
  refine And.intro (k_aload_n (pc := 92) (by decide +kernel : decode cX8_fits 92 = .ok (.aload_n 0, 1)) rfl) ?_
  refine And.intro (k_iload_n (pc := 93) (by decide +kernel : decode cX8_fits 93 = .ok (.iload_n 1, 1)) rfl) ?_
  refine And.intro (k_crV (n := 1) (pc := 94) hG (zRoom_self 2) (tag := 8) rfl ini_X8 im_X8_at se_X8_at mk_X8_19 dy_X8_at (by decide +kernel : decode cX8_fits 94 = .ok (.invokevirtual 19, 3))) ?_
  refine And.intro (k_iload_n (pc := 97) (by decide +kernel : decode cX8_fits 97 = .ok (.iload_n 2, 1)) rfl) ?_
  refine And.intro (k_icmp_ne (pc := 98) (by decide +kernel : decode cX8_fits 98 = .ok (.if_icmp .ne 7, 3)) (by decide)) ?_
  refine And.intro (k_iconst (pc := 101) (by decide +kernel : decode cX8_fits 101 = .ok (.iconst 1, 1)) (by decide)) ?_
  refine And.intro (k_goto (pc := 102) (by decide +kernel : decode cX8_fits 102 = .ok (.goto 4, 3)) (by decide)) ?_
  refine And.intro (k_iconst (pc := 105) (by decide +kernel : decode cX8_fits 105 = .ok (.iconst 0, 1)) (by decide)) ?_
  refine And.intro (k_zreturn (pc := 106) rfl (by decide +kernel : decode cX8_fits 106 = .ok (.ireturn, 1))) ?_
  exact trivial
theorem cdX8_fits : Cond.code yX8_fits cX8_fits 3 (some .boolean) ∈ zWs := zWs_in 470 (by decide +kernel) rfl
noncomputable def pgX8_number : zPg := [(0, o_ic (0)), (1, o_is 3), (2, o_ic (0)), (3, o_is 4), (5, o_il 4), (7, o_il 2), (8, o_ic_ge 34), (11, o_il 3), (12, o_ic (10)), (14, o_imul), (15, o_al 0), (16, o_il 1), (17, o_il 4), (19, o_iadd), (20, o_vr2 yX8_at 8 2), (23, o_iadd), (24, o_ic (48)), (26, o_isub), (27, o_is 3), (28, o_inc 4 (1)), (31, o_go 5), (34, o_il 3), (35, o_ir)]
set_option maxRecDepth 20000 in
theorem pkX8_number {G : zG} (hG : zGok G) (Q : zRt) : zPOK G (zRm 1) RX8 cX8_number 5 (some .int) (zF G Q 0 0) 0 0 (zCalls G 1) Q pgX8_number := by
  refine And.intro (k_iconst (pc := 0) (by decide +kernel : decode cX8_number 0 = .ok (.iconst 0, 1)) (by decide)) ?_
  refine And.intro (k_istore_n (pc := 1) (by decide +kernel : decode cX8_number 1 = .ok (.istore_n 3, 1)) rfl) ?_
  refine And.intro (k_iconst (pc := 2) (by decide +kernel : decode cX8_number 2 = .ok (.iconst 0, 1)) (by decide)) ?_
  refine And.intro (k_istore (pc := 3) (by decide +kernel : decode cX8_number 3 = .ok (.istore 4, 2))) ?_
  refine And.intro (k_iload (pc := 5) (by decide +kernel : decode cX8_number 5 = .ok (.iload 4, 2))) ?_
  refine And.intro (k_iload_n (pc := 7) (by decide +kernel : decode cX8_number 7 = .ok (.iload_n 2, 1)) rfl) ?_
  refine And.intro (k_icmp_ge (pc := 8) (by decide +kernel : decode cX8_number 8 = .ok (.if_icmp .ge 26, 3)) (by decide)) ?_
  refine And.intro (k_iload_n (pc := 11) (by decide +kernel : decode cX8_number 11 = .ok (.iload_n 3, 1)) rfl) ?_
  refine And.intro (k_bipush (pc := 12) (by decide +kernel : decode cX8_number 12 = .ok (.bipush 10, 2)) (by decide)) ?_
  refine And.intro (k_imul (pc := 14) (by decide +kernel : decode cX8_number 14 = .ok (.imul, 1))) ?_
  refine And.intro (k_aload_n (pc := 15) (by decide +kernel : decode cX8_number 15 = .ok (.aload_n 0, 1)) rfl) ?_
  refine And.intro (k_iload_n (pc := 16) (by decide +kernel : decode cX8_number 16 = .ok (.iload_n 1, 1)) rfl) ?_
  refine And.intro (k_iload (pc := 17) (by decide +kernel : decode cX8_number 17 = .ok (.iload 4, 2))) ?_
  refine And.intro (k_iadd (pc := 19) (by decide +kernel : decode cX8_number 19 = .ok (.iadd, 1))) ?_
  refine And.intro (k_crV (n := 1) (pc := 20) hG (zRoom_self 1) (tag := 8) rfl ini_X8 im_X8_at se_X8_at mk_X8_19 dy_X8_at (by decide +kernel : decode cX8_number 20 = .ok (.invokevirtual 19, 3))) ?_
  refine And.intro (k_iadd (pc := 23) (by decide +kernel : decode cX8_number 23 = .ok (.iadd, 1))) ?_
  refine And.intro (k_bipush (pc := 24) (by decide +kernel : decode cX8_number 24 = .ok (.bipush 48, 2)) (by decide)) ?_
  refine And.intro (k_isub (pc := 26) (by decide +kernel : decode cX8_number 26 = .ok (.isub, 1))) ?_
  refine And.intro (k_istore_n (pc := 27) (by decide +kernel : decode cX8_number 27 = .ok (.istore_n 3, 1)) rfl) ?_
  refine And.intro (k_iinc (pc := 28) (by decide +kernel : decode cX8_number 28 = .ok (.iinc 4 1, 3)) (by decide)) ?_
  refine And.intro (k_goto (pc := 31) (by decide +kernel : decode cX8_number 31 = .ok (.goto (-26), 3)) (by decide)) ?_
  refine And.intro (k_iload_n (pc := 34) (by decide +kernel : decode cX8_number 34 = .ok (.iload_n 3, 1)) rfl) ?_
  refine And.intro (k_ireturn (pc := 35) rfl (by decide +kernel : decode cX8_number 35 = .ok (.ireturn, 1))) ?_
  exact trivial
theorem cdX8_number : Cond.code yX8_number cX8_number 5 (some .int) ∈ zWs := zWs_in 482 (by decide +kernel) rfl
noncomputable def pgX8_signed : zPg := [(0, o_al 0), (1, o_il 1), (2, o_ic (1)), (3, o_iadd), (4, o_il 2), (5, o_vr2 yX8_number 8 3), (8, o_is 3), (9, o_al 0), (10, o_il 1), (11, o_vr2 yX8_at 8 2), (14, o_ic (45)), (16, o_ic_ne 24), (19, o_il 3), (20, o_ineg), (21, o_go 25), (24, o_il 3), (25, o_ir)]
set_option maxRecDepth 20000 in
theorem pkX8_signed {G : zG} (hG : zGok G) (Q : zRt) : zPOK G (zRm 2) RX8 cX8_signed 4 (some .int) (zF G Q 0 0) 0 0 (zCalls G 2) Q pgX8_signed := by
  refine And.intro (k_aload_n (pc := 0) (by decide +kernel : decode cX8_signed 0 = .ok (.aload_n 0, 1)) rfl) ?_
  refine And.intro (k_iload_n (pc := 1) (by decide +kernel : decode cX8_signed 1 = .ok (.iload_n 1, 1)) rfl) ?_
  refine And.intro (k_iconst (pc := 2) (by decide +kernel : decode cX8_signed 2 = .ok (.iconst 1, 1)) (by decide)) ?_
  refine And.intro (k_iadd (pc := 3) (by decide +kernel : decode cX8_signed 3 = .ok (.iadd, 1))) ?_
  refine And.intro (k_iload_n (pc := 4) (by decide +kernel : decode cX8_signed 4 = .ok (.iload_n 2, 1)) rfl) ?_
  refine And.intro (k_crV (n := 2) (pc := 5) hG (zRoom_self 2) (tag := 8) rfl ini_X8 im_X8_number se_X8_number mk_X8_41 dy_X8_number (by decide +kernel : decode cX8_signed 5 = .ok (.invokevirtual 41, 3))) ?_
  refine And.intro (k_istore_n (pc := 8) (by decide +kernel : decode cX8_signed 8 = .ok (.istore_n 3, 1)) rfl) ?_
  refine And.intro (k_aload_n (pc := 9) (by decide +kernel : decode cX8_signed 9 = .ok (.aload_n 0, 1)) rfl) ?_
  refine And.intro (k_iload_n (pc := 10) (by decide +kernel : decode cX8_signed 10 = .ok (.iload_n 1, 1)) rfl) ?_
  refine And.intro (k_crV (n := 1) (pc := 11) hG (zRoom_self 2) (tag := 8) rfl ini_X8 im_X8_at se_X8_at mk_X8_19 dy_X8_at (by decide +kernel : decode cX8_signed 11 = .ok (.invokevirtual 19, 3))) ?_
  refine And.intro (k_bipush (pc := 14) (by decide +kernel : decode cX8_signed 14 = .ok (.bipush 45, 2)) (by decide)) ?_
  refine And.intro (k_icmp_ne (pc := 16) (by decide +kernel : decode cX8_signed 16 = .ok (.if_icmp .ne 8, 3)) (by decide)) ?_
  refine And.intro (k_iload_n (pc := 19) (by decide +kernel : decode cX8_signed 19 = .ok (.iload_n 3, 1)) rfl) ?_
  refine And.intro (k_ineg (pc := 20) (by decide +kernel : decode cX8_signed 20 = .ok (.ineg, 1))) ?_
  refine And.intro (k_goto (pc := 21) (by decide +kernel : decode cX8_signed 21 = .ok (.goto 4, 3)) (by decide)) ?_
  refine And.intro (k_iload_n (pc := 24) (by decide +kernel : decode cX8_signed 24 = .ok (.iload_n 3, 1)) rfl) ?_
  refine And.intro (k_ireturn (pc := 25) rfl (by decide +kernel : decode cX8_signed 25 = .ok (.ireturn, 1))) ?_
  exact trivial
theorem cdX8_signed : Cond.code yX8_signed cX8_signed 4 (some .int) ∈ zWs := zWs_in 486 (by decide +kernel) rfl
noncomputable def pgX8_dayFault : zPg := [(0, o_ic (0)), (1, o_is 1), (2, o_ic (0)), (3, o_is 2), (4, o_il 2), (5, o_ic (80)), (7, o_ic_ge 50), (10, o_il 1), (11, o_al 0), (12, o_gI 8 0), (15, o_ic_ge 50), (18, o_al 0), (19, o_il 1), (20, o_al 0), (21, o_il 1), (22, o_vr2 yX8_actForm 8 2), (25, o_vr2 yX8_misfit 8 3), (28, o_is 3), (29, o_il 3), (30, o_ic (-1)), (31, o_ic_eq 36), (34, o_il 3), (35, o_ir), (36, o_il 1), (37, o_al 0), (38, o_il 1), (39, o_vr2 yX8_actLength 8 2), (42, o_iadd), (43, o_is 1), (44, o_inc 2 (1)), (47, o_go 4), (50, o_ic (-1)), (51, o_ir)]
set_option maxRecDepth 20000 in
theorem pkX8_dayFault {G : zG} (hG : zGok G) (Q : zRt) : zPOK G (zRm 7) RX8 cX8_dayFault 4 (some .int) (zF G Q 0 0) 0 0 (zCalls G 7) Q pgX8_dayFault := by
  refine And.intro (k_iconst (pc := 0) (by decide +kernel : decode cX8_dayFault 0 = .ok (.iconst 0, 1)) (by decide)) ?_
  refine And.intro (k_istore_n (pc := 1) (by decide +kernel : decode cX8_dayFault 1 = .ok (.istore_n 1, 1)) rfl) ?_
  refine And.intro (k_iconst (pc := 2) (by decide +kernel : decode cX8_dayFault 2 = .ok (.iconst 0, 1)) (by decide)) ?_
  refine And.intro (k_istore_n (pc := 3) (by decide +kernel : decode cX8_dayFault 3 = .ok (.istore_n 2, 1)) rfl) ?_
  refine And.intro (k_iload_n (pc := 4) (by decide +kernel : decode cX8_dayFault 4 = .ok (.iload_n 2, 1)) rfl) ?_
  refine And.intro (k_bipush (pc := 5) (by decide +kernel : decode cX8_dayFault 5 = .ok (.bipush 80, 2)) (by decide)) ?_
  refine And.intro (k_icmp_ge (pc := 7) (by decide +kernel : decode cX8_dayFault 7 = .ok (.if_icmp .ge 43, 3)) (by decide)) ?_
  refine And.intro (k_iload_n (pc := 10) (by decide +kernel : decode cX8_dayFault 10 = .ok (.iload_n 1, 1)) rfl) ?_
  refine And.intro (k_aload_n (pc := 11) (by decide +kernel : decode cX8_dayFault 11 = .ok (.aload_n 0, 1)) rfl) ?_
  refine And.intro (k_gI (pc := 12) rfl (by decide) rfl zin8 lk_X8_9 (by decide +kernel : decode cX8_dayFault 12 = .ok (.getfield 9, 3))) ?_
  refine And.intro (k_icmp_ge (pc := 15) (by decide +kernel : decode cX8_dayFault 15 = .ok (.if_icmp .ge 35, 3)) (by decide)) ?_
  refine And.intro (k_aload_n (pc := 18) (by decide +kernel : decode cX8_dayFault 18 = .ok (.aload_n 0, 1)) rfl) ?_
  refine And.intro (k_iload_n (pc := 19) (by decide +kernel : decode cX8_dayFault 19 = .ok (.iload_n 1, 1)) rfl) ?_
  refine And.intro (k_aload_n (pc := 20) (by decide +kernel : decode cX8_dayFault 20 = .ok (.aload_n 0, 1)) rfl) ?_
  refine And.intro (k_iload_n (pc := 21) (by decide +kernel : decode cX8_dayFault 21 = .ok (.iload_n 1, 1)) rfl) ?_
  refine And.intro (k_crV (n := 1) (pc := 22) hG (zRoom_self 7) (tag := 8) rfl ini_X8 im_X8_actForm se_X8_actForm mk_X8_63 dy_X8_actForm (by decide +kernel : decode cX8_dayFault 22 = .ok (.invokevirtual 63, 3))) ?_
  refine And.intro (k_crV (n := 2) (pc := 25) hG (zRoom_self 7) (tag := 8) rfl ini_X8 im_X8_misfit se_X8_misfit mk_X8_52 dy_X8_misfit (by decide +kernel : decode cX8_dayFault 25 = .ok (.invokevirtual 52, 3))) ?_
  refine And.intro (k_istore_n (pc := 28) (by decide +kernel : decode cX8_dayFault 28 = .ok (.istore_n 3, 1)) rfl) ?_
  refine And.intro (k_iload_n (pc := 29) (by decide +kernel : decode cX8_dayFault 29 = .ok (.iload_n 3, 1)) rfl) ?_
  refine And.intro (k_iconst (pc := 30) (by decide +kernel : decode cX8_dayFault 30 = .ok (.iconst (-1), 1)) (by decide)) ?_
  refine And.intro (k_icmp_eq (pc := 31) (by decide +kernel : decode cX8_dayFault 31 = .ok (.if_icmp .eq 5, 3)) (by decide)) ?_
  refine And.intro (k_iload_n (pc := 34) (by decide +kernel : decode cX8_dayFault 34 = .ok (.iload_n 3, 1)) rfl) ?_
  refine And.intro (k_ireturn (pc := 35) rfl (by decide +kernel : decode cX8_dayFault 35 = .ok (.ireturn, 1))) ?_
  refine And.intro (k_iload_n (pc := 36) (by decide +kernel : decode cX8_dayFault 36 = .ok (.iload_n 1, 1)) rfl) ?_
  refine And.intro (k_aload_n (pc := 37) (by decide +kernel : decode cX8_dayFault 37 = .ok (.aload_n 0, 1)) rfl) ?_
  refine And.intro (k_iload_n (pc := 38) (by decide +kernel : decode cX8_dayFault 38 = .ok (.iload_n 1, 1)) rfl) ?_
  refine And.intro (k_crV (n := 1) (pc := 39) hG (zRoom_self 7) (tag := 8) rfl ini_X8 im_X8_actLength se_X8_actLength mk_X8_67 dy_X8_actLength (by decide +kernel : decode cX8_dayFault 39 = .ok (.invokevirtual 67, 3))) ?_
  refine And.intro (k_iadd (pc := 42) (by decide +kernel : decode cX8_dayFault 42 = .ok (.iadd, 1))) ?_
  refine And.intro (k_istore_n (pc := 43) (by decide +kernel : decode cX8_dayFault 43 = .ok (.istore_n 1, 1)) rfl) ?_
  refine And.intro (k_iinc (pc := 44) (by decide +kernel : decode cX8_dayFault 44 = .ok (.iinc 2 1, 3)) (by decide)) ?_
  refine And.intro (k_goto (pc := 47) (by decide +kernel : decode cX8_dayFault 47 = .ok (.goto (-43), 3)) (by decide)) ?_
  refine And.intro (k_iconst (pc := 50) (by decide +kernel : decode cX8_dayFault 50 = .ok (.iconst (-1), 1)) (by decide)) ?_
  refine And.intro (k_ireturn (pc := 51) rfl (by decide +kernel : decode cX8_dayFault 51 = .ok (.ireturn, 1))) ?_
  exact trivial
theorem cdX8_dayFault : Cond.code yX8_dayFault cX8_dayFault 4 (some .int) ∈ zWs := zWs_in 940 (by decide +kernel) rfl
noncomputable def pgX10_gather : zPg := [(0, o_al 0), (1, o_ic (0)), (2, o_pI 10 0), (5, o_ic (0)), (6, o_is 3), (7, o_il 3), (8, o_ic (7)), (10, o_ic_ge 97), (13, o_ic (0)), (14, o_is 4), (16, o_il 4), (18, o_ic (7)), (20, o_ic_ge 91), (23, o_al 0), (24, o_gI 10 0), (27, o_if_lt 85), (30, o_al 0), (31, o_gI 10 0), (34, o_al 0), (35, o_gR 10 2), (38, o_len), (39, o_ic_ge 85), (42, o_al 1), (43, o_il 3), (44, o_il 4), (46, o_ic (1)), (47, o_il 2), (48, o_vr2 yX5_holds 5 5), (51, o_if_eq 85), (54, o_al 0), (55, o_gR 10 2), (58, o_al 0), (59, o_gI 10 0), (62, o_il 3), (63, o_yI), (64, o_al 0), (65, o_gR 10 3), (68, o_al 0), (69, o_gI 10 0), (72, o_il 4), (74, o_yI), (75, o_al 0), (76, o_dup), (77, o_gI 10 0), (80, o_ic (1)), (81, o_iadd), (82, o_pI 10 0), (85, o_inc 4 (1)), (88, o_go 16), (91, o_inc 3 (1)), (94, o_go 7), (97, o_vr)]
set_option maxRecDepth 20000 in
theorem pkX10_gather {G : zG} (hG : zGok G) (Q : zRt) : zPOK G (zRm 3) RX10 cX10_gather 5 none (zF G Q 0 0) 0 0 (zCalls G 3) Q pgX10_gather := by
  refine And.intro (k_aload_n (pc := 0) (by decide +kernel : decode cX10_gather 0 = .ok (.aload_n 0, 1)) rfl) ?_
  refine And.intro (k_iconst (pc := 1) (by decide +kernel : decode cX10_gather 1 = .ok (.iconst 0, 1)) (by decide)) ?_
  refine And.intro (k_pI (pc := 2) rfl (by decide) rfl zin10 lk_X10_9 tyX10_ok nmX10 rfl (by decide +kernel) (by decide +kernel : decode cX10_gather 2 = .ok (.putfield 9, 3))) ?_
  refine And.intro (k_iconst (pc := 5) (by decide +kernel : decode cX10_gather 5 = .ok (.iconst 0, 1)) (by decide)) ?_
  refine And.intro (k_istore_n (pc := 6) (by decide +kernel : decode cX10_gather 6 = .ok (.istore_n 3, 1)) rfl) ?_
  refine And.intro (k_iload_n (pc := 7) (by decide +kernel : decode cX10_gather 7 = .ok (.iload_n 3, 1)) rfl) ?_
  refine And.intro (k_bipush (pc := 8) (by decide +kernel : decode cX10_gather 8 = .ok (.bipush 7, 2)) (by decide)) ?_
  refine And.intro (k_icmp_ge (pc := 10) (by decide +kernel : decode cX10_gather 10 = .ok (.if_icmp .ge 87, 3)) (by decide)) ?_
  refine And.intro (k_iconst (pc := 13) (by decide +kernel : decode cX10_gather 13 = .ok (.iconst 0, 1)) (by decide)) ?_
  refine And.intro (k_istore (pc := 14) (by decide +kernel : decode cX10_gather 14 = .ok (.istore 4, 2))) ?_
  refine And.intro (k_iload (pc := 16) (by decide +kernel : decode cX10_gather 16 = .ok (.iload 4, 2))) ?_
  refine And.intro (k_bipush (pc := 18) (by decide +kernel : decode cX10_gather 18 = .ok (.bipush 7, 2)) (by decide)) ?_
  refine And.intro (k_icmp_ge (pc := 20) (by decide +kernel : decode cX10_gather 20 = .ok (.if_icmp .ge 71, 3)) (by decide)) ?_
  refine And.intro (k_aload_n (pc := 23) (by decide +kernel : decode cX10_gather 23 = .ok (.aload_n 0, 1)) rfl) ?_
  refine And.intro (k_gI (pc := 24) rfl (by decide) rfl zin10 lk_X10_9 (by decide +kernel : decode cX10_gather 24 = .ok (.getfield 9, 3))) ?_
  refine And.intro (k_if_lt (pc := 27) (by decide +kernel : decode cX10_gather 27 = .ok (.ifCond .lt 58, 3)) (by decide)) ?_
  refine And.intro (k_aload_n (pc := 30) (by decide +kernel : decode cX10_gather 30 = .ok (.aload_n 0, 1)) rfl) ?_
  refine And.intro (k_gI (pc := 31) rfl (by decide) rfl zin10 lk_X10_9 (by decide +kernel : decode cX10_gather 31 = .ok (.getfield 9, 3))) ?_
  refine And.intro (k_aload_n (pc := 34) (by decide +kernel : decode cX10_gather 34 = .ok (.aload_n 0, 1)) rfl) ?_
  refine And.intro (k_gR (pc := 35) rfl (by decide) rfl zin10 lk_X10_18 (by decide +kernel : decode cX10_gather 35 = .ok (.getfield 18, 3))) ?_
  refine And.intro (k_alen (pc := 38) (by decide +kernel : decode cX10_gather 38 = .ok (.arraylength, 1))) ?_
  refine And.intro (k_icmp_ge (pc := 39) (by decide +kernel : decode cX10_gather 39 = .ok (.if_icmp .ge 46, 3)) (by decide)) ?_
  refine And.intro (k_aload_n (pc := 42) (by decide +kernel : decode cX10_gather 42 = .ok (.aload_n 1, 1)) rfl) ?_
  refine And.intro (k_iload_n (pc := 43) (by decide +kernel : decode cX10_gather 43 = .ok (.iload_n 3, 1)) rfl) ?_
  refine And.intro (k_iload (pc := 44) (by decide +kernel : decode cX10_gather 44 = .ok (.iload 4, 2))) ?_
  refine And.intro (k_iconst (pc := 46) (by decide +kernel : decode cX10_gather 46 = .ok (.iconst 1, 1)) (by decide)) ?_
  refine And.intro (k_iload_n (pc := 47) (by decide +kernel : decode cX10_gather 47 = .ok (.iload_n 2, 1)) rfl) ?_
  refine And.intro (k_crV (n := 4) (pc := 48) hG (zRoom_self 3) (tag := 5) rfl ini_X5 im_X5_holds se_X5_holds mk_X10_28 dy_X5_holds (by decide +kernel : decode cX10_gather 48 = .ok (.invokevirtual 28, 3))) ?_
  refine And.intro (k_if_eq (pc := 51) (by decide +kernel : decode cX10_gather 51 = .ok (.ifCond .eq 34, 3)) (by decide)) ?_
  refine And.intro (k_aload_n (pc := 54) (by decide +kernel : decode cX10_gather 54 = .ok (.aload_n 0, 1)) rfl) ?_
  refine And.intro (k_gR (pc := 55) rfl (by decide) rfl zin10 lk_X10_18 (by decide +kernel : decode cX10_gather 55 = .ok (.getfield 18, 3))) ?_
  refine And.intro (k_aload_n (pc := 58) (by decide +kernel : decode cX10_gather 58 = .ok (.aload_n 0, 1)) rfl) ?_
  refine And.intro (k_gI (pc := 59) rfl (by decide) rfl zin10 lk_X10_9 (by decide +kernel : decode cX10_gather 59 = .ok (.getfield 9, 3))) ?_
  refine And.intro (k_iload_n (pc := 62) (by decide +kernel : decode cX10_gather 62 = .ok (.iload_n 3, 1)) rfl) ?_
  refine And.intro (k_iast (pc := 63) (by decide +kernel : decode cX10_gather 63 = .ok (.iastore, 1))) ?_
  refine And.intro (k_aload_n (pc := 64) (by decide +kernel : decode cX10_gather 64 = .ok (.aload_n 0, 1)) rfl) ?_
  refine And.intro (k_gR (pc := 65) rfl (by decide) rfl zin10 lk_X10_22 (by decide +kernel : decode cX10_gather 65 = .ok (.getfield 22, 3))) ?_
  refine And.intro (k_aload_n (pc := 68) (by decide +kernel : decode cX10_gather 68 = .ok (.aload_n 0, 1)) rfl) ?_
  refine And.intro (k_gI (pc := 69) rfl (by decide) rfl zin10 lk_X10_9 (by decide +kernel : decode cX10_gather 69 = .ok (.getfield 9, 3))) ?_
  refine And.intro (k_iload (pc := 72) (by decide +kernel : decode cX10_gather 72 = .ok (.iload 4, 2))) ?_
  refine And.intro (k_iast (pc := 74) (by decide +kernel : decode cX10_gather 74 = .ok (.iastore, 1))) ?_
  refine And.intro (k_aload_n (pc := 75) (by decide +kernel : decode cX10_gather 75 = .ok (.aload_n 0, 1)) rfl) ?_
  refine And.intro (k_dup (pc := 76) (by decide +kernel : decode cX10_gather 76 = .ok (.dup, 1))) ?_
  refine And.intro (k_gI (pc := 77) rfl (by decide) rfl zin10 lk_X10_9 (by decide +kernel : decode cX10_gather 77 = .ok (.getfield 9, 3))) ?_
  refine And.intro (k_iconst (pc := 80) (by decide +kernel : decode cX10_gather 80 = .ok (.iconst 1, 1)) (by decide)) ?_
  refine And.intro (k_iadd (pc := 81) (by decide +kernel : decode cX10_gather 81 = .ok (.iadd, 1))) ?_
  refine And.intro (k_pI (pc := 82) rfl (by decide) rfl zin10 lk_X10_9 tyX10_ok nmX10 rfl (by decide +kernel) (by decide +kernel : decode cX10_gather 82 = .ok (.putfield 9, 3))) ?_
  refine And.intro (k_iinc (pc := 85) (by decide +kernel : decode cX10_gather 85 = .ok (.iinc 4 1, 3)) (by decide)) ?_
  refine And.intro (k_goto (pc := 88) (by decide +kernel : decode cX10_gather 88 = .ok (.goto (-72), 3)) (by decide)) ?_
  refine And.intro (k_iinc (pc := 91) (by decide +kernel : decode cX10_gather 91 = .ok (.iinc 3 1, 3)) (by decide)) ?_
  refine And.intro (k_goto (pc := 94) (by decide +kernel : decode cX10_gather 94 = .ok (.goto (-87), 3)) (by decide)) ?_
  refine And.intro (k_return (pc := 97) rfl (by decide +kernel : decode cX10_gather 97 = .ok (.return_, 1))) ?_
  exact trivial
theorem cdX10_gather : Cond.code yX10_gather cX10_gather 5 none ∈ zWs := zWs_in 806 (by decide +kernel) rfl
noncomputable def pgX10_tell : zPg := [(0, o_al 0), (1, o_il 1), (2, o_vr2 yX10_has 10 2), (5, o_if_eq 30), (8, o_al 2), (9, o_al 0), (10, o_gR 10 2), (13, o_il 1), (14, o_xI 14), (15, o_i2l), (16, o_vv yX4_tell 4 2), (19, o_al 2), (20, o_al 0), (21, o_gR 10 3), (24, o_il 1), (25, o_xI 14), (26, o_i2l), (27, o_vv yX4_tell 4 2), (30, o_vr)]
set_option maxRecDepth 20000 in
theorem pkX10_tell {G : zG} (hG : zGok G) (Q : zRt) : zPOK G (zRm 1) RX10 cX10_tell 3 none (zF G Q 0 0) 0 0 (zCalls G 1) Q pgX10_tell := by
  refine And.intro (k_aload_n (pc := 0) (by decide +kernel : decode cX10_tell 0 = .ok (.aload_n 0, 1)) rfl) ?_
  refine And.intro (k_iload_n (pc := 1) (by decide +kernel : decode cX10_tell 1 = .ok (.iload_n 1, 1)) rfl) ?_
  refine And.intro (k_crV (n := 1) (pc := 2) hG (zRoom_self 1) (tag := 10) rfl ini_X10 im_X10_has se_X10_has mk_X10_34 dy_X10_has (by decide +kernel : decode cX10_tell 2 = .ok (.invokevirtual 34, 3))) ?_
  refine And.intro (k_if_eq (pc := 5) (by decide +kernel : decode cX10_tell 5 = .ok (.ifCond .eq 25, 3)) (by decide)) ?_
  refine And.intro (k_aload_n (pc := 8) (by decide +kernel : decode cX10_tell 8 = .ok (.aload_n 2, 1)) rfl) ?_
  refine And.intro (k_aload_n (pc := 9) (by decide +kernel : decode cX10_tell 9 = .ok (.aload_n 0, 1)) rfl) ?_
  refine And.intro (k_gR (pc := 10) rfl (by decide) rfl zin10 lk_X10_18 (by decide +kernel : decode cX10_tell 10 = .ok (.getfield 18, 3))) ?_
  refine And.intro (k_iload_n (pc := 13) (by decide +kernel : decode cX10_tell 13 = .ok (.iload_n 1, 1)) rfl) ?_
  refine And.intro (k_iald (pc := 14) (by decide +kernel : decode cX10_tell 14 = .ok (.iaload, 1))) ?_
  refine And.intro (k_i2l (pc := 15) (by decide +kernel : decode cX10_tell 15 = .ok (.i2l, 1))) ?_
  refine And.intro (k_cvV (n := 1) (pc := 16) hG (zRoom_self 1) (tag := 4) rfl ini_X4 im_X4_tell se_X4_tell mk_X10_38 dy_X4_tell (by decide +kernel : decode cX10_tell 16 = .ok (.invokevirtual 38, 3))) ?_
  refine And.intro (k_aload_n (pc := 19) (by decide +kernel : decode cX10_tell 19 = .ok (.aload_n 2, 1)) rfl) ?_
  refine And.intro (k_aload_n (pc := 20) (by decide +kernel : decode cX10_tell 20 = .ok (.aload_n 0, 1)) rfl) ?_
  refine And.intro (k_gR (pc := 21) rfl (by decide) rfl zin10 lk_X10_22 (by decide +kernel : decode cX10_tell 21 = .ok (.getfield 22, 3))) ?_
  refine And.intro (k_iload_n (pc := 24) (by decide +kernel : decode cX10_tell 24 = .ok (.iload_n 1, 1)) rfl) ?_
  refine And.intro (k_iald (pc := 25) (by decide +kernel : decode cX10_tell 25 = .ok (.iaload, 1))) ?_
  refine And.intro (k_i2l (pc := 26) (by decide +kernel : decode cX10_tell 26 = .ok (.i2l, 1))) ?_
  refine And.intro (k_cvV (n := 1) (pc := 27) hG (zRoom_self 1) (tag := 4) rfl ini_X4 im_X4_tell se_X4_tell mk_X10_38 dy_X4_tell (by decide +kernel : decode cX10_tell 27 = .ok (.invokevirtual 38, 3))) ?_
  refine And.intro (k_return (pc := 30) rfl (by decide +kernel : decode cX10_tell 30 = .ok (.return_, 1))) ?_
  exact trivial
theorem cdX10_tell : Cond.code yX10_tell cX10_tell 3 none ∈ zWs := zWs_in 844 (by decide +kernel) rfl
noncomputable def pgX10_above : zPg := [(0, o_ic (0)), (1, o_is 7), (3, o_ic (0)), (4, o_is 8), (6, o_il 8), (8, o_al 0), (9, o_gI 10 0), (12, o_ic_ge 38), (15, o_al 0), (16, o_il 8), (18, o_ll 1), (19, o_ll 3), (20, o_vr2 yX10_sum 10 4), (23, o_ll 5), (25, o_lc_le 32), (29, o_inc 7 (1)), (32, o_inc 8 (1)), (35, o_go 6), (38, o_il 7), (40, o_ir)]
set_option maxRecDepth 20000 in
theorem pkX10_above {G : zG} (hG : zGok G) (Q : zRt) : zPOK G (zRm 2) RX10 cX10_above 9 (some .int) (zF G Q 0 0) 0 0 (zCalls G 2) Q pgX10_above := by
  refine And.intro (k_iconst (pc := 0) (by decide +kernel : decode cX10_above 0 = .ok (.iconst 0, 1)) (by decide)) ?_
  refine And.intro (k_istore (pc := 1) (by decide +kernel : decode cX10_above 1 = .ok (.istore 7, 2))) ?_
  refine And.intro (k_iconst (pc := 3) (by decide +kernel : decode cX10_above 3 = .ok (.iconst 0, 1)) (by decide)) ?_
  refine And.intro (k_istore (pc := 4) (by decide +kernel : decode cX10_above 4 = .ok (.istore 8, 2))) ?_
  refine And.intro (k_iload (pc := 6) (by decide +kernel : decode cX10_above 6 = .ok (.iload 8, 2))) ?_
  refine And.intro (k_aload_n (pc := 8) (by decide +kernel : decode cX10_above 8 = .ok (.aload_n 0, 1)) rfl) ?_
  refine And.intro (k_gI (pc := 9) rfl (by decide) rfl zin10 lk_X10_9 (by decide +kernel : decode cX10_above 9 = .ok (.getfield 9, 3))) ?_
  refine And.intro (k_icmp_ge (pc := 12) (by decide +kernel : decode cX10_above 12 = .ok (.if_icmp .ge 26, 3)) (by decide)) ?_
  refine And.intro (k_aload_n (pc := 15) (by decide +kernel : decode cX10_above 15 = .ok (.aload_n 0, 1)) rfl) ?_
  refine And.intro (k_iload (pc := 16) (by decide +kernel : decode cX10_above 16 = .ok (.iload 8, 2))) ?_
  refine And.intro (k_lload_n (pc := 18) (by decide +kernel : decode cX10_above 18 = .ok (.lload_n 1, 1)) rfl) ?_
  refine And.intro (k_lload_n (pc := 19) (by decide +kernel : decode cX10_above 19 = .ok (.lload_n 3, 1)) rfl) ?_
  refine And.intro (k_crV (n := 3) (pc := 20) hG (zRoom_self 2) (tag := 10) rfl ini_X10 im_X10_sum se_X10_sum mk_X10_44 dy_X10_sum (by decide +kernel : decode cX10_above 20 = .ok (.invokevirtual 44, 3))) ?_
  refine And.intro (k_lload (pc := 23) (by decide +kernel : decode cX10_above 23 = .ok (.lload 5, 2))) ?_
  refine And.intro (k_lcmp_le (pc := 25) (by decide +kernel : decode cX10_above 25 = .ok (.lcmp, 1)) (by decide +kernel : decode cX10_above 26 = .ok (.ifCond .le 6, 3)) (by decide)) ?_
  refine And.intro (k_iinc (pc := 29) (by decide +kernel : decode cX10_above 29 = .ok (.iinc 7 1, 3)) (by decide)) ?_
  refine And.intro (k_iinc (pc := 32) (by decide +kernel : decode cX10_above 32 = .ok (.iinc 8 1, 3)) (by decide)) ?_
  refine And.intro (k_goto (pc := 35) (by decide +kernel : decode cX10_above 35 = .ok (.goto (-29), 3)) (by decide)) ?_
  refine And.intro (k_iload (pc := 38) (by decide +kernel : decode cX10_above 38 = .ok (.iload 7, 2))) ?_
  refine And.intro (k_ireturn (pc := 40) rfl (by decide +kernel : decode cX10_above 40 = .ok (.ireturn, 1))) ?_
  exact trivial
theorem cdX10_above : Cond.code yX10_above cX10_above 9 (some .int) ∈ zWs := zWs_in 811 (by decide +kernel) rfl
noncomputable def pgX10_cutOff : zPg := [(0, o_ic (0)), (1, o_is 2), (2, o_ic (0)), (3, o_is 3), (4, o_il 3), (5, o_al 0), (6, o_gI 10 0), (9, o_ic_ge 92), (12, o_il 3), (13, o_al 0), (14, o_gR 10 2), (17, o_len), (18, o_ic_ge 92), (21, o_ic (0)), (22, o_is 4), (24, o_ic (0)), (25, o_is 5), (27, o_il 5), (29, o_al 1), (30, o_gI 5 1), (33, o_ic_ge 78), (36, o_il 4), (38, o_if_ne 65), (41, o_al 1), (42, o_il 5), (44, o_al 0), (45, o_gR 10 2), (48, o_il 3), (49, o_xI 14), (50, o_al 0), (51, o_gR 10 3), (54, o_il 3), (55, o_xI 14), (56, o_ic (1)), (57, o_vr2 yX5_cutExcess 5 5), (60, o_lc 0), (61, o_lc_le 69), (65, o_ic (1)), (66, o_go 70), (69, o_ic (0)), (70, o_is 4), (72, o_inc 5 (1)), (75, o_go 27), (78, o_il 4), (80, o_if_eq 86), (83, o_inc 2 (1)), (86, o_inc 3 (1)), (89, o_go 4), (92, o_il 2), (93, o_ir)]
set_option maxRecDepth 20000 in
theorem pkX10_cutOff {G : zG} (hG : zGok G) (Q : zRt) : zPOK G (zRm 2) RX10 cX10_cutOff 6 (some .int) (zF G Q 0 0) 0 0 (zCalls G 2) Q pgX10_cutOff := by
  refine And.intro (k_iconst (pc := 0) (by decide +kernel : decode cX10_cutOff 0 = .ok (.iconst 0, 1)) (by decide)) ?_
  refine And.intro (k_istore_n (pc := 1) (by decide +kernel : decode cX10_cutOff 1 = .ok (.istore_n 2, 1)) rfl) ?_
  refine And.intro (k_iconst (pc := 2) (by decide +kernel : decode cX10_cutOff 2 = .ok (.iconst 0, 1)) (by decide)) ?_
  refine And.intro (k_istore_n (pc := 3) (by decide +kernel : decode cX10_cutOff 3 = .ok (.istore_n 3, 1)) rfl) ?_
  refine And.intro (k_iload_n (pc := 4) (by decide +kernel : decode cX10_cutOff 4 = .ok (.iload_n 3, 1)) rfl) ?_
  refine And.intro (k_aload_n (pc := 5) (by decide +kernel : decode cX10_cutOff 5 = .ok (.aload_n 0, 1)) rfl) ?_
  refine And.intro (k_gI (pc := 6) rfl (by decide) rfl zin10 lk_X10_9 (by decide +kernel : decode cX10_cutOff 6 = .ok (.getfield 9, 3))) ?_
  refine And.intro (k_icmp_ge (pc := 9) (by decide +kernel : decode cX10_cutOff 9 = .ok (.if_icmp .ge 83, 3)) (by decide)) ?_
  refine And.intro (k_iload_n (pc := 12) (by decide +kernel : decode cX10_cutOff 12 = .ok (.iload_n 3, 1)) rfl) ?_
  refine And.intro (k_aload_n (pc := 13) (by decide +kernel : decode cX10_cutOff 13 = .ok (.aload_n 0, 1)) rfl) ?_
  refine And.intro (k_gR (pc := 14) rfl (by decide) rfl zin10 lk_X10_18 (by decide +kernel : decode cX10_cutOff 14 = .ok (.getfield 18, 3))) ?_
  refine And.intro (k_alen (pc := 17) (by decide +kernel : decode cX10_cutOff 17 = .ok (.arraylength, 1))) ?_
  refine And.intro (k_icmp_ge (pc := 18) (by decide +kernel : decode cX10_cutOff 18 = .ok (.if_icmp .ge 74, 3)) (by decide)) ?_
  refine And.intro (k_iconst (pc := 21) (by decide +kernel : decode cX10_cutOff 21 = .ok (.iconst 0, 1)) (by decide)) ?_
  refine And.intro (k_istore (pc := 22) (by decide +kernel : decode cX10_cutOff 22 = .ok (.istore 4, 2))) ?_
  refine And.intro (k_iconst (pc := 24) (by decide +kernel : decode cX10_cutOff 24 = .ok (.iconst 0, 1)) (by decide)) ?_
  refine And.intro (k_istore (pc := 25) (by decide +kernel : decode cX10_cutOff 25 = .ok (.istore 5, 2))) ?_
  refine And.intro (k_iload (pc := 27) (by decide +kernel : decode cX10_cutOff 27 = .ok (.iload 5, 2))) ?_
  refine And.intro (k_aload_n (pc := 29) (by decide +kernel : decode cX10_cutOff 29 = .ok (.aload_n 1, 1)) rfl) ?_
  refine And.intro (k_gI (pc := 30) rfl (by decide) rfl zin5 lk_X10_48 (by decide +kernel : decode cX10_cutOff 30 = .ok (.getfield 48, 3))) ?_
  refine And.intro (k_icmp_ge (pc := 33) (by decide +kernel : decode cX10_cutOff 33 = .ok (.if_icmp .ge 45, 3)) (by decide)) ?_
  refine And.intro (k_iload (pc := 36) (by decide +kernel : decode cX10_cutOff 36 = .ok (.iload 4, 2))) ?_
  refine And.intro (k_if_ne (pc := 38) (by decide +kernel : decode cX10_cutOff 38 = .ok (.ifCond .ne 27, 3)) (by decide)) ?_
  refine And.intro (k_aload_n (pc := 41) (by decide +kernel : decode cX10_cutOff 41 = .ok (.aload_n 1, 1)) rfl) ?_
  refine And.intro (k_iload (pc := 42) (by decide +kernel : decode cX10_cutOff 42 = .ok (.iload 5, 2))) ?_
  refine And.intro (k_aload_n (pc := 44) (by decide +kernel : decode cX10_cutOff 44 = .ok (.aload_n 0, 1)) rfl) ?_
  refine And.intro (k_gR (pc := 45) rfl (by decide) rfl zin10 lk_X10_18 (by decide +kernel : decode cX10_cutOff 45 = .ok (.getfield 18, 3))) ?_
  refine And.intro (k_iload_n (pc := 48) (by decide +kernel : decode cX10_cutOff 48 = .ok (.iload_n 3, 1)) rfl) ?_
  refine And.intro (k_iald (pc := 49) (by decide +kernel : decode cX10_cutOff 49 = .ok (.iaload, 1))) ?_
  refine And.intro (k_aload_n (pc := 50) (by decide +kernel : decode cX10_cutOff 50 = .ok (.aload_n 0, 1)) rfl) ?_
  refine And.intro (k_gR (pc := 51) rfl (by decide) rfl zin10 lk_X10_22 (by decide +kernel : decode cX10_cutOff 51 = .ok (.getfield 22, 3))) ?_
  refine And.intro (k_iload_n (pc := 54) (by decide +kernel : decode cX10_cutOff 54 = .ok (.iload_n 3, 1)) rfl) ?_
  refine And.intro (k_iald (pc := 55) (by decide +kernel : decode cX10_cutOff 55 = .ok (.iaload, 1))) ?_
  refine And.intro (k_iconst (pc := 56) (by decide +kernel : decode cX10_cutOff 56 = .ok (.iconst 1, 1)) (by decide)) ?_
  refine And.intro (k_crV (n := 4) (pc := 57) hG (zRoom_self 2) (tag := 5) rfl ini_X5 im_X5_cutExcess se_X5_cutExcess mk_X10_51 dy_X5_cutExcess (by decide +kernel : decode cX10_cutOff 57 = .ok (.invokevirtual 51, 3))) ?_
  refine And.intro (k_lconst (pc := 60) (by decide +kernel : decode cX10_cutOff 60 = .ok (.lconst 0, 1)) (by decide)) ?_
  refine And.intro (k_lcmp_le (pc := 61) (by decide +kernel : decode cX10_cutOff 61 = .ok (.lcmp, 1)) (by decide +kernel : decode cX10_cutOff 62 = .ok (.ifCond .le 7, 3)) (by decide)) ?_
  refine And.intro (k_iconst (pc := 65) (by decide +kernel : decode cX10_cutOff 65 = .ok (.iconst 1, 1)) (by decide)) ?_
  refine And.intro (k_goto (pc := 66) (by decide +kernel : decode cX10_cutOff 66 = .ok (.goto 4, 3)) (by decide)) ?_
  refine And.intro (k_iconst (pc := 69) (by decide +kernel : decode cX10_cutOff 69 = .ok (.iconst 0, 1)) (by decide)) ?_
  refine And.intro (k_istore (pc := 70) (by decide +kernel : decode cX10_cutOff 70 = .ok (.istore 4, 2))) ?_
  refine And.intro (k_iinc (pc := 72) (by decide +kernel : decode cX10_cutOff 72 = .ok (.iinc 5 1, 3)) (by decide)) ?_
  refine And.intro (k_goto (pc := 75) (by decide +kernel : decode cX10_cutOff 75 = .ok (.goto (-48), 3)) (by decide)) ?_
  refine And.intro (k_iload (pc := 78) (by decide +kernel : decode cX10_cutOff 78 = .ok (.iload 4, 2))) ?_
  refine And.intro (k_if_eq (pc := 80) (by decide +kernel : decode cX10_cutOff 80 = .ok (.ifCond .eq 6, 3)) (by decide)) ?_
  refine And.intro (k_iinc (pc := 83) (by decide +kernel : decode cX10_cutOff 83 = .ok (.iinc 2 1, 3)) (by decide)) ?_
  refine And.intro (k_iinc (pc := 86) (by decide +kernel : decode cX10_cutOff 86 = .ok (.iinc 3 1, 3)) (by decide)) ?_
  refine And.intro (k_goto (pc := 89) (by decide +kernel : decode cX10_cutOff 89 = .ok (.goto (-85), 3)) (by decide)) ?_
  refine And.intro (k_iload_n (pc := 92) (by decide +kernel : decode cX10_cutOff 92 = .ok (.iload_n 2, 1)) rfl) ?_
  refine And.intro (k_ireturn (pc := 93) rfl (by decide +kernel : decode cX10_cutOff 93 = .ok (.ireturn, 1))) ?_
  exact trivial
theorem cdX10_cutOff : Cond.code yX10_cutOff cX10_cutOff 6 (some .int) ∈ zWs := zWs_in 1011 (by decide +kernel) rfl
noncomputable def pgX10_distance : zPg := [(0, o_al 0), (1, o_il 1), (2, o_vr2 yX10_has 10 2), (5, o_if_ne 10), (8, o_lc 0), (9, o_lr), (10, o_al 0), (11, o_gR 10 2), (14, o_il 1), (15, o_xI 14), (16, o_i2l), (17, o_il 4), (19, o_i2l), (20, o_lmul), (21, o_il 2), (22, o_i2l), (23, o_lsub), (24, o_ls 5), (26, o_al 0), (27, o_gR 10 3), (30, o_il 1), (31, o_xI 14), (32, o_i2l), (33, o_il 4), (35, o_i2l), (36, o_lmul), (37, o_il 3), (38, o_i2l), (39, o_lsub), (40, o_ls 7), (42, o_ll 5), (44, o_ll 5), (46, o_lmul), (47, o_ll 7), (49, o_ll 7), (51, o_lmul), (52, o_ladd), (53, o_lr)]
set_option maxRecDepth 20000 in
theorem pkX10_distance {G : zG} (hG : zGok G) (Q : zRt) : zPOK G (zRm 1) RX10 cX10_distance 9 (some .long) (zF G Q 0 0) 0 0 (zCalls G 1) Q pgX10_distance := by
  refine And.intro (k_aload_n (pc := 0) (by decide +kernel : decode cX10_distance 0 = .ok (.aload_n 0, 1)) rfl) ?_
  refine And.intro (k_iload_n (pc := 1) (by decide +kernel : decode cX10_distance 1 = .ok (.iload_n 1, 1)) rfl) ?_
  refine And.intro (k_crV (n := 1) (pc := 2) hG (zRoom_self 1) (tag := 10) rfl ini_X10 im_X10_has se_X10_has mk_X10_34 dy_X10_has (by decide +kernel : decode cX10_distance 2 = .ok (.invokevirtual 34, 3))) ?_
  refine And.intro (k_if_ne (pc := 5) (by decide +kernel : decode cX10_distance 5 = .ok (.ifCond .ne 5, 3)) (by decide)) ?_
  refine And.intro (k_lconst (pc := 8) (by decide +kernel : decode cX10_distance 8 = .ok (.lconst 0, 1)) (by decide)) ?_
  refine And.intro (k_lreturn (pc := 9) rfl (by decide +kernel : decode cX10_distance 9 = .ok (.lreturn, 1))) ?_
  refine And.intro (k_aload_n (pc := 10) (by decide +kernel : decode cX10_distance 10 = .ok (.aload_n 0, 1)) rfl) ?_
  refine And.intro (k_gR (pc := 11) rfl (by decide) rfl zin10 lk_X10_18 (by decide +kernel : decode cX10_distance 11 = .ok (.getfield 18, 3))) ?_
  refine And.intro (k_iload_n (pc := 14) (by decide +kernel : decode cX10_distance 14 = .ok (.iload_n 1, 1)) rfl) ?_
  refine And.intro (k_iald (pc := 15) (by decide +kernel : decode cX10_distance 15 = .ok (.iaload, 1))) ?_
  refine And.intro (k_i2l (pc := 16) (by decide +kernel : decode cX10_distance 16 = .ok (.i2l, 1))) ?_
  refine And.intro (k_iload (pc := 17) (by decide +kernel : decode cX10_distance 17 = .ok (.iload 4, 2))) ?_
  refine And.intro (k_i2l (pc := 19) (by decide +kernel : decode cX10_distance 19 = .ok (.i2l, 1))) ?_
  refine And.intro (k_lmul (pc := 20) (by decide +kernel : decode cX10_distance 20 = .ok (.lmul, 1))) ?_
  refine And.intro (k_iload_n (pc := 21) (by decide +kernel : decode cX10_distance 21 = .ok (.iload_n 2, 1)) rfl) ?_
  refine And.intro (k_i2l (pc := 22) (by decide +kernel : decode cX10_distance 22 = .ok (.i2l, 1))) ?_
  refine And.intro (k_lsub (pc := 23) (by decide +kernel : decode cX10_distance 23 = .ok (.lsub, 1))) ?_
  refine And.intro (k_lstore (pc := 24) (by decide +kernel : decode cX10_distance 24 = .ok (.lstore 5, 2))) ?_
  refine And.intro (k_aload_n (pc := 26) (by decide +kernel : decode cX10_distance 26 = .ok (.aload_n 0, 1)) rfl) ?_
  refine And.intro (k_gR (pc := 27) rfl (by decide) rfl zin10 lk_X10_22 (by decide +kernel : decode cX10_distance 27 = .ok (.getfield 22, 3))) ?_
  refine And.intro (k_iload_n (pc := 30) (by decide +kernel : decode cX10_distance 30 = .ok (.iload_n 1, 1)) rfl) ?_
  refine And.intro (k_iald (pc := 31) (by decide +kernel : decode cX10_distance 31 = .ok (.iaload, 1))) ?_
  refine And.intro (k_i2l (pc := 32) (by decide +kernel : decode cX10_distance 32 = .ok (.i2l, 1))) ?_
  refine And.intro (k_iload (pc := 33) (by decide +kernel : decode cX10_distance 33 = .ok (.iload 4, 2))) ?_
  refine And.intro (k_i2l (pc := 35) (by decide +kernel : decode cX10_distance 35 = .ok (.i2l, 1))) ?_
  refine And.intro (k_lmul (pc := 36) (by decide +kernel : decode cX10_distance 36 = .ok (.lmul, 1))) ?_
  refine And.intro (k_iload_n (pc := 37) (by decide +kernel : decode cX10_distance 37 = .ok (.iload_n 3, 1)) rfl) ?_
  refine And.intro (k_i2l (pc := 38) (by decide +kernel : decode cX10_distance 38 = .ok (.i2l, 1))) ?_
  refine And.intro (k_lsub (pc := 39) (by decide +kernel : decode cX10_distance 39 = .ok (.lsub, 1))) ?_
  refine And.intro (k_lstore (pc := 40) (by decide +kernel : decode cX10_distance 40 = .ok (.lstore 7, 2))) ?_
  refine And.intro (k_lload (pc := 42) (by decide +kernel : decode cX10_distance 42 = .ok (.lload 5, 2))) ?_
  refine And.intro (k_lload (pc := 44) (by decide +kernel : decode cX10_distance 44 = .ok (.lload 5, 2))) ?_
  refine And.intro (k_lmul (pc := 46) (by decide +kernel : decode cX10_distance 46 = .ok (.lmul, 1))) ?_
  refine And.intro (k_lload (pc := 47) (by decide +kernel : decode cX10_distance 47 = .ok (.lload 7, 2))) ?_
  refine And.intro (k_lload (pc := 49) (by decide +kernel : decode cX10_distance 49 = .ok (.lload 7, 2))) ?_
  refine And.intro (k_lmul (pc := 51) (by decide +kernel : decode cX10_distance 51 = .ok (.lmul, 1))) ?_
  refine And.intro (k_ladd (pc := 52) (by decide +kernel : decode cX10_distance 52 = .ok (.ladd, 1))) ?_
  refine And.intro (k_lreturn (pc := 53) rfl (by decide +kernel : decode cX10_distance 53 = .ok (.lreturn, 1))) ?_
  exact trivial
theorem cdX10_distance : Cond.code yX10_distance cX10_distance 9 (some .long) ∈ zWs := zWs_in 869 (by decide +kernel) rfl
noncomputable def pgX10_turn : zPg := [(0, o_al 0), (1, o_il 1), (2, o_vr2 yX10_has 10 2), (5, o_if_eq 24), (8, o_al 0), (9, o_il 2), (10, o_vr2 yX10_has 10 2), (13, o_if_eq 24), (16, o_al 0), (17, o_il 3), (18, o_vr2 yX10_has 10 2), (21, o_if_ne 26), (24, o_ic (0)), (25, o_ir), (26, o_al 0), (27, o_gR 10 2), (30, o_il 2), (31, o_xI 14), (32, o_al 0), (33, o_gR 10 2), (36, o_il 1), (37, o_xI 14), (38, o_isub), (39, o_al 0), (40, o_gR 10 3), (43, o_il 3), (44, o_xI 14), (45, o_al 0), (46, o_gR 10 3), (49, o_il 1), (50, o_xI 14), (51, o_isub), (52, o_imul), (53, o_al 0), (54, o_gR 10 3), (57, o_il 2), (58, o_xI 14), (59, o_al 0), (60, o_gR 10 3), (63, o_il 1), (64, o_xI 14), (65, o_isub), (66, o_al 0), (67, o_gR 10 2), (70, o_il 3), (71, o_xI 14), (72, o_al 0), (73, o_gR 10 2), (76, o_il 1), (77, o_xI 14), (78, o_isub), (79, o_imul), (80, o_isub), (81, o_ir)]
set_option maxRecDepth 20000 in
theorem pkX10_turn {G : zG} (hG : zGok G) (Q : zRt) : zPOK G (zRm 1) RX10 cX10_turn 4 (some .int) (zF G Q 0 0) 0 0 (zCalls G 1) Q pgX10_turn := by
  refine And.intro (k_aload_n (pc := 0) (by decide +kernel : decode cX10_turn 0 = .ok (.aload_n 0, 1)) rfl) ?_
  refine And.intro (k_iload_n (pc := 1) (by decide +kernel : decode cX10_turn 1 = .ok (.iload_n 1, 1)) rfl) ?_
  refine And.intro (k_crV (n := 1) (pc := 2) hG (zRoom_self 1) (tag := 10) rfl ini_X10 im_X10_has se_X10_has mk_X10_34 dy_X10_has (by decide +kernel : decode cX10_turn 2 = .ok (.invokevirtual 34, 3))) ?_
  refine And.intro (k_if_eq (pc := 5) (by decide +kernel : decode cX10_turn 5 = .ok (.ifCond .eq 19, 3)) (by decide)) ?_
  refine And.intro (k_aload_n (pc := 8) (by decide +kernel : decode cX10_turn 8 = .ok (.aload_n 0, 1)) rfl) ?_
  refine And.intro (k_iload_n (pc := 9) (by decide +kernel : decode cX10_turn 9 = .ok (.iload_n 2, 1)) rfl) ?_
  refine And.intro (k_crV (n := 1) (pc := 10) hG (zRoom_self 1) (tag := 10) rfl ini_X10 im_X10_has se_X10_has mk_X10_34 dy_X10_has (by decide +kernel : decode cX10_turn 10 = .ok (.invokevirtual 34, 3))) ?_
  refine And.intro (k_if_eq (pc := 13) (by decide +kernel : decode cX10_turn 13 = .ok (.ifCond .eq 11, 3)) (by decide)) ?_
  refine And.intro (k_aload_n (pc := 16) (by decide +kernel : decode cX10_turn 16 = .ok (.aload_n 0, 1)) rfl) ?_
  refine And.intro (k_iload_n (pc := 17) (by decide +kernel : decode cX10_turn 17 = .ok (.iload_n 3, 1)) rfl) ?_
  refine And.intro (k_crV (n := 1) (pc := 18) hG (zRoom_self 1) (tag := 10) rfl ini_X10 im_X10_has se_X10_has mk_X10_34 dy_X10_has (by decide +kernel : decode cX10_turn 18 = .ok (.invokevirtual 34, 3))) ?_
  refine And.intro (k_if_ne (pc := 21) (by decide +kernel : decode cX10_turn 21 = .ok (.ifCond .ne 5, 3)) (by decide)) ?_
  refine And.intro (k_iconst (pc := 24) (by decide +kernel : decode cX10_turn 24 = .ok (.iconst 0, 1)) (by decide)) ?_
  refine And.intro (k_ireturn (pc := 25) rfl (by decide +kernel : decode cX10_turn 25 = .ok (.ireturn, 1))) ?_
  refine And.intro (k_aload_n (pc := 26) (by decide +kernel : decode cX10_turn 26 = .ok (.aload_n 0, 1)) rfl) ?_
  refine And.intro (k_gR (pc := 27) rfl (by decide) rfl zin10 lk_X10_18 (by decide +kernel : decode cX10_turn 27 = .ok (.getfield 18, 3))) ?_
  refine And.intro (k_iload_n (pc := 30) (by decide +kernel : decode cX10_turn 30 = .ok (.iload_n 2, 1)) rfl) ?_
  refine And.intro (k_iald (pc := 31) (by decide +kernel : decode cX10_turn 31 = .ok (.iaload, 1))) ?_
  refine And.intro (k_aload_n (pc := 32) (by decide +kernel : decode cX10_turn 32 = .ok (.aload_n 0, 1)) rfl) ?_
  refine And.intro (k_gR (pc := 33) rfl (by decide) rfl zin10 lk_X10_18 (by decide +kernel : decode cX10_turn 33 = .ok (.getfield 18, 3))) ?_
  refine And.intro (k_iload_n (pc := 36) (by decide +kernel : decode cX10_turn 36 = .ok (.iload_n 1, 1)) rfl) ?_
  refine And.intro (k_iald (pc := 37) (by decide +kernel : decode cX10_turn 37 = .ok (.iaload, 1))) ?_
  refine And.intro (k_isub (pc := 38) (by decide +kernel : decode cX10_turn 38 = .ok (.isub, 1))) ?_
  refine And.intro (k_aload_n (pc := 39) (by decide +kernel : decode cX10_turn 39 = .ok (.aload_n 0, 1)) rfl) ?_
  refine And.intro (k_gR (pc := 40) rfl (by decide) rfl zin10 lk_X10_22 (by decide +kernel : decode cX10_turn 40 = .ok (.getfield 22, 3))) ?_
  refine And.intro (k_iload_n (pc := 43) (by decide +kernel : decode cX10_turn 43 = .ok (.iload_n 3, 1)) rfl) ?_
  refine And.intro (k_iald (pc := 44) (by decide +kernel : decode cX10_turn 44 = .ok (.iaload, 1))) ?_
  refine And.intro (k_aload_n (pc := 45) (by decide +kernel : decode cX10_turn 45 = .ok (.aload_n 0, 1)) rfl) ?_
  refine And.intro (k_gR (pc := 46) rfl (by decide) rfl zin10 lk_X10_22 (by decide +kernel : decode cX10_turn 46 = .ok (.getfield 22, 3))) ?_
  refine And.intro (k_iload_n (pc := 49) (by decide +kernel : decode cX10_turn 49 = .ok (.iload_n 1, 1)) rfl) ?_
  refine And.intro (k_iald (pc := 50) (by decide +kernel : decode cX10_turn 50 = .ok (.iaload, 1))) ?_
  refine And.intro (k_isub (pc := 51) (by decide +kernel : decode cX10_turn 51 = .ok (.isub, 1))) ?_
  refine And.intro (k_imul (pc := 52) (by decide +kernel : decode cX10_turn 52 = .ok (.imul, 1))) ?_
  refine And.intro (k_aload_n (pc := 53) (by decide +kernel : decode cX10_turn 53 = .ok (.aload_n 0, 1)) rfl) ?_
  refine And.intro (k_gR (pc := 54) rfl (by decide) rfl zin10 lk_X10_22 (by decide +kernel : decode cX10_turn 54 = .ok (.getfield 22, 3))) ?_
  refine And.intro (k_iload_n (pc := 57) (by decide +kernel : decode cX10_turn 57 = .ok (.iload_n 2, 1)) rfl) ?_
  refine And.intro (k_iald (pc := 58) (by decide +kernel : decode cX10_turn 58 = .ok (.iaload, 1))) ?_
  refine And.intro (k_aload_n (pc := 59) (by decide +kernel : decode cX10_turn 59 = .ok (.aload_n 0, 1)) rfl) ?_
  refine And.intro (k_gR (pc := 60) rfl (by decide) rfl zin10 lk_X10_22 (by decide +kernel : decode cX10_turn 60 = .ok (.getfield 22, 3))) ?_
  refine And.intro (k_iload_n (pc := 63) (by decide +kernel : decode cX10_turn 63 = .ok (.iload_n 1, 1)) rfl) ?_
  refine And.intro (k_iald (pc := 64) (by decide +kernel : decode cX10_turn 64 = .ok (.iaload, 1))) ?_
  refine And.intro (k_isub (pc := 65) (by decide +kernel : decode cX10_turn 65 = .ok (.isub, 1))) ?_
  refine And.intro (k_aload_n (pc := 66) (by decide +kernel : decode cX10_turn 66 = .ok (.aload_n 0, 1)) rfl) ?_
  refine And.intro (k_gR (pc := 67) rfl (by decide) rfl zin10 lk_X10_18 (by decide +kernel : decode cX10_turn 67 = .ok (.getfield 18, 3))) ?_
  refine And.intro (k_iload_n (pc := 70) (by decide +kernel : decode cX10_turn 70 = .ok (.iload_n 3, 1)) rfl) ?_
  refine And.intro (k_iald (pc := 71) (by decide +kernel : decode cX10_turn 71 = .ok (.iaload, 1))) ?_
  refine And.intro (k_aload_n (pc := 72) (by decide +kernel : decode cX10_turn 72 = .ok (.aload_n 0, 1)) rfl) ?_
  refine And.intro (k_gR (pc := 73) rfl (by decide) rfl zin10 lk_X10_18 (by decide +kernel : decode cX10_turn 73 = .ok (.getfield 18, 3))) ?_
  refine And.intro (k_iload_n (pc := 76) (by decide +kernel : decode cX10_turn 76 = .ok (.iload_n 1, 1)) rfl) ?_
  refine And.intro (k_iald (pc := 77) (by decide +kernel : decode cX10_turn 77 = .ok (.iaload, 1))) ?_
  refine And.intro (k_isub (pc := 78) (by decide +kernel : decode cX10_turn 78 = .ok (.isub, 1))) ?_
  refine And.intro (k_imul (pc := 79) (by decide +kernel : decode cX10_turn 79 = .ok (.imul, 1))) ?_
  refine And.intro (k_isub (pc := 80) (by decide +kernel : decode cX10_turn 80 = .ok (.isub, 1))) ?_
  refine And.intro (k_ireturn (pc := 81) rfl (by decide +kernel : decode cX10_turn 81 = .ok (.ireturn, 1))) ?_
  exact trivial
theorem cdX10_turn : Cond.code yX10_turn cX10_turn 4 (some .int) ∈ zWs := zWs_in 861 (by decide +kernel) rfl
noncomputable def pgX10_link : zPg := [(0, o_al 0), (1, o_gI 10 1), (4, o_ic (2)), (5, o_ic_lt 71), (8, o_al 0), (9, o_gI 10 1), (12, o_il 2), (13, o_ic_lt 71), (16, o_al 0), (17, o_gI 10 1), (20, o_al 0), (21, o_gR 10 4), (24, o_len), (25, o_ic_gt 71), (28, o_al 0), (29, o_al 0), (30, o_gR 10 4), (33, o_al 0), (34, o_gI 10 1), (37, o_ic (2)), (38, o_isub), (39, o_xI 14), (40, o_al 0), (41, o_gR 10 4), (44, o_al 0), (45, o_gI 10 1), (48, o_ic (1)), (49, o_isub), (50, o_xI 14), (51, o_il 1), (52, o_vr2 yX10_turn 10 4), (55, o_if_gt 71), (58, o_al 0), (59, o_dup), (60, o_gI 10 1), (63, o_ic (1)), (64, o_isub), (65, o_pI 10 1), (68, o_go 0), (71, o_al 0), (72, o_gI 10 1), (75, o_if_lt 110), (78, o_al 0), (79, o_gI 10 1), (82, o_al 0), (83, o_gR 10 4), (86, o_len), (87, o_ic_ge 110), (90, o_al 0), (91, o_gR 10 4), (94, o_al 0), (95, o_gI 10 1), (98, o_il 1), (99, o_yI), (100, o_al 0), (101, o_dup), (102, o_gI 10 1), (105, o_ic (1)), (106, o_iadd), (107, o_pI 10 1), (110, o_vr)]
set_option maxRecDepth 20000 in
theorem pkX10_link {G : zG} (hG : zGok G) (Q : zRt) : zPOK G (zRm 2) RX10 cX10_link 3 none (zF G Q 0 0) 0 0 (zCalls G 2) Q pgX10_link := by
  refine And.intro (k_aload_n (pc := 0) (by decide +kernel : decode cX10_link 0 = .ok (.aload_n 0, 1)) rfl) ?_
  refine And.intro (k_gI (pc := 1) rfl (by decide) rfl zin10 lk_X10_15 (by decide +kernel : decode cX10_link 1 = .ok (.getfield 15, 3))) ?_
  refine And.intro (k_iconst (pc := 4) (by decide +kernel : decode cX10_link 4 = .ok (.iconst 2, 1)) (by decide)) ?_
  refine And.intro (k_icmp_lt (pc := 5) (by decide +kernel : decode cX10_link 5 = .ok (.if_icmp .lt 66, 3)) (by decide)) ?_
  refine And.intro (k_aload_n (pc := 8) (by decide +kernel : decode cX10_link 8 = .ok (.aload_n 0, 1)) rfl) ?_
  refine And.intro (k_gI (pc := 9) rfl (by decide) rfl zin10 lk_X10_15 (by decide +kernel : decode cX10_link 9 = .ok (.getfield 15, 3))) ?_
  refine And.intro (k_iload_n (pc := 12) (by decide +kernel : decode cX10_link 12 = .ok (.iload_n 2, 1)) rfl) ?_
  refine And.intro (k_icmp_lt (pc := 13) (by decide +kernel : decode cX10_link 13 = .ok (.if_icmp .lt 58, 3)) (by decide)) ?_
  refine And.intro (k_aload_n (pc := 16) (by decide +kernel : decode cX10_link 16 = .ok (.aload_n 0, 1)) rfl) ?_
  refine And.intro (k_gI (pc := 17) rfl (by decide) rfl zin10 lk_X10_15 (by decide +kernel : decode cX10_link 17 = .ok (.getfield 15, 3))) ?_
  refine And.intro (k_aload_n (pc := 20) (by decide +kernel : decode cX10_link 20 = .ok (.aload_n 0, 1)) rfl) ?_
  refine And.intro (k_gR (pc := 21) rfl (by decide) rfl zin10 lk_X10_25 (by decide +kernel : decode cX10_link 21 = .ok (.getfield 25, 3))) ?_
  refine And.intro (k_alen (pc := 24) (by decide +kernel : decode cX10_link 24 = .ok (.arraylength, 1))) ?_
  refine And.intro (k_icmp_gt (pc := 25) (by decide +kernel : decode cX10_link 25 = .ok (.if_icmp .gt 46, 3)) (by decide)) ?_
  refine And.intro (k_aload_n (pc := 28) (by decide +kernel : decode cX10_link 28 = .ok (.aload_n 0, 1)) rfl) ?_
  refine And.intro (k_aload_n (pc := 29) (by decide +kernel : decode cX10_link 29 = .ok (.aload_n 0, 1)) rfl) ?_
  refine And.intro (k_gR (pc := 30) rfl (by decide) rfl zin10 lk_X10_25 (by decide +kernel : decode cX10_link 30 = .ok (.getfield 25, 3))) ?_
  refine And.intro (k_aload_n (pc := 33) (by decide +kernel : decode cX10_link 33 = .ok (.aload_n 0, 1)) rfl) ?_
  refine And.intro (k_gI (pc := 34) rfl (by decide) rfl zin10 lk_X10_15 (by decide +kernel : decode cX10_link 34 = .ok (.getfield 15, 3))) ?_
  refine And.intro (k_iconst (pc := 37) (by decide +kernel : decode cX10_link 37 = .ok (.iconst 2, 1)) (by decide)) ?_
  refine And.intro (k_isub (pc := 38) (by decide +kernel : decode cX10_link 38 = .ok (.isub, 1))) ?_
  refine And.intro (k_iald (pc := 39) (by decide +kernel : decode cX10_link 39 = .ok (.iaload, 1))) ?_
  refine And.intro (k_aload_n (pc := 40) (by decide +kernel : decode cX10_link 40 = .ok (.aload_n 0, 1)) rfl) ?_
  refine And.intro (k_gR (pc := 41) rfl (by decide) rfl zin10 lk_X10_25 (by decide +kernel : decode cX10_link 41 = .ok (.getfield 25, 3))) ?_
  refine And.intro (k_aload_n (pc := 44) (by decide +kernel : decode cX10_link 44 = .ok (.aload_n 0, 1)) rfl) ?_
  refine And.intro (k_gI (pc := 45) rfl (by decide) rfl zin10 lk_X10_15 (by decide +kernel : decode cX10_link 45 = .ok (.getfield 15, 3))) ?_
  refine And.intro (k_iconst (pc := 48) (by decide +kernel : decode cX10_link 48 = .ok (.iconst 1, 1)) (by decide)) ?_
  refine And.intro (k_isub (pc := 49) (by decide +kernel : decode cX10_link 49 = .ok (.isub, 1))) ?_
  refine And.intro (k_iald (pc := 50) (by decide +kernel : decode cX10_link 50 = .ok (.iaload, 1))) ?_
  refine And.intro (k_iload_n (pc := 51) (by decide +kernel : decode cX10_link 51 = .ok (.iload_n 1, 1)) rfl) ?_
  refine And.intro (k_crV (n := 3) (pc := 52) hG (zRoom_self 2) (tag := 10) rfl ini_X10 im_X10_turn se_X10_turn mk_X10_59 dy_X10_turn (by decide +kernel : decode cX10_link 52 = .ok (.invokevirtual 59, 3))) ?_
  refine And.intro (k_if_gt (pc := 55) (by decide +kernel : decode cX10_link 55 = .ok (.ifCond .gt 16, 3)) (by decide)) ?_
  refine And.intro (k_aload_n (pc := 58) (by decide +kernel : decode cX10_link 58 = .ok (.aload_n 0, 1)) rfl) ?_
  refine And.intro (k_dup (pc := 59) (by decide +kernel : decode cX10_link 59 = .ok (.dup, 1))) ?_
  refine And.intro (k_gI (pc := 60) rfl (by decide) rfl zin10 lk_X10_15 (by decide +kernel : decode cX10_link 60 = .ok (.getfield 15, 3))) ?_
  refine And.intro (k_iconst (pc := 63) (by decide +kernel : decode cX10_link 63 = .ok (.iconst 1, 1)) (by decide)) ?_
  refine And.intro (k_isub (pc := 64) (by decide +kernel : decode cX10_link 64 = .ok (.isub, 1))) ?_
  refine And.intro (k_pI (pc := 65) rfl (by decide) rfl zin10 lk_X10_15 tyX10_ok nmX10 rfl (by decide +kernel) (by decide +kernel : decode cX10_link 65 = .ok (.putfield 15, 3))) ?_
  refine And.intro (k_goto (pc := 68) (by decide +kernel : decode cX10_link 68 = .ok (.goto (-68), 3)) (by decide)) ?_
  refine And.intro (k_aload_n (pc := 71) (by decide +kernel : decode cX10_link 71 = .ok (.aload_n 0, 1)) rfl) ?_
  refine And.intro (k_gI (pc := 72) rfl (by decide) rfl zin10 lk_X10_15 (by decide +kernel : decode cX10_link 72 = .ok (.getfield 15, 3))) ?_
  refine And.intro (k_if_lt (pc := 75) (by decide +kernel : decode cX10_link 75 = .ok (.ifCond .lt 35, 3)) (by decide)) ?_
  refine And.intro (k_aload_n (pc := 78) (by decide +kernel : decode cX10_link 78 = .ok (.aload_n 0, 1)) rfl) ?_
  refine And.intro (k_gI (pc := 79) rfl (by decide) rfl zin10 lk_X10_15 (by decide +kernel : decode cX10_link 79 = .ok (.getfield 15, 3))) ?_
  refine And.intro (k_aload_n (pc := 82) (by decide +kernel : decode cX10_link 82 = .ok (.aload_n 0, 1)) rfl) ?_
  refine And.intro (k_gR (pc := 83) rfl (by decide) rfl zin10 lk_X10_25 (by decide +kernel : decode cX10_link 83 = .ok (.getfield 25, 3))) ?_
  refine And.intro (k_alen (pc := 86) (by decide +kernel : decode cX10_link 86 = .ok (.arraylength, 1))) ?_
  refine And.intro (k_icmp_ge (pc := 87) (by decide +kernel : decode cX10_link 87 = .ok (.if_icmp .ge 23, 3)) (by decide)) ?_
  refine And.intro (k_aload_n (pc := 90) (by decide +kernel : decode cX10_link 90 = .ok (.aload_n 0, 1)) rfl) ?_
  refine And.intro (k_gR (pc := 91) rfl (by decide) rfl zin10 lk_X10_25 (by decide +kernel : decode cX10_link 91 = .ok (.getfield 25, 3))) ?_
  refine And.intro (k_aload_n (pc := 94) (by decide +kernel : decode cX10_link 94 = .ok (.aload_n 0, 1)) rfl) ?_
  refine And.intro (k_gI (pc := 95) rfl (by decide) rfl zin10 lk_X10_15 (by decide +kernel : decode cX10_link 95 = .ok (.getfield 15, 3))) ?_
  refine And.intro (k_iload_n (pc := 98) (by decide +kernel : decode cX10_link 98 = .ok (.iload_n 1, 1)) rfl) ?_
  refine And.intro (k_iast (pc := 99) (by decide +kernel : decode cX10_link 99 = .ok (.iastore, 1))) ?_
  refine And.intro (k_aload_n (pc := 100) (by decide +kernel : decode cX10_link 100 = .ok (.aload_n 0, 1)) rfl) ?_
  refine And.intro (k_dup (pc := 101) (by decide +kernel : decode cX10_link 101 = .ok (.dup, 1))) ?_
  refine And.intro (k_gI (pc := 102) rfl (by decide) rfl zin10 lk_X10_15 (by decide +kernel : decode cX10_link 102 = .ok (.getfield 15, 3))) ?_
  refine And.intro (k_iconst (pc := 105) (by decide +kernel : decode cX10_link 105 = .ok (.iconst 1, 1)) (by decide)) ?_
  refine And.intro (k_iadd (pc := 106) (by decide +kernel : decode cX10_link 106 = .ok (.iadd, 1))) ?_
  refine And.intro (k_pI (pc := 107) rfl (by decide) rfl zin10 lk_X10_15 tyX10_ok nmX10 rfl (by decide +kernel) (by decide +kernel : decode cX10_link 107 = .ok (.putfield 15, 3))) ?_
  refine And.intro (k_return (pc := 110) rfl (by decide +kernel : decode cX10_link 110 = .ok (.return_, 1))) ?_
  exact trivial
theorem cdX10_link : Cond.code yX10_link cX10_link 3 none ∈ zWs := zWs_in 857 (by decide +kernel) rfl
noncomputable def pgX10_findCorners : zPg := [(0, o_al 0), (1, o_ic (0)), (2, o_pI 10 1), (5, o_ic (0)), (6, o_is 1), (7, o_il 1), (8, o_al 0), (9, o_gI 10 0), (12, o_ic_ge 27), (15, o_al 0), (16, o_il 1), (17, o_ic (2)), (18, o_vv yX10_link 10 3), (21, o_inc 1 (1)), (24, o_go 7), (27, o_al 0), (28, o_gI 10 1), (31, o_is 1), (32, o_al 0), (33, o_gI 10 0), (36, o_ic (2)), (37, o_isub), (38, o_is 2), (39, o_il 2), (40, o_if_lt 57), (43, o_al 0), (44, o_il 2), (45, o_il 1), (46, o_ic (1)), (47, o_iadd), (48, o_vv yX10_link 10 3), (51, o_inc 2 (-1)), (54, o_go 39), (57, o_al 0), (58, o_gI 10 1), (61, o_ic (1)), (62, o_ic_le 75), (65, o_al 0), (66, o_dup), (67, o_gI 10 1), (70, o_ic (1)), (71, o_isub), (72, o_pI 10 1), (75, o_vr)]
set_option maxRecDepth 20000 in
theorem pkX10_findCorners {G : zG} (hG : zGok G) (Q : zRt) : zPOK G (zRm 3) RX10 cX10_findCorners 3 none (zF G Q 0 0) 0 0 (zCalls G 3) Q pgX10_findCorners := by
  refine And.intro (k_aload_n (pc := 0) (by decide +kernel : decode cX10_findCorners 0 = .ok (.aload_n 0, 1)) rfl) ?_
  refine And.intro (k_iconst (pc := 1) (by decide +kernel : decode cX10_findCorners 1 = .ok (.iconst 0, 1)) (by decide)) ?_
  refine And.intro (k_pI (pc := 2) rfl (by decide) rfl zin10 lk_X10_15 tyX10_ok nmX10 rfl (by decide +kernel) (by decide +kernel : decode cX10_findCorners 2 = .ok (.putfield 15, 3))) ?_
  refine And.intro (k_iconst (pc := 5) (by decide +kernel : decode cX10_findCorners 5 = .ok (.iconst 0, 1)) (by decide)) ?_
  refine And.intro (k_istore_n (pc := 6) (by decide +kernel : decode cX10_findCorners 6 = .ok (.istore_n 1, 1)) rfl) ?_
  refine And.intro (k_iload_n (pc := 7) (by decide +kernel : decode cX10_findCorners 7 = .ok (.iload_n 1, 1)) rfl) ?_
  refine And.intro (k_aload_n (pc := 8) (by decide +kernel : decode cX10_findCorners 8 = .ok (.aload_n 0, 1)) rfl) ?_
  refine And.intro (k_gI (pc := 9) rfl (by decide) rfl zin10 lk_X10_9 (by decide +kernel : decode cX10_findCorners 9 = .ok (.getfield 9, 3))) ?_
  refine And.intro (k_icmp_ge (pc := 12) (by decide +kernel : decode cX10_findCorners 12 = .ok (.if_icmp .ge 15, 3)) (by decide)) ?_
  refine And.intro (k_aload_n (pc := 15) (by decide +kernel : decode cX10_findCorners 15 = .ok (.aload_n 0, 1)) rfl) ?_
  refine And.intro (k_iload_n (pc := 16) (by decide +kernel : decode cX10_findCorners 16 = .ok (.iload_n 1, 1)) rfl) ?_
  refine And.intro (k_iconst (pc := 17) (by decide +kernel : decode cX10_findCorners 17 = .ok (.iconst 2, 1)) (by decide)) ?_
  refine And.intro (k_cvV (n := 2) (pc := 18) hG (zRoom_self 3) (tag := 10) rfl ini_X10 im_X10_link se_X10_link mk_X10_55 dy_X10_link (by decide +kernel : decode cX10_findCorners 18 = .ok (.invokevirtual 55, 3))) ?_
  refine And.intro (k_iinc (pc := 21) (by decide +kernel : decode cX10_findCorners 21 = .ok (.iinc 1 1, 3)) (by decide)) ?_
  refine And.intro (k_goto (pc := 24) (by decide +kernel : decode cX10_findCorners 24 = .ok (.goto (-17), 3)) (by decide)) ?_
  refine And.intro (k_aload_n (pc := 27) (by decide +kernel : decode cX10_findCorners 27 = .ok (.aload_n 0, 1)) rfl) ?_
  refine And.intro (k_gI (pc := 28) rfl (by decide) rfl zin10 lk_X10_15 (by decide +kernel : decode cX10_findCorners 28 = .ok (.getfield 15, 3))) ?_
  refine And.intro (k_istore_n (pc := 31) (by decide +kernel : decode cX10_findCorners 31 = .ok (.istore_n 1, 1)) rfl) ?_
  refine And.intro (k_aload_n (pc := 32) (by decide +kernel : decode cX10_findCorners 32 = .ok (.aload_n 0, 1)) rfl) ?_
  refine And.intro (k_gI (pc := 33) rfl (by decide) rfl zin10 lk_X10_9 (by decide +kernel : decode cX10_findCorners 33 = .ok (.getfield 9, 3))) ?_
  refine And.intro (k_iconst (pc := 36) (by decide +kernel : decode cX10_findCorners 36 = .ok (.iconst 2, 1)) (by decide)) ?_
  refine And.intro (k_isub (pc := 37) (by decide +kernel : decode cX10_findCorners 37 = .ok (.isub, 1))) ?_
  refine And.intro (k_istore_n (pc := 38) (by decide +kernel : decode cX10_findCorners 38 = .ok (.istore_n 2, 1)) rfl) ?_
  refine And.intro (k_iload_n (pc := 39) (by decide +kernel : decode cX10_findCorners 39 = .ok (.iload_n 2, 1)) rfl) ?_
  refine And.intro (k_if_lt (pc := 40) (by decide +kernel : decode cX10_findCorners 40 = .ok (.ifCond .lt 17, 3)) (by decide)) ?_
  refine And.intro (k_aload_n (pc := 43) (by decide +kernel : decode cX10_findCorners 43 = .ok (.aload_n 0, 1)) rfl) ?_
  refine And.intro (k_iload_n (pc := 44) (by decide +kernel : decode cX10_findCorners 44 = .ok (.iload_n 2, 1)) rfl) ?_
  refine And.intro (k_iload_n (pc := 45) (by decide +kernel : decode cX10_findCorners 45 = .ok (.iload_n 1, 1)) rfl) ?_
  refine And.intro (k_iconst (pc := 46) (by decide +kernel : decode cX10_findCorners 46 = .ok (.iconst 1, 1)) (by decide)) ?_
  refine And.intro (k_iadd (pc := 47) (by decide +kernel : decode cX10_findCorners 47 = .ok (.iadd, 1))) ?_
  refine And.intro (k_cvV (n := 2) (pc := 48) hG (zRoom_self 3) (tag := 10) rfl ini_X10 im_X10_link se_X10_link mk_X10_55 dy_X10_link (by decide +kernel : decode cX10_findCorners 48 = .ok (.invokevirtual 55, 3))) ?_
  refine And.intro (k_iinc (pc := 51) (by decide +kernel : decode cX10_findCorners 51 = .ok (.iinc 2 (-1), 3)) (by decide)) ?_
  refine And.intro (k_goto (pc := 54) (by decide +kernel : decode cX10_findCorners 54 = .ok (.goto (-15), 3)) (by decide)) ?_
  refine And.intro (k_aload_n (pc := 57) (by decide +kernel : decode cX10_findCorners 57 = .ok (.aload_n 0, 1)) rfl) ?_
  refine And.intro (k_gI (pc := 58) rfl (by decide) rfl zin10 lk_X10_15 (by decide +kernel : decode cX10_findCorners 58 = .ok (.getfield 15, 3))) ?_
  refine And.intro (k_iconst (pc := 61) (by decide +kernel : decode cX10_findCorners 61 = .ok (.iconst 1, 1)) (by decide)) ?_
  refine And.intro (k_icmp_le (pc := 62) (by decide +kernel : decode cX10_findCorners 62 = .ok (.if_icmp .le 13, 3)) (by decide)) ?_
  refine And.intro (k_aload_n (pc := 65) (by decide +kernel : decode cX10_findCorners 65 = .ok (.aload_n 0, 1)) rfl) ?_
  refine And.intro (k_dup (pc := 66) (by decide +kernel : decode cX10_findCorners 66 = .ok (.dup, 1))) ?_
  refine And.intro (k_gI (pc := 67) rfl (by decide) rfl zin10 lk_X10_15 (by decide +kernel : decode cX10_findCorners 67 = .ok (.getfield 15, 3))) ?_
  refine And.intro (k_iconst (pc := 70) (by decide +kernel : decode cX10_findCorners 70 = .ok (.iconst 1, 1)) (by decide)) ?_
  refine And.intro (k_isub (pc := 71) (by decide +kernel : decode cX10_findCorners 71 = .ok (.isub, 1))) ?_
  refine And.intro (k_pI (pc := 72) rfl (by decide) rfl zin10 lk_X10_15 tyX10_ok nmX10 rfl (by decide +kernel) (by decide +kernel : decode cX10_findCorners 72 = .ok (.putfield 15, 3))) ?_
  refine And.intro (k_return (pc := 75) rfl (by decide +kernel : decode cX10_findCorners 75 = .ok (.return_, 1))) ?_
  exact trivial
theorem cdX10_findCorners : Cond.code yX10_findCorners cX10_findCorners 3 none ∈ zWs := zWs_in 853 (by decide +kernel) rfl
noncomputable def pgX11_sign : zPg := [(0, o_al 0), (1, o_gR 11 5), (4, o_vr2 yX8_size 8 1), (7, o_ic (4)), (8, o_iadd), (9, o_ic (80)), (11, o_ic_le 16), (14, o_ic (-1)), (15, o_ir), (16, o_ic (24)), (18, o_is 2), (19, o_il 2), (20, o_if_lt 43), (23, o_al 0), (24, o_gR 11 5), (27, o_il 1), (28, o_il 2), (29, o_iushr), (30, o_ic (255)), (33, o_iand), (34, o_vv yX8_append 8 2), (37, o_inc 2 (-8)), (40, o_go 19), (43, o_al 0), (44, o_gR 11 5), (47, o_vr2 yX8_size 8 1), (50, o_ir)]
set_option maxRecDepth 20000 in
theorem pkX11_sign {G : zG} (hG : zGok G) (Q : zRt) : zPOK G (zRm 1) RX11 cX11_sign 3 (some .int) (zF G Q 0 0) 0 0 (zCalls G 1) Q pgX11_sign := by
  refine And.intro (k_aload_n (pc := 0) (by decide +kernel : decode cX11_sign 0 = .ok (.aload_n 0, 1)) rfl) ?_
  refine And.intro (k_gR (pc := 1) rfl (by decide) rfl zin11 lk_X11_37 (by decide +kernel : decode cX11_sign 1 = .ok (.getfield 37, 3))) ?_
  refine And.intro (k_crV (n := 0) (pc := 4) hG (zRoom_self 1) (tag := 8) rfl ini_X8 im_X8_size se_X8_size mk_X11_90 dy_X8_size (by decide +kernel : decode cX11_sign 4 = .ok (.invokevirtual 90, 3))) ?_
  refine And.intro (k_iconst (pc := 7) (by decide +kernel : decode cX11_sign 7 = .ok (.iconst 4, 1)) (by decide)) ?_
  refine And.intro (k_iadd (pc := 8) (by decide +kernel : decode cX11_sign 8 = .ok (.iadd, 1))) ?_
  refine And.intro (k_bipush (pc := 9) (by decide +kernel : decode cX11_sign 9 = .ok (.bipush 80, 2)) (by decide)) ?_
  refine And.intro (k_icmp_le (pc := 11) (by decide +kernel : decode cX11_sign 11 = .ok (.if_icmp .le 5, 3)) (by decide)) ?_
  refine And.intro (k_iconst (pc := 14) (by decide +kernel : decode cX11_sign 14 = .ok (.iconst (-1), 1)) (by decide)) ?_
  refine And.intro (k_ireturn (pc := 15) rfl (by decide +kernel : decode cX11_sign 15 = .ok (.ireturn, 1))) ?_
  refine And.intro (k_bipush (pc := 16) (by decide +kernel : decode cX11_sign 16 = .ok (.bipush 24, 2)) (by decide)) ?_
  refine And.intro (k_istore_n (pc := 18) (by decide +kernel : decode cX11_sign 18 = .ok (.istore_n 2, 1)) rfl) ?_
  refine And.intro (k_iload_n (pc := 19) (by decide +kernel : decode cX11_sign 19 = .ok (.iload_n 2, 1)) rfl) ?_
  refine And.intro (k_if_lt (pc := 20) (by decide +kernel : decode cX11_sign 20 = .ok (.ifCond .lt 23, 3)) (by decide)) ?_
  refine And.intro (k_aload_n (pc := 23) (by decide +kernel : decode cX11_sign 23 = .ok (.aload_n 0, 1)) rfl) ?_
  refine And.intro (k_gR (pc := 24) rfl (by decide) rfl zin11 lk_X11_37 (by decide +kernel : decode cX11_sign 24 = .ok (.getfield 37, 3))) ?_
  refine And.intro (k_iload_n (pc := 27) (by decide +kernel : decode cX11_sign 27 = .ok (.iload_n 1, 1)) rfl) ?_
  refine And.intro (k_iload_n (pc := 28) (by decide +kernel : decode cX11_sign 28 = .ok (.iload_n 2, 1)) rfl) ?_
  refine And.intro (k_iushr (pc := 29) (by decide +kernel : decode cX11_sign 29 = .ok (.iushr, 1))) ?_
  refine And.intro (k_sipush (pc := 30) (by decide +kernel : decode cX11_sign 30 = .ok (.sipush 255, 3)) (by decide)) ?_
  refine And.intro (k_iand (pc := 33) (by decide +kernel : decode cX11_sign 33 = .ok (.iand, 1))) ?_
  refine And.intro (k_cvV (n := 1) (pc := 34) hG (zRoom_self 1) (tag := 8) rfl ini_X8 im_X8_append se_X8_append mk_X11_94 dy_X8_append (by decide +kernel : decode cX11_sign 34 = .ok (.invokevirtual 94, 3))) ?_
  refine And.intro (k_iinc (pc := 37) (by decide +kernel : decode cX11_sign 37 = .ok (.iinc 2 (-8), 3)) (by decide)) ?_
  refine And.intro (k_goto (pc := 40) (by decide +kernel : decode cX11_sign 40 = .ok (.goto (-21), 3)) (by decide)) ?_
  refine And.intro (k_aload_n (pc := 43) (by decide +kernel : decode cX11_sign 43 = .ok (.aload_n 0, 1)) rfl) ?_
  refine And.intro (k_gR (pc := 44) rfl (by decide) rfl zin11 lk_X11_37 (by decide +kernel : decode cX11_sign 44 = .ok (.getfield 37, 3))) ?_
  refine And.intro (k_crV (n := 0) (pc := 47) hG (zRoom_self 1) (tag := 8) rfl ini_X8 im_X8_size se_X8_size mk_X11_90 dy_X8_size (by decide +kernel : decode cX11_sign 47 = .ok (.invokevirtual 90, 3))) ?_
  refine And.intro (k_ireturn (pc := 50) rfl (by decide +kernel : decode cX11_sign 50 = .ok (.ireturn, 1))) ?_
  exact trivial
theorem cdX11_sign : Cond.code yX11_sign cX11_sign 3 (some .int) ∈ zWs := zWs_in 389 (by decide +kernel) rfl
noncomputable def pgX11_end : zPg := [(0, o_al 0), (1, o_gR 11 5), (4, o_il 1), (5, o_vr2 yX8_shorten 8 2), (8, o_zr)]
set_option maxRecDepth 20000 in
theorem pkX11_end {G : zG} (hG : zGok G) (Q : zRt) : zPOK G (zRm 1) RX11 cX11_end 2 (some .boolean) (zF G Q 0 0) 0 0 (zCalls G 1) Q pgX11_end := by
  refine And.intro (k_aload_n (pc := 0) (by decide +kernel : decode cX11_end 0 = .ok (.aload_n 0, 1)) rfl) ?_
  refine And.intro (k_gR (pc := 1) rfl (by decide) rfl zin11 lk_X11_37 (by decide +kernel : decode cX11_end 1 = .ok (.getfield 37, 3))) ?_
  refine And.intro (k_iload_n (pc := 4) (by decide +kernel : decode cX11_end 4 = .ok (.iload_n 1, 1)) rfl) ?_
  refine And.intro (k_crV (n := 1) (pc := 5) hG (zRoom_self 1) (tag := 8) rfl ini_X8 im_X8_shorten se_X8_shorten mk_X11_98 dy_X8_shorten (by decide +kernel : decode cX11_end 5 = .ok (.invokevirtual 98, 3))) ?_
  refine And.intro (k_zreturn (pc := 8) rfl (by decide +kernel : decode cX11_end 8 = .ok (.ireturn, 1))) ?_
  exact trivial
theorem cdX11_end : Cond.code yX11_end cX11_end 2 (some .boolean) ∈ zWs := zWs_in 401 (by decide +kernel) rfl
noncomputable def pgX11_noted : zPg := [(0, o_il 1), (1, o_if_lt 11), (4, o_al 0), (5, o_gR 11 4), (8, o_vv yX2_close 2 1), (11, o_il 1), (12, o_ir)]
set_option maxRecDepth 20000 in
theorem pkX11_noted {G : zG} (hG : zGok G) (Q : zRt) : zPOK G (zRm 1) RX11 cX11_noted 2 (some .int) (zF G Q 0 0) 0 0 (zCalls G 1) Q pgX11_noted := by
  refine And.intro (k_iload_n (pc := 0) (by decide +kernel : decode cX11_noted 0 = .ok (.iload_n 1, 1)) rfl) ?_
  refine And.intro (k_if_lt (pc := 1) (by decide +kernel : decode cX11_noted 1 = .ok (.ifCond .lt 10, 3)) (by decide)) ?_
  refine And.intro (k_aload_n (pc := 4) (by decide +kernel : decode cX11_noted 4 = .ok (.aload_n 0, 1)) rfl) ?_
  refine And.intro (k_gR (pc := 5) rfl (by decide) rfl zin11 lk_X11_30 (by decide +kernel : decode cX11_noted 5 = .ok (.getfield 30, 3))) ?_
  refine And.intro (k_cvV (n := 0) (pc := 8) hG (zRoom_self 1) (tag := 2) rfl ini_X2 im_X2_close se_X2_close mk_X11_160 dy_X2_close (by decide +kernel : decode cX11_noted 8 = .ok (.invokevirtual 160, 3))) ?_
  refine And.intro (k_iload_n (pc := 11) (by decide +kernel : decode cX11_noted 11 = .ok (.iload_n 1, 1)) rfl) ?_
  refine And.intro (k_ireturn (pc := 12) rfl (by decide +kernel : decode cX11_noted 12 = .ok (.ireturn, 1))) ?_
  exact trivial
theorem cdX11_noted : Cond.code yX11_noted cX11_noted 2 (some .int) ∈ zWs := zWs_in 534 (by decide +kernel) rfl
noncomputable def pgX11_rows : zPg := [(0, o_al 0), (1, o_gR 11 5), (4, o_al 0), (5, o_gR 11 1), (8, o_vr2 yX8_readRows 8 2), (11, o_is 1), (12, o_al 0), (13, o_gR 11 5), (16, o_ic (0)), (17, o_vr2 yX8_shorten 8 2), (20, o_pop), (21, o_il 1), (22, o_ic (-1)), (23, o_ic_eq 30), (26, o_ic (-1)), (27, o_il 1), (28, o_isub), (29, o_ir), (30, o_al 0), (31, o_gR 11 1), (34, o_vr2 yX5_firstWrongRow 5 1), (37, o_is 2), (38, o_il 2), (39, o_ic (-1)), (40, o_ic_eq 48), (43, o_ic (-100)), (45, o_il 2), (46, o_isub), (47, o_ir), (48, o_al 0), (49, o_gR 11 4), (52, o_al 0), (53, o_gR 11 0), (56, o_vv yX2_open 2 2), (59, o_al 0), (60, o_gR 11 0), (63, o_al 0), (64, o_gR 11 1), (67, o_vv yX5_copyRows 5 2), (70, o_al 0), (71, o_al 0), (72, o_gR 11 0), (75, o_gI 5 0), (78, o_vr2 yX11_noted 11 2), (81, o_ir)]
set_option maxRecDepth 20000 in
theorem pkX11_rows {G : zG} (hG : zGok G) (Q : zRt) : zPOK G (zRm 8) RX11 cX11_rows 3 (some .int) (zF G Q 0 0) 0 0 (zCalls G 8) Q pgX11_rows := by
  refine And.intro (k_aload_n (pc := 0) (by decide +kernel : decode cX11_rows 0 = .ok (.aload_n 0, 1)) rfl) ?_
  refine And.intro (k_gR (pc := 1) rfl (by decide) rfl zin11 lk_X11_37 (by decide +kernel : decode cX11_rows 1 = .ok (.getfield 37, 3))) ?_
  refine And.intro (k_aload_n (pc := 4) (by decide +kernel : decode cX11_rows 4 = .ok (.aload_n 0, 1)) rfl) ?_
  refine And.intro (k_gR (pc := 5) rfl (by decide) rfl zin11 lk_X11_16 (by decide +kernel : decode cX11_rows 5 = .ok (.getfield 16, 3))) ?_
  refine And.intro (k_crV (n := 1) (pc := 8) hG (zRoom_self 8) (tag := 8) rfl ini_X8 im_X8_readRows se_X8_readRows mk_X11_102 dy_X8_readRows (by decide +kernel : decode cX11_rows 8 = .ok (.invokevirtual 102, 3))) ?_
  refine And.intro (k_istore_n (pc := 11) (by decide +kernel : decode cX11_rows 11 = .ok (.istore_n 1, 1)) rfl) ?_
  refine And.intro (k_aload_n (pc := 12) (by decide +kernel : decode cX11_rows 12 = .ok (.aload_n 0, 1)) rfl) ?_
  refine And.intro (k_gR (pc := 13) rfl (by decide) rfl zin11 lk_X11_37 (by decide +kernel : decode cX11_rows 13 = .ok (.getfield 37, 3))) ?_
  refine And.intro (k_iconst (pc := 16) (by decide +kernel : decode cX11_rows 16 = .ok (.iconst 0, 1)) (by decide)) ?_
  refine And.intro (k_crV (n := 1) (pc := 17) hG (zRoom_self 8) (tag := 8) rfl ini_X8 im_X8_shorten se_X8_shorten mk_X11_98 dy_X8_shorten (by decide +kernel : decode cX11_rows 17 = .ok (.invokevirtual 98, 3))) ?_
  refine And.intro (k_pop (pc := 20) (by decide +kernel : decode cX11_rows 20 = .ok (.pop, 1))) ?_
  refine And.intro (k_iload_n (pc := 21) (by decide +kernel : decode cX11_rows 21 = .ok (.iload_n 1, 1)) rfl) ?_
  refine And.intro (k_iconst (pc := 22) (by decide +kernel : decode cX11_rows 22 = .ok (.iconst (-1), 1)) (by decide)) ?_
  refine And.intro (k_icmp_eq (pc := 23) (by decide +kernel : decode cX11_rows 23 = .ok (.if_icmp .eq 7, 3)) (by decide)) ?_
  refine And.intro (k_iconst (pc := 26) (by decide +kernel : decode cX11_rows 26 = .ok (.iconst (-1), 1)) (by decide)) ?_
  refine And.intro (k_iload_n (pc := 27) (by decide +kernel : decode cX11_rows 27 = .ok (.iload_n 1, 1)) rfl) ?_
  refine And.intro (k_isub (pc := 28) (by decide +kernel : decode cX11_rows 28 = .ok (.isub, 1))) ?_
  refine And.intro (k_ireturn (pc := 29) rfl (by decide +kernel : decode cX11_rows 29 = .ok (.ireturn, 1))) ?_
  refine And.intro (k_aload_n (pc := 30) (by decide +kernel : decode cX11_rows 30 = .ok (.aload_n 0, 1)) rfl) ?_
  refine And.intro (k_gR (pc := 31) rfl (by decide) rfl zin11 lk_X11_16 (by decide +kernel : decode cX11_rows 31 = .ok (.getfield 16, 3))) ?_
  refine And.intro (k_crV (n := 0) (pc := 34) hG (zRoom_self 8) (tag := 5) rfl ini_X5 im_X5_firstWrongRow se_X5_firstWrongRow mk_X11_106 dy_X5_firstWrongRow (by decide +kernel : decode cX11_rows 34 = .ok (.invokevirtual 106, 3))) ?_
  refine And.intro (k_istore_n (pc := 37) (by decide +kernel : decode cX11_rows 37 = .ok (.istore_n 2, 1)) rfl) ?_
  refine And.intro (k_iload_n (pc := 38) (by decide +kernel : decode cX11_rows 38 = .ok (.iload_n 2, 1)) rfl) ?_
  refine And.intro (k_iconst (pc := 39) (by decide +kernel : decode cX11_rows 39 = .ok (.iconst (-1), 1)) (by decide)) ?_
  refine And.intro (k_icmp_eq (pc := 40) (by decide +kernel : decode cX11_rows 40 = .ok (.if_icmp .eq 8, 3)) (by decide)) ?_
  refine And.intro (k_bipush (pc := 43) (by decide +kernel : decode cX11_rows 43 = .ok (.bipush (-100), 2)) (by decide)) ?_
  refine And.intro (k_iload_n (pc := 45) (by decide +kernel : decode cX11_rows 45 = .ok (.iload_n 2, 1)) rfl) ?_
  refine And.intro (k_isub (pc := 46) (by decide +kernel : decode cX11_rows 46 = .ok (.isub, 1))) ?_
  refine And.intro (k_ireturn (pc := 47) rfl (by decide +kernel : decode cX11_rows 47 = .ok (.ireturn, 1))) ?_
  refine And.intro (k_aload_n (pc := 48) (by decide +kernel : decode cX11_rows 48 = .ok (.aload_n 0, 1)) rfl) ?_
  refine And.intro (k_gR (pc := 49) rfl (by decide) rfl zin11 lk_X11_30 (by decide +kernel : decode cX11_rows 49 = .ok (.getfield 30, 3))) ?_
  refine And.intro (k_aload_n (pc := 52) (by decide +kernel : decode cX11_rows 52 = .ok (.aload_n 0, 1)) rfl) ?_
  refine And.intro (k_gR (pc := 53) rfl (by decide) rfl zin11 lk_X11_10 (by decide +kernel : decode cX11_rows 53 = .ok (.getfield 10, 3))) ?_
  refine And.intro (k_cvV (n := 1) (pc := 56) hG (zRoom_self 8) (tag := 2) rfl ini_X2 im_X2_open se_X2_open mk_X11_109 dy_X2_open (by decide +kernel : decode cX11_rows 56 = .ok (.invokevirtual 109, 3))) ?_
  refine And.intro (k_aload_n (pc := 59) (by decide +kernel : decode cX11_rows 59 = .ok (.aload_n 0, 1)) rfl) ?_
  refine And.intro (k_gR (pc := 60) rfl (by decide) rfl zin11 lk_X11_10 (by decide +kernel : decode cX11_rows 60 = .ok (.getfield 10, 3))) ?_
  refine And.intro (k_aload_n (pc := 63) (by decide +kernel : decode cX11_rows 63 = .ok (.aload_n 0, 1)) rfl) ?_
  refine And.intro (k_gR (pc := 64) rfl (by decide) rfl zin11 lk_X11_16 (by decide +kernel : decode cX11_rows 64 = .ok (.getfield 16, 3))) ?_
  refine And.intro (k_cvV (n := 1) (pc := 67) hG (zRoom_self 8) (tag := 5) rfl ini_X5 im_X5_copyRows se_X5_copyRows mk_X11_113 dy_X5_copyRows (by decide +kernel : decode cX11_rows 67 = .ok (.invokevirtual 113, 3))) ?_
  refine And.intro (k_aload_n (pc := 70) (by decide +kernel : decode cX11_rows 70 = .ok (.aload_n 0, 1)) rfl) ?_
  refine And.intro (k_aload_n (pc := 71) (by decide +kernel : decode cX11_rows 71 = .ok (.aload_n 0, 1)) rfl) ?_
  refine And.intro (k_gR (pc := 72) rfl (by decide) rfl zin11 lk_X11_10 (by decide +kernel : decode cX11_rows 72 = .ok (.getfield 10, 3))) ?_
  refine And.intro (k_gI (pc := 75) rfl (by decide) rfl zin5 lk_X11_116 (by decide +kernel : decode cX11_rows 75 = .ok (.getfield 116, 3))) ?_
  refine And.intro (k_crV (n := 1) (pc := 78) hG (zRoom_self 8) (tag := 11) rfl ini_X11 im_X11_noted se_X11_noted mk_X11_120 dy_X11_noted (by decide +kernel : decode cX11_rows 78 = .ok (.invokevirtual 120, 3))) ?_
  refine And.intro (k_ireturn (pc := 81) rfl (by decide +kernel : decode cX11_rows 81 = .ok (.ireturn, 1))) ?_
  exact trivial
theorem cdX11_rows : Cond.code yX11_rows cX11_rows 3 (some .int) ∈ zWs := zWs_in 409 (by decide +kernel) rfl
noncomputable def pgX11_sheetEntry : zPg := [(0, o_il 0), (1, o_if_ne 7), (4, o_il 1), (5, o_i2b), (6, o_ir), (7, o_il 0), (8, o_ic (1)), (9, o_ic_ne 17), (12, o_il 1), (13, o_i2s), (14, o_go 18), (17, o_il 1), (18, o_ir)]
set_option maxRecDepth 20000 in
theorem pkX11_sheetEntry {G : zG} (hG : zGok G) (Q : zRt) : zPOK G (zRm 0) RX11 cX11_sheetEntry 2 (some .int) (zF G Q 0 0) 0 0 (zCalls G 0) Q pgX11_sheetEntry := by
  refine And.intro (k_iload_n (pc := 0) (by decide +kernel : decode cX11_sheetEntry 0 = .ok (.iload_n 0, 1)) rfl) ?_
  refine And.intro (k_if_ne (pc := 1) (by decide +kernel : decode cX11_sheetEntry 1 = .ok (.ifCond .ne 6, 3)) (by decide)) ?_
  refine And.intro (k_iload_n (pc := 4) (by decide +kernel : decode cX11_sheetEntry 4 = .ok (.iload_n 1, 1)) rfl) ?_
  refine And.intro (k_i2b (pc := 5) (by decide +kernel : decode cX11_sheetEntry 5 = .ok (.i2b, 1))) ?_
  refine And.intro (k_ireturn (pc := 6) rfl (by decide +kernel : decode cX11_sheetEntry 6 = .ok (.ireturn, 1))) ?_
  refine And.intro (k_iload_n (pc := 7) (by decide +kernel : decode cX11_sheetEntry 7 = .ok (.iload_n 0, 1)) rfl) ?_
  refine And.intro (k_iconst (pc := 8) (by decide +kernel : decode cX11_sheetEntry 8 = .ok (.iconst 1, 1)) (by decide)) ?_
  refine And.intro (k_icmp_ne (pc := 9) (by decide +kernel : decode cX11_sheetEntry 9 = .ok (.if_icmp .ne 8, 3)) (by decide)) ?_
  refine And.intro (k_iload_n (pc := 12) (by decide +kernel : decode cX11_sheetEntry 12 = .ok (.iload_n 1, 1)) rfl) ?_
  refine And.intro (k_i2s (pc := 13) (by decide +kernel : decode cX11_sheetEntry 13 = .ok (.i2s, 1))) ?_
  refine And.intro (k_goto (pc := 14) (by decide +kernel : decode cX11_sheetEntry 14 = .ok (.goto 4, 3)) (by decide)) ?_
  refine And.intro (k_iload_n (pc := 17) (by decide +kernel : decode cX11_sheetEntry 17 = .ok (.iload_n 1, 1)) rfl) ?_
  refine And.intro (k_ireturn (pc := 18) rfl (by decide +kernel : decode cX11_sheetEntry 18 = .ok (.ireturn, 1))) ?_
  exact trivial
theorem cdX11_sheetEntry : Cond.code yX11_sheetEntry cX11_sheetEntry 2 (some .int) ∈ zWs := zWs_in 546 (by decide +kernel) rfl
noncomputable def pgX11_sheet : zPg := [(0, o_il 1), (1, o_if_lt 15), (4, o_il 1), (5, o_ic (3)), (6, o_ic_gt 15), (9, o_il 2), (10, o_ic (6)), (12, o_ic_le 17), (15, o_ic (-1)), (16, o_ir), (17, o_il 1), (18, o_ic (3)), (19, o_ic_ne 26), (22, o_ic (1)), (23, o_go 27), (26, o_ic (0)), (27, o_is 5), (29, o_il 2), (30, o_if_ge 41), (33, o_il 5), (35, o_if_ne 41), (38, o_ic (-2)), (40, o_ir), (41, o_ic (0)), (42, o_is 6), (44, o_il 6), (46, o_al 0), (47, o_gR 11 0), (50, o_gI 5 0), (53, o_ic_ge 114), (56, o_il 5), (58, o_if_ne 71), (61, o_il 6), (63, o_il 2), (64, o_ic_ge 71), (67, o_ic (1)), (68, o_go 72), (71, o_ic (0)), (72, o_is 7), (74, o_al 0), (75, o_gR 11 0), (78, o_il 6), (80, o_il 7), (82, o_if_eq 104), (85, o_il 1), (86, o_il 3), (87, o_il 6), (89, o_il 4), (91, o_imul), (92, o_iadd), (93, o_cr yX11_sheetEntry 2), (96, o_ic (51)), (98, o_cr yJ9_floorMod_7cf53 2), (101, o_go 105), (104, o_ic (0)), (105, o_vv yX5_putBound 5 3), (108, o_inc 6 (1)), (111, o_go 44), (114, o_il 5), (116, o_if_eq 124), (119, o_ic (-3)), (121, o_go 131), (124, o_al 0), (125, o_gR 11 0), (128, o_gI 5 0), (131, o_ir)]
set_option maxRecDepth 20000 in
theorem pkX11_sheet {G : zG} (hG : zGok G) (Q : zRt) : zPOK G (zRm 2) RX11 cX11_sheet 8 (some .int) (zF G Q 0 0) 0 0 (zCalls G 2) Q pgX11_sheet := by
  refine And.intro (k_iload_n (pc := 0) (by decide +kernel : decode cX11_sheet 0 = .ok (.iload_n 1, 1)) rfl) ?_
  refine And.intro (k_if_lt (pc := 1) (by decide +kernel : decode cX11_sheet 1 = .ok (.ifCond .lt 14, 3)) (by decide)) ?_
  refine And.intro (k_iload_n (pc := 4) (by decide +kernel : decode cX11_sheet 4 = .ok (.iload_n 1, 1)) rfl) ?_
  refine And.intro (k_iconst (pc := 5) (by decide +kernel : decode cX11_sheet 5 = .ok (.iconst 3, 1)) (by decide)) ?_
  refine And.intro (k_icmp_gt (pc := 6) (by decide +kernel : decode cX11_sheet 6 = .ok (.if_icmp .gt 9, 3)) (by decide)) ?_
  refine And.intro (k_iload_n (pc := 9) (by decide +kernel : decode cX11_sheet 9 = .ok (.iload_n 2, 1)) rfl) ?_
  refine And.intro (k_bipush (pc := 10) (by decide +kernel : decode cX11_sheet 10 = .ok (.bipush 6, 2)) (by decide)) ?_
  refine And.intro (k_icmp_le (pc := 12) (by decide +kernel : decode cX11_sheet 12 = .ok (.if_icmp .le 5, 3)) (by decide)) ?_
  refine And.intro (k_iconst (pc := 15) (by decide +kernel : decode cX11_sheet 15 = .ok (.iconst (-1), 1)) (by decide)) ?_
  refine And.intro (k_ireturn (pc := 16) rfl (by decide +kernel : decode cX11_sheet 16 = .ok (.ireturn, 1))) ?_
  refine And.intro (k_iload_n (pc := 17) (by decide +kernel : decode cX11_sheet 17 = .ok (.iload_n 1, 1)) rfl) ?_
  refine And.intro (k_iconst (pc := 18) (by decide +kernel : decode cX11_sheet 18 = .ok (.iconst 3, 1)) (by decide)) ?_
  refine And.intro (k_icmp_ne (pc := 19) (by decide +kernel : decode cX11_sheet 19 = .ok (.if_icmp .ne 7, 3)) (by decide)) ?_
  refine And.intro (k_iconst (pc := 22) (by decide +kernel : decode cX11_sheet 22 = .ok (.iconst 1, 1)) (by decide)) ?_
  refine And.intro (k_goto (pc := 23) (by decide +kernel : decode cX11_sheet 23 = .ok (.goto 4, 3)) (by decide)) ?_
  refine And.intro (k_iconst (pc := 26) (by decide +kernel : decode cX11_sheet 26 = .ok (.iconst 0, 1)) (by decide)) ?_
  refine And.intro (k_istore (pc := 27) (by decide +kernel : decode cX11_sheet 27 = .ok (.istore 5, 2))) ?_
  refine And.intro (k_iload_n (pc := 29) (by decide +kernel : decode cX11_sheet 29 = .ok (.iload_n 2, 1)) rfl) ?_
  refine And.intro (k_if_ge (pc := 30) (by decide +kernel : decode cX11_sheet 30 = .ok (.ifCond .ge 11, 3)) (by decide)) ?_
  refine And.intro (k_iload (pc := 33) (by decide +kernel : decode cX11_sheet 33 = .ok (.iload 5, 2))) ?_
  refine And.intro (k_if_ne (pc := 35) (by decide +kernel : decode cX11_sheet 35 = .ok (.ifCond .ne 6, 3)) (by decide)) ?_
  refine And.intro (k_bipush (pc := 38) (by decide +kernel : decode cX11_sheet 38 = .ok (.bipush (-2), 2)) (by decide)) ?_
  refine And.intro (k_ireturn (pc := 40) rfl (by decide +kernel : decode cX11_sheet 40 = .ok (.ireturn, 1))) ?_
  refine And.intro (k_iconst (pc := 41) (by decide +kernel : decode cX11_sheet 41 = .ok (.iconst 0, 1)) (by decide)) ?_
  refine And.intro (k_istore (pc := 42) (by decide +kernel : decode cX11_sheet 42 = .ok (.istore 6, 2))) ?_
  refine And.intro (k_iload (pc := 44) (by decide +kernel : decode cX11_sheet 44 = .ok (.iload 6, 2))) ?_
  refine And.intro (k_aload_n (pc := 46) (by decide +kernel : decode cX11_sheet 46 = .ok (.aload_n 0, 1)) rfl) ?_
  refine And.intro (k_gR (pc := 47) rfl (by decide) rfl zin11 lk_X11_10 (by decide +kernel : decode cX11_sheet 47 = .ok (.getfield 10, 3))) ?_
  refine And.intro (k_gI (pc := 50) rfl (by decide) rfl zin5 lk_X11_116 (by decide +kernel : decode cX11_sheet 50 = .ok (.getfield 116, 3))) ?_
  refine And.intro (k_icmp_ge (pc := 53) (by decide +kernel : decode cX11_sheet 53 = .ok (.if_icmp .ge 61, 3)) (by decide)) ?_
  refine And.intro (k_iload (pc := 56) (by decide +kernel : decode cX11_sheet 56 = .ok (.iload 5, 2))) ?_
  refine And.intro (k_if_ne (pc := 58) (by decide +kernel : decode cX11_sheet 58 = .ok (.ifCond .ne 13, 3)) (by decide)) ?_
  refine And.intro (k_iload (pc := 61) (by decide +kernel : decode cX11_sheet 61 = .ok (.iload 6, 2))) ?_
  refine And.intro (k_iload_n (pc := 63) (by decide +kernel : decode cX11_sheet 63 = .ok (.iload_n 2, 1)) rfl) ?_
  refine And.intro (k_icmp_ge (pc := 64) (by decide +kernel : decode cX11_sheet 64 = .ok (.if_icmp .ge 7, 3)) (by decide)) ?_
  refine And.intro (k_iconst (pc := 67) (by decide +kernel : decode cX11_sheet 67 = .ok (.iconst 1, 1)) (by decide)) ?_
  refine And.intro (k_goto (pc := 68) (by decide +kernel : decode cX11_sheet 68 = .ok (.goto 4, 3)) (by decide)) ?_
  refine And.intro (k_iconst (pc := 71) (by decide +kernel : decode cX11_sheet 71 = .ok (.iconst 0, 1)) (by decide)) ?_
  refine And.intro (k_istore (pc := 72) (by decide +kernel : decode cX11_sheet 72 = .ok (.istore 7, 2))) ?_
  refine And.intro (k_aload_n (pc := 74) (by decide +kernel : decode cX11_sheet 74 = .ok (.aload_n 0, 1)) rfl) ?_
  refine And.intro (k_gR (pc := 75) rfl (by decide) rfl zin11 lk_X11_10 (by decide +kernel : decode cX11_sheet 75 = .ok (.getfield 10, 3))) ?_
  refine And.intro (k_iload (pc := 78) (by decide +kernel : decode cX11_sheet 78 = .ok (.iload 6, 2))) ?_
  refine And.intro (k_iload (pc := 80) (by decide +kernel : decode cX11_sheet 80 = .ok (.iload 7, 2))) ?_
  refine And.intro (k_if_eq (pc := 82) (by decide +kernel : decode cX11_sheet 82 = .ok (.ifCond .eq 22, 3)) (by decide)) ?_
  refine And.intro (k_iload_n (pc := 85) (by decide +kernel : decode cX11_sheet 85 = .ok (.iload_n 1, 1)) rfl) ?_
  refine And.intro (k_iload_n (pc := 86) (by decide +kernel : decode cX11_sheet 86 = .ok (.iload_n 3, 1)) rfl) ?_
  refine And.intro (k_iload (pc := 87) (by decide +kernel : decode cX11_sheet 87 = .ok (.iload 6, 2))) ?_
  refine And.intro (k_iload (pc := 89) (by decide +kernel : decode cX11_sheet 89 = .ok (.iload 4, 2))) ?_
  refine And.intro (k_imul (pc := 91) (by decide +kernel : decode cX11_sheet 91 = .ok (.imul, 1))) ?_
  refine And.intro (k_iadd (pc := 92) (by decide +kernel : decode cX11_sheet 92 = .ok (.iadd, 1))) ?_
  refine And.intro (k_crS (n := 2) (pc := 93) hG (zRoom_self 2) ini_X11 sta_X11_sheetEntry mk_X11_138 dy_X11_sheetEntry (by decide +kernel : decode cX11_sheet 93 = .ok (.invokestatic 138, 3))) ?_
  refine And.intro (k_bipush (pc := 96) (by decide +kernel : decode cX11_sheet 96 = .ok (.bipush 51, 2)) (by decide)) ?_
  refine And.intro (k_crS (n := 2) (pc := 98) hG (zRoom_self 2) ini_J9 sta_J9_floorMod_7cf53 mk_X11_141 dy_J9_floorMod_7cf53 (by decide +kernel : decode cX11_sheet 98 = .ok (.invokestatic 141, 3))) ?_
  refine And.intro (k_goto (pc := 101) (by decide +kernel : decode cX11_sheet 101 = .ok (.goto 4, 3)) (by decide)) ?_
  refine And.intro (k_iconst (pc := 104) (by decide +kernel : decode cX11_sheet 104 = .ok (.iconst 0, 1)) (by decide)) ?_
  refine And.intro (k_cvV (n := 2) (pc := 105) hG (zRoom_self 2) (tag := 5) rfl ini_X5 im_X5_putBound se_X5_putBound mk_X11_146 dy_X5_putBound (by decide +kernel : decode cX11_sheet 105 = .ok (.invokevirtual 146, 3))) ?_
  refine And.intro (k_iinc (pc := 108) (by decide +kernel : decode cX11_sheet 108 = .ok (.iinc 6 1, 3)) (by decide)) ?_
  refine And.intro (k_goto (pc := 111) (by decide +kernel : decode cX11_sheet 111 = .ok (.goto (-67), 3)) (by decide)) ?_
  refine And.intro (k_iload (pc := 114) (by decide +kernel : decode cX11_sheet 114 = .ok (.iload 5, 2))) ?_
  refine And.intro (k_if_eq (pc := 116) (by decide +kernel : decode cX11_sheet 116 = .ok (.ifCond .eq 8, 3)) (by decide)) ?_
  refine And.intro (k_bipush (pc := 119) (by decide +kernel : decode cX11_sheet 119 = .ok (.bipush (-3), 2)) (by decide)) ?_
  refine And.intro (k_goto (pc := 121) (by decide +kernel : decode cX11_sheet 121 = .ok (.goto 10, 3)) (by decide)) ?_
  refine And.intro (k_aload_n (pc := 124) (by decide +kernel : decode cX11_sheet 124 = .ok (.aload_n 0, 1)) rfl) ?_
  refine And.intro (k_gR (pc := 125) rfl (by decide) rfl zin11 lk_X11_10 (by decide +kernel : decode cX11_sheet 125 = .ok (.getfield 10, 3))) ?_
  refine And.intro (k_gI (pc := 128) rfl (by decide) rfl zin5 lk_X11_116 (by decide +kernel : decode cX11_sheet 128 = .ok (.getfield 116, 3))) ?_
  refine And.intro (k_ireturn (pc := 131) rfl (by decide +kernel : decode cX11_sheet 131 = .ok (.ireturn, 1))) ?_
  exact trivial
theorem cdX11_sheet : Cond.code yX11_sheet cX11_sheet 8 (some .int) ∈ zWs := zWs_in 543 (by decide +kernel) rfl
noncomputable def pgX11_becomes : zPg := [(0, o_al 0), (1, o_gR 11 4), (4, o_al 0), (5, o_gR 11 0), (8, o_vv yX2_open 2 2), (11, o_al 0), (12, o_al 0), (13, o_gR 11 0), (16, o_il 1), (17, o_il 2), (18, o_vr2 yX5_changeBound 5 3), (21, o_vr2 yX11_noted 11 2), (24, o_ir)]
set_option maxRecDepth 20000 in
theorem pkX11_becomes {G : zG} (hG : zGok G) (Q : zRt) : zPOK G (zRm 4) RX11 cX11_becomes 3 (some .int) (zF G Q 0 0) 0 0 (zCalls G 4) Q pgX11_becomes := by
  refine And.intro (k_aload_n (pc := 0) (by decide +kernel : decode cX11_becomes 0 = .ok (.aload_n 0, 1)) rfl) ?_
  refine And.intro (k_gR (pc := 1) rfl (by decide) rfl zin11 lk_X11_30 (by decide +kernel : decode cX11_becomes 1 = .ok (.getfield 30, 3))) ?_
  refine And.intro (k_aload_n (pc := 4) (by decide +kernel : decode cX11_becomes 4 = .ok (.aload_n 0, 1)) rfl) ?_
  refine And.intro (k_gR (pc := 5) rfl (by decide) rfl zin11 lk_X11_10 (by decide +kernel : decode cX11_becomes 5 = .ok (.getfield 10, 3))) ?_
  refine And.intro (k_cvV (n := 1) (pc := 8) hG (zRoom_self 4) (tag := 2) rfl ini_X2 im_X2_open se_X2_open mk_X11_109 dy_X2_open (by decide +kernel : decode cX11_becomes 8 = .ok (.invokevirtual 109, 3))) ?_
  refine And.intro (k_aload_n (pc := 11) (by decide +kernel : decode cX11_becomes 11 = .ok (.aload_n 0, 1)) rfl) ?_
  refine And.intro (k_aload_n (pc := 12) (by decide +kernel : decode cX11_becomes 12 = .ok (.aload_n 0, 1)) rfl) ?_
  refine And.intro (k_gR (pc := 13) rfl (by decide) rfl zin11 lk_X11_10 (by decide +kernel : decode cX11_becomes 13 = .ok (.getfield 10, 3))) ?_
  refine And.intro (k_iload_n (pc := 16) (by decide +kernel : decode cX11_becomes 16 = .ok (.iload_n 1, 1)) rfl) ?_
  refine And.intro (k_iload_n (pc := 17) (by decide +kernel : decode cX11_becomes 17 = .ok (.iload_n 2, 1)) rfl) ?_
  refine And.intro (k_crV (n := 2) (pc := 18) hG (zRoom_self 4) (tag := 5) rfl ini_X5 im_X5_changeBound se_X5_changeBound mk_X11_150 dy_X5_changeBound (by decide +kernel : decode cX11_becomes 18 = .ok (.invokevirtual 150, 3))) ?_
  refine And.intro (k_crV (n := 1) (pc := 21) hG (zRoom_self 4) (tag := 11) rfl ini_X11 im_X11_noted se_X11_noted mk_X11_120 dy_X11_noted (by decide +kernel : decode cX11_becomes 21 = .ok (.invokevirtual 120, 3))) ?_
  refine And.intro (k_ireturn (pc := 24) rfl (by decide +kernel : decode cX11_becomes 24 = .ok (.ireturn, 1))) ?_
  exact trivial
theorem cdX11_becomes : Cond.code yX11_becomes cX11_becomes 3 (some .int) ∈ zWs := zWs_in 557 (by decide +kernel) rfl
noncomputable def pgX11_adds : zPg := [(0, o_al 0), (1, o_gR 11 4), (4, o_al 0), (5, o_gR 11 0), (8, o_vv yX2_open 2 2), (11, o_al 0), (12, o_al 0), (13, o_gR 11 0), (16, o_il 1), (17, o_il 2), (18, o_il 3), (19, o_vr2 yX5_addRow 5 4), (22, o_vr2 yX11_noted 11 2), (25, o_ir)]
set_option maxRecDepth 20000 in
theorem pkX11_adds {G : zG} (hG : zGok G) (Q : zRt) : zPOK G (zRm 4) RX11 cX11_adds 4 (some .int) (zF G Q 0 0) 0 0 (zCalls G 4) Q pgX11_adds := by
  refine And.intro (k_aload_n (pc := 0) (by decide +kernel : decode cX11_adds 0 = .ok (.aload_n 0, 1)) rfl) ?_
  refine And.intro (k_gR (pc := 1) rfl (by decide) rfl zin11 lk_X11_30 (by decide +kernel : decode cX11_adds 1 = .ok (.getfield 30, 3))) ?_
  refine And.intro (k_aload_n (pc := 4) (by decide +kernel : decode cX11_adds 4 = .ok (.aload_n 0, 1)) rfl) ?_
  refine And.intro (k_gR (pc := 5) rfl (by decide) rfl zin11 lk_X11_10 (by decide +kernel : decode cX11_adds 5 = .ok (.getfield 10, 3))) ?_
  refine And.intro (k_cvV (n := 1) (pc := 8) hG (zRoom_self 4) (tag := 2) rfl ini_X2 im_X2_open se_X2_open mk_X11_109 dy_X2_open (by decide +kernel : decode cX11_adds 8 = .ok (.invokevirtual 109, 3))) ?_
  refine And.intro (k_aload_n (pc := 11) (by decide +kernel : decode cX11_adds 11 = .ok (.aload_n 0, 1)) rfl) ?_
  refine And.intro (k_aload_n (pc := 12) (by decide +kernel : decode cX11_adds 12 = .ok (.aload_n 0, 1)) rfl) ?_
  refine And.intro (k_gR (pc := 13) rfl (by decide) rfl zin11 lk_X11_10 (by decide +kernel : decode cX11_adds 13 = .ok (.getfield 10, 3))) ?_
  refine And.intro (k_iload_n (pc := 16) (by decide +kernel : decode cX11_adds 16 = .ok (.iload_n 1, 1)) rfl) ?_
  refine And.intro (k_iload_n (pc := 17) (by decide +kernel : decode cX11_adds 17 = .ok (.iload_n 2, 1)) rfl) ?_
  refine And.intro (k_iload_n (pc := 18) (by decide +kernel : decode cX11_adds 18 = .ok (.iload_n 3, 1)) rfl) ?_
  refine And.intro (k_crV (n := 3) (pc := 19) hG (zRoom_self 4) (tag := 5) rfl ini_X5 im_X5_addRow se_X5_addRow mk_X11_153 dy_X5_addRow (by decide +kernel : decode cX11_adds 19 = .ok (.invokevirtual 153, 3))) ?_
  refine And.intro (k_crV (n := 1) (pc := 22) hG (zRoom_self 4) (tag := 11) rfl ini_X11 im_X11_noted se_X11_noted mk_X11_120 dy_X11_noted (by decide +kernel : decode cX11_adds 22 = .ok (.invokevirtual 120, 3))) ?_
  refine And.intro (k_ireturn (pc := 25) rfl (by decide +kernel : decode cX11_adds 25 = .ok (.ireturn, 1))) ?_
  exact trivial
theorem cdX11_adds : Cond.code yX11_adds cX11_adds 4 (some .int) ∈ zWs := zWs_in 567 (by decide +kernel) rfl
noncomputable def pgX11_drops : zPg := [(0, o_al 0), (1, o_gR 11 4), (4, o_al 0), (5, o_gR 11 0), (8, o_vv yX2_open 2 2), (11, o_al 0), (12, o_al 0), (13, o_gR 11 0), (16, o_il 1), (17, o_vr2 yX5_dropRow 5 2), (20, o_vr2 yX11_noted 11 2), (23, o_ir)]
set_option maxRecDepth 20000 in
theorem pkX11_drops {G : zG} (hG : zGok G) (Q : zRt) : zPOK G (zRm 4) RX11 cX11_drops 2 (some .int) (zF G Q 0 0) 0 0 (zCalls G 4) Q pgX11_drops := by
  refine And.intro (k_aload_n (pc := 0) (by decide +kernel : decode cX11_drops 0 = .ok (.aload_n 0, 1)) rfl) ?_
  refine And.intro (k_gR (pc := 1) rfl (by decide) rfl zin11 lk_X11_30 (by decide +kernel : decode cX11_drops 1 = .ok (.getfield 30, 3))) ?_
  refine And.intro (k_aload_n (pc := 4) (by decide +kernel : decode cX11_drops 4 = .ok (.aload_n 0, 1)) rfl) ?_
  refine And.intro (k_gR (pc := 5) rfl (by decide) rfl zin11 lk_X11_10 (by decide +kernel : decode cX11_drops 5 = .ok (.getfield 10, 3))) ?_
  refine And.intro (k_cvV (n := 1) (pc := 8) hG (zRoom_self 4) (tag := 2) rfl ini_X2 im_X2_open se_X2_open mk_X11_109 dy_X2_open (by decide +kernel : decode cX11_drops 8 = .ok (.invokevirtual 109, 3))) ?_
  refine And.intro (k_aload_n (pc := 11) (by decide +kernel : decode cX11_drops 11 = .ok (.aload_n 0, 1)) rfl) ?_
  refine And.intro (k_aload_n (pc := 12) (by decide +kernel : decode cX11_drops 12 = .ok (.aload_n 0, 1)) rfl) ?_
  refine And.intro (k_gR (pc := 13) rfl (by decide) rfl zin11 lk_X11_10 (by decide +kernel : decode cX11_drops 13 = .ok (.getfield 10, 3))) ?_
  refine And.intro (k_iload_n (pc := 16) (by decide +kernel : decode cX11_drops 16 = .ok (.iload_n 1, 1)) rfl) ?_
  refine And.intro (k_crV (n := 1) (pc := 17) hG (zRoom_self 4) (tag := 5) rfl ini_X5 im_X5_dropRow se_X5_dropRow mk_X11_157 dy_X5_dropRow (by decide +kernel : decode cX11_drops 17 = .ok (.invokevirtual 157, 3))) ?_
  refine And.intro (k_crV (n := 1) (pc := 20) hG (zRoom_self 4) (tag := 11) rfl ini_X11 im_X11_noted se_X11_noted mk_X11_120 dy_X11_noted (by decide +kernel : decode cX11_drops 20 = .ok (.invokevirtual 120, 3))) ?_
  refine And.intro (k_ireturn (pc := 23) rfl (by decide +kernel : decode cX11_drops 23 = .ok (.ireturn, 1))) ?_
  exact trivial
theorem cdX11_drops : Cond.code yX11_drops cX11_drops 2 (some .int) ∈ zWs := zWs_in 576 (by decide +kernel) rfl
noncomputable def pgX11_isWay : zPg := [(0, o_il 0), (1, o_if_eq 9), (4, o_il 0), (5, o_ic (1)), (6, o_ic_ne 13), (9, o_ic (1)), (10, o_go 14), (13, o_ic (0)), (14, o_zr)]
set_option maxRecDepth 20000 in
theorem pkX11_isWay {G : zG} (hG : zGok G) (Q : zRt) : zPOK G (zRm 0) RX11 cX11_isWay 1 (some .boolean) (zF G Q 0 0) 0 0 (zCalls G 0) Q pgX11_isWay := by
  refine And.intro (k_iload_n (pc := 0) (by decide +kernel : decode cX11_isWay 0 = .ok (.iload_n 0, 1)) rfl) ?_
  refine And.intro (k_if_eq (pc := 1) (by decide +kernel : decode cX11_isWay 1 = .ok (.ifCond .eq 8, 3)) (by decide)) ?_
  refine And.intro (k_iload_n (pc := 4) (by decide +kernel : decode cX11_isWay 4 = .ok (.iload_n 0, 1)) rfl) ?_
  refine And.intro (k_iconst (pc := 5) (by decide +kernel : decode cX11_isWay 5 = .ok (.iconst 1, 1)) (by decide)) ?_
  refine And.intro (k_icmp_ne (pc := 6) (by decide +kernel : decode cX11_isWay 6 = .ok (.if_icmp .ne 7, 3)) (by decide)) ?_
  refine And.intro (k_iconst (pc := 9) (by decide +kernel : decode cX11_isWay 9 = .ok (.iconst 1, 1)) (by decide)) ?_
  refine And.intro (k_goto (pc := 10) (by decide +kernel : decode cX11_isWay 10 = .ok (.goto 4, 3)) (by decide)) ?_
  refine And.intro (k_iconst (pc := 13) (by decide +kernel : decode cX11_isWay 13 = .ok (.iconst 0, 1)) (by decide)) ?_
  refine And.intro (k_zreturn (pc := 14) rfl (by decide +kernel : decode cX11_isWay 14 = .ok (.ireturn, 1))) ?_
  exact trivial
theorem cdX11_isWay : Cond.code yX11_isWay cX11_isWay 1 (some .boolean) ∈ zWs := zWs_in 587 (by decide +kernel) rfl
noncomputable def pgX11_slice : zPg := [(0, o_il 1), (1, o_if_lt 26), (4, o_il 1), (5, o_ic (3)), (6, o_ic_ge 26), (9, o_il 2), (10, o_cr yX11_isWay 1), (13, o_if_eq 26), (16, o_il 3), (17, o_if_lt 26), (20, o_il 3), (21, o_ic (6)), (23, o_ic_le 28), (26, o_ic (-1)), (27, o_ir), (28, o_al 0), (29, o_gR 11 7), (32, o_al 0), (33, o_gR 11 0), (36, o_il 1), (37, o_vv yX7_workOut 7 3), (40, o_al 0), (41, o_gR 11 7), (44, o_il 1), (45, o_il 2), (46, o_il 3), (47, o_vr2 yX7_at 7 4), (50, o_as 4), (52, o_al 4), (54, o_gI 9 0), (57, o_if_eq 62), (60, o_ic (0)), (61, o_ir), (62, o_al 0), (63, o_gR 11 6), (66, o_vv yX4_clear 4 1), (69, o_al 0), (70, o_gR 11 6), (73, o_al 4), (75, o_gR 9 1), (78, o_vv yX4_tellRatio 4 2), (81, o_al 0), (82, o_gR 11 6), (85, o_al 4), (87, o_gR 9 2), (90, o_vv yX4_tellRatio 4 2), (93, o_ic (1)), (94, o_ir)]
set_option maxRecDepth 20000 in
theorem pkX11_slice {G : zG} (hG : zGok G) (Q : zRt) : zPOK G (zRm 7) RX11 cX11_slice 5 (some .int) (zF G Q 0 0) 0 0 (zCalls G 7) Q pgX11_slice := by
  refine And.intro (k_iload_n (pc := 0) (by decide +kernel : decode cX11_slice 0 = .ok (.iload_n 1, 1)) rfl) ?_
  refine And.intro (k_if_lt (pc := 1) (by decide +kernel : decode cX11_slice 1 = .ok (.ifCond .lt 25, 3)) (by decide)) ?_
  refine And.intro (k_iload_n (pc := 4) (by decide +kernel : decode cX11_slice 4 = .ok (.iload_n 1, 1)) rfl) ?_
  refine And.intro (k_iconst (pc := 5) (by decide +kernel : decode cX11_slice 5 = .ok (.iconst 3, 1)) (by decide)) ?_
  refine And.intro (k_icmp_ge (pc := 6) (by decide +kernel : decode cX11_slice 6 = .ok (.if_icmp .ge 20, 3)) (by decide)) ?_
  refine And.intro (k_iload_n (pc := 9) (by decide +kernel : decode cX11_slice 9 = .ok (.iload_n 2, 1)) rfl) ?_
  refine And.intro (k_crS (n := 1) (pc := 10) hG (zRoom_self 7) ini_X11 sta_X11_isWay mk_X11_163 dy_X11_isWay (by decide +kernel : decode cX11_slice 10 = .ok (.invokestatic 163, 3))) ?_
  refine And.intro (k_if_eq (pc := 13) (by decide +kernel : decode cX11_slice 13 = .ok (.ifCond .eq 13, 3)) (by decide)) ?_
  refine And.intro (k_iload_n (pc := 16) (by decide +kernel : decode cX11_slice 16 = .ok (.iload_n 3, 1)) rfl) ?_
  refine And.intro (k_if_lt (pc := 17) (by decide +kernel : decode cX11_slice 17 = .ok (.ifCond .lt 9, 3)) (by decide)) ?_
  refine And.intro (k_iload_n (pc := 20) (by decide +kernel : decode cX11_slice 20 = .ok (.iload_n 3, 1)) rfl) ?_
  refine And.intro (k_bipush (pc := 21) (by decide +kernel : decode cX11_slice 21 = .ok (.bipush 6, 2)) (by decide)) ?_
  refine And.intro (k_icmp_le (pc := 23) (by decide +kernel : decode cX11_slice 23 = .ok (.if_icmp .le 5, 3)) (by decide)) ?_
  refine And.intro (k_iconst (pc := 26) (by decide +kernel : decode cX11_slice 26 = .ok (.iconst (-1), 1)) (by decide)) ?_
  refine And.intro (k_ireturn (pc := 27) rfl (by decide +kernel : decode cX11_slice 27 = .ok (.ireturn, 1))) ?_
  refine And.intro (k_aload_n (pc := 28) (by decide +kernel : decode cX11_slice 28 = .ok (.aload_n 0, 1)) rfl) ?_
  refine And.intro (k_gR (pc := 29) rfl (by decide) rfl zin11 lk_X11_51 (by decide +kernel : decode cX11_slice 29 = .ok (.getfield 51, 3))) ?_
  refine And.intro (k_aload_n (pc := 32) (by decide +kernel : decode cX11_slice 32 = .ok (.aload_n 0, 1)) rfl) ?_
  refine And.intro (k_gR (pc := 33) rfl (by decide) rfl zin11 lk_X11_10 (by decide +kernel : decode cX11_slice 33 = .ok (.getfield 10, 3))) ?_
  refine And.intro (k_iload_n (pc := 36) (by decide +kernel : decode cX11_slice 36 = .ok (.iload_n 1, 1)) rfl) ?_
  refine And.intro (k_cvV (n := 2) (pc := 37) hG (zRoom_self 7) (tag := 7) rfl ini_X7 im_X7_workOut se_X7_workOut mk_X11_166 dy_X7_workOut (by decide +kernel : decode cX11_slice 37 = .ok (.invokevirtual 166, 3))) ?_
  refine And.intro (k_aload_n (pc := 40) (by decide +kernel : decode cX11_slice 40 = .ok (.aload_n 0, 1)) rfl) ?_
  refine And.intro (k_gR (pc := 41) rfl (by decide) rfl zin11 lk_X11_51 (by decide +kernel : decode cX11_slice 41 = .ok (.getfield 51, 3))) ?_
  refine And.intro (k_iload_n (pc := 44) (by decide +kernel : decode cX11_slice 44 = .ok (.iload_n 1, 1)) rfl) ?_
  refine And.intro (k_iload_n (pc := 45) (by decide +kernel : decode cX11_slice 45 = .ok (.iload_n 2, 1)) rfl) ?_
  refine And.intro (k_iload_n (pc := 46) (by decide +kernel : decode cX11_slice 46 = .ok (.iload_n 3, 1)) rfl) ?_
  refine And.intro (k_crV (n := 3) (pc := 47) hG (zRoom_self 7) (tag := 7) rfl ini_X7 im_X7_at se_X7_at mk_X11_170 dy_X7_at (by decide +kernel : decode cX11_slice 47 = .ok (.invokevirtual 170, 3))) ?_
  refine And.intro (k_astore (pc := 50) (by decide +kernel : decode cX11_slice 50 = .ok (.astore 4, 2))) ?_
  refine And.intro (k_aload (pc := 52) (by decide +kernel : decode cX11_slice 52 = .ok (.aload 4, 2))) ?_
  refine And.intro (k_gZ (pc := 54) rfl (by decide) rfl zin9 lk_X11_174 (by decide +kernel : decode cX11_slice 54 = .ok (.getfield 174, 3))) ?_
  refine And.intro (k_if_eq (pc := 57) (by decide +kernel : decode cX11_slice 57 = .ok (.ifCond .eq 5, 3)) (by decide)) ?_
  refine And.intro (k_iconst (pc := 60) (by decide +kernel : decode cX11_slice 60 = .ok (.iconst 0, 1)) (by decide)) ?_
  refine And.intro (k_ireturn (pc := 61) rfl (by decide +kernel : decode cX11_slice 61 = .ok (.ireturn, 1))) ?_
  refine And.intro (k_aload_n (pc := 62) (by decide +kernel : decode cX11_slice 62 = .ok (.aload_n 0, 1)) rfl) ?_
  refine And.intro (k_gR (pc := 63) rfl (by decide) rfl zin11 lk_X11_44 (by decide +kernel : decode cX11_slice 63 = .ok (.getfield 44, 3))) ?_
  refine And.intro (k_cvV (n := 0) (pc := 66) hG (zRoom_self 7) (tag := 4) rfl ini_X4 im_X4_clear se_X4_clear mk_X11_180 dy_X4_clear (by decide +kernel : decode cX11_slice 66 = .ok (.invokevirtual 180, 3))) ?_
  refine And.intro (k_aload_n (pc := 69) (by decide +kernel : decode cX11_slice 69 = .ok (.aload_n 0, 1)) rfl) ?_
  refine And.intro (k_gR (pc := 70) rfl (by decide) rfl zin11 lk_X11_44 (by decide +kernel : decode cX11_slice 70 = .ok (.getfield 44, 3))) ?_
  refine And.intro (k_aload (pc := 73) (by decide +kernel : decode cX11_slice 73 = .ok (.aload 4, 2))) ?_
  refine And.intro (k_gR (pc := 75) rfl (by decide) rfl zin9 lk_X11_183 (by decide +kernel : decode cX11_slice 75 = .ok (.getfield 183, 3))) ?_
  refine And.intro (k_cvV (n := 1) (pc := 78) hG (zRoom_self 7) (tag := 4) rfl ini_X4 im_X4_tellRatio se_X4_tellRatio mk_X11_186 dy_X4_tellRatio (by decide +kernel : decode cX11_slice 78 = .ok (.invokevirtual 186, 3))) ?_
  refine And.intro (k_aload_n (pc := 81) (by decide +kernel : decode cX11_slice 81 = .ok (.aload_n 0, 1)) rfl) ?_
  refine And.intro (k_gR (pc := 82) rfl (by decide) rfl zin11 lk_X11_44 (by decide +kernel : decode cX11_slice 82 = .ok (.getfield 44, 3))) ?_
  refine And.intro (k_aload (pc := 85) (by decide +kernel : decode cX11_slice 85 = .ok (.aload 4, 2))) ?_
  refine And.intro (k_gR (pc := 87) rfl (by decide) rfl zin9 lk_X11_190 (by decide +kernel : decode cX11_slice 87 = .ok (.getfield 190, 3))) ?_
  refine And.intro (k_cvV (n := 1) (pc := 90) hG (zRoom_self 7) (tag := 4) rfl ini_X4 im_X4_tellRatio se_X4_tellRatio mk_X11_186 dy_X4_tellRatio (by decide +kernel : decode cX11_slice 90 = .ok (.invokevirtual 186, 3))) ?_
  refine And.intro (k_iconst (pc := 93) (by decide +kernel : decode cX11_slice 93 = .ok (.iconst 1, 1)) (by decide)) ?_
  refine And.intro (k_ireturn (pc := 94) rfl (by decide +kernel : decode cX11_slice 94 = .ok (.ireturn, 1))) ?_
  exact trivial
theorem cdX11_slice : Cond.code yX11_slice cX11_slice 5 (some .int) ∈ zWs := zWs_in 584 (by decide +kernel) rfl
noncomputable def pgX11_isPoint : zPg := [(0, o_il 2), (1, o_ic (1)), (2, o_ic_lt 39), (5, o_il 2), (6, o_ic (12)), (8, o_ic_gt 39), (11, o_il 0), (12, o_if_lt 39), (15, o_il 0), (16, o_ic (6)), (18, o_il 2), (19, o_imul), (20, o_ic_gt 39), (23, o_il 1), (24, o_if_lt 39), (27, o_il 1), (28, o_ic (6)), (30, o_il 2), (31, o_imul), (32, o_ic_gt 39), (35, o_ic (1)), (36, o_go 40), (39, o_ic (0)), (40, o_zr)]
set_option maxRecDepth 20000 in
theorem pkX11_isPoint {G : zG} (hG : zGok G) (Q : zRt) : zPOK G (zRm 0) RX11 cX11_isPoint 3 (some .boolean) (zF G Q 0 0) 0 0 (zCalls G 0) Q pgX11_isPoint := by
  refine And.intro (k_iload_n (pc := 0) (by decide +kernel : decode cX11_isPoint 0 = .ok (.iload_n 2, 1)) rfl) ?_
  refine And.intro (k_iconst (pc := 1) (by decide +kernel : decode cX11_isPoint 1 = .ok (.iconst 1, 1)) (by decide)) ?_
  refine And.intro (k_icmp_lt (pc := 2) (by decide +kernel : decode cX11_isPoint 2 = .ok (.if_icmp .lt 37, 3)) (by decide)) ?_
  refine And.intro (k_iload_n (pc := 5) (by decide +kernel : decode cX11_isPoint 5 = .ok (.iload_n 2, 1)) rfl) ?_
  refine And.intro (k_bipush (pc := 6) (by decide +kernel : decode cX11_isPoint 6 = .ok (.bipush 12, 2)) (by decide)) ?_
  refine And.intro (k_icmp_gt (pc := 8) (by decide +kernel : decode cX11_isPoint 8 = .ok (.if_icmp .gt 31, 3)) (by decide)) ?_
  refine And.intro (k_iload_n (pc := 11) (by decide +kernel : decode cX11_isPoint 11 = .ok (.iload_n 0, 1)) rfl) ?_
  refine And.intro (k_if_lt (pc := 12) (by decide +kernel : decode cX11_isPoint 12 = .ok (.ifCond .lt 27, 3)) (by decide)) ?_
  refine And.intro (k_iload_n (pc := 15) (by decide +kernel : decode cX11_isPoint 15 = .ok (.iload_n 0, 1)) rfl) ?_
  refine And.intro (k_bipush (pc := 16) (by decide +kernel : decode cX11_isPoint 16 = .ok (.bipush 6, 2)) (by decide)) ?_
  refine And.intro (k_iload_n (pc := 18) (by decide +kernel : decode cX11_isPoint 18 = .ok (.iload_n 2, 1)) rfl) ?_
  refine And.intro (k_imul (pc := 19) (by decide +kernel : decode cX11_isPoint 19 = .ok (.imul, 1))) ?_
  refine And.intro (k_icmp_gt (pc := 20) (by decide +kernel : decode cX11_isPoint 20 = .ok (.if_icmp .gt 19, 3)) (by decide)) ?_
  refine And.intro (k_iload_n (pc := 23) (by decide +kernel : decode cX11_isPoint 23 = .ok (.iload_n 1, 1)) rfl) ?_
  refine And.intro (k_if_lt (pc := 24) (by decide +kernel : decode cX11_isPoint 24 = .ok (.ifCond .lt 15, 3)) (by decide)) ?_
  refine And.intro (k_iload_n (pc := 27) (by decide +kernel : decode cX11_isPoint 27 = .ok (.iload_n 1, 1)) rfl) ?_
  refine And.intro (k_bipush (pc := 28) (by decide +kernel : decode cX11_isPoint 28 = .ok (.bipush 6, 2)) (by decide)) ?_
  refine And.intro (k_iload_n (pc := 30) (by decide +kernel : decode cX11_isPoint 30 = .ok (.iload_n 2, 1)) rfl) ?_
  refine And.intro (k_imul (pc := 31) (by decide +kernel : decode cX11_isPoint 31 = .ok (.imul, 1))) ?_
  refine And.intro (k_icmp_gt (pc := 32) (by decide +kernel : decode cX11_isPoint 32 = .ok (.if_icmp .gt 7, 3)) (by decide)) ?_
  refine And.intro (k_iconst (pc := 35) (by decide +kernel : decode cX11_isPoint 35 = .ok (.iconst 1, 1)) (by decide)) ?_
  refine And.intro (k_goto (pc := 36) (by decide +kernel : decode cX11_isPoint 36 = .ok (.goto 4, 3)) (by decide)) ?_
  refine And.intro (k_iconst (pc := 39) (by decide +kernel : decode cX11_isPoint 39 = .ok (.iconst 0, 1)) (by decide)) ?_
  refine And.intro (k_zreturn (pc := 40) rfl (by decide +kernel : decode cX11_isPoint 40 = .ok (.ireturn, 1))) ?_
  exact trivial
theorem cdX11_isPoint : Cond.code yX11_isPoint cX11_isPoint 3 (some .boolean) ∈ zWs := zWs_in 684 (by decide +kernel) rfl
noncomputable def pgX11_inside : zPg := [(0, o_il 1), (1, o_if_lt 19), (4, o_il 1), (5, o_ic (3)), (6, o_ic_gt 19), (9, o_il 2), (10, o_il 3), (11, o_il 4), (13, o_cr yX11_isPoint 3), (16, o_if_ne 21), (19, o_ic (-1)), (20, o_ir), (21, o_al 0), (22, o_gR 11 7), (25, o_al 0), (26, o_gR 11 0), (29, o_il 1), (30, o_ic (1)), (31, o_isub), (32, o_vv yX7_workOut 7 3), (35, o_al 0), (36, o_gR 11 7), (39, o_al 0), (40, o_gR 11 0), (43, o_il 1), (44, o_il 2), (45, o_il 3), (46, o_il 4), (48, o_vr2 yX7_contain 7 6), (51, o_if_eq 58), (54, o_ic (1)), (55, o_go 59), (58, o_ic (0)), (59, o_ir)]
set_option maxRecDepth 20000 in
theorem pkX11_inside {G : zG} (hG : zGok G) (Q : zRt) : zPOK G (zRm 7) RX11 cX11_inside 5 (some .int) (zF G Q 0 0) 0 0 (zCalls G 7) Q pgX11_inside := by
  refine And.intro (k_iload_n (pc := 0) (by decide +kernel : decode cX11_inside 0 = .ok (.iload_n 1, 1)) rfl) ?_
  refine And.intro (k_if_lt (pc := 1) (by decide +kernel : decode cX11_inside 1 = .ok (.ifCond .lt 18, 3)) (by decide)) ?_
  refine And.intro (k_iload_n (pc := 4) (by decide +kernel : decode cX11_inside 4 = .ok (.iload_n 1, 1)) rfl) ?_
  refine And.intro (k_iconst (pc := 5) (by decide +kernel : decode cX11_inside 5 = .ok (.iconst 3, 1)) (by decide)) ?_
  refine And.intro (k_icmp_gt (pc := 6) (by decide +kernel : decode cX11_inside 6 = .ok (.if_icmp .gt 13, 3)) (by decide)) ?_
  refine And.intro (k_iload_n (pc := 9) (by decide +kernel : decode cX11_inside 9 = .ok (.iload_n 2, 1)) rfl) ?_
  refine And.intro (k_iload_n (pc := 10) (by decide +kernel : decode cX11_inside 10 = .ok (.iload_n 3, 1)) rfl) ?_
  refine And.intro (k_iload (pc := 11) (by decide +kernel : decode cX11_inside 11 = .ok (.iload 4, 2))) ?_
  refine And.intro (k_crS (n := 3) (pc := 13) hG (zRoom_self 7) ini_X11 sta_X11_isPoint mk_X11_193 dy_X11_isPoint (by decide +kernel : decode cX11_inside 13 = .ok (.invokestatic 193, 3))) ?_
  refine And.intro (k_if_ne (pc := 16) (by decide +kernel : decode cX11_inside 16 = .ok (.ifCond .ne 5, 3)) (by decide)) ?_
  refine And.intro (k_iconst (pc := 19) (by decide +kernel : decode cX11_inside 19 = .ok (.iconst (-1), 1)) (by decide)) ?_
  refine And.intro (k_ireturn (pc := 20) rfl (by decide +kernel : decode cX11_inside 20 = .ok (.ireturn, 1))) ?_
  refine And.intro (k_aload_n (pc := 21) (by decide +kernel : decode cX11_inside 21 = .ok (.aload_n 0, 1)) rfl) ?_
  refine And.intro (k_gR (pc := 22) rfl (by decide) rfl zin11 lk_X11_51 (by decide +kernel : decode cX11_inside 22 = .ok (.getfield 51, 3))) ?_
  refine And.intro (k_aload_n (pc := 25) (by decide +kernel : decode cX11_inside 25 = .ok (.aload_n 0, 1)) rfl) ?_
  refine And.intro (k_gR (pc := 26) rfl (by decide) rfl zin11 lk_X11_10 (by decide +kernel : decode cX11_inside 26 = .ok (.getfield 10, 3))) ?_
  refine And.intro (k_iload_n (pc := 29) (by decide +kernel : decode cX11_inside 29 = .ok (.iload_n 1, 1)) rfl) ?_
  refine And.intro (k_iconst (pc := 30) (by decide +kernel : decode cX11_inside 30 = .ok (.iconst 1, 1)) (by decide)) ?_
  refine And.intro (k_isub (pc := 31) (by decide +kernel : decode cX11_inside 31 = .ok (.isub, 1))) ?_
  refine And.intro (k_cvV (n := 2) (pc := 32) hG (zRoom_self 7) (tag := 7) rfl ini_X7 im_X7_workOut se_X7_workOut mk_X11_166 dy_X7_workOut (by decide +kernel : decode cX11_inside 32 = .ok (.invokevirtual 166, 3))) ?_
  refine And.intro (k_aload_n (pc := 35) (by decide +kernel : decode cX11_inside 35 = .ok (.aload_n 0, 1)) rfl) ?_
  refine And.intro (k_gR (pc := 36) rfl (by decide) rfl zin11 lk_X11_51 (by decide +kernel : decode cX11_inside 36 = .ok (.getfield 51, 3))) ?_
  refine And.intro (k_aload_n (pc := 39) (by decide +kernel : decode cX11_inside 39 = .ok (.aload_n 0, 1)) rfl) ?_
  refine And.intro (k_gR (pc := 40) rfl (by decide) rfl zin11 lk_X11_10 (by decide +kernel : decode cX11_inside 40 = .ok (.getfield 10, 3))) ?_
  refine And.intro (k_iload_n (pc := 43) (by decide +kernel : decode cX11_inside 43 = .ok (.iload_n 1, 1)) rfl) ?_
  refine And.intro (k_iload_n (pc := 44) (by decide +kernel : decode cX11_inside 44 = .ok (.iload_n 2, 1)) rfl) ?_
  refine And.intro (k_iload_n (pc := 45) (by decide +kernel : decode cX11_inside 45 = .ok (.iload_n 3, 1)) rfl) ?_
  refine And.intro (k_iload (pc := 46) (by decide +kernel : decode cX11_inside 46 = .ok (.iload 4, 2))) ?_
  refine And.intro (k_crV (n := 5) (pc := 48) hG (zRoom_self 7) (tag := 7) rfl ini_X7 im_X7_contain se_X7_contain mk_X11_197 dy_X7_contain (by decide +kernel : decode cX11_inside 48 = .ok (.invokevirtual 197, 3))) ?_
  refine And.intro (k_if_eq (pc := 51) (by decide +kernel : decode cX11_inside 51 = .ok (.ifCond .eq 7, 3)) (by decide)) ?_
  refine And.intro (k_iconst (pc := 54) (by decide +kernel : decode cX11_inside 54 = .ok (.iconst 1, 1)) (by decide)) ?_
  refine And.intro (k_goto (pc := 55) (by decide +kernel : decode cX11_inside 55 = .ok (.goto 4, 3)) (by decide)) ?_
  refine And.intro (k_iconst (pc := 58) (by decide +kernel : decode cX11_inside 58 = .ok (.iconst 0, 1)) (by decide)) ?_
  refine And.intro (k_ireturn (pc := 59) rfl (by decide +kernel : decode cX11_inside 59 = .ok (.ireturn, 1))) ?_
  exact trivial
theorem cdX11_inside : Cond.code yX11_inside cX11_inside 5 (some .int) ∈ zWs := zWs_in 681 (by decide +kernel) rfl
noncomputable def pgX11_round : zPg := [(0, o_il 1), (1, o_il 2), (2, o_il 3), (3, o_cr yX11_isPoint 3), (6, o_if_ne 11), (9, o_ic (-1)), (10, o_ir), (11, o_al 0), (12, o_gR 11 7), (15, o_al 0), (16, o_gR 11 0), (19, o_ic (2)), (20, o_vv yX7_workOut 7 3), (23, o_ic (0)), (24, o_is 4), (26, o_il 4), (28, o_ic (3)), (29, o_ic_gt 60), (32, o_al 0), (33, o_gR 11 7), (36, o_al 0), (37, o_gR 11 0), (40, o_il 4), (42, o_il 1), (43, o_il 2), (44, o_il 3), (45, o_vr2 yX7_contain 7 6), (48, o_if_ne 54), (51, o_il 4), (53, o_ir), (54, o_inc 4 (1)), (57, o_go 26), (60, o_ic (-2)), (62, o_ir)]
set_option maxRecDepth 20000 in
theorem pkX11_round {G : zG} (hG : zGok G) (Q : zRt) : zPOK G (zRm 7) RX11 cX11_round 5 (some .int) (zF G Q 0 0) 0 0 (zCalls G 7) Q pgX11_round := by
  refine And.intro (k_iload_n (pc := 0) (by decide +kernel : decode cX11_round 0 = .ok (.iload_n 1, 1)) rfl) ?_
  refine And.intro (k_iload_n (pc := 1) (by decide +kernel : decode cX11_round 1 = .ok (.iload_n 2, 1)) rfl) ?_
  refine And.intro (k_iload_n (pc := 2) (by decide +kernel : decode cX11_round 2 = .ok (.iload_n 3, 1)) rfl) ?_
  refine And.intro (k_crS (n := 3) (pc := 3) hG (zRoom_self 7) ini_X11 sta_X11_isPoint mk_X11_193 dy_X11_isPoint (by decide +kernel : decode cX11_round 3 = .ok (.invokestatic 193, 3))) ?_
  refine And.intro (k_if_ne (pc := 6) (by decide +kernel : decode cX11_round 6 = .ok (.ifCond .ne 5, 3)) (by decide)) ?_
  refine And.intro (k_iconst (pc := 9) (by decide +kernel : decode cX11_round 9 = .ok (.iconst (-1), 1)) (by decide)) ?_
  refine And.intro (k_ireturn (pc := 10) rfl (by decide +kernel : decode cX11_round 10 = .ok (.ireturn, 1))) ?_
  refine And.intro (k_aload_n (pc := 11) (by decide +kernel : decode cX11_round 11 = .ok (.aload_n 0, 1)) rfl) ?_
  refine And.intro (k_gR (pc := 12) rfl (by decide) rfl zin11 lk_X11_51 (by decide +kernel : decode cX11_round 12 = .ok (.getfield 51, 3))) ?_
  refine And.intro (k_aload_n (pc := 15) (by decide +kernel : decode cX11_round 15 = .ok (.aload_n 0, 1)) rfl) ?_
  refine And.intro (k_gR (pc := 16) rfl (by decide) rfl zin11 lk_X11_10 (by decide +kernel : decode cX11_round 16 = .ok (.getfield 10, 3))) ?_
  refine And.intro (k_iconst (pc := 19) (by decide +kernel : decode cX11_round 19 = .ok (.iconst 2, 1)) (by decide)) ?_
  refine And.intro (k_cvV (n := 2) (pc := 20) hG (zRoom_self 7) (tag := 7) rfl ini_X7 im_X7_workOut se_X7_workOut mk_X11_166 dy_X7_workOut (by decide +kernel : decode cX11_round 20 = .ok (.invokevirtual 166, 3))) ?_
  refine And.intro (k_iconst (pc := 23) (by decide +kernel : decode cX11_round 23 = .ok (.iconst 0, 1)) (by decide)) ?_
  refine And.intro (k_istore (pc := 24) (by decide +kernel : decode cX11_round 24 = .ok (.istore 4, 2))) ?_
  refine And.intro (k_iload (pc := 26) (by decide +kernel : decode cX11_round 26 = .ok (.iload 4, 2))) ?_
  refine And.intro (k_iconst (pc := 28) (by decide +kernel : decode cX11_round 28 = .ok (.iconst 3, 1)) (by decide)) ?_
  refine And.intro (k_icmp_gt (pc := 29) (by decide +kernel : decode cX11_round 29 = .ok (.if_icmp .gt 31, 3)) (by decide)) ?_
  refine And.intro (k_aload_n (pc := 32) (by decide +kernel : decode cX11_round 32 = .ok (.aload_n 0, 1)) rfl) ?_
  refine And.intro (k_gR (pc := 33) rfl (by decide) rfl zin11 lk_X11_51 (by decide +kernel : decode cX11_round 33 = .ok (.getfield 51, 3))) ?_
  refine And.intro (k_aload_n (pc := 36) (by decide +kernel : decode cX11_round 36 = .ok (.aload_n 0, 1)) rfl) ?_
  refine And.intro (k_gR (pc := 37) rfl (by decide) rfl zin11 lk_X11_10 (by decide +kernel : decode cX11_round 37 = .ok (.getfield 10, 3))) ?_
  refine And.intro (k_iload (pc := 40) (by decide +kernel : decode cX11_round 40 = .ok (.iload 4, 2))) ?_
  refine And.intro (k_iload_n (pc := 42) (by decide +kernel : decode cX11_round 42 = .ok (.iload_n 1, 1)) rfl) ?_
  refine And.intro (k_iload_n (pc := 43) (by decide +kernel : decode cX11_round 43 = .ok (.iload_n 2, 1)) rfl) ?_
  refine And.intro (k_iload_n (pc := 44) (by decide +kernel : decode cX11_round 44 = .ok (.iload_n 3, 1)) rfl) ?_
  refine And.intro (k_crV (n := 5) (pc := 45) hG (zRoom_self 7) (tag := 7) rfl ini_X7 im_X7_contain se_X7_contain mk_X11_197 dy_X7_contain (by decide +kernel : decode cX11_round 45 = .ok (.invokevirtual 197, 3))) ?_
  refine And.intro (k_if_ne (pc := 48) (by decide +kernel : decode cX11_round 48 = .ok (.ifCond .ne 6, 3)) (by decide)) ?_
  refine And.intro (k_iload (pc := 51) (by decide +kernel : decode cX11_round 51 = .ok (.iload 4, 2))) ?_
  refine And.intro (k_ireturn (pc := 53) rfl (by decide +kernel : decode cX11_round 53 = .ok (.ireturn, 1))) ?_
  refine And.intro (k_iinc (pc := 54) (by decide +kernel : decode cX11_round 54 = .ok (.iinc 4 1, 3)) (by decide)) ?_
  refine And.intro (k_goto (pc := 57) (by decide +kernel : decode cX11_round 57 = .ok (.goto (-31), 3)) (by decide)) ?_
  refine And.intro (k_bipush (pc := 60) (by decide +kernel : decode cX11_round 60 = .ok (.bipush (-2), 2)) (by decide)) ?_
  refine And.intro (k_ireturn (pc := 62) rfl (by decide +kernel : decode cX11_round 62 = .ok (.ireturn, 1))) ?_
  exact trivial
theorem cdX11_round : Cond.code yX11_round cX11_round 5 (some .int) ∈ zWs := zWs_in 706 (by decide +kernel) rfl
noncomputable def pgX11_splits : zPg := [(0, o_il 1), (1, o_if_lt 19), (4, o_il 1), (5, o_ic (3)), (6, o_ic_ge 19), (9, o_il 2), (10, o_il 3), (11, o_il 4), (13, o_cr yX11_isPoint 3), (16, o_if_ne 21), (19, o_ic (-1)), (20, o_ir), (21, o_al 0), (22, o_gR 11 7), (25, o_al 0), (26, o_gR 11 0), (29, o_il 1), (30, o_vv yX7_workOut 7 3), (33, o_al 0), (34, o_gR 11 7), (37, o_al 0), (38, o_gR 11 0), (41, o_il 1), (42, o_il 2), (43, o_il 3), (44, o_il 4), (46, o_vr2 yX7_contain 7 6), (49, o_if_ne 55), (52, o_ic (-2)), (54, o_ir), (55, o_al 0), (56, o_gR 11 7), (59, o_il 1), (60, o_ic (0)), (61, o_il 2), (62, o_il 3), (63, o_il 4), (65, o_vr2 yX7_passes 7 6), (68, o_if_eq 75), (71, o_ic (0)), (72, o_go 76), (75, o_ic (1)), (76, o_is 5), (78, o_al 0), (79, o_gR 11 7), (82, o_il 1), (83, o_ic (1)), (84, o_il 2), (85, o_il 3), (86, o_il 4), (88, o_vr2 yX7_passes 7 6), (91, o_if_eq 98), (94, o_ic (0)), (95, o_go 99), (98, o_ic (1)), (99, o_is 6), (101, o_al 0), (102, o_gR 11 6), (105, o_vv yX4_clear 4 1), (108, o_al 0), (109, o_gR 11 6), (112, o_il 5), (114, o_i2l), (115, o_vv yX4_tell 4 2), (118, o_al 0), (119, o_gR 11 6), (122, o_il 6), (124, o_i2l), (125, o_vv yX4_tell 4 2), (128, o_il 5), (130, o_il 6), (132, o_iadd), (133, o_ir)]
set_option maxRecDepth 20000 in
theorem pkX11_splits {G : zG} (hG : zGok G) (Q : zRt) : zPOK G (zRm 7) RX11 cX11_splits 7 (some .int) (zF G Q 0 0) 0 0 (zCalls G 7) Q pgX11_splits := by
  refine And.intro (k_iload_n (pc := 0) (by decide +kernel : decode cX11_splits 0 = .ok (.iload_n 1, 1)) rfl) ?_
  refine And.intro (k_if_lt (pc := 1) (by decide +kernel : decode cX11_splits 1 = .ok (.ifCond .lt 18, 3)) (by decide)) ?_
  refine And.intro (k_iload_n (pc := 4) (by decide +kernel : decode cX11_splits 4 = .ok (.iload_n 1, 1)) rfl) ?_
  refine And.intro (k_iconst (pc := 5) (by decide +kernel : decode cX11_splits 5 = .ok (.iconst 3, 1)) (by decide)) ?_
  refine And.intro (k_icmp_ge (pc := 6) (by decide +kernel : decode cX11_splits 6 = .ok (.if_icmp .ge 13, 3)) (by decide)) ?_
  refine And.intro (k_iload_n (pc := 9) (by decide +kernel : decode cX11_splits 9 = .ok (.iload_n 2, 1)) rfl) ?_
  refine And.intro (k_iload_n (pc := 10) (by decide +kernel : decode cX11_splits 10 = .ok (.iload_n 3, 1)) rfl) ?_
  refine And.intro (k_iload (pc := 11) (by decide +kernel : decode cX11_splits 11 = .ok (.iload 4, 2))) ?_
  refine And.intro (k_crS (n := 3) (pc := 13) hG (zRoom_self 7) ini_X11 sta_X11_isPoint mk_X11_193 dy_X11_isPoint (by decide +kernel : decode cX11_splits 13 = .ok (.invokestatic 193, 3))) ?_
  refine And.intro (k_if_ne (pc := 16) (by decide +kernel : decode cX11_splits 16 = .ok (.ifCond .ne 5, 3)) (by decide)) ?_
  refine And.intro (k_iconst (pc := 19) (by decide +kernel : decode cX11_splits 19 = .ok (.iconst (-1), 1)) (by decide)) ?_
  refine And.intro (k_ireturn (pc := 20) rfl (by decide +kernel : decode cX11_splits 20 = .ok (.ireturn, 1))) ?_
  refine And.intro (k_aload_n (pc := 21) (by decide +kernel : decode cX11_splits 21 = .ok (.aload_n 0, 1)) rfl) ?_
  refine And.intro (k_gR (pc := 22) rfl (by decide) rfl zin11 lk_X11_51 (by decide +kernel : decode cX11_splits 22 = .ok (.getfield 51, 3))) ?_
  refine And.intro (k_aload_n (pc := 25) (by decide +kernel : decode cX11_splits 25 = .ok (.aload_n 0, 1)) rfl) ?_
  refine And.intro (k_gR (pc := 26) rfl (by decide) rfl zin11 lk_X11_10 (by decide +kernel : decode cX11_splits 26 = .ok (.getfield 10, 3))) ?_
  refine And.intro (k_iload_n (pc := 29) (by decide +kernel : decode cX11_splits 29 = .ok (.iload_n 1, 1)) rfl) ?_
  refine And.intro (k_cvV (n := 2) (pc := 30) hG (zRoom_self 7) (tag := 7) rfl ini_X7 im_X7_workOut se_X7_workOut mk_X11_166 dy_X7_workOut (by decide +kernel : decode cX11_splits 30 = .ok (.invokevirtual 166, 3))) ?_
  refine And.intro (k_aload_n (pc := 33) (by decide +kernel : decode cX11_splits 33 = .ok (.aload_n 0, 1)) rfl) ?_
  refine And.intro (k_gR (pc := 34) rfl (by decide) rfl zin11 lk_X11_51 (by decide +kernel : decode cX11_splits 34 = .ok (.getfield 51, 3))) ?_
  refine And.intro (k_aload_n (pc := 37) (by decide +kernel : decode cX11_splits 37 = .ok (.aload_n 0, 1)) rfl) ?_
  refine And.intro (k_gR (pc := 38) rfl (by decide) rfl zin11 lk_X11_10 (by decide +kernel : decode cX11_splits 38 = .ok (.getfield 10, 3))) ?_
  refine And.intro (k_iload_n (pc := 41) (by decide +kernel : decode cX11_splits 41 = .ok (.iload_n 1, 1)) rfl) ?_
  refine And.intro (k_iload_n (pc := 42) (by decide +kernel : decode cX11_splits 42 = .ok (.iload_n 2, 1)) rfl) ?_
  refine And.intro (k_iload_n (pc := 43) (by decide +kernel : decode cX11_splits 43 = .ok (.iload_n 3, 1)) rfl) ?_
  refine And.intro (k_iload (pc := 44) (by decide +kernel : decode cX11_splits 44 = .ok (.iload 4, 2))) ?_
  refine And.intro (k_crV (n := 5) (pc := 46) hG (zRoom_self 7) (tag := 7) rfl ini_X7 im_X7_contain se_X7_contain mk_X11_197 dy_X7_contain (by decide +kernel : decode cX11_splits 46 = .ok (.invokevirtual 197, 3))) ?_
  refine And.intro (k_if_ne (pc := 49) (by decide +kernel : decode cX11_splits 49 = .ok (.ifCond .ne 6, 3)) (by decide)) ?_
  refine And.intro (k_bipush (pc := 52) (by decide +kernel : decode cX11_splits 52 = .ok (.bipush (-2), 2)) (by decide)) ?_
  refine And.intro (k_ireturn (pc := 54) rfl (by decide +kernel : decode cX11_splits 54 = .ok (.ireturn, 1))) ?_
  refine And.intro (k_aload_n (pc := 55) (by decide +kernel : decode cX11_splits 55 = .ok (.aload_n 0, 1)) rfl) ?_
  refine And.intro (k_gR (pc := 56) rfl (by decide) rfl zin11 lk_X11_51 (by decide +kernel : decode cX11_splits 56 = .ok (.getfield 51, 3))) ?_
  refine And.intro (k_iload_n (pc := 59) (by decide +kernel : decode cX11_splits 59 = .ok (.iload_n 1, 1)) rfl) ?_
  refine And.intro (k_iconst (pc := 60) (by decide +kernel : decode cX11_splits 60 = .ok (.iconst 0, 1)) (by decide)) ?_
  refine And.intro (k_iload_n (pc := 61) (by decide +kernel : decode cX11_splits 61 = .ok (.iload_n 2, 1)) rfl) ?_
  refine And.intro (k_iload_n (pc := 62) (by decide +kernel : decode cX11_splits 62 = .ok (.iload_n 3, 1)) rfl) ?_
  refine And.intro (k_iload (pc := 63) (by decide +kernel : decode cX11_splits 63 = .ok (.iload 4, 2))) ?_
  refine And.intro (k_crV (n := 5) (pc := 65) hG (zRoom_self 7) (tag := 7) rfl ini_X7 im_X7_passes se_X7_passes mk_X11_201 dy_X7_passes (by decide +kernel : decode cX11_splits 65 = .ok (.invokevirtual 201, 3))) ?_
  refine And.intro (k_if_eq (pc := 68) (by decide +kernel : decode cX11_splits 68 = .ok (.ifCond .eq 7, 3)) (by decide)) ?_
  refine And.intro (k_iconst (pc := 71) (by decide +kernel : decode cX11_splits 71 = .ok (.iconst 0, 1)) (by decide)) ?_
  refine And.intro (k_goto (pc := 72) (by decide +kernel : decode cX11_splits 72 = .ok (.goto 4, 3)) (by decide)) ?_
  refine And.intro (k_iconst (pc := 75) (by decide +kernel : decode cX11_splits 75 = .ok (.iconst 1, 1)) (by decide)) ?_
  refine And.intro (k_istore (pc := 76) (by decide +kernel : decode cX11_splits 76 = .ok (.istore 5, 2))) ?_
  refine And.intro (k_aload_n (pc := 78) (by decide +kernel : decode cX11_splits 78 = .ok (.aload_n 0, 1)) rfl) ?_
  refine And.intro (k_gR (pc := 79) rfl (by decide) rfl zin11 lk_X11_51 (by decide +kernel : decode cX11_splits 79 = .ok (.getfield 51, 3))) ?_
  refine And.intro (k_iload_n (pc := 82) (by decide +kernel : decode cX11_splits 82 = .ok (.iload_n 1, 1)) rfl) ?_
  refine And.intro (k_iconst (pc := 83) (by decide +kernel : decode cX11_splits 83 = .ok (.iconst 1, 1)) (by decide)) ?_
  refine And.intro (k_iload_n (pc := 84) (by decide +kernel : decode cX11_splits 84 = .ok (.iload_n 2, 1)) rfl) ?_
  refine And.intro (k_iload_n (pc := 85) (by decide +kernel : decode cX11_splits 85 = .ok (.iload_n 3, 1)) rfl) ?_
  refine And.intro (k_iload (pc := 86) (by decide +kernel : decode cX11_splits 86 = .ok (.iload 4, 2))) ?_
  refine And.intro (k_crV (n := 5) (pc := 88) hG (zRoom_self 7) (tag := 7) rfl ini_X7 im_X7_passes se_X7_passes mk_X11_201 dy_X7_passes (by decide +kernel : decode cX11_splits 88 = .ok (.invokevirtual 201, 3))) ?_
  refine And.intro (k_if_eq (pc := 91) (by decide +kernel : decode cX11_splits 91 = .ok (.ifCond .eq 7, 3)) (by decide)) ?_
  refine And.intro (k_iconst (pc := 94) (by decide +kernel : decode cX11_splits 94 = .ok (.iconst 0, 1)) (by decide)) ?_
  refine And.intro (k_goto (pc := 95) (by decide +kernel : decode cX11_splits 95 = .ok (.goto 4, 3)) (by decide)) ?_
  refine And.intro (k_iconst (pc := 98) (by decide +kernel : decode cX11_splits 98 = .ok (.iconst 1, 1)) (by decide)) ?_
  refine And.intro (k_istore (pc := 99) (by decide +kernel : decode cX11_splits 99 = .ok (.istore 6, 2))) ?_
  refine And.intro (k_aload_n (pc := 101) (by decide +kernel : decode cX11_splits 101 = .ok (.aload_n 0, 1)) rfl) ?_
  refine And.intro (k_gR (pc := 102) rfl (by decide) rfl zin11 lk_X11_44 (by decide +kernel : decode cX11_splits 102 = .ok (.getfield 44, 3))) ?_
  refine And.intro (k_cvV (n := 0) (pc := 105) hG (zRoom_self 7) (tag := 4) rfl ini_X4 im_X4_clear se_X4_clear mk_X11_180 dy_X4_clear (by decide +kernel : decode cX11_splits 105 = .ok (.invokevirtual 180, 3))) ?_
  refine And.intro (k_aload_n (pc := 108) (by decide +kernel : decode cX11_splits 108 = .ok (.aload_n 0, 1)) rfl) ?_
  refine And.intro (k_gR (pc := 109) rfl (by decide) rfl zin11 lk_X11_44 (by decide +kernel : decode cX11_splits 109 = .ok (.getfield 44, 3))) ?_
  refine And.intro (k_iload (pc := 112) (by decide +kernel : decode cX11_splits 112 = .ok (.iload 5, 2))) ?_
  refine And.intro (k_i2l (pc := 114) (by decide +kernel : decode cX11_splits 114 = .ok (.i2l, 1))) ?_
  refine And.intro (k_cvV (n := 1) (pc := 115) hG (zRoom_self 7) (tag := 4) rfl ini_X4 im_X4_tell se_X4_tell mk_X11_205 dy_X4_tell (by decide +kernel : decode cX11_splits 115 = .ok (.invokevirtual 205, 3))) ?_
  refine And.intro (k_aload_n (pc := 118) (by decide +kernel : decode cX11_splits 118 = .ok (.aload_n 0, 1)) rfl) ?_
  refine And.intro (k_gR (pc := 119) rfl (by decide) rfl zin11 lk_X11_44 (by decide +kernel : decode cX11_splits 119 = .ok (.getfield 44, 3))) ?_
  refine And.intro (k_iload (pc := 122) (by decide +kernel : decode cX11_splits 122 = .ok (.iload 6, 2))) ?_
  refine And.intro (k_i2l (pc := 124) (by decide +kernel : decode cX11_splits 124 = .ok (.i2l, 1))) ?_
  refine And.intro (k_cvV (n := 1) (pc := 125) hG (zRoom_self 7) (tag := 4) rfl ini_X4 im_X4_tell se_X4_tell mk_X11_205 dy_X4_tell (by decide +kernel : decode cX11_splits 125 = .ok (.invokevirtual 205, 3))) ?_
  refine And.intro (k_iload (pc := 128) (by decide +kernel : decode cX11_splits 128 = .ok (.iload 5, 2))) ?_
  refine And.intro (k_iload (pc := 130) (by decide +kernel : decode cX11_splits 130 = .ok (.iload 6, 2))) ?_
  refine And.intro (k_iadd (pc := 132) (by decide +kernel : decode cX11_splits 132 = .ok (.iadd, 1))) ?_
  refine And.intro (k_ireturn (pc := 133) rfl (by decide +kernel : decode cX11_splits 133 = .ok (.ireturn, 1))) ?_
  exact trivial
theorem cdX11_splits : Cond.code yX11_splits cX11_splits 7 (some .int) ∈ zWs := zWs_in 710 (by decide +kernel) rfl
noncomputable def pgX11_slices : zPg := [(0, o_il 1), (1, o_if_lt 9), (4, o_il 1), (5, o_ic (3)), (6, o_ic_lt 11), (9, o_ic (-1)), (10, o_ir), (11, o_al 0), (12, o_gR 11 7), (15, o_al 0), (16, o_gR 11 0), (19, o_il 1), (20, o_vv yX7_workOut 7 3), (23, o_al 0), (24, o_gR 11 7), (27, o_il 1), (28, o_ic (0)), (29, o_vr2 yX7_filled 7 3), (32, o_is 2), (33, o_al 0), (34, o_gR 11 7), (37, o_il 1), (38, o_ic (1)), (39, o_vr2 yX7_filled 7 3), (42, o_is 3), (43, o_al 0), (44, o_gR 11 6), (47, o_vv yX4_clear 4 1), (50, o_al 0), (51, o_gR 11 6), (54, o_il 2), (55, o_i2l), (56, o_vv yX4_tell 4 2), (59, o_al 0), (60, o_gR 11 6), (63, o_il 3), (64, o_i2l), (65, o_vv yX4_tell 4 2), (68, o_il 1), (69, o_ic (2)), (70, o_ic_ge 96), (73, o_al 0), (74, o_gR 11 7), (77, o_il 1), (78, o_al 0), (79, o_gR 11 11), (82, o_vv yX7_findLongest 7 3), (85, o_al 0), (86, o_gR 11 6), (89, o_al 0), (90, o_gR 11 11), (93, o_vv yX4_tellRatio 4 2), (96, o_il 2), (97, o_il 3), (98, o_iadd), (99, o_ir)]
set_option maxRecDepth 20000 in
theorem pkX11_slices {G : zG} (hG : zGok G) (Q : zRt) : zPOK G (zRm 7) RX11 cX11_slices 4 (some .int) (zF G Q 0 0) 0 0 (zCalls G 7) Q pgX11_slices := by
  refine And.intro (k_iload_n (pc := 0) (by decide +kernel : decode cX11_slices 0 = .ok (.iload_n 1, 1)) rfl) ?_
  refine And.intro (k_if_lt (pc := 1) (by decide +kernel : decode cX11_slices 1 = .ok (.ifCond .lt 8, 3)) (by decide)) ?_
  refine And.intro (k_iload_n (pc := 4) (by decide +kernel : decode cX11_slices 4 = .ok (.iload_n 1, 1)) rfl) ?_
  refine And.intro (k_iconst (pc := 5) (by decide +kernel : decode cX11_slices 5 = .ok (.iconst 3, 1)) (by decide)) ?_
  refine And.intro (k_icmp_lt (pc := 6) (by decide +kernel : decode cX11_slices 6 = .ok (.if_icmp .lt 5, 3)) (by decide)) ?_
  refine And.intro (k_iconst (pc := 9) (by decide +kernel : decode cX11_slices 9 = .ok (.iconst (-1), 1)) (by decide)) ?_
  refine And.intro (k_ireturn (pc := 10) rfl (by decide +kernel : decode cX11_slices 10 = .ok (.ireturn, 1))) ?_
  refine And.intro (k_aload_n (pc := 11) (by decide +kernel : decode cX11_slices 11 = .ok (.aload_n 0, 1)) rfl) ?_
  refine And.intro (k_gR (pc := 12) rfl (by decide) rfl zin11 lk_X11_51 (by decide +kernel : decode cX11_slices 12 = .ok (.getfield 51, 3))) ?_
  refine And.intro (k_aload_n (pc := 15) (by decide +kernel : decode cX11_slices 15 = .ok (.aload_n 0, 1)) rfl) ?_
  refine And.intro (k_gR (pc := 16) rfl (by decide) rfl zin11 lk_X11_10 (by decide +kernel : decode cX11_slices 16 = .ok (.getfield 10, 3))) ?_
  refine And.intro (k_iload_n (pc := 19) (by decide +kernel : decode cX11_slices 19 = .ok (.iload_n 1, 1)) rfl) ?_
  refine And.intro (k_cvV (n := 2) (pc := 20) hG (zRoom_self 7) (tag := 7) rfl ini_X7 im_X7_workOut se_X7_workOut mk_X11_166 dy_X7_workOut (by decide +kernel : decode cX11_slices 20 = .ok (.invokevirtual 166, 3))) ?_
  refine And.intro (k_aload_n (pc := 23) (by decide +kernel : decode cX11_slices 23 = .ok (.aload_n 0, 1)) rfl) ?_
  refine And.intro (k_gR (pc := 24) rfl (by decide) rfl zin11 lk_X11_51 (by decide +kernel : decode cX11_slices 24 = .ok (.getfield 51, 3))) ?_
  refine And.intro (k_iload_n (pc := 27) (by decide +kernel : decode cX11_slices 27 = .ok (.iload_n 1, 1)) rfl) ?_
  refine And.intro (k_iconst (pc := 28) (by decide +kernel : decode cX11_slices 28 = .ok (.iconst 0, 1)) (by decide)) ?_
  refine And.intro (k_crV (n := 2) (pc := 29) hG (zRoom_self 7) (tag := 7) rfl ini_X7 im_X7_filled se_X7_filled mk_X11_209 dy_X7_filled (by decide +kernel : decode cX11_slices 29 = .ok (.invokevirtual 209, 3))) ?_
  refine And.intro (k_istore_n (pc := 32) (by decide +kernel : decode cX11_slices 32 = .ok (.istore_n 2, 1)) rfl) ?_
  refine And.intro (k_aload_n (pc := 33) (by decide +kernel : decode cX11_slices 33 = .ok (.aload_n 0, 1)) rfl) ?_
  refine And.intro (k_gR (pc := 34) rfl (by decide) rfl zin11 lk_X11_51 (by decide +kernel : decode cX11_slices 34 = .ok (.getfield 51, 3))) ?_
  refine And.intro (k_iload_n (pc := 37) (by decide +kernel : decode cX11_slices 37 = .ok (.iload_n 1, 1)) rfl) ?_
  refine And.intro (k_iconst (pc := 38) (by decide +kernel : decode cX11_slices 38 = .ok (.iconst 1, 1)) (by decide)) ?_
  refine And.intro (k_crV (n := 2) (pc := 39) hG (zRoom_self 7) (tag := 7) rfl ini_X7 im_X7_filled se_X7_filled mk_X11_209 dy_X7_filled (by decide +kernel : decode cX11_slices 39 = .ok (.invokevirtual 209, 3))) ?_
  refine And.intro (k_istore_n (pc := 42) (by decide +kernel : decode cX11_slices 42 = .ok (.istore_n 3, 1)) rfl) ?_
  refine And.intro (k_aload_n (pc := 43) (by decide +kernel : decode cX11_slices 43 = .ok (.aload_n 0, 1)) rfl) ?_
  refine And.intro (k_gR (pc := 44) rfl (by decide) rfl zin11 lk_X11_44 (by decide +kernel : decode cX11_slices 44 = .ok (.getfield 44, 3))) ?_
  refine And.intro (k_cvV (n := 0) (pc := 47) hG (zRoom_self 7) (tag := 4) rfl ini_X4 im_X4_clear se_X4_clear mk_X11_180 dy_X4_clear (by decide +kernel : decode cX11_slices 47 = .ok (.invokevirtual 180, 3))) ?_
  refine And.intro (k_aload_n (pc := 50) (by decide +kernel : decode cX11_slices 50 = .ok (.aload_n 0, 1)) rfl) ?_
  refine And.intro (k_gR (pc := 51) rfl (by decide) rfl zin11 lk_X11_44 (by decide +kernel : decode cX11_slices 51 = .ok (.getfield 44, 3))) ?_
  refine And.intro (k_iload_n (pc := 54) (by decide +kernel : decode cX11_slices 54 = .ok (.iload_n 2, 1)) rfl) ?_
  refine And.intro (k_i2l (pc := 55) (by decide +kernel : decode cX11_slices 55 = .ok (.i2l, 1))) ?_
  refine And.intro (k_cvV (n := 1) (pc := 56) hG (zRoom_self 7) (tag := 4) rfl ini_X4 im_X4_tell se_X4_tell mk_X11_205 dy_X4_tell (by decide +kernel : decode cX11_slices 56 = .ok (.invokevirtual 205, 3))) ?_
  refine And.intro (k_aload_n (pc := 59) (by decide +kernel : decode cX11_slices 59 = .ok (.aload_n 0, 1)) rfl) ?_
  refine And.intro (k_gR (pc := 60) rfl (by decide) rfl zin11 lk_X11_44 (by decide +kernel : decode cX11_slices 60 = .ok (.getfield 44, 3))) ?_
  refine And.intro (k_iload_n (pc := 63) (by decide +kernel : decode cX11_slices 63 = .ok (.iload_n 3, 1)) rfl) ?_
  refine And.intro (k_i2l (pc := 64) (by decide +kernel : decode cX11_slices 64 = .ok (.i2l, 1))) ?_
  refine And.intro (k_cvV (n := 1) (pc := 65) hG (zRoom_self 7) (tag := 4) rfl ini_X4 im_X4_tell se_X4_tell mk_X11_205 dy_X4_tell (by decide +kernel : decode cX11_slices 65 = .ok (.invokevirtual 205, 3))) ?_
  refine And.intro (k_iload_n (pc := 68) (by decide +kernel : decode cX11_slices 68 = .ok (.iload_n 1, 1)) rfl) ?_
  refine And.intro (k_iconst (pc := 69) (by decide +kernel : decode cX11_slices 69 = .ok (.iconst 2, 1)) (by decide)) ?_
  refine And.intro (k_icmp_ge (pc := 70) (by decide +kernel : decode cX11_slices 70 = .ok (.if_icmp .ge 26, 3)) (by decide)) ?_
  refine And.intro (k_aload_n (pc := 73) (by decide +kernel : decode cX11_slices 73 = .ok (.aload_n 0, 1)) rfl) ?_
  refine And.intro (k_gR (pc := 74) rfl (by decide) rfl zin11 lk_X11_51 (by decide +kernel : decode cX11_slices 74 = .ok (.getfield 51, 3))) ?_
  refine And.intro (k_iload_n (pc := 77) (by decide +kernel : decode cX11_slices 77 = .ok (.iload_n 1, 1)) rfl) ?_
  refine And.intro (k_aload_n (pc := 78) (by decide +kernel : decode cX11_slices 78 = .ok (.aload_n 0, 1)) rfl) ?_
  refine And.intro (k_gR (pc := 79) rfl (by decide) rfl zin11 lk_X11_78 (by decide +kernel : decode cX11_slices 79 = .ok (.getfield 78, 3))) ?_
  refine And.intro (k_cvV (n := 2) (pc := 82) hG (zRoom_self 7) (tag := 7) rfl ini_X7 im_X7_findLongest se_X7_findLongest mk_X11_212 dy_X7_findLongest (by decide +kernel : decode cX11_slices 82 = .ok (.invokevirtual 212, 3))) ?_
  refine And.intro (k_aload_n (pc := 85) (by decide +kernel : decode cX11_slices 85 = .ok (.aload_n 0, 1)) rfl) ?_
  refine And.intro (k_gR (pc := 86) rfl (by decide) rfl zin11 lk_X11_44 (by decide +kernel : decode cX11_slices 86 = .ok (.getfield 44, 3))) ?_
  refine And.intro (k_aload_n (pc := 89) (by decide +kernel : decode cX11_slices 89 = .ok (.aload_n 0, 1)) rfl) ?_
  refine And.intro (k_gR (pc := 90) rfl (by decide) rfl zin11 lk_X11_78 (by decide +kernel : decode cX11_slices 90 = .ok (.getfield 78, 3))) ?_
  refine And.intro (k_cvV (n := 1) (pc := 93) hG (zRoom_self 7) (tag := 4) rfl ini_X4 im_X4_tellRatio se_X4_tellRatio mk_X11_186 dy_X4_tellRatio (by decide +kernel : decode cX11_slices 93 = .ok (.invokevirtual 186, 3))) ?_
  refine And.intro (k_iload_n (pc := 96) (by decide +kernel : decode cX11_slices 96 = .ok (.iload_n 2, 1)) rfl) ?_
  refine And.intro (k_iload_n (pc := 97) (by decide +kernel : decode cX11_slices 97 = .ok (.iload_n 3, 1)) rfl) ?_
  refine And.intro (k_iadd (pc := 98) (by decide +kernel : decode cX11_slices 98 = .ok (.iadd, 1))) ?_
  refine And.intro (k_ireturn (pc := 99) rfl (by decide +kernel : decode cX11_slices 99 = .ok (.ireturn, 1))) ?_
  exact trivial
theorem cdX11_slices : Cond.code yX11_slices cX11_slices 4 (some .int) ∈ zWs := zWs_in 716 (by decide +kernel) rfl
noncomputable def pgX11_findCut : zPg := [(0, o_il 1), (1, o_cr yX11_isWay 1), (4, o_if_eq 25), (7, o_il 2), (8, o_if_eq 16), (11, o_il 2), (12, o_ic (1)), (13, o_ic_ne 25), (16, o_il 3), (17, o_if_lt 25), (20, o_il 3), (21, o_ic (5)), (22, o_ic_le 27), (25, o_ic (-1)), (26, o_ir), (27, o_al 0), (28, o_gR 11 7), (31, o_al 0), (32, o_gR 11 0), (35, o_vv yX7_workOutFirst 7 2), (38, o_al 0), (39, o_gR 11 8), (42, o_al 0), (43, o_gR 11 0), (46, o_al 0), (47, o_gR 11 7), (50, o_il 1), (51, o_il 2), (52, o_il 3), (53, o_vr2 yX0_find 0 6), (56, o_if_eq 63), (59, o_ic (1)), (60, o_go 65), (63, o_ic (-2)), (65, o_ir)]
set_option maxRecDepth 20000 in
theorem pkX11_findCut {G : zG} (hG : zGok G) (Q : zRt) : zPOK G (zRm 6) RX11 cX11_findCut 4 (some .int) (zF G Q 0 0) 0 0 (zCalls G 6) Q pgX11_findCut := by
  refine And.intro (k_iload_n (pc := 0) (by decide +kernel : decode cX11_findCut 0 = .ok (.iload_n 1, 1)) rfl) ?_
  refine And.intro (k_crS (n := 1) (pc := 1) hG (zRoom_self 6) ini_X11 sta_X11_isWay mk_X11_163 dy_X11_isWay (by decide +kernel : decode cX11_findCut 1 = .ok (.invokestatic 163, 3))) ?_
  refine And.intro (k_if_eq (pc := 4) (by decide +kernel : decode cX11_findCut 4 = .ok (.ifCond .eq 21, 3)) (by decide)) ?_
  refine And.intro (k_iload_n (pc := 7) (by decide +kernel : decode cX11_findCut 7 = .ok (.iload_n 2, 1)) rfl) ?_
  refine And.intro (k_if_eq (pc := 8) (by decide +kernel : decode cX11_findCut 8 = .ok (.ifCond .eq 8, 3)) (by decide)) ?_
  refine And.intro (k_iload_n (pc := 11) (by decide +kernel : decode cX11_findCut 11 = .ok (.iload_n 2, 1)) rfl) ?_
  refine And.intro (k_iconst (pc := 12) (by decide +kernel : decode cX11_findCut 12 = .ok (.iconst 1, 1)) (by decide)) ?_
  refine And.intro (k_icmp_ne (pc := 13) (by decide +kernel : decode cX11_findCut 13 = .ok (.if_icmp .ne 12, 3)) (by decide)) ?_
  refine And.intro (k_iload_n (pc := 16) (by decide +kernel : decode cX11_findCut 16 = .ok (.iload_n 3, 1)) rfl) ?_
  refine And.intro (k_if_lt (pc := 17) (by decide +kernel : decode cX11_findCut 17 = .ok (.ifCond .lt 8, 3)) (by decide)) ?_
  refine And.intro (k_iload_n (pc := 20) (by decide +kernel : decode cX11_findCut 20 = .ok (.iload_n 3, 1)) rfl) ?_
  refine And.intro (k_iconst (pc := 21) (by decide +kernel : decode cX11_findCut 21 = .ok (.iconst 5, 1)) (by decide)) ?_
  refine And.intro (k_icmp_le (pc := 22) (by decide +kernel : decode cX11_findCut 22 = .ok (.if_icmp .le 5, 3)) (by decide)) ?_
  refine And.intro (k_iconst (pc := 25) (by decide +kernel : decode cX11_findCut 25 = .ok (.iconst (-1), 1)) (by decide)) ?_
  refine And.intro (k_ireturn (pc := 26) rfl (by decide +kernel : decode cX11_findCut 26 = .ok (.ireturn, 1))) ?_
  refine And.intro (k_aload_n (pc := 27) (by decide +kernel : decode cX11_findCut 27 = .ok (.aload_n 0, 1)) rfl) ?_
  refine And.intro (k_gR (pc := 28) rfl (by decide) rfl zin11 lk_X11_51 (by decide +kernel : decode cX11_findCut 28 = .ok (.getfield 51, 3))) ?_
  refine And.intro (k_aload_n (pc := 31) (by decide +kernel : decode cX11_findCut 31 = .ok (.aload_n 0, 1)) rfl) ?_
  refine And.intro (k_gR (pc := 32) rfl (by decide) rfl zin11 lk_X11_10 (by decide +kernel : decode cX11_findCut 32 = .ok (.getfield 10, 3))) ?_
  refine And.intro (k_cvV (n := 1) (pc := 35) hG (zRoom_self 6) (tag := 7) rfl ini_X7 im_X7_workOutFirst se_X7_workOutFirst mk_X11_223 dy_X7_workOutFirst (by decide +kernel : decode cX11_findCut 35 = .ok (.invokevirtual 223, 3))) ?_
  refine And.intro (k_aload_n (pc := 38) (by decide +kernel : decode cX11_findCut 38 = .ok (.aload_n 0, 1)) rfl) ?_
  refine And.intro (k_gR (pc := 39) rfl (by decide) rfl zin11 lk_X11_58 (by decide +kernel : decode cX11_findCut 39 = .ok (.getfield 58, 3))) ?_
  refine And.intro (k_aload_n (pc := 42) (by decide +kernel : decode cX11_findCut 42 = .ok (.aload_n 0, 1)) rfl) ?_
  refine And.intro (k_gR (pc := 43) rfl (by decide) rfl zin11 lk_X11_10 (by decide +kernel : decode cX11_findCut 43 = .ok (.getfield 10, 3))) ?_
  refine And.intro (k_aload_n (pc := 46) (by decide +kernel : decode cX11_findCut 46 = .ok (.aload_n 0, 1)) rfl) ?_
  refine And.intro (k_gR (pc := 47) rfl (by decide) rfl zin11 lk_X11_51 (by decide +kernel : decode cX11_findCut 47 = .ok (.getfield 51, 3))) ?_
  refine And.intro (k_iload_n (pc := 50) (by decide +kernel : decode cX11_findCut 50 = .ok (.iload_n 1, 1)) rfl) ?_
  refine And.intro (k_iload_n (pc := 51) (by decide +kernel : decode cX11_findCut 51 = .ok (.iload_n 2, 1)) rfl) ?_
  refine And.intro (k_iload_n (pc := 52) (by decide +kernel : decode cX11_findCut 52 = .ok (.iload_n 3, 1)) rfl) ?_
  refine And.intro (k_crV (n := 5) (pc := 53) hG (zRoom_self 6) (tag := 0) rfl ini_X0 im_X0_find se_X0_find mk_X11_226 dy_X0_find (by decide +kernel : decode cX11_findCut 53 = .ok (.invokevirtual 226, 3))) ?_
  refine And.intro (k_if_eq (pc := 56) (by decide +kernel : decode cX11_findCut 56 = .ok (.ifCond .eq 7, 3)) (by decide)) ?_
  refine And.intro (k_iconst (pc := 59) (by decide +kernel : decode cX11_findCut 59 = .ok (.iconst 1, 1)) (by decide)) ?_
  refine And.intro (k_goto (pc := 60) (by decide +kernel : decode cX11_findCut 60 = .ok (.goto 5, 3)) (by decide)) ?_
  refine And.intro (k_bipush (pc := 63) (by decide +kernel : decode cX11_findCut 63 = .ok (.bipush (-2), 2)) (by decide)) ?_
  refine And.intro (k_ireturn (pc := 65) rfl (by decide +kernel : decode cX11_findCut 65 = .ok (.ireturn, 1))) ?_
  exact trivial
theorem cdX11_findCut : Cond.code yX11_findCut cX11_findCut 4 (some .int) ∈ zWs := zWs_in 737 (by decide +kernel) rfl
noncomputable def pgX11_cut : zPg := [(0, o_al 0), (1, o_il 1), (2, o_il 2), (3, o_il 3), (4, o_vr2 yX11_findCut 11 4), (7, o_is 4), (9, o_il 4), (11, o_if_lt 54), (14, o_al 0), (15, o_gR 11 6), (18, o_vv yX4_clear 4 1), (21, o_ic (0)), (22, o_is 5), (24, o_il 5), (26, o_ic (13)), (28, o_ic_ge 54), (31, o_al 0), (32, o_gR 11 6), (35, o_al 0), (36, o_gR 11 8), (39, o_gR 0 0), (42, o_il 5), (44, o_xJ), (45, o_vv yX4_tell 4 2), (48, o_inc 5 (1)), (51, o_go 24), (54, o_il 4), (56, o_ir)]
set_option maxRecDepth 20000 in
theorem pkX11_cut {G : zG} (hG : zGok G) (Q : zRt) : zPOK G (zRm 7) RX11 cX11_cut 6 (some .int) (zF G Q 0 0) 0 0 (zCalls G 7) Q pgX11_cut := by
  refine And.intro (k_aload_n (pc := 0) (by decide +kernel : decode cX11_cut 0 = .ok (.aload_n 0, 1)) rfl) ?_
  refine And.intro (k_iload_n (pc := 1) (by decide +kernel : decode cX11_cut 1 = .ok (.iload_n 1, 1)) rfl) ?_
  refine And.intro (k_iload_n (pc := 2) (by decide +kernel : decode cX11_cut 2 = .ok (.iload_n 2, 1)) rfl) ?_
  refine And.intro (k_iload_n (pc := 3) (by decide +kernel : decode cX11_cut 3 = .ok (.iload_n 3, 1)) rfl) ?_
  refine And.intro (k_crV (n := 3) (pc := 4) hG (zRoom_self 7) (tag := 11) rfl ini_X11 im_X11_findCut se_X11_findCut mk_X11_216 dy_X11_findCut (by decide +kernel : decode cX11_cut 4 = .ok (.invokevirtual 216, 3))) ?_
  refine And.intro (k_istore (pc := 7) (by decide +kernel : decode cX11_cut 7 = .ok (.istore 4, 2))) ?_
  refine And.intro (k_iload (pc := 9) (by decide +kernel : decode cX11_cut 9 = .ok (.iload 4, 2))) ?_
  refine And.intro (k_if_lt (pc := 11) (by decide +kernel : decode cX11_cut 11 = .ok (.ifCond .lt 43, 3)) (by decide)) ?_
  refine And.intro (k_aload_n (pc := 14) (by decide +kernel : decode cX11_cut 14 = .ok (.aload_n 0, 1)) rfl) ?_
  refine And.intro (k_gR (pc := 15) rfl (by decide) rfl zin11 lk_X11_44 (by decide +kernel : decode cX11_cut 15 = .ok (.getfield 44, 3))) ?_
  refine And.intro (k_cvV (n := 0) (pc := 18) hG (zRoom_self 7) (tag := 4) rfl ini_X4 im_X4_clear se_X4_clear mk_X11_180 dy_X4_clear (by decide +kernel : decode cX11_cut 18 = .ok (.invokevirtual 180, 3))) ?_
  refine And.intro (k_iconst (pc := 21) (by decide +kernel : decode cX11_cut 21 = .ok (.iconst 0, 1)) (by decide)) ?_
  refine And.intro (k_istore (pc := 22) (by decide +kernel : decode cX11_cut 22 = .ok (.istore 5, 2))) ?_
  refine And.intro (k_iload (pc := 24) (by decide +kernel : decode cX11_cut 24 = .ok (.iload 5, 2))) ?_
  refine And.intro (k_bipush (pc := 26) (by decide +kernel : decode cX11_cut 26 = .ok (.bipush 13, 2)) (by decide)) ?_
  refine And.intro (k_icmp_ge (pc := 28) (by decide +kernel : decode cX11_cut 28 = .ok (.if_icmp .ge 26, 3)) (by decide)) ?_
  refine And.intro (k_aload_n (pc := 31) (by decide +kernel : decode cX11_cut 31 = .ok (.aload_n 0, 1)) rfl) ?_
  refine And.intro (k_gR (pc := 32) rfl (by decide) rfl zin11 lk_X11_44 (by decide +kernel : decode cX11_cut 32 = .ok (.getfield 44, 3))) ?_
  refine And.intro (k_aload_n (pc := 35) (by decide +kernel : decode cX11_cut 35 = .ok (.aload_n 0, 1)) rfl) ?_
  refine And.intro (k_gR (pc := 36) rfl (by decide) rfl zin11 lk_X11_58 (by decide +kernel : decode cX11_cut 36 = .ok (.getfield 58, 3))) ?_
  refine And.intro (k_gR (pc := 39) rfl (by decide) rfl zin0 lk_X11_219 (by decide +kernel : decode cX11_cut 39 = .ok (.getfield 219, 3))) ?_
  refine And.intro (k_iload (pc := 42) (by decide +kernel : decode cX11_cut 42 = .ok (.iload 5, 2))) ?_
  refine And.intro (k_lald (pc := 44) (by decide +kernel : decode cX11_cut 44 = .ok (.laload, 1))) ?_
  refine And.intro (k_cvV (n := 1) (pc := 45) hG (zRoom_self 7) (tag := 4) rfl ini_X4 im_X4_tell se_X4_tell mk_X11_205 dy_X4_tell (by decide +kernel : decode cX11_cut 45 = .ok (.invokevirtual 205, 3))) ?_
  refine And.intro (k_iinc (pc := 48) (by decide +kernel : decode cX11_cut 48 = .ok (.iinc 5 1, 3)) (by decide)) ?_
  refine And.intro (k_goto (pc := 51) (by decide +kernel : decode cX11_cut 51 = .ok (.goto (-27), 3)) (by decide)) ?_
  refine And.intro (k_iload (pc := 54) (by decide +kernel : decode cX11_cut 54 = .ok (.iload 4, 2))) ?_
  refine And.intro (k_ireturn (pc := 56) rfl (by decide +kernel : decode cX11_cut 56 = .ok (.ireturn, 1))) ?_
  exact trivial
theorem cdX11_cut : Cond.code yX11_cut cX11_cut 6 (some .int) ∈ zWs := zWs_in 733 (by decide +kernel) rfl
noncomputable def pgX11_storeFound : zPg := [(0, o_il 1), (1, o_if_ge 8), (4, o_il 1), (5, o_go 22), (8, o_al 0), (9, o_gR 11 0), (12, o_al 0), (13, o_gR 11 8), (16, o_gR 0 0), (19, o_vr2 yX5_addCut 5 2), (22, o_ir)]
set_option maxRecDepth 20000 in
theorem pkX11_storeFound {G : zG} (hG : zGok G) (Q : zRt) : zPOK G (zRm 2) RX11 cX11_storeFound 2 (some .int) (zF G Q 0 0) 0 0 (zCalls G 2) Q pgX11_storeFound := by
  refine And.intro (k_iload_n (pc := 0) (by decide +kernel : decode cX11_storeFound 0 = .ok (.iload_n 1, 1)) rfl) ?_
  refine And.intro (k_if_ge (pc := 1) (by decide +kernel : decode cX11_storeFound 1 = .ok (.ifCond .ge 7, 3)) (by decide)) ?_
  refine And.intro (k_iload_n (pc := 4) (by decide +kernel : decode cX11_storeFound 4 = .ok (.iload_n 1, 1)) rfl) ?_
  refine And.intro (k_goto (pc := 5) (by decide +kernel : decode cX11_storeFound 5 = .ok (.goto 17, 3)) (by decide)) ?_
  refine And.intro (k_aload_n (pc := 8) (by decide +kernel : decode cX11_storeFound 8 = .ok (.aload_n 0, 1)) rfl) ?_
  refine And.intro (k_gR (pc := 9) rfl (by decide) rfl zin11 lk_X11_10 (by decide +kernel : decode cX11_storeFound 9 = .ok (.getfield 10, 3))) ?_
  refine And.intro (k_aload_n (pc := 12) (by decide +kernel : decode cX11_storeFound 12 = .ok (.aload_n 0, 1)) rfl) ?_
  refine And.intro (k_gR (pc := 13) rfl (by decide) rfl zin11 lk_X11_58 (by decide +kernel : decode cX11_storeFound 13 = .ok (.getfield 58, 3))) ?_
  refine And.intro (k_gR (pc := 16) rfl (by decide) rfl zin0 lk_X11_219 (by decide +kernel : decode cX11_storeFound 16 = .ok (.getfield 219, 3))) ?_
  refine And.intro (k_crV (n := 1) (pc := 19) hG (zRoom_self 2) (tag := 5) rfl ini_X5 im_X5_addCut se_X5_addCut mk_X11_233 dy_X5_addCut (by decide +kernel : decode cX11_storeFound 19 = .ok (.invokevirtual 233, 3))) ?_
  refine And.intro (k_ireturn (pc := 22) rfl (by decide +kernel : decode cX11_storeFound 22 = .ok (.ireturn, 1))) ?_
  exact trivial
theorem cdX11_storeFound : Cond.code yX11_storeFound cX11_storeFound 2 (some .int) ∈ zWs := zWs_in 772 (by decide +kernel) rfl
noncomputable def pgX11_stores : zPg := [(0, o_al 0), (1, o_gR 11 4), (4, o_al 0), (5, o_gR 11 0), (8, o_vv yX2_open 2 2), (11, o_al 0), (12, o_al 0), (13, o_al 0), (14, o_il 1), (15, o_il 2), (16, o_il 3), (17, o_vr2 yX11_findCut 11 4), (20, o_vr2 yX11_storeFound 11 2), (23, o_vr2 yX11_noted 11 2), (26, o_ir)]
set_option maxRecDepth 20000 in
theorem pkX11_stores {G : zG} (hG : zGok G) (Q : zRt) : zPOK G (zRm 7) RX11 cX11_stores 4 (some .int) (zF G Q 0 0) 0 0 (zCalls G 7) Q pgX11_stores := by
  refine And.intro (k_aload_n (pc := 0) (by decide +kernel : decode cX11_stores 0 = .ok (.aload_n 0, 1)) rfl) ?_
  refine And.intro (k_gR (pc := 1) rfl (by decide) rfl zin11 lk_X11_30 (by decide +kernel : decode cX11_stores 1 = .ok (.getfield 30, 3))) ?_
  refine And.intro (k_aload_n (pc := 4) (by decide +kernel : decode cX11_stores 4 = .ok (.aload_n 0, 1)) rfl) ?_
  refine And.intro (k_gR (pc := 5) rfl (by decide) rfl zin11 lk_X11_10 (by decide +kernel : decode cX11_stores 5 = .ok (.getfield 10, 3))) ?_
  refine And.intro (k_cvV (n := 1) (pc := 8) hG (zRoom_self 7) (tag := 2) rfl ini_X2 im_X2_open se_X2_open mk_X11_109 dy_X2_open (by decide +kernel : decode cX11_stores 8 = .ok (.invokevirtual 109, 3))) ?_
  refine And.intro (k_aload_n (pc := 11) (by decide +kernel : decode cX11_stores 11 = .ok (.aload_n 0, 1)) rfl) ?_
  refine And.intro (k_aload_n (pc := 12) (by decide +kernel : decode cX11_stores 12 = .ok (.aload_n 0, 1)) rfl) ?_
  refine And.intro (k_aload_n (pc := 13) (by decide +kernel : decode cX11_stores 13 = .ok (.aload_n 0, 1)) rfl) ?_
  refine And.intro (k_iload_n (pc := 14) (by decide +kernel : decode cX11_stores 14 = .ok (.iload_n 1, 1)) rfl) ?_
  refine And.intro (k_iload_n (pc := 15) (by decide +kernel : decode cX11_stores 15 = .ok (.iload_n 2, 1)) rfl) ?_
  refine And.intro (k_iload_n (pc := 16) (by decide +kernel : decode cX11_stores 16 = .ok (.iload_n 3, 1)) rfl) ?_
  refine And.intro (k_crV (n := 3) (pc := 17) hG (zRoom_self 7) (tag := 11) rfl ini_X11 im_X11_findCut se_X11_findCut mk_X11_216 dy_X11_findCut (by decide +kernel : decode cX11_stores 17 = .ok (.invokevirtual 216, 3))) ?_
  refine And.intro (k_crV (n := 1) (pc := 20) hG (zRoom_self 7) (tag := 11) rfl ini_X11 im_X11_storeFound se_X11_storeFound mk_X11_230 dy_X11_storeFound (by decide +kernel : decode cX11_stores 20 = .ok (.invokevirtual 230, 3))) ?_
  refine And.intro (k_crV (n := 1) (pc := 23) hG (zRoom_self 7) (tag := 11) rfl ini_X11 im_X11_noted se_X11_noted mk_X11_120 dy_X11_noted (by decide +kernel : decode cX11_stores 23 = .ok (.invokevirtual 120, 3))) ?_
  refine And.intro (k_ireturn (pc := 26) rfl (by decide +kernel : decode cX11_stores 26 = .ok (.ireturn, 1))) ?_
  exact trivial
theorem cdX11_stores : Cond.code yX11_stores cX11_stores 4 (some .int) ∈ zWs := zWs_in 768 (by decide +kernel) rfl
noncomputable def pgX11_checks : zPg := [(0, o_al 0), (1, o_gR 11 0), (4, o_il 1), (5, o_vr2 yX5_hasCut 5 2), (8, o_if_ne 13), (11, o_ic (-1)), (12, o_ir), (13, o_al 0), (14, o_gR 11 6), (17, o_vv yX4_clear 4 1), (20, o_ic (0)), (21, o_is 2), (22, o_il 2), (23, o_ic (2)), (24, o_ic_gt 51), (27, o_al 0), (28, o_gR 11 6), (31, o_al 0), (32, o_gR 11 0), (35, o_gR 5 3), (38, o_il 1), (39, o_xR 20), (40, o_il 2), (41, o_xJ), (42, o_vv yX4_tell 4 2), (45, o_inc 2 (1)), (48, o_go 22), (51, o_al 0), (52, o_gR 11 0), (55, o_il 1), (56, o_vr2 yX5_proofChecks 5 2), (59, o_if_eq 66), (62, o_ic (1)), (63, o_go 67), (66, o_ic (0)), (67, o_ir)]
set_option maxRecDepth 20000 in
theorem pkX11_checks {G : zG} (hG : zGok G) (Q : zRt) : zPOK G (zRm 4) RX11 cX11_checks 3 (some .int) (zF G Q 0 0) 0 0 (zCalls G 4) Q pgX11_checks := by
  refine And.intro (k_aload_n (pc := 0) (by decide +kernel : decode cX11_checks 0 = .ok (.aload_n 0, 1)) rfl) ?_
  refine And.intro (k_gR (pc := 1) rfl (by decide) rfl zin11 lk_X11_10 (by decide +kernel : decode cX11_checks 1 = .ok (.getfield 10, 3))) ?_
  refine And.intro (k_iload_n (pc := 4) (by decide +kernel : decode cX11_checks 4 = .ok (.iload_n 1, 1)) rfl) ?_
  refine And.intro (k_crV (n := 1) (pc := 5) hG (zRoom_self 4) (tag := 5) rfl ini_X5 im_X5_hasCut se_X5_hasCut mk_X11_237 dy_X5_hasCut (by decide +kernel : decode cX11_checks 5 = .ok (.invokevirtual 237, 3))) ?_
  refine And.intro (k_if_ne (pc := 8) (by decide +kernel : decode cX11_checks 8 = .ok (.ifCond .ne 5, 3)) (by decide)) ?_
  refine And.intro (k_iconst (pc := 11) (by decide +kernel : decode cX11_checks 11 = .ok (.iconst (-1), 1)) (by decide)) ?_
  refine And.intro (k_ireturn (pc := 12) rfl (by decide +kernel : decode cX11_checks 12 = .ok (.ireturn, 1))) ?_
  refine And.intro (k_aload_n (pc := 13) (by decide +kernel : decode cX11_checks 13 = .ok (.aload_n 0, 1)) rfl) ?_
  refine And.intro (k_gR (pc := 14) rfl (by decide) rfl zin11 lk_X11_44 (by decide +kernel : decode cX11_checks 14 = .ok (.getfield 44, 3))) ?_
  refine And.intro (k_cvV (n := 0) (pc := 17) hG (zRoom_self 4) (tag := 4) rfl ini_X4 im_X4_clear se_X4_clear mk_X11_180 dy_X4_clear (by decide +kernel : decode cX11_checks 17 = .ok (.invokevirtual 180, 3))) ?_
  refine And.intro (k_iconst (pc := 20) (by decide +kernel : decode cX11_checks 20 = .ok (.iconst 0, 1)) (by decide)) ?_
  refine And.intro (k_istore_n (pc := 21) (by decide +kernel : decode cX11_checks 21 = .ok (.istore_n 2, 1)) rfl) ?_
  refine And.intro (k_iload_n (pc := 22) (by decide +kernel : decode cX11_checks 22 = .ok (.iload_n 2, 1)) rfl) ?_
  refine And.intro (k_iconst (pc := 23) (by decide +kernel : decode cX11_checks 23 = .ok (.iconst 2, 1)) (by decide)) ?_
  refine And.intro (k_icmp_gt (pc := 24) (by decide +kernel : decode cX11_checks 24 = .ok (.if_icmp .gt 27, 3)) (by decide)) ?_
  refine And.intro (k_aload_n (pc := 27) (by decide +kernel : decode cX11_checks 27 = .ok (.aload_n 0, 1)) rfl) ?_
  refine And.intro (k_gR (pc := 28) rfl (by decide) rfl zin11 lk_X11_44 (by decide +kernel : decode cX11_checks 28 = .ok (.getfield 44, 3))) ?_
  refine And.intro (k_aload_n (pc := 31) (by decide +kernel : decode cX11_checks 31 = .ok (.aload_n 0, 1)) rfl) ?_
  refine And.intro (k_gR (pc := 32) rfl (by decide) rfl zin11 lk_X11_10 (by decide +kernel : decode cX11_checks 32 = .ok (.getfield 10, 3))) ?_
  refine And.intro (k_gR (pc := 35) rfl (by decide) rfl zin5 lk_X11_240 (by decide +kernel : decode cX11_checks 35 = .ok (.getfield 240, 3))) ?_
  refine And.intro (k_iload_n (pc := 38) (by decide +kernel : decode cX11_checks 38 = .ok (.iload_n 1, 1)) rfl) ?_
  refine And.intro (k_aald20 (pc := 39) (by decide +kernel : decode cX11_checks 39 = .ok (.aaload, 1))) ?_
  refine And.intro (k_iload_n (pc := 40) (by decide +kernel : decode cX11_checks 40 = .ok (.iload_n 2, 1)) rfl) ?_
  refine And.intro (k_lald (pc := 41) (by decide +kernel : decode cX11_checks 41 = .ok (.laload, 1))) ?_
  refine And.intro (k_cvV (n := 1) (pc := 42) hG (zRoom_self 4) (tag := 4) rfl ini_X4 im_X4_tell se_X4_tell mk_X11_205 dy_X4_tell (by decide +kernel : decode cX11_checks 42 = .ok (.invokevirtual 205, 3))) ?_
  refine And.intro (k_iinc (pc := 45) (by decide +kernel : decode cX11_checks 45 = .ok (.iinc 2 1, 3)) (by decide)) ?_
  refine And.intro (k_goto (pc := 48) (by decide +kernel : decode cX11_checks 48 = .ok (.goto (-26), 3)) (by decide)) ?_
  refine And.intro (k_aload_n (pc := 51) (by decide +kernel : decode cX11_checks 51 = .ok (.aload_n 0, 1)) rfl) ?_
  refine And.intro (k_gR (pc := 52) rfl (by decide) rfl zin11 lk_X11_10 (by decide +kernel : decode cX11_checks 52 = .ok (.getfield 10, 3))) ?_
  refine And.intro (k_iload_n (pc := 55) (by decide +kernel : decode cX11_checks 55 = .ok (.iload_n 1, 1)) rfl) ?_
  refine And.intro (k_crV (n := 1) (pc := 56) hG (zRoom_self 4) (tag := 5) rfl ini_X5 im_X5_proofChecks se_X5_proofChecks mk_X11_244 dy_X5_proofChecks (by decide +kernel : decode cX11_checks 56 = .ok (.invokevirtual 244, 3))) ?_
  refine And.intro (k_if_eq (pc := 59) (by decide +kernel : decode cX11_checks 59 = .ok (.ifCond .eq 7, 3)) (by decide)) ?_
  refine And.intro (k_iconst (pc := 62) (by decide +kernel : decode cX11_checks 62 = .ok (.iconst 1, 1)) (by decide)) ?_
  refine And.intro (k_goto (pc := 63) (by decide +kernel : decode cX11_checks 63 = .ok (.goto 4, 3)) (by decide)) ?_
  refine And.intro (k_iconst (pc := 66) (by decide +kernel : decode cX11_checks 66 = .ok (.iconst 0, 1)) (by decide)) ?_
  refine And.intro (k_ireturn (pc := 67) rfl (by decide +kernel : decode cX11_checks 67 = .ok (.ireturn, 1))) ?_
  exact trivial
theorem cdX11_checks : Cond.code yX11_checks cX11_checks 3 (some .int) ∈ zWs := zWs_in 780 (by decide +kernel) rfl
noncomputable def pgX11_stronger : zPg := [(0, o_al 0), (1, o_gR 11 0), (4, o_il 1), (5, o_vr2 yX5_hasCut 5 2), (8, o_if_ne 13), (11, o_ic (-1)), (12, o_ir), (13, o_al 0), (14, o_gR 11 0), (17, o_gR 5 3), (20, o_il 1), (21, o_xR 20), (22, o_as 2), (23, o_al 2), (24, o_ic (0)), (25, o_xJ), (26, o_al 2), (27, o_ic (1)), (28, o_xJ), (29, o_cr yX11_greatestDivisor 2), (32, o_ls 3), (33, o_ll 3), (34, o_lc 1), (35, o_lc_ge 41), (39, o_ic (-1)), (40, o_ir), (41, o_al 2), (42, o_ic (0)), (43, o_xJ), (44, o_ll 3), (45, o_ldiv), (46, o_ls 5), (48, o_al 2), (49, o_ic (1)), (50, o_xJ), (51, o_ll 3), (52, o_ldiv), (53, o_ls 7), (55, o_al 2), (56, o_ic (2)), (57, o_xJ), (58, o_ll 3), (59, o_cr yJ9_floorDiv_f86c9 2), (62, o_ls 9), (64, o_al 0), (65, o_gR 11 9), (68, o_al 0), (69, o_gR 11 0), (72, o_ic (-1)), (73, o_vv yX10_gather 10 3), (76, o_al 0), (77, o_gR 11 6), (80, o_vv yX4_clear 4 1), (83, o_al 0), (84, o_gR 11 6), (87, o_ll 5), (89, o_vv yX4_tell 4 2), (92, o_al 0), (93, o_gR 11 6), (96, o_ll 7), (98, o_vv yX4_tell 4 2), (101, o_al 0), (102, o_gR 11 6), (105, o_ll 9), (107, o_ll 3), (108, o_lmul), (109, o_al 2), (110, o_ic (2)), (111, o_xJ), (112, o_lc_eq 120), (116, o_lc 1), (117, o_go 121), (120, o_lc 0), (121, o_vv yX4_tell 4 2), (124, o_al 0), (125, o_gR 11 6), (128, o_al 0), (129, o_gR 11 9), (132, o_ll 5), (134, o_ll 7), (136, o_ll 9), (138, o_vr2 yX10_above 10 4), (141, o_i2l), (142, o_vv yX4_tell 4 2), (145, o_ll 9), (147, o_l2i), (148, o_ir)]
set_option maxRecDepth 20000 in
theorem pkX11_stronger {G : zG} (hG : zGok G) (Q : zRt) : zPOK G (zRm 4) RX11 cX11_stronger 11 (some .int) (zF G Q 0 0) 0 0 (zCalls G 4) Q pgX11_stronger := by
  refine And.intro (k_aload_n (pc := 0) (by decide +kernel : decode cX11_stronger 0 = .ok (.aload_n 0, 1)) rfl) ?_
  refine And.intro (k_gR (pc := 1) rfl (by decide) rfl zin11 lk_X11_10 (by decide +kernel : decode cX11_stronger 1 = .ok (.getfield 10, 3))) ?_
  refine And.intro (k_iload_n (pc := 4) (by decide +kernel : decode cX11_stronger 4 = .ok (.iload_n 1, 1)) rfl) ?_
  refine And.intro (k_crV (n := 1) (pc := 5) hG (zRoom_self 4) (tag := 5) rfl ini_X5 im_X5_hasCut se_X5_hasCut mk_X11_237 dy_X5_hasCut (by decide +kernel : decode cX11_stronger 5 = .ok (.invokevirtual 237, 3))) ?_
  refine And.intro (k_if_ne (pc := 8) (by decide +kernel : decode cX11_stronger 8 = .ok (.ifCond .ne 5, 3)) (by decide)) ?_
  refine And.intro (k_iconst (pc := 11) (by decide +kernel : decode cX11_stronger 11 = .ok (.iconst (-1), 1)) (by decide)) ?_
  refine And.intro (k_ireturn (pc := 12) rfl (by decide +kernel : decode cX11_stronger 12 = .ok (.ireturn, 1))) ?_
  refine And.intro (k_aload_n (pc := 13) (by decide +kernel : decode cX11_stronger 13 = .ok (.aload_n 0, 1)) rfl) ?_
  refine And.intro (k_gR (pc := 14) rfl (by decide) rfl zin11 lk_X11_10 (by decide +kernel : decode cX11_stronger 14 = .ok (.getfield 10, 3))) ?_
  refine And.intro (k_gR (pc := 17) rfl (by decide) rfl zin5 lk_X11_240 (by decide +kernel : decode cX11_stronger 17 = .ok (.getfield 240, 3))) ?_
  refine And.intro (k_iload_n (pc := 20) (by decide +kernel : decode cX11_stronger 20 = .ok (.iload_n 1, 1)) rfl) ?_
  refine And.intro (k_aald20 (pc := 21) (by decide +kernel : decode cX11_stronger 21 = .ok (.aaload, 1))) ?_
  refine And.intro (k_astore_n (pc := 22) (by decide +kernel : decode cX11_stronger 22 = .ok (.astore_n 2, 1)) rfl) ?_
  refine And.intro (k_aload_n (pc := 23) (by decide +kernel : decode cX11_stronger 23 = .ok (.aload_n 2, 1)) rfl) ?_
  refine And.intro (k_iconst (pc := 24) (by decide +kernel : decode cX11_stronger 24 = .ok (.iconst 0, 1)) (by decide)) ?_
  refine And.intro (k_lald (pc := 25) (by decide +kernel : decode cX11_stronger 25 = .ok (.laload, 1))) ?_
  refine And.intro (k_aload_n (pc := 26) (by decide +kernel : decode cX11_stronger 26 = .ok (.aload_n 2, 1)) rfl) ?_
  refine And.intro (k_iconst (pc := 27) (by decide +kernel : decode cX11_stronger 27 = .ok (.iconst 1, 1)) (by decide)) ?_
  refine And.intro (k_lald (pc := 28) (by decide +kernel : decode cX11_stronger 28 = .ok (.laload, 1))) ?_
  refine And.intro (k_crS (n := 2) (pc := 29) hG (zRoom_self 4) ini_X11 sta_X11_greatestDivisor mk_X11_247 dy_X11_greatestDivisor (by decide +kernel : decode cX11_stronger 29 = .ok (.invokestatic 247, 3))) ?_
  refine And.intro (k_lstore_n (pc := 32) (by decide +kernel : decode cX11_stronger 32 = .ok (.lstore_n 3, 1)) rfl) ?_
  refine And.intro (k_lload_n (pc := 33) (by decide +kernel : decode cX11_stronger 33 = .ok (.lload_n 3, 1)) rfl) ?_
  refine And.intro (k_lconst (pc := 34) (by decide +kernel : decode cX11_stronger 34 = .ok (.lconst 1, 1)) (by decide)) ?_
  refine And.intro (k_lcmp_ge (pc := 35) (by decide +kernel : decode cX11_stronger 35 = .ok (.lcmp, 1)) (by decide +kernel : decode cX11_stronger 36 = .ok (.ifCond .ge 5, 3)) (by decide)) ?_
  refine And.intro (k_iconst (pc := 39) (by decide +kernel : decode cX11_stronger 39 = .ok (.iconst (-1), 1)) (by decide)) ?_
  refine And.intro (k_ireturn (pc := 40) rfl (by decide +kernel : decode cX11_stronger 40 = .ok (.ireturn, 1))) ?_
  refine And.intro (k_aload_n (pc := 41) (by decide +kernel : decode cX11_stronger 41 = .ok (.aload_n 2, 1)) rfl) ?_
  refine And.intro (k_iconst (pc := 42) (by decide +kernel : decode cX11_stronger 42 = .ok (.iconst 0, 1)) (by decide)) ?_
  refine And.intro (k_lald (pc := 43) (by decide +kernel : decode cX11_stronger 43 = .ok (.laload, 1))) ?_
  refine And.intro (k_lload_n (pc := 44) (by decide +kernel : decode cX11_stronger 44 = .ok (.lload_n 3, 1)) rfl) ?_
  refine And.intro (k_ldiv (pc := 45) (by decide +kernel : decode cX11_stronger 45 = .ok (.ldiv, 1))) ?_
  refine And.intro (k_lstore (pc := 46) (by decide +kernel : decode cX11_stronger 46 = .ok (.lstore 5, 2))) ?_
  refine And.intro (k_aload_n (pc := 48) (by decide +kernel : decode cX11_stronger 48 = .ok (.aload_n 2, 1)) rfl) ?_
  refine And.intro (k_iconst (pc := 49) (by decide +kernel : decode cX11_stronger 49 = .ok (.iconst 1, 1)) (by decide)) ?_
  refine And.intro (k_lald (pc := 50) (by decide +kernel : decode cX11_stronger 50 = .ok (.laload, 1))) ?_
  refine And.intro (k_lload_n (pc := 51) (by decide +kernel : decode cX11_stronger 51 = .ok (.lload_n 3, 1)) rfl) ?_
  refine And.intro (k_ldiv (pc := 52) (by decide +kernel : decode cX11_stronger 52 = .ok (.ldiv, 1))) ?_
  refine And.intro (k_lstore (pc := 53) (by decide +kernel : decode cX11_stronger 53 = .ok (.lstore 7, 2))) ?_
  refine And.intro (k_aload_n (pc := 55) (by decide +kernel : decode cX11_stronger 55 = .ok (.aload_n 2, 1)) rfl) ?_
  refine And.intro (k_iconst (pc := 56) (by decide +kernel : decode cX11_stronger 56 = .ok (.iconst 2, 1)) (by decide)) ?_
  refine And.intro (k_lald (pc := 57) (by decide +kernel : decode cX11_stronger 57 = .ok (.laload, 1))) ?_
  refine And.intro (k_lload_n (pc := 58) (by decide +kernel : decode cX11_stronger 58 = .ok (.lload_n 3, 1)) rfl) ?_
  refine And.intro (k_crS (n := 2) (pc := 59) hG (zRoom_self 4) ini_J9 sta_J9_floorDiv_f86c9 mk_X11_251 dy_J9_floorDiv_f86c9 (by decide +kernel : decode cX11_stronger 59 = .ok (.invokestatic 251, 3))) ?_
  refine And.intro (k_lstore (pc := 62) (by decide +kernel : decode cX11_stronger 62 = .ok (.lstore 9, 2))) ?_
  refine And.intro (k_aload_n (pc := 64) (by decide +kernel : decode cX11_stronger 64 = .ok (.aload_n 0, 1)) rfl) ?_
  refine And.intro (k_gR (pc := 65) rfl (by decide) rfl zin11 lk_X11_65 (by decide +kernel : decode cX11_stronger 65 = .ok (.getfield 65, 3))) ?_
  refine And.intro (k_aload_n (pc := 68) (by decide +kernel : decode cX11_stronger 68 = .ok (.aload_n 0, 1)) rfl) ?_
  refine And.intro (k_gR (pc := 69) rfl (by decide) rfl zin11 lk_X11_10 (by decide +kernel : decode cX11_stronger 69 = .ok (.getfield 10, 3))) ?_
  refine And.intro (k_iconst (pc := 72) (by decide +kernel : decode cX11_stronger 72 = .ok (.iconst (-1), 1)) (by decide)) ?_
  refine And.intro (k_cvV (n := 2) (pc := 73) hG (zRoom_self 4) (tag := 10) rfl ini_X10 im_X10_gather se_X10_gather mk_X11_254 dy_X10_gather (by decide +kernel : decode cX11_stronger 73 = .ok (.invokevirtual 254, 3))) ?_
  refine And.intro (k_aload_n (pc := 76) (by decide +kernel : decode cX11_stronger 76 = .ok (.aload_n 0, 1)) rfl) ?_
  refine And.intro (k_gR (pc := 77) rfl (by decide) rfl zin11 lk_X11_44 (by decide +kernel : decode cX11_stronger 77 = .ok (.getfield 44, 3))) ?_
  refine And.intro (k_cvV (n := 0) (pc := 80) hG (zRoom_self 4) (tag := 4) rfl ini_X4 im_X4_clear se_X4_clear mk_X11_180 dy_X4_clear (by decide +kernel : decode cX11_stronger 80 = .ok (.invokevirtual 180, 3))) ?_
  refine And.intro (k_aload_n (pc := 83) (by decide +kernel : decode cX11_stronger 83 = .ok (.aload_n 0, 1)) rfl) ?_
  refine And.intro (k_gR (pc := 84) rfl (by decide) rfl zin11 lk_X11_44 (by decide +kernel : decode cX11_stronger 84 = .ok (.getfield 44, 3))) ?_
  refine And.intro (k_lload (pc := 87) (by decide +kernel : decode cX11_stronger 87 = .ok (.lload 5, 2))) ?_
  refine And.intro (k_cvV (n := 1) (pc := 89) hG (zRoom_self 4) (tag := 4) rfl ini_X4 im_X4_tell se_X4_tell mk_X11_205 dy_X4_tell (by decide +kernel : decode cX11_stronger 89 = .ok (.invokevirtual 205, 3))) ?_
  refine And.intro (k_aload_n (pc := 92) (by decide +kernel : decode cX11_stronger 92 = .ok (.aload_n 0, 1)) rfl) ?_
  refine And.intro (k_gR (pc := 93) rfl (by decide) rfl zin11 lk_X11_44 (by decide +kernel : decode cX11_stronger 93 = .ok (.getfield 44, 3))) ?_
  refine And.intro (k_lload (pc := 96) (by decide +kernel : decode cX11_stronger 96 = .ok (.lload 7, 2))) ?_
  refine And.intro (k_cvV (n := 1) (pc := 98) hG (zRoom_self 4) (tag := 4) rfl ini_X4 im_X4_tell se_X4_tell mk_X11_205 dy_X4_tell (by decide +kernel : decode cX11_stronger 98 = .ok (.invokevirtual 205, 3))) ?_
  refine And.intro (k_aload_n (pc := 101) (by decide +kernel : decode cX11_stronger 101 = .ok (.aload_n 0, 1)) rfl) ?_
  refine And.intro (k_gR (pc := 102) rfl (by decide) rfl zin11 lk_X11_44 (by decide +kernel : decode cX11_stronger 102 = .ok (.getfield 44, 3))) ?_
  refine And.intro (k_lload (pc := 105) (by decide +kernel : decode cX11_stronger 105 = .ok (.lload 9, 2))) ?_
  refine And.intro (k_lload_n (pc := 107) (by decide +kernel : decode cX11_stronger 107 = .ok (.lload_n 3, 1)) rfl) ?_
  refine And.intro (k_lmul (pc := 108) (by decide +kernel : decode cX11_stronger 108 = .ok (.lmul, 1))) ?_
  refine And.intro (k_aload_n (pc := 109) (by decide +kernel : decode cX11_stronger 109 = .ok (.aload_n 2, 1)) rfl) ?_
  refine And.intro (k_iconst (pc := 110) (by decide +kernel : decode cX11_stronger 110 = .ok (.iconst 2, 1)) (by decide)) ?_
  refine And.intro (k_lald (pc := 111) (by decide +kernel : decode cX11_stronger 111 = .ok (.laload, 1))) ?_
  refine And.intro (k_lcmp_eq (pc := 112) (by decide +kernel : decode cX11_stronger 112 = .ok (.lcmp, 1)) (by decide +kernel : decode cX11_stronger 113 = .ok (.ifCond .eq 7, 3)) (by decide)) ?_
  refine And.intro (k_lconst (pc := 116) (by decide +kernel : decode cX11_stronger 116 = .ok (.lconst 1, 1)) (by decide)) ?_
  refine And.intro (k_goto (pc := 117) (by decide +kernel : decode cX11_stronger 117 = .ok (.goto 4, 3)) (by decide)) ?_
  refine And.intro (k_lconst (pc := 120) (by decide +kernel : decode cX11_stronger 120 = .ok (.lconst 0, 1)) (by decide)) ?_
  refine And.intro (k_cvV (n := 1) (pc := 121) hG (zRoom_self 4) (tag := 4) rfl ini_X4 im_X4_tell se_X4_tell mk_X11_205 dy_X4_tell (by decide +kernel : decode cX11_stronger 121 = .ok (.invokevirtual 205, 3))) ?_
  refine And.intro (k_aload_n (pc := 124) (by decide +kernel : decode cX11_stronger 124 = .ok (.aload_n 0, 1)) rfl) ?_
  refine And.intro (k_gR (pc := 125) rfl (by decide) rfl zin11 lk_X11_44 (by decide +kernel : decode cX11_stronger 125 = .ok (.getfield 44, 3))) ?_
  refine And.intro (k_aload_n (pc := 128) (by decide +kernel : decode cX11_stronger 128 = .ok (.aload_n 0, 1)) rfl) ?_
  refine And.intro (k_gR (pc := 129) rfl (by decide) rfl zin11 lk_X11_65 (by decide +kernel : decode cX11_stronger 129 = .ok (.getfield 65, 3))) ?_
  refine And.intro (k_lload (pc := 132) (by decide +kernel : decode cX11_stronger 132 = .ok (.lload 5, 2))) ?_
  refine And.intro (k_lload (pc := 134) (by decide +kernel : decode cX11_stronger 134 = .ok (.lload 7, 2))) ?_
  refine And.intro (k_lload (pc := 136) (by decide +kernel : decode cX11_stronger 136 = .ok (.lload 9, 2))) ?_
  refine And.intro (k_crV (n := 3) (pc := 138) hG (zRoom_self 4) (tag := 10) rfl ini_X10 im_X10_above se_X10_above mk_X11_257 dy_X10_above (by decide +kernel : decode cX11_stronger 138 = .ok (.invokevirtual 257, 3))) ?_
  refine And.intro (k_i2l (pc := 141) (by decide +kernel : decode cX11_stronger 141 = .ok (.i2l, 1))) ?_
  refine And.intro (k_cvV (n := 1) (pc := 142) hG (zRoom_self 4) (tag := 4) rfl ini_X4 im_X4_tell se_X4_tell mk_X11_205 dy_X4_tell (by decide +kernel : decode cX11_stronger 142 = .ok (.invokevirtual 205, 3))) ?_
  refine And.intro (k_lload (pc := 145) (by decide +kernel : decode cX11_stronger 145 = .ok (.lload 9, 2))) ?_
  refine And.intro (k_l2i (pc := 147) (by decide +kernel : decode cX11_stronger 147 = .ok (.l2i, 1))) ?_
  refine And.intro (k_ireturn (pc := 148) rfl (by decide +kernel : decode cX11_stronger 148 = .ok (.ireturn, 1))) ?_
  exact trivial
theorem cdX11_stronger : Cond.code yX11_stronger cX11_stronger 11 (some .int) ∈ zWs := zWs_in 798 (by decide +kernel) rfl
noncomputable def pgX11_clears : zPg := [(0, o_al 0), (1, o_gR 11 4), (4, o_al 0), (5, o_gR 11 0), (8, o_vv yX2_open 2 2), (11, o_al 0), (12, o_al 0), (13, o_gR 11 0), (16, o_vr2 yX5_dropCuts 5 1), (19, o_vr2 yX11_noted 11 2), (22, o_ir)]
set_option maxRecDepth 20000 in
theorem pkX11_clears {G : zG} (hG : zGok G) (Q : zRt) : zPOK G (zRm 4) RX11 cX11_clears 1 (some .int) (zF G Q 0 0) 0 0 (zCalls G 4) Q pgX11_clears := by
  refine And.intro (k_aload_n (pc := 0) (by decide +kernel : decode cX11_clears 0 = .ok (.aload_n 0, 1)) rfl) ?_
  refine And.intro (k_gR (pc := 1) rfl (by decide) rfl zin11 lk_X11_30 (by decide +kernel : decode cX11_clears 1 = .ok (.getfield 30, 3))) ?_
  refine And.intro (k_aload_n (pc := 4) (by decide +kernel : decode cX11_clears 4 = .ok (.aload_n 0, 1)) rfl) ?_
  refine And.intro (k_gR (pc := 5) rfl (by decide) rfl zin11 lk_X11_10 (by decide +kernel : decode cX11_clears 5 = .ok (.getfield 10, 3))) ?_
  refine And.intro (k_cvV (n := 1) (pc := 8) hG (zRoom_self 4) (tag := 2) rfl ini_X2 im_X2_open se_X2_open mk_X11_109 dy_X2_open (by decide +kernel : decode cX11_clears 8 = .ok (.invokevirtual 109, 3))) ?_
  refine And.intro (k_aload_n (pc := 11) (by decide +kernel : decode cX11_clears 11 = .ok (.aload_n 0, 1)) rfl) ?_
  refine And.intro (k_aload_n (pc := 12) (by decide +kernel : decode cX11_clears 12 = .ok (.aload_n 0, 1)) rfl) ?_
  refine And.intro (k_gR (pc := 13) rfl (by decide) rfl zin11 lk_X11_10 (by decide +kernel : decode cX11_clears 13 = .ok (.getfield 10, 3))) ?_
  refine And.intro (k_crV (n := 0) (pc := 16) hG (zRoom_self 4) (tag := 5) rfl ini_X5 im_X5_dropCuts se_X5_dropCuts mk_X11_261 dy_X5_dropCuts (by decide +kernel : decode cX11_clears 16 = .ok (.invokevirtual 261, 3))) ?_
  refine And.intro (k_crV (n := 1) (pc := 19) hG (zRoom_self 4) (tag := 11) rfl ini_X11 im_X11_noted se_X11_noted mk_X11_120 dy_X11_noted (by decide +kernel : decode cX11_clears 19 = .ok (.invokevirtual 120, 3))) ?_
  refine And.intro (k_ireturn (pc := 22) rfl (by decide +kernel : decode cX11_clears 22 = .ok (.ireturn, 1))) ?_
  exact trivial
theorem cdX11_clears : Cond.code yX11_clears cX11_clears 1 (some .int) ∈ zWs := zWs_in 823 (by decide +kernel) rfl
noncomputable def pgX11_breaks : zPg := [(0, o_il 1), (1, o_il 2), (2, o_il 3), (3, o_cr yX11_isPoint 3), (6, o_if_ne 11), (9, o_ic (-1)), (10, o_ir), (11, o_al 0), (12, o_gR 11 0), (15, o_gI 5 1), (18, o_if_ne 24), (21, o_ic (-2)), (23, o_ir), (24, o_ic (0)), (25, o_is 4), (27, o_ic (1)), (28, o_is 5), (30, o_il 5), (32, o_al 0), (33, o_gR 11 0), (36, o_gI 5 1), (39, o_ic_ge 80), (42, o_al 0), (43, o_gR 11 0), (46, o_il 5), (48, o_il 1), (49, o_il 2), (50, o_il 3), (51, o_vr2 yX5_cutExcess 5 5), (54, o_al 0), (55, o_gR 11 0), (58, o_il 4), (60, o_il 1), (61, o_il 2), (62, o_il 3), (63, o_vr2 yX5_cutExcess 5 5), (66, o_lc_le 74), (70, o_il 5), (72, o_is 4), (74, o_inc 5 (1)), (77, o_go 30), (80, o_al 0), (81, o_gR 11 11), (84, o_al 0), (85, o_gR 11 0), (88, o_il 4), (90, o_il 1), (91, o_il 2), (92, o_il 3), (93, o_vr2 yX5_cutExcess 5 5), (96, o_il 3), (97, o_i2l), (98, o_vv yX6_put 6 3), (101, o_al 0), (102, o_gR 11 6), (105, o_vv yX4_clear 4 1), (108, o_al 0), (109, o_gR 11 6), (112, o_al 0), (113, o_gR 11 11), (116, o_vv yX4_tellRatio 4 2), (119, o_il 4), (121, o_ir)]
set_option maxRecDepth 20000 in
theorem pkX11_breaks {G : zG} (hG : zGok G) (Q : zRt) : zPOK G (zRm 3) RX11 cX11_breaks 6 (some .int) (zF G Q 0 0) 0 0 (zCalls G 3) Q pgX11_breaks := by
  refine And.intro (k_iload_n (pc := 0) (by decide +kernel : decode cX11_breaks 0 = .ok (.iload_n 1, 1)) rfl) ?_
  refine And.intro (k_iload_n (pc := 1) (by decide +kernel : decode cX11_breaks 1 = .ok (.iload_n 2, 1)) rfl) ?_
  refine And.intro (k_iload_n (pc := 2) (by decide +kernel : decode cX11_breaks 2 = .ok (.iload_n 3, 1)) rfl) ?_
  refine And.intro (k_crS (n := 3) (pc := 3) hG (zRoom_self 3) ini_X11 sta_X11_isPoint mk_X11_193 dy_X11_isPoint (by decide +kernel : decode cX11_breaks 3 = .ok (.invokestatic 193, 3))) ?_
  refine And.intro (k_if_ne (pc := 6) (by decide +kernel : decode cX11_breaks 6 = .ok (.ifCond .ne 5, 3)) (by decide)) ?_
  refine And.intro (k_iconst (pc := 9) (by decide +kernel : decode cX11_breaks 9 = .ok (.iconst (-1), 1)) (by decide)) ?_
  refine And.intro (k_ireturn (pc := 10) rfl (by decide +kernel : decode cX11_breaks 10 = .ok (.ireturn, 1))) ?_
  refine And.intro (k_aload_n (pc := 11) (by decide +kernel : decode cX11_breaks 11 = .ok (.aload_n 0, 1)) rfl) ?_
  refine And.intro (k_gR (pc := 12) rfl (by decide) rfl zin11 lk_X11_10 (by decide +kernel : decode cX11_breaks 12 = .ok (.getfield 10, 3))) ?_
  refine And.intro (k_gI (pc := 15) rfl (by decide) rfl zin5 lk_X11_264 (by decide +kernel : decode cX11_breaks 15 = .ok (.getfield 264, 3))) ?_
  refine And.intro (k_if_ne (pc := 18) (by decide +kernel : decode cX11_breaks 18 = .ok (.ifCond .ne 6, 3)) (by decide)) ?_
  refine And.intro (k_bipush (pc := 21) (by decide +kernel : decode cX11_breaks 21 = .ok (.bipush (-2), 2)) (by decide)) ?_
  refine And.intro (k_ireturn (pc := 23) rfl (by decide +kernel : decode cX11_breaks 23 = .ok (.ireturn, 1))) ?_
  refine And.intro (k_iconst (pc := 24) (by decide +kernel : decode cX11_breaks 24 = .ok (.iconst 0, 1)) (by decide)) ?_
  refine And.intro (k_istore (pc := 25) (by decide +kernel : decode cX11_breaks 25 = .ok (.istore 4, 2))) ?_
  refine And.intro (k_iconst (pc := 27) (by decide +kernel : decode cX11_breaks 27 = .ok (.iconst 1, 1)) (by decide)) ?_
  refine And.intro (k_istore (pc := 28) (by decide +kernel : decode cX11_breaks 28 = .ok (.istore 5, 2))) ?_
  refine And.intro (k_iload (pc := 30) (by decide +kernel : decode cX11_breaks 30 = .ok (.iload 5, 2))) ?_
  refine And.intro (k_aload_n (pc := 32) (by decide +kernel : decode cX11_breaks 32 = .ok (.aload_n 0, 1)) rfl) ?_
  refine And.intro (k_gR (pc := 33) rfl (by decide) rfl zin11 lk_X11_10 (by decide +kernel : decode cX11_breaks 33 = .ok (.getfield 10, 3))) ?_
  refine And.intro (k_gI (pc := 36) rfl (by decide) rfl zin5 lk_X11_264 (by decide +kernel : decode cX11_breaks 36 = .ok (.getfield 264, 3))) ?_
  refine And.intro (k_icmp_ge (pc := 39) (by decide +kernel : decode cX11_breaks 39 = .ok (.if_icmp .ge 41, 3)) (by decide)) ?_
  refine And.intro (k_aload_n (pc := 42) (by decide +kernel : decode cX11_breaks 42 = .ok (.aload_n 0, 1)) rfl) ?_
  refine And.intro (k_gR (pc := 43) rfl (by decide) rfl zin11 lk_X11_10 (by decide +kernel : decode cX11_breaks 43 = .ok (.getfield 10, 3))) ?_
  refine And.intro (k_iload (pc := 46) (by decide +kernel : decode cX11_breaks 46 = .ok (.iload 5, 2))) ?_
  refine And.intro (k_iload_n (pc := 48) (by decide +kernel : decode cX11_breaks 48 = .ok (.iload_n 1, 1)) rfl) ?_
  refine And.intro (k_iload_n (pc := 49) (by decide +kernel : decode cX11_breaks 49 = .ok (.iload_n 2, 1)) rfl) ?_
  refine And.intro (k_iload_n (pc := 50) (by decide +kernel : decode cX11_breaks 50 = .ok (.iload_n 3, 1)) rfl) ?_
  refine And.intro (k_crV (n := 4) (pc := 51) hG (zRoom_self 3) (tag := 5) rfl ini_X5 im_X5_cutExcess se_X5_cutExcess mk_X11_267 dy_X5_cutExcess (by decide +kernel : decode cX11_breaks 51 = .ok (.invokevirtual 267, 3))) ?_
  refine And.intro (k_aload_n (pc := 54) (by decide +kernel : decode cX11_breaks 54 = .ok (.aload_n 0, 1)) rfl) ?_
  refine And.intro (k_gR (pc := 55) rfl (by decide) rfl zin11 lk_X11_10 (by decide +kernel : decode cX11_breaks 55 = .ok (.getfield 10, 3))) ?_
  refine And.intro (k_iload (pc := 58) (by decide +kernel : decode cX11_breaks 58 = .ok (.iload 4, 2))) ?_
  refine And.intro (k_iload_n (pc := 60) (by decide +kernel : decode cX11_breaks 60 = .ok (.iload_n 1, 1)) rfl) ?_
  refine And.intro (k_iload_n (pc := 61) (by decide +kernel : decode cX11_breaks 61 = .ok (.iload_n 2, 1)) rfl) ?_
  refine And.intro (k_iload_n (pc := 62) (by decide +kernel : decode cX11_breaks 62 = .ok (.iload_n 3, 1)) rfl) ?_
  refine And.intro (k_crV (n := 4) (pc := 63) hG (zRoom_self 3) (tag := 5) rfl ini_X5 im_X5_cutExcess se_X5_cutExcess mk_X11_267 dy_X5_cutExcess (by decide +kernel : decode cX11_breaks 63 = .ok (.invokevirtual 267, 3))) ?_
  refine And.intro (k_lcmp_le (pc := 66) (by decide +kernel : decode cX11_breaks 66 = .ok (.lcmp, 1)) (by decide +kernel : decode cX11_breaks 67 = .ok (.ifCond .le 7, 3)) (by decide)) ?_
  refine And.intro (k_iload (pc := 70) (by decide +kernel : decode cX11_breaks 70 = .ok (.iload 5, 2))) ?_
  refine And.intro (k_istore (pc := 72) (by decide +kernel : decode cX11_breaks 72 = .ok (.istore 4, 2))) ?_
  refine And.intro (k_iinc (pc := 74) (by decide +kernel : decode cX11_breaks 74 = .ok (.iinc 5 1, 3)) (by decide)) ?_
  refine And.intro (k_goto (pc := 77) (by decide +kernel : decode cX11_breaks 77 = .ok (.goto (-47), 3)) (by decide)) ?_
  refine And.intro (k_aload_n (pc := 80) (by decide +kernel : decode cX11_breaks 80 = .ok (.aload_n 0, 1)) rfl) ?_
  refine And.intro (k_gR (pc := 81) rfl (by decide) rfl zin11 lk_X11_78 (by decide +kernel : decode cX11_breaks 81 = .ok (.getfield 78, 3))) ?_
  refine And.intro (k_aload_n (pc := 84) (by decide +kernel : decode cX11_breaks 84 = .ok (.aload_n 0, 1)) rfl) ?_
  refine And.intro (k_gR (pc := 85) rfl (by decide) rfl zin11 lk_X11_10 (by decide +kernel : decode cX11_breaks 85 = .ok (.getfield 10, 3))) ?_
  refine And.intro (k_iload (pc := 88) (by decide +kernel : decode cX11_breaks 88 = .ok (.iload 4, 2))) ?_
  refine And.intro (k_iload_n (pc := 90) (by decide +kernel : decode cX11_breaks 90 = .ok (.iload_n 1, 1)) rfl) ?_
  refine And.intro (k_iload_n (pc := 91) (by decide +kernel : decode cX11_breaks 91 = .ok (.iload_n 2, 1)) rfl) ?_
  refine And.intro (k_iload_n (pc := 92) (by decide +kernel : decode cX11_breaks 92 = .ok (.iload_n 3, 1)) rfl) ?_
  refine And.intro (k_crV (n := 4) (pc := 93) hG (zRoom_self 3) (tag := 5) rfl ini_X5 im_X5_cutExcess se_X5_cutExcess mk_X11_267 dy_X5_cutExcess (by decide +kernel : decode cX11_breaks 93 = .ok (.invokevirtual 267, 3))) ?_
  refine And.intro (k_iload_n (pc := 96) (by decide +kernel : decode cX11_breaks 96 = .ok (.iload_n 3, 1)) rfl) ?_
  refine And.intro (k_i2l (pc := 97) (by decide +kernel : decode cX11_breaks 97 = .ok (.i2l, 1))) ?_
  refine And.intro (k_cvV (n := 2) (pc := 98) hG (zRoom_self 3) (tag := 6) rfl ini_X6 im_X6_put se_X6_put mk_X11_271 dy_X6_put (by decide +kernel : decode cX11_breaks 98 = .ok (.invokevirtual 271, 3))) ?_
  refine And.intro (k_aload_n (pc := 101) (by decide +kernel : decode cX11_breaks 101 = .ok (.aload_n 0, 1)) rfl) ?_
  refine And.intro (k_gR (pc := 102) rfl (by decide) rfl zin11 lk_X11_44 (by decide +kernel : decode cX11_breaks 102 = .ok (.getfield 44, 3))) ?_
  refine And.intro (k_cvV (n := 0) (pc := 105) hG (zRoom_self 3) (tag := 4) rfl ini_X4 im_X4_clear se_X4_clear mk_X11_180 dy_X4_clear (by decide +kernel : decode cX11_breaks 105 = .ok (.invokevirtual 180, 3))) ?_
  refine And.intro (k_aload_n (pc := 108) (by decide +kernel : decode cX11_breaks 108 = .ok (.aload_n 0, 1)) rfl) ?_
  refine And.intro (k_gR (pc := 109) rfl (by decide) rfl zin11 lk_X11_44 (by decide +kernel : decode cX11_breaks 109 = .ok (.getfield 44, 3))) ?_
  refine And.intro (k_aload_n (pc := 112) (by decide +kernel : decode cX11_breaks 112 = .ok (.aload_n 0, 1)) rfl) ?_
  refine And.intro (k_gR (pc := 113) rfl (by decide) rfl zin11 lk_X11_78 (by decide +kernel : decode cX11_breaks 113 = .ok (.getfield 78, 3))) ?_
  refine And.intro (k_cvV (n := 1) (pc := 116) hG (zRoom_self 3) (tag := 4) rfl ini_X4 im_X4_tellRatio se_X4_tellRatio mk_X11_186 dy_X4_tellRatio (by decide +kernel : decode cX11_breaks 116 = .ok (.invokevirtual 186, 3))) ?_
  refine And.intro (k_iload (pc := 119) (by decide +kernel : decode cX11_breaks 119 = .ok (.iload 4, 2))) ?_
  refine And.intro (k_ireturn (pc := 121) rfl (by decide +kernel : decode cX11_breaks 121 = .ok (.ireturn, 1))) ?_
  exact trivial
theorem cdX11_breaks : Cond.code yX11_breaks cX11_breaks 6 (some .int) ∈ zWs := zWs_in 831 (by decide +kernel) rfl
noncomputable def pgX11_wholes : zPg := [(0, o_al 0), (1, o_gR 11 9), (4, o_al 0), (5, o_gR 11 0), (8, o_ic (-1)), (9, o_vv yX10_gather 10 3), (12, o_al 0), (13, o_gR 11 6), (16, o_vv yX4_clear 4 1), (19, o_al 0), (20, o_gR 11 9), (23, o_gI 10 0), (26, o_if_le 61), (29, o_al 0), (30, o_gR 11 9), (33, o_ic (0)), (34, o_al 0), (35, o_gR 11 6), (38, o_vv yX10_tell 10 3), (41, o_al 0), (42, o_gR 11 9), (45, o_al 0), (46, o_gR 11 9), (49, o_gI 10 0), (52, o_ic (1)), (53, o_isub), (54, o_al 0), (55, o_gR 11 6), (58, o_vv yX10_tell 10 3), (61, o_al 0), (62, o_gR 11 9), (65, o_gI 10 0), (68, o_ir)]
set_option maxRecDepth 20000 in
theorem pkX11_wholes {G : zG} (hG : zGok G) (Q : zRt) : zPOK G (zRm 4) RX11 cX11_wholes 1 (some .int) (zF G Q 0 0) 0 0 (zCalls G 4) Q pgX11_wholes := by
  refine And.intro (k_aload_n (pc := 0) (by decide +kernel : decode cX11_wholes 0 = .ok (.aload_n 0, 1)) rfl) ?_
  refine And.intro (k_gR (pc := 1) rfl (by decide) rfl zin11 lk_X11_65 (by decide +kernel : decode cX11_wholes 1 = .ok (.getfield 65, 3))) ?_
  refine And.intro (k_aload_n (pc := 4) (by decide +kernel : decode cX11_wholes 4 = .ok (.aload_n 0, 1)) rfl) ?_
  refine And.intro (k_gR (pc := 5) rfl (by decide) rfl zin11 lk_X11_10 (by decide +kernel : decode cX11_wholes 5 = .ok (.getfield 10, 3))) ?_
  refine And.intro (k_iconst (pc := 8) (by decide +kernel : decode cX11_wholes 8 = .ok (.iconst (-1), 1)) (by decide)) ?_
  refine And.intro (k_cvV (n := 2) (pc := 9) hG (zRoom_self 4) (tag := 10) rfl ini_X10 im_X10_gather se_X10_gather mk_X11_254 dy_X10_gather (by decide +kernel : decode cX11_wholes 9 = .ok (.invokevirtual 254, 3))) ?_
  refine And.intro (k_aload_n (pc := 12) (by decide +kernel : decode cX11_wholes 12 = .ok (.aload_n 0, 1)) rfl) ?_
  refine And.intro (k_gR (pc := 13) rfl (by decide) rfl zin11 lk_X11_44 (by decide +kernel : decode cX11_wholes 13 = .ok (.getfield 44, 3))) ?_
  refine And.intro (k_cvV (n := 0) (pc := 16) hG (zRoom_self 4) (tag := 4) rfl ini_X4 im_X4_clear se_X4_clear mk_X11_180 dy_X4_clear (by decide +kernel : decode cX11_wholes 16 = .ok (.invokevirtual 180, 3))) ?_
  refine And.intro (k_aload_n (pc := 19) (by decide +kernel : decode cX11_wholes 19 = .ok (.aload_n 0, 1)) rfl) ?_
  refine And.intro (k_gR (pc := 20) rfl (by decide) rfl zin11 lk_X11_65 (by decide +kernel : decode cX11_wholes 20 = .ok (.getfield 65, 3))) ?_
  refine And.intro (k_gI (pc := 23) rfl (by decide) rfl zin10 lk_X11_275 (by decide +kernel : decode cX11_wholes 23 = .ok (.getfield 275, 3))) ?_
  refine And.intro (k_if_le (pc := 26) (by decide +kernel : decode cX11_wholes 26 = .ok (.ifCond .le 35, 3)) (by decide)) ?_
  refine And.intro (k_aload_n (pc := 29) (by decide +kernel : decode cX11_wholes 29 = .ok (.aload_n 0, 1)) rfl) ?_
  refine And.intro (k_gR (pc := 30) rfl (by decide) rfl zin11 lk_X11_65 (by decide +kernel : decode cX11_wholes 30 = .ok (.getfield 65, 3))) ?_
  refine And.intro (k_iconst (pc := 33) (by decide +kernel : decode cX11_wholes 33 = .ok (.iconst 0, 1)) (by decide)) ?_
  refine And.intro (k_aload_n (pc := 34) (by decide +kernel : decode cX11_wholes 34 = .ok (.aload_n 0, 1)) rfl) ?_
  refine And.intro (k_gR (pc := 35) rfl (by decide) rfl zin11 lk_X11_44 (by decide +kernel : decode cX11_wholes 35 = .ok (.getfield 44, 3))) ?_
  refine And.intro (k_cvV (n := 2) (pc := 38) hG (zRoom_self 4) (tag := 10) rfl ini_X10 im_X10_tell se_X10_tell mk_X11_277 dy_X10_tell (by decide +kernel : decode cX11_wholes 38 = .ok (.invokevirtual 277, 3))) ?_
  refine And.intro (k_aload_n (pc := 41) (by decide +kernel : decode cX11_wholes 41 = .ok (.aload_n 0, 1)) rfl) ?_
  refine And.intro (k_gR (pc := 42) rfl (by decide) rfl zin11 lk_X11_65 (by decide +kernel : decode cX11_wholes 42 = .ok (.getfield 65, 3))) ?_
  refine And.intro (k_aload_n (pc := 45) (by decide +kernel : decode cX11_wholes 45 = .ok (.aload_n 0, 1)) rfl) ?_
  refine And.intro (k_gR (pc := 46) rfl (by decide) rfl zin11 lk_X11_65 (by decide +kernel : decode cX11_wholes 46 = .ok (.getfield 65, 3))) ?_
  refine And.intro (k_gI (pc := 49) rfl (by decide) rfl zin10 lk_X11_275 (by decide +kernel : decode cX11_wholes 49 = .ok (.getfield 275, 3))) ?_
  refine And.intro (k_iconst (pc := 52) (by decide +kernel : decode cX11_wholes 52 = .ok (.iconst 1, 1)) (by decide)) ?_
  refine And.intro (k_isub (pc := 53) (by decide +kernel : decode cX11_wholes 53 = .ok (.isub, 1))) ?_
  refine And.intro (k_aload_n (pc := 54) (by decide +kernel : decode cX11_wholes 54 = .ok (.aload_n 0, 1)) rfl) ?_
  refine And.intro (k_gR (pc := 55) rfl (by decide) rfl zin11 lk_X11_44 (by decide +kernel : decode cX11_wholes 55 = .ok (.getfield 44, 3))) ?_
  refine And.intro (k_cvV (n := 2) (pc := 58) hG (zRoom_self 4) (tag := 10) rfl ini_X10 im_X10_tell se_X10_tell mk_X11_277 dy_X10_tell (by decide +kernel : decode cX11_wholes 58 = .ok (.invokevirtual 277, 3))) ?_
  refine And.intro (k_aload_n (pc := 61) (by decide +kernel : decode cX11_wholes 61 = .ok (.aload_n 0, 1)) rfl) ?_
  refine And.intro (k_gR (pc := 62) rfl (by decide) rfl zin11 lk_X11_65 (by decide +kernel : decode cX11_wholes 62 = .ok (.getfield 65, 3))) ?_
  refine And.intro (k_gI (pc := 65) rfl (by decide) rfl zin10 lk_X11_275 (by decide +kernel : decode cX11_wholes 65 = .ok (.getfield 275, 3))) ?_
  refine And.intro (k_ireturn (pc := 68) rfl (by decide +kernel : decode cX11_wholes 68 = .ok (.ireturn, 1))) ?_
  exact trivial
theorem cdX11_wholes : Cond.code yX11_wholes cX11_wholes 1 (some .int) ∈ zWs := zWs_in 840 (by decide +kernel) rfl
noncomputable def pgX11_hull : zPg := [(0, o_al 0), (1, o_gR 11 9), (4, o_al 0), (5, o_gR 11 0), (8, o_ic (-1)), (9, o_vv yX10_gather 10 3), (12, o_al 0), (13, o_gR 11 9), (16, o_vv yX10_findCorners 10 1), (19, o_al 0), (20, o_gR 11 6), (23, o_vv yX4_clear 4 1), (26, o_ic (0)), (27, o_is 1), (28, o_il 1), (29, o_al 0), (30, o_gR 11 9), (33, o_gI 10 1), (36, o_ic_ge 77), (39, o_il 1), (40, o_al 0), (41, o_gR 11 9), (44, o_gR 10 4), (47, o_len), (48, o_ic_ge 77), (51, o_al 0), (52, o_gR 11 9), (55, o_al 0), (56, o_gR 11 9), (59, o_gR 10 4), (62, o_il 1), (63, o_xI 14), (64, o_al 0), (65, o_gR 11 6), (68, o_vv yX10_tell 10 3), (71, o_inc 1 (1)), (74, o_go 28), (77, o_al 0), (78, o_gR 11 9), (81, o_gI 10 1), (84, o_ir)]
set_option maxRecDepth 20000 in
theorem pkX11_hull {G : zG} (hG : zGok G) (Q : zRt) : zPOK G (zRm 4) RX11 cX11_hull 2 (some .int) (zF G Q 0 0) 0 0 (zCalls G 4) Q pgX11_hull := by
  refine And.intro (k_aload_n (pc := 0) (by decide +kernel : decode cX11_hull 0 = .ok (.aload_n 0, 1)) rfl) ?_
  refine And.intro (k_gR (pc := 1) rfl (by decide) rfl zin11 lk_X11_65 (by decide +kernel : decode cX11_hull 1 = .ok (.getfield 65, 3))) ?_
  refine And.intro (k_aload_n (pc := 4) (by decide +kernel : decode cX11_hull 4 = .ok (.aload_n 0, 1)) rfl) ?_
  refine And.intro (k_gR (pc := 5) rfl (by decide) rfl zin11 lk_X11_10 (by decide +kernel : decode cX11_hull 5 = .ok (.getfield 10, 3))) ?_
  refine And.intro (k_iconst (pc := 8) (by decide +kernel : decode cX11_hull 8 = .ok (.iconst (-1), 1)) (by decide)) ?_
  refine And.intro (k_cvV (n := 2) (pc := 9) hG (zRoom_self 4) (tag := 10) rfl ini_X10 im_X10_gather se_X10_gather mk_X11_254 dy_X10_gather (by decide +kernel : decode cX11_hull 9 = .ok (.invokevirtual 254, 3))) ?_
  refine And.intro (k_aload_n (pc := 12) (by decide +kernel : decode cX11_hull 12 = .ok (.aload_n 0, 1)) rfl) ?_
  refine And.intro (k_gR (pc := 13) rfl (by decide) rfl zin11 lk_X11_65 (by decide +kernel : decode cX11_hull 13 = .ok (.getfield 65, 3))) ?_
  refine And.intro (k_cvV (n := 0) (pc := 16) hG (zRoom_self 4) (tag := 10) rfl ini_X10 im_X10_findCorners se_X10_findCorners mk_X11_280 dy_X10_findCorners (by decide +kernel : decode cX11_hull 16 = .ok (.invokevirtual 280, 3))) ?_
  refine And.intro (k_aload_n (pc := 19) (by decide +kernel : decode cX11_hull 19 = .ok (.aload_n 0, 1)) rfl) ?_
  refine And.intro (k_gR (pc := 20) rfl (by decide) rfl zin11 lk_X11_44 (by decide +kernel : decode cX11_hull 20 = .ok (.getfield 44, 3))) ?_
  refine And.intro (k_cvV (n := 0) (pc := 23) hG (zRoom_self 4) (tag := 4) rfl ini_X4 im_X4_clear se_X4_clear mk_X11_180 dy_X4_clear (by decide +kernel : decode cX11_hull 23 = .ok (.invokevirtual 180, 3))) ?_
  refine And.intro (k_iconst (pc := 26) (by decide +kernel : decode cX11_hull 26 = .ok (.iconst 0, 1)) (by decide)) ?_
  refine And.intro (k_istore_n (pc := 27) (by decide +kernel : decode cX11_hull 27 = .ok (.istore_n 1, 1)) rfl) ?_
  refine And.intro (k_iload_n (pc := 28) (by decide +kernel : decode cX11_hull 28 = .ok (.iload_n 1, 1)) rfl) ?_
  refine And.intro (k_aload_n (pc := 29) (by decide +kernel : decode cX11_hull 29 = .ok (.aload_n 0, 1)) rfl) ?_
  refine And.intro (k_gR (pc := 30) rfl (by decide) rfl zin11 lk_X11_65 (by decide +kernel : decode cX11_hull 30 = .ok (.getfield 65, 3))) ?_
  refine And.intro (k_gI (pc := 33) rfl (by decide) rfl zin10 lk_X11_283 (by decide +kernel : decode cX11_hull 33 = .ok (.getfield 283, 3))) ?_
  refine And.intro (k_icmp_ge (pc := 36) (by decide +kernel : decode cX11_hull 36 = .ok (.if_icmp .ge 41, 3)) (by decide)) ?_
  refine And.intro (k_iload_n (pc := 39) (by decide +kernel : decode cX11_hull 39 = .ok (.iload_n 1, 1)) rfl) ?_
  refine And.intro (k_aload_n (pc := 40) (by decide +kernel : decode cX11_hull 40 = .ok (.aload_n 0, 1)) rfl) ?_
  refine And.intro (k_gR (pc := 41) rfl (by decide) rfl zin11 lk_X11_65 (by decide +kernel : decode cX11_hull 41 = .ok (.getfield 65, 3))) ?_
  refine And.intro (k_gR (pc := 44) rfl (by decide) rfl zin10 lk_X11_286 (by decide +kernel : decode cX11_hull 44 = .ok (.getfield 286, 3))) ?_
  refine And.intro (k_alen (pc := 47) (by decide +kernel : decode cX11_hull 47 = .ok (.arraylength, 1))) ?_
  refine And.intro (k_icmp_ge (pc := 48) (by decide +kernel : decode cX11_hull 48 = .ok (.if_icmp .ge 29, 3)) (by decide)) ?_
  refine And.intro (k_aload_n (pc := 51) (by decide +kernel : decode cX11_hull 51 = .ok (.aload_n 0, 1)) rfl) ?_
  refine And.intro (k_gR (pc := 52) rfl (by decide) rfl zin11 lk_X11_65 (by decide +kernel : decode cX11_hull 52 = .ok (.getfield 65, 3))) ?_
  refine And.intro (k_aload_n (pc := 55) (by decide +kernel : decode cX11_hull 55 = .ok (.aload_n 0, 1)) rfl) ?_
  refine And.intro (k_gR (pc := 56) rfl (by decide) rfl zin11 lk_X11_65 (by decide +kernel : decode cX11_hull 56 = .ok (.getfield 65, 3))) ?_
  refine And.intro (k_gR (pc := 59) rfl (by decide) rfl zin10 lk_X11_286 (by decide +kernel : decode cX11_hull 59 = .ok (.getfield 286, 3))) ?_
  refine And.intro (k_iload_n (pc := 62) (by decide +kernel : decode cX11_hull 62 = .ok (.iload_n 1, 1)) rfl) ?_
  refine And.intro (k_iald (pc := 63) (by decide +kernel : decode cX11_hull 63 = .ok (.iaload, 1))) ?_
  refine And.intro (k_aload_n (pc := 64) (by decide +kernel : decode cX11_hull 64 = .ok (.aload_n 0, 1)) rfl) ?_
  refine And.intro (k_gR (pc := 65) rfl (by decide) rfl zin11 lk_X11_44 (by decide +kernel : decode cX11_hull 65 = .ok (.getfield 44, 3))) ?_
  refine And.intro (k_cvV (n := 2) (pc := 68) hG (zRoom_self 4) (tag := 10) rfl ini_X10 im_X10_tell se_X10_tell mk_X11_277 dy_X10_tell (by decide +kernel : decode cX11_hull 68 = .ok (.invokevirtual 277, 3))) ?_
  refine And.intro (k_iinc (pc := 71) (by decide +kernel : decode cX11_hull 71 = .ok (.iinc 1 1, 3)) (by decide)) ?_
  refine And.intro (k_goto (pc := 74) (by decide +kernel : decode cX11_hull 74 = .ok (.goto (-46), 3)) (by decide)) ?_
  refine And.intro (k_aload_n (pc := 77) (by decide +kernel : decode cX11_hull 77 = .ok (.aload_n 0, 1)) rfl) ?_
  refine And.intro (k_gR (pc := 78) rfl (by decide) rfl zin11 lk_X11_65 (by decide +kernel : decode cX11_hull 78 = .ok (.getfield 65, 3))) ?_
  refine And.intro (k_gI (pc := 81) rfl (by decide) rfl zin10 lk_X11_283 (by decide +kernel : decode cX11_hull 81 = .ok (.getfield 283, 3))) ?_
  refine And.intro (k_ireturn (pc := 84) rfl (by decide +kernel : decode cX11_hull 84 = .ok (.ireturn, 1))) ?_
  exact trivial
theorem cdX11_hull : Cond.code yX11_hull cX11_hull 2 (some .int) ∈ zWs := zWs_in 849 (by decide +kernel) rfl
noncomputable def pgX11_nearest : zPg := [(0, o_il 1), (1, o_il 2), (2, o_il 3), (3, o_cr yX11_isPoint 3), (6, o_if_ne 11), (9, o_ic (-1)), (10, o_ir), (11, o_al 0), (12, o_gR 11 9), (15, o_al 0), (16, o_gR 11 0), (19, o_ic (-1)), (20, o_vv yX10_gather 10 3), (23, o_al 0), (24, o_gR 11 9), (27, o_gI 10 0), (30, o_if_ne 36), (33, o_ic (-2)), (35, o_ir), (36, o_ic (0)), (37, o_is 4), (39, o_ic (1)), (40, o_is 5), (42, o_ic (1)), (43, o_is 6), (45, o_il 6), (47, o_al 0), (48, o_gR 11 9), (51, o_gI 10 0), (54, o_ic_ge 115), (57, o_al 0), (58, o_gR 11 9), (61, o_il 6), (63, o_il 1), (64, o_il 2), (65, o_il 3), (66, o_vr2 yX10_distance 10 5), (69, o_al 0), (70, o_gR 11 9), (73, o_il 4), (75, o_il 1), (76, o_il 2), (77, o_il 3), (78, o_vr2 yX10_distance 10 5), (81, o_cr yJ13_compare_74951 2), (84, o_is 7), (86, o_il 7), (88, o_if_ge 101), (91, o_il 6), (93, o_is 4), (95, o_ic (1)), (96, o_is 5), (98, o_go 109), (101, o_il 7), (103, o_if_ne 109), (106, o_inc 5 (1)), (109, o_inc 6 (1)), (112, o_go 45), (115, o_al 0), (116, o_gR 11 11), (119, o_al 0), (120, o_gR 11 9), (123, o_il 4), (125, o_il 1), (126, o_il 2), (127, o_il 3), (128, o_vr2 yX10_distance 10 5), (131, o_il 3), (132, o_i2l), (133, o_il 3), (134, o_i2l), (135, o_lmul), (136, o_vv yX6_put 6 3), (139, o_al 0), (140, o_gR 11 6), (143, o_vv yX4_clear 4 1), (146, o_al 0), (147, o_gR 11 9), (150, o_il 4), (152, o_al 0), (153, o_gR 11 6), (156, o_vv yX10_tell 10 3), (159, o_al 0), (160, o_gR 11 6), (163, o_al 0), (164, o_gR 11 11), (167, o_vv yX4_tellRatio 4 2), (170, o_il 5), (172, o_ir)]
set_option maxRecDepth 20000 in
theorem pkX11_nearest {G : zG} (hG : zGok G) (Q : zRt) : zPOK G (zRm 4) RX11 cX11_nearest 8 (some .int) (zF G Q 0 0) 0 0 (zCalls G 4) Q pgX11_nearest := by
  refine And.intro (k_iload_n (pc := 0) (by decide +kernel : decode cX11_nearest 0 = .ok (.iload_n 1, 1)) rfl) ?_
  refine And.intro (k_iload_n (pc := 1) (by decide +kernel : decode cX11_nearest 1 = .ok (.iload_n 2, 1)) rfl) ?_
  refine And.intro (k_iload_n (pc := 2) (by decide +kernel : decode cX11_nearest 2 = .ok (.iload_n 3, 1)) rfl) ?_
  refine And.intro (k_crS (n := 3) (pc := 3) hG (zRoom_self 4) ini_X11 sta_X11_isPoint mk_X11_193 dy_X11_isPoint (by decide +kernel : decode cX11_nearest 3 = .ok (.invokestatic 193, 3))) ?_
  refine And.intro (k_if_ne (pc := 6) (by decide +kernel : decode cX11_nearest 6 = .ok (.ifCond .ne 5, 3)) (by decide)) ?_
  refine And.intro (k_iconst (pc := 9) (by decide +kernel : decode cX11_nearest 9 = .ok (.iconst (-1), 1)) (by decide)) ?_
  refine And.intro (k_ireturn (pc := 10) rfl (by decide +kernel : decode cX11_nearest 10 = .ok (.ireturn, 1))) ?_
  refine And.intro (k_aload_n (pc := 11) (by decide +kernel : decode cX11_nearest 11 = .ok (.aload_n 0, 1)) rfl) ?_
  refine And.intro (k_gR (pc := 12) rfl (by decide) rfl zin11 lk_X11_65 (by decide +kernel : decode cX11_nearest 12 = .ok (.getfield 65, 3))) ?_
  refine And.intro (k_aload_n (pc := 15) (by decide +kernel : decode cX11_nearest 15 = .ok (.aload_n 0, 1)) rfl) ?_
  refine And.intro (k_gR (pc := 16) rfl (by decide) rfl zin11 lk_X11_10 (by decide +kernel : decode cX11_nearest 16 = .ok (.getfield 10, 3))) ?_
  refine And.intro (k_iconst (pc := 19) (by decide +kernel : decode cX11_nearest 19 = .ok (.iconst (-1), 1)) (by decide)) ?_
  refine And.intro (k_cvV (n := 2) (pc := 20) hG (zRoom_self 4) (tag := 10) rfl ini_X10 im_X10_gather se_X10_gather mk_X11_254 dy_X10_gather (by decide +kernel : decode cX11_nearest 20 = .ok (.invokevirtual 254, 3))) ?_
  refine And.intro (k_aload_n (pc := 23) (by decide +kernel : decode cX11_nearest 23 = .ok (.aload_n 0, 1)) rfl) ?_
  refine And.intro (k_gR (pc := 24) rfl (by decide) rfl zin11 lk_X11_65 (by decide +kernel : decode cX11_nearest 24 = .ok (.getfield 65, 3))) ?_
  refine And.intro (k_gI (pc := 27) rfl (by decide) rfl zin10 lk_X11_275 (by decide +kernel : decode cX11_nearest 27 = .ok (.getfield 275, 3))) ?_
  refine And.intro (k_if_ne (pc := 30) (by decide +kernel : decode cX11_nearest 30 = .ok (.ifCond .ne 6, 3)) (by decide)) ?_
  refine And.intro (k_bipush (pc := 33) (by decide +kernel : decode cX11_nearest 33 = .ok (.bipush (-2), 2)) (by decide)) ?_
  refine And.intro (k_ireturn (pc := 35) rfl (by decide +kernel : decode cX11_nearest 35 = .ok (.ireturn, 1))) ?_
  refine And.intro (k_iconst (pc := 36) (by decide +kernel : decode cX11_nearest 36 = .ok (.iconst 0, 1)) (by decide)) ?_
  refine And.intro (k_istore (pc := 37) (by decide +kernel : decode cX11_nearest 37 = .ok (.istore 4, 2))) ?_
  refine And.intro (k_iconst (pc := 39) (by decide +kernel : decode cX11_nearest 39 = .ok (.iconst 1, 1)) (by decide)) ?_
  refine And.intro (k_istore (pc := 40) (by decide +kernel : decode cX11_nearest 40 = .ok (.istore 5, 2))) ?_
  refine And.intro (k_iconst (pc := 42) (by decide +kernel : decode cX11_nearest 42 = .ok (.iconst 1, 1)) (by decide)) ?_
  refine And.intro (k_istore (pc := 43) (by decide +kernel : decode cX11_nearest 43 = .ok (.istore 6, 2))) ?_
  refine And.intro (k_iload (pc := 45) (by decide +kernel : decode cX11_nearest 45 = .ok (.iload 6, 2))) ?_
  refine And.intro (k_aload_n (pc := 47) (by decide +kernel : decode cX11_nearest 47 = .ok (.aload_n 0, 1)) rfl) ?_
  refine And.intro (k_gR (pc := 48) rfl (by decide) rfl zin11 lk_X11_65 (by decide +kernel : decode cX11_nearest 48 = .ok (.getfield 65, 3))) ?_
  refine And.intro (k_gI (pc := 51) rfl (by decide) rfl zin10 lk_X11_275 (by decide +kernel : decode cX11_nearest 51 = .ok (.getfield 275, 3))) ?_
  refine And.intro (k_icmp_ge (pc := 54) (by decide +kernel : decode cX11_nearest 54 = .ok (.if_icmp .ge 61, 3)) (by decide)) ?_
  refine And.intro (k_aload_n (pc := 57) (by decide +kernel : decode cX11_nearest 57 = .ok (.aload_n 0, 1)) rfl) ?_
  refine And.intro (k_gR (pc := 58) rfl (by decide) rfl zin11 lk_X11_65 (by decide +kernel : decode cX11_nearest 58 = .ok (.getfield 65, 3))) ?_
  refine And.intro (k_iload (pc := 61) (by decide +kernel : decode cX11_nearest 61 = .ok (.iload 6, 2))) ?_
  refine And.intro (k_iload_n (pc := 63) (by decide +kernel : decode cX11_nearest 63 = .ok (.iload_n 1, 1)) rfl) ?_
  refine And.intro (k_iload_n (pc := 64) (by decide +kernel : decode cX11_nearest 64 = .ok (.iload_n 2, 1)) rfl) ?_
  refine And.intro (k_iload_n (pc := 65) (by decide +kernel : decode cX11_nearest 65 = .ok (.iload_n 3, 1)) rfl) ?_
  refine And.intro (k_crV (n := 4) (pc := 66) hG (zRoom_self 4) (tag := 10) rfl ini_X10 im_X10_distance se_X10_distance mk_X11_290 dy_X10_distance (by decide +kernel : decode cX11_nearest 66 = .ok (.invokevirtual 290, 3))) ?_
  refine And.intro (k_aload_n (pc := 69) (by decide +kernel : decode cX11_nearest 69 = .ok (.aload_n 0, 1)) rfl) ?_
  refine And.intro (k_gR (pc := 70) rfl (by decide) rfl zin11 lk_X11_65 (by decide +kernel : decode cX11_nearest 70 = .ok (.getfield 65, 3))) ?_
  refine And.intro (k_iload (pc := 73) (by decide +kernel : decode cX11_nearest 73 = .ok (.iload 4, 2))) ?_
  refine And.intro (k_iload_n (pc := 75) (by decide +kernel : decode cX11_nearest 75 = .ok (.iload_n 1, 1)) rfl) ?_
  refine And.intro (k_iload_n (pc := 76) (by decide +kernel : decode cX11_nearest 76 = .ok (.iload_n 2, 1)) rfl) ?_
  refine And.intro (k_iload_n (pc := 77) (by decide +kernel : decode cX11_nearest 77 = .ok (.iload_n 3, 1)) rfl) ?_
  refine And.intro (k_crV (n := 4) (pc := 78) hG (zRoom_self 4) (tag := 10) rfl ini_X10 im_X10_distance se_X10_distance mk_X11_290 dy_X10_distance (by decide +kernel : decode cX11_nearest 78 = .ok (.invokevirtual 290, 3))) ?_
  refine And.intro (k_crS (n := 2) (pc := 81) hG (zRoom_self 4) ini_J13 sta_J13_compare_74951 mk_X11_293 dy_J13_compare_74951 (by decide +kernel : decode cX11_nearest 81 = .ok (.invokestatic 293, 3))) ?_
  refine And.intro (k_istore (pc := 84) (by decide +kernel : decode cX11_nearest 84 = .ok (.istore 7, 2))) ?_
  refine And.intro (k_iload (pc := 86) (by decide +kernel : decode cX11_nearest 86 = .ok (.iload 7, 2))) ?_
  refine And.intro (k_if_ge (pc := 88) (by decide +kernel : decode cX11_nearest 88 = .ok (.ifCond .ge 13, 3)) (by decide)) ?_
  refine And.intro (k_iload (pc := 91) (by decide +kernel : decode cX11_nearest 91 = .ok (.iload 6, 2))) ?_
  refine And.intro (k_istore (pc := 93) (by decide +kernel : decode cX11_nearest 93 = .ok (.istore 4, 2))) ?_
  refine And.intro (k_iconst (pc := 95) (by decide +kernel : decode cX11_nearest 95 = .ok (.iconst 1, 1)) (by decide)) ?_
  refine And.intro (k_istore (pc := 96) (by decide +kernel : decode cX11_nearest 96 = .ok (.istore 5, 2))) ?_
  refine And.intro (k_goto (pc := 98) (by decide +kernel : decode cX11_nearest 98 = .ok (.goto 11, 3)) (by decide)) ?_
  refine And.intro (k_iload (pc := 101) (by decide +kernel : decode cX11_nearest 101 = .ok (.iload 7, 2))) ?_
  refine And.intro (k_if_ne (pc := 103) (by decide +kernel : decode cX11_nearest 103 = .ok (.ifCond .ne 6, 3)) (by decide)) ?_
  refine And.intro (k_iinc (pc := 106) (by decide +kernel : decode cX11_nearest 106 = .ok (.iinc 5 1, 3)) (by decide)) ?_
  refine And.intro (k_iinc (pc := 109) (by decide +kernel : decode cX11_nearest 109 = .ok (.iinc 6 1, 3)) (by decide)) ?_
  refine And.intro (k_goto (pc := 112) (by decide +kernel : decode cX11_nearest 112 = .ok (.goto (-67), 3)) (by decide)) ?_
  refine And.intro (k_aload_n (pc := 115) (by decide +kernel : decode cX11_nearest 115 = .ok (.aload_n 0, 1)) rfl) ?_
  refine And.intro (k_gR (pc := 116) rfl (by decide) rfl zin11 lk_X11_78 (by decide +kernel : decode cX11_nearest 116 = .ok (.getfield 78, 3))) ?_
  refine And.intro (k_aload_n (pc := 119) (by decide +kernel : decode cX11_nearest 119 = .ok (.aload_n 0, 1)) rfl) ?_
  refine And.intro (k_gR (pc := 120) rfl (by decide) rfl zin11 lk_X11_65 (by decide +kernel : decode cX11_nearest 120 = .ok (.getfield 65, 3))) ?_
  refine And.intro (k_iload (pc := 123) (by decide +kernel : decode cX11_nearest 123 = .ok (.iload 4, 2))) ?_
  refine And.intro (k_iload_n (pc := 125) (by decide +kernel : decode cX11_nearest 125 = .ok (.iload_n 1, 1)) rfl) ?_
  refine And.intro (k_iload_n (pc := 126) (by decide +kernel : decode cX11_nearest 126 = .ok (.iload_n 2, 1)) rfl) ?_
  refine And.intro (k_iload_n (pc := 127) (by decide +kernel : decode cX11_nearest 127 = .ok (.iload_n 3, 1)) rfl) ?_
  refine And.intro (k_crV (n := 4) (pc := 128) hG (zRoom_self 4) (tag := 10) rfl ini_X10 im_X10_distance se_X10_distance mk_X11_290 dy_X10_distance (by decide +kernel : decode cX11_nearest 128 = .ok (.invokevirtual 290, 3))) ?_
  refine And.intro (k_iload_n (pc := 131) (by decide +kernel : decode cX11_nearest 131 = .ok (.iload_n 3, 1)) rfl) ?_
  refine And.intro (k_i2l (pc := 132) (by decide +kernel : decode cX11_nearest 132 = .ok (.i2l, 1))) ?_
  refine And.intro (k_iload_n (pc := 133) (by decide +kernel : decode cX11_nearest 133 = .ok (.iload_n 3, 1)) rfl) ?_
  refine And.intro (k_i2l (pc := 134) (by decide +kernel : decode cX11_nearest 134 = .ok (.i2l, 1))) ?_
  refine And.intro (k_lmul (pc := 135) (by decide +kernel : decode cX11_nearest 135 = .ok (.lmul, 1))) ?_
  refine And.intro (k_cvV (n := 2) (pc := 136) hG (zRoom_self 4) (tag := 6) rfl ini_X6 im_X6_put se_X6_put mk_X11_271 dy_X6_put (by decide +kernel : decode cX11_nearest 136 = .ok (.invokevirtual 271, 3))) ?_
  refine And.intro (k_aload_n (pc := 139) (by decide +kernel : decode cX11_nearest 139 = .ok (.aload_n 0, 1)) rfl) ?_
  refine And.intro (k_gR (pc := 140) rfl (by decide) rfl zin11 lk_X11_44 (by decide +kernel : decode cX11_nearest 140 = .ok (.getfield 44, 3))) ?_
  refine And.intro (k_cvV (n := 0) (pc := 143) hG (zRoom_self 4) (tag := 4) rfl ini_X4 im_X4_clear se_X4_clear mk_X11_180 dy_X4_clear (by decide +kernel : decode cX11_nearest 143 = .ok (.invokevirtual 180, 3))) ?_
  refine And.intro (k_aload_n (pc := 146) (by decide +kernel : decode cX11_nearest 146 = .ok (.aload_n 0, 1)) rfl) ?_
  refine And.intro (k_gR (pc := 147) rfl (by decide) rfl zin11 lk_X11_65 (by decide +kernel : decode cX11_nearest 147 = .ok (.getfield 65, 3))) ?_
  refine And.intro (k_iload (pc := 150) (by decide +kernel : decode cX11_nearest 150 = .ok (.iload 4, 2))) ?_
  refine And.intro (k_aload_n (pc := 152) (by decide +kernel : decode cX11_nearest 152 = .ok (.aload_n 0, 1)) rfl) ?_
  refine And.intro (k_gR (pc := 153) rfl (by decide) rfl zin11 lk_X11_44 (by decide +kernel : decode cX11_nearest 153 = .ok (.getfield 44, 3))) ?_
  refine And.intro (k_cvV (n := 2) (pc := 156) hG (zRoom_self 4) (tag := 10) rfl ini_X10 im_X10_tell se_X10_tell mk_X11_277 dy_X10_tell (by decide +kernel : decode cX11_nearest 156 = .ok (.invokevirtual 277, 3))) ?_
  refine And.intro (k_aload_n (pc := 159) (by decide +kernel : decode cX11_nearest 159 = .ok (.aload_n 0, 1)) rfl) ?_
  refine And.intro (k_gR (pc := 160) rfl (by decide) rfl zin11 lk_X11_44 (by decide +kernel : decode cX11_nearest 160 = .ok (.getfield 44, 3))) ?_
  refine And.intro (k_aload_n (pc := 163) (by decide +kernel : decode cX11_nearest 163 = .ok (.aload_n 0, 1)) rfl) ?_
  refine And.intro (k_gR (pc := 164) rfl (by decide) rfl zin11 lk_X11_78 (by decide +kernel : decode cX11_nearest 164 = .ok (.getfield 78, 3))) ?_
  refine And.intro (k_cvV (n := 1) (pc := 167) hG (zRoom_self 4) (tag := 4) rfl ini_X4 im_X4_tellRatio se_X4_tellRatio mk_X11_186 dy_X4_tellRatio (by decide +kernel : decode cX11_nearest 167 = .ok (.invokevirtual 186, 3))) ?_
  refine And.intro (k_iload (pc := 170) (by decide +kernel : decode cX11_nearest 170 = .ok (.iload 5, 2))) ?_
  refine And.intro (k_ireturn (pc := 172) rfl (by decide +kernel : decode cX11_nearest 172 = .ok (.ireturn, 1))) ?_
  exact trivial
theorem cdX11_nearest : Cond.code yX11_nearest cX11_nearest 8 (some .int) ∈ zWs := zWs_in 865 (by decide +kernel) rfl
noncomputable def pgX11_findMost : zPg := [(0, o_al 0), (1, o_gR 11 10), (4, o_il 3), (5, o_xR 17), (6, o_as 4), (8, o_al 4), (10, o_il 1), (11, o_il 2), (12, o_vv yX3_start 3 3), (15, o_il 3), (16, o_if_ne 31), (19, o_al 4), (21, o_al 0), (22, o_gR 11 0), (25, o_vv yX3_overCorners 3 2), (28, o_go 83), (31, o_il 3), (32, o_ic (3)), (33, o_ic_ne 60), (36, o_al 0), (37, o_gR 11 9), (40, o_al 0), (41, o_gR 11 0), (44, o_ic (-1)), (45, o_vv yX10_gather 10 3), (48, o_al 4), (50, o_al 0), (51, o_gR 11 9), (54, o_vv yX3_overPoints 3 2), (57, o_go 83), (60, o_al 0), (61, o_gR 11 7), (64, o_al 0), (65, o_gR 11 0), (68, o_vv yX7_workOutFirst 7 2), (71, o_al 4), (73, o_al 0), (74, o_gR 11 7), (77, o_il 3), (78, o_ic (1)), (79, o_isub), (80, o_vv yX3_overSlices 3 3), (83, o_vr)]
set_option maxRecDepth 20000 in
theorem pkX11_findMost {G : zG} (hG : zGok G) (Q : zRt) : zPOK G (zRm 6) RX11 cX11_findMost 5 none (zF G Q 0 0) 0 0 (zCalls G 6) Q pgX11_findMost := by
  refine And.intro (k_aload_n (pc := 0) (by decide +kernel : decode cX11_findMost 0 = .ok (.aload_n 0, 1)) rfl) ?_
  refine And.intro (k_gR (pc := 1) rfl (by decide) rfl zin11 lk_X11_71 (by decide +kernel : decode cX11_findMost 1 = .ok (.getfield 71, 3))) ?_
  refine And.intro (k_iload_n (pc := 4) (by decide +kernel : decode cX11_findMost 4 = .ok (.iload_n 3, 1)) rfl) ?_
  refine And.intro (k_aald17 (pc := 5) (by decide +kernel : decode cX11_findMost 5 = .ok (.aaload, 1))) ?_
  refine And.intro (k_astore (pc := 6) (by decide +kernel : decode cX11_findMost 6 = .ok (.astore 4, 2))) ?_
  refine And.intro (k_aload (pc := 8) (by decide +kernel : decode cX11_findMost 8 = .ok (.aload 4, 2))) ?_
  refine And.intro (k_iload_n (pc := 10) (by decide +kernel : decode cX11_findMost 10 = .ok (.iload_n 1, 1)) rfl) ?_
  refine And.intro (k_iload_n (pc := 11) (by decide +kernel : decode cX11_findMost 11 = .ok (.iload_n 2, 1)) rfl) ?_
  refine And.intro (k_cvV (n := 2) (pc := 12) hG (zRoom_self 6) (tag := 3) rfl ini_X3 im_X3_start se_X3_start mk_X11_312 dy_X3_start (by decide +kernel : decode cX11_findMost 12 = .ok (.invokevirtual 312, 3))) ?_
  refine And.intro (k_iload_n (pc := 15) (by decide +kernel : decode cX11_findMost 15 = .ok (.iload_n 3, 1)) rfl) ?_
  refine And.intro (k_if_ne (pc := 16) (by decide +kernel : decode cX11_findMost 16 = .ok (.ifCond .ne 15, 3)) (by decide)) ?_
  refine And.intro (k_aload (pc := 19) (by decide +kernel : decode cX11_findMost 19 = .ok (.aload 4, 2))) ?_
  refine And.intro (k_aload_n (pc := 21) (by decide +kernel : decode cX11_findMost 21 = .ok (.aload_n 0, 1)) rfl) ?_
  refine And.intro (k_gR (pc := 22) rfl (by decide) rfl zin11 lk_X11_10 (by decide +kernel : decode cX11_findMost 22 = .ok (.getfield 10, 3))) ?_
  refine And.intro (k_cvV (n := 1) (pc := 25) hG (zRoom_self 6) (tag := 3) rfl ini_X3 im_X3_overCorners se_X3_overCorners mk_X11_315 dy_X3_overCorners (by decide +kernel : decode cX11_findMost 25 = .ok (.invokevirtual 315, 3))) ?_
  refine And.intro (k_goto (pc := 28) (by decide +kernel : decode cX11_findMost 28 = .ok (.goto 55, 3)) (by decide)) ?_
  refine And.intro (k_iload_n (pc := 31) (by decide +kernel : decode cX11_findMost 31 = .ok (.iload_n 3, 1)) rfl) ?_
  refine And.intro (k_iconst (pc := 32) (by decide +kernel : decode cX11_findMost 32 = .ok (.iconst 3, 1)) (by decide)) ?_
  refine And.intro (k_icmp_ne (pc := 33) (by decide +kernel : decode cX11_findMost 33 = .ok (.if_icmp .ne 27, 3)) (by decide)) ?_
  refine And.intro (k_aload_n (pc := 36) (by decide +kernel : decode cX11_findMost 36 = .ok (.aload_n 0, 1)) rfl) ?_
  refine And.intro (k_gR (pc := 37) rfl (by decide) rfl zin11 lk_X11_65 (by decide +kernel : decode cX11_findMost 37 = .ok (.getfield 65, 3))) ?_
  refine And.intro (k_aload_n (pc := 40) (by decide +kernel : decode cX11_findMost 40 = .ok (.aload_n 0, 1)) rfl) ?_
  refine And.intro (k_gR (pc := 41) rfl (by decide) rfl zin11 lk_X11_10 (by decide +kernel : decode cX11_findMost 41 = .ok (.getfield 10, 3))) ?_
  refine And.intro (k_iconst (pc := 44) (by decide +kernel : decode cX11_findMost 44 = .ok (.iconst (-1), 1)) (by decide)) ?_
  refine And.intro (k_cvV (n := 2) (pc := 45) hG (zRoom_self 6) (tag := 10) rfl ini_X10 im_X10_gather se_X10_gather mk_X11_254 dy_X10_gather (by decide +kernel : decode cX11_findMost 45 = .ok (.invokevirtual 254, 3))) ?_
  refine And.intro (k_aload (pc := 48) (by decide +kernel : decode cX11_findMost 48 = .ok (.aload 4, 2))) ?_
  refine And.intro (k_aload_n (pc := 50) (by decide +kernel : decode cX11_findMost 50 = .ok (.aload_n 0, 1)) rfl) ?_
  refine And.intro (k_gR (pc := 51) rfl (by decide) rfl zin11 lk_X11_65 (by decide +kernel : decode cX11_findMost 51 = .ok (.getfield 65, 3))) ?_
  refine And.intro (k_cvV (n := 1) (pc := 54) hG (zRoom_self 6) (tag := 3) rfl ini_X3 im_X3_overPoints se_X3_overPoints mk_X11_318 dy_X3_overPoints (by decide +kernel : decode cX11_findMost 54 = .ok (.invokevirtual 318, 3))) ?_
  refine And.intro (k_goto (pc := 57) (by decide +kernel : decode cX11_findMost 57 = .ok (.goto 26, 3)) (by decide)) ?_
  refine And.intro (k_aload_n (pc := 60) (by decide +kernel : decode cX11_findMost 60 = .ok (.aload_n 0, 1)) rfl) ?_
  refine And.intro (k_gR (pc := 61) rfl (by decide) rfl zin11 lk_X11_51 (by decide +kernel : decode cX11_findMost 61 = .ok (.getfield 51, 3))) ?_
  refine And.intro (k_aload_n (pc := 64) (by decide +kernel : decode cX11_findMost 64 = .ok (.aload_n 0, 1)) rfl) ?_
  refine And.intro (k_gR (pc := 65) rfl (by decide) rfl zin11 lk_X11_10 (by decide +kernel : decode cX11_findMost 65 = .ok (.getfield 10, 3))) ?_
  refine And.intro (k_cvV (n := 1) (pc := 68) hG (zRoom_self 6) (tag := 7) rfl ini_X7 im_X7_workOutFirst se_X7_workOutFirst mk_X11_223 dy_X7_workOutFirst (by decide +kernel : decode cX11_findMost 68 = .ok (.invokevirtual 223, 3))) ?_
  refine And.intro (k_aload (pc := 71) (by decide +kernel : decode cX11_findMost 71 = .ok (.aload 4, 2))) ?_
  refine And.intro (k_aload_n (pc := 73) (by decide +kernel : decode cX11_findMost 73 = .ok (.aload_n 0, 1)) rfl) ?_
  refine And.intro (k_gR (pc := 74) rfl (by decide) rfl zin11 lk_X11_51 (by decide +kernel : decode cX11_findMost 74 = .ok (.getfield 51, 3))) ?_
  refine And.intro (k_iload_n (pc := 77) (by decide +kernel : decode cX11_findMost 77 = .ok (.iload_n 3, 1)) rfl) ?_
  refine And.intro (k_iconst (pc := 78) (by decide +kernel : decode cX11_findMost 78 = .ok (.iconst 1, 1)) (by decide)) ?_
  refine And.intro (k_isub (pc := 79) (by decide +kernel : decode cX11_findMost 79 = .ok (.isub, 1))) ?_
  refine And.intro (k_cvV (n := 2) (pc := 80) hG (zRoom_self 6) (tag := 3) rfl ini_X3 im_X3_overSlices se_X3_overSlices mk_X11_322 dy_X3_overSlices (by decide +kernel : decode cX11_findMost 80 = .ok (.invokevirtual 322, 3))) ?_
  refine And.intro (k_return (pc := 83) rfl (by decide +kernel : decode cX11_findMost 83 = .ok (.return_, 1))) ?_
  exact trivial
theorem cdX11_findMost : Cond.code yX11_findMost cX11_findMost 5 none ∈ zWs := zWs_in 881 (by decide +kernel) rfl
noncomputable def pgX11_isSum : zPg := [(0, o_il 0), (1, o_ic (-9)), (3, o_ic_lt 28), (6, o_il 0), (7, o_ic (9)), (9, o_ic_gt 28), (12, o_il 1), (13, o_ic (-9)), (15, o_ic_lt 28), (18, o_il 1), (19, o_ic (9)), (21, o_ic_gt 28), (24, o_ic (1)), (25, o_go 29), (28, o_ic (0)), (29, o_zr)]
set_option maxRecDepth 20000 in
theorem pkX11_isSum {G : zG} (hG : zGok G) (Q : zRt) : zPOK G (zRm 0) RX11 cX11_isSum 2 (some .boolean) (zF G Q 0 0) 0 0 (zCalls G 0) Q pgX11_isSum := by
  refine And.intro (k_iload_n (pc := 0) (by decide +kernel : decode cX11_isSum 0 = .ok (.iload_n 0, 1)) rfl) ?_
  refine And.intro (k_bipush (pc := 1) (by decide +kernel : decode cX11_isSum 1 = .ok (.bipush (-9), 2)) (by decide)) ?_
  refine And.intro (k_icmp_lt (pc := 3) (by decide +kernel : decode cX11_isSum 3 = .ok (.if_icmp .lt 25, 3)) (by decide)) ?_
  refine And.intro (k_iload_n (pc := 6) (by decide +kernel : decode cX11_isSum 6 = .ok (.iload_n 0, 1)) rfl) ?_
  refine And.intro (k_bipush (pc := 7) (by decide +kernel : decode cX11_isSum 7 = .ok (.bipush 9, 2)) (by decide)) ?_
  refine And.intro (k_icmp_gt (pc := 9) (by decide +kernel : decode cX11_isSum 9 = .ok (.if_icmp .gt 19, 3)) (by decide)) ?_
  refine And.intro (k_iload_n (pc := 12) (by decide +kernel : decode cX11_isSum 12 = .ok (.iload_n 1, 1)) rfl) ?_
  refine And.intro (k_bipush (pc := 13) (by decide +kernel : decode cX11_isSum 13 = .ok (.bipush (-9), 2)) (by decide)) ?_
  refine And.intro (k_icmp_lt (pc := 15) (by decide +kernel : decode cX11_isSum 15 = .ok (.if_icmp .lt 13, 3)) (by decide)) ?_
  refine And.intro (k_iload_n (pc := 18) (by decide +kernel : decode cX11_isSum 18 = .ok (.iload_n 1, 1)) rfl) ?_
  refine And.intro (k_bipush (pc := 19) (by decide +kernel : decode cX11_isSum 19 = .ok (.bipush 9, 2)) (by decide)) ?_
  refine And.intro (k_icmp_gt (pc := 21) (by decide +kernel : decode cX11_isSum 21 = .ok (.if_icmp .gt 7, 3)) (by decide)) ?_
  refine And.intro (k_iconst (pc := 24) (by decide +kernel : decode cX11_isSum 24 = .ok (.iconst 1, 1)) (by decide)) ?_
  refine And.intro (k_goto (pc := 25) (by decide +kernel : decode cX11_isSum 25 = .ok (.goto 4, 3)) (by decide)) ?_
  refine And.intro (k_iconst (pc := 28) (by decide +kernel : decode cX11_isSum 28 = .ok (.iconst 0, 1)) (by decide)) ?_
  refine And.intro (k_zreturn (pc := 29) rfl (by decide +kernel : decode cX11_isSum 29 = .ok (.ireturn, 1))) ?_
  exact trivial
theorem cdX11_isSum : Cond.code yX11_isSum cX11_isSum 2 (some .boolean) ∈ zWs := zWs_in 877 (by decide +kernel) rfl
noncomputable def pgX11_most : zPg := [(0, o_il 1), (1, o_il 2), (2, o_cr yX11_isSum 2), (5, o_if_eq 21), (8, o_il 3), (9, o_if_lt 21), (12, o_il 3), (13, o_al 0), (14, o_gR 11 10), (17, o_len), (18, o_ic_lt 23), (21, o_ic (-1)), (22, o_ir), (23, o_al 0), (24, o_il 1), (25, o_il 2), (26, o_il 3), (27, o_vv yX11_findMost 11 4), (30, o_al 0), (31, o_gR 11 10), (34, o_il 3), (35, o_xR 17), (36, o_gI 3 2), (39, o_if_ne 45), (42, o_ic (-2)), (44, o_ir), (45, o_al 0), (46, o_gR 11 6), (49, o_vv yX4_clear 4 1), (52, o_al 0), (53, o_gR 11 6), (56, o_al 0), (57, o_gR 11 10), (60, o_il 3), (61, o_xR 17), (62, o_gR 3 3), (65, o_vv yX4_tellRatio 4 2), (68, o_ic (0)), (69, o_ir)]
set_option maxRecDepth 20000 in
theorem pkX11_most {G : zG} (hG : zGok G) (Q : zRt) : zPOK G (zRm 7) RX11 cX11_most 4 (some .int) (zF G Q 0 0) 0 0 (zCalls G 7) Q pgX11_most := by
  refine And.intro (k_iload_n (pc := 0) (by decide +kernel : decode cX11_most 0 = .ok (.iload_n 1, 1)) rfl) ?_
  refine And.intro (k_iload_n (pc := 1) (by decide +kernel : decode cX11_most 1 = .ok (.iload_n 2, 1)) rfl) ?_
  refine And.intro (k_crS (n := 2) (pc := 2) hG (zRoom_self 7) ini_X11 sta_X11_isSum mk_X11_299 dy_X11_isSum (by decide +kernel : decode cX11_most 2 = .ok (.invokestatic 299, 3))) ?_
  refine And.intro (k_if_eq (pc := 5) (by decide +kernel : decode cX11_most 5 = .ok (.ifCond .eq 16, 3)) (by decide)) ?_
  refine And.intro (k_iload_n (pc := 8) (by decide +kernel : decode cX11_most 8 = .ok (.iload_n 3, 1)) rfl) ?_
  refine And.intro (k_if_lt (pc := 9) (by decide +kernel : decode cX11_most 9 = .ok (.ifCond .lt 12, 3)) (by decide)) ?_
  refine And.intro (k_iload_n (pc := 12) (by decide +kernel : decode cX11_most 12 = .ok (.iload_n 3, 1)) rfl) ?_
  refine And.intro (k_aload_n (pc := 13) (by decide +kernel : decode cX11_most 13 = .ok (.aload_n 0, 1)) rfl) ?_
  refine And.intro (k_gR (pc := 14) rfl (by decide) rfl zin11 lk_X11_71 (by decide +kernel : decode cX11_most 14 = .ok (.getfield 71, 3))) ?_
  refine And.intro (k_alen (pc := 17) (by decide +kernel : decode cX11_most 17 = .ok (.arraylength, 1))) ?_
  refine And.intro (k_icmp_lt (pc := 18) (by decide +kernel : decode cX11_most 18 = .ok (.if_icmp .lt 5, 3)) (by decide)) ?_
  refine And.intro (k_iconst (pc := 21) (by decide +kernel : decode cX11_most 21 = .ok (.iconst (-1), 1)) (by decide)) ?_
  refine And.intro (k_ireturn (pc := 22) rfl (by decide +kernel : decode cX11_most 22 = .ok (.ireturn, 1))) ?_
  refine And.intro (k_aload_n (pc := 23) (by decide +kernel : decode cX11_most 23 = .ok (.aload_n 0, 1)) rfl) ?_
  refine And.intro (k_iload_n (pc := 24) (by decide +kernel : decode cX11_most 24 = .ok (.iload_n 1, 1)) rfl) ?_
  refine And.intro (k_iload_n (pc := 25) (by decide +kernel : decode cX11_most 25 = .ok (.iload_n 2, 1)) rfl) ?_
  refine And.intro (k_iload_n (pc := 26) (by decide +kernel : decode cX11_most 26 = .ok (.iload_n 3, 1)) rfl) ?_
  refine And.intro (k_cvV (n := 3) (pc := 27) hG (zRoom_self 7) (tag := 11) rfl ini_X11 im_X11_findMost se_X11_findMost mk_X11_303 dy_X11_findMost (by decide +kernel : decode cX11_most 27 = .ok (.invokevirtual 303, 3))) ?_
  refine And.intro (k_aload_n (pc := 30) (by decide +kernel : decode cX11_most 30 = .ok (.aload_n 0, 1)) rfl) ?_
  refine And.intro (k_gR (pc := 31) rfl (by decide) rfl zin11 lk_X11_71 (by decide +kernel : decode cX11_most 31 = .ok (.getfield 71, 3))) ?_
  refine And.intro (k_iload_n (pc := 34) (by decide +kernel : decode cX11_most 34 = .ok (.iload_n 3, 1)) rfl) ?_
  refine And.intro (k_aald17 (pc := 35) (by decide +kernel : decode cX11_most 35 = .ok (.aaload, 1))) ?_
  refine And.intro (k_gZ (pc := 36) rfl (by decide) rfl zin3 lk_X11_307 (by decide +kernel : decode cX11_most 36 = .ok (.getfield 307, 3))) ?_
  refine And.intro (k_if_ne (pc := 39) (by decide +kernel : decode cX11_most 39 = .ok (.ifCond .ne 6, 3)) (by decide)) ?_
  refine And.intro (k_bipush (pc := 42) (by decide +kernel : decode cX11_most 42 = .ok (.bipush (-2), 2)) (by decide)) ?_
  refine And.intro (k_ireturn (pc := 44) rfl (by decide +kernel : decode cX11_most 44 = .ok (.ireturn, 1))) ?_
  refine And.intro (k_aload_n (pc := 45) (by decide +kernel : decode cX11_most 45 = .ok (.aload_n 0, 1)) rfl) ?_
  refine And.intro (k_gR (pc := 46) rfl (by decide) rfl zin11 lk_X11_44 (by decide +kernel : decode cX11_most 46 = .ok (.getfield 44, 3))) ?_
  refine And.intro (k_cvV (n := 0) (pc := 49) hG (zRoom_self 7) (tag := 4) rfl ini_X4 im_X4_clear se_X4_clear mk_X11_180 dy_X4_clear (by decide +kernel : decode cX11_most 49 = .ok (.invokevirtual 180, 3))) ?_
  refine And.intro (k_aload_n (pc := 52) (by decide +kernel : decode cX11_most 52 = .ok (.aload_n 0, 1)) rfl) ?_
  refine And.intro (k_gR (pc := 53) rfl (by decide) rfl zin11 lk_X11_44 (by decide +kernel : decode cX11_most 53 = .ok (.getfield 44, 3))) ?_
  refine And.intro (k_aload_n (pc := 56) (by decide +kernel : decode cX11_most 56 = .ok (.aload_n 0, 1)) rfl) ?_
  refine And.intro (k_gR (pc := 57) rfl (by decide) rfl zin11 lk_X11_71 (by decide +kernel : decode cX11_most 57 = .ok (.getfield 71, 3))) ?_
  refine And.intro (k_iload_n (pc := 60) (by decide +kernel : decode cX11_most 60 = .ok (.iload_n 3, 1)) rfl) ?_
  refine And.intro (k_aald17 (pc := 61) (by decide +kernel : decode cX11_most 61 = .ok (.aaload, 1))) ?_
  refine And.intro (k_gR (pc := 62) rfl (by decide) rfl zin3 lk_X11_309 (by decide +kernel : decode cX11_most 62 = .ok (.getfield 309, 3))) ?_
  refine And.intro (k_cvV (n := 1) (pc := 65) hG (zRoom_self 7) (tag := 4) rfl ini_X4 im_X4_tellRatio se_X4_tellRatio mk_X11_186 dy_X4_tellRatio (by decide +kernel : decode cX11_most 65 = .ok (.invokevirtual 186, 3))) ?_
  refine And.intro (k_iconst (pc := 68) (by decide +kernel : decode cX11_most 68 = .ok (.iconst 0, 1)) (by decide)) ?_
  refine And.intro (k_ireturn (pc := 69) rfl (by decide +kernel : decode cX11_most 69 = .ok (.ireturn, 1))) ?_
  exact trivial
theorem cdX11_most : Cond.code yX11_most cX11_most 4 (some .int) ∈ zWs := zWs_in 874 (by decide +kernel) rfl
noncomputable def pgX11_gains : zPg := [(0, o_il 1), (1, o_il 2), (2, o_cr yX11_isSum 2), (5, o_if_ne 10), (8, o_ic (-1)), (9, o_ir), (10, o_ic (0)), (11, o_is 3), (12, o_il 3), (13, o_al 0), (14, o_gR 11 10), (17, o_len), (18, o_ic_ge 34), (21, o_al 0), (22, o_il 1), (23, o_il 2), (24, o_il 3), (25, o_vv yX11_findMost 11 4), (28, o_inc 3 (1)), (31, o_go 12), (34, o_al 0), (35, o_gR 11 10), (38, o_ic (3)), (39, o_xR 17), (40, o_gI 3 2), (43, o_if_ne 49), (46, o_ic (-2)), (48, o_ir), (49, o_al 0), (50, o_gR 11 10), (53, o_ic (2)), (54, o_xR 17), (55, o_gR 3 3), (58, o_al 0), (59, o_gR 11 10), (62, o_ic (1)), (63, o_xR 17), (64, o_gR 3 3), (67, o_vr2 yX6_isBelow 6 2), (70, o_if_eq 77), (73, o_ic (1)), (74, o_go 78), (77, o_ic (0)), (78, o_is 3), (79, o_al 0), (80, o_gR 11 6), (83, o_vv yX4_clear 4 1), (86, o_al 0), (87, o_gR 11 11), (90, o_al 0), (91, o_gR 11 10), (94, o_ic (0)), (95, o_xR 17), (96, o_gR 3 3), (99, o_al 0), (100, o_gR 11 10), (103, o_ic (1)), (104, o_il 3), (105, o_iadd), (106, o_xR 17), (107, o_gR 3 3), (110, o_vv yX6_putDifference 6 3), (113, o_al 0), (114, o_gR 11 6), (117, o_al 0), (118, o_gR 11 11), (121, o_vv yX4_tellRatio 4 2), (124, o_al 0), (125, o_gR 11 11), (128, o_al 0), (129, o_gR 11 10), (132, o_ic (0)), (133, o_xR 17), (134, o_gR 3 3), (137, o_al 0), (138, o_gR 11 10), (141, o_ic (3)), (142, o_xR 17), (143, o_gR 3 3), (146, o_vv yX6_putDifference 6 3), (149, o_al 0), (150, o_gR 11 6), (153, o_al 0), (154, o_gR 11 11), (157, o_vv yX4_tellRatio 4 2), (160, o_il 3), (161, o_ir)]
set_option maxRecDepth 20000 in
theorem pkX11_gains {G : zG} (hG : zGok G) (Q : zRt) : zPOK G (zRm 7) RX11 cX11_gains 4 (some .int) (zF G Q 0 0) 0 0 (zCalls G 7) Q pgX11_gains := by
  refine And.intro (k_iload_n (pc := 0) (by decide +kernel : decode cX11_gains 0 = .ok (.iload_n 1, 1)) rfl) ?_
  refine And.intro (k_iload_n (pc := 1) (by decide +kernel : decode cX11_gains 1 = .ok (.iload_n 2, 1)) rfl) ?_
  refine And.intro (k_crS (n := 2) (pc := 2) hG (zRoom_self 7) ini_X11 sta_X11_isSum mk_X11_299 dy_X11_isSum (by decide +kernel : decode cX11_gains 2 = .ok (.invokestatic 299, 3))) ?_
  refine And.intro (k_if_ne (pc := 5) (by decide +kernel : decode cX11_gains 5 = .ok (.ifCond .ne 5, 3)) (by decide)) ?_
  refine And.intro (k_iconst (pc := 8) (by decide +kernel : decode cX11_gains 8 = .ok (.iconst (-1), 1)) (by decide)) ?_
  refine And.intro (k_ireturn (pc := 9) rfl (by decide +kernel : decode cX11_gains 9 = .ok (.ireturn, 1))) ?_
  refine And.intro (k_iconst (pc := 10) (by decide +kernel : decode cX11_gains 10 = .ok (.iconst 0, 1)) (by decide)) ?_
  refine And.intro (k_istore_n (pc := 11) (by decide +kernel : decode cX11_gains 11 = .ok (.istore_n 3, 1)) rfl) ?_
  refine And.intro (k_iload_n (pc := 12) (by decide +kernel : decode cX11_gains 12 = .ok (.iload_n 3, 1)) rfl) ?_
  refine And.intro (k_aload_n (pc := 13) (by decide +kernel : decode cX11_gains 13 = .ok (.aload_n 0, 1)) rfl) ?_
  refine And.intro (k_gR (pc := 14) rfl (by decide) rfl zin11 lk_X11_71 (by decide +kernel : decode cX11_gains 14 = .ok (.getfield 71, 3))) ?_
  refine And.intro (k_alen (pc := 17) (by decide +kernel : decode cX11_gains 17 = .ok (.arraylength, 1))) ?_
  refine And.intro (k_icmp_ge (pc := 18) (by decide +kernel : decode cX11_gains 18 = .ok (.if_icmp .ge 16, 3)) (by decide)) ?_
  refine And.intro (k_aload_n (pc := 21) (by decide +kernel : decode cX11_gains 21 = .ok (.aload_n 0, 1)) rfl) ?_
  refine And.intro (k_iload_n (pc := 22) (by decide +kernel : decode cX11_gains 22 = .ok (.iload_n 1, 1)) rfl) ?_
  refine And.intro (k_iload_n (pc := 23) (by decide +kernel : decode cX11_gains 23 = .ok (.iload_n 2, 1)) rfl) ?_
  refine And.intro (k_iload_n (pc := 24) (by decide +kernel : decode cX11_gains 24 = .ok (.iload_n 3, 1)) rfl) ?_
  refine And.intro (k_cvV (n := 3) (pc := 25) hG (zRoom_self 7) (tag := 11) rfl ini_X11 im_X11_findMost se_X11_findMost mk_X11_303 dy_X11_findMost (by decide +kernel : decode cX11_gains 25 = .ok (.invokevirtual 303, 3))) ?_
  refine And.intro (k_iinc (pc := 28) (by decide +kernel : decode cX11_gains 28 = .ok (.iinc 3 1, 3)) (by decide)) ?_
  refine And.intro (k_goto (pc := 31) (by decide +kernel : decode cX11_gains 31 = .ok (.goto (-19), 3)) (by decide)) ?_
  refine And.intro (k_aload_n (pc := 34) (by decide +kernel : decode cX11_gains 34 = .ok (.aload_n 0, 1)) rfl) ?_
  refine And.intro (k_gR (pc := 35) rfl (by decide) rfl zin11 lk_X11_71 (by decide +kernel : decode cX11_gains 35 = .ok (.getfield 71, 3))) ?_
  refine And.intro (k_iconst (pc := 38) (by decide +kernel : decode cX11_gains 38 = .ok (.iconst 3, 1)) (by decide)) ?_
  refine And.intro (k_aald17 (pc := 39) (by decide +kernel : decode cX11_gains 39 = .ok (.aaload, 1))) ?_
  refine And.intro (k_gZ (pc := 40) rfl (by decide) rfl zin3 lk_X11_307 (by decide +kernel : decode cX11_gains 40 = .ok (.getfield 307, 3))) ?_
  refine And.intro (k_if_ne (pc := 43) (by decide +kernel : decode cX11_gains 43 = .ok (.ifCond .ne 6, 3)) (by decide)) ?_
  refine And.intro (k_bipush (pc := 46) (by decide +kernel : decode cX11_gains 46 = .ok (.bipush (-2), 2)) (by decide)) ?_
  refine And.intro (k_ireturn (pc := 48) rfl (by decide +kernel : decode cX11_gains 48 = .ok (.ireturn, 1))) ?_
  refine And.intro (k_aload_n (pc := 49) (by decide +kernel : decode cX11_gains 49 = .ok (.aload_n 0, 1)) rfl) ?_
  refine And.intro (k_gR (pc := 50) rfl (by decide) rfl zin11 lk_X11_71 (by decide +kernel : decode cX11_gains 50 = .ok (.getfield 71, 3))) ?_
  refine And.intro (k_iconst (pc := 53) (by decide +kernel : decode cX11_gains 53 = .ok (.iconst 2, 1)) (by decide)) ?_
  refine And.intro (k_aald17 (pc := 54) (by decide +kernel : decode cX11_gains 54 = .ok (.aaload, 1))) ?_
  refine And.intro (k_gR (pc := 55) rfl (by decide) rfl zin3 lk_X11_309 (by decide +kernel : decode cX11_gains 55 = .ok (.getfield 309, 3))) ?_
  refine And.intro (k_aload_n (pc := 58) (by decide +kernel : decode cX11_gains 58 = .ok (.aload_n 0, 1)) rfl) ?_
  refine And.intro (k_gR (pc := 59) rfl (by decide) rfl zin11 lk_X11_71 (by decide +kernel : decode cX11_gains 59 = .ok (.getfield 71, 3))) ?_
  refine And.intro (k_iconst (pc := 62) (by decide +kernel : decode cX11_gains 62 = .ok (.iconst 1, 1)) (by decide)) ?_
  refine And.intro (k_aald17 (pc := 63) (by decide +kernel : decode cX11_gains 63 = .ok (.aaload, 1))) ?_
  refine And.intro (k_gR (pc := 64) rfl (by decide) rfl zin3 lk_X11_309 (by decide +kernel : decode cX11_gains 64 = .ok (.getfield 309, 3))) ?_
  refine And.intro (k_crV (n := 1) (pc := 67) hG (zRoom_self 7) (tag := 6) rfl ini_X6 im_X6_isBelow se_X6_isBelow mk_X11_326 dy_X6_isBelow (by decide +kernel : decode cX11_gains 67 = .ok (.invokevirtual 326, 3))) ?_
  refine And.intro (k_if_eq (pc := 70) (by decide +kernel : decode cX11_gains 70 = .ok (.ifCond .eq 7, 3)) (by decide)) ?_
  refine And.intro (k_iconst (pc := 73) (by decide +kernel : decode cX11_gains 73 = .ok (.iconst 1, 1)) (by decide)) ?_
  refine And.intro (k_goto (pc := 74) (by decide +kernel : decode cX11_gains 74 = .ok (.goto 4, 3)) (by decide)) ?_
  refine And.intro (k_iconst (pc := 77) (by decide +kernel : decode cX11_gains 77 = .ok (.iconst 0, 1)) (by decide)) ?_
  refine And.intro (k_istore_n (pc := 78) (by decide +kernel : decode cX11_gains 78 = .ok (.istore_n 3, 1)) rfl) ?_
  refine And.intro (k_aload_n (pc := 79) (by decide +kernel : decode cX11_gains 79 = .ok (.aload_n 0, 1)) rfl) ?_
  refine And.intro (k_gR (pc := 80) rfl (by decide) rfl zin11 lk_X11_44 (by decide +kernel : decode cX11_gains 80 = .ok (.getfield 44, 3))) ?_
  refine And.intro (k_cvV (n := 0) (pc := 83) hG (zRoom_self 7) (tag := 4) rfl ini_X4 im_X4_clear se_X4_clear mk_X11_180 dy_X4_clear (by decide +kernel : decode cX11_gains 83 = .ok (.invokevirtual 180, 3))) ?_
  refine And.intro (k_aload_n (pc := 86) (by decide +kernel : decode cX11_gains 86 = .ok (.aload_n 0, 1)) rfl) ?_
  refine And.intro (k_gR (pc := 87) rfl (by decide) rfl zin11 lk_X11_78 (by decide +kernel : decode cX11_gains 87 = .ok (.getfield 78, 3))) ?_
  refine And.intro (k_aload_n (pc := 90) (by decide +kernel : decode cX11_gains 90 = .ok (.aload_n 0, 1)) rfl) ?_
  refine And.intro (k_gR (pc := 91) rfl (by decide) rfl zin11 lk_X11_71 (by decide +kernel : decode cX11_gains 91 = .ok (.getfield 71, 3))) ?_
  refine And.intro (k_iconst (pc := 94) (by decide +kernel : decode cX11_gains 94 = .ok (.iconst 0, 1)) (by decide)) ?_
  refine And.intro (k_aald17 (pc := 95) (by decide +kernel : decode cX11_gains 95 = .ok (.aaload, 1))) ?_
  refine And.intro (k_gR (pc := 96) rfl (by decide) rfl zin3 lk_X11_309 (by decide +kernel : decode cX11_gains 96 = .ok (.getfield 309, 3))) ?_
  refine And.intro (k_aload_n (pc := 99) (by decide +kernel : decode cX11_gains 99 = .ok (.aload_n 0, 1)) rfl) ?_
  refine And.intro (k_gR (pc := 100) rfl (by decide) rfl zin11 lk_X11_71 (by decide +kernel : decode cX11_gains 100 = .ok (.getfield 71, 3))) ?_
  refine And.intro (k_iconst (pc := 103) (by decide +kernel : decode cX11_gains 103 = .ok (.iconst 1, 1)) (by decide)) ?_
  refine And.intro (k_iload_n (pc := 104) (by decide +kernel : decode cX11_gains 104 = .ok (.iload_n 3, 1)) rfl) ?_
  refine And.intro (k_iadd (pc := 105) (by decide +kernel : decode cX11_gains 105 = .ok (.iadd, 1))) ?_
  refine And.intro (k_aald17 (pc := 106) (by decide +kernel : decode cX11_gains 106 = .ok (.aaload, 1))) ?_
  refine And.intro (k_gR (pc := 107) rfl (by decide) rfl zin3 lk_X11_309 (by decide +kernel : decode cX11_gains 107 = .ok (.getfield 309, 3))) ?_
  refine And.intro (k_cvV (n := 2) (pc := 110) hG (zRoom_self 7) (tag := 6) rfl ini_X6 im_X6_putDifference se_X6_putDifference mk_X11_330 dy_X6_putDifference (by decide +kernel : decode cX11_gains 110 = .ok (.invokevirtual 330, 3))) ?_
  refine And.intro (k_aload_n (pc := 113) (by decide +kernel : decode cX11_gains 113 = .ok (.aload_n 0, 1)) rfl) ?_
  refine And.intro (k_gR (pc := 114) rfl (by decide) rfl zin11 lk_X11_44 (by decide +kernel : decode cX11_gains 114 = .ok (.getfield 44, 3))) ?_
  refine And.intro (k_aload_n (pc := 117) (by decide +kernel : decode cX11_gains 117 = .ok (.aload_n 0, 1)) rfl) ?_
  refine And.intro (k_gR (pc := 118) rfl (by decide) rfl zin11 lk_X11_78 (by decide +kernel : decode cX11_gains 118 = .ok (.getfield 78, 3))) ?_
  refine And.intro (k_cvV (n := 1) (pc := 121) hG (zRoom_self 7) (tag := 4) rfl ini_X4 im_X4_tellRatio se_X4_tellRatio mk_X11_186 dy_X4_tellRatio (by decide +kernel : decode cX11_gains 121 = .ok (.invokevirtual 186, 3))) ?_
  refine And.intro (k_aload_n (pc := 124) (by decide +kernel : decode cX11_gains 124 = .ok (.aload_n 0, 1)) rfl) ?_
  refine And.intro (k_gR (pc := 125) rfl (by decide) rfl zin11 lk_X11_78 (by decide +kernel : decode cX11_gains 125 = .ok (.getfield 78, 3))) ?_
  refine And.intro (k_aload_n (pc := 128) (by decide +kernel : decode cX11_gains 128 = .ok (.aload_n 0, 1)) rfl) ?_
  refine And.intro (k_gR (pc := 129) rfl (by decide) rfl zin11 lk_X11_71 (by decide +kernel : decode cX11_gains 129 = .ok (.getfield 71, 3))) ?_
  refine And.intro (k_iconst (pc := 132) (by decide +kernel : decode cX11_gains 132 = .ok (.iconst 0, 1)) (by decide)) ?_
  refine And.intro (k_aald17 (pc := 133) (by decide +kernel : decode cX11_gains 133 = .ok (.aaload, 1))) ?_
  refine And.intro (k_gR (pc := 134) rfl (by decide) rfl zin3 lk_X11_309 (by decide +kernel : decode cX11_gains 134 = .ok (.getfield 309, 3))) ?_
  refine And.intro (k_aload_n (pc := 137) (by decide +kernel : decode cX11_gains 137 = .ok (.aload_n 0, 1)) rfl) ?_
  refine And.intro (k_gR (pc := 138) rfl (by decide) rfl zin11 lk_X11_71 (by decide +kernel : decode cX11_gains 138 = .ok (.getfield 71, 3))) ?_
  refine And.intro (k_iconst (pc := 141) (by decide +kernel : decode cX11_gains 141 = .ok (.iconst 3, 1)) (by decide)) ?_
  refine And.intro (k_aald17 (pc := 142) (by decide +kernel : decode cX11_gains 142 = .ok (.aaload, 1))) ?_
  refine And.intro (k_gR (pc := 143) rfl (by decide) rfl zin3 lk_X11_309 (by decide +kernel : decode cX11_gains 143 = .ok (.getfield 309, 3))) ?_
  refine And.intro (k_cvV (n := 2) (pc := 146) hG (zRoom_self 7) (tag := 6) rfl ini_X6 im_X6_putDifference se_X6_putDifference mk_X11_330 dy_X6_putDifference (by decide +kernel : decode cX11_gains 146 = .ok (.invokevirtual 330, 3))) ?_
  refine And.intro (k_aload_n (pc := 149) (by decide +kernel : decode cX11_gains 149 = .ok (.aload_n 0, 1)) rfl) ?_
  refine And.intro (k_gR (pc := 150) rfl (by decide) rfl zin11 lk_X11_44 (by decide +kernel : decode cX11_gains 150 = .ok (.getfield 44, 3))) ?_
  refine And.intro (k_aload_n (pc := 153) (by decide +kernel : decode cX11_gains 153 = .ok (.aload_n 0, 1)) rfl) ?_
  refine And.intro (k_gR (pc := 154) rfl (by decide) rfl zin11 lk_X11_78 (by decide +kernel : decode cX11_gains 154 = .ok (.getfield 78, 3))) ?_
  refine And.intro (k_cvV (n := 1) (pc := 157) hG (zRoom_self 7) (tag := 4) rfl ini_X4 im_X4_tellRatio se_X4_tellRatio mk_X11_186 dy_X4_tellRatio (by decide +kernel : decode cX11_gains 157 = .ok (.invokevirtual 186, 3))) ?_
  refine And.intro (k_iload_n (pc := 160) (by decide +kernel : decode cX11_gains 160 = .ok (.iload_n 3, 1)) rfl) ?_
  refine And.intro (k_ireturn (pc := 161) rfl (by decide +kernel : decode cX11_gains 161 = .ok (.ireturn, 1))) ?_
  exact trivial
theorem cdX11_gains : Cond.code yX11_gains cX11_gains 4 (some .int) ∈ zWs := zWs_in 921 (by decide +kernel) rfl
noncomputable def pgX11_loses : zPg := [(0, o_il 1), (1, o_il 2), (2, o_il 3), (3, o_cr yX11_isRow 3), (6, o_if_ne 11), (9, o_ic (-1)), (10, o_ir), (11, o_al 0), (12, o_gR 11 9), (15, o_al 0), (16, o_gR 11 0), (19, o_ic (-1)), (20, o_vv yX10_gather 10 3), (23, o_al 0), (24, o_gR 11 9), (27, o_il 1), (28, o_i2l), (29, o_il 2), (30, o_i2l), (31, o_il 3), (32, o_i2l), (33, o_vr2 yX10_above 10 4), (36, o_is 4), (38, o_al 0), (39, o_gR 11 6), (42, o_vv yX4_clear 4 1), (45, o_al 0), (46, o_gR 11 6), (49, o_al 0), (50, o_gR 11 9), (53, o_gI 10 0), (56, o_il 4), (58, o_isub), (59, o_i2l), (60, o_vv yX4_tell 4 2), (63, o_il 4), (65, o_ir)]
set_option maxRecDepth 20000 in
theorem pkX11_loses {G : zG} (hG : zGok G) (Q : zRt) : zPOK G (zRm 4) RX11 cX11_loses 5 (some .int) (zF G Q 0 0) 0 0 (zCalls G 4) Q pgX11_loses := by
  refine And.intro (k_iload_n (pc := 0) (by decide +kernel : decode cX11_loses 0 = .ok (.iload_n 1, 1)) rfl) ?_
  refine And.intro (k_iload_n (pc := 1) (by decide +kernel : decode cX11_loses 1 = .ok (.iload_n 2, 1)) rfl) ?_
  refine And.intro (k_iload_n (pc := 2) (by decide +kernel : decode cX11_loses 2 = .ok (.iload_n 3, 1)) rfl) ?_
  refine And.intro (k_crS (n := 3) (pc := 3) hG (zRoom_self 4) ini_X11 sta_X11_isRow mk_X11_334 dy_X11_isRow (by decide +kernel : decode cX11_loses 3 = .ok (.invokestatic 334, 3))) ?_
  refine And.intro (k_if_ne (pc := 6) (by decide +kernel : decode cX11_loses 6 = .ok (.ifCond .ne 5, 3)) (by decide)) ?_
  refine And.intro (k_iconst (pc := 9) (by decide +kernel : decode cX11_loses 9 = .ok (.iconst (-1), 1)) (by decide)) ?_
  refine And.intro (k_ireturn (pc := 10) rfl (by decide +kernel : decode cX11_loses 10 = .ok (.ireturn, 1))) ?_
  refine And.intro (k_aload_n (pc := 11) (by decide +kernel : decode cX11_loses 11 = .ok (.aload_n 0, 1)) rfl) ?_
  refine And.intro (k_gR (pc := 12) rfl (by decide) rfl zin11 lk_X11_65 (by decide +kernel : decode cX11_loses 12 = .ok (.getfield 65, 3))) ?_
  refine And.intro (k_aload_n (pc := 15) (by decide +kernel : decode cX11_loses 15 = .ok (.aload_n 0, 1)) rfl) ?_
  refine And.intro (k_gR (pc := 16) rfl (by decide) rfl zin11 lk_X11_10 (by decide +kernel : decode cX11_loses 16 = .ok (.getfield 10, 3))) ?_
  refine And.intro (k_iconst (pc := 19) (by decide +kernel : decode cX11_loses 19 = .ok (.iconst (-1), 1)) (by decide)) ?_
  refine And.intro (k_cvV (n := 2) (pc := 20) hG (zRoom_self 4) (tag := 10) rfl ini_X10 im_X10_gather se_X10_gather mk_X11_254 dy_X10_gather (by decide +kernel : decode cX11_loses 20 = .ok (.invokevirtual 254, 3))) ?_
  refine And.intro (k_aload_n (pc := 23) (by decide +kernel : decode cX11_loses 23 = .ok (.aload_n 0, 1)) rfl) ?_
  refine And.intro (k_gR (pc := 24) rfl (by decide) rfl zin11 lk_X11_65 (by decide +kernel : decode cX11_loses 24 = .ok (.getfield 65, 3))) ?_
  refine And.intro (k_iload_n (pc := 27) (by decide +kernel : decode cX11_loses 27 = .ok (.iload_n 1, 1)) rfl) ?_
  refine And.intro (k_i2l (pc := 28) (by decide +kernel : decode cX11_loses 28 = .ok (.i2l, 1))) ?_
  refine And.intro (k_iload_n (pc := 29) (by decide +kernel : decode cX11_loses 29 = .ok (.iload_n 2, 1)) rfl) ?_
  refine And.intro (k_i2l (pc := 30) (by decide +kernel : decode cX11_loses 30 = .ok (.i2l, 1))) ?_
  refine And.intro (k_iload_n (pc := 31) (by decide +kernel : decode cX11_loses 31 = .ok (.iload_n 3, 1)) rfl) ?_
  refine And.intro (k_i2l (pc := 32) (by decide +kernel : decode cX11_loses 32 = .ok (.i2l, 1))) ?_
  refine And.intro (k_crV (n := 3) (pc := 33) hG (zRoom_self 4) (tag := 10) rfl ini_X10 im_X10_above se_X10_above mk_X11_257 dy_X10_above (by decide +kernel : decode cX11_loses 33 = .ok (.invokevirtual 257, 3))) ?_
  refine And.intro (k_istore (pc := 36) (by decide +kernel : decode cX11_loses 36 = .ok (.istore 4, 2))) ?_
  refine And.intro (k_aload_n (pc := 38) (by decide +kernel : decode cX11_loses 38 = .ok (.aload_n 0, 1)) rfl) ?_
  refine And.intro (k_gR (pc := 39) rfl (by decide) rfl zin11 lk_X11_44 (by decide +kernel : decode cX11_loses 39 = .ok (.getfield 44, 3))) ?_
  refine And.intro (k_cvV (n := 0) (pc := 42) hG (zRoom_self 4) (tag := 4) rfl ini_X4 im_X4_clear se_X4_clear mk_X11_180 dy_X4_clear (by decide +kernel : decode cX11_loses 42 = .ok (.invokevirtual 180, 3))) ?_
  refine And.intro (k_aload_n (pc := 45) (by decide +kernel : decode cX11_loses 45 = .ok (.aload_n 0, 1)) rfl) ?_
  refine And.intro (k_gR (pc := 46) rfl (by decide) rfl zin11 lk_X11_44 (by decide +kernel : decode cX11_loses 46 = .ok (.getfield 44, 3))) ?_
  refine And.intro (k_aload_n (pc := 49) (by decide +kernel : decode cX11_loses 49 = .ok (.aload_n 0, 1)) rfl) ?_
  refine And.intro (k_gR (pc := 50) rfl (by decide) rfl zin11 lk_X11_65 (by decide +kernel : decode cX11_loses 50 = .ok (.getfield 65, 3))) ?_
  refine And.intro (k_gI (pc := 53) rfl (by decide) rfl zin10 lk_X11_275 (by decide +kernel : decode cX11_loses 53 = .ok (.getfield 275, 3))) ?_
  refine And.intro (k_iload (pc := 56) (by decide +kernel : decode cX11_loses 56 = .ok (.iload 4, 2))) ?_
  refine And.intro (k_isub (pc := 58) (by decide +kernel : decode cX11_loses 58 = .ok (.isub, 1))) ?_
  refine And.intro (k_i2l (pc := 59) (by decide +kernel : decode cX11_loses 59 = .ok (.i2l, 1))) ?_
  refine And.intro (k_cvV (n := 1) (pc := 60) hG (zRoom_self 4) (tag := 4) rfl ini_X4 im_X4_tell se_X4_tell mk_X11_205 dy_X4_tell (by decide +kernel : decode cX11_loses 60 = .ok (.invokevirtual 205, 3))) ?_
  refine And.intro (k_iload (pc := 63) (by decide +kernel : decode cX11_loses 63 = .ok (.iload 4, 2))) ?_
  refine And.intro (k_ireturn (pc := 65) rfl (by decide +kernel : decode cX11_loses 65 = .ok (.ireturn, 1))) ?_
  exact trivial
theorem cdX11_loses : Cond.code yX11_loses cX11_loses 5 (some .int) ∈ zWs := zWs_in 927 (by decide +kernel) rfl
noncomputable def pgX11_tightest : zPg := [(0, o_ic (-2)), (2, o_is 1), (3, o_ic (-1)), (4, o_is 2), (5, o_ic (0)), (6, o_is 3), (7, o_il 3), (8, o_al 0), (9, o_gR 11 0), (12, o_gI 5 0), (15, o_ic_ge 57), (18, o_al 0), (19, o_gR 11 9), (22, o_al 0), (23, o_gR 11 0), (26, o_il 3), (27, o_vv yX10_gather 10 3), (30, o_al 0), (31, o_gR 11 9), (34, o_gI 10 0), (37, o_il 2), (38, o_ic_le 51), (41, o_al 0), (42, o_gR 11 9), (45, o_gI 10 0), (48, o_is 2), (49, o_il 3), (50, o_is 1), (51, o_inc 3 (1)), (54, o_go 7), (57, o_il 1), (58, o_if_lt 77), (61, o_al 0), (62, o_gR 11 6), (65, o_vv yX4_clear 4 1), (68, o_al 0), (69, o_gR 11 6), (72, o_il 2), (73, o_i2l), (74, o_vv yX4_tell 4 2), (77, o_il 1), (78, o_ir)]
set_option maxRecDepth 20000 in
theorem pkX11_tightest {G : zG} (hG : zGok G) (Q : zRt) : zPOK G (zRm 4) RX11 cX11_tightest 4 (some .int) (zF G Q 0 0) 0 0 (zCalls G 4) Q pgX11_tightest := by
  refine And.intro (k_bipush (pc := 0) (by decide +kernel : decode cX11_tightest 0 = .ok (.bipush (-2), 2)) (by decide)) ?_
  refine And.intro (k_istore_n (pc := 2) (by decide +kernel : decode cX11_tightest 2 = .ok (.istore_n 1, 1)) rfl) ?_
  refine And.intro (k_iconst (pc := 3) (by decide +kernel : decode cX11_tightest 3 = .ok (.iconst (-1), 1)) (by decide)) ?_
  refine And.intro (k_istore_n (pc := 4) (by decide +kernel : decode cX11_tightest 4 = .ok (.istore_n 2, 1)) rfl) ?_
  refine And.intro (k_iconst (pc := 5) (by decide +kernel : decode cX11_tightest 5 = .ok (.iconst 0, 1)) (by decide)) ?_
  refine And.intro (k_istore_n (pc := 6) (by decide +kernel : decode cX11_tightest 6 = .ok (.istore_n 3, 1)) rfl) ?_
  refine And.intro (k_iload_n (pc := 7) (by decide +kernel : decode cX11_tightest 7 = .ok (.iload_n 3, 1)) rfl) ?_
  refine And.intro (k_aload_n (pc := 8) (by decide +kernel : decode cX11_tightest 8 = .ok (.aload_n 0, 1)) rfl) ?_
  refine And.intro (k_gR (pc := 9) rfl (by decide) rfl zin11 lk_X11_10 (by decide +kernel : decode cX11_tightest 9 = .ok (.getfield 10, 3))) ?_
  refine And.intro (k_gI (pc := 12) rfl (by decide) rfl zin5 lk_X11_116 (by decide +kernel : decode cX11_tightest 12 = .ok (.getfield 116, 3))) ?_
  refine And.intro (k_icmp_ge (pc := 15) (by decide +kernel : decode cX11_tightest 15 = .ok (.if_icmp .ge 42, 3)) (by decide)) ?_
  refine And.intro (k_aload_n (pc := 18) (by decide +kernel : decode cX11_tightest 18 = .ok (.aload_n 0, 1)) rfl) ?_
  refine And.intro (k_gR (pc := 19) rfl (by decide) rfl zin11 lk_X11_65 (by decide +kernel : decode cX11_tightest 19 = .ok (.getfield 65, 3))) ?_
  refine And.intro (k_aload_n (pc := 22) (by decide +kernel : decode cX11_tightest 22 = .ok (.aload_n 0, 1)) rfl) ?_
  refine And.intro (k_gR (pc := 23) rfl (by decide) rfl zin11 lk_X11_10 (by decide +kernel : decode cX11_tightest 23 = .ok (.getfield 10, 3))) ?_
  refine And.intro (k_iload_n (pc := 26) (by decide +kernel : decode cX11_tightest 26 = .ok (.iload_n 3, 1)) rfl) ?_
  refine And.intro (k_cvV (n := 2) (pc := 27) hG (zRoom_self 4) (tag := 10) rfl ini_X10 im_X10_gather se_X10_gather mk_X11_254 dy_X10_gather (by decide +kernel : decode cX11_tightest 27 = .ok (.invokevirtual 254, 3))) ?_
  refine And.intro (k_aload_n (pc := 30) (by decide +kernel : decode cX11_tightest 30 = .ok (.aload_n 0, 1)) rfl) ?_
  refine And.intro (k_gR (pc := 31) rfl (by decide) rfl zin11 lk_X11_65 (by decide +kernel : decode cX11_tightest 31 = .ok (.getfield 65, 3))) ?_
  refine And.intro (k_gI (pc := 34) rfl (by decide) rfl zin10 lk_X11_275 (by decide +kernel : decode cX11_tightest 34 = .ok (.getfield 275, 3))) ?_
  refine And.intro (k_iload_n (pc := 37) (by decide +kernel : decode cX11_tightest 37 = .ok (.iload_n 2, 1)) rfl) ?_
  refine And.intro (k_icmp_le (pc := 38) (by decide +kernel : decode cX11_tightest 38 = .ok (.if_icmp .le 13, 3)) (by decide)) ?_
  refine And.intro (k_aload_n (pc := 41) (by decide +kernel : decode cX11_tightest 41 = .ok (.aload_n 0, 1)) rfl) ?_
  refine And.intro (k_gR (pc := 42) rfl (by decide) rfl zin11 lk_X11_65 (by decide +kernel : decode cX11_tightest 42 = .ok (.getfield 65, 3))) ?_
  refine And.intro (k_gI (pc := 45) rfl (by decide) rfl zin10 lk_X11_275 (by decide +kernel : decode cX11_tightest 45 = .ok (.getfield 275, 3))) ?_
  refine And.intro (k_istore_n (pc := 48) (by decide +kernel : decode cX11_tightest 48 = .ok (.istore_n 2, 1)) rfl) ?_
  refine And.intro (k_iload_n (pc := 49) (by decide +kernel : decode cX11_tightest 49 = .ok (.iload_n 3, 1)) rfl) ?_
  refine And.intro (k_istore_n (pc := 50) (by decide +kernel : decode cX11_tightest 50 = .ok (.istore_n 1, 1)) rfl) ?_
  refine And.intro (k_iinc (pc := 51) (by decide +kernel : decode cX11_tightest 51 = .ok (.iinc 3 1, 3)) (by decide)) ?_
  refine And.intro (k_goto (pc := 54) (by decide +kernel : decode cX11_tightest 54 = .ok (.goto (-47), 3)) (by decide)) ?_
  refine And.intro (k_iload_n (pc := 57) (by decide +kernel : decode cX11_tightest 57 = .ok (.iload_n 1, 1)) rfl) ?_
  refine And.intro (k_if_lt (pc := 58) (by decide +kernel : decode cX11_tightest 58 = .ok (.ifCond .lt 19, 3)) (by decide)) ?_
  refine And.intro (k_aload_n (pc := 61) (by decide +kernel : decode cX11_tightest 61 = .ok (.aload_n 0, 1)) rfl) ?_
  refine And.intro (k_gR (pc := 62) rfl (by decide) rfl zin11 lk_X11_44 (by decide +kernel : decode cX11_tightest 62 = .ok (.getfield 44, 3))) ?_
  refine And.intro (k_cvV (n := 0) (pc := 65) hG (zRoom_self 4) (tag := 4) rfl ini_X4 im_X4_clear se_X4_clear mk_X11_180 dy_X4_clear (by decide +kernel : decode cX11_tightest 65 = .ok (.invokevirtual 180, 3))) ?_
  refine And.intro (k_aload_n (pc := 68) (by decide +kernel : decode cX11_tightest 68 = .ok (.aload_n 0, 1)) rfl) ?_
  refine And.intro (k_gR (pc := 69) rfl (by decide) rfl zin11 lk_X11_44 (by decide +kernel : decode cX11_tightest 69 = .ok (.getfield 44, 3))) ?_
  refine And.intro (k_iload_n (pc := 72) (by decide +kernel : decode cX11_tightest 72 = .ok (.iload_n 2, 1)) rfl) ?_
  refine And.intro (k_i2l (pc := 73) (by decide +kernel : decode cX11_tightest 73 = .ok (.i2l, 1))) ?_
  refine And.intro (k_cvV (n := 1) (pc := 74) hG (zRoom_self 4) (tag := 4) rfl ini_X4 im_X4_tell se_X4_tell mk_X11_205 dy_X4_tell (by decide +kernel : decode cX11_tightest 74 = .ok (.invokevirtual 205, 3))) ?_
  refine And.intro (k_iload_n (pc := 77) (by decide +kernel : decode cX11_tightest 77 = .ok (.iload_n 1, 1)) rfl) ?_
  refine And.intro (k_ireturn (pc := 78) rfl (by decide +kernel : decode cX11_tightest 78 = .ok (.ireturn, 1))) ?_
  exact trivial
theorem cdX11_tightest : Cond.code yX11_tightest cX11_tightest 4 (some .int) ∈ zWs := zWs_in 932 (by decide +kernel) rfl
noncomputable def pgX11_act : zPg := [(0, o_al 0), (1, o_gR 11 5), (4, o_il 1), (5, o_vr2 yX8_at 8 2), (8, o_sw [(98, 44), (100, 74), (115, 93)] 135), (44, o_al 0), (45, o_gR 11 0), (48, o_al 0), (49, o_gR 11 5), (52, o_il 1), (53, o_ic (1)), (54, o_iadd), (55, o_ic (1)), (56, o_vr2 yX8_number 8 3), (59, o_al 0), (60, o_gR 11 5), (63, o_il 1), (64, o_ic (2)), (65, o_iadd), (66, o_ic (2)), (67, o_vr2 yX8_signed 8 3), (70, o_vr2 yX5_changeBound 5 3), (73, o_ir), (74, o_al 0), (75, o_gR 11 0), (78, o_al 0), (79, o_gR 11 5), (82, o_il 1), (83, o_ic (1)), (84, o_iadd), (85, o_ic (1)), (86, o_vr2 yX8_number 8 3), (89, o_vr2 yX5_dropRow 5 2), (92, o_ir), (93, o_al 0), (94, o_al 0), (95, o_al 0), (96, o_gR 11 5), (99, o_il 1), (100, o_ic (1)), (101, o_iadd), (102, o_ic (1)), (103, o_vr2 yX8_number 8 3), (106, o_al 0), (107, o_gR 11 5), (110, o_il 1), (111, o_ic (2)), (112, o_iadd), (113, o_ic (1)), (114, o_vr2 yX8_number 8 3), (117, o_al 0), (118, o_gR 11 5), (121, o_il 1), (122, o_ic (3)), (123, o_iadd), (124, o_ic (1)), (125, o_vr2 yX8_number 8 3), (128, o_vr2 yX11_findCut 11 4), (131, o_vr2 yX11_storeFound 11 2), (134, o_ir), (135, o_al 0), (136, o_gR 11 0), (139, o_vr2 yX5_dropCuts 5 1), (142, o_ir)]
set_option maxRecDepth 20000 in
theorem pkX11_act {G : zG} (hG : zGok G) (Q : zRt) : zPOK G (zRm 7) RX11 cX11_act 2 (some .int) (zF G Q 0 0) 0 0 (zCalls G 7) Q pgX11_act := by
  refine And.intro (k_aload_n (pc := 0) (by decide +kernel : decode cX11_act 0 = .ok (.aload_n 0, 1)) rfl) ?_
  refine And.intro (k_gR (pc := 1) rfl (by decide) rfl zin11 lk_X11_37 (by decide +kernel : decode cX11_act 1 = .ok (.getfield 37, 3))) ?_
  refine And.intro (k_iload_n (pc := 4) (by decide +kernel : decode cX11_act 4 = .ok (.iload_n 1, 1)) rfl) ?_
  refine And.intro (k_crV (n := 1) (pc := 5) hG (zRoom_self 7) (tag := 8) rfl ini_X8 im_X8_at se_X8_at mk_X11_349 dy_X8_at (by decide +kernel : decode cX11_act 5 = .ok (.invokevirtual 349, 3))) ?_
  refine And.intro (k_lsw (pc := 8) (by decide +kernel : decode cX11_act 8 = .ok (.lookupswitch 127 #[(98, 36), (100, 66), (115, 85)], 36)) (by decide) (zlsw_hit (by decide)) (zlsw_no (by decide) (by decide))) ?_
  refine And.intro (k_aload_n (pc := 44) (by decide +kernel : decode cX11_act 44 = .ok (.aload_n 0, 1)) rfl) ?_
  refine And.intro (k_gR (pc := 45) rfl (by decide) rfl zin11 lk_X11_10 (by decide +kernel : decode cX11_act 45 = .ok (.getfield 10, 3))) ?_
  refine And.intro (k_aload_n (pc := 48) (by decide +kernel : decode cX11_act 48 = .ok (.aload_n 0, 1)) rfl) ?_
  refine And.intro (k_gR (pc := 49) rfl (by decide) rfl zin11 lk_X11_37 (by decide +kernel : decode cX11_act 49 = .ok (.getfield 37, 3))) ?_
  refine And.intro (k_iload_n (pc := 52) (by decide +kernel : decode cX11_act 52 = .ok (.iload_n 1, 1)) rfl) ?_
  refine And.intro (k_iconst (pc := 53) (by decide +kernel : decode cX11_act 53 = .ok (.iconst 1, 1)) (by decide)) ?_
  refine And.intro (k_iadd (pc := 54) (by decide +kernel : decode cX11_act 54 = .ok (.iadd, 1))) ?_
  refine And.intro (k_iconst (pc := 55) (by decide +kernel : decode cX11_act 55 = .ok (.iconst 1, 1)) (by decide)) ?_
  refine And.intro (k_crV (n := 2) (pc := 56) hG (zRoom_self 7) (tag := 8) rfl ini_X8 im_X8_number se_X8_number mk_X11_351 dy_X8_number (by decide +kernel : decode cX11_act 56 = .ok (.invokevirtual 351, 3))) ?_
  refine And.intro (k_aload_n (pc := 59) (by decide +kernel : decode cX11_act 59 = .ok (.aload_n 0, 1)) rfl) ?_
  refine And.intro (k_gR (pc := 60) rfl (by decide) rfl zin11 lk_X11_37 (by decide +kernel : decode cX11_act 60 = .ok (.getfield 37, 3))) ?_
  refine And.intro (k_iload_n (pc := 63) (by decide +kernel : decode cX11_act 63 = .ok (.iload_n 1, 1)) rfl) ?_
  refine And.intro (k_iconst (pc := 64) (by decide +kernel : decode cX11_act 64 = .ok (.iconst 2, 1)) (by decide)) ?_
  refine And.intro (k_iadd (pc := 65) (by decide +kernel : decode cX11_act 65 = .ok (.iadd, 1))) ?_
  refine And.intro (k_iconst (pc := 66) (by decide +kernel : decode cX11_act 66 = .ok (.iconst 2, 1)) (by decide)) ?_
  refine And.intro (k_crV (n := 2) (pc := 67) hG (zRoom_self 7) (tag := 8) rfl ini_X8 im_X8_signed se_X8_signed mk_X11_354 dy_X8_signed (by decide +kernel : decode cX11_act 67 = .ok (.invokevirtual 354, 3))) ?_
  refine And.intro (k_crV (n := 2) (pc := 70) hG (zRoom_self 7) (tag := 5) rfl ini_X5 im_X5_changeBound se_X5_changeBound mk_X11_150 dy_X5_changeBound (by decide +kernel : decode cX11_act 70 = .ok (.invokevirtual 150, 3))) ?_
  refine And.intro (k_ireturn (pc := 73) rfl (by decide +kernel : decode cX11_act 73 = .ok (.ireturn, 1))) ?_
  refine And.intro (k_aload_n (pc := 74) (by decide +kernel : decode cX11_act 74 = .ok (.aload_n 0, 1)) rfl) ?_
  refine And.intro (k_gR (pc := 75) rfl (by decide) rfl zin11 lk_X11_10 (by decide +kernel : decode cX11_act 75 = .ok (.getfield 10, 3))) ?_
  refine And.intro (k_aload_n (pc := 78) (by decide +kernel : decode cX11_act 78 = .ok (.aload_n 0, 1)) rfl) ?_
  refine And.intro (k_gR (pc := 79) rfl (by decide) rfl zin11 lk_X11_37 (by decide +kernel : decode cX11_act 79 = .ok (.getfield 37, 3))) ?_
  refine And.intro (k_iload_n (pc := 82) (by decide +kernel : decode cX11_act 82 = .ok (.iload_n 1, 1)) rfl) ?_
  refine And.intro (k_iconst (pc := 83) (by decide +kernel : decode cX11_act 83 = .ok (.iconst 1, 1)) (by decide)) ?_
  refine And.intro (k_iadd (pc := 84) (by decide +kernel : decode cX11_act 84 = .ok (.iadd, 1))) ?_
  refine And.intro (k_iconst (pc := 85) (by decide +kernel : decode cX11_act 85 = .ok (.iconst 1, 1)) (by decide)) ?_
  refine And.intro (k_crV (n := 2) (pc := 86) hG (zRoom_self 7) (tag := 8) rfl ini_X8 im_X8_number se_X8_number mk_X11_351 dy_X8_number (by decide +kernel : decode cX11_act 86 = .ok (.invokevirtual 351, 3))) ?_
  refine And.intro (k_crV (n := 1) (pc := 89) hG (zRoom_self 7) (tag := 5) rfl ini_X5 im_X5_dropRow se_X5_dropRow mk_X11_157 dy_X5_dropRow (by decide +kernel : decode cX11_act 89 = .ok (.invokevirtual 157, 3))) ?_
  refine And.intro (k_ireturn (pc := 92) rfl (by decide +kernel : decode cX11_act 92 = .ok (.ireturn, 1))) ?_
  refine And.intro (k_aload_n (pc := 93) (by decide +kernel : decode cX11_act 93 = .ok (.aload_n 0, 1)) rfl) ?_
  refine And.intro (k_aload_n (pc := 94) (by decide +kernel : decode cX11_act 94 = .ok (.aload_n 0, 1)) rfl) ?_
  refine And.intro (k_aload_n (pc := 95) (by decide +kernel : decode cX11_act 95 = .ok (.aload_n 0, 1)) rfl) ?_
  refine And.intro (k_gR (pc := 96) rfl (by decide) rfl zin11 lk_X11_37 (by decide +kernel : decode cX11_act 96 = .ok (.getfield 37, 3))) ?_
  refine And.intro (k_iload_n (pc := 99) (by decide +kernel : decode cX11_act 99 = .ok (.iload_n 1, 1)) rfl) ?_
  refine And.intro (k_iconst (pc := 100) (by decide +kernel : decode cX11_act 100 = .ok (.iconst 1, 1)) (by decide)) ?_
  refine And.intro (k_iadd (pc := 101) (by decide +kernel : decode cX11_act 101 = .ok (.iadd, 1))) ?_
  refine And.intro (k_iconst (pc := 102) (by decide +kernel : decode cX11_act 102 = .ok (.iconst 1, 1)) (by decide)) ?_
  refine And.intro (k_crV (n := 2) (pc := 103) hG (zRoom_self 7) (tag := 8) rfl ini_X8 im_X8_number se_X8_number mk_X11_351 dy_X8_number (by decide +kernel : decode cX11_act 103 = .ok (.invokevirtual 351, 3))) ?_
  refine And.intro (k_aload_n (pc := 106) (by decide +kernel : decode cX11_act 106 = .ok (.aload_n 0, 1)) rfl) ?_
  refine And.intro (k_gR (pc := 107) rfl (by decide) rfl zin11 lk_X11_37 (by decide +kernel : decode cX11_act 107 = .ok (.getfield 37, 3))) ?_
  refine And.intro (k_iload_n (pc := 110) (by decide +kernel : decode cX11_act 110 = .ok (.iload_n 1, 1)) rfl) ?_
  refine And.intro (k_iconst (pc := 111) (by decide +kernel : decode cX11_act 111 = .ok (.iconst 2, 1)) (by decide)) ?_
  refine And.intro (k_iadd (pc := 112) (by decide +kernel : decode cX11_act 112 = .ok (.iadd, 1))) ?_
  refine And.intro (k_iconst (pc := 113) (by decide +kernel : decode cX11_act 113 = .ok (.iconst 1, 1)) (by decide)) ?_
  refine And.intro (k_crV (n := 2) (pc := 114) hG (zRoom_self 7) (tag := 8) rfl ini_X8 im_X8_number se_X8_number mk_X11_351 dy_X8_number (by decide +kernel : decode cX11_act 114 = .ok (.invokevirtual 351, 3))) ?_
  refine And.intro (k_aload_n (pc := 117) (by decide +kernel : decode cX11_act 117 = .ok (.aload_n 0, 1)) rfl) ?_
  refine And.intro (k_gR (pc := 118) rfl (by decide) rfl zin11 lk_X11_37 (by decide +kernel : decode cX11_act 118 = .ok (.getfield 37, 3))) ?_
  refine And.intro (k_iload_n (pc := 121) (by decide +kernel : decode cX11_act 121 = .ok (.iload_n 1, 1)) rfl) ?_
  refine And.intro (k_iconst (pc := 122) (by decide +kernel : decode cX11_act 122 = .ok (.iconst 3, 1)) (by decide)) ?_
  refine And.intro (k_iadd (pc := 123) (by decide +kernel : decode cX11_act 123 = .ok (.iadd, 1))) ?_
  refine And.intro (k_iconst (pc := 124) (by decide +kernel : decode cX11_act 124 = .ok (.iconst 1, 1)) (by decide)) ?_
  refine And.intro (k_crV (n := 2) (pc := 125) hG (zRoom_self 7) (tag := 8) rfl ini_X8 im_X8_number se_X8_number mk_X11_351 dy_X8_number (by decide +kernel : decode cX11_act 125 = .ok (.invokevirtual 351, 3))) ?_
  refine And.intro (k_crV (n := 3) (pc := 128) hG (zRoom_self 7) (tag := 11) rfl ini_X11 im_X11_findCut se_X11_findCut mk_X11_216 dy_X11_findCut (by decide +kernel : decode cX11_act 128 = .ok (.invokevirtual 216, 3))) ?_
  refine And.intro (k_crV (n := 1) (pc := 131) hG (zRoom_self 7) (tag := 11) rfl ini_X11 im_X11_storeFound se_X11_storeFound mk_X11_230 dy_X11_storeFound (by decide +kernel : decode cX11_act 131 = .ok (.invokevirtual 230, 3))) ?_
  refine And.intro (k_ireturn (pc := 134) rfl (by decide +kernel : decode cX11_act 134 = .ok (.ireturn, 1))) ?_
  refine And.intro (k_aload_n (pc := 135) (by decide +kernel : decode cX11_act 135 = .ok (.aload_n 0, 1)) rfl) ?_
  refine And.intro (k_gR (pc := 136) rfl (by decide) rfl zin11 lk_X11_10 (by decide +kernel : decode cX11_act 136 = .ok (.getfield 10, 3))) ?_
  refine And.intro (k_crV (n := 0) (pc := 139) hG (zRoom_self 7) (tag := 5) rfl ini_X5 im_X5_dropCuts se_X5_dropCuts mk_X11_261 dy_X5_dropCuts (by decide +kernel : decode cX11_act 139 = .ok (.invokevirtual 261, 3))) ?_
  refine And.intro (k_ireturn (pc := 142) rfl (by decide +kernel : decode cX11_act 142 = .ok (.ireturn, 1))) ?_
  exact trivial
theorem cdX11_act : Cond.code yX11_act cX11_act 2 (some .int) ∈ zWs := zWs_in 956 (by decide +kernel) rfl
noncomputable def pgX11_day : zPg := [(0, o_al 0), (1, o_gR 11 5), (4, o_vr2 yX8_dayFault 8 1), (7, o_is 1), (8, o_il 1), (9, o_ic (-1)), (10, o_ic_eq 26), (13, o_al 0), (14, o_gR 11 5), (17, o_ic (0)), (18, o_vr2 yX8_shorten 8 2), (21, o_pop), (22, o_ic (-1)), (23, o_il 1), (24, o_isub), (25, o_ir), (26, o_al 0), (27, o_gR 11 4), (30, o_al 0), (31, o_gR 11 0), (34, o_vv yX2_open 2 2), (37, o_ic (0)), (38, o_is 2), (39, o_ic (0)), (40, o_is 3), (41, o_ic (0)), (42, o_is 4), (44, o_il 4), (46, o_ic (80)), (48, o_ic_ge 90), (51, o_il 3), (52, o_al 0), (53, o_gR 11 5), (56, o_vr2 yX8_size 8 1), (59, o_ic_ge 90), (62, o_al 0), (63, o_il 3), (64, o_vr2 yX11_act 11 2), (67, o_if_lt 90), (70, o_il 3), (71, o_al 0), (72, o_gR 11 5), (75, o_il 3), (76, o_vr2 yX8_actLength 8 2), (79, o_iadd), (80, o_is 3), (81, o_inc 2 (1)), (84, o_inc 4 (1)), (87, o_go 44), (90, o_il 2), (91, o_if_le 101), (94, o_al 0), (95, o_gR 11 4), (98, o_vv yX2_close 2 1), (101, o_al 0), (102, o_gR 11 6), (105, o_vv yX4_clear 4 1), (108, o_al 0), (109, o_gR 11 6), (112, o_il 3), (113, o_al 0), (114, o_gR 11 5), (117, o_vr2 yX8_size 8 1), (120, o_ic_ge 127), (123, o_lc 1), (124, o_go 128), (127, o_lc 0), (128, o_vv yX4_tell 4 2), (131, o_al 0), (132, o_gR 11 5), (135, o_ic (0)), (136, o_vr2 yX8_shorten 8 2), (139, o_pop), (140, o_il 2), (141, o_ir)]
set_option maxRecDepth 20000 in
theorem pkX11_day {G : zG} (hG : zGok G) (Q : zRt) : zPOK G (zRm 8) RX11 cX11_day 5 (some .int) (zF G Q 0 0) 0 0 (zCalls G 8) Q pgX11_day := by
  refine And.intro (k_aload_n (pc := 0) (by decide +kernel : decode cX11_day 0 = .ok (.aload_n 0, 1)) rfl) ?_
  refine And.intro (k_gR (pc := 1) rfl (by decide) rfl zin11 lk_X11_37 (by decide +kernel : decode cX11_day 1 = .ok (.getfield 37, 3))) ?_
  refine And.intro (k_crV (n := 0) (pc := 4) hG (zRoom_self 8) (tag := 8) rfl ini_X8 im_X8_dayFault se_X8_dayFault mk_X11_340 dy_X8_dayFault (by decide +kernel : decode cX11_day 4 = .ok (.invokevirtual 340, 3))) ?_
  refine And.intro (k_istore_n (pc := 7) (by decide +kernel : decode cX11_day 7 = .ok (.istore_n 1, 1)) rfl) ?_
  refine And.intro (k_iload_n (pc := 8) (by decide +kernel : decode cX11_day 8 = .ok (.iload_n 1, 1)) rfl) ?_
  refine And.intro (k_iconst (pc := 9) (by decide +kernel : decode cX11_day 9 = .ok (.iconst (-1), 1)) (by decide)) ?_
  refine And.intro (k_icmp_eq (pc := 10) (by decide +kernel : decode cX11_day 10 = .ok (.if_icmp .eq 16, 3)) (by decide)) ?_
  refine And.intro (k_aload_n (pc := 13) (by decide +kernel : decode cX11_day 13 = .ok (.aload_n 0, 1)) rfl) ?_
  refine And.intro (k_gR (pc := 14) rfl (by decide) rfl zin11 lk_X11_37 (by decide +kernel : decode cX11_day 14 = .ok (.getfield 37, 3))) ?_
  refine And.intro (k_iconst (pc := 17) (by decide +kernel : decode cX11_day 17 = .ok (.iconst 0, 1)) (by decide)) ?_
  refine And.intro (k_crV (n := 1) (pc := 18) hG (zRoom_self 8) (tag := 8) rfl ini_X8 im_X8_shorten se_X8_shorten mk_X11_98 dy_X8_shorten (by decide +kernel : decode cX11_day 18 = .ok (.invokevirtual 98, 3))) ?_
  refine And.intro (k_pop (pc := 21) (by decide +kernel : decode cX11_day 21 = .ok (.pop, 1))) ?_
  refine And.intro (k_iconst (pc := 22) (by decide +kernel : decode cX11_day 22 = .ok (.iconst (-1), 1)) (by decide)) ?_
  refine And.intro (k_iload_n (pc := 23) (by decide +kernel : decode cX11_day 23 = .ok (.iload_n 1, 1)) rfl) ?_
  refine And.intro (k_isub (pc := 24) (by decide +kernel : decode cX11_day 24 = .ok (.isub, 1))) ?_
  refine And.intro (k_ireturn (pc := 25) rfl (by decide +kernel : decode cX11_day 25 = .ok (.ireturn, 1))) ?_
  refine And.intro (k_aload_n (pc := 26) (by decide +kernel : decode cX11_day 26 = .ok (.aload_n 0, 1)) rfl) ?_
  refine And.intro (k_gR (pc := 27) rfl (by decide) rfl zin11 lk_X11_30 (by decide +kernel : decode cX11_day 27 = .ok (.getfield 30, 3))) ?_
  refine And.intro (k_aload_n (pc := 30) (by decide +kernel : decode cX11_day 30 = .ok (.aload_n 0, 1)) rfl) ?_
  refine And.intro (k_gR (pc := 31) rfl (by decide) rfl zin11 lk_X11_10 (by decide +kernel : decode cX11_day 31 = .ok (.getfield 10, 3))) ?_
  refine And.intro (k_cvV (n := 1) (pc := 34) hG (zRoom_self 8) (tag := 2) rfl ini_X2 im_X2_open se_X2_open mk_X11_109 dy_X2_open (by decide +kernel : decode cX11_day 34 = .ok (.invokevirtual 109, 3))) ?_
  refine And.intro (k_iconst (pc := 37) (by decide +kernel : decode cX11_day 37 = .ok (.iconst 0, 1)) (by decide)) ?_
  refine And.intro (k_istore_n (pc := 38) (by decide +kernel : decode cX11_day 38 = .ok (.istore_n 2, 1)) rfl) ?_
  refine And.intro (k_iconst (pc := 39) (by decide +kernel : decode cX11_day 39 = .ok (.iconst 0, 1)) (by decide)) ?_
  refine And.intro (k_istore_n (pc := 40) (by decide +kernel : decode cX11_day 40 = .ok (.istore_n 3, 1)) rfl) ?_
  refine And.intro (k_iconst (pc := 41) (by decide +kernel : decode cX11_day 41 = .ok (.iconst 0, 1)) (by decide)) ?_
  refine And.intro (k_istore (pc := 42) (by decide +kernel : decode cX11_day 42 = .ok (.istore 4, 2))) ?_
  refine And.intro (k_iload (pc := 44) (by decide +kernel : decode cX11_day 44 = .ok (.iload 4, 2))) ?_
  refine And.intro (k_bipush (pc := 46) (by decide +kernel : decode cX11_day 46 = .ok (.bipush 80, 2)) (by decide)) ?_
  refine And.intro (k_icmp_ge (pc := 48) (by decide +kernel : decode cX11_day 48 = .ok (.if_icmp .ge 42, 3)) (by decide)) ?_
  refine And.intro (k_iload_n (pc := 51) (by decide +kernel : decode cX11_day 51 = .ok (.iload_n 3, 1)) rfl) ?_
  refine And.intro (k_aload_n (pc := 52) (by decide +kernel : decode cX11_day 52 = .ok (.aload_n 0, 1)) rfl) ?_
  refine And.intro (k_gR (pc := 53) rfl (by decide) rfl zin11 lk_X11_37 (by decide +kernel : decode cX11_day 53 = .ok (.getfield 37, 3))) ?_
  refine And.intro (k_crV (n := 0) (pc := 56) hG (zRoom_self 8) (tag := 8) rfl ini_X8 im_X8_size se_X8_size mk_X11_90 dy_X8_size (by decide +kernel : decode cX11_day 56 = .ok (.invokevirtual 90, 3))) ?_
  refine And.intro (k_icmp_ge (pc := 59) (by decide +kernel : decode cX11_day 59 = .ok (.if_icmp .ge 31, 3)) (by decide)) ?_
  refine And.intro (k_aload_n (pc := 62) (by decide +kernel : decode cX11_day 62 = .ok (.aload_n 0, 1)) rfl) ?_
  refine And.intro (k_iload_n (pc := 63) (by decide +kernel : decode cX11_day 63 = .ok (.iload_n 3, 1)) rfl) ?_
  refine And.intro (k_crV (n := 1) (pc := 64) hG (zRoom_self 8) (tag := 11) rfl ini_X11 im_X11_act se_X11_act mk_X11_343 dy_X11_act (by decide +kernel : decode cX11_day 64 = .ok (.invokevirtual 343, 3))) ?_
  refine And.intro (k_if_lt (pc := 67) (by decide +kernel : decode cX11_day 67 = .ok (.ifCond .lt 23, 3)) (by decide)) ?_
  refine And.intro (k_iload_n (pc := 70) (by decide +kernel : decode cX11_day 70 = .ok (.iload_n 3, 1)) rfl) ?_
  refine And.intro (k_aload_n (pc := 71) (by decide +kernel : decode cX11_day 71 = .ok (.aload_n 0, 1)) rfl) ?_
  refine And.intro (k_gR (pc := 72) rfl (by decide) rfl zin11 lk_X11_37 (by decide +kernel : decode cX11_day 72 = .ok (.getfield 37, 3))) ?_
  refine And.intro (k_iload_n (pc := 75) (by decide +kernel : decode cX11_day 75 = .ok (.iload_n 3, 1)) rfl) ?_
  refine And.intro (k_crV (n := 1) (pc := 76) hG (zRoom_self 8) (tag := 8) rfl ini_X8 im_X8_actLength se_X8_actLength mk_X11_346 dy_X8_actLength (by decide +kernel : decode cX11_day 76 = .ok (.invokevirtual 346, 3))) ?_
  refine And.intro (k_iadd (pc := 79) (by decide +kernel : decode cX11_day 79 = .ok (.iadd, 1))) ?_
  refine And.intro (k_istore_n (pc := 80) (by decide +kernel : decode cX11_day 80 = .ok (.istore_n 3, 1)) rfl) ?_
  refine And.intro (k_iinc (pc := 81) (by decide +kernel : decode cX11_day 81 = .ok (.iinc 2 1, 3)) (by decide)) ?_
  refine And.intro (k_iinc (pc := 84) (by decide +kernel : decode cX11_day 84 = .ok (.iinc 4 1, 3)) (by decide)) ?_
  refine And.intro (k_goto (pc := 87) (by decide +kernel : decode cX11_day 87 = .ok (.goto (-43), 3)) (by decide)) ?_
  refine And.intro (k_iload_n (pc := 90) (by decide +kernel : decode cX11_day 90 = .ok (.iload_n 2, 1)) rfl) ?_
  refine And.intro (k_if_le (pc := 91) (by decide +kernel : decode cX11_day 91 = .ok (.ifCond .le 10, 3)) (by decide)) ?_
  refine And.intro (k_aload_n (pc := 94) (by decide +kernel : decode cX11_day 94 = .ok (.aload_n 0, 1)) rfl) ?_
  refine And.intro (k_gR (pc := 95) rfl (by decide) rfl zin11 lk_X11_30 (by decide +kernel : decode cX11_day 95 = .ok (.getfield 30, 3))) ?_
  refine And.intro (k_cvV (n := 0) (pc := 98) hG (zRoom_self 8) (tag := 2) rfl ini_X2 im_X2_close se_X2_close mk_X11_160 dy_X2_close (by decide +kernel : decode cX11_day 98 = .ok (.invokevirtual 160, 3))) ?_
  refine And.intro (k_aload_n (pc := 101) (by decide +kernel : decode cX11_day 101 = .ok (.aload_n 0, 1)) rfl) ?_
  refine And.intro (k_gR (pc := 102) rfl (by decide) rfl zin11 lk_X11_44 (by decide +kernel : decode cX11_day 102 = .ok (.getfield 44, 3))) ?_
  refine And.intro (k_cvV (n := 0) (pc := 105) hG (zRoom_self 8) (tag := 4) rfl ini_X4 im_X4_clear se_X4_clear mk_X11_180 dy_X4_clear (by decide +kernel : decode cX11_day 105 = .ok (.invokevirtual 180, 3))) ?_
  refine And.intro (k_aload_n (pc := 108) (by decide +kernel : decode cX11_day 108 = .ok (.aload_n 0, 1)) rfl) ?_
  refine And.intro (k_gR (pc := 109) rfl (by decide) rfl zin11 lk_X11_44 (by decide +kernel : decode cX11_day 109 = .ok (.getfield 44, 3))) ?_
  refine And.intro (k_iload_n (pc := 112) (by decide +kernel : decode cX11_day 112 = .ok (.iload_n 3, 1)) rfl) ?_
  refine And.intro (k_aload_n (pc := 113) (by decide +kernel : decode cX11_day 113 = .ok (.aload_n 0, 1)) rfl) ?_
  refine And.intro (k_gR (pc := 114) rfl (by decide) rfl zin11 lk_X11_37 (by decide +kernel : decode cX11_day 114 = .ok (.getfield 37, 3))) ?_
  refine And.intro (k_crV (n := 0) (pc := 117) hG (zRoom_self 8) (tag := 8) rfl ini_X8 im_X8_size se_X8_size mk_X11_90 dy_X8_size (by decide +kernel : decode cX11_day 117 = .ok (.invokevirtual 90, 3))) ?_
  refine And.intro (k_icmp_ge (pc := 120) (by decide +kernel : decode cX11_day 120 = .ok (.if_icmp .ge 7, 3)) (by decide)) ?_
  refine And.intro (k_lconst (pc := 123) (by decide +kernel : decode cX11_day 123 = .ok (.lconst 1, 1)) (by decide)) ?_
  refine And.intro (k_goto (pc := 124) (by decide +kernel : decode cX11_day 124 = .ok (.goto 4, 3)) (by decide)) ?_
  refine And.intro (k_lconst (pc := 127) (by decide +kernel : decode cX11_day 127 = .ok (.lconst 0, 1)) (by decide)) ?_
  refine And.intro (k_cvV (n := 1) (pc := 128) hG (zRoom_self 8) (tag := 4) rfl ini_X4 im_X4_tell se_X4_tell mk_X11_205 dy_X4_tell (by decide +kernel : decode cX11_day 128 = .ok (.invokevirtual 205, 3))) ?_
  refine And.intro (k_aload_n (pc := 131) (by decide +kernel : decode cX11_day 131 = .ok (.aload_n 0, 1)) rfl) ?_
  refine And.intro (k_gR (pc := 132) rfl (by decide) rfl zin11 lk_X11_37 (by decide +kernel : decode cX11_day 132 = .ok (.getfield 37, 3))) ?_
  refine And.intro (k_iconst (pc := 135) (by decide +kernel : decode cX11_day 135 = .ok (.iconst 0, 1)) (by decide)) ?_
  refine And.intro (k_crV (n := 1) (pc := 136) hG (zRoom_self 8) (tag := 8) rfl ini_X8 im_X8_shorten se_X8_shorten mk_X11_98 dy_X8_shorten (by decide +kernel : decode cX11_day 136 = .ok (.invokevirtual 98, 3))) ?_
  refine And.intro (k_pop (pc := 139) (by decide +kernel : decode cX11_day 139 = .ok (.pop, 1))) ?_
  refine And.intro (k_iload_n (pc := 140) (by decide +kernel : decode cX11_day 140 = .ok (.iload_n 2, 1)) rfl) ?_
  refine And.intro (k_ireturn (pc := 141) rfl (by decide +kernel : decode cX11_day 141 = .ok (.ireturn, 1))) ?_
  exact trivial
theorem cdX11_day : Cond.code yX11_day cX11_day 5 (some .int) ∈ zWs := zWs_in 936 (by decide +kernel) rfl
noncomputable def pgX11_undo : zPg := [(0, o_al 0), (1, o_gR 11 4), (4, o_al 0), (5, o_gR 11 0), (8, o_vr2 yX2_back 2 2), (11, o_if_eq 24), (14, o_al 0), (15, o_gR 11 4), (18, o_gI 2 0), (21, o_go 25), (24, o_ic (-1)), (25, o_ir)]
set_option maxRecDepth 20000 in
theorem pkX11_undo {G : zG} (hG : zGok G) (Q : zRt) : zPOK G (zRm 4) RX11 cX11_undo 1 (some .int) (zF G Q 0 0) 0 0 (zCalls G 4) Q pgX11_undo := by
  refine And.intro (k_aload_n (pc := 0) (by decide +kernel : decode cX11_undo 0 = .ok (.aload_n 0, 1)) rfl) ?_
  refine And.intro (k_gR (pc := 1) rfl (by decide) rfl zin11 lk_X11_30 (by decide +kernel : decode cX11_undo 1 = .ok (.getfield 30, 3))) ?_
  refine And.intro (k_aload_n (pc := 4) (by decide +kernel : decode cX11_undo 4 = .ok (.aload_n 0, 1)) rfl) ?_
  refine And.intro (k_gR (pc := 5) rfl (by decide) rfl zin11 lk_X11_10 (by decide +kernel : decode cX11_undo 5 = .ok (.getfield 10, 3))) ?_
  refine And.intro (k_crV (n := 1) (pc := 8) hG (zRoom_self 4) (tag := 2) rfl ini_X2 im_X2_back se_X2_back mk_X11_357 dy_X2_back (by decide +kernel : decode cX11_undo 8 = .ok (.invokevirtual 357, 3))) ?_
  refine And.intro (k_if_eq (pc := 11) (by decide +kernel : decode cX11_undo 11 = .ok (.ifCond .eq 13, 3)) (by decide)) ?_
  refine And.intro (k_aload_n (pc := 14) (by decide +kernel : decode cX11_undo 14 = .ok (.aload_n 0, 1)) rfl) ?_
  refine And.intro (k_gR (pc := 15) rfl (by decide) rfl zin11 lk_X11_30 (by decide +kernel : decode cX11_undo 15 = .ok (.getfield 30, 3))) ?_
  refine And.intro (k_gI (pc := 18) rfl (by decide) rfl zin2 lk_X11_361 (by decide +kernel : decode cX11_undo 18 = .ok (.getfield 361, 3))) ?_
  refine And.intro (k_goto (pc := 21) (by decide +kernel : decode cX11_undo 21 = .ok (.goto 4, 3)) (by decide)) ?_
  refine And.intro (k_iconst (pc := 24) (by decide +kernel : decode cX11_undo 24 = .ok (.iconst (-1), 1)) (by decide)) ?_
  refine And.intro (k_ireturn (pc := 25) rfl (by decide +kernel : decode cX11_undo 25 = .ok (.ireturn, 1))) ?_
  exact trivial
theorem cdX11_undo : Cond.code yX11_undo cX11_undo 1 (some .int) ∈ zWs := zWs_in 964 (by decide +kernel) rfl
noncomputable def pgX11_changeByDraw : zPg := [(0, o_al 0), (1, o_gR 11 12), (4, o_ic (3)), (5, o_vr2 yX1_next 1 2), (8, o_sw [(0, 36), (1, 61)] 101), (36, o_al 0), (37, o_gR 11 12), (40, o_ic (6)), (42, o_vr2 yX1_next 1 2), (45, o_is 2), (46, o_al 1), (47, o_il 2), (48, o_al 0), (49, o_gR 11 12), (52, o_ic (51)), (54, o_vr2 yX1_next 1 2), (57, o_vr2 yX5_changeBound 5 3), (60, o_ir), (61, o_al 0), (62, o_gR 11 12), (65, o_ic (11)), (67, o_vr2 yX1_next 1 2), (70, o_ic (5)), (71, o_isub), (72, o_is 2), (73, o_al 0), (74, o_gR 11 12), (77, o_ic (11)), (79, o_vr2 yX1_next 1 2), (82, o_ic (5)), (83, o_isub), (84, o_is 3), (85, o_al 1), (86, o_il 2), (87, o_il 3), (88, o_al 0), (89, o_gR 11 12), (92, o_ic (41)), (94, o_vr2 yX1_next 1 2), (97, o_vr2 yX5_addRow 5 4), (100, o_ir), (101, o_al 1), (102, o_al 0), (103, o_gR 11 12), (106, o_ic (6)), (108, o_vr2 yX1_next 1 2), (111, o_vr2 yX5_dropRow 5 2), (114, o_ir)]
set_option maxRecDepth 20000 in
theorem pkX11_changeByDraw {G : zG} (hG : zGok G) (Q : zRt) : zPOK G (zRm 3) RX11 cX11_changeByDraw 4 (some .int) (zF G Q 0 0) 0 0 (zCalls G 3) Q pgX11_changeByDraw := by
  refine And.intro (k_aload_n (pc := 0) (by decide +kernel : decode cX11_changeByDraw 0 = .ok (.aload_n 0, 1)) rfl) ?_
  refine And.intro (k_gR (pc := 1) rfl (by decide) rfl zin11 lk_X11_85 (by decide +kernel : decode cX11_changeByDraw 1 = .ok (.getfield 85, 3))) ?_
  refine And.intro (k_iconst (pc := 4) (by decide +kernel : decode cX11_changeByDraw 4 = .ok (.iconst 3, 1)) (by decide)) ?_
  refine And.intro (k_crV (n := 1) (pc := 5) hG (zRoom_self 3) (tag := 1) rfl ini_X1 im_X1_next se_X1_next mk_X11_367 dy_X1_next (by decide +kernel : decode cX11_changeByDraw 5 = .ok (.invokevirtual 367, 3))) ?_
  refine And.intro (k_lsw (pc := 8) (by decide +kernel : decode cX11_changeByDraw 8 = .ok (.lookupswitch 93 #[(0, 28), (1, 53)], 28)) (by decide) (zlsw_hit (by decide)) (zlsw_no (by decide) (by decide))) ?_
  refine And.intro (k_aload_n (pc := 36) (by decide +kernel : decode cX11_changeByDraw 36 = .ok (.aload_n 0, 1)) rfl) ?_
  refine And.intro (k_gR (pc := 37) rfl (by decide) rfl zin11 lk_X11_85 (by decide +kernel : decode cX11_changeByDraw 37 = .ok (.getfield 85, 3))) ?_
  refine And.intro (k_bipush (pc := 40) (by decide +kernel : decode cX11_changeByDraw 40 = .ok (.bipush 6, 2)) (by decide)) ?_
  refine And.intro (k_crV (n := 1) (pc := 42) hG (zRoom_self 3) (tag := 1) rfl ini_X1 im_X1_next se_X1_next mk_X11_367 dy_X1_next (by decide +kernel : decode cX11_changeByDraw 42 = .ok (.invokevirtual 367, 3))) ?_
  refine And.intro (k_istore_n (pc := 45) (by decide +kernel : decode cX11_changeByDraw 45 = .ok (.istore_n 2, 1)) rfl) ?_
  refine And.intro (k_aload_n (pc := 46) (by decide +kernel : decode cX11_changeByDraw 46 = .ok (.aload_n 1, 1)) rfl) ?_
  refine And.intro (k_iload_n (pc := 47) (by decide +kernel : decode cX11_changeByDraw 47 = .ok (.iload_n 2, 1)) rfl) ?_
  refine And.intro (k_aload_n (pc := 48) (by decide +kernel : decode cX11_changeByDraw 48 = .ok (.aload_n 0, 1)) rfl) ?_
  refine And.intro (k_gR (pc := 49) rfl (by decide) rfl zin11 lk_X11_85 (by decide +kernel : decode cX11_changeByDraw 49 = .ok (.getfield 85, 3))) ?_
  refine And.intro (k_bipush (pc := 52) (by decide +kernel : decode cX11_changeByDraw 52 = .ok (.bipush 51, 2)) (by decide)) ?_
  refine And.intro (k_crV (n := 1) (pc := 54) hG (zRoom_self 3) (tag := 1) rfl ini_X1 im_X1_next se_X1_next mk_X11_367 dy_X1_next (by decide +kernel : decode cX11_changeByDraw 54 = .ok (.invokevirtual 367, 3))) ?_
  refine And.intro (k_crV (n := 2) (pc := 57) hG (zRoom_self 3) (tag := 5) rfl ini_X5 im_X5_changeBound se_X5_changeBound mk_X11_150 dy_X5_changeBound (by decide +kernel : decode cX11_changeByDraw 57 = .ok (.invokevirtual 150, 3))) ?_
  refine And.intro (k_ireturn (pc := 60) rfl (by decide +kernel : decode cX11_changeByDraw 60 = .ok (.ireturn, 1))) ?_
  refine And.intro (k_aload_n (pc := 61) (by decide +kernel : decode cX11_changeByDraw 61 = .ok (.aload_n 0, 1)) rfl) ?_
  refine And.intro (k_gR (pc := 62) rfl (by decide) rfl zin11 lk_X11_85 (by decide +kernel : decode cX11_changeByDraw 62 = .ok (.getfield 85, 3))) ?_
  refine And.intro (k_bipush (pc := 65) (by decide +kernel : decode cX11_changeByDraw 65 = .ok (.bipush 11, 2)) (by decide)) ?_
  refine And.intro (k_crV (n := 1) (pc := 67) hG (zRoom_self 3) (tag := 1) rfl ini_X1 im_X1_next se_X1_next mk_X11_367 dy_X1_next (by decide +kernel : decode cX11_changeByDraw 67 = .ok (.invokevirtual 367, 3))) ?_
  refine And.intro (k_iconst (pc := 70) (by decide +kernel : decode cX11_changeByDraw 70 = .ok (.iconst 5, 1)) (by decide)) ?_
  refine And.intro (k_isub (pc := 71) (by decide +kernel : decode cX11_changeByDraw 71 = .ok (.isub, 1))) ?_
  refine And.intro (k_istore_n (pc := 72) (by decide +kernel : decode cX11_changeByDraw 72 = .ok (.istore_n 2, 1)) rfl) ?_
  refine And.intro (k_aload_n (pc := 73) (by decide +kernel : decode cX11_changeByDraw 73 = .ok (.aload_n 0, 1)) rfl) ?_
  refine And.intro (k_gR (pc := 74) rfl (by decide) rfl zin11 lk_X11_85 (by decide +kernel : decode cX11_changeByDraw 74 = .ok (.getfield 85, 3))) ?_
  refine And.intro (k_bipush (pc := 77) (by decide +kernel : decode cX11_changeByDraw 77 = .ok (.bipush 11, 2)) (by decide)) ?_
  refine And.intro (k_crV (n := 1) (pc := 79) hG (zRoom_self 3) (tag := 1) rfl ini_X1 im_X1_next se_X1_next mk_X11_367 dy_X1_next (by decide +kernel : decode cX11_changeByDraw 79 = .ok (.invokevirtual 367, 3))) ?_
  refine And.intro (k_iconst (pc := 82) (by decide +kernel : decode cX11_changeByDraw 82 = .ok (.iconst 5, 1)) (by decide)) ?_
  refine And.intro (k_isub (pc := 83) (by decide +kernel : decode cX11_changeByDraw 83 = .ok (.isub, 1))) ?_
  refine And.intro (k_istore_n (pc := 84) (by decide +kernel : decode cX11_changeByDraw 84 = .ok (.istore_n 3, 1)) rfl) ?_
  refine And.intro (k_aload_n (pc := 85) (by decide +kernel : decode cX11_changeByDraw 85 = .ok (.aload_n 1, 1)) rfl) ?_
  refine And.intro (k_iload_n (pc := 86) (by decide +kernel : decode cX11_changeByDraw 86 = .ok (.iload_n 2, 1)) rfl) ?_
  refine And.intro (k_iload_n (pc := 87) (by decide +kernel : decode cX11_changeByDraw 87 = .ok (.iload_n 3, 1)) rfl) ?_
  refine And.intro (k_aload_n (pc := 88) (by decide +kernel : decode cX11_changeByDraw 88 = .ok (.aload_n 0, 1)) rfl) ?_
  refine And.intro (k_gR (pc := 89) rfl (by decide) rfl zin11 lk_X11_85 (by decide +kernel : decode cX11_changeByDraw 89 = .ok (.getfield 85, 3))) ?_
  refine And.intro (k_bipush (pc := 92) (by decide +kernel : decode cX11_changeByDraw 92 = .ok (.bipush 41, 2)) (by decide)) ?_
  refine And.intro (k_crV (n := 1) (pc := 94) hG (zRoom_self 3) (tag := 1) rfl ini_X1 im_X1_next se_X1_next mk_X11_367 dy_X1_next (by decide +kernel : decode cX11_changeByDraw 94 = .ok (.invokevirtual 367, 3))) ?_
  refine And.intro (k_crV (n := 3) (pc := 97) hG (zRoom_self 3) (tag := 5) rfl ini_X5 im_X5_addRow se_X5_addRow mk_X11_153 dy_X5_addRow (by decide +kernel : decode cX11_changeByDraw 97 = .ok (.invokevirtual 153, 3))) ?_
  refine And.intro (k_ireturn (pc := 100) rfl (by decide +kernel : decode cX11_changeByDraw 100 = .ok (.ireturn, 1))) ?_
  refine And.intro (k_aload_n (pc := 101) (by decide +kernel : decode cX11_changeByDraw 101 = .ok (.aload_n 1, 1)) rfl) ?_
  refine And.intro (k_aload_n (pc := 102) (by decide +kernel : decode cX11_changeByDraw 102 = .ok (.aload_n 0, 1)) rfl) ?_
  refine And.intro (k_gR (pc := 103) rfl (by decide) rfl zin11 lk_X11_85 (by decide +kernel : decode cX11_changeByDraw 103 = .ok (.getfield 85, 3))) ?_
  refine And.intro (k_bipush (pc := 106) (by decide +kernel : decode cX11_changeByDraw 106 = .ok (.bipush 6, 2)) (by decide)) ?_
  refine And.intro (k_crV (n := 1) (pc := 108) hG (zRoom_self 3) (tag := 1) rfl ini_X1 im_X1_next se_X1_next mk_X11_367 dy_X1_next (by decide +kernel : decode cX11_changeByDraw 108 = .ok (.invokevirtual 367, 3))) ?_
  refine And.intro (k_crV (n := 1) (pc := 111) hG (zRoom_self 3) (tag := 5) rfl ini_X5 im_X5_dropRow se_X5_dropRow mk_X11_157 dy_X5_dropRow (by decide +kernel : decode cX11_changeByDraw 111 = .ok (.invokevirtual 157, 3))) ?_
  refine And.intro (k_ireturn (pc := 114) rfl (by decide +kernel : decode cX11_changeByDraw 114 = .ok (.ireturn, 1))) ?_
  exact trivial
theorem cdX11_changeByDraw : Cond.code yX11_changeByDraw cX11_changeByDraw 4 (some .int) ∈ zWs := zWs_in 980 (by decide +kernel) rfl
noncomputable def pgX11_years : zPg := [(0, o_il 2), (1, o_ic (1)), (2, o_ic_lt 11), (5, o_il 2), (6, o_ic (20)), (8, o_ic_le 13), (11, o_ic (-1)), (12, o_ir), (13, o_al 0), (14, o_gR 11 1), (17, o_al 0), (18, o_gR 11 0), (21, o_vv yX5_copyRows 5 2), (24, o_al 0), (25, o_gR 11 12), (28, o_il 1), (29, o_vv yX1_start 1 2), (32, o_ic (0)), (33, o_is 3), (34, o_ic (0)), (35, o_is 4), (37, o_il 4), (39, o_il 2), (40, o_ic_ge 63), (43, o_al 0), (44, o_al 0), (45, o_gR 11 1), (48, o_vr2 yX11_changeByDraw 11 2), (51, o_if_lt 57), (54, o_inc 3 (1)), (57, o_inc 4 (1)), (60, o_go 37), (63, o_al 0), (64, o_gR 11 9), (67, o_al 0), (68, o_gR 11 1), (71, o_ic (-1)), (72, o_vv yX10_gather 10 3), (75, o_al 0), (76, o_gR 11 6), (79, o_vv yX4_clear 4 1), (82, o_al 0), (83, o_gR 11 6), (86, o_al 0), (87, o_gR 11 1), (90, o_gI 5 0), (93, o_i2l), (94, o_vv yX4_tell 4 2), (97, o_al 0), (98, o_gR 11 6), (101, o_il 3), (102, o_i2l), (103, o_vv yX4_tell 4 2), (106, o_al 0), (107, o_gR 11 9), (110, o_gI 10 0), (113, o_ir)]
set_option maxRecDepth 20000 in
theorem pkX11_years {G : zG} (hG : zGok G) (Q : zRt) : zPOK G (zRm 4) RX11 cX11_years 5 (some .int) (zF G Q 0 0) 0 0 (zCalls G 4) Q pgX11_years := by
  refine And.intro (k_iload_n (pc := 0) (by decide +kernel : decode cX11_years 0 = .ok (.iload_n 2, 1)) rfl) ?_
  refine And.intro (k_iconst (pc := 1) (by decide +kernel : decode cX11_years 1 = .ok (.iconst 1, 1)) (by decide)) ?_
  refine And.intro (k_icmp_lt (pc := 2) (by decide +kernel : decode cX11_years 2 = .ok (.if_icmp .lt 9, 3)) (by decide)) ?_
  refine And.intro (k_iload_n (pc := 5) (by decide +kernel : decode cX11_years 5 = .ok (.iload_n 2, 1)) rfl) ?_
  refine And.intro (k_bipush (pc := 6) (by decide +kernel : decode cX11_years 6 = .ok (.bipush 20, 2)) (by decide)) ?_
  refine And.intro (k_icmp_le (pc := 8) (by decide +kernel : decode cX11_years 8 = .ok (.if_icmp .le 5, 3)) (by decide)) ?_
  refine And.intro (k_iconst (pc := 11) (by decide +kernel : decode cX11_years 11 = .ok (.iconst (-1), 1)) (by decide)) ?_
  refine And.intro (k_ireturn (pc := 12) rfl (by decide +kernel : decode cX11_years 12 = .ok (.ireturn, 1))) ?_
  refine And.intro (k_aload_n (pc := 13) (by decide +kernel : decode cX11_years 13 = .ok (.aload_n 0, 1)) rfl) ?_
  refine And.intro (k_gR (pc := 14) rfl (by decide) rfl zin11 lk_X11_16 (by decide +kernel : decode cX11_years 14 = .ok (.getfield 16, 3))) ?_
  refine And.intro (k_aload_n (pc := 17) (by decide +kernel : decode cX11_years 17 = .ok (.aload_n 0, 1)) rfl) ?_
  refine And.intro (k_gR (pc := 18) rfl (by decide) rfl zin11 lk_X11_10 (by decide +kernel : decode cX11_years 18 = .ok (.getfield 10, 3))) ?_
  refine And.intro (k_cvV (n := 1) (pc := 21) hG (zRoom_self 4) (tag := 5) rfl ini_X5 im_X5_copyRows se_X5_copyRows mk_X11_113 dy_X5_copyRows (by decide +kernel : decode cX11_years 21 = .ok (.invokevirtual 113, 3))) ?_
  refine And.intro (k_aload_n (pc := 24) (by decide +kernel : decode cX11_years 24 = .ok (.aload_n 0, 1)) rfl) ?_
  refine And.intro (k_gR (pc := 25) rfl (by decide) rfl zin11 lk_X11_85 (by decide +kernel : decode cX11_years 25 = .ok (.getfield 85, 3))) ?_
  refine And.intro (k_iload_n (pc := 28) (by decide +kernel : decode cX11_years 28 = .ok (.iload_n 1, 1)) rfl) ?_
  refine And.intro (k_cvV (n := 1) (pc := 29) hG (zRoom_self 4) (tag := 1) rfl ini_X1 im_X1_start se_X1_start mk_X11_362 dy_X1_start (by decide +kernel : decode cX11_years 29 = .ok (.invokevirtual 362, 3))) ?_
  refine And.intro (k_iconst (pc := 32) (by decide +kernel : decode cX11_years 32 = .ok (.iconst 0, 1)) (by decide)) ?_
  refine And.intro (k_istore_n (pc := 33) (by decide +kernel : decode cX11_years 33 = .ok (.istore_n 3, 1)) rfl) ?_
  refine And.intro (k_iconst (pc := 34) (by decide +kernel : decode cX11_years 34 = .ok (.iconst 0, 1)) (by decide)) ?_
  refine And.intro (k_istore (pc := 35) (by decide +kernel : decode cX11_years 35 = .ok (.istore 4, 2))) ?_
  refine And.intro (k_iload (pc := 37) (by decide +kernel : decode cX11_years 37 = .ok (.iload 4, 2))) ?_
  refine And.intro (k_iload_n (pc := 39) (by decide +kernel : decode cX11_years 39 = .ok (.iload_n 2, 1)) rfl) ?_
  refine And.intro (k_icmp_ge (pc := 40) (by decide +kernel : decode cX11_years 40 = .ok (.if_icmp .ge 23, 3)) (by decide)) ?_
  refine And.intro (k_aload_n (pc := 43) (by decide +kernel : decode cX11_years 43 = .ok (.aload_n 0, 1)) rfl) ?_
  refine And.intro (k_aload_n (pc := 44) (by decide +kernel : decode cX11_years 44 = .ok (.aload_n 0, 1)) rfl) ?_
  refine And.intro (k_gR (pc := 45) rfl (by decide) rfl zin11 lk_X11_16 (by decide +kernel : decode cX11_years 45 = .ok (.getfield 16, 3))) ?_
  refine And.intro (k_crV (n := 1) (pc := 48) hG (zRoom_self 4) (tag := 11) rfl ini_X11 im_X11_changeByDraw se_X11_changeByDraw mk_X11_364 dy_X11_changeByDraw (by decide +kernel : decode cX11_years 48 = .ok (.invokevirtual 364, 3))) ?_
  refine And.intro (k_if_lt (pc := 51) (by decide +kernel : decode cX11_years 51 = .ok (.ifCond .lt 6, 3)) (by decide)) ?_
  refine And.intro (k_iinc (pc := 54) (by decide +kernel : decode cX11_years 54 = .ok (.iinc 3 1, 3)) (by decide)) ?_
  refine And.intro (k_iinc (pc := 57) (by decide +kernel : decode cX11_years 57 = .ok (.iinc 4 1, 3)) (by decide)) ?_
  refine And.intro (k_goto (pc := 60) (by decide +kernel : decode cX11_years 60 = .ok (.goto (-23), 3)) (by decide)) ?_
  refine And.intro (k_aload_n (pc := 63) (by decide +kernel : decode cX11_years 63 = .ok (.aload_n 0, 1)) rfl) ?_
  refine And.intro (k_gR (pc := 64) rfl (by decide) rfl zin11 lk_X11_65 (by decide +kernel : decode cX11_years 64 = .ok (.getfield 65, 3))) ?_
  refine And.intro (k_aload_n (pc := 67) (by decide +kernel : decode cX11_years 67 = .ok (.aload_n 0, 1)) rfl) ?_
  refine And.intro (k_gR (pc := 68) rfl (by decide) rfl zin11 lk_X11_16 (by decide +kernel : decode cX11_years 68 = .ok (.getfield 16, 3))) ?_
  refine And.intro (k_iconst (pc := 71) (by decide +kernel : decode cX11_years 71 = .ok (.iconst (-1), 1)) (by decide)) ?_
  refine And.intro (k_cvV (n := 2) (pc := 72) hG (zRoom_self 4) (tag := 10) rfl ini_X10 im_X10_gather se_X10_gather mk_X11_254 dy_X10_gather (by decide +kernel : decode cX11_years 72 = .ok (.invokevirtual 254, 3))) ?_
  refine And.intro (k_aload_n (pc := 75) (by decide +kernel : decode cX11_years 75 = .ok (.aload_n 0, 1)) rfl) ?_
  refine And.intro (k_gR (pc := 76) rfl (by decide) rfl zin11 lk_X11_44 (by decide +kernel : decode cX11_years 76 = .ok (.getfield 44, 3))) ?_
  refine And.intro (k_cvV (n := 0) (pc := 79) hG (zRoom_self 4) (tag := 4) rfl ini_X4 im_X4_clear se_X4_clear mk_X11_180 dy_X4_clear (by decide +kernel : decode cX11_years 79 = .ok (.invokevirtual 180, 3))) ?_
  refine And.intro (k_aload_n (pc := 82) (by decide +kernel : decode cX11_years 82 = .ok (.aload_n 0, 1)) rfl) ?_
  refine And.intro (k_gR (pc := 83) rfl (by decide) rfl zin11 lk_X11_44 (by decide +kernel : decode cX11_years 83 = .ok (.getfield 44, 3))) ?_
  refine And.intro (k_aload_n (pc := 86) (by decide +kernel : decode cX11_years 86 = .ok (.aload_n 0, 1)) rfl) ?_
  refine And.intro (k_gR (pc := 87) rfl (by decide) rfl zin11 lk_X11_16 (by decide +kernel : decode cX11_years 87 = .ok (.getfield 16, 3))) ?_
  refine And.intro (k_gI (pc := 90) rfl (by decide) rfl zin5 lk_X11_116 (by decide +kernel : decode cX11_years 90 = .ok (.getfield 116, 3))) ?_
  refine And.intro (k_i2l (pc := 93) (by decide +kernel : decode cX11_years 93 = .ok (.i2l, 1))) ?_
  refine And.intro (k_cvV (n := 1) (pc := 94) hG (zRoom_self 4) (tag := 4) rfl ini_X4 im_X4_tell se_X4_tell mk_X11_205 dy_X4_tell (by decide +kernel : decode cX11_years 94 = .ok (.invokevirtual 205, 3))) ?_
  refine And.intro (k_aload_n (pc := 97) (by decide +kernel : decode cX11_years 97 = .ok (.aload_n 0, 1)) rfl) ?_
  refine And.intro (k_gR (pc := 98) rfl (by decide) rfl zin11 lk_X11_44 (by decide +kernel : decode cX11_years 98 = .ok (.getfield 44, 3))) ?_
  refine And.intro (k_iload_n (pc := 101) (by decide +kernel : decode cX11_years 101 = .ok (.iload_n 3, 1)) rfl) ?_
  refine And.intro (k_i2l (pc := 102) (by decide +kernel : decode cX11_years 102 = .ok (.i2l, 1))) ?_
  refine And.intro (k_cvV (n := 1) (pc := 103) hG (zRoom_self 4) (tag := 4) rfl ini_X4 im_X4_tell se_X4_tell mk_X11_205 dy_X4_tell (by decide +kernel : decode cX11_years 103 = .ok (.invokevirtual 205, 3))) ?_
  refine And.intro (k_aload_n (pc := 106) (by decide +kernel : decode cX11_years 106 = .ok (.aload_n 0, 1)) rfl) ?_
  refine And.intro (k_gR (pc := 107) rfl (by decide) rfl zin11 lk_X11_65 (by decide +kernel : decode cX11_years 107 = .ok (.getfield 65, 3))) ?_
  refine And.intro (k_gI (pc := 110) rfl (by decide) rfl zin10 lk_X11_275 (by decide +kernel : decode cX11_years 110 = .ok (.getfield 275, 3))) ?_
  refine And.intro (k_ireturn (pc := 113) rfl (by decide +kernel : decode cX11_years 113 = .ok (.ireturn, 1))) ?_
  exact trivial
theorem cdX11_years : Cond.code yX11_years cX11_years 5 (some .int) ∈ zWs := zWs_in 972 (by decide +kernel) rfl
noncomputable def pgX11_keep : zPg := [(0, o_il 1), (1, o_if_lt 9), (4, o_il 1), (5, o_ic (2)), (6, o_ic_lt 11), (9, o_ic (0)), (10, o_zr), (11, o_al 0), (12, o_gR 11 2), (15, o_il 1), (16, o_xR 18), (17, o_al 0), (18, o_gR 11 0), (21, o_vv yX5_copy 5 2), (24, o_al 0), (25, o_gR 11 3), (28, o_il 1), (29, o_ic (1)), (30, o_yZ), (31, o_ic (1)), (32, o_zr)]
set_option maxRecDepth 20000 in
theorem pkX11_keep {G : zG} (hG : zGok G) (Q : zRt) : zPOK G (zRm 3) RX11 cX11_keep 2 (some .boolean) (zF G Q 0 0) 0 0 (zCalls G 3) Q pgX11_keep := by
  refine And.intro (k_iload_n (pc := 0) (by decide +kernel : decode cX11_keep 0 = .ok (.iload_n 1, 1)) rfl) ?_
  refine And.intro (k_if_lt (pc := 1) (by decide +kernel : decode cX11_keep 1 = .ok (.ifCond .lt 8, 3)) (by decide)) ?_
  refine And.intro (k_iload_n (pc := 4) (by decide +kernel : decode cX11_keep 4 = .ok (.iload_n 1, 1)) rfl) ?_
  refine And.intro (k_iconst (pc := 5) (by decide +kernel : decode cX11_keep 5 = .ok (.iconst 2, 1)) (by decide)) ?_
  refine And.intro (k_icmp_lt (pc := 6) (by decide +kernel : decode cX11_keep 6 = .ok (.if_icmp .lt 5, 3)) (by decide)) ?_
  refine And.intro (k_iconst (pc := 9) (by decide +kernel : decode cX11_keep 9 = .ok (.iconst 0, 1)) (by decide)) ?_
  refine And.intro (k_zreturn (pc := 10) rfl (by decide +kernel : decode cX11_keep 10 = .ok (.ireturn, 1))) ?_
  refine And.intro (k_aload_n (pc := 11) (by decide +kernel : decode cX11_keep 11 = .ok (.aload_n 0, 1)) rfl) ?_
  refine And.intro (k_gR (pc := 12) rfl (by decide) rfl zin11 lk_X11_19 (by decide +kernel : decode cX11_keep 12 = .ok (.getfield 19, 3))) ?_
  refine And.intro (k_iload_n (pc := 15) (by decide +kernel : decode cX11_keep 15 = .ok (.iload_n 1, 1)) rfl) ?_
  refine And.intro (k_aald18 (pc := 16) (by decide +kernel : decode cX11_keep 16 = .ok (.aaload, 1))) ?_
  refine And.intro (k_aload_n (pc := 17) (by decide +kernel : decode cX11_keep 17 = .ok (.aload_n 0, 1)) rfl) ?_
  refine And.intro (k_gR (pc := 18) rfl (by decide) rfl zin11 lk_X11_10 (by decide +kernel : decode cX11_keep 18 = .ok (.getfield 10, 3))) ?_
  refine And.intro (k_cvV (n := 1) (pc := 21) hG (zRoom_self 3) (tag := 5) rfl ini_X5 im_X5_copy se_X5_copy mk_X11_370 dy_X5_copy (by decide +kernel : decode cX11_keep 21 = .ok (.invokevirtual 370, 3))) ?_
  refine And.intro (k_aload_n (pc := 24) (by decide +kernel : decode cX11_keep 24 = .ok (.aload_n 0, 1)) rfl) ?_
  refine And.intro (k_gR (pc := 25) rfl (by decide) rfl zin11 lk_X11_23 (by decide +kernel : decode cX11_keep 25 = .ok (.getfield 23, 3))) ?_
  refine And.intro (k_iload_n (pc := 28) (by decide +kernel : decode cX11_keep 28 = .ok (.iload_n 1, 1)) rfl) ?_
  refine And.intro (k_iconst (pc := 29) (by decide +kernel : decode cX11_keep 29 = .ok (.iconst 1, 1)) (by decide)) ?_
  refine And.intro (k_zast (pc := 30) (by decide +kernel : decode cX11_keep 30 = .ok (.bastore, 1))) ?_
  refine And.intro (k_iconst (pc := 31) (by decide +kernel : decode cX11_keep 31 = .ok (.iconst 1, 1)) (by decide)) ?_
  refine And.intro (k_zreturn (pc := 32) rfl (by decide +kernel : decode cX11_keep 32 = .ok (.ireturn, 1))) ?_
  exact trivial
theorem cdX11_keep : Cond.code yX11_keep cX11_keep 2 (some .boolean) ∈ zWs := zWs_in 989 (by decide +kernel) rfl
noncomputable def pgX11_again : zPg := [(0, o_il 1), (1, o_if_lt 18), (4, o_il 1), (5, o_ic (2)), (6, o_ic_ge 18), (9, o_al 0), (10, o_gR 11 3), (13, o_il 1), (14, o_xI 16), (15, o_if_ne 20), (18, o_ic (0)), (19, o_zr), (20, o_al 0), (21, o_gR 11 0), (24, o_al 0), (25, o_gR 11 2), (28, o_il 1), (29, o_xR 18), (30, o_vv yX5_copy 5 2), (33, o_al 0), (34, o_gR 11 4), (37, o_vv yX2_forget 2 1), (40, o_ic (1)), (41, o_zr)]
set_option maxRecDepth 20000 in
theorem pkX11_again {G : zG} (hG : zGok G) (Q : zRt) : zPOK G (zRm 3) RX11 cX11_again 2 (some .boolean) (zF G Q 0 0) 0 0 (zCalls G 3) Q pgX11_again := by
  refine And.intro (k_iload_n (pc := 0) (by decide +kernel : decode cX11_again 0 = .ok (.iload_n 1, 1)) rfl) ?_
  refine And.intro (k_if_lt (pc := 1) (by decide +kernel : decode cX11_again 1 = .ok (.ifCond .lt 17, 3)) (by decide)) ?_
  refine And.intro (k_iload_n (pc := 4) (by decide +kernel : decode cX11_again 4 = .ok (.iload_n 1, 1)) rfl) ?_
  refine And.intro (k_iconst (pc := 5) (by decide +kernel : decode cX11_again 5 = .ok (.iconst 2, 1)) (by decide)) ?_
  refine And.intro (k_icmp_ge (pc := 6) (by decide +kernel : decode cX11_again 6 = .ok (.if_icmp .ge 12, 3)) (by decide)) ?_
  refine And.intro (k_aload_n (pc := 9) (by decide +kernel : decode cX11_again 9 = .ok (.aload_n 0, 1)) rfl) ?_
  refine And.intro (k_gR (pc := 10) rfl (by decide) rfl zin11 lk_X11_23 (by decide +kernel : decode cX11_again 10 = .ok (.getfield 23, 3))) ?_
  refine And.intro (k_iload_n (pc := 13) (by decide +kernel : decode cX11_again 13 = .ok (.iload_n 1, 1)) rfl) ?_
  refine And.intro (k_zald (pc := 14) (by decide +kernel : decode cX11_again 14 = .ok (.baload, 1))) ?_
  refine And.intro (k_if_ne (pc := 15) (by decide +kernel : decode cX11_again 15 = .ok (.ifCond .ne 5, 3)) (by decide)) ?_
  refine And.intro (k_iconst (pc := 18) (by decide +kernel : decode cX11_again 18 = .ok (.iconst 0, 1)) (by decide)) ?_
  refine And.intro (k_zreturn (pc := 19) rfl (by decide +kernel : decode cX11_again 19 = .ok (.ireturn, 1))) ?_
  refine And.intro (k_aload_n (pc := 20) (by decide +kernel : decode cX11_again 20 = .ok (.aload_n 0, 1)) rfl) ?_
  refine And.intro (k_gR (pc := 21) rfl (by decide) rfl zin11 lk_X11_10 (by decide +kernel : decode cX11_again 21 = .ok (.getfield 10, 3))) ?_
  refine And.intro (k_aload_n (pc := 24) (by decide +kernel : decode cX11_again 24 = .ok (.aload_n 0, 1)) rfl) ?_
  refine And.intro (k_gR (pc := 25) rfl (by decide) rfl zin11 lk_X11_19 (by decide +kernel : decode cX11_again 25 = .ok (.getfield 19, 3))) ?_
  refine And.intro (k_iload_n (pc := 28) (by decide +kernel : decode cX11_again 28 = .ok (.iload_n 1, 1)) rfl) ?_
  refine And.intro (k_aald18 (pc := 29) (by decide +kernel : decode cX11_again 29 = .ok (.aaload, 1))) ?_
  refine And.intro (k_cvV (n := 1) (pc := 30) hG (zRoom_self 3) (tag := 5) rfl ini_X5 im_X5_copy se_X5_copy mk_X11_370 dy_X5_copy (by decide +kernel : decode cX11_again 30 = .ok (.invokevirtual 370, 3))) ?_
  refine And.intro (k_aload_n (pc := 33) (by decide +kernel : decode cX11_again 33 = .ok (.aload_n 0, 1)) rfl) ?_
  refine And.intro (k_gR (pc := 34) rfl (by decide) rfl zin11 lk_X11_30 (by decide +kernel : decode cX11_again 34 = .ok (.getfield 30, 3))) ?_
  refine And.intro (k_cvV (n := 0) (pc := 37) hG (zRoom_self 3) (tag := 2) rfl ini_X2 im_X2_forget se_X2_forget mk_X11_373 dy_X2_forget (by decide +kernel : decode cX11_again 37 = .ok (.invokevirtual 373, 3))) ?_
  refine And.intro (k_iconst (pc := 40) (by decide +kernel : decode cX11_again 40 = .ok (.iconst 1, 1)) (by decide)) ?_
  refine And.intro (k_zreturn (pc := 41) rfl (by decide +kernel : decode cX11_again 41 = .ok (.ireturn, 1))) ?_
  exact trivial
theorem cdX11_again : Cond.code yX11_again cX11_again 2 (some .boolean) ∈ zWs := zWs_in 994 (by decide +kernel) rfl
noncomputable def pgX11_count : zPg := [(0, o_il 1), (1, o_sw [(0, 44), (1, 52), (2, 60), (3, 68), (4, 76), (5, 84), (6, 92)] 116), (44, o_al 0), (45, o_gR 11 0), (48, o_gI 5 0), (51, o_ir), (52, o_al 0), (53, o_gR 11 0), (56, o_gI 5 1), (59, o_ir), (60, o_al 0), (61, o_gR 11 0), (64, o_vr2 yX5_checkedCuts 5 1), (67, o_ir), (68, o_al 0), (69, o_gR 11 4), (72, o_gI 2 0), (75, o_ir), (76, o_al 0), (77, o_gR 11 6), (80, o_gI 4 0), (83, o_ir), (84, o_al 0), (85, o_gR 11 5), (88, o_vr2 yX8_size 8 1), (91, o_ir), (92, o_al 0), (93, o_gR 11 9), (96, o_al 0), (97, o_gR 11 0), (100, o_ic (-1)), (101, o_vv yX10_gather 10 3), (104, o_al 0), (105, o_gR 11 9), (108, o_al 0), (109, o_gR 11 0), (112, o_vr2 yX10_cutOff 10 2), (115, o_ir), (116, o_ic (-1)), (117, o_ir)]
set_option maxRecDepth 20000 in
theorem pkX11_count {G : zG} (hG : zGok G) (Q : zRt) : zPOK G (zRm 5) RX11 cX11_count 2 (some .int) (zF G Q 0 0) 0 0 (zCalls G 5) Q pgX11_count := by
  refine And.intro (k_iload_n (pc := 0) (by decide +kernel : decode cX11_count 0 = .ok (.iload_n 1, 1)) rfl) ?_
  refine And.intro (k_tsw (pc := 1) (by decide +kernel : decode cX11_count 1 = .ok (.tableswitch 115 0 6 #[43, 51, 59, 67, 75, 83, 91], 43)) (ztsw_hit (by decide)) (ztsw_no (by decide)) (by decide)) ?_
  refine And.intro (k_aload_n (pc := 44) (by decide +kernel : decode cX11_count 44 = .ok (.aload_n 0, 1)) rfl) ?_
  refine And.intro (k_gR (pc := 45) rfl (by decide) rfl zin11 lk_X11_10 (by decide +kernel : decode cX11_count 45 = .ok (.getfield 10, 3))) ?_
  refine And.intro (k_gI (pc := 48) rfl (by decide) rfl zin5 lk_X11_116 (by decide +kernel : decode cX11_count 48 = .ok (.getfield 116, 3))) ?_
  refine And.intro (k_ireturn (pc := 51) rfl (by decide +kernel : decode cX11_count 51 = .ok (.ireturn, 1))) ?_
  refine And.intro (k_aload_n (pc := 52) (by decide +kernel : decode cX11_count 52 = .ok (.aload_n 0, 1)) rfl) ?_
  refine And.intro (k_gR (pc := 53) rfl (by decide) rfl zin11 lk_X11_10 (by decide +kernel : decode cX11_count 53 = .ok (.getfield 10, 3))) ?_
  refine And.intro (k_gI (pc := 56) rfl (by decide) rfl zin5 lk_X11_264 (by decide +kernel : decode cX11_count 56 = .ok (.getfield 264, 3))) ?_
  refine And.intro (k_ireturn (pc := 59) rfl (by decide +kernel : decode cX11_count 59 = .ok (.ireturn, 1))) ?_
  refine And.intro (k_aload_n (pc := 60) (by decide +kernel : decode cX11_count 60 = .ok (.aload_n 0, 1)) rfl) ?_
  refine And.intro (k_gR (pc := 61) rfl (by decide) rfl zin11 lk_X11_10 (by decide +kernel : decode cX11_count 61 = .ok (.getfield 10, 3))) ?_
  refine And.intro (k_crV (n := 0) (pc := 64) hG (zRoom_self 5) (tag := 5) rfl ini_X5 im_X5_checkedCuts se_X5_checkedCuts mk_X11_376 dy_X5_checkedCuts (by decide +kernel : decode cX11_count 64 = .ok (.invokevirtual 376, 3))) ?_
  refine And.intro (k_ireturn (pc := 67) rfl (by decide +kernel : decode cX11_count 67 = .ok (.ireturn, 1))) ?_
  refine And.intro (k_aload_n (pc := 68) (by decide +kernel : decode cX11_count 68 = .ok (.aload_n 0, 1)) rfl) ?_
  refine And.intro (k_gR (pc := 69) rfl (by decide) rfl zin11 lk_X11_30 (by decide +kernel : decode cX11_count 69 = .ok (.getfield 30, 3))) ?_
  refine And.intro (k_gI (pc := 72) rfl (by decide) rfl zin2 lk_X11_361 (by decide +kernel : decode cX11_count 72 = .ok (.getfield 361, 3))) ?_
  refine And.intro (k_ireturn (pc := 75) rfl (by decide +kernel : decode cX11_count 75 = .ok (.ireturn, 1))) ?_
  refine And.intro (k_aload_n (pc := 76) (by decide +kernel : decode cX11_count 76 = .ok (.aload_n 0, 1)) rfl) ?_
  refine And.intro (k_gR (pc := 77) rfl (by decide) rfl zin11 lk_X11_44 (by decide +kernel : decode cX11_count 77 = .ok (.getfield 44, 3))) ?_
  refine And.intro (k_gI (pc := 80) rfl (by decide) rfl zin4 lk_X11_379 (by decide +kernel : decode cX11_count 80 = .ok (.getfield 379, 3))) ?_
  refine And.intro (k_ireturn (pc := 83) rfl (by decide +kernel : decode cX11_count 83 = .ok (.ireturn, 1))) ?_
  refine And.intro (k_aload_n (pc := 84) (by decide +kernel : decode cX11_count 84 = .ok (.aload_n 0, 1)) rfl) ?_
  refine And.intro (k_gR (pc := 85) rfl (by decide) rfl zin11 lk_X11_37 (by decide +kernel : decode cX11_count 85 = .ok (.getfield 37, 3))) ?_
  refine And.intro (k_crV (n := 0) (pc := 88) hG (zRoom_self 5) (tag := 8) rfl ini_X8 im_X8_size se_X8_size mk_X11_90 dy_X8_size (by decide +kernel : decode cX11_count 88 = .ok (.invokevirtual 90, 3))) ?_
  refine And.intro (k_ireturn (pc := 91) rfl (by decide +kernel : decode cX11_count 91 = .ok (.ireturn, 1))) ?_
  refine And.intro (k_aload_n (pc := 92) (by decide +kernel : decode cX11_count 92 = .ok (.aload_n 0, 1)) rfl) ?_
  refine And.intro (k_gR (pc := 93) rfl (by decide) rfl zin11 lk_X11_65 (by decide +kernel : decode cX11_count 93 = .ok (.getfield 65, 3))) ?_
  refine And.intro (k_aload_n (pc := 96) (by decide +kernel : decode cX11_count 96 = .ok (.aload_n 0, 1)) rfl) ?_
  refine And.intro (k_gR (pc := 97) rfl (by decide) rfl zin11 lk_X11_10 (by decide +kernel : decode cX11_count 97 = .ok (.getfield 10, 3))) ?_
  refine And.intro (k_iconst (pc := 100) (by decide +kernel : decode cX11_count 100 = .ok (.iconst (-1), 1)) (by decide)) ?_
  refine And.intro (k_cvV (n := 2) (pc := 101) hG (zRoom_self 5) (tag := 10) rfl ini_X10 im_X10_gather se_X10_gather mk_X11_254 dy_X10_gather (by decide +kernel : decode cX11_count 101 = .ok (.invokevirtual 254, 3))) ?_
  refine And.intro (k_aload_n (pc := 104) (by decide +kernel : decode cX11_count 104 = .ok (.aload_n 0, 1)) rfl) ?_
  refine And.intro (k_gR (pc := 105) rfl (by decide) rfl zin11 lk_X11_65 (by decide +kernel : decode cX11_count 105 = .ok (.getfield 65, 3))) ?_
  refine And.intro (k_aload_n (pc := 108) (by decide +kernel : decode cX11_count 108 = .ok (.aload_n 0, 1)) rfl) ?_
  refine And.intro (k_gR (pc := 109) rfl (by decide) rfl zin11 lk_X11_10 (by decide +kernel : decode cX11_count 109 = .ok (.getfield 10, 3))) ?_
  refine And.intro (k_crV (n := 1) (pc := 112) hG (zRoom_self 5) (tag := 10) rfl ini_X10 im_X10_cutOff se_X10_cutOff mk_X11_380 dy_X10_cutOff (by decide +kernel : decode cX11_count 112 = .ok (.invokevirtual 380, 3))) ?_
  refine And.intro (k_ireturn (pc := 115) rfl (by decide +kernel : decode cX11_count 115 = .ok (.ireturn, 1))) ?_
  refine And.intro (k_iconst (pc := 116) (by decide +kernel : decode cX11_count 116 = .ok (.iconst (-1), 1)) (by decide)) ?_
  refine And.intro (k_ireturn (pc := 117) rfl (by decide +kernel : decode cX11_count 117 = .ok (.ireturn, 1))) ?_
  exact trivial
theorem cdX11_count : Cond.code yX11_count cX11_count 2 (some .int) ∈ zWs := zWs_in 1002 (by decide +kernel) rfl
