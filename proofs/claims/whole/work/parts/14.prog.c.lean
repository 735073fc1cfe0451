noncomputable def pgX12_thrown : zPg := [(0, o_al 0), (1, o_gI 12 5), (4, o_ir)]
set_option maxRecDepth 20000 in
theorem pkX12_thrown {G : zG} (hG : zGok G) (Q : zRt) : zPOK G (zRm 0) RX12 cX12_thrown 1 (some .int) (zF G Q 0 0) 0 0 (zCalls G 0) Q pgX12_thrown := by
  refine And.intro (k_aload_n (pc := 0) (by decide +kernel : decode cX12_thrown 0 = .ok (.aload_n 0, 1)) rfl) ?_
  refine And.intro (k_gI (pc := 1) rfl (by decide) rfl zin12 lk_X12_55 (by decide +kernel : decode cX12_thrown 1 = .ok (.getfield 55, 3))) ?_
  refine And.intro (k_ireturn (pc := 4) rfl (by decide +kernel : decode cX12_thrown 4 = .ok (.ireturn, 1))) ?_
  exact trivial
theorem cdX12_thrown : Cond.code yX12_thrown cX12_thrown 1 (some .int) ∈ zWs := zWs_in 1221 (by decide +kernel) rfl
noncomputable def pgX12_in : zPg := [(0, o_il 0), (1, o_il 1), (2, o_ic_lt 14), (5, o_il 0), (6, o_il 2), (7, o_ic_gt 14), (10, o_ic (1)), (11, o_go 15), (14, o_ic (0)), (15, o_zr)]
set_option maxRecDepth 20000 in
theorem pkX12_in {G : zG} (hG : zGok G) (Q : zRt) : zPOK G (zRm 0) RX12 cX12_in 3 (some .boolean) (zF G Q 0 0) 0 0 (zCalls G 0) Q pgX12_in := by
  refine And.intro (k_iload_n (pc := 0) (by decide +kernel : decode cX12_in 0 = .ok (.iload_n 0, 1)) rfl) ?_
  refine And.intro (k_iload_n (pc := 1) (by decide +kernel : decode cX12_in 1 = .ok (.iload_n 1, 1)) rfl) ?_
  refine And.intro (k_icmp_lt (pc := 2) (by decide +kernel : decode cX12_in 2 = .ok (.if_icmp .lt 12, 3)) (by decide)) ?_
  refine And.intro (k_iload_n (pc := 5) (by decide +kernel : decode cX12_in 5 = .ok (.iload_n 0, 1)) rfl) ?_
  refine And.intro (k_iload_n (pc := 6) (by decide +kernel : decode cX12_in 6 = .ok (.iload_n 2, 1)) rfl) ?_
  refine And.intro (k_icmp_gt (pc := 7) (by decide +kernel : decode cX12_in 7 = .ok (.if_icmp .gt 7, 3)) (by decide)) ?_
  refine And.intro (k_iconst (pc := 10) (by decide +kernel : decode cX12_in 10 = .ok (.iconst 1, 1)) (by decide)) ?_
  refine And.intro (k_goto (pc := 11) (by decide +kernel : decode cX12_in 11 = .ok (.goto 4, 3)) (by decide)) ?_
  refine And.intro (k_iconst (pc := 14) (by decide +kernel : decode cX12_in 14 = .ok (.iconst 0, 1)) (by decide)) ?_
  refine And.intro (k_zreturn (pc := 15) rfl (by decide +kernel : decode cX12_in 15 = .ok (.ireturn, 1))) ?_
  exact trivial
theorem cdX12_in : Cond.code yX12_in cX12_in 3 (some .boolean) ∈ zWs := zWs_in 1232 (by decide +kernel) rfl
noncomputable def pgX12_lost : zPg := [(0, o_al 0), (1, o_ic (1)), (2, o_pI 12 5), (5, o_ic (0)), (6, o_ir)]
set_option maxRecDepth 20000 in
theorem pkX12_lost {G : zG} (hG : zGok G) (Q : zRt) : zPOK G (zRm 0) RX12 cX12_lost 1 (some .int) (zF G Q 0 0) 0 0 (zCalls G 0) Q pgX12_lost := by
  refine And.intro (k_aload_n (pc := 0) (by decide +kernel : decode cX12_lost 0 = .ok (.aload_n 0, 1)) rfl) ?_
  refine And.intro (k_iconst (pc := 1) (by decide +kernel : decode cX12_lost 1 = .ok (.iconst 1, 1)) (by decide)) ?_
  refine And.intro (k_pI (pc := 2) rfl (by decide) rfl zin12 lk_X12_55 tyX12_ok nmX12 rfl (by decide +kernel) (by decide +kernel : decode cX12_lost 2 = .ok (.putfield 55, 3))) ?_
  refine And.intro (k_iconst (pc := 5) (by decide +kernel : decode cX12_lost 5 = .ok (.iconst 0, 1)) (by decide)) ?_
  refine And.intro (k_ireturn (pc := 6) rfl (by decide +kernel : decode cX12_lost 6 = .ok (.ireturn, 1))) ?_
  exact trivial
theorem cdX12_lost : Cond.code yX12_lost cX12_lost 1 (some .int) ∈ zWs := zWs_in 1305 (by decide +kernel) rfl
noncomputable def pgX12_tell : zPg := [(0, o_al 0), (1, o_gR 12 3), (4, o_al 0), (5, o_gI 12 4), (8, o_ll 1), (9, o_yJ), (10, o_al 0), (11, o_dup), (12, o_gI 12 4), (15, o_ic (1)), (16, o_iadd), (17, o_pI 12 4), (20, o_vr)]
set_option maxRecDepth 20000 in
theorem pkX12_tell {G : zG} (hG : zGok G) (Q : zRt) : zPOK G (zRm 0) RX12 cX12_tell 3 none (zF G Q 0 0) 0 0 (zCalls G 0) Q pgX12_tell := by
  refine And.intro (k_aload_n (pc := 0) (by decide +kernel : decode cX12_tell 0 = .ok (.aload_n 0, 1)) rfl) ?_
  refine And.intro (k_gR (pc := 1) rfl (by decide) rfl zin12 lk_X12_17 (by decide +kernel : decode cX12_tell 1 = .ok (.getfield 17, 3))) ?_
  refine And.intro (k_aload_n (pc := 4) (by decide +kernel : decode cX12_tell 4 = .ok (.aload_n 0, 1)) rfl) ?_
  refine And.intro (k_gI (pc := 5) rfl (by decide) rfl zin12 lk_X12_59 (by decide +kernel : decode cX12_tell 5 = .ok (.getfield 59, 3))) ?_
  refine And.intro (k_lload_n (pc := 8) (by decide +kernel : decode cX12_tell 8 = .ok (.lload_n 1, 1)) rfl) ?_
  refine And.intro (k_last (pc := 9) (by decide +kernel : decode cX12_tell 9 = .ok (.lastore, 1))) ?_
  refine And.intro (k_aload_n (pc := 10) (by decide +kernel : decode cX12_tell 10 = .ok (.aload_n 0, 1)) rfl) ?_
  refine And.intro (k_dup (pc := 11) (by decide +kernel : decode cX12_tell 11 = .ok (.dup, 1))) ?_
  refine And.intro (k_gI (pc := 12) rfl (by decide) rfl zin12 lk_X12_59 (by decide +kernel : decode cX12_tell 12 = .ok (.getfield 59, 3))) ?_
  refine And.intro (k_iconst (pc := 15) (by decide +kernel : decode cX12_tell 15 = .ok (.iconst 1, 1)) (by decide)) ?_
  refine And.intro (k_iadd (pc := 16) (by decide +kernel : decode cX12_tell 16 = .ok (.iadd, 1))) ?_
  refine And.intro (k_pI (pc := 17) rfl (by decide) rfl zin12 lk_X12_59 tyX12_ok nmX12 rfl (by decide +kernel) (by decide +kernel : decode cX12_tell 17 = .ok (.putfield 59, 3))) ?_
  refine And.intro (k_return (pc := 20) rfl (by decide +kernel : decode cX12_tell 20 = .ok (.return_, 1))) ?_
  exact trivial
theorem cdX12_tell : Cond.code yX12_tell cX12_tell 3 none ∈ zWs := zWs_in 1411 (by decide +kernel) rfl
noncomputable def pgX12_lines : zPg := [(0, o_al 0), (1, o_gR 12 0), (4, o_ic (0)), (5, o_xI 14), (6, o_ic (4)), (7, o_iadd), (8, o_ir)]
set_option maxRecDepth 20000 in
theorem pkX12_lines {G : zG} (hG : zGok G) (Q : zRt) : zPOK G (zRm 0) RX12 cX12_lines 1 (some .int) (zF G Q 0 0) 0 0 (zCalls G 0) Q pgX12_lines := by
  refine And.intro (k_aload_n (pc := 0) (by decide +kernel : decode cX12_lines 0 = .ok (.aload_n 0, 1)) rfl) ?_
  refine And.intro (k_gR (pc := 1) rfl (by decide) rfl zin12 lk_X12_9 (by decide +kernel : decode cX12_lines 1 = .ok (.getfield 9, 3))) ?_
  refine And.intro (k_iconst (pc := 4) (by decide +kernel : decode cX12_lines 4 = .ok (.iconst 0, 1)) (by decide)) ?_
  refine And.intro (k_iald (pc := 5) (by decide +kernel : decode cX12_lines 5 = .ok (.iaload, 1))) ?_
  refine And.intro (k_iconst (pc := 6) (by decide +kernel : decode cX12_lines 6 = .ok (.iconst 4, 1)) (by decide)) ?_
  refine And.intro (k_iadd (pc := 7) (by decide +kernel : decode cX12_lines 7 = .ok (.iadd, 1))) ?_
  refine And.intro (k_ireturn (pc := 8) rfl (by decide +kernel : decode cX12_lines 8 = .ok (.ireturn, 1))) ?_
  exact trivial
theorem cdX12_lines : Cond.code yX12_lines cX12_lines 1 (some .int) ∈ zWs := zWs_in 1295 (by decide +kernel) rfl
noncomputable def pgX12_of : zPg := [(0, o_il 1), (1, o_al 0), (2, o_gR 12 0), (5, o_ic (0)), (6, o_xI 14), (7, o_ic_ge 25), (10, o_al 0), (11, o_gR 12 0), (14, o_ic (1)), (15, o_ic (3)), (16, o_il 1), (17, o_imul), (18, o_iadd), (19, o_il 2), (20, o_iadd), (21, o_xI 14), (22, o_go 41), (25, o_gs 1), (28, o_ic (3)), (29, o_il 1), (30, o_al 0), (31, o_gR 12 0), (34, o_ic (0)), (35, o_xI 14), (36, o_isub), (37, o_imul), (38, o_il 2), (39, o_iadd), (40, o_xs 1 12 zBx), (41, o_ir)]
set_option maxRecDepth 20000 in
theorem pkX12_of {G : zG} (hG : zGok G) (Q : zRt) : zPOK G (zRm 0) RX12 cX12_of 3 (some .int) (zF G Q 0 0) 0 0 (zCalls G 0) Q pgX12_of := by
  refine And.intro (k_iload_n (pc := 0) (by decide +kernel : decode cX12_of 0 = .ok (.iload_n 1, 1)) rfl) ?_
  refine And.intro (k_aload_n (pc := 1) (by decide +kernel : decode cX12_of 1 = .ok (.aload_n 0, 1)) rfl) ?_
  refine And.intro (k_gR (pc := 2) rfl (by decide) rfl zin12 lk_X12_9 (by decide +kernel : decode cX12_of 2 = .ok (.getfield 9, 3))) ?_
  refine And.intro (k_iconst (pc := 5) (by decide +kernel : decode cX12_of 5 = .ok (.iconst 0, 1)) (by decide)) ?_
  refine And.intro (k_iald (pc := 6) (by decide +kernel : decode cX12_of 6 = .ok (.iaload, 1))) ?_
  refine And.intro (k_icmp_ge (pc := 7) (by decide +kernel : decode cX12_of 7 = .ok (.if_icmp .ge 18, 3)) (by decide)) ?_
  refine And.intro (k_aload_n (pc := 10) (by decide +kernel : decode cX12_of 10 = .ok (.aload_n 0, 1)) rfl) ?_
  refine And.intro (k_gR (pc := 11) rfl (by decide) rfl zin12 lk_X12_9 (by decide +kernel : decode cX12_of 11 = .ok (.getfield 9, 3))) ?_
  refine And.intro (k_iconst (pc := 14) (by decide +kernel : decode cX12_of 14 = .ok (.iconst 1, 1)) (by decide)) ?_
  refine And.intro (k_iconst (pc := 15) (by decide +kernel : decode cX12_of 15 = .ok (.iconst 3, 1)) (by decide)) ?_
  refine And.intro (k_iload_n (pc := 16) (by decide +kernel : decode cX12_of 16 = .ok (.iload_n 1, 1)) rfl) ?_
  refine And.intro (k_imul (pc := 17) (by decide +kernel : decode cX12_of 17 = .ok (.imul, 1))) ?_
  refine And.intro (k_iadd (pc := 18) (by decide +kernel : decode cX12_of 18 = .ok (.iadd, 1))) ?_
  refine And.intro (k_iload_n (pc := 19) (by decide +kernel : decode cX12_of 19 = .ok (.iload_n 2, 1)) rfl) ?_
  refine And.intro (k_iadd (pc := 20) (by decide +kernel : decode cX12_of 20 = .ok (.iadd, 1))) ?_
  refine And.intro (k_iald (pc := 21) (by decide +kernel : decode cX12_of 21 = .ok (.iaload, 1))) ?_
  refine And.intro (k_goto (pc := 22) (by decide +kernel : decode cX12_of 22 = .ok (.goto 19, 3)) (by decide)) ?_
  refine And.intro (k_gs1 (pc := 25) sk_X12_62 (by decide +kernel : decode cX12_of 25 = .ok (.getstatic 62, 3))) ?_
  refine And.intro (k_iconst (pc := 28) (by decide +kernel : decode cX12_of 28 = .ok (.iconst 3, 1)) (by decide)) ?_
  refine And.intro (k_iload_n (pc := 29) (by decide +kernel : decode cX12_of 29 = .ok (.iload_n 1, 1)) rfl) ?_
  refine And.intro (k_aload_n (pc := 30) (by decide +kernel : decode cX12_of 30 = .ok (.aload_n 0, 1)) rfl) ?_
  refine And.intro (k_gR (pc := 31) rfl (by decide) rfl zin12 lk_X12_9 (by decide +kernel : decode cX12_of 31 = .ok (.getfield 9, 3))) ?_
  refine And.intro (k_iconst (pc := 34) (by decide +kernel : decode cX12_of 34 = .ok (.iconst 0, 1)) (by decide)) ?_
  refine And.intro (k_iald (pc := 35) (by decide +kernel : decode cX12_of 35 = .ok (.iaload, 1))) ?_
  refine And.intro (k_isub (pc := 36) (by decide +kernel : decode cX12_of 36 = .ok (.isub, 1))) ?_
  refine And.intro (k_imul (pc := 37) (by decide +kernel : decode cX12_of 37 = .ok (.imul, 1))) ?_
  refine And.intro (k_iload_n (pc := 38) (by decide +kernel : decode cX12_of 38 = .ok (.iload_n 2, 1)) rfl) ?_
  refine And.intro (k_iadd (pc := 39) (by decide +kernel : decode cX12_of 39 = .ok (.iadd, 1))) ?_
  refine And.intro (k_xs (pc := 40) (by decide) rfl rfl (by decide +kernel : decode cX12_of 40 = .ok (.iaload, 1))) ?_
  refine And.intro (k_ireturn (pc := 41) rfl (by decide +kernel : decode cX12_of 41 = .ok (.ireturn, 1))) ?_
  exact trivial
theorem cdX12_of : Cond.code yX12_of cX12_of 3 (some .int) ∈ zWs := zWs_in 1299 (by decide +kernel) rfl
noncomputable def pgX12_common : zPg := [(0, o_ll 0), (1, o_lc 0), (2, o_lc_ge 11), (6, o_ll 0), (7, o_lneg), (8, o_go 12), (11, o_ll 0), (12, o_ls 4), (14, o_ll 2), (15, o_lc 0), (16, o_lc_ge 25), (20, o_ll 2), (21, o_lneg), (22, o_go 26), (25, o_ll 2), (26, o_ls 6), (28, o_ll 6), (30, o_lc 0), (31, o_lc_eq 53), (35, o_ll 4), (37, o_ll 6), (39, o_lrem), (40, o_ls 8), (42, o_ll 6), (44, o_ls 4), (46, o_ll 8), (48, o_ls 6), (50, o_go 28), (53, o_ll 4), (55, o_lr)]
set_option maxRecDepth 20000 in
theorem pkX12_common {G : zG} (hG : zGok G) (Q : zRt) : zPOK G (zRm 0) RX12 cX12_common 10 (some .long) (zF G Q 0 0) 0 0 (zCalls G 0) Q pgX12_common := by
  refine And.intro (k_lload_n (pc := 0) (by decide +kernel : decode cX12_common 0 = .ok (.lload_n 0, 1)) rfl) ?_
  refine And.intro (k_lconst (pc := 1) (by decide +kernel : decode cX12_common 1 = .ok (.lconst 0, 1)) (by decide)) ?_
  refine And.intro (k_lcmp_ge (pc := 2) (by decide +kernel : decode cX12_common 2 = .ok (.lcmp, 1)) (by decide +kernel : decode cX12_common 3 = .ok (.ifCond .ge 8, 3)) (by decide)) ?_
  refine And.intro (k_lload_n (pc := 6) (by decide +kernel : decode cX12_common 6 = .ok (.lload_n 0, 1)) rfl) ?_
  refine And.intro (k_lneg (pc := 7) (by decide +kernel : decode cX12_common 7 = .ok (.lneg, 1))) ?_
  refine And.intro (k_goto (pc := 8) (by decide +kernel : decode cX12_common 8 = .ok (.goto 4, 3)) (by decide)) ?_
  refine And.intro (k_lload_n (pc := 11) (by decide +kernel : decode cX12_common 11 = .ok (.lload_n 0, 1)) rfl) ?_
  refine And.intro (k_lstore (pc := 12) (by decide +kernel : decode cX12_common 12 = .ok (.lstore 4, 2))) ?_
  refine And.intro (k_lload_n (pc := 14) (by decide +kernel : decode cX12_common 14 = .ok (.lload_n 2, 1)) rfl) ?_
  refine And.intro (k_lconst (pc := 15) (by decide +kernel : decode cX12_common 15 = .ok (.lconst 0, 1)) (by decide)) ?_
  refine And.intro (k_lcmp_ge (pc := 16) (by decide +kernel : decode cX12_common 16 = .ok (.lcmp, 1)) (by decide +kernel : decode cX12_common 17 = .ok (.ifCond .ge 8, 3)) (by decide)) ?_
  refine And.intro (k_lload_n (pc := 20) (by decide +kernel : decode cX12_common 20 = .ok (.lload_n 2, 1)) rfl) ?_
  refine And.intro (k_lneg (pc := 21) (by decide +kernel : decode cX12_common 21 = .ok (.lneg, 1))) ?_
  refine And.intro (k_goto (pc := 22) (by decide +kernel : decode cX12_common 22 = .ok (.goto 4, 3)) (by decide)) ?_
  refine And.intro (k_lload_n (pc := 25) (by decide +kernel : decode cX12_common 25 = .ok (.lload_n 2, 1)) rfl) ?_
  refine And.intro (k_lstore (pc := 26) (by decide +kernel : decode cX12_common 26 = .ok (.lstore 6, 2))) ?_
  refine And.intro (k_lload (pc := 28) (by decide +kernel : decode cX12_common 28 = .ok (.lload 6, 2))) ?_
  refine And.intro (k_lconst (pc := 30) (by decide +kernel : decode cX12_common 30 = .ok (.lconst 0, 1)) (by decide)) ?_
  refine And.intro (k_lcmp_eq (pc := 31) (by decide +kernel : decode cX12_common 31 = .ok (.lcmp, 1)) (by decide +kernel : decode cX12_common 32 = .ok (.ifCond .eq 21, 3)) (by decide)) ?_
  refine And.intro (k_lload (pc := 35) (by decide +kernel : decode cX12_common 35 = .ok (.lload 4, 2))) ?_
  refine And.intro (k_lload (pc := 37) (by decide +kernel : decode cX12_common 37 = .ok (.lload 6, 2))) ?_
  refine And.intro (k_lrem (pc := 39) (by decide +kernel : decode cX12_common 39 = .ok (.lrem, 1))) ?_
  refine And.intro (k_lstore (pc := 40) (by decide +kernel : decode cX12_common 40 = .ok (.lstore 8, 2))) ?_
  refine And.intro (k_lload (pc := 42) (by decide +kernel : decode cX12_common 42 = .ok (.lload 6, 2))) ?_
  refine And.intro (k_lstore (pc := 44) (by decide +kernel : decode cX12_common 44 = .ok (.lstore 4, 2))) ?_
  refine And.intro (k_lload (pc := 46) (by decide +kernel : decode cX12_common 46 = .ok (.lload 8, 2))) ?_
  refine And.intro (k_lstore (pc := 48) (by decide +kernel : decode cX12_common 48 = .ok (.lstore 6, 2))) ?_
  refine And.intro (k_goto (pc := 50) (by decide +kernel : decode cX12_common 50 = .ok (.goto (-22), 3)) (by decide)) ?_
  refine And.intro (k_lload (pc := 53) (by decide +kernel : decode cX12_common 53 = .ok (.lload 4, 2))) ?_
  refine And.intro (k_lreturn (pc := 55) rfl (by decide +kernel : decode cX12_common 55 = .ok (.lreturn, 1))) ?_
  exact trivial
theorem cdX12_common : Cond.code yX12_common cX12_common 10 (some .long) ∈ zWs := zWs_in 1376 (by decide +kernel) rfl
noncomputable def pgX12_set : zPg := [(0, o_ll 1), (1, o_ll 3), (2, o_cr yX12_common 2), (5, o_ls 5), (7, o_ll 3), (8, o_lc 0), (9, o_lc_ge 18), (13, o_ll 5), (15, o_lneg), (16, o_ls 5), (18, o_al 0), (19, o_ll 1), (20, o_ll 5), (22, o_ldiv), (23, o_pJ 12 6), (26, o_al 0), (27, o_ll 3), (28, o_ll 5), (30, o_ldiv), (31, o_pJ 12 7), (34, o_vr)]
set_option maxRecDepth 20000 in
theorem pkX12_set {G : zG} (hG : zGok G) (Q : zRt) : zPOK G (zRm 1) RX12 cX12_set 7 none (zF G Q 0 0) 0 0 (zCalls G 1) Q pgX12_set := by
  refine And.intro (k_lload_n (pc := 0) (by decide +kernel : decode cX12_set 0 = .ok (.lload_n 1, 1)) rfl) ?_
  refine And.intro (k_lload_n (pc := 1) (by decide +kernel : decode cX12_set 1 = .ok (.lload_n 3, 1)) rfl) ?_
  refine And.intro (k_crS (n := 2) (pc := 2) hG (zRoom_self 1) ini_X12 sta_X12_common mk_X12_65 dy_X12_common (by decide +kernel : decode cX12_set 2 = .ok (.invokestatic 65, 3))) ?_
  refine And.intro (k_lstore (pc := 5) (by decide +kernel : decode cX12_set 5 = .ok (.lstore 5, 2))) ?_
  refine And.intro (k_lload_n (pc := 7) (by decide +kernel : decode cX12_set 7 = .ok (.lload_n 3, 1)) rfl) ?_
  refine And.intro (k_lconst (pc := 8) (by decide +kernel : decode cX12_set 8 = .ok (.lconst 0, 1)) (by decide)) ?_
  refine And.intro (k_lcmp_ge (pc := 9) (by decide +kernel : decode cX12_set 9 = .ok (.lcmp, 1)) (by decide +kernel : decode cX12_set 10 = .ok (.ifCond .ge 8, 3)) (by decide)) ?_
  refine And.intro (k_lload (pc := 13) (by decide +kernel : decode cX12_set 13 = .ok (.lload 5, 2))) ?_
  refine And.intro (k_lneg (pc := 15) (by decide +kernel : decode cX12_set 15 = .ok (.lneg, 1))) ?_
  refine And.intro (k_lstore (pc := 16) (by decide +kernel : decode cX12_set 16 = .ok (.lstore 5, 2))) ?_
  refine And.intro (k_aload_n (pc := 18) (by decide +kernel : decode cX12_set 18 = .ok (.aload_n 0, 1)) rfl) ?_
  refine And.intro (k_lload_n (pc := 19) (by decide +kernel : decode cX12_set 19 = .ok (.lload_n 1, 1)) rfl) ?_
  refine And.intro (k_lload (pc := 20) (by decide +kernel : decode cX12_set 20 = .ok (.lload 5, 2))) ?_
  refine And.intro (k_ldiv (pc := 22) (by decide +kernel : decode cX12_set 22 = .ok (.ldiv, 1))) ?_
  refine And.intro (k_pJ (pc := 23) rfl (by decide) rfl zin12 lk_X12_69 tyX12_ok nmX12 rfl (by decide +kernel) (by decide +kernel : decode cX12_set 23 = .ok (.putfield 69, 3))) ?_
  refine And.intro (k_aload_n (pc := 26) (by decide +kernel : decode cX12_set 26 = .ok (.aload_n 0, 1)) rfl) ?_
  refine And.intro (k_lload_n (pc := 27) (by decide +kernel : decode cX12_set 27 = .ok (.lload_n 3, 1)) rfl) ?_
  refine And.intro (k_lload (pc := 28) (by decide +kernel : decode cX12_set 28 = .ok (.lload 5, 2))) ?_
  refine And.intro (k_ldiv (pc := 30) (by decide +kernel : decode cX12_set 30 = .ok (.ldiv, 1))) ?_
  refine And.intro (k_pJ (pc := 31) rfl (by decide) rfl zin12 lk_X12_73 tyX12_ok nmX12 rfl (by decide +kernel) (by decide +kernel : decode cX12_set 31 = .ok (.putfield 73, 3))) ?_
  refine And.intro (k_return (pc := 34) rfl (by decide +kernel : decode cX12_set 34 = .ok (.return_, 1))) ?_
  exact trivial
theorem cdX12_set : Cond.code yX12_set cX12_set 7 none ∈ zWs := zWs_in 1373 (by decide +kernel) rfl
noncomputable def pgX12_tellFraction : zPg := [(0, o_al 0), (1, o_ll 1), (2, o_ll 3), (3, o_vv yX12_set 12 3), (6, o_al 0), (7, o_al 0), (8, o_gJ 12 6), (11, o_vv yX12_tell 12 2), (14, o_al 0), (15, o_al 0), (16, o_gJ 12 7), (19, o_vv yX12_tell 12 2), (22, o_vr)]
set_option maxRecDepth 20000 in
theorem pkX12_tellFraction {G : zG} (hG : zGok G) (Q : zRt) : zPOK G (zRm 2) RX12 cX12_tellFraction 5 none (zF G Q 0 0) 0 0 (zCalls G 2) Q pgX12_tellFraction := by
  refine And.intro (k_aload_n (pc := 0) (by decide +kernel : decode cX12_tellFraction 0 = .ok (.aload_n 0, 1)) rfl) ?_
  refine And.intro (k_lload_n (pc := 1) (by decide +kernel : decode cX12_tellFraction 1 = .ok (.lload_n 1, 1)) rfl) ?_
  refine And.intro (k_lload_n (pc := 2) (by decide +kernel : decode cX12_tellFraction 2 = .ok (.lload_n 3, 1)) rfl) ?_
  refine And.intro (k_cvV (n := 2) (pc := 3) hG (zRoom_self 2) (tag := 12) rfl ini_X12 im_X12_set se_X12_set mk_X12_76 dy_X12_set (by decide +kernel : decode cX12_tellFraction 3 = .ok (.invokevirtual 76, 3))) ?_
  refine And.intro (k_aload_n (pc := 6) (by decide +kernel : decode cX12_tellFraction 6 = .ok (.aload_n 0, 1)) rfl) ?_
  refine And.intro (k_aload_n (pc := 7) (by decide +kernel : decode cX12_tellFraction 7 = .ok (.aload_n 0, 1)) rfl) ?_
  refine And.intro (k_gJ (pc := 8) rfl (by decide) rfl zin12 lk_X12_69 (by decide +kernel : decode cX12_tellFraction 8 = .ok (.getfield 69, 3))) ?_
  refine And.intro (k_cvV (n := 1) (pc := 11) hG (zRoom_self 2) (tag := 12) rfl ini_X12 im_X12_tell se_X12_tell mk_X12_80 dy_X12_tell (by decide +kernel : decode cX12_tellFraction 11 = .ok (.invokevirtual 80, 3))) ?_
  refine And.intro (k_aload_n (pc := 14) (by decide +kernel : decode cX12_tellFraction 14 = .ok (.aload_n 0, 1)) rfl) ?_
  refine And.intro (k_aload_n (pc := 15) (by decide +kernel : decode cX12_tellFraction 15 = .ok (.aload_n 0, 1)) rfl) ?_
  refine And.intro (k_gJ (pc := 16) rfl (by decide) rfl zin12 lk_X12_73 (by decide +kernel : decode cX12_tellFraction 16 = .ok (.getfield 73, 3))) ?_
  refine And.intro (k_cvV (n := 1) (pc := 19) hG (zRoom_self 2) (tag := 12) rfl ini_X12 im_X12_tell se_X12_tell mk_X12_80 dy_X12_tell (by decide +kernel : decode cX12_tellFraction 19 = .ok (.invokevirtual 80, 3))) ?_
  refine And.intro (k_return (pc := 22) rfl (by decide +kernel : decode cX12_tellFraction 22 = .ok (.return_, 1))) ?_
  exact trivial
theorem cdX12_tellFraction : Cond.code yX12_tellFraction cX12_tellFraction 5 none ∈ zWs := zWs_in 1407 (by decide +kernel) rfl
noncomputable def pgX12_isLess : zPg := [(0, o_ll 0), (1, o_ll 6), (3, o_lmul), (4, o_ll 4), (6, o_ll 2), (7, o_lmul), (8, o_lc_ge 16), (12, o_ic (1)), (13, o_go 17), (16, o_ic (0)), (17, o_zr)]
set_option maxRecDepth 20000 in
theorem pkX12_isLess {G : zG} (hG : zGok G) (Q : zRt) : zPOK G (zRm 0) RX12 cX12_isLess 8 (some .boolean) (zF G Q 0 0) 0 0 (zCalls G 0) Q pgX12_isLess := by
  refine And.intro (k_lload_n (pc := 0) (by decide +kernel : decode cX12_isLess 0 = .ok (.lload_n 0, 1)) rfl) ?_
  refine And.intro (k_lload (pc := 1) (by decide +kernel : decode cX12_isLess 1 = .ok (.lload 6, 2))) ?_
  refine And.intro (k_lmul (pc := 3) (by decide +kernel : decode cX12_isLess 3 = .ok (.lmul, 1))) ?_
  refine And.intro (k_lload (pc := 4) (by decide +kernel : decode cX12_isLess 4 = .ok (.lload 4, 2))) ?_
  refine And.intro (k_lload_n (pc := 6) (by decide +kernel : decode cX12_isLess 6 = .ok (.lload_n 2, 1)) rfl) ?_
  refine And.intro (k_lmul (pc := 7) (by decide +kernel : decode cX12_isLess 7 = .ok (.lmul, 1))) ?_
  refine And.intro (k_lcmp_ge (pc := 8) (by decide +kernel : decode cX12_isLess 8 = .ok (.lcmp, 1)) (by decide +kernel : decode cX12_isLess 9 = .ok (.ifCond .ge 7, 3)) (by decide)) ?_
  refine And.intro (k_iconst (pc := 12) (by decide +kernel : decode cX12_isLess 12 = .ok (.iconst 1, 1)) (by decide)) ?_
  refine And.intro (k_goto (pc := 13) (by decide +kernel : decode cX12_isLess 13 = .ok (.goto 4, 3)) (by decide)) ?_
  refine And.intro (k_iconst (pc := 16) (by decide +kernel : decode cX12_isLess 16 = .ok (.iconst 0, 1)) (by decide)) ?_
  refine And.intro (k_zreturn (pc := 17) rfl (by decide +kernel : decode cX12_isLess 17 = .ok (.ireturn, 1))) ?_
  exact trivial
theorem cdX12_isLess : Cond.code yX12_isLess cX12_isLess 8 (some .boolean) ∈ zWs := zWs_in 1369 (by decide +kernel) rfl
noncomputable def pgX12_sign : zPg := [(0, o_al 0), (1, o_ic (0)), (2, o_pI 12 5), (5, o_al 0), (6, o_gI 12 2), (9, o_ic (4)), (10, o_iadd), (11, o_ic (80)), (13, o_ic_le 18), (16, o_ic (-1)), (17, o_ir), (18, o_ic (3)), (19, o_is 2), (20, o_il 2), (21, o_if_lt 53), (24, o_al 0), (25, o_gR 12 1), (28, o_al 0), (29, o_dup), (30, o_gI 12 2), (33, o_dup_x1), (34, o_ic (1)), (35, o_iadd), (36, o_pI 12 2), (39, o_il 1), (40, o_ic (8)), (42, o_il 2), (43, o_imul), (44, o_ishr), (45, o_i2b), (46, o_yB), (47, o_inc 2 (-1)), (50, o_go 20), (53, o_al 0), (54, o_gI 12 2), (57, o_ir)]
set_option maxRecDepth 20000 in
theorem pkX12_sign {G : zG} (hG : zGok G) (Q : zRt) : zPOK G (zRm 0) RX12 cX12_sign 3 (some .int) (zF G Q 0 0) 0 0 (zCalls G 0) Q pgX12_sign := by
  refine And.intro (k_aload_n (pc := 0) (by decide +kernel : decode cX12_sign 0 = .ok (.aload_n 0, 1)) rfl) ?_
  refine And.intro (k_iconst (pc := 1) (by decide +kernel : decode cX12_sign 1 = .ok (.iconst 0, 1)) (by decide)) ?_
  refine And.intro (k_pI (pc := 2) rfl (by decide) rfl zin12 lk_X12_55 tyX12_ok nmX12 rfl (by decide +kernel) (by decide +kernel : decode cX12_sign 2 = .ok (.putfield 55, 3))) ?_
  refine And.intro (k_aload_n (pc := 5) (by decide +kernel : decode cX12_sign 5 = .ok (.aload_n 0, 1)) rfl) ?_
  refine And.intro (k_gI (pc := 6) rfl (by decide) rfl zin12 lk_X12_84 (by decide +kernel : decode cX12_sign 6 = .ok (.getfield 84, 3))) ?_
  refine And.intro (k_iconst (pc := 9) (by decide +kernel : decode cX12_sign 9 = .ok (.iconst 4, 1)) (by decide)) ?_
  refine And.intro (k_iadd (pc := 10) (by decide +kernel : decode cX12_sign 10 = .ok (.iadd, 1))) ?_
  refine And.intro (k_bipush (pc := 11) (by decide +kernel : decode cX12_sign 11 = .ok (.bipush 80, 2)) (by decide)) ?_
  refine And.intro (k_icmp_le (pc := 13) (by decide +kernel : decode cX12_sign 13 = .ok (.if_icmp .le 5, 3)) (by decide)) ?_
  refine And.intro (k_iconst (pc := 16) (by decide +kernel : decode cX12_sign 16 = .ok (.iconst (-1), 1)) (by decide)) ?_
  refine And.intro (k_ireturn (pc := 17) rfl (by decide +kernel : decode cX12_sign 17 = .ok (.ireturn, 1))) ?_
  refine And.intro (k_iconst (pc := 18) (by decide +kernel : decode cX12_sign 18 = .ok (.iconst 3, 1)) (by decide)) ?_
  refine And.intro (k_istore_n (pc := 19) (by decide +kernel : decode cX12_sign 19 = .ok (.istore_n 2, 1)) rfl) ?_
  refine And.intro (k_iload_n (pc := 20) (by decide +kernel : decode cX12_sign 20 = .ok (.iload_n 2, 1)) rfl) ?_
  refine And.intro (k_if_lt (pc := 21) (by decide +kernel : decode cX12_sign 21 = .ok (.ifCond .lt 32, 3)) (by decide)) ?_
  refine And.intro (k_aload_n (pc := 24) (by decide +kernel : decode cX12_sign 24 = .ok (.aload_n 0, 1)) rfl) ?_
  refine And.intro (k_gR (pc := 25) rfl (by decide) rfl zin12 lk_X12_13 (by decide +kernel : decode cX12_sign 25 = .ok (.getfield 13, 3))) ?_
  refine And.intro (k_aload_n (pc := 28) (by decide +kernel : decode cX12_sign 28 = .ok (.aload_n 0, 1)) rfl) ?_
  refine And.intro (k_dup (pc := 29) (by decide +kernel : decode cX12_sign 29 = .ok (.dup, 1))) ?_
  refine And.intro (k_gI (pc := 30) rfl (by decide) rfl zin12 lk_X12_84 (by decide +kernel : decode cX12_sign 30 = .ok (.getfield 84, 3))) ?_
  refine And.intro (k_dup_x1 (pc := 33) (by decide +kernel : decode cX12_sign 33 = .ok (.dup_x1, 1))) ?_
  refine And.intro (k_iconst (pc := 34) (by decide +kernel : decode cX12_sign 34 = .ok (.iconst 1, 1)) (by decide)) ?_
  refine And.intro (k_iadd (pc := 35) (by decide +kernel : decode cX12_sign 35 = .ok (.iadd, 1))) ?_
  refine And.intro (k_pI (pc := 36) rfl (by decide) rfl zin12 lk_X12_84 tyX12_ok nmX12 rfl (by decide +kernel) (by decide +kernel : decode cX12_sign 36 = .ok (.putfield 84, 3))) ?_
  refine And.intro (k_iload_n (pc := 39) (by decide +kernel : decode cX12_sign 39 = .ok (.iload_n 1, 1)) rfl) ?_
  refine And.intro (k_bipush (pc := 40) (by decide +kernel : decode cX12_sign 40 = .ok (.bipush 8, 2)) (by decide)) ?_
  refine And.intro (k_iload_n (pc := 42) (by decide +kernel : decode cX12_sign 42 = .ok (.iload_n 2, 1)) rfl) ?_
  refine And.intro (k_imul (pc := 43) (by decide +kernel : decode cX12_sign 43 = .ok (.imul, 1))) ?_
  refine And.intro (k_ishr (pc := 44) (by decide +kernel : decode cX12_sign 44 = .ok (.ishr, 1))) ?_
  refine And.intro (k_i2b (pc := 45) (by decide +kernel : decode cX12_sign 45 = .ok (.i2b, 1))) ?_
  refine And.intro (k_bast (pc := 46) (by decide +kernel : decode cX12_sign 46 = .ok (.bastore, 1))) ?_
  refine And.intro (k_iinc (pc := 47) (by decide +kernel : decode cX12_sign 47 = .ok (.iinc 2 (-1), 3)) (by decide)) ?_
  refine And.intro (k_goto (pc := 50) (by decide +kernel : decode cX12_sign 50 = .ok (.goto (-30), 3)) (by decide)) ?_
  refine And.intro (k_aload_n (pc := 53) (by decide +kernel : decode cX12_sign 53 = .ok (.aload_n 0, 1)) rfl) ?_
  refine And.intro (k_gI (pc := 54) rfl (by decide) rfl zin12 lk_X12_84 (by decide +kernel : decode cX12_sign 54 = .ok (.getfield 84, 3))) ?_
  refine And.intro (k_ireturn (pc := 57) rfl (by decide +kernel : decode cX12_sign 57 = .ok (.ireturn, 1))) ?_
  exact trivial
theorem cdX12_sign : Cond.code yX12_sign cX12_sign 3 (some .int) ∈ zWs := zWs_in 1225 (by decide +kernel) rfl
noncomputable def pgX12_end : zPg := [(0, o_al 0), (1, o_ic (0)), (2, o_pI 12 5), (5, o_il 1), (6, o_ic (0)), (7, o_al 0), (8, o_gI 12 2), (11, o_cr yX12_in 3), (14, o_if_ne 19), (17, o_ic (0)), (18, o_zr), (19, o_al 0), (20, o_il 1), (21, o_pI 12 2), (24, o_ic (1)), (25, o_zr)]
set_option maxRecDepth 20000 in
theorem pkX12_end {G : zG} (hG : zGok G) (Q : zRt) : zPOK G (zRm 1) RX12 cX12_end 2 (some .boolean) (zF G Q 0 0) 0 0 (zCalls G 1) Q pgX12_end := by
  refine And.intro (k_aload_n (pc := 0) (by decide +kernel : decode cX12_end 0 = .ok (.aload_n 0, 1)) rfl) ?_
  refine And.intro (k_iconst (pc := 1) (by decide +kernel : decode cX12_end 1 = .ok (.iconst 0, 1)) (by decide)) ?_
  refine And.intro (k_pI (pc := 2) rfl (by decide) rfl zin12 lk_X12_55 tyX12_ok nmX12 rfl (by decide +kernel) (by decide +kernel : decode cX12_end 2 = .ok (.putfield 55, 3))) ?_
  refine And.intro (k_iload_n (pc := 5) (by decide +kernel : decode cX12_end 5 = .ok (.iload_n 1, 1)) rfl) ?_
  refine And.intro (k_iconst (pc := 6) (by decide +kernel : decode cX12_end 6 = .ok (.iconst 0, 1)) (by decide)) ?_
  refine And.intro (k_aload_n (pc := 7) (by decide +kernel : decode cX12_end 7 = .ok (.aload_n 0, 1)) rfl) ?_
  refine And.intro (k_gI (pc := 8) rfl (by decide) rfl zin12 lk_X12_84 (by decide +kernel : decode cX12_end 8 = .ok (.getfield 84, 3))) ?_
  refine And.intro (k_crS (n := 3) (pc := 11) hG (zRoom_self 1) ini_X12 sta_X12_in mk_X12_87 dy_X12_in (by decide +kernel : decode cX12_end 11 = .ok (.invokestatic 87, 3))) ?_
  refine And.intro (k_if_ne (pc := 14) (by decide +kernel : decode cX12_end 14 = .ok (.ifCond .ne 5, 3)) (by decide)) ?_
  refine And.intro (k_iconst (pc := 17) (by decide +kernel : decode cX12_end 17 = .ok (.iconst 0, 1)) (by decide)) ?_
  refine And.intro (k_zreturn (pc := 18) rfl (by decide +kernel : decode cX12_end 18 = .ok (.ireturn, 1))) ?_
  refine And.intro (k_aload_n (pc := 19) (by decide +kernel : decode cX12_end 19 = .ok (.aload_n 0, 1)) rfl) ?_
  refine And.intro (k_iload_n (pc := 20) (by decide +kernel : decode cX12_end 20 = .ok (.iload_n 1, 1)) rfl) ?_
  refine And.intro (k_pI (pc := 21) rfl (by decide) rfl zin12 lk_X12_84 tyX12_ok nmX12 rfl (by decide +kernel) (by decide +kernel : decode cX12_end 21 = .ok (.putfield 84, 3))) ?_
  refine And.intro (k_iconst (pc := 24) (by decide +kernel : decode cX12_end 24 = .ok (.iconst 1, 1)) (by decide)) ?_
  refine And.intro (k_zreturn (pc := 25) rfl (by decide +kernel : decode cX12_end 25 = .ok (.ireturn, 1))) ?_
  exact trivial
theorem cdX12_end : Cond.code yX12_end cX12_end 2 (some .boolean) ∈ zWs := zWs_in 1229 (by decide +kernel) rfl
noncomputable def pgX12_begin : zPg := [(0, o_al 0), (1, o_al 0), (2, o_gI 12 2), (5, o_pI 12 8), (8, o_al 0), (9, o_ic (0)), (10, o_pI 12 9), (13, o_al 0), (14, o_ic (-1)), (15, o_pI 12 10), (18, o_al 0), (19, o_ic (0)), (20, o_pI 12 2), (23, o_vr)]
set_option maxRecDepth 20000 in
theorem pkX12_begin {G : zG} (hG : zGok G) (Q : zRt) : zPOK G (zRm 0) RX12 cX12_begin 1 none (zF G Q 0 0) 0 0 (zCalls G 0) Q pgX12_begin := by
  refine And.intro (k_aload_n (pc := 0) (by decide +kernel : decode cX12_begin 0 = .ok (.aload_n 0, 1)) rfl) ?_
  refine And.intro (k_aload_n (pc := 1) (by decide +kernel : decode cX12_begin 1 = .ok (.aload_n 0, 1)) rfl) ?_
  refine And.intro (k_gI (pc := 2) rfl (by decide) rfl zin12 lk_X12_84 (by decide +kernel : decode cX12_begin 2 = .ok (.getfield 84, 3))) ?_
  refine And.intro (k_pI (pc := 5) rfl (by decide) rfl zin12 lk_X12_91 tyX12_ok nmX12 rfl (by decide +kernel) (by decide +kernel : decode cX12_begin 5 = .ok (.putfield 91, 3))) ?_
  refine And.intro (k_aload_n (pc := 8) (by decide +kernel : decode cX12_begin 8 = .ok (.aload_n 0, 1)) rfl) ?_
  refine And.intro (k_iconst (pc := 9) (by decide +kernel : decode cX12_begin 9 = .ok (.iconst 0, 1)) (by decide)) ?_
  refine And.intro (k_pI (pc := 10) rfl (by decide) rfl zin12 lk_X12_94 tyX12_ok nmX12 rfl (by decide +kernel) (by decide +kernel : decode cX12_begin 10 = .ok (.putfield 94, 3))) ?_
  refine And.intro (k_aload_n (pc := 13) (by decide +kernel : decode cX12_begin 13 = .ok (.aload_n 0, 1)) rfl) ?_
  refine And.intro (k_iconst (pc := 14) (by decide +kernel : decode cX12_begin 14 = .ok (.iconst (-1), 1)) (by decide)) ?_
  refine And.intro (k_pI (pc := 15) rfl (by decide) rfl zin12 lk_X12_97 tyX12_ok nmX12 rfl (by decide +kernel) (by decide +kernel : decode cX12_begin 15 = .ok (.putfield 97, 3))) ?_
  refine And.intro (k_aload_n (pc := 18) (by decide +kernel : decode cX12_begin 18 = .ok (.aload_n 0, 1)) rfl) ?_
  refine And.intro (k_iconst (pc := 19) (by decide +kernel : decode cX12_begin 19 = .ok (.iconst 0, 1)) (by decide)) ?_
  refine And.intro (k_pI (pc := 20) rfl (by decide) rfl zin12 lk_X12_84 tyX12_ok nmX12 rfl (by decide +kernel) (by decide +kernel : decode cX12_begin 20 = .ok (.putfield 84, 3))) ?_
  refine And.intro (k_return (pc := 23) rfl (by decide +kernel : decode cX12_begin 23 = .ok (.return_, 1))) ?_
  exact trivial
theorem cdX12_begin : Cond.code yX12_begin cX12_begin 1 none ∈ zWs := zWs_in 1240 (by decide +kernel) rfl
noncomputable def pgX12_here : zPg := [(0, o_al 0), (1, o_gI 12 9), (4, o_al 0), (5, o_gI 12 8), (8, o_ic_ge 27), (11, o_al 0), (12, o_gR 12 1), (15, o_al 0), (16, o_gI 12 9), (19, o_xI 13), (20, o_ic (255)), (23, o_iand), (24, o_go 28), (27, o_ic (-1)), (28, o_ir)]
set_option maxRecDepth 20000 in
theorem pkX12_here {G : zG} (hG : zGok G) (Q : zRt) : zPOK G (zRm 0) RX12 cX12_here 1 (some .int) (zF G Q 0 0) 0 0 (zCalls G 0) Q pgX12_here := by
  refine And.intro (k_aload_n (pc := 0) (by decide +kernel : decode cX12_here 0 = .ok (.aload_n 0, 1)) rfl) ?_
  refine And.intro (k_gI (pc := 1) rfl (by decide) rfl zin12 lk_X12_94 (by decide +kernel : decode cX12_here 1 = .ok (.getfield 94, 3))) ?_
  refine And.intro (k_aload_n (pc := 4) (by decide +kernel : decode cX12_here 4 = .ok (.aload_n 0, 1)) rfl) ?_
  refine And.intro (k_gI (pc := 5) rfl (by decide) rfl zin12 lk_X12_91 (by decide +kernel : decode cX12_here 5 = .ok (.getfield 91, 3))) ?_
  refine And.intro (k_icmp_ge (pc := 8) (by decide +kernel : decode cX12_here 8 = .ok (.if_icmp .ge 19, 3)) (by decide)) ?_
  refine And.intro (k_aload_n (pc := 11) (by decide +kernel : decode cX12_here 11 = .ok (.aload_n 0, 1)) rfl) ?_
  refine And.intro (k_gR (pc := 12) rfl (by decide) rfl zin12 lk_X12_13 (by decide +kernel : decode cX12_here 12 = .ok (.getfield 13, 3))) ?_
  refine And.intro (k_aload_n (pc := 15) (by decide +kernel : decode cX12_here 15 = .ok (.aload_n 0, 1)) rfl) ?_
  refine And.intro (k_gI (pc := 16) rfl (by decide) rfl zin12 lk_X12_94 (by decide +kernel : decode cX12_here 16 = .ok (.getfield 94, 3))) ?_
  refine And.intro (k_bald (pc := 19) (by decide +kernel : decode cX12_here 19 = .ok (.baload, 1))) ?_
  refine And.intro (k_sipush (pc := 20) (by decide +kernel : decode cX12_here 20 = .ok (.sipush 255, 3)) (by decide)) ?_
  refine And.intro (k_iand (pc := 23) (by decide +kernel : decode cX12_here 23 = .ok (.iand, 1))) ?_
  refine And.intro (k_goto (pc := 24) (by decide +kernel : decode cX12_here 24 = .ok (.goto 4, 3)) (by decide)) ?_
  refine And.intro (k_iconst (pc := 27) (by decide +kernel : decode cX12_here 27 = .ok (.iconst (-1), 1)) (by decide)) ?_
  refine And.intro (k_ireturn (pc := 28) rfl (by decide +kernel : decode cX12_here 28 = .ok (.ireturn, 1))) ?_
  exact trivial
theorem cdX12_here : Cond.code yX12_here cX12_here 1 (some .int) ∈ zWs := zWs_in 1260 (by decide +kernel) rfl
noncomputable def pgX12_fine : zPg := [(0, o_al 0), (1, o_gI 12 10), (4, o_ic (-1)), (5, o_ic_ne 12), (8, o_ic (1)), (9, o_go 13), (12, o_ic (0)), (13, o_zr)]
set_option maxRecDepth 20000 in
theorem pkX12_fine {G : zG} (hG : zGok G) (Q : zRt) : zPOK G (zRm 0) RX12 cX12_fine 1 (some .boolean) (zF G Q 0 0) 0 0 (zCalls G 0) Q pgX12_fine := by
  refine And.intro (k_aload_n (pc := 0) (by decide +kernel : decode cX12_fine 0 = .ok (.aload_n 0, 1)) rfl) ?_
  refine And.intro (k_gI (pc := 1) rfl (by decide) rfl zin12 lk_X12_97 (by decide +kernel : decode cX12_fine 1 = .ok (.getfield 97, 3))) ?_
  refine And.intro (k_iconst (pc := 4) (by decide +kernel : decode cX12_fine 4 = .ok (.iconst (-1), 1)) (by decide)) ?_
  refine And.intro (k_icmp_ne (pc := 5) (by decide +kernel : decode cX12_fine 5 = .ok (.if_icmp .ne 7, 3)) (by decide)) ?_
  refine And.intro (k_iconst (pc := 8) (by decide +kernel : decode cX12_fine 8 = .ok (.iconst 1, 1)) (by decide)) ?_
  refine And.intro (k_goto (pc := 9) (by decide +kernel : decode cX12_fine 9 = .ok (.goto 4, 3)) (by decide)) ?_
  refine And.intro (k_iconst (pc := 12) (by decide +kernel : decode cX12_fine 12 = .ok (.iconst 0, 1)) (by decide)) ?_
  refine And.intro (k_zreturn (pc := 13) rfl (by decide +kernel : decode cX12_fine 13 = .ok (.ireturn, 1))) ?_
  exact trivial
theorem cdX12_fine : Cond.code yX12_fine cX12_fine 1 (some .boolean) ∈ zWs := zWs_in 1244 (by decide +kernel) rfl
noncomputable def pgX12_fault : zPg := [(0, o_al 0), (1, o_vr2 yX12_fine 12 1), (4, o_if_eq 12), (7, o_al 0), (8, o_il 1), (9, o_pI 12 10), (12, o_vr)]
set_option maxRecDepth 20000 in
theorem pkX12_fault {G : zG} (hG : zGok G) (Q : zRt) : zPOK G (zRm 1) RX12 cX12_fault 2 none (zF G Q 0 0) 0 0 (zCalls G 1) Q pgX12_fault := by
  refine And.intro (k_aload_n (pc := 0) (by decide +kernel : decode cX12_fault 0 = .ok (.aload_n 0, 1)) rfl) ?_
  refine And.intro (k_crV (n := 0) (pc := 1) hG (zRoom_self 1) (tag := 12) rfl ini_X12 im_X12_fine se_X12_fine mk_X12_100 dy_X12_fine (by decide +kernel : decode cX12_fault 1 = .ok (.invokevirtual 100, 3))) ?_
  refine And.intro (k_if_eq (pc := 4) (by decide +kernel : decode cX12_fault 4 = .ok (.ifCond .eq 8, 3)) (by decide)) ?_
  refine And.intro (k_aload_n (pc := 7) (by decide +kernel : decode cX12_fault 7 = .ok (.aload_n 0, 1)) rfl) ?_
  refine And.intro (k_iload_n (pc := 8) (by decide +kernel : decode cX12_fault 8 = .ok (.iload_n 1, 1)) rfl) ?_
  refine And.intro (k_pI (pc := 9) rfl (by decide) rfl zin12 lk_X12_97 tyX12_ok nmX12 rfl (by decide +kernel) (by decide +kernel : decode cX12_fault 9 = .ok (.putfield 97, 3))) ?_
  refine And.intro (k_return (pc := 12) rfl (by decide +kernel : decode cX12_fault 12 = .ok (.return_, 1))) ?_
  exact trivial
theorem cdX12_fault : Cond.code yX12_fault cX12_fault 2 none ∈ zWs := zWs_in 1268 (by decide +kernel) rfl
noncomputable def pgX12_passes : zPg := [(0, o_al 0), (1, o_vr2 yX12_fine 12 1), (4, o_if_eq 15), (7, o_al 0), (8, o_vr2 yX12_here 12 1), (11, o_il 1), (12, o_ic_eq 17), (15, o_ic (0)), (16, o_zr), (17, o_al 0), (18, o_dup), (19, o_gI 12 9), (22, o_ic (1)), (23, o_iadd), (24, o_pI 12 9), (27, o_ic (1)), (28, o_zr)]
set_option maxRecDepth 20000 in
theorem pkX12_passes {G : zG} (hG : zGok G) (Q : zRt) : zPOK G (zRm 1) RX12 cX12_passes 2 (some .boolean) (zF G Q 0 0) 0 0 (zCalls G 1) Q pgX12_passes := by
  refine And.intro (k_aload_n (pc := 0) (by decide +kernel : decode cX12_passes 0 = .ok (.aload_n 0, 1)) rfl) ?_
  refine And.intro (k_crV (n := 0) (pc := 1) hG (zRoom_self 1) (tag := 12) rfl ini_X12 im_X12_fine se_X12_fine mk_X12_100 dy_X12_fine (by decide +kernel : decode cX12_passes 1 = .ok (.invokevirtual 100, 3))) ?_
  refine And.intro (k_if_eq (pc := 4) (by decide +kernel : decode cX12_passes 4 = .ok (.ifCond .eq 11, 3)) (by decide)) ?_
  refine And.intro (k_aload_n (pc := 7) (by decide +kernel : decode cX12_passes 7 = .ok (.aload_n 0, 1)) rfl) ?_
  refine And.intro (k_crV (n := 0) (pc := 8) hG (zRoom_self 1) (tag := 12) rfl ini_X12 im_X12_here se_X12_here mk_X12_104 dy_X12_here (by decide +kernel : decode cX12_passes 8 = .ok (.invokevirtual 104, 3))) ?_
  refine And.intro (k_iload_n (pc := 11) (by decide +kernel : decode cX12_passes 11 = .ok (.iload_n 1, 1)) rfl) ?_
  refine And.intro (k_icmp_eq (pc := 12) (by decide +kernel : decode cX12_passes 12 = .ok (.if_icmp .eq 5, 3)) (by decide)) ?_
  refine And.intro (k_iconst (pc := 15) (by decide +kernel : decode cX12_passes 15 = .ok (.iconst 0, 1)) (by decide)) ?_
  refine And.intro (k_zreturn (pc := 16) rfl (by decide +kernel : decode cX12_passes 16 = .ok (.ireturn, 1))) ?_
  refine And.intro (k_aload_n (pc := 17) (by decide +kernel : decode cX12_passes 17 = .ok (.aload_n 0, 1)) rfl) ?_
  refine And.intro (k_dup (pc := 18) (by decide +kernel : decode cX12_passes 18 = .ok (.dup, 1))) ?_
  refine And.intro (k_gI (pc := 19) rfl (by decide) rfl zin12 lk_X12_94 (by decide +kernel : decode cX12_passes 19 = .ok (.getfield 94, 3))) ?_
  refine And.intro (k_iconst (pc := 22) (by decide +kernel : decode cX12_passes 22 = .ok (.iconst 1, 1)) (by decide)) ?_
  refine And.intro (k_iadd (pc := 23) (by decide +kernel : decode cX12_passes 23 = .ok (.iadd, 1))) ?_
  refine And.intro (k_pI (pc := 24) rfl (by decide) rfl zin12 lk_X12_94 tyX12_ok nmX12 rfl (by decide +kernel) (by decide +kernel : decode cX12_passes 24 = .ok (.putfield 94, 3))) ?_
  refine And.intro (k_iconst (pc := 27) (by decide +kernel : decode cX12_passes 27 = .ok (.iconst 1, 1)) (by decide)) ?_
  refine And.intro (k_zreturn (pc := 28) rfl (by decide +kernel : decode cX12_passes 28 = .ok (.ireturn, 1))) ?_
  exact trivial
theorem cdX12_passes : Cond.code yX12_passes cX12_passes 2 (some .boolean) ∈ zWs := zWs_in 1256 (by decide +kernel) rfl
noncomputable def pgX12_need : zPg := [(0, o_al 0), (1, o_il 1), (2, o_vr2 yX12_passes 12 2), (5, o_if_ne 16), (8, o_al 0), (9, o_al 0), (10, o_gI 12 9), (13, o_vv yX12_fault 12 2), (16, o_vr)]
set_option maxRecDepth 20000 in
theorem pkX12_need {G : zG} (hG : zGok G) (Q : zRt) : zPOK G (zRm 2) RX12 cX12_need 2 none (zF G Q 0 0) 0 0 (zCalls G 2) Q pgX12_need := by
  refine And.intro (k_aload_n (pc := 0) (by decide +kernel : decode cX12_need 0 = .ok (.aload_n 0, 1)) rfl) ?_
  refine And.intro (k_iload_n (pc := 1) (by decide +kernel : decode cX12_need 1 = .ok (.iload_n 1, 1)) rfl) ?_
  refine And.intro (k_crV (n := 1) (pc := 2) hG (zRoom_self 2) (tag := 12) rfl ini_X12 im_X12_passes se_X12_passes mk_X12_108 dy_X12_passes (by decide +kernel : decode cX12_need 2 = .ok (.invokevirtual 108, 3))) ?_
  refine And.intro (k_if_ne (pc := 5) (by decide +kernel : decode cX12_need 5 = .ok (.ifCond .ne 11, 3)) (by decide)) ?_
  refine And.intro (k_aload_n (pc := 8) (by decide +kernel : decode cX12_need 8 = .ok (.aload_n 0, 1)) rfl) ?_
  refine And.intro (k_aload_n (pc := 9) (by decide +kernel : decode cX12_need 9 = .ok (.aload_n 0, 1)) rfl) ?_
  refine And.intro (k_gI (pc := 10) rfl (by decide) rfl zin12 lk_X12_94 (by decide +kernel : decode cX12_need 10 = .ok (.getfield 94, 3))) ?_
  refine And.intro (k_cvV (n := 1) (pc := 13) hG (zRoom_self 2) (tag := 12) rfl ini_X12 im_X12_fault se_X12_fault mk_X12_112 dy_X12_fault (by decide +kernel : decode cX12_need 13 = .ok (.invokevirtual 112, 3))) ?_
  refine And.intro (k_return (pc := 16) rfl (by decide +kernel : decode cX12_need 16 = .ok (.return_, 1))) ?_
  exact trivial
theorem cdX12_need : Cond.code yX12_need cX12_need 2 none ∈ zWs := zWs_in 1264 (by decide +kernel) rfl
noncomputable def pgX12_digit : zPg := [(0, o_al 0), (1, o_vr2 yX12_fine 12 1), (4, o_if_ne 9), (7, o_ic (0)), (8, o_ir), (9, o_al 0), (10, o_vr2 yX12_here 12 1), (13, o_ic (48)), (15, o_ic (48)), (17, o_il 1), (18, o_iadd), (19, o_ic (1)), (20, o_isub), (21, o_cr yX12_in 3), (24, o_if_ne 37), (27, o_al 0), (28, o_al 0), (29, o_gI 12 9), (32, o_vv yX12_fault 12 2), (35, o_ic (0)), (36, o_ir), (37, o_al 0), (38, o_dup), (39, o_gI 12 9), (42, o_ic (1)), (43, o_iadd), (44, o_pI 12 9), (47, o_al 0), (48, o_gR 12 1), (51, o_al 0), (52, o_gI 12 9), (55, o_ic (1)), (56, o_isub), (57, o_xI 13), (58, o_ic (48)), (60, o_isub), (61, o_ir)]
set_option maxRecDepth 20000 in
theorem pkX12_digit {G : zG} (hG : zGok G) (Q : zRt) : zPOK G (zRm 2) RX12 cX12_digit 2 (some .int) (zF G Q 0 0) 0 0 (zCalls G 2) Q pgX12_digit := by
  refine And.intro (k_aload_n (pc := 0) (by decide +kernel : decode cX12_digit 0 = .ok (.aload_n 0, 1)) rfl) ?_
  refine And.intro (k_crV (n := 0) (pc := 1) hG (zRoom_self 2) (tag := 12) rfl ini_X12 im_X12_fine se_X12_fine mk_X12_100 dy_X12_fine (by decide +kernel : decode cX12_digit 1 = .ok (.invokevirtual 100, 3))) ?_
  refine And.intro (k_if_ne (pc := 4) (by decide +kernel : decode cX12_digit 4 = .ok (.ifCond .ne 5, 3)) (by decide)) ?_
  refine And.intro (k_iconst (pc := 7) (by decide +kernel : decode cX12_digit 7 = .ok (.iconst 0, 1)) (by decide)) ?_
  refine And.intro (k_ireturn (pc := 8) rfl (by decide +kernel : decode cX12_digit 8 = .ok (.ireturn, 1))) ?_
  refine And.intro (k_aload_n (pc := 9) (by decide +kernel : decode cX12_digit 9 = .ok (.aload_n 0, 1)) rfl) ?_
  refine And.intro (k_crV (n := 0) (pc := 10) hG (zRoom_self 2) (tag := 12) rfl ini_X12 im_X12_here se_X12_here mk_X12_104 dy_X12_here (by decide +kernel : decode cX12_digit 10 = .ok (.invokevirtual 104, 3))) ?_
  refine And.intro (k_bipush (pc := 13) (by decide +kernel : decode cX12_digit 13 = .ok (.bipush 48, 2)) (by decide)) ?_
  refine And.intro (k_bipush (pc := 15) (by decide +kernel : decode cX12_digit 15 = .ok (.bipush 48, 2)) (by decide)) ?_
  refine And.intro (k_iload_n (pc := 17) (by decide +kernel : decode cX12_digit 17 = .ok (.iload_n 1, 1)) rfl) ?_
  refine And.intro (k_iadd (pc := 18) (by decide +kernel : decode cX12_digit 18 = .ok (.iadd, 1))) ?_
  refine And.intro (k_iconst (pc := 19) (by decide +kernel : decode cX12_digit 19 = .ok (.iconst 1, 1)) (by decide)) ?_
  refine And.intro (k_isub (pc := 20) (by decide +kernel : decode cX12_digit 20 = .ok (.isub, 1))) ?_
  refine And.intro (k_crS (n := 3) (pc := 21) hG (zRoom_self 2) ini_X12 sta_X12_in mk_X12_87 dy_X12_in (by decide +kernel : decode cX12_digit 21 = .ok (.invokestatic 87, 3))) ?_
  refine And.intro (k_if_ne (pc := 24) (by decide +kernel : decode cX12_digit 24 = .ok (.ifCond .ne 13, 3)) (by decide)) ?_
  refine And.intro (k_aload_n (pc := 27) (by decide +kernel : decode cX12_digit 27 = .ok (.aload_n 0, 1)) rfl) ?_
  refine And.intro (k_aload_n (pc := 28) (by decide +kernel : decode cX12_digit 28 = .ok (.aload_n 0, 1)) rfl) ?_
  refine And.intro (k_gI (pc := 29) rfl (by decide) rfl zin12 lk_X12_94 (by decide +kernel : decode cX12_digit 29 = .ok (.getfield 94, 3))) ?_
  refine And.intro (k_cvV (n := 1) (pc := 32) hG (zRoom_self 2) (tag := 12) rfl ini_X12 im_X12_fault se_X12_fault mk_X12_112 dy_X12_fault (by decide +kernel : decode cX12_digit 32 = .ok (.invokevirtual 112, 3))) ?_
  refine And.intro (k_iconst (pc := 35) (by decide +kernel : decode cX12_digit 35 = .ok (.iconst 0, 1)) (by decide)) ?_
  refine And.intro (k_ireturn (pc := 36) rfl (by decide +kernel : decode cX12_digit 36 = .ok (.ireturn, 1))) ?_
  refine And.intro (k_aload_n (pc := 37) (by decide +kernel : decode cX12_digit 37 = .ok (.aload_n 0, 1)) rfl) ?_
  refine And.intro (k_dup (pc := 38) (by decide +kernel : decode cX12_digit 38 = .ok (.dup, 1))) ?_
  refine And.intro (k_gI (pc := 39) rfl (by decide) rfl zin12 lk_X12_94 (by decide +kernel : decode cX12_digit 39 = .ok (.getfield 94, 3))) ?_
  refine And.intro (k_iconst (pc := 42) (by decide +kernel : decode cX12_digit 42 = .ok (.iconst 1, 1)) (by decide)) ?_
  refine And.intro (k_iadd (pc := 43) (by decide +kernel : decode cX12_digit 43 = .ok (.iadd, 1))) ?_
  refine And.intro (k_pI (pc := 44) rfl (by decide) rfl zin12 lk_X12_94 tyX12_ok nmX12 rfl (by decide +kernel) (by decide +kernel : decode cX12_digit 44 = .ok (.putfield 94, 3))) ?_
  refine And.intro (k_aload_n (pc := 47) (by decide +kernel : decode cX12_digit 47 = .ok (.aload_n 0, 1)) rfl) ?_
  refine And.intro (k_gR (pc := 48) rfl (by decide) rfl zin12 lk_X12_13 (by decide +kernel : decode cX12_digit 48 = .ok (.getfield 13, 3))) ?_
  refine And.intro (k_aload_n (pc := 51) (by decide +kernel : decode cX12_digit 51 = .ok (.aload_n 0, 1)) rfl) ?_
  refine And.intro (k_gI (pc := 52) rfl (by decide) rfl zin12 lk_X12_94 (by decide +kernel : decode cX12_digit 52 = .ok (.getfield 94, 3))) ?_
  refine And.intro (k_iconst (pc := 55) (by decide +kernel : decode cX12_digit 55 = .ok (.iconst 1, 1)) (by decide)) ?_
  refine And.intro (k_isub (pc := 56) (by decide +kernel : decode cX12_digit 56 = .ok (.isub, 1))) ?_
  refine And.intro (k_bald (pc := 57) (by decide +kernel : decode cX12_digit 57 = .ok (.baload, 1))) ?_
  refine And.intro (k_bipush (pc := 58) (by decide +kernel : decode cX12_digit 58 = .ok (.bipush 48, 2)) (by decide)) ?_
  refine And.intro (k_isub (pc := 60) (by decide +kernel : decode cX12_digit 60 = .ok (.isub, 1))) ?_
  refine And.intro (k_ireturn (pc := 61) rfl (by decide +kernel : decode cX12_digit 61 = .ok (.ireturn, 1))) ?_
  exact trivial
theorem cdX12_digit : Cond.code yX12_digit cX12_digit 2 (some .int) ∈ zWs := zWs_in 1272 (by decide +kernel) rfl
noncomputable def pgX12_sided : zPg := [(0, o_al 0), (1, o_ic (45)), (3, o_vr2 yX12_passes 12 2), (6, o_if_eq 11), (9, o_ic (-1)), (10, o_ir), (11, o_al 0), (12, o_ic (43)), (14, o_vv yX12_need 12 2), (17, o_ic (1)), (18, o_ir)]
set_option maxRecDepth 20000 in
theorem pkX12_sided {G : zG} (hG : zGok G) (Q : zRt) : zPOK G (zRm 3) RX12 cX12_sided 1 (some .int) (zF G Q 0 0) 0 0 (zCalls G 3) Q pgX12_sided := by
  refine And.intro (k_aload_n (pc := 0) (by decide +kernel : decode cX12_sided 0 = .ok (.aload_n 0, 1)) rfl) ?_
  refine And.intro (k_bipush (pc := 1) (by decide +kernel : decode cX12_sided 1 = .ok (.bipush 45, 2)) (by decide)) ?_
  refine And.intro (k_crV (n := 1) (pc := 3) hG (zRoom_self 3) (tag := 12) rfl ini_X12 im_X12_passes se_X12_passes mk_X12_108 dy_X12_passes (by decide +kernel : decode cX12_sided 3 = .ok (.invokevirtual 108, 3))) ?_
  refine And.intro (k_if_eq (pc := 6) (by decide +kernel : decode cX12_sided 6 = .ok (.ifCond .eq 5, 3)) (by decide)) ?_
  refine And.intro (k_iconst (pc := 9) (by decide +kernel : decode cX12_sided 9 = .ok (.iconst (-1), 1)) (by decide)) ?_
  refine And.intro (k_ireturn (pc := 10) rfl (by decide +kernel : decode cX12_sided 10 = .ok (.ireturn, 1))) ?_
  refine And.intro (k_aload_n (pc := 11) (by decide +kernel : decode cX12_sided 11 = .ok (.aload_n 0, 1)) rfl) ?_
  refine And.intro (k_bipush (pc := 12) (by decide +kernel : decode cX12_sided 12 = .ok (.bipush 43, 2)) (by decide)) ?_
  refine And.intro (k_cvV (n := 1) (pc := 14) hG (zRoom_self 3) (tag := 12) rfl ini_X12 im_X12_need se_X12_need mk_X12_116 dy_X12_need (by decide +kernel : decode cX12_sided 14 = .ok (.invokevirtual 116, 3))) ?_
  refine And.intro (k_iconst (pc := 17) (by decide +kernel : decode cX12_sided 17 = .ok (.iconst 1, 1)) (by decide)) ?_
  refine And.intro (k_ireturn (pc := 18) rfl (by decide +kernel : decode cX12_sided 18 = .ok (.ireturn, 1))) ?_
  exact trivial
theorem cdX12_sided : Cond.code yX12_sided cX12_sided 1 (some .int) ∈ zWs := zWs_in 1252 (by decide +kernel) rfl
noncomputable def pgX12_wasRight : zPg := [(0, o_al 0), (1, o_gI 12 9), (4, o_al 0), (5, o_gI 12 8), (8, o_ic_ge 19), (11, o_al 0), (12, o_al 0), (13, o_gI 12 9), (16, o_vv yX12_fault 12 2), (19, o_al 0), (20, o_vr2 yX12_fine 12 1), (23, o_zr)]
set_option maxRecDepth 20000 in
theorem pkX12_wasRight {G : zG} (hG : zGok G) (Q : zRt) : zPOK G (zRm 2) RX12 cX12_wasRight 1 (some .boolean) (zF G Q 0 0) 0 0 (zCalls G 2) Q pgX12_wasRight := by
  refine And.intro (k_aload_n (pc := 0) (by decide +kernel : decode cX12_wasRight 0 = .ok (.aload_n 0, 1)) rfl) ?_
  refine And.intro (k_gI (pc := 1) rfl (by decide) rfl zin12 lk_X12_94 (by decide +kernel : decode cX12_wasRight 1 = .ok (.getfield 94, 3))) ?_
  refine And.intro (k_aload_n (pc := 4) (by decide +kernel : decode cX12_wasRight 4 = .ok (.aload_n 0, 1)) rfl) ?_
  refine And.intro (k_gI (pc := 5) rfl (by decide) rfl zin12 lk_X12_91 (by decide +kernel : decode cX12_wasRight 5 = .ok (.getfield 91, 3))) ?_
  refine And.intro (k_icmp_ge (pc := 8) (by decide +kernel : decode cX12_wasRight 8 = .ok (.if_icmp .ge 11, 3)) (by decide)) ?_
  refine And.intro (k_aload_n (pc := 11) (by decide +kernel : decode cX12_wasRight 11 = .ok (.aload_n 0, 1)) rfl) ?_
  refine And.intro (k_aload_n (pc := 12) (by decide +kernel : decode cX12_wasRight 12 = .ok (.aload_n 0, 1)) rfl) ?_
  refine And.intro (k_gI (pc := 13) rfl (by decide) rfl zin12 lk_X12_94 (by decide +kernel : decode cX12_wasRight 13 = .ok (.getfield 94, 3))) ?_
  refine And.intro (k_cvV (n := 1) (pc := 16) hG (zRoom_self 2) (tag := 12) rfl ini_X12 im_X12_fault se_X12_fault mk_X12_112 dy_X12_fault (by decide +kernel : decode cX12_wasRight 16 = .ok (.invokevirtual 112, 3))) ?_
  refine And.intro (k_aload_n (pc := 19) (by decide +kernel : decode cX12_wasRight 19 = .ok (.aload_n 0, 1)) rfl) ?_
  refine And.intro (k_crV (n := 0) (pc := 20) hG (zRoom_self 2) (tag := 12) rfl ini_X12 im_X12_fine se_X12_fine mk_X12_100 dy_X12_fine (by decide +kernel : decode cX12_wasRight 20 = .ok (.invokevirtual 100, 3))) ?_
  refine And.intro (k_zreturn (pc := 23) rfl (by decide +kernel : decode cX12_wasRight 23 = .ok (.ireturn, 1))) ?_
  exact trivial
theorem cdX12_wasRight : Cond.code yX12_wasRight cX12_wasRight 1 (some .boolean) ∈ zWs := zWs_in 1276 (by decide +kernel) rfl
noncomputable def pgX12_readRow : zPg := [(0, o_al 0), (1, o_vr2 yX12_sided 12 1), (4, o_is 2), (5, o_al 0), (6, o_gR 12 11), (9, o_il 1), (10, o_il 2), (11, o_al 0), (12, o_ic (6)), (14, o_vr2 yX12_digit 12 2), (17, o_imul), (18, o_yI), (19, o_al 0), (20, o_ic (120)), (22, o_vv yX12_need 12 2), (25, o_al 0), (26, o_vr2 yX12_sided 12 1), (29, o_is 2), (30, o_al 0), (31, o_gR 12 11), (34, o_il 1), (35, o_ic (1)), (36, o_iadd), (37, o_il 2), (38, o_al 0), (39, o_ic (6)), (41, o_vr2 yX12_digit 12 2), (44, o_imul), (45, o_yI), (46, o_al 0), (47, o_ic (121)), (49, o_vv yX12_need 12 2), (52, o_al 0), (53, o_ic (60)), (55, o_vv yX12_need 12 2), (58, o_al 0), (59, o_ic (45)), (61, o_vr2 yX12_passes 12 2), (64, o_if_eq 71), (67, o_ic (-1)), (68, o_go 72), (71, o_ic (1)), (72, o_is 2), (73, o_al 0), (74, o_ic (10)), (76, o_vr2 yX12_digit 12 2), (79, o_is 3), (80, o_al 0), (81, o_vr2 yX12_fine 12 1), (84, o_if_eq 113), (87, o_al 0), (88, o_vr2 yX12_here 12 1), (91, o_ic (48)), (93, o_ic (57)), (95, o_cr yX12_in 3), (98, o_if_eq 113), (101, o_ic (10)), (103, o_il 3), (104, o_imul), (105, o_al 0), (106, o_ic (10)), (108, o_vr2 yX12_digit 12 2), (111, o_iadd), (112, o_is 3), (113, o_al 0), (114, o_gR 12 11), (117, o_il 1), (118, o_ic (2)), (119, o_iadd), (120, o_il 2), (121, o_il 3), (122, o_imul), (123, o_yI), (124, o_vr)]
set_option maxRecDepth 20000 in
theorem pkX12_readRow {G : zG} (hG : zGok G) (Q : zRt) : zPOK G (zRm 4) RX12 cX12_readRow 4 none (zF G Q 0 0) 0 0 (zCalls G 4) Q pgX12_readRow := by
  refine And.intro (k_aload_n (pc := 0) (by decide +kernel : decode cX12_readRow 0 = .ok (.aload_n 0, 1)) rfl) ?_
  refine And.intro (k_crV (n := 0) (pc := 1) hG (zRoom_self 4) (tag := 12) rfl ini_X12 im_X12_sided se_X12_sided mk_X12_120 dy_X12_sided (by decide +kernel : decode cX12_readRow 1 = .ok (.invokevirtual 120, 3))) ?_
  refine And.intro (k_istore_n (pc := 4) (by decide +kernel : decode cX12_readRow 4 = .ok (.istore_n 2, 1)) rfl) ?_
  refine And.intro (k_aload_n (pc := 5) (by decide +kernel : decode cX12_readRow 5 = .ok (.aload_n 0, 1)) rfl) ?_
  refine And.intro (k_gR (pc := 6) rfl (by decide) rfl zin12 lk_X12_21 (by decide +kernel : decode cX12_readRow 6 = .ok (.getfield 21, 3))) ?_
  refine And.intro (k_iload_n (pc := 9) (by decide +kernel : decode cX12_readRow 9 = .ok (.iload_n 1, 1)) rfl) ?_
  refine And.intro (k_iload_n (pc := 10) (by decide +kernel : decode cX12_readRow 10 = .ok (.iload_n 2, 1)) rfl) ?_
  refine And.intro (k_aload_n (pc := 11) (by decide +kernel : decode cX12_readRow 11 = .ok (.aload_n 0, 1)) rfl) ?_
  refine And.intro (k_bipush (pc := 12) (by decide +kernel : decode cX12_readRow 12 = .ok (.bipush 6, 2)) (by decide)) ?_
  refine And.intro (k_crV (n := 1) (pc := 14) hG (zRoom_self 4) (tag := 12) rfl ini_X12 im_X12_digit se_X12_digit mk_X12_123 dy_X12_digit (by decide +kernel : decode cX12_readRow 14 = .ok (.invokevirtual 123, 3))) ?_
  refine And.intro (k_imul (pc := 17) (by decide +kernel : decode cX12_readRow 17 = .ok (.imul, 1))) ?_
  refine And.intro (k_iast (pc := 18) (by decide +kernel : decode cX12_readRow 18 = .ok (.iastore, 1))) ?_
  refine And.intro (k_aload_n (pc := 19) (by decide +kernel : decode cX12_readRow 19 = .ok (.aload_n 0, 1)) rfl) ?_
  refine And.intro (k_bipush (pc := 20) (by decide +kernel : decode cX12_readRow 20 = .ok (.bipush 120, 2)) (by decide)) ?_
  refine And.intro (k_cvV (n := 1) (pc := 22) hG (zRoom_self 4) (tag := 12) rfl ini_X12 im_X12_need se_X12_need mk_X12_116 dy_X12_need (by decide +kernel : decode cX12_readRow 22 = .ok (.invokevirtual 116, 3))) ?_
  refine And.intro (k_aload_n (pc := 25) (by decide +kernel : decode cX12_readRow 25 = .ok (.aload_n 0, 1)) rfl) ?_
  refine And.intro (k_crV (n := 0) (pc := 26) hG (zRoom_self 4) (tag := 12) rfl ini_X12 im_X12_sided se_X12_sided mk_X12_120 dy_X12_sided (by decide +kernel : decode cX12_readRow 26 = .ok (.invokevirtual 120, 3))) ?_
  refine And.intro (k_istore_n (pc := 29) (by decide +kernel : decode cX12_readRow 29 = .ok (.istore_n 2, 1)) rfl) ?_
  refine And.intro (k_aload_n (pc := 30) (by decide +kernel : decode cX12_readRow 30 = .ok (.aload_n 0, 1)) rfl) ?_
  refine And.intro (k_gR (pc := 31) rfl (by decide) rfl zin12 lk_X12_21 (by decide +kernel : decode cX12_readRow 31 = .ok (.getfield 21, 3))) ?_
  refine And.intro (k_iload_n (pc := 34) (by decide +kernel : decode cX12_readRow 34 = .ok (.iload_n 1, 1)) rfl) ?_
  refine And.intro (k_iconst (pc := 35) (by decide +kernel : decode cX12_readRow 35 = .ok (.iconst 1, 1)) (by decide)) ?_
  refine And.intro (k_iadd (pc := 36) (by decide +kernel : decode cX12_readRow 36 = .ok (.iadd, 1))) ?_
  refine And.intro (k_iload_n (pc := 37) (by decide +kernel : decode cX12_readRow 37 = .ok (.iload_n 2, 1)) rfl) ?_
  refine And.intro (k_aload_n (pc := 38) (by decide +kernel : decode cX12_readRow 38 = .ok (.aload_n 0, 1)) rfl) ?_
  refine And.intro (k_bipush (pc := 39) (by decide +kernel : decode cX12_readRow 39 = .ok (.bipush 6, 2)) (by decide)) ?_
  refine And.intro (k_crV (n := 1) (pc := 41) hG (zRoom_self 4) (tag := 12) rfl ini_X12 im_X12_digit se_X12_digit mk_X12_123 dy_X12_digit (by decide +kernel : decode cX12_readRow 41 = .ok (.invokevirtual 123, 3))) ?_
  refine And.intro (k_imul (pc := 44) (by decide +kernel : decode cX12_readRow 44 = .ok (.imul, 1))) ?_
  refine And.intro (k_iast (pc := 45) (by decide +kernel : decode cX12_readRow 45 = .ok (.iastore, 1))) ?_
  refine And.intro (k_aload_n (pc := 46) (by decide +kernel : decode cX12_readRow 46 = .ok (.aload_n 0, 1)) rfl) ?_
  refine And.intro (k_bipush (pc := 47) (by decide +kernel : decode cX12_readRow 47 = .ok (.bipush 121, 2)) (by decide)) ?_
  refine And.intro (k_cvV (n := 1) (pc := 49) hG (zRoom_self 4) (tag := 12) rfl ini_X12 im_X12_need se_X12_need mk_X12_116 dy_X12_need (by decide +kernel : decode cX12_readRow 49 = .ok (.invokevirtual 116, 3))) ?_
  refine And.intro (k_aload_n (pc := 52) (by decide +kernel : decode cX12_readRow 52 = .ok (.aload_n 0, 1)) rfl) ?_
  refine And.intro (k_bipush (pc := 53) (by decide +kernel : decode cX12_readRow 53 = .ok (.bipush 60, 2)) (by decide)) ?_
  refine And.intro (k_cvV (n := 1) (pc := 55) hG (zRoom_self 4) (tag := 12) rfl ini_X12 im_X12_need se_X12_need mk_X12_116 dy_X12_need (by decide +kernel : decode cX12_readRow 55 = .ok (.invokevirtual 116, 3))) ?_
  refine And.intro (k_aload_n (pc := 58) (by decide +kernel : decode cX12_readRow 58 = .ok (.aload_n 0, 1)) rfl) ?_
  refine And.intro (k_bipush (pc := 59) (by decide +kernel : decode cX12_readRow 59 = .ok (.bipush 45, 2)) (by decide)) ?_
  refine And.intro (k_crV (n := 1) (pc := 61) hG (zRoom_self 4) (tag := 12) rfl ini_X12 im_X12_passes se_X12_passes mk_X12_108 dy_X12_passes (by decide +kernel : decode cX12_readRow 61 = .ok (.invokevirtual 108, 3))) ?_
  refine And.intro (k_if_eq (pc := 64) (by decide +kernel : decode cX12_readRow 64 = .ok (.ifCond .eq 7, 3)) (by decide)) ?_
  refine And.intro (k_iconst (pc := 67) (by decide +kernel : decode cX12_readRow 67 = .ok (.iconst (-1), 1)) (by decide)) ?_
  refine And.intro (k_goto (pc := 68) (by decide +kernel : decode cX12_readRow 68 = .ok (.goto 4, 3)) (by decide)) ?_
  refine And.intro (k_iconst (pc := 71) (by decide +kernel : decode cX12_readRow 71 = .ok (.iconst 1, 1)) (by decide)) ?_
  refine And.intro (k_istore_n (pc := 72) (by decide +kernel : decode cX12_readRow 72 = .ok (.istore_n 2, 1)) rfl) ?_
  refine And.intro (k_aload_n (pc := 73) (by decide +kernel : decode cX12_readRow 73 = .ok (.aload_n 0, 1)) rfl) ?_
  refine And.intro (k_bipush (pc := 74) (by decide +kernel : decode cX12_readRow 74 = .ok (.bipush 10, 2)) (by decide)) ?_
  refine And.intro (k_crV (n := 1) (pc := 76) hG (zRoom_self 4) (tag := 12) rfl ini_X12 im_X12_digit se_X12_digit mk_X12_123 dy_X12_digit (by decide +kernel : decode cX12_readRow 76 = .ok (.invokevirtual 123, 3))) ?_
  refine And.intro (k_istore_n (pc := 79) (by decide +kernel : decode cX12_readRow 79 = .ok (.istore_n 3, 1)) rfl) ?_
  refine And.intro (k_aload_n (pc := 80) (by decide +kernel : decode cX12_readRow 80 = .ok (.aload_n 0, 1)) rfl) ?_
  refine And.intro (k_crV (n := 0) (pc := 81) hG (zRoom_self 4) (tag := 12) rfl ini_X12 im_X12_fine se_X12_fine mk_X12_100 dy_X12_fine (by decide +kernel : decode cX12_readRow 81 = .ok (.invokevirtual 100, 3))) ?_
  refine And.intro (k_if_eq (pc := 84) (by decide +kernel : decode cX12_readRow 84 = .ok (.ifCond .eq 29, 3)) (by decide)) ?_
  refine And.intro (k_aload_n (pc := 87) (by decide +kernel : decode cX12_readRow 87 = .ok (.aload_n 0, 1)) rfl) ?_
  refine And.intro (k_crV (n := 0) (pc := 88) hG (zRoom_self 4) (tag := 12) rfl ini_X12 im_X12_here se_X12_here mk_X12_104 dy_X12_here (by decide +kernel : decode cX12_readRow 88 = .ok (.invokevirtual 104, 3))) ?_
  refine And.intro (k_bipush (pc := 91) (by decide +kernel : decode cX12_readRow 91 = .ok (.bipush 48, 2)) (by decide)) ?_
  refine And.intro (k_bipush (pc := 93) (by decide +kernel : decode cX12_readRow 93 = .ok (.bipush 57, 2)) (by decide)) ?_
  refine And.intro (k_crS (n := 3) (pc := 95) hG (zRoom_self 4) ini_X12 sta_X12_in mk_X12_87 dy_X12_in (by decide +kernel : decode cX12_readRow 95 = .ok (.invokestatic 87, 3))) ?_
  refine And.intro (k_if_eq (pc := 98) (by decide +kernel : decode cX12_readRow 98 = .ok (.ifCond .eq 15, 3)) (by decide)) ?_
  refine And.intro (k_bipush (pc := 101) (by decide +kernel : decode cX12_readRow 101 = .ok (.bipush 10, 2)) (by decide)) ?_
  refine And.intro (k_iload_n (pc := 103) (by decide +kernel : decode cX12_readRow 103 = .ok (.iload_n 3, 1)) rfl) ?_
  refine And.intro (k_imul (pc := 104) (by decide +kernel : decode cX12_readRow 104 = .ok (.imul, 1))) ?_
  refine And.intro (k_aload_n (pc := 105) (by decide +kernel : decode cX12_readRow 105 = .ok (.aload_n 0, 1)) rfl) ?_
  refine And.intro (k_bipush (pc := 106) (by decide +kernel : decode cX12_readRow 106 = .ok (.bipush 10, 2)) (by decide)) ?_
  refine And.intro (k_crV (n := 1) (pc := 108) hG (zRoom_self 4) (tag := 12) rfl ini_X12 im_X12_digit se_X12_digit mk_X12_123 dy_X12_digit (by decide +kernel : decode cX12_readRow 108 = .ok (.invokevirtual 123, 3))) ?_
  refine And.intro (k_iadd (pc := 111) (by decide +kernel : decode cX12_readRow 111 = .ok (.iadd, 1))) ?_
  refine And.intro (k_istore_n (pc := 112) (by decide +kernel : decode cX12_readRow 112 = .ok (.istore_n 3, 1)) rfl) ?_
  refine And.intro (k_aload_n (pc := 113) (by decide +kernel : decode cX12_readRow 113 = .ok (.aload_n 0, 1)) rfl) ?_
  refine And.intro (k_gR (pc := 114) rfl (by decide) rfl zin12 lk_X12_21 (by decide +kernel : decode cX12_readRow 114 = .ok (.getfield 21, 3))) ?_
  refine And.intro (k_iload_n (pc := 117) (by decide +kernel : decode cX12_readRow 117 = .ok (.iload_n 1, 1)) rfl) ?_
  refine And.intro (k_iconst (pc := 118) (by decide +kernel : decode cX12_readRow 118 = .ok (.iconst 2, 1)) (by decide)) ?_
  refine And.intro (k_iadd (pc := 119) (by decide +kernel : decode cX12_readRow 119 = .ok (.iadd, 1))) ?_
  refine And.intro (k_iload_n (pc := 120) (by decide +kernel : decode cX12_readRow 120 = .ok (.iload_n 2, 1)) rfl) ?_
  refine And.intro (k_iload_n (pc := 121) (by decide +kernel : decode cX12_readRow 121 = .ok (.iload_n 3, 1)) rfl) ?_
  refine And.intro (k_imul (pc := 122) (by decide +kernel : decode cX12_readRow 122 = .ok (.imul, 1))) ?_
  refine And.intro (k_iast (pc := 123) (by decide +kernel : decode cX12_readRow 123 = .ok (.iastore, 1))) ?_
  refine And.intro (k_return (pc := 124) rfl (by decide +kernel : decode cX12_readRow 124 = .ok (.return_, 1))) ?_
  exact trivial
theorem cdX12_readRow : Cond.code yX12_readRow cX12_readRow 4 none ∈ zWs := zWs_in 1248 (by decide +kernel) rfl
noncomputable def pgX12_canBe : zPg := [(0, o_il 0), (1, o_ic (-5)), (3, o_ic (5)), (4, o_cr yX12_in 3), (7, o_if_eq 43), (10, o_il 1), (11, o_ic (-5)), (13, o_ic (5)), (14, o_cr yX12_in 3), (17, o_if_eq 43), (20, o_il 2), (21, o_ic (-50)), (23, o_ic (50)), (25, o_cr yX12_in 3), (28, o_if_eq 43), (31, o_il 0), (32, o_if_ne 39), (35, o_il 1), (36, o_if_eq 43), (39, o_ic (1)), (40, o_go 44), (43, o_ic (0)), (44, o_zr)]
set_option maxRecDepth 20000 in
theorem pkX12_canBe {G : zG} (hG : zGok G) (Q : zRt) : zPOK G (zRm 1) RX12 cX12_canBe 3 (some .boolean) (zF G Q 0 0) 0 0 (zCalls G 1) Q pgX12_canBe := by
  refine And.intro (k_iload_n (pc := 0) (by decide +kernel : decode cX12_canBe 0 = .ok (.iload_n 0, 1)) rfl) ?_
  refine And.intro (k_bipush (pc := 1) (by decide +kernel : decode cX12_canBe 1 = .ok (.bipush (-5), 2)) (by decide)) ?_
  refine And.intro (k_iconst (pc := 3) (by decide +kernel : decode cX12_canBe 3 = .ok (.iconst 5, 1)) (by decide)) ?_
  refine And.intro (k_crS (n := 3) (pc := 4) hG (zRoom_self 1) ini_X12 sta_X12_in mk_X12_87 dy_X12_in (by decide +kernel : decode cX12_canBe 4 = .ok (.invokestatic 87, 3))) ?_
  refine And.intro (k_if_eq (pc := 7) (by decide +kernel : decode cX12_canBe 7 = .ok (.ifCond .eq 36, 3)) (by decide)) ?_
  refine And.intro (k_iload_n (pc := 10) (by decide +kernel : decode cX12_canBe 10 = .ok (.iload_n 1, 1)) rfl) ?_
  refine And.intro (k_bipush (pc := 11) (by decide +kernel : decode cX12_canBe 11 = .ok (.bipush (-5), 2)) (by decide)) ?_
  refine And.intro (k_iconst (pc := 13) (by decide +kernel : decode cX12_canBe 13 = .ok (.iconst 5, 1)) (by decide)) ?_
  refine And.intro (k_crS (n := 3) (pc := 14) hG (zRoom_self 1) ini_X12 sta_X12_in mk_X12_87 dy_X12_in (by decide +kernel : decode cX12_canBe 14 = .ok (.invokestatic 87, 3))) ?_
  refine And.intro (k_if_eq (pc := 17) (by decide +kernel : decode cX12_canBe 17 = .ok (.ifCond .eq 26, 3)) (by decide)) ?_
  refine And.intro (k_iload_n (pc := 20) (by decide +kernel : decode cX12_canBe 20 = .ok (.iload_n 2, 1)) rfl) ?_
  refine And.intro (k_bipush (pc := 21) (by decide +kernel : decode cX12_canBe 21 = .ok (.bipush (-50), 2)) (by decide)) ?_
  refine And.intro (k_bipush (pc := 23) (by decide +kernel : decode cX12_canBe 23 = .ok (.bipush 50, 2)) (by decide)) ?_
  refine And.intro (k_crS (n := 3) (pc := 25) hG (zRoom_self 1) ini_X12 sta_X12_in mk_X12_87 dy_X12_in (by decide +kernel : decode cX12_canBe 25 = .ok (.invokestatic 87, 3))) ?_
  refine And.intro (k_if_eq (pc := 28) (by decide +kernel : decode cX12_canBe 28 = .ok (.ifCond .eq 15, 3)) (by decide)) ?_
  refine And.intro (k_iload_n (pc := 31) (by decide +kernel : decode cX12_canBe 31 = .ok (.iload_n 0, 1)) rfl) ?_
  refine And.intro (k_if_ne (pc := 32) (by decide +kernel : decode cX12_canBe 32 = .ok (.ifCond .ne 7, 3)) (by decide)) ?_
  refine And.intro (k_iload_n (pc := 35) (by decide +kernel : decode cX12_canBe 35 = .ok (.iload_n 1, 1)) rfl) ?_
  refine And.intro (k_if_eq (pc := 36) (by decide +kernel : decode cX12_canBe 36 = .ok (.ifCond .eq 7, 3)) (by decide)) ?_
  refine And.intro (k_iconst (pc := 39) (by decide +kernel : decode cX12_canBe 39 = .ok (.iconst 1, 1)) (by decide)) ?_
  refine And.intro (k_goto (pc := 40) (by decide +kernel : decode cX12_canBe 40 = .ok (.goto 4, 3)) (by decide)) ?_
  refine And.intro (k_iconst (pc := 43) (by decide +kernel : decode cX12_canBe 43 = .ok (.iconst 0, 1)) (by decide)) ?_
  refine And.intro (k_zreturn (pc := 44) rfl (by decide +kernel : decode cX12_canBe 44 = .ok (.ireturn, 1))) ?_
  exact trivial
theorem cdX12_canBe : Cond.code yX12_canBe cX12_canBe 3 (some .boolean) ∈ zWs := zWs_in 1279 (by decide +kernel) rfl
noncomputable def pgX12_note : zPg := [(0, o_al 0), (1, o_gI 12 13), (4, o_ic (8)), (6, o_ic_ne 50), (9, o_ic (0)), (10, o_is 1), (11, o_il 1), (12, o_ic (980)), (15, o_ic_ge 40), (18, o_al 0), (19, o_gR 12 12), (22, o_il 1), (23, o_al 0), (24, o_gR 12 12), (27, o_il 1), (28, o_ic (140)), (31, o_iadd), (32, o_xI 14), (33, o_yI), (34, o_inc 1 (1)), (37, o_go 11), (40, o_al 0), (41, o_dup), (42, o_gI 12 13), (45, o_ic (1)), (46, o_isub), (47, o_pI 12 13), (50, o_ic (0)), (51, o_is 1), (52, o_il 1), (53, o_ic (140)), (56, o_ic_ge 86), (59, o_al 0), (60, o_gR 12 12), (63, o_ic (140)), (66, o_al 0), (67, o_gI 12 13), (70, o_imul), (71, o_il 1), (72, o_iadd), (73, o_al 0), (74, o_gR 12 14), (77, o_il 1), (78, o_xI 14), (79, o_yI), (80, o_inc 1 (1)), (83, o_go 52), (86, o_al 0), (87, o_dup), (88, o_gI 12 13), (91, o_ic (1)), (92, o_iadd), (93, o_pI 12 13), (96, o_vr)]
set_option maxRecDepth 20000 in
theorem pkX12_note {G : zG} (hG : zGok G) (Q : zRt) : zPOK G (zRm 0) RX12 cX12_note 2 none (zF G Q 0 0) 0 0 (zCalls G 0) Q pgX12_note := by
  refine And.intro (k_aload_n (pc := 0) (by decide +kernel : decode cX12_note 0 = .ok (.aload_n 0, 1)) rfl) ?_
  refine And.intro (k_gI (pc := 1) rfl (by decide) rfl zin12 lk_X12_155 (by decide +kernel : decode cX12_note 1 = .ok (.getfield 155, 3))) ?_
  refine And.intro (k_bipush (pc := 4) (by decide +kernel : decode cX12_note 4 = .ok (.bipush 8, 2)) (by decide)) ?_
  refine And.intro (k_icmp_ne (pc := 6) (by decide +kernel : decode cX12_note 6 = .ok (.if_icmp .ne 44, 3)) (by decide)) ?_
  refine And.intro (k_iconst (pc := 9) (by decide +kernel : decode cX12_note 9 = .ok (.iconst 0, 1)) (by decide)) ?_
  refine And.intro (k_istore_n (pc := 10) (by decide +kernel : decode cX12_note 10 = .ok (.istore_n 1, 1)) rfl) ?_
  refine And.intro (k_iload_n (pc := 11) (by decide +kernel : decode cX12_note 11 = .ok (.iload_n 1, 1)) rfl) ?_
  refine And.intro (k_sipush (pc := 12) (by decide +kernel : decode cX12_note 12 = .ok (.sipush 980, 3)) (by decide)) ?_
  refine And.intro (k_icmp_ge (pc := 15) (by decide +kernel : decode cX12_note 15 = .ok (.if_icmp .ge 25, 3)) (by decide)) ?_
  refine And.intro (k_aload_n (pc := 18) (by decide +kernel : decode cX12_note 18 = .ok (.aload_n 0, 1)) rfl) ?_
  refine And.intro (k_gR (pc := 19) rfl (by decide) rfl zin12 lk_X12_24 (by decide +kernel : decode cX12_note 19 = .ok (.getfield 24, 3))) ?_
  refine And.intro (k_iload_n (pc := 22) (by decide +kernel : decode cX12_note 22 = .ok (.iload_n 1, 1)) rfl) ?_
  refine And.intro (k_aload_n (pc := 23) (by decide +kernel : decode cX12_note 23 = .ok (.aload_n 0, 1)) rfl) ?_
  refine And.intro (k_gR (pc := 24) rfl (by decide) rfl zin12 lk_X12_24 (by decide +kernel : decode cX12_note 24 = .ok (.getfield 24, 3))) ?_
  refine And.intro (k_iload_n (pc := 27) (by decide +kernel : decode cX12_note 27 = .ok (.iload_n 1, 1)) rfl) ?_
  refine And.intro (k_sipush (pc := 28) (by decide +kernel : decode cX12_note 28 = .ok (.sipush 140, 3)) (by decide)) ?_
  refine And.intro (k_iadd (pc := 31) (by decide +kernel : decode cX12_note 31 = .ok (.iadd, 1))) ?_
  refine And.intro (k_iald (pc := 32) (by decide +kernel : decode cX12_note 32 = .ok (.iaload, 1))) ?_
  refine And.intro (k_iast (pc := 33) (by decide +kernel : decode cX12_note 33 = .ok (.iastore, 1))) ?_
  refine And.intro (k_iinc (pc := 34) (by decide +kernel : decode cX12_note 34 = .ok (.iinc 1 1, 3)) (by decide)) ?_
  refine And.intro (k_goto (pc := 37) (by decide +kernel : decode cX12_note 37 = .ok (.goto (-26), 3)) (by decide)) ?_
  refine And.intro (k_aload_n (pc := 40) (by decide +kernel : decode cX12_note 40 = .ok (.aload_n 0, 1)) rfl) ?_
  refine And.intro (k_dup (pc := 41) (by decide +kernel : decode cX12_note 41 = .ok (.dup, 1))) ?_
  refine And.intro (k_gI (pc := 42) rfl (by decide) rfl zin12 lk_X12_155 (by decide +kernel : decode cX12_note 42 = .ok (.getfield 155, 3))) ?_
  refine And.intro (k_iconst (pc := 45) (by decide +kernel : decode cX12_note 45 = .ok (.iconst 1, 1)) (by decide)) ?_
  refine And.intro (k_isub (pc := 46) (by decide +kernel : decode cX12_note 46 = .ok (.isub, 1))) ?_
  refine And.intro (k_pI (pc := 47) rfl (by decide) rfl zin12 lk_X12_155 tyX12_ok nmX12 rfl (by decide +kernel) (by decide +kernel : decode cX12_note 47 = .ok (.putfield 155, 3))) ?_
  refine And.intro (k_iconst (pc := 50) (by decide +kernel : decode cX12_note 50 = .ok (.iconst 0, 1)) (by decide)) ?_
  refine And.intro (k_istore_n (pc := 51) (by decide +kernel : decode cX12_note 51 = .ok (.istore_n 1, 1)) rfl) ?_
  refine And.intro (k_iload_n (pc := 52) (by decide +kernel : decode cX12_note 52 = .ok (.iload_n 1, 1)) rfl) ?_
  refine And.intro (k_sipush (pc := 53) (by decide +kernel : decode cX12_note 53 = .ok (.sipush 140, 3)) (by decide)) ?_
  refine And.intro (k_icmp_ge (pc := 56) (by decide +kernel : decode cX12_note 56 = .ok (.if_icmp .ge 30, 3)) (by decide)) ?_
  refine And.intro (k_aload_n (pc := 59) (by decide +kernel : decode cX12_note 59 = .ok (.aload_n 0, 1)) rfl) ?_
  refine And.intro (k_gR (pc := 60) rfl (by decide) rfl zin12 lk_X12_24 (by decide +kernel : decode cX12_note 60 = .ok (.getfield 24, 3))) ?_
  refine And.intro (k_sipush (pc := 63) (by decide +kernel : decode cX12_note 63 = .ok (.sipush 140, 3)) (by decide)) ?_
  refine And.intro (k_aload_n (pc := 66) (by decide +kernel : decode cX12_note 66 = .ok (.aload_n 0, 1)) rfl) ?_
  refine And.intro (k_gI (pc := 67) rfl (by decide) rfl zin12 lk_X12_155 (by decide +kernel : decode cX12_note 67 = .ok (.getfield 155, 3))) ?_
  refine And.intro (k_imul (pc := 70) (by decide +kernel : decode cX12_note 70 = .ok (.imul, 1))) ?_
  refine And.intro (k_iload_n (pc := 71) (by decide +kernel : decode cX12_note 71 = .ok (.iload_n 1, 1)) rfl) ?_
  refine And.intro (k_iadd (pc := 72) (by decide +kernel : decode cX12_note 72 = .ok (.iadd, 1))) ?_
  refine And.intro (k_aload_n (pc := 73) (by decide +kernel : decode cX12_note 73 = .ok (.aload_n 0, 1)) rfl) ?_
  refine And.intro (k_gR (pc := 74) rfl (by decide) rfl zin12 lk_X12_27 (by decide +kernel : decode cX12_note 74 = .ok (.getfield 27, 3))) ?_
  refine And.intro (k_iload_n (pc := 77) (by decide +kernel : decode cX12_note 77 = .ok (.iload_n 1, 1)) rfl) ?_
  refine And.intro (k_iald (pc := 78) (by decide +kernel : decode cX12_note 78 = .ok (.iaload, 1))) ?_
  refine And.intro (k_iast (pc := 79) (by decide +kernel : decode cX12_note 79 = .ok (.iastore, 1))) ?_
  refine And.intro (k_iinc (pc := 80) (by decide +kernel : decode cX12_note 80 = .ok (.iinc 1 1, 3)) (by decide)) ?_
  refine And.intro (k_goto (pc := 83) (by decide +kernel : decode cX12_note 83 = .ok (.goto (-31), 3)) (by decide)) ?_
  refine And.intro (k_aload_n (pc := 86) (by decide +kernel : decode cX12_note 86 = .ok (.aload_n 0, 1)) rfl) ?_
  refine And.intro (k_dup (pc := 87) (by decide +kernel : decode cX12_note 87 = .ok (.dup, 1))) ?_
  refine And.intro (k_gI (pc := 88) rfl (by decide) rfl zin12 lk_X12_155 (by decide +kernel : decode cX12_note 88 = .ok (.getfield 155, 3))) ?_
  refine And.intro (k_iconst (pc := 91) (by decide +kernel : decode cX12_note 91 = .ok (.iconst 1, 1)) (by decide)) ?_
  refine And.intro (k_iadd (pc := 92) (by decide +kernel : decode cX12_note 92 = .ok (.iadd, 1))) ?_
  refine And.intro (k_pI (pc := 93) rfl (by decide) rfl zin12 lk_X12_155 tyX12_ok nmX12 rfl (by decide +kernel) (by decide +kernel : decode cX12_note 93 = .ok (.putfield 155, 3))) ?_
  refine And.intro (k_return (pc := 96) rfl (by decide +kernel : decode cX12_note 96 = .ok (.return_, 1))) ?_
  exact trivial
theorem cdX12_note : Cond.code yX12_note cX12_note 2 none ∈ zWs := zWs_in 1287 (by decide +kernel) rfl
noncomputable def pgX12_change : zPg := [(0, o_ic (0)), (1, o_is 1), (2, o_il 1), (3, o_ic (140)), (6, o_ic_ge 27), (9, o_al 0), (10, o_gR 12 14), (13, o_il 1), (14, o_al 0), (15, o_gR 12 0), (18, o_il 1), (19, o_xI 14), (20, o_yI), (21, o_inc 1 (1)), (24, o_go 2), (27, o_al 0), (28, o_vv yX12_note 12 1), (31, o_vr)]
set_option maxRecDepth 20000 in
theorem pkX12_change {G : zG} (hG : zGok G) (Q : zRt) : zPOK G (zRm 1) RX12 cX12_change 2 none (zF G Q 0 0) 0 0 (zCalls G 1) Q pgX12_change := by
  refine And.intro (k_iconst (pc := 0) (by decide +kernel : decode cX12_change 0 = .ok (.iconst 0, 1)) (by decide)) ?_
  refine And.intro (k_istore_n (pc := 1) (by decide +kernel : decode cX12_change 1 = .ok (.istore_n 1, 1)) rfl) ?_
  refine And.intro (k_iload_n (pc := 2) (by decide +kernel : decode cX12_change 2 = .ok (.iload_n 1, 1)) rfl) ?_
  refine And.intro (k_sipush (pc := 3) (by decide +kernel : decode cX12_change 3 = .ok (.sipush 140, 3)) (by decide)) ?_
  refine And.intro (k_icmp_ge (pc := 6) (by decide +kernel : decode cX12_change 6 = .ok (.if_icmp .ge 21, 3)) (by decide)) ?_
  refine And.intro (k_aload_n (pc := 9) (by decide +kernel : decode cX12_change 9 = .ok (.aload_n 0, 1)) rfl) ?_
  refine And.intro (k_gR (pc := 10) rfl (by decide) rfl zin12 lk_X12_27 (by decide +kernel : decode cX12_change 10 = .ok (.getfield 27, 3))) ?_
  refine And.intro (k_iload_n (pc := 13) (by decide +kernel : decode cX12_change 13 = .ok (.iload_n 1, 1)) rfl) ?_
  refine And.intro (k_aload_n (pc := 14) (by decide +kernel : decode cX12_change 14 = .ok (.aload_n 0, 1)) rfl) ?_
  refine And.intro (k_gR (pc := 15) rfl (by decide) rfl zin12 lk_X12_9 (by decide +kernel : decode cX12_change 15 = .ok (.getfield 9, 3))) ?_
  refine And.intro (k_iload_n (pc := 18) (by decide +kernel : decode cX12_change 18 = .ok (.iload_n 1, 1)) rfl) ?_
  refine And.intro (k_iald (pc := 19) (by decide +kernel : decode cX12_change 19 = .ok (.iaload, 1))) ?_
  refine And.intro (k_iast (pc := 20) (by decide +kernel : decode cX12_change 20 = .ok (.iastore, 1))) ?_
  refine And.intro (k_iinc (pc := 21) (by decide +kernel : decode cX12_change 21 = .ok (.iinc 1 1, 3)) (by decide)) ?_
  refine And.intro (k_goto (pc := 24) (by decide +kernel : decode cX12_change 24 = .ok (.goto (-22), 3)) (by decide)) ?_
  refine And.intro (k_aload_n (pc := 27) (by decide +kernel : decode cX12_change 27 = .ok (.aload_n 0, 1)) rfl) ?_
  refine And.intro (k_cvV (n := 0) (pc := 28) hG (zRoom_self 1) (tag := 12) rfl ini_X12 im_X12_note se_X12_note mk_X12_152 dy_X12_note (by decide +kernel : decode cX12_change 28 = .ok (.invokevirtual 152, 3))) ?_
  refine And.intro (k_return (pc := 31) rfl (by decide +kernel : decode cX12_change 31 = .ok (.return_, 1))) ?_
  exact trivial
theorem cdX12_change : Cond.code yX12_change cX12_change 2 none ∈ zWs := zWs_in 1283 (by decide +kernel) rfl
noncomputable def pgX12_rows : zPg := [(0, o_al 0), (1, o_ic (0)), (2, o_pI 12 5), (5, o_al 0), (6, o_vv yX12_begin 12 1), (9, o_ic (0)), (10, o_is 1), (11, o_al 0), (12, o_gI 12 8), (15, o_if_le 22), (18, o_ic (1)), (19, o_go 23), (22, o_ic (0)), (23, o_is 2), (24, o_il 2), (25, o_if_eq 101), (28, o_al 0), (29, o_vr2 yX12_fine 12 1), (32, o_if_eq 101), (35, o_al 0), (36, o_ic (3)), (37, o_il 1), (38, o_imul), (39, o_vv yX12_readRow 12 2), (42, o_inc 1 (1)), (45, o_al 0), (46, o_vr2 yX12_fine 12 1), (49, o_if_eq 65), (52, o_al 0), (53, o_vr2 yX12_here 12 1), (56, o_ic (59)), (58, o_ic_ne 65), (61, o_ic (1)), (62, o_go 66), (65, o_ic (0)), (66, o_is 2), (67, o_il 2), (68, o_if_ne 74), (71, o_go 24), (74, o_il 1), (75, o_ic (6)), (77, o_ic_ne 88), (80, o_al 0), (81, o_al 0), (82, o_gI 12 9), (85, o_vv yX12_fault 12 2), (88, o_al 0), (89, o_dup), (90, o_gI 12 9), (93, o_ic (1)), (94, o_iadd), (95, o_pI 12 9), (98, o_go 24), (101, o_al 0), (102, o_vr2 yX12_wasRight 12 1), (105, o_if_ne 115), (108, o_ic (-1)), (109, o_al 0), (110, o_gI 12 10), (113, o_isub), (114, o_ir), (115, o_ic (0)), (116, o_is 3), (117, o_il 3), (118, o_il 1), (119, o_ic_ge 167), (122, o_al 0), (123, o_gR 12 11), (126, o_ic (3)), (127, o_il 3), (128, o_imul), (129, o_xI 14), (130, o_al 0), (131, o_gR 12 11), (134, o_ic (3)), (135, o_il 3), (136, o_imul), (137, o_ic (1)), (138, o_iadd), (139, o_xI 14), (140, o_al 0), (141, o_gR 12 11), (144, o_ic (3)), (145, o_il 3), (146, o_imul), (147, o_ic (2)), (148, o_iadd), (149, o_xI 14), (150, o_cr yX12_canBe 3), (153, o_if_ne 161), (156, o_ic (-100)), (158, o_il 3), (159, o_isub), (160, o_ir), (161, o_inc 3 (1)), (164, o_go 117), (167, o_al 0), (168, o_vv yX12_change 12 1), (171, o_al 0), (172, o_gR 12 0), (175, o_ic (0)), (176, o_il 1), (177, o_yI), (178, o_ic (0)), (179, o_is 3), (180, o_il 3), (181, o_ic (18)), (183, o_ic_ge 217), (186, o_al 0), (187, o_gR 12 0), (190, o_ic (1)), (191, o_il 3), (192, o_iadd), (193, o_il 3), (194, o_ic (3)), (195, o_il 1), (196, o_imul), (197, o_ic_ge 209), (200, o_al 0), (201, o_gR 12 11), (204, o_il 3), (205, o_xI 14), (206, o_go 210), (209, o_ic (0)), (210, o_yI), (211, o_inc 3 (1)), (214, o_go 180), (217, o_il 1), (218, o_ir)]
set_option maxRecDepth 20000 in
theorem pkX12_rows {G : zG} (hG : zGok G) (Q : zRt) : zPOK G (zRm 5) RX12 cX12_rows 4 (some .int) (zF G Q 0 0) 0 0 (zCalls G 5) Q pgX12_rows := by
  refine And.intro (k_aload_n (pc := 0) (by decide +kernel : decode cX12_rows 0 = .ok (.aload_n 0, 1)) rfl) ?_
  refine And.intro (k_iconst (pc := 1) (by decide +kernel : decode cX12_rows 1 = .ok (.iconst 0, 1)) (by decide)) ?_
  refine And.intro (k_pI (pc := 2) rfl (by decide) rfl zin12 lk_X12_55 tyX12_ok nmX12 rfl (by decide +kernel) (by decide +kernel : decode cX12_rows 2 = .ok (.putfield 55, 3))) ?_
  refine And.intro (k_aload_n (pc := 5) (by decide +kernel : decode cX12_rows 5 = .ok (.aload_n 0, 1)) rfl) ?_
  refine And.intro (k_cvV (n := 0) (pc := 6) hG (zRoom_self 5) (tag := 12) rfl ini_X12 im_X12_begin se_X12_begin mk_X12_127 dy_X12_begin (by decide +kernel : decode cX12_rows 6 = .ok (.invokevirtual 127, 3))) ?_
  refine And.intro (k_iconst (pc := 9) (by decide +kernel : decode cX12_rows 9 = .ok (.iconst 0, 1)) (by decide)) ?_
  refine And.intro (k_istore_n (pc := 10) (by decide +kernel : decode cX12_rows 10 = .ok (.istore_n 1, 1)) rfl) ?_
  refine And.intro (k_aload_n (pc := 11) (by decide +kernel : decode cX12_rows 11 = .ok (.aload_n 0, 1)) rfl) ?_
  refine And.intro (k_gI (pc := 12) rfl (by decide) rfl zin12 lk_X12_91 (by decide +kernel : decode cX12_rows 12 = .ok (.getfield 91, 3))) ?_
  refine And.intro (k_if_le (pc := 15) (by decide +kernel : decode cX12_rows 15 = .ok (.ifCond .le 7, 3)) (by decide)) ?_
  refine And.intro (k_iconst (pc := 18) (by decide +kernel : decode cX12_rows 18 = .ok (.iconst 1, 1)) (by decide)) ?_
  refine And.intro (k_goto (pc := 19) (by decide +kernel : decode cX12_rows 19 = .ok (.goto 4, 3)) (by decide)) ?_
  refine And.intro (k_iconst (pc := 22) (by decide +kernel : decode cX12_rows 22 = .ok (.iconst 0, 1)) (by decide)) ?_
  refine And.intro (k_istore_n (pc := 23) (by decide +kernel : decode cX12_rows 23 = .ok (.istore_n 2, 1)) rfl) ?_
  refine And.intro (k_iload_n (pc := 24) (by decide +kernel : decode cX12_rows 24 = .ok (.iload_n 2, 1)) rfl) ?_
  refine And.intro (k_if_eq (pc := 25) (by decide +kernel : decode cX12_rows 25 = .ok (.ifCond .eq 76, 3)) (by decide)) ?_
  refine And.intro (k_aload_n (pc := 28) (by decide +kernel : decode cX12_rows 28 = .ok (.aload_n 0, 1)) rfl) ?_
  refine And.intro (k_crV (n := 0) (pc := 29) hG (zRoom_self 5) (tag := 12) rfl ini_X12 im_X12_fine se_X12_fine mk_X12_100 dy_X12_fine (by decide +kernel : decode cX12_rows 29 = .ok (.invokevirtual 100, 3))) ?_
  refine And.intro (k_if_eq (pc := 32) (by decide +kernel : decode cX12_rows 32 = .ok (.ifCond .eq 69, 3)) (by decide)) ?_
  refine And.intro (k_aload_n (pc := 35) (by decide +kernel : decode cX12_rows 35 = .ok (.aload_n 0, 1)) rfl) ?_
  refine And.intro (k_iconst (pc := 36) (by decide +kernel : decode cX12_rows 36 = .ok (.iconst 3, 1)) (by decide)) ?_
  refine And.intro (k_iload_n (pc := 37) (by decide +kernel : decode cX12_rows 37 = .ok (.iload_n 1, 1)) rfl) ?_
  refine And.intro (k_imul (pc := 38) (by decide +kernel : decode cX12_rows 38 = .ok (.imul, 1))) ?_
  refine And.intro (k_cvV (n := 1) (pc := 39) hG (zRoom_self 5) (tag := 12) rfl ini_X12 im_X12_readRow se_X12_readRow mk_X12_130 dy_X12_readRow (by decide +kernel : decode cX12_rows 39 = .ok (.invokevirtual 130, 3))) ?_
  refine And.intro (k_iinc (pc := 42) (by decide +kernel : decode cX12_rows 42 = .ok (.iinc 1 1, 3)) (by decide)) ?_
  refine And.intro (k_aload_n (pc := 45) (by decide +kernel : decode cX12_rows 45 = .ok (.aload_n 0, 1)) rfl) ?_
  refine And.intro (k_crV (n := 0) (pc := 46) hG (zRoom_self 5) (tag := 12) rfl ini_X12 im_X12_fine se_X12_fine mk_X12_100 dy_X12_fine (by decide +kernel : decode cX12_rows 46 = .ok (.invokevirtual 100, 3))) ?_
  refine And.intro (k_if_eq (pc := 49) (by decide +kernel : decode cX12_rows 49 = .ok (.ifCond .eq 16, 3)) (by decide)) ?_
  refine And.intro (k_aload_n (pc := 52) (by decide +kernel : decode cX12_rows 52 = .ok (.aload_n 0, 1)) rfl) ?_
  refine And.intro (k_crV (n := 0) (pc := 53) hG (zRoom_self 5) (tag := 12) rfl ini_X12 im_X12_here se_X12_here mk_X12_104 dy_X12_here (by decide +kernel : decode cX12_rows 53 = .ok (.invokevirtual 104, 3))) ?_
  refine And.intro (k_bipush (pc := 56) (by decide +kernel : decode cX12_rows 56 = .ok (.bipush 59, 2)) (by decide)) ?_
  refine And.intro (k_icmp_ne (pc := 58) (by decide +kernel : decode cX12_rows 58 = .ok (.if_icmp .ne 7, 3)) (by decide)) ?_
  refine And.intro (k_iconst (pc := 61) (by decide +kernel : decode cX12_rows 61 = .ok (.iconst 1, 1)) (by decide)) ?_
  refine And.intro (k_goto (pc := 62) (by decide +kernel : decode cX12_rows 62 = .ok (.goto 4, 3)) (by decide)) ?_
  refine And.intro (k_iconst (pc := 65) (by decide +kernel : decode cX12_rows 65 = .ok (.iconst 0, 1)) (by decide)) ?_
  refine And.intro (k_istore_n (pc := 66) (by decide +kernel : decode cX12_rows 66 = .ok (.istore_n 2, 1)) rfl) ?_
  refine And.intro (k_iload_n (pc := 67) (by decide +kernel : decode cX12_rows 67 = .ok (.iload_n 2, 1)) rfl) ?_
  refine And.intro (k_if_ne (pc := 68) (by decide +kernel : decode cX12_rows 68 = .ok (.ifCond .ne 6, 3)) (by decide)) ?_
  refine And.intro (k_goto (pc := 71) (by decide +kernel : decode cX12_rows 71 = .ok (.goto (-47), 3)) (by decide)) ?_
  refine And.intro (k_iload_n (pc := 74) (by decide +kernel : decode cX12_rows 74 = .ok (.iload_n 1, 1)) rfl) ?_
  refine And.intro (k_bipush (pc := 75) (by decide +kernel : decode cX12_rows 75 = .ok (.bipush 6, 2)) (by decide)) ?_
  refine And.intro (k_icmp_ne (pc := 77) (by decide +kernel : decode cX12_rows 77 = .ok (.if_icmp .ne 11, 3)) (by decide)) ?_
  refine And.intro (k_aload_n (pc := 80) (by decide +kernel : decode cX12_rows 80 = .ok (.aload_n 0, 1)) rfl) ?_
  refine And.intro (k_aload_n (pc := 81) (by decide +kernel : decode cX12_rows 81 = .ok (.aload_n 0, 1)) rfl) ?_
  refine And.intro (k_gI (pc := 82) rfl (by decide) rfl zin12 lk_X12_94 (by decide +kernel : decode cX12_rows 82 = .ok (.getfield 94, 3))) ?_
  refine And.intro (k_cvV (n := 1) (pc := 85) hG (zRoom_self 5) (tag := 12) rfl ini_X12 im_X12_fault se_X12_fault mk_X12_112 dy_X12_fault (by decide +kernel : decode cX12_rows 85 = .ok (.invokevirtual 112, 3))) ?_
  refine And.intro (k_aload_n (pc := 88) (by decide +kernel : decode cX12_rows 88 = .ok (.aload_n 0, 1)) rfl) ?_
  refine And.intro (k_dup (pc := 89) (by decide +kernel : decode cX12_rows 89 = .ok (.dup, 1))) ?_
  refine And.intro (k_gI (pc := 90) rfl (by decide) rfl zin12 lk_X12_94 (by decide +kernel : decode cX12_rows 90 = .ok (.getfield 94, 3))) ?_
  refine And.intro (k_iconst (pc := 93) (by decide +kernel : decode cX12_rows 93 = .ok (.iconst 1, 1)) (by decide)) ?_
  refine And.intro (k_iadd (pc := 94) (by decide +kernel : decode cX12_rows 94 = .ok (.iadd, 1))) ?_
  refine And.intro (k_pI (pc := 95) rfl (by decide) rfl zin12 lk_X12_94 tyX12_ok nmX12 rfl (by decide +kernel) (by decide +kernel : decode cX12_rows 95 = .ok (.putfield 94, 3))) ?_
  refine And.intro (k_goto (pc := 98) (by decide +kernel : decode cX12_rows 98 = .ok (.goto (-74), 3)) (by decide)) ?_
  refine And.intro (k_aload_n (pc := 101) (by decide +kernel : decode cX12_rows 101 = .ok (.aload_n 0, 1)) rfl) ?_
  refine And.intro (k_crV (n := 0) (pc := 102) hG (zRoom_self 5) (tag := 12) rfl ini_X12 im_X12_wasRight se_X12_wasRight mk_X12_133 dy_X12_wasRight (by decide +kernel : decode cX12_rows 102 = .ok (.invokevirtual 133, 3))) ?_
  refine And.intro (k_if_ne (pc := 105) (by decide +kernel : decode cX12_rows 105 = .ok (.ifCond .ne 10, 3)) (by decide)) ?_
  refine And.intro (k_iconst (pc := 108) (by decide +kernel : decode cX12_rows 108 = .ok (.iconst (-1), 1)) (by decide)) ?_
  refine And.intro (k_aload_n (pc := 109) (by decide +kernel : decode cX12_rows 109 = .ok (.aload_n 0, 1)) rfl) ?_
  refine And.intro (k_gI (pc := 110) rfl (by decide) rfl zin12 lk_X12_97 (by decide +kernel : decode cX12_rows 110 = .ok (.getfield 97, 3))) ?_
  refine And.intro (k_isub (pc := 113) (by decide +kernel : decode cX12_rows 113 = .ok (.isub, 1))) ?_
  refine And.intro (k_ireturn (pc := 114) rfl (by decide +kernel : decode cX12_rows 114 = .ok (.ireturn, 1))) ?_
  refine And.intro (k_iconst (pc := 115) (by decide +kernel : decode cX12_rows 115 = .ok (.iconst 0, 1)) (by decide)) ?_
  refine And.intro (k_istore_n (pc := 116) (by decide +kernel : decode cX12_rows 116 = .ok (.istore_n 3, 1)) rfl) ?_
  refine And.intro (k_iload_n (pc := 117) (by decide +kernel : decode cX12_rows 117 = .ok (.iload_n 3, 1)) rfl) ?_
  refine And.intro (k_iload_n (pc := 118) (by decide +kernel : decode cX12_rows 118 = .ok (.iload_n 1, 1)) rfl) ?_
  refine And.intro (k_icmp_ge (pc := 119) (by decide +kernel : decode cX12_rows 119 = .ok (.if_icmp .ge 48, 3)) (by decide)) ?_
  refine And.intro (k_aload_n (pc := 122) (by decide +kernel : decode cX12_rows 122 = .ok (.aload_n 0, 1)) rfl) ?_
  refine And.intro (k_gR (pc := 123) rfl (by decide) rfl zin12 lk_X12_21 (by decide +kernel : decode cX12_rows 123 = .ok (.getfield 21, 3))) ?_
  refine And.intro (k_iconst (pc := 126) (by decide +kernel : decode cX12_rows 126 = .ok (.iconst 3, 1)) (by decide)) ?_
  refine And.intro (k_iload_n (pc := 127) (by decide +kernel : decode cX12_rows 127 = .ok (.iload_n 3, 1)) rfl) ?_
  refine And.intro (k_imul (pc := 128) (by decide +kernel : decode cX12_rows 128 = .ok (.imul, 1))) ?_
  refine And.intro (k_iald (pc := 129) (by decide +kernel : decode cX12_rows 129 = .ok (.iaload, 1))) ?_
  refine And.intro (k_aload_n (pc := 130) (by decide +kernel : decode cX12_rows 130 = .ok (.aload_n 0, 1)) rfl) ?_
  refine And.intro (k_gR (pc := 131) rfl (by decide) rfl zin12 lk_X12_21 (by decide +kernel : decode cX12_rows 131 = .ok (.getfield 21, 3))) ?_
  refine And.intro (k_iconst (pc := 134) (by decide +kernel : decode cX12_rows 134 = .ok (.iconst 3, 1)) (by decide)) ?_
  refine And.intro (k_iload_n (pc := 135) (by decide +kernel : decode cX12_rows 135 = .ok (.iload_n 3, 1)) rfl) ?_
  refine And.intro (k_imul (pc := 136) (by decide +kernel : decode cX12_rows 136 = .ok (.imul, 1))) ?_
  refine And.intro (k_iconst (pc := 137) (by decide +kernel : decode cX12_rows 137 = .ok (.iconst 1, 1)) (by decide)) ?_
  refine And.intro (k_iadd (pc := 138) (by decide +kernel : decode cX12_rows 138 = .ok (.iadd, 1))) ?_
  refine And.intro (k_iald (pc := 139) (by decide +kernel : decode cX12_rows 139 = .ok (.iaload, 1))) ?_
  refine And.intro (k_aload_n (pc := 140) (by decide +kernel : decode cX12_rows 140 = .ok (.aload_n 0, 1)) rfl) ?_
  refine And.intro (k_gR (pc := 141) rfl (by decide) rfl zin12 lk_X12_21 (by decide +kernel : decode cX12_rows 141 = .ok (.getfield 21, 3))) ?_
  refine And.intro (k_iconst (pc := 144) (by decide +kernel : decode cX12_rows 144 = .ok (.iconst 3, 1)) (by decide)) ?_
  refine And.intro (k_iload_n (pc := 145) (by decide +kernel : decode cX12_rows 145 = .ok (.iload_n 3, 1)) rfl) ?_
  refine And.intro (k_imul (pc := 146) (by decide +kernel : decode cX12_rows 146 = .ok (.imul, 1))) ?_
  refine And.intro (k_iconst (pc := 147) (by decide +kernel : decode cX12_rows 147 = .ok (.iconst 2, 1)) (by decide)) ?_
  refine And.intro (k_iadd (pc := 148) (by decide +kernel : decode cX12_rows 148 = .ok (.iadd, 1))) ?_
  refine And.intro (k_iald (pc := 149) (by decide +kernel : decode cX12_rows 149 = .ok (.iaload, 1))) ?_
  refine And.intro (k_crS (n := 3) (pc := 150) hG (zRoom_self 5) ini_X12 sta_X12_canBe mk_X12_136 dy_X12_canBe (by decide +kernel : decode cX12_rows 150 = .ok (.invokestatic 136, 3))) ?_
  refine And.intro (k_if_ne (pc := 153) (by decide +kernel : decode cX12_rows 153 = .ok (.ifCond .ne 8, 3)) (by decide)) ?_
  refine And.intro (k_bipush (pc := 156) (by decide +kernel : decode cX12_rows 156 = .ok (.bipush (-100), 2)) (by decide)) ?_
  refine And.intro (k_iload_n (pc := 158) (by decide +kernel : decode cX12_rows 158 = .ok (.iload_n 3, 1)) rfl) ?_
  refine And.intro (k_isub (pc := 159) (by decide +kernel : decode cX12_rows 159 = .ok (.isub, 1))) ?_
  refine And.intro (k_ireturn (pc := 160) rfl (by decide +kernel : decode cX12_rows 160 = .ok (.ireturn, 1))) ?_
  refine And.intro (k_iinc (pc := 161) (by decide +kernel : decode cX12_rows 161 = .ok (.iinc 3 1, 3)) (by decide)) ?_
  refine And.intro (k_goto (pc := 164) (by decide +kernel : decode cX12_rows 164 = .ok (.goto (-47), 3)) (by decide)) ?_
  refine And.intro (k_aload_n (pc := 167) (by decide +kernel : decode cX12_rows 167 = .ok (.aload_n 0, 1)) rfl) ?_
  refine And.intro (k_cvV (n := 0) (pc := 168) hG (zRoom_self 5) (tag := 12) rfl ini_X12 im_X12_change se_X12_change mk_X12_139 dy_X12_change (by decide +kernel : decode cX12_rows 168 = .ok (.invokevirtual 139, 3))) ?_
  refine And.intro (k_aload_n (pc := 171) (by decide +kernel : decode cX12_rows 171 = .ok (.aload_n 0, 1)) rfl) ?_
  refine And.intro (k_gR (pc := 172) rfl (by decide) rfl zin12 lk_X12_9 (by decide +kernel : decode cX12_rows 172 = .ok (.getfield 9, 3))) ?_
  refine And.intro (k_iconst (pc := 175) (by decide +kernel : decode cX12_rows 175 = .ok (.iconst 0, 1)) (by decide)) ?_
  refine And.intro (k_iload_n (pc := 176) (by decide +kernel : decode cX12_rows 176 = .ok (.iload_n 1, 1)) rfl) ?_
  refine And.intro (k_iast (pc := 177) (by decide +kernel : decode cX12_rows 177 = .ok (.iastore, 1))) ?_
  refine And.intro (k_iconst (pc := 178) (by decide +kernel : decode cX12_rows 178 = .ok (.iconst 0, 1)) (by decide)) ?_
  refine And.intro (k_istore_n (pc := 179) (by decide +kernel : decode cX12_rows 179 = .ok (.istore_n 3, 1)) rfl) ?_
  refine And.intro (k_iload_n (pc := 180) (by decide +kernel : decode cX12_rows 180 = .ok (.iload_n 3, 1)) rfl) ?_
  refine And.intro (k_bipush (pc := 181) (by decide +kernel : decode cX12_rows 181 = .ok (.bipush 18, 2)) (by decide)) ?_
  refine And.intro (k_icmp_ge (pc := 183) (by decide +kernel : decode cX12_rows 183 = .ok (.if_icmp .ge 34, 3)) (by decide)) ?_
  refine And.intro (k_aload_n (pc := 186) (by decide +kernel : decode cX12_rows 186 = .ok (.aload_n 0, 1)) rfl) ?_
  refine And.intro (k_gR (pc := 187) rfl (by decide) rfl zin12 lk_X12_9 (by decide +kernel : decode cX12_rows 187 = .ok (.getfield 9, 3))) ?_
  refine And.intro (k_iconst (pc := 190) (by decide +kernel : decode cX12_rows 190 = .ok (.iconst 1, 1)) (by decide)) ?_
  refine And.intro (k_iload_n (pc := 191) (by decide +kernel : decode cX12_rows 191 = .ok (.iload_n 3, 1)) rfl) ?_
  refine And.intro (k_iadd (pc := 192) (by decide +kernel : decode cX12_rows 192 = .ok (.iadd, 1))) ?_
  refine And.intro (k_iload_n (pc := 193) (by decide +kernel : decode cX12_rows 193 = .ok (.iload_n 3, 1)) rfl) ?_
  refine And.intro (k_iconst (pc := 194) (by decide +kernel : decode cX12_rows 194 = .ok (.iconst 3, 1)) (by decide)) ?_
  refine And.intro (k_iload_n (pc := 195) (by decide +kernel : decode cX12_rows 195 = .ok (.iload_n 1, 1)) rfl) ?_
  refine And.intro (k_imul (pc := 196) (by decide +kernel : decode cX12_rows 196 = .ok (.imul, 1))) ?_
  refine And.intro (k_icmp_ge (pc := 197) (by decide +kernel : decode cX12_rows 197 = .ok (.if_icmp .ge 12, 3)) (by decide)) ?_
  refine And.intro (k_aload_n (pc := 200) (by decide +kernel : decode cX12_rows 200 = .ok (.aload_n 0, 1)) rfl) ?_
  refine And.intro (k_gR (pc := 201) rfl (by decide) rfl zin12 lk_X12_21 (by decide +kernel : decode cX12_rows 201 = .ok (.getfield 21, 3))) ?_
  refine And.intro (k_iload_n (pc := 204) (by decide +kernel : decode cX12_rows 204 = .ok (.iload_n 3, 1)) rfl) ?_
  refine And.intro (k_iald (pc := 205) (by decide +kernel : decode cX12_rows 205 = .ok (.iaload, 1))) ?_
  refine And.intro (k_goto (pc := 206) (by decide +kernel : decode cX12_rows 206 = .ok (.goto 4, 3)) (by decide)) ?_
  refine And.intro (k_iconst (pc := 209) (by decide +kernel : decode cX12_rows 209 = .ok (.iconst 0, 1)) (by decide)) ?_
  refine And.intro (k_iast (pc := 210) (by decide +kernel : decode cX12_rows 210 = .ok (.iastore, 1))) ?_
  refine And.intro (k_iinc (pc := 211) (by decide +kernel : decode cX12_rows 211 = .ok (.iinc 3 1, 3)) (by decide)) ?_
  refine And.intro (k_goto (pc := 214) (by decide +kernel : decode cX12_rows 214 = .ok (.goto (-34), 3)) (by decide)) ?_
  refine And.intro (k_iload_n (pc := 217) (by decide +kernel : decode cX12_rows 217 = .ok (.iload_n 1, 1)) rfl) ?_
  refine And.intro (k_ireturn (pc := 218) rfl (by decide +kernel : decode cX12_rows 218 = .ok (.ireturn, 1))) ?_
  exact trivial
theorem cdX12_rows : Cond.code yX12_rows cX12_rows 4 (some .int) ∈ zWs := zWs_in 1236 (by decide +kernel) rfl
noncomputable def pgX12_row : zPg := [(0, o_al 0), (1, o_ic (0)), (2, o_pI 12 5), (5, o_il 1), (6, o_ic (0)), (7, o_al 0), (8, o_vr2 yX12_lines 12 1), (11, o_ic (1)), (12, o_isub), (13, o_cr yX12_in 3), (16, o_if_eq 37), (19, o_il 2), (20, o_ic (0)), (21, o_ic (2)), (22, o_cr yX12_in 3), (25, o_if_eq 37), (28, o_al 0), (29, o_il 1), (30, o_il 2), (31, o_vr2 yX12_of 12 3), (34, o_go 41), (37, o_al 0), (38, o_vr2 yX12_lost 12 1), (41, o_ir)]
set_option maxRecDepth 20000 in
theorem pkX12_row {G : zG} (hG : zGok G) (Q : zRt) : zPOK G (zRm 1) RX12 cX12_row 3 (some .int) (zF G Q 0 0) 0 0 (zCalls G 1) Q pgX12_row := by
  refine And.intro (k_aload_n (pc := 0) (by decide +kernel : decode cX12_row 0 = .ok (.aload_n 0, 1)) rfl) ?_
  refine And.intro (k_iconst (pc := 1) (by decide +kernel : decode cX12_row 1 = .ok (.iconst 0, 1)) (by decide)) ?_
  refine And.intro (k_pI (pc := 2) rfl (by decide) rfl zin12 lk_X12_55 tyX12_ok nmX12 rfl (by decide +kernel) (by decide +kernel : decode cX12_row 2 = .ok (.putfield 55, 3))) ?_
  refine And.intro (k_iload_n (pc := 5) (by decide +kernel : decode cX12_row 5 = .ok (.iload_n 1, 1)) rfl) ?_
  refine And.intro (k_iconst (pc := 6) (by decide +kernel : decode cX12_row 6 = .ok (.iconst 0, 1)) (by decide)) ?_
  refine And.intro (k_aload_n (pc := 7) (by decide +kernel : decode cX12_row 7 = .ok (.aload_n 0, 1)) rfl) ?_
  refine And.intro (k_crV (n := 0) (pc := 8) hG (zRoom_self 1) (tag := 12) rfl ini_X12 im_X12_lines se_X12_lines mk_X12_142 dy_X12_lines (by decide +kernel : decode cX12_row 8 = .ok (.invokevirtual 142, 3))) ?_
  refine And.intro (k_iconst (pc := 11) (by decide +kernel : decode cX12_row 11 = .ok (.iconst 1, 1)) (by decide)) ?_
  refine And.intro (k_isub (pc := 12) (by decide +kernel : decode cX12_row 12 = .ok (.isub, 1))) ?_
  refine And.intro (k_crS (n := 3) (pc := 13) hG (zRoom_self 1) ini_X12 sta_X12_in mk_X12_87 dy_X12_in (by decide +kernel : decode cX12_row 13 = .ok (.invokestatic 87, 3))) ?_
  refine And.intro (k_if_eq (pc := 16) (by decide +kernel : decode cX12_row 16 = .ok (.ifCond .eq 21, 3)) (by decide)) ?_
  refine And.intro (k_iload_n (pc := 19) (by decide +kernel : decode cX12_row 19 = .ok (.iload_n 2, 1)) rfl) ?_
  refine And.intro (k_iconst (pc := 20) (by decide +kernel : decode cX12_row 20 = .ok (.iconst 0, 1)) (by decide)) ?_
  refine And.intro (k_iconst (pc := 21) (by decide +kernel : decode cX12_row 21 = .ok (.iconst 2, 1)) (by decide)) ?_
  refine And.intro (k_crS (n := 3) (pc := 22) hG (zRoom_self 1) ini_X12 sta_X12_in mk_X12_87 dy_X12_in (by decide +kernel : decode cX12_row 22 = .ok (.invokestatic 87, 3))) ?_
  refine And.intro (k_if_eq (pc := 25) (by decide +kernel : decode cX12_row 25 = .ok (.ifCond .eq 12, 3)) (by decide)) ?_
  refine And.intro (k_aload_n (pc := 28) (by decide +kernel : decode cX12_row 28 = .ok (.aload_n 0, 1)) rfl) ?_
  refine And.intro (k_iload_n (pc := 29) (by decide +kernel : decode cX12_row 29 = .ok (.iload_n 1, 1)) rfl) ?_
  refine And.intro (k_iload_n (pc := 30) (by decide +kernel : decode cX12_row 30 = .ok (.iload_n 2, 1)) rfl) ?_
  refine And.intro (k_crV (n := 2) (pc := 31) hG (zRoom_self 1) (tag := 12) rfl ini_X12 im_X12_of se_X12_of mk_X12_145 dy_X12_of (by decide +kernel : decode cX12_row 31 = .ok (.invokevirtual 145, 3))) ?_
  refine And.intro (k_goto (pc := 34) (by decide +kernel : decode cX12_row 34 = .ok (.goto 7, 3)) (by decide)) ?_
  refine And.intro (k_aload_n (pc := 37) (by decide +kernel : decode cX12_row 37 = .ok (.aload_n 0, 1)) rfl) ?_
  refine And.intro (k_crV (n := 0) (pc := 38) hG (zRoom_self 1) (tag := 12) rfl ini_X12 im_X12_lost se_X12_lost mk_X12_149 dy_X12_lost (by decide +kernel : decode cX12_row 38 = .ok (.invokevirtual 149, 3))) ?_
  refine And.intro (k_ireturn (pc := 41) rfl (by decide +kernel : decode cX12_row 41 = .ok (.ireturn, 1))) ?_
  exact trivial
theorem cdX12_row : Cond.code yX12_row cX12_row 3 (some .int) ∈ zWs := zWs_in 1291 (by decide +kernel) rfl
noncomputable def pgX12_sheet : zPg := [(0, o_al 0), (1, o_ic (0)), (2, o_pI 12 5), (5, o_il 1), (6, o_ic (0)), (7, o_ic (3)), (8, o_cr yX12_in 3), (11, o_if_eq 20), (14, o_il 2), (15, o_ic (6)), (17, o_ic_le 22), (20, o_ic (-1)), (21, o_ir), (22, o_il 1), (23, o_ic (3)), (24, o_ic_ge 34), (27, o_il 2), (28, o_if_ge 34), (31, o_ic (-2)), (33, o_ir), (34, o_il 3), (35, o_is 5), (37, o_ic (0)), (38, o_is 6), (40, o_il 6), (42, o_al 0), (43, o_gR 12 0), (46, o_ic (0)), (47, o_xI 14), (48, o_ic_ge 139), (51, o_il 1), (52, o_if_ne 61), (55, o_il 5), (57, o_i2b), (58, o_go 74), (61, o_il 1), (62, o_ic (1)), (63, o_ic_ne 72), (66, o_il 5), (68, o_i2s), (69, o_go 74), (72, o_il 5), (74, o_is 7), (76, o_il 7), (78, o_ic (51)), (80, o_irem), (81, o_is 8), (83, o_al 0), (84, o_gR 12 0), (87, o_ic (1)), (88, o_ic (3)), (89, o_il 6), (91, o_imul), (92, o_iadd), (93, o_ic (2)), (94, o_iadd), (95, o_il 1), (96, o_ic (3)), (97, o_ic_eq 106), (100, o_il 6), (102, o_il 2), (103, o_ic_lt 110), (106, o_ic (0)), (107, o_go 125), (110, o_il 8), (112, o_if_ge 123), (115, o_il 8), (117, o_ic (51)), (119, o_iadd), (120, o_go 125), (123, o_il 8), (125, o_yI), (126, o_il 5), (128, o_il 4), (130, o_iadd), (131, o_is 5), (133, o_inc 6 (1)), (136, o_go 40), (139, o_il 1), (140, o_ic (3)), (141, o_ic_ne 149), (144, o_ic (-3)), (146, o_go 155), (149, o_al 0), (150, o_gR 12 0), (153, o_ic (0)), (154, o_xI 14), (155, o_ir)]
set_option maxRecDepth 20000 in
theorem pkX12_sheet {G : zG} (hG : zGok G) (Q : zRt) : zPOK G (zRm 1) RX12 cX12_sheet 9 (some .int) (zF G Q 0 0) 0 0 (zCalls G 1) Q pgX12_sheet := by
  refine And.intro (k_aload_n (pc := 0) (by decide +kernel : decode cX12_sheet 0 = .ok (.aload_n 0, 1)) rfl) ?_
  refine And.intro (k_iconst (pc := 1) (by decide +kernel : decode cX12_sheet 1 = .ok (.iconst 0, 1)) (by decide)) ?_
  refine And.intro (k_pI (pc := 2) rfl (by decide) rfl zin12 lk_X12_55 tyX12_ok nmX12 rfl (by decide +kernel) (by decide +kernel : decode cX12_sheet 2 = .ok (.putfield 55, 3))) ?_
  refine And.intro (k_iload_n (pc := 5) (by decide +kernel : decode cX12_sheet 5 = .ok (.iload_n 1, 1)) rfl) ?_
  refine And.intro (k_iconst (pc := 6) (by decide +kernel : decode cX12_sheet 6 = .ok (.iconst 0, 1)) (by decide)) ?_
  refine And.intro (k_iconst (pc := 7) (by decide +kernel : decode cX12_sheet 7 = .ok (.iconst 3, 1)) (by decide)) ?_
  refine And.intro (k_crS (n := 3) (pc := 8) hG (zRoom_self 1) ini_X12 sta_X12_in mk_X12_87 dy_X12_in (by decide +kernel : decode cX12_sheet 8 = .ok (.invokestatic 87, 3))) ?_
  refine And.intro (k_if_eq (pc := 11) (by decide +kernel : decode cX12_sheet 11 = .ok (.ifCond .eq 9, 3)) (by decide)) ?_
  refine And.intro (k_iload_n (pc := 14) (by decide +kernel : decode cX12_sheet 14 = .ok (.iload_n 2, 1)) rfl) ?_
  refine And.intro (k_bipush (pc := 15) (by decide +kernel : decode cX12_sheet 15 = .ok (.bipush 6, 2)) (by decide)) ?_
  refine And.intro (k_icmp_le (pc := 17) (by decide +kernel : decode cX12_sheet 17 = .ok (.if_icmp .le 5, 3)) (by decide)) ?_
  refine And.intro (k_iconst (pc := 20) (by decide +kernel : decode cX12_sheet 20 = .ok (.iconst (-1), 1)) (by decide)) ?_
  refine And.intro (k_ireturn (pc := 21) rfl (by decide +kernel : decode cX12_sheet 21 = .ok (.ireturn, 1))) ?_
  refine And.intro (k_iload_n (pc := 22) (by decide +kernel : decode cX12_sheet 22 = .ok (.iload_n 1, 1)) rfl) ?_
  refine And.intro (k_iconst (pc := 23) (by decide +kernel : decode cX12_sheet 23 = .ok (.iconst 3, 1)) (by decide)) ?_
  refine And.intro (k_icmp_ge (pc := 24) (by decide +kernel : decode cX12_sheet 24 = .ok (.if_icmp .ge 10, 3)) (by decide)) ?_
  refine And.intro (k_iload_n (pc := 27) (by decide +kernel : decode cX12_sheet 27 = .ok (.iload_n 2, 1)) rfl) ?_
  refine And.intro (k_if_ge (pc := 28) (by decide +kernel : decode cX12_sheet 28 = .ok (.ifCond .ge 6, 3)) (by decide)) ?_
  refine And.intro (k_bipush (pc := 31) (by decide +kernel : decode cX12_sheet 31 = .ok (.bipush (-2), 2)) (by decide)) ?_
  refine And.intro (k_ireturn (pc := 33) rfl (by decide +kernel : decode cX12_sheet 33 = .ok (.ireturn, 1))) ?_
  refine And.intro (k_iload_n (pc := 34) (by decide +kernel : decode cX12_sheet 34 = .ok (.iload_n 3, 1)) rfl) ?_
  refine And.intro (k_istore (pc := 35) (by decide +kernel : decode cX12_sheet 35 = .ok (.istore 5, 2))) ?_
  refine And.intro (k_iconst (pc := 37) (by decide +kernel : decode cX12_sheet 37 = .ok (.iconst 0, 1)) (by decide)) ?_
  refine And.intro (k_istore (pc := 38) (by decide +kernel : decode cX12_sheet 38 = .ok (.istore 6, 2))) ?_
  refine And.intro (k_iload (pc := 40) (by decide +kernel : decode cX12_sheet 40 = .ok (.iload 6, 2))) ?_
  refine And.intro (k_aload_n (pc := 42) (by decide +kernel : decode cX12_sheet 42 = .ok (.aload_n 0, 1)) rfl) ?_
  refine And.intro (k_gR (pc := 43) rfl (by decide) rfl zin12 lk_X12_9 (by decide +kernel : decode cX12_sheet 43 = .ok (.getfield 9, 3))) ?_
  refine And.intro (k_iconst (pc := 46) (by decide +kernel : decode cX12_sheet 46 = .ok (.iconst 0, 1)) (by decide)) ?_
  refine And.intro (k_iald (pc := 47) (by decide +kernel : decode cX12_sheet 47 = .ok (.iaload, 1))) ?_
  refine And.intro (k_icmp_ge (pc := 48) (by decide +kernel : decode cX12_sheet 48 = .ok (.if_icmp .ge 91, 3)) (by decide)) ?_
  refine And.intro (k_iload_n (pc := 51) (by decide +kernel : decode cX12_sheet 51 = .ok (.iload_n 1, 1)) rfl) ?_
  refine And.intro (k_if_ne (pc := 52) (by decide +kernel : decode cX12_sheet 52 = .ok (.ifCond .ne 9, 3)) (by decide)) ?_
  refine And.intro (k_iload (pc := 55) (by decide +kernel : decode cX12_sheet 55 = .ok (.iload 5, 2))) ?_
  refine And.intro (k_i2b (pc := 57) (by decide +kernel : decode cX12_sheet 57 = .ok (.i2b, 1))) ?_
  refine And.intro (k_goto (pc := 58) (by decide +kernel : decode cX12_sheet 58 = .ok (.goto 16, 3)) (by decide)) ?_
  refine And.intro (k_iload_n (pc := 61) (by decide +kernel : decode cX12_sheet 61 = .ok (.iload_n 1, 1)) rfl) ?_
  refine And.intro (k_iconst (pc := 62) (by decide +kernel : decode cX12_sheet 62 = .ok (.iconst 1, 1)) (by decide)) ?_
  refine And.intro (k_icmp_ne (pc := 63) (by decide +kernel : decode cX12_sheet 63 = .ok (.if_icmp .ne 9, 3)) (by decide)) ?_
  refine And.intro (k_iload (pc := 66) (by decide +kernel : decode cX12_sheet 66 = .ok (.iload 5, 2))) ?_
  refine And.intro (k_i2s (pc := 68) (by decide +kernel : decode cX12_sheet 68 = .ok (.i2s, 1))) ?_
  refine And.intro (k_goto (pc := 69) (by decide +kernel : decode cX12_sheet 69 = .ok (.goto 5, 3)) (by decide)) ?_
  refine And.intro (k_iload (pc := 72) (by decide +kernel : decode cX12_sheet 72 = .ok (.iload 5, 2))) ?_
  refine And.intro (k_istore (pc := 74) (by decide +kernel : decode cX12_sheet 74 = .ok (.istore 7, 2))) ?_
  refine And.intro (k_iload (pc := 76) (by decide +kernel : decode cX12_sheet 76 = .ok (.iload 7, 2))) ?_
  refine And.intro (k_bipush (pc := 78) (by decide +kernel : decode cX12_sheet 78 = .ok (.bipush 51, 2)) (by decide)) ?_
  refine And.intro (k_irem (pc := 80) (by decide +kernel : decode cX12_sheet 80 = .ok (.irem, 1))) ?_
  refine And.intro (k_istore (pc := 81) (by decide +kernel : decode cX12_sheet 81 = .ok (.istore 8, 2))) ?_
  refine And.intro (k_aload_n (pc := 83) (by decide +kernel : decode cX12_sheet 83 = .ok (.aload_n 0, 1)) rfl) ?_
  refine And.intro (k_gR (pc := 84) rfl (by decide) rfl zin12 lk_X12_9 (by decide +kernel : decode cX12_sheet 84 = .ok (.getfield 9, 3))) ?_
  refine And.intro (k_iconst (pc := 87) (by decide +kernel : decode cX12_sheet 87 = .ok (.iconst 1, 1)) (by decide)) ?_
  refine And.intro (k_iconst (pc := 88) (by decide +kernel : decode cX12_sheet 88 = .ok (.iconst 3, 1)) (by decide)) ?_
  refine And.intro (k_iload (pc := 89) (by decide +kernel : decode cX12_sheet 89 = .ok (.iload 6, 2))) ?_
  refine And.intro (k_imul (pc := 91) (by decide +kernel : decode cX12_sheet 91 = .ok (.imul, 1))) ?_
  refine And.intro (k_iadd (pc := 92) (by decide +kernel : decode cX12_sheet 92 = .ok (.iadd, 1))) ?_
  refine And.intro (k_iconst (pc := 93) (by decide +kernel : decode cX12_sheet 93 = .ok (.iconst 2, 1)) (by decide)) ?_
  refine And.intro (k_iadd (pc := 94) (by decide +kernel : decode cX12_sheet 94 = .ok (.iadd, 1))) ?_
  refine And.intro (k_iload_n (pc := 95) (by decide +kernel : decode cX12_sheet 95 = .ok (.iload_n 1, 1)) rfl) ?_
  refine And.intro (k_iconst (pc := 96) (by decide +kernel : decode cX12_sheet 96 = .ok (.iconst 3, 1)) (by decide)) ?_
  refine And.intro (k_icmp_eq (pc := 97) (by decide +kernel : decode cX12_sheet 97 = .ok (.if_icmp .eq 9, 3)) (by decide)) ?_
  refine And.intro (k_iload (pc := 100) (by decide +kernel : decode cX12_sheet 100 = .ok (.iload 6, 2))) ?_
  refine And.intro (k_iload_n (pc := 102) (by decide +kernel : decode cX12_sheet 102 = .ok (.iload_n 2, 1)) rfl) ?_
  refine And.intro (k_icmp_lt (pc := 103) (by decide +kernel : decode cX12_sheet 103 = .ok (.if_icmp .lt 7, 3)) (by decide)) ?_
  refine And.intro (k_iconst (pc := 106) (by decide +kernel : decode cX12_sheet 106 = .ok (.iconst 0, 1)) (by decide)) ?_
  refine And.intro (k_goto (pc := 107) (by decide +kernel : decode cX12_sheet 107 = .ok (.goto 18, 3)) (by decide)) ?_
  refine And.intro (k_iload (pc := 110) (by decide +kernel : decode cX12_sheet 110 = .ok (.iload 8, 2))) ?_
  refine And.intro (k_if_ge (pc := 112) (by decide +kernel : decode cX12_sheet 112 = .ok (.ifCond .ge 11, 3)) (by decide)) ?_
  refine And.intro (k_iload (pc := 115) (by decide +kernel : decode cX12_sheet 115 = .ok (.iload 8, 2))) ?_
  refine And.intro (k_bipush (pc := 117) (by decide +kernel : decode cX12_sheet 117 = .ok (.bipush 51, 2)) (by decide)) ?_
  refine And.intro (k_iadd (pc := 119) (by decide +kernel : decode cX12_sheet 119 = .ok (.iadd, 1))) ?_
  refine And.intro (k_goto (pc := 120) (by decide +kernel : decode cX12_sheet 120 = .ok (.goto 5, 3)) (by decide)) ?_
  refine And.intro (k_iload (pc := 123) (by decide +kernel : decode cX12_sheet 123 = .ok (.iload 8, 2))) ?_
  refine And.intro (k_iast (pc := 125) (by decide +kernel : decode cX12_sheet 125 = .ok (.iastore, 1))) ?_
  refine And.intro (k_iload (pc := 126) (by decide +kernel : decode cX12_sheet 126 = .ok (.iload 5, 2))) ?_
  refine And.intro (k_iload (pc := 128) (by decide +kernel : decode cX12_sheet 128 = .ok (.iload 4, 2))) ?_
  refine And.intro (k_iadd (pc := 130) (by decide +kernel : decode cX12_sheet 130 = .ok (.iadd, 1))) ?_
  refine And.intro (k_istore (pc := 131) (by decide +kernel : decode cX12_sheet 131 = .ok (.istore 5, 2))) ?_
  refine And.intro (k_iinc (pc := 133) (by decide +kernel : decode cX12_sheet 133 = .ok (.iinc 6 1, 3)) (by decide)) ?_
  refine And.intro (k_goto (pc := 136) (by decide +kernel : decode cX12_sheet 136 = .ok (.goto (-96), 3)) (by decide)) ?_
  refine And.intro (k_iload_n (pc := 139) (by decide +kernel : decode cX12_sheet 139 = .ok (.iload_n 1, 1)) rfl) ?_
  refine And.intro (k_iconst (pc := 140) (by decide +kernel : decode cX12_sheet 140 = .ok (.iconst 3, 1)) (by decide)) ?_
  refine And.intro (k_icmp_ne (pc := 141) (by decide +kernel : decode cX12_sheet 141 = .ok (.if_icmp .ne 8, 3)) (by decide)) ?_
  refine And.intro (k_bipush (pc := 144) (by decide +kernel : decode cX12_sheet 144 = .ok (.bipush (-3), 2)) (by decide)) ?_
  refine And.intro (k_goto (pc := 146) (by decide +kernel : decode cX12_sheet 146 = .ok (.goto 9, 3)) (by decide)) ?_
  refine And.intro (k_aload_n (pc := 149) (by decide +kernel : decode cX12_sheet 149 = .ok (.aload_n 0, 1)) rfl) ?_
  refine And.intro (k_gR (pc := 150) rfl (by decide) rfl zin12 lk_X12_9 (by decide +kernel : decode cX12_sheet 150 = .ok (.getfield 9, 3))) ?_
  refine And.intro (k_iconst (pc := 153) (by decide +kernel : decode cX12_sheet 153 = .ok (.iconst 0, 1)) (by decide)) ?_
  refine And.intro (k_iald (pc := 154) (by decide +kernel : decode cX12_sheet 154 = .ok (.iaload, 1))) ?_
  refine And.intro (k_ireturn (pc := 155) rfl (by decide +kernel : decode cX12_sheet 155 = .ok (.ireturn, 1))) ?_
  exact trivial
theorem cdX12_sheet : Cond.code yX12_sheet cX12_sheet 9 (some .int) ∈ zWs := zWs_in 1309 (by decide +kernel) rfl
noncomputable def pgX12_isTold : zPg := [(0, o_il 1), (1, o_ic (0)), (2, o_al 0), (3, o_gR 12 0), (6, o_ic (0)), (7, o_xI 14), (8, o_ic (1)), (9, o_isub), (10, o_cr yX12_in 3), (13, o_zr)]
set_option maxRecDepth 20000 in
theorem pkX12_isTold {G : zG} (hG : zGok G) (Q : zRt) : zPOK G (zRm 1) RX12 cX12_isTold 2 (some .boolean) (zF G Q 0 0) 0 0 (zCalls G 1) Q pgX12_isTold := by
  refine And.intro (k_iload_n (pc := 0) (by decide +kernel : decode cX12_isTold 0 = .ok (.iload_n 1, 1)) rfl) ?_
  refine And.intro (k_iconst (pc := 1) (by decide +kernel : decode cX12_isTold 1 = .ok (.iconst 0, 1)) (by decide)) ?_
  refine And.intro (k_aload_n (pc := 2) (by decide +kernel : decode cX12_isTold 2 = .ok (.aload_n 0, 1)) rfl) ?_
  refine And.intro (k_gR (pc := 3) rfl (by decide) rfl zin12 lk_X12_9 (by decide +kernel : decode cX12_isTold 3 = .ok (.getfield 9, 3))) ?_
  refine And.intro (k_iconst (pc := 6) (by decide +kernel : decode cX12_isTold 6 = .ok (.iconst 0, 1)) (by decide)) ?_
  refine And.intro (k_iald (pc := 7) (by decide +kernel : decode cX12_isTold 7 = .ok (.iaload, 1))) ?_
  refine And.intro (k_iconst (pc := 8) (by decide +kernel : decode cX12_isTold 8 = .ok (.iconst 1, 1)) (by decide)) ?_
  refine And.intro (k_isub (pc := 9) (by decide +kernel : decode cX12_isTold 9 = .ok (.isub, 1))) ?_
  refine And.intro (k_crS (n := 3) (pc := 10) hG (zRoom_self 1) ini_X12 sta_X12_in mk_X12_87 dy_X12_in (by decide +kernel : decode cX12_isTold 10 = .ok (.invokestatic 87, 3))) ?_
  refine And.intro (k_zreturn (pc := 13) rfl (by decide +kernel : decode cX12_isTold 13 = .ok (.ireturn, 1))) ?_
  exact trivial
theorem cdX12_isTold : Cond.code yX12_isTold cX12_isTold 2 (some .boolean) ∈ zWs := zWs_in 1321 (by decide +kernel) rfl
noncomputable def pgX12_refusesBecome : zPg := [(0, o_al 0), (1, o_il 1), (2, o_vr2 yX12_isTold 12 2), (5, o_if_eq 19), (8, o_il 2), (9, o_ic (-50)), (11, o_ic (50)), (13, o_cr yX12_in 3), (16, o_if_ne 23), (19, o_ic (-1)), (20, o_go 39), (23, o_al 0), (24, o_il 1), (25, o_ic (2)), (26, o_vr2 yX12_of 12 3), (29, o_il 2), (30, o_ic_ne 38), (33, o_ic (-2)), (35, o_go 39), (38, o_ic (0)), (39, o_ir)]
set_option maxRecDepth 20000 in
theorem pkX12_refusesBecome {G : zG} (hG : zGok G) (Q : zRt) : zPOK G (zRm 2) RX12 cX12_refusesBecome 3 (some .int) (zF G Q 0 0) 0 0 (zCalls G 2) Q pgX12_refusesBecome := by
  refine And.intro (k_aload_n (pc := 0) (by decide +kernel : decode cX12_refusesBecome 0 = .ok (.aload_n 0, 1)) rfl) ?_
  refine And.intro (k_iload_n (pc := 1) (by decide +kernel : decode cX12_refusesBecome 1 = .ok (.iload_n 1, 1)) rfl) ?_
  refine And.intro (k_crV (n := 1) (pc := 2) hG (zRoom_self 2) (tag := 12) rfl ini_X12 im_X12_isTold se_X12_isTold mk_X12_158 dy_X12_isTold (by decide +kernel : decode cX12_refusesBecome 2 = .ok (.invokevirtual 158, 3))) ?_
  refine And.intro (k_if_eq (pc := 5) (by decide +kernel : decode cX12_refusesBecome 5 = .ok (.ifCond .eq 14, 3)) (by decide)) ?_
  refine And.intro (k_iload_n (pc := 8) (by decide +kernel : decode cX12_refusesBecome 8 = .ok (.iload_n 2, 1)) rfl) ?_
  refine And.intro (k_bipush (pc := 9) (by decide +kernel : decode cX12_refusesBecome 9 = .ok (.bipush (-50), 2)) (by decide)) ?_
  refine And.intro (k_bipush (pc := 11) (by decide +kernel : decode cX12_refusesBecome 11 = .ok (.bipush 50, 2)) (by decide)) ?_
  refine And.intro (k_crS (n := 3) (pc := 13) hG (zRoom_self 2) ini_X12 sta_X12_in mk_X12_87 dy_X12_in (by decide +kernel : decode cX12_refusesBecome 13 = .ok (.invokestatic 87, 3))) ?_
  refine And.intro (k_if_ne (pc := 16) (by decide +kernel : decode cX12_refusesBecome 16 = .ok (.ifCond .ne 7, 3)) (by decide)) ?_
  refine And.intro (k_iconst (pc := 19) (by decide +kernel : decode cX12_refusesBecome 19 = .ok (.iconst (-1), 1)) (by decide)) ?_
  refine And.intro (k_goto (pc := 20) (by decide +kernel : decode cX12_refusesBecome 20 = .ok (.goto 19, 3)) (by decide)) ?_
  refine And.intro (k_aload_n (pc := 23) (by decide +kernel : decode cX12_refusesBecome 23 = .ok (.aload_n 0, 1)) rfl) ?_
  refine And.intro (k_iload_n (pc := 24) (by decide +kernel : decode cX12_refusesBecome 24 = .ok (.iload_n 1, 1)) rfl) ?_
  refine And.intro (k_iconst (pc := 25) (by decide +kernel : decode cX12_refusesBecome 25 = .ok (.iconst 2, 1)) (by decide)) ?_
  refine And.intro (k_crV (n := 2) (pc := 26) hG (zRoom_self 2) (tag := 12) rfl ini_X12 im_X12_of se_X12_of mk_X12_145 dy_X12_of (by decide +kernel : decode cX12_refusesBecome 26 = .ok (.invokevirtual 145, 3))) ?_
  refine And.intro (k_iload_n (pc := 29) (by decide +kernel : decode cX12_refusesBecome 29 = .ok (.iload_n 2, 1)) rfl) ?_
  refine And.intro (k_icmp_ne (pc := 30) (by decide +kernel : decode cX12_refusesBecome 30 = .ok (.if_icmp .ne 8, 3)) (by decide)) ?_
  refine And.intro (k_bipush (pc := 33) (by decide +kernel : decode cX12_refusesBecome 33 = .ok (.bipush (-2), 2)) (by decide)) ?_
  refine And.intro (k_goto (pc := 35) (by decide +kernel : decode cX12_refusesBecome 35 = .ok (.goto 4, 3)) (by decide)) ?_
  refine And.intro (k_iconst (pc := 38) (by decide +kernel : decode cX12_refusesBecome 38 = .ok (.iconst 0, 1)) (by decide)) ?_
  refine And.intro (k_ireturn (pc := 39) rfl (by decide +kernel : decode cX12_refusesBecome 39 = .ok (.ireturn, 1))) ?_
  exact trivial
theorem cdX12_refusesBecome : Cond.code yX12_refusesBecome cX12_refusesBecome 3 (some .int) ∈ zWs := zWs_in 1317 (by decide +kernel) rfl
noncomputable def pgX12_refusesAdd : zPg := [(0, o_il 1), (1, o_il 2), (2, o_il 3), (3, o_cr yX12_canBe 3), (6, o_if_ne 13), (9, o_ic (-1)), (10, o_go 30), (13, o_al 0), (14, o_gR 12 0), (17, o_ic (0)), (18, o_xI 14), (19, o_ic (6)), (21, o_ic_ne 29), (24, o_ic (-2)), (26, o_go 30), (29, o_ic (0)), (30, o_ir)]
set_option maxRecDepth 20000 in
theorem pkX12_refusesAdd {G : zG} (hG : zGok G) (Q : zRt) : zPOK G (zRm 2) RX12 cX12_refusesAdd 4 (some .int) (zF G Q 0 0) 0 0 (zCalls G 2) Q pgX12_refusesAdd := by
  refine And.intro (k_iload_n (pc := 0) (by decide +kernel : decode cX12_refusesAdd 0 = .ok (.iload_n 1, 1)) rfl) ?_
  refine And.intro (k_iload_n (pc := 1) (by decide +kernel : decode cX12_refusesAdd 1 = .ok (.iload_n 2, 1)) rfl) ?_
  refine And.intro (k_iload_n (pc := 2) (by decide +kernel : decode cX12_refusesAdd 2 = .ok (.iload_n 3, 1)) rfl) ?_
  refine And.intro (k_crS (n := 3) (pc := 3) hG (zRoom_self 2) ini_X12 sta_X12_canBe mk_X12_136 dy_X12_canBe (by decide +kernel : decode cX12_refusesAdd 3 = .ok (.invokestatic 136, 3))) ?_
  refine And.intro (k_if_ne (pc := 6) (by decide +kernel : decode cX12_refusesAdd 6 = .ok (.ifCond .ne 7, 3)) (by decide)) ?_
  refine And.intro (k_iconst (pc := 9) (by decide +kernel : decode cX12_refusesAdd 9 = .ok (.iconst (-1), 1)) (by decide)) ?_
  refine And.intro (k_goto (pc := 10) (by decide +kernel : decode cX12_refusesAdd 10 = .ok (.goto 20, 3)) (by decide)) ?_
  refine And.intro (k_aload_n (pc := 13) (by decide +kernel : decode cX12_refusesAdd 13 = .ok (.aload_n 0, 1)) rfl) ?_
  refine And.intro (k_gR (pc := 14) rfl (by decide) rfl zin12 lk_X12_9 (by decide +kernel : decode cX12_refusesAdd 14 = .ok (.getfield 9, 3))) ?_
  refine And.intro (k_iconst (pc := 17) (by decide +kernel : decode cX12_refusesAdd 17 = .ok (.iconst 0, 1)) (by decide)) ?_
  refine And.intro (k_iald (pc := 18) (by decide +kernel : decode cX12_refusesAdd 18 = .ok (.iaload, 1))) ?_
  refine And.intro (k_bipush (pc := 19) (by decide +kernel : decode cX12_refusesAdd 19 = .ok (.bipush 6, 2)) (by decide)) ?_
  refine And.intro (k_icmp_ne (pc := 21) (by decide +kernel : decode cX12_refusesAdd 21 = .ok (.if_icmp .ne 8, 3)) (by decide)) ?_
  refine And.intro (k_bipush (pc := 24) (by decide +kernel : decode cX12_refusesAdd 24 = .ok (.bipush (-2), 2)) (by decide)) ?_
  refine And.intro (k_goto (pc := 26) (by decide +kernel : decode cX12_refusesAdd 26 = .ok (.goto 4, 3)) (by decide)) ?_
  refine And.intro (k_iconst (pc := 29) (by decide +kernel : decode cX12_refusesAdd 29 = .ok (.iconst 0, 1)) (by decide)) ?_
  refine And.intro (k_ireturn (pc := 30) rfl (by decide +kernel : decode cX12_refusesAdd 30 = .ok (.ireturn, 1))) ?_
  exact trivial
theorem cdX12_refusesAdd : Cond.code yX12_refusesAdd cX12_refusesAdd 4 (some .int) ∈ zWs := zWs_in 1329 (by decide +kernel) rfl
noncomputable def pgX12_add : zPg := [(0, o_ic (1)), (1, o_ic (3)), (2, o_al 0), (3, o_gR 12 0), (6, o_ic (0)), (7, o_xI 14), (8, o_imul), (9, o_iadd), (10, o_is 4), (12, o_al 0), (13, o_gR 12 0), (16, o_il 4), (18, o_il 1), (19, o_yI), (20, o_al 0), (21, o_gR 12 0), (24, o_il 4), (26, o_ic (1)), (27, o_iadd), (28, o_il 2), (29, o_yI), (30, o_al 0), (31, o_gR 12 0), (34, o_il 4), (36, o_ic (2)), (37, o_iadd), (38, o_il 3), (39, o_yI), (40, o_al 0), (41, o_gR 12 0), (44, o_ic (0)), (45, o_dup2), (46, o_xI 14), (47, o_ic (1)), (48, o_iadd), (49, o_yI), (50, o_vr)]
set_option maxRecDepth 20000 in
theorem pkX12_add {G : zG} (hG : zGok G) (Q : zRt) : zPOK G (zRm 0) RX12 cX12_add 5 none (zF G Q 0 0) 0 0 (zCalls G 0) Q pgX12_add := by
  refine And.intro (k_iconst (pc := 0) (by decide +kernel : decode cX12_add 0 = .ok (.iconst 1, 1)) (by decide)) ?_
  refine And.intro (k_iconst (pc := 1) (by decide +kernel : decode cX12_add 1 = .ok (.iconst 3, 1)) (by decide)) ?_
  refine And.intro (k_aload_n (pc := 2) (by decide +kernel : decode cX12_add 2 = .ok (.aload_n 0, 1)) rfl) ?_
  refine And.intro (k_gR (pc := 3) rfl (by decide) rfl zin12 lk_X12_9 (by decide +kernel : decode cX12_add 3 = .ok (.getfield 9, 3))) ?_
  refine And.intro (k_iconst (pc := 6) (by decide +kernel : decode cX12_add 6 = .ok (.iconst 0, 1)) (by decide)) ?_
  refine And.intro (k_iald (pc := 7) (by decide +kernel : decode cX12_add 7 = .ok (.iaload, 1))) ?_
  refine And.intro (k_imul (pc := 8) (by decide +kernel : decode cX12_add 8 = .ok (.imul, 1))) ?_
  refine And.intro (k_iadd (pc := 9) (by decide +kernel : decode cX12_add 9 = .ok (.iadd, 1))) ?_
  refine And.intro (k_istore (pc := 10) (by decide +kernel : decode cX12_add 10 = .ok (.istore 4, 2))) ?_
  refine And.intro (k_aload_n (pc := 12) (by decide +kernel : decode cX12_add 12 = .ok (.aload_n 0, 1)) rfl) ?_
  refine And.intro (k_gR (pc := 13) rfl (by decide) rfl zin12 lk_X12_9 (by decide +kernel : decode cX12_add 13 = .ok (.getfield 9, 3))) ?_
  refine And.intro (k_iload (pc := 16) (by decide +kernel : decode cX12_add 16 = .ok (.iload 4, 2))) ?_
  refine And.intro (k_iload_n (pc := 18) (by decide +kernel : decode cX12_add 18 = .ok (.iload_n 1, 1)) rfl) ?_
  refine And.intro (k_iast (pc := 19) (by decide +kernel : decode cX12_add 19 = .ok (.iastore, 1))) ?_
  refine And.intro (k_aload_n (pc := 20) (by decide +kernel : decode cX12_add 20 = .ok (.aload_n 0, 1)) rfl) ?_
  refine And.intro (k_gR (pc := 21) rfl (by decide) rfl zin12 lk_X12_9 (by decide +kernel : decode cX12_add 21 = .ok (.getfield 9, 3))) ?_
  refine And.intro (k_iload (pc := 24) (by decide +kernel : decode cX12_add 24 = .ok (.iload 4, 2))) ?_
  refine And.intro (k_iconst (pc := 26) (by decide +kernel : decode cX12_add 26 = .ok (.iconst 1, 1)) (by decide)) ?_
  refine And.intro (k_iadd (pc := 27) (by decide +kernel : decode cX12_add 27 = .ok (.iadd, 1))) ?_
  refine And.intro (k_iload_n (pc := 28) (by decide +kernel : decode cX12_add 28 = .ok (.iload_n 2, 1)) rfl) ?_
  refine And.intro (k_iast (pc := 29) (by decide +kernel : decode cX12_add 29 = .ok (.iastore, 1))) ?_
  refine And.intro (k_aload_n (pc := 30) (by decide +kernel : decode cX12_add 30 = .ok (.aload_n 0, 1)) rfl) ?_
  refine And.intro (k_gR (pc := 31) rfl (by decide) rfl zin12 lk_X12_9 (by decide +kernel : decode cX12_add 31 = .ok (.getfield 9, 3))) ?_
  refine And.intro (k_iload (pc := 34) (by decide +kernel : decode cX12_add 34 = .ok (.iload 4, 2))) ?_
  refine And.intro (k_iconst (pc := 36) (by decide +kernel : decode cX12_add 36 = .ok (.iconst 2, 1)) (by decide)) ?_
  refine And.intro (k_iadd (pc := 37) (by decide +kernel : decode cX12_add 37 = .ok (.iadd, 1))) ?_
  refine And.intro (k_iload_n (pc := 38) (by decide +kernel : decode cX12_add 38 = .ok (.iload_n 3, 1)) rfl) ?_
  refine And.intro (k_iast (pc := 39) (by decide +kernel : decode cX12_add 39 = .ok (.iastore, 1))) ?_
  refine And.intro (k_aload_n (pc := 40) (by decide +kernel : decode cX12_add 40 = .ok (.aload_n 0, 1)) rfl) ?_
  refine And.intro (k_gR (pc := 41) rfl (by decide) rfl zin12 lk_X12_9 (by decide +kernel : decode cX12_add 41 = .ok (.getfield 9, 3))) ?_
  refine And.intro (k_iconst (pc := 44) (by decide +kernel : decode cX12_add 44 = .ok (.iconst 0, 1)) (by decide)) ?_
  refine And.intro (k_dup2 (pc := 45) (by decide +kernel : decode cX12_add 45 = .ok (.dup2, 1))) ?_
  refine And.intro (k_iald (pc := 46) (by decide +kernel : decode cX12_add 46 = .ok (.iaload, 1))) ?_
  refine And.intro (k_iconst (pc := 47) (by decide +kernel : decode cX12_add 47 = .ok (.iconst 1, 1)) (by decide)) ?_
  refine And.intro (k_iadd (pc := 48) (by decide +kernel : decode cX12_add 48 = .ok (.iadd, 1))) ?_
  refine And.intro (k_iast (pc := 49) (by decide +kernel : decode cX12_add 49 = .ok (.iastore, 1))) ?_
  refine And.intro (k_return (pc := 50) rfl (by decide +kernel : decode cX12_add 50 = .ok (.return_, 1))) ?_
  exact trivial
theorem cdX12_add : Cond.code yX12_add cX12_add 5 none ∈ zWs := zWs_in 1333 (by decide +kernel) rfl
noncomputable def pgX12_drop : zPg := [(0, o_al 0), (1, o_gR 12 0), (4, o_ic (0)), (5, o_dup2), (6, o_xI 14), (7, o_ic (1)), (8, o_isub), (9, o_yI), (10, o_ic (3)), (11, o_il 1), (12, o_imul), (13, o_is 2), (14, o_il 2), (15, o_ic (18)), (17, o_ic_ge 60), (20, o_al 0), (21, o_gR 12 0), (24, o_ic (1)), (25, o_il 2), (26, o_iadd), (27, o_il 2), (28, o_ic (3)), (29, o_al 0), (30, o_gR 12 0), (33, o_ic (0)), (34, o_xI 14), (35, o_imul), (36, o_ic_ge 52), (39, o_al 0), (40, o_gR 12 0), (43, o_ic (1)), (44, o_il 2), (45, o_iadd), (46, o_ic (3)), (47, o_iadd), (48, o_xI 14), (49, o_go 53), (52, o_ic (0)), (53, o_yI), (54, o_inc 2 (1)), (57, o_go 14), (60, o_vr)]
set_option maxRecDepth 20000 in
theorem pkX12_drop {G : zG} (hG : zGok G) (Q : zRt) : zPOK G (zRm 0) RX12 cX12_drop 3 none (zF G Q 0 0) 0 0 (zCalls G 0) Q pgX12_drop := by
  refine And.intro (k_aload_n (pc := 0) (by decide +kernel : decode cX12_drop 0 = .ok (.aload_n 0, 1)) rfl) ?_
  refine And.intro (k_gR (pc := 1) rfl (by decide) rfl zin12 lk_X12_9 (by decide +kernel : decode cX12_drop 1 = .ok (.getfield 9, 3))) ?_
  refine And.intro (k_iconst (pc := 4) (by decide +kernel : decode cX12_drop 4 = .ok (.iconst 0, 1)) (by decide)) ?_
  refine And.intro (k_dup2 (pc := 5) (by decide +kernel : decode cX12_drop 5 = .ok (.dup2, 1))) ?_
  refine And.intro (k_iald (pc := 6) (by decide +kernel : decode cX12_drop 6 = .ok (.iaload, 1))) ?_
  refine And.intro (k_iconst (pc := 7) (by decide +kernel : decode cX12_drop 7 = .ok (.iconst 1, 1)) (by decide)) ?_
  refine And.intro (k_isub (pc := 8) (by decide +kernel : decode cX12_drop 8 = .ok (.isub, 1))) ?_
  refine And.intro (k_iast (pc := 9) (by decide +kernel : decode cX12_drop 9 = .ok (.iastore, 1))) ?_
  refine And.intro (k_iconst (pc := 10) (by decide +kernel : decode cX12_drop 10 = .ok (.iconst 3, 1)) (by decide)) ?_
  refine And.intro (k_iload_n (pc := 11) (by decide +kernel : decode cX12_drop 11 = .ok (.iload_n 1, 1)) rfl) ?_
  refine And.intro (k_imul (pc := 12) (by decide +kernel : decode cX12_drop 12 = .ok (.imul, 1))) ?_
  refine And.intro (k_istore_n (pc := 13) (by decide +kernel : decode cX12_drop 13 = .ok (.istore_n 2, 1)) rfl) ?_
  refine And.intro (k_iload_n (pc := 14) (by decide +kernel : decode cX12_drop 14 = .ok (.iload_n 2, 1)) rfl) ?_
  refine And.intro (k_bipush (pc := 15) (by decide +kernel : decode cX12_drop 15 = .ok (.bipush 18, 2)) (by decide)) ?_
  refine And.intro (k_icmp_ge (pc := 17) (by decide +kernel : decode cX12_drop 17 = .ok (.if_icmp .ge 43, 3)) (by decide)) ?_
  refine And.intro (k_aload_n (pc := 20) (by decide +kernel : decode cX12_drop 20 = .ok (.aload_n 0, 1)) rfl) ?_
  refine And.intro (k_gR (pc := 21) rfl (by decide) rfl zin12 lk_X12_9 (by decide +kernel : decode cX12_drop 21 = .ok (.getfield 9, 3))) ?_
  refine And.intro (k_iconst (pc := 24) (by decide +kernel : decode cX12_drop 24 = .ok (.iconst 1, 1)) (by decide)) ?_
  refine And.intro (k_iload_n (pc := 25) (by decide +kernel : decode cX12_drop 25 = .ok (.iload_n 2, 1)) rfl) ?_
  refine And.intro (k_iadd (pc := 26) (by decide +kernel : decode cX12_drop 26 = .ok (.iadd, 1))) ?_
  refine And.intro (k_iload_n (pc := 27) (by decide +kernel : decode cX12_drop 27 = .ok (.iload_n 2, 1)) rfl) ?_
  refine And.intro (k_iconst (pc := 28) (by decide +kernel : decode cX12_drop 28 = .ok (.iconst 3, 1)) (by decide)) ?_
  refine And.intro (k_aload_n (pc := 29) (by decide +kernel : decode cX12_drop 29 = .ok (.aload_n 0, 1)) rfl) ?_
  refine And.intro (k_gR (pc := 30) rfl (by decide) rfl zin12 lk_X12_9 (by decide +kernel : decode cX12_drop 30 = .ok (.getfield 9, 3))) ?_
  refine And.intro (k_iconst (pc := 33) (by decide +kernel : decode cX12_drop 33 = .ok (.iconst 0, 1)) (by decide)) ?_
  refine And.intro (k_iald (pc := 34) (by decide +kernel : decode cX12_drop 34 = .ok (.iaload, 1))) ?_
  refine And.intro (k_imul (pc := 35) (by decide +kernel : decode cX12_drop 35 = .ok (.imul, 1))) ?_
  refine And.intro (k_icmp_ge (pc := 36) (by decide +kernel : decode cX12_drop 36 = .ok (.if_icmp .ge 16, 3)) (by decide)) ?_
  refine And.intro (k_aload_n (pc := 39) (by decide +kernel : decode cX12_drop 39 = .ok (.aload_n 0, 1)) rfl) ?_
  refine And.intro (k_gR (pc := 40) rfl (by decide) rfl zin12 lk_X12_9 (by decide +kernel : decode cX12_drop 40 = .ok (.getfield 9, 3))) ?_
  refine And.intro (k_iconst (pc := 43) (by decide +kernel : decode cX12_drop 43 = .ok (.iconst 1, 1)) (by decide)) ?_
  refine And.intro (k_iload_n (pc := 44) (by decide +kernel : decode cX12_drop 44 = .ok (.iload_n 2, 1)) rfl) ?_
  refine And.intro (k_iadd (pc := 45) (by decide +kernel : decode cX12_drop 45 = .ok (.iadd, 1))) ?_
  refine And.intro (k_iconst (pc := 46) (by decide +kernel : decode cX12_drop 46 = .ok (.iconst 3, 1)) (by decide)) ?_
  refine And.intro (k_iadd (pc := 47) (by decide +kernel : decode cX12_drop 47 = .ok (.iadd, 1))) ?_
  refine And.intro (k_iald (pc := 48) (by decide +kernel : decode cX12_drop 48 = .ok (.iaload, 1))) ?_
  refine And.intro (k_goto (pc := 49) (by decide +kernel : decode cX12_drop 49 = .ok (.goto 4, 3)) (by decide)) ?_
  refine And.intro (k_iconst (pc := 52) (by decide +kernel : decode cX12_drop 52 = .ok (.iconst 0, 1)) (by decide)) ?_
  refine And.intro (k_iast (pc := 53) (by decide +kernel : decode cX12_drop 53 = .ok (.iastore, 1))) ?_
  refine And.intro (k_iinc (pc := 54) (by decide +kernel : decode cX12_drop 54 = .ok (.iinc 2 1, 3)) (by decide)) ?_
  refine And.intro (k_goto (pc := 57) (by decide +kernel : decode cX12_drop 57 = .ok (.goto (-43), 3)) (by decide)) ?_
  refine And.intro (k_return (pc := 60) rfl (by decide +kernel : decode cX12_drop 60 = .ok (.return_, 1))) ?_
  exact trivial
theorem cdX12_drop : Cond.code yX12_drop cX12_drop 3 none ∈ zWs := zWs_in 1341 (by decide +kernel) rfl
noncomputable def pgX12_becomes : zPg := [(0, o_al 0), (1, o_ic (0)), (2, o_pI 12 5), (5, o_al 0), (6, o_il 1), (7, o_il 2), (8, o_vr2 yX12_refusesBecome 12 3), (11, o_is 3), (12, o_il 3), (13, o_if_ge 18), (16, o_il 3), (17, o_ir), (18, o_al 0), (19, o_vv yX12_change 12 1), (22, o_al 0), (23, o_il 1), (24, o_ic (2)), (25, o_vr2 yX12_of 12 3), (28, o_is 4), (30, o_al 0), (31, o_gR 12 0), (34, o_ic (1)), (35, o_ic (3)), (36, o_il 1), (37, o_imul), (38, o_iadd), (39, o_ic (2)), (40, o_iadd), (41, o_il 2), (42, o_yI), (43, o_ic (100)), (45, o_il 4), (47, o_iadd), (48, o_ir)]
set_option maxRecDepth 20000 in
theorem pkX12_becomes {G : zG} (hG : zGok G) (Q : zRt) : zPOK G (zRm 3) RX12 cX12_becomes 5 (some .int) (zF G Q 0 0) 0 0 (zCalls G 3) Q pgX12_becomes := by
  refine And.intro (k_aload_n (pc := 0) (by decide +kernel : decode cX12_becomes 0 = .ok (.aload_n 0, 1)) rfl) ?_
  refine And.intro (k_iconst (pc := 1) (by decide +kernel : decode cX12_becomes 1 = .ok (.iconst 0, 1)) (by decide)) ?_
  refine And.intro (k_pI (pc := 2) rfl (by decide) rfl zin12 lk_X12_55 tyX12_ok nmX12 rfl (by decide +kernel) (by decide +kernel : decode cX12_becomes 2 = .ok (.putfield 55, 3))) ?_
  refine And.intro (k_aload_n (pc := 5) (by decide +kernel : decode cX12_becomes 5 = .ok (.aload_n 0, 1)) rfl) ?_
  refine And.intro (k_iload_n (pc := 6) (by decide +kernel : decode cX12_becomes 6 = .ok (.iload_n 1, 1)) rfl) ?_
  refine And.intro (k_iload_n (pc := 7) (by decide +kernel : decode cX12_becomes 7 = .ok (.iload_n 2, 1)) rfl) ?_
  refine And.intro (k_crV (n := 2) (pc := 8) hG (zRoom_self 3) (tag := 12) rfl ini_X12 im_X12_refusesBecome se_X12_refusesBecome mk_X12_162 dy_X12_refusesBecome (by decide +kernel : decode cX12_becomes 8 = .ok (.invokevirtual 162, 3))) ?_
  refine And.intro (k_istore_n (pc := 11) (by decide +kernel : decode cX12_becomes 11 = .ok (.istore_n 3, 1)) rfl) ?_
  refine And.intro (k_iload_n (pc := 12) (by decide +kernel : decode cX12_becomes 12 = .ok (.iload_n 3, 1)) rfl) ?_
  refine And.intro (k_if_ge (pc := 13) (by decide +kernel : decode cX12_becomes 13 = .ok (.ifCond .ge 5, 3)) (by decide)) ?_
  refine And.intro (k_iload_n (pc := 16) (by decide +kernel : decode cX12_becomes 16 = .ok (.iload_n 3, 1)) rfl) ?_
  refine And.intro (k_ireturn (pc := 17) rfl (by decide +kernel : decode cX12_becomes 17 = .ok (.ireturn, 1))) ?_
  refine And.intro (k_aload_n (pc := 18) (by decide +kernel : decode cX12_becomes 18 = .ok (.aload_n 0, 1)) rfl) ?_
  refine And.intro (k_cvV (n := 0) (pc := 19) hG (zRoom_self 3) (tag := 12) rfl ini_X12 im_X12_change se_X12_change mk_X12_139 dy_X12_change (by decide +kernel : decode cX12_becomes 19 = .ok (.invokevirtual 139, 3))) ?_
  refine And.intro (k_aload_n (pc := 22) (by decide +kernel : decode cX12_becomes 22 = .ok (.aload_n 0, 1)) rfl) ?_
  refine And.intro (k_iload_n (pc := 23) (by decide +kernel : decode cX12_becomes 23 = .ok (.iload_n 1, 1)) rfl) ?_
  refine And.intro (k_iconst (pc := 24) (by decide +kernel : decode cX12_becomes 24 = .ok (.iconst 2, 1)) (by decide)) ?_
  refine And.intro (k_crV (n := 2) (pc := 25) hG (zRoom_self 3) (tag := 12) rfl ini_X12 im_X12_of se_X12_of mk_X12_145 dy_X12_of (by decide +kernel : decode cX12_becomes 25 = .ok (.invokevirtual 145, 3))) ?_
  refine And.intro (k_istore (pc := 28) (by decide +kernel : decode cX12_becomes 28 = .ok (.istore 4, 2))) ?_
  refine And.intro (k_aload_n (pc := 30) (by decide +kernel : decode cX12_becomes 30 = .ok (.aload_n 0, 1)) rfl) ?_
  refine And.intro (k_gR (pc := 31) rfl (by decide) rfl zin12 lk_X12_9 (by decide +kernel : decode cX12_becomes 31 = .ok (.getfield 9, 3))) ?_
  refine And.intro (k_iconst (pc := 34) (by decide +kernel : decode cX12_becomes 34 = .ok (.iconst 1, 1)) (by decide)) ?_
  refine And.intro (k_iconst (pc := 35) (by decide +kernel : decode cX12_becomes 35 = .ok (.iconst 3, 1)) (by decide)) ?_
  refine And.intro (k_iload_n (pc := 36) (by decide +kernel : decode cX12_becomes 36 = .ok (.iload_n 1, 1)) rfl) ?_
  refine And.intro (k_imul (pc := 37) (by decide +kernel : decode cX12_becomes 37 = .ok (.imul, 1))) ?_
  refine And.intro (k_iadd (pc := 38) (by decide +kernel : decode cX12_becomes 38 = .ok (.iadd, 1))) ?_
  refine And.intro (k_iconst (pc := 39) (by decide +kernel : decode cX12_becomes 39 = .ok (.iconst 2, 1)) (by decide)) ?_
  refine And.intro (k_iadd (pc := 40) (by decide +kernel : decode cX12_becomes 40 = .ok (.iadd, 1))) ?_
  refine And.intro (k_iload_n (pc := 41) (by decide +kernel : decode cX12_becomes 41 = .ok (.iload_n 2, 1)) rfl) ?_
  refine And.intro (k_iast (pc := 42) (by decide +kernel : decode cX12_becomes 42 = .ok (.iastore, 1))) ?_
  refine And.intro (k_bipush (pc := 43) (by decide +kernel : decode cX12_becomes 43 = .ok (.bipush 100, 2)) (by decide)) ?_
  refine And.intro (k_iload (pc := 45) (by decide +kernel : decode cX12_becomes 45 = .ok (.iload 4, 2))) ?_
  refine And.intro (k_iadd (pc := 47) (by decide +kernel : decode cX12_becomes 47 = .ok (.iadd, 1))) ?_
  refine And.intro (k_ireturn (pc := 48) rfl (by decide +kernel : decode cX12_becomes 48 = .ok (.ireturn, 1))) ?_
  exact trivial
theorem cdX12_becomes : Cond.code yX12_becomes cX12_becomes 5 (some .int) ∈ zWs := zWs_in 1313 (by decide +kernel) rfl
noncomputable def pgX12_adds : zPg := [(0, o_al 0), (1, o_ic (0)), (2, o_pI 12 5), (5, o_al 0), (6, o_il 1), (7, o_il 2), (8, o_il 3), (9, o_vr2 yX12_refusesAdd 12 4), (12, o_is 4), (14, o_il 4), (16, o_if_ge 22), (19, o_il 4), (21, o_ir), (22, o_al 0), (23, o_vv yX12_change 12 1), (26, o_al 0), (27, o_il 1), (28, o_il 2), (29, o_il 3), (30, o_vv yX12_add 12 4), (33, o_al 0), (34, o_gR 12 0), (37, o_ic (0)), (38, o_xI 14), (39, o_ir)]
set_option maxRecDepth 20000 in
theorem pkX12_adds {G : zG} (hG : zGok G) (Q : zRt) : zPOK G (zRm 3) RX12 cX12_adds 5 (some .int) (zF G Q 0 0) 0 0 (zCalls G 3) Q pgX12_adds := by
  refine And.intro (k_aload_n (pc := 0) (by decide +kernel : decode cX12_adds 0 = .ok (.aload_n 0, 1)) rfl) ?_
  refine And.intro (k_iconst (pc := 1) (by decide +kernel : decode cX12_adds 1 = .ok (.iconst 0, 1)) (by decide)) ?_
  refine And.intro (k_pI (pc := 2) rfl (by decide) rfl zin12 lk_X12_55 tyX12_ok nmX12 rfl (by decide +kernel) (by decide +kernel : decode cX12_adds 2 = .ok (.putfield 55, 3))) ?_
  refine And.intro (k_aload_n (pc := 5) (by decide +kernel : decode cX12_adds 5 = .ok (.aload_n 0, 1)) rfl) ?_
  refine And.intro (k_iload_n (pc := 6) (by decide +kernel : decode cX12_adds 6 = .ok (.iload_n 1, 1)) rfl) ?_
  refine And.intro (k_iload_n (pc := 7) (by decide +kernel : decode cX12_adds 7 = .ok (.iload_n 2, 1)) rfl) ?_
  refine And.intro (k_iload_n (pc := 8) (by decide +kernel : decode cX12_adds 8 = .ok (.iload_n 3, 1)) rfl) ?_
  refine And.intro (k_crV (n := 3) (pc := 9) hG (zRoom_self 3) (tag := 12) rfl ini_X12 im_X12_refusesAdd se_X12_refusesAdd mk_X12_165 dy_X12_refusesAdd (by decide +kernel : decode cX12_adds 9 = .ok (.invokevirtual 165, 3))) ?_
  refine And.intro (k_istore (pc := 12) (by decide +kernel : decode cX12_adds 12 = .ok (.istore 4, 2))) ?_
  refine And.intro (k_iload (pc := 14) (by decide +kernel : decode cX12_adds 14 = .ok (.iload 4, 2))) ?_
  refine And.intro (k_if_ge (pc := 16) (by decide +kernel : decode cX12_adds 16 = .ok (.ifCond .ge 6, 3)) (by decide)) ?_
  refine And.intro (k_iload (pc := 19) (by decide +kernel : decode cX12_adds 19 = .ok (.iload 4, 2))) ?_
  refine And.intro (k_ireturn (pc := 21) rfl (by decide +kernel : decode cX12_adds 21 = .ok (.ireturn, 1))) ?_
  refine And.intro (k_aload_n (pc := 22) (by decide +kernel : decode cX12_adds 22 = .ok (.aload_n 0, 1)) rfl) ?_
  refine And.intro (k_cvV (n := 0) (pc := 23) hG (zRoom_self 3) (tag := 12) rfl ini_X12 im_X12_change se_X12_change mk_X12_139 dy_X12_change (by decide +kernel : decode cX12_adds 23 = .ok (.invokevirtual 139, 3))) ?_
  refine And.intro (k_aload_n (pc := 26) (by decide +kernel : decode cX12_adds 26 = .ok (.aload_n 0, 1)) rfl) ?_
  refine And.intro (k_iload_n (pc := 27) (by decide +kernel : decode cX12_adds 27 = .ok (.iload_n 1, 1)) rfl) ?_
  refine And.intro (k_iload_n (pc := 28) (by decide +kernel : decode cX12_adds 28 = .ok (.iload_n 2, 1)) rfl) ?_
  refine And.intro (k_iload_n (pc := 29) (by decide +kernel : decode cX12_adds 29 = .ok (.iload_n 3, 1)) rfl) ?_
  refine And.intro (k_cvV (n := 3) (pc := 30) hG (zRoom_self 3) (tag := 12) rfl ini_X12 im_X12_add se_X12_add mk_X12_169 dy_X12_add (by decide +kernel : decode cX12_adds 30 = .ok (.invokevirtual 169, 3))) ?_
  refine And.intro (k_aload_n (pc := 33) (by decide +kernel : decode cX12_adds 33 = .ok (.aload_n 0, 1)) rfl) ?_
  refine And.intro (k_gR (pc := 34) rfl (by decide) rfl zin12 lk_X12_9 (by decide +kernel : decode cX12_adds 34 = .ok (.getfield 9, 3))) ?_
  refine And.intro (k_iconst (pc := 37) (by decide +kernel : decode cX12_adds 37 = .ok (.iconst 0, 1)) (by decide)) ?_
  refine And.intro (k_iald (pc := 38) (by decide +kernel : decode cX12_adds 38 = .ok (.iaload, 1))) ?_
  refine And.intro (k_ireturn (pc := 39) rfl (by decide +kernel : decode cX12_adds 39 = .ok (.ireturn, 1))) ?_
  exact trivial
theorem cdX12_adds : Cond.code yX12_adds cX12_adds 5 (some .int) ∈ zWs := zWs_in 1325 (by decide +kernel) rfl
noncomputable def pgX12_drops : zPg := [(0, o_al 0), (1, o_ic (0)), (2, o_pI 12 5), (5, o_al 0), (6, o_il 1), (7, o_vr2 yX12_isTold 12 2), (10, o_if_ne 15), (13, o_ic (-1)), (14, o_ir), (15, o_al 0), (16, o_vv yX12_change 12 1), (19, o_al 0), (20, o_il 1), (21, o_vv yX12_drop 12 2), (24, o_al 0), (25, o_gR 12 0), (28, o_ic (0)), (29, o_xI 14), (30, o_ir)]
set_option maxRecDepth 20000 in
theorem pkX12_drops {G : zG} (hG : zGok G) (Q : zRt) : zPOK G (zRm 2) RX12 cX12_drops 2 (some .int) (zF G Q 0 0) 0 0 (zCalls G 2) Q pgX12_drops := by
  refine And.intro (k_aload_n (pc := 0) (by decide +kernel : decode cX12_drops 0 = .ok (.aload_n 0, 1)) rfl) ?_
  refine And.intro (k_iconst (pc := 1) (by decide +kernel : decode cX12_drops 1 = .ok (.iconst 0, 1)) (by decide)) ?_
  refine And.intro (k_pI (pc := 2) rfl (by decide) rfl zin12 lk_X12_55 tyX12_ok nmX12 rfl (by decide +kernel) (by decide +kernel : decode cX12_drops 2 = .ok (.putfield 55, 3))) ?_
  refine And.intro (k_aload_n (pc := 5) (by decide +kernel : decode cX12_drops 5 = .ok (.aload_n 0, 1)) rfl) ?_
  refine And.intro (k_iload_n (pc := 6) (by decide +kernel : decode cX12_drops 6 = .ok (.iload_n 1, 1)) rfl) ?_
  refine And.intro (k_crV (n := 1) (pc := 7) hG (zRoom_self 2) (tag := 12) rfl ini_X12 im_X12_isTold se_X12_isTold mk_X12_158 dy_X12_isTold (by decide +kernel : decode cX12_drops 7 = .ok (.invokevirtual 158, 3))) ?_
  refine And.intro (k_if_ne (pc := 10) (by decide +kernel : decode cX12_drops 10 = .ok (.ifCond .ne 5, 3)) (by decide)) ?_
  refine And.intro (k_iconst (pc := 13) (by decide +kernel : decode cX12_drops 13 = .ok (.iconst (-1), 1)) (by decide)) ?_
  refine And.intro (k_ireturn (pc := 14) rfl (by decide +kernel : decode cX12_drops 14 = .ok (.ireturn, 1))) ?_
  refine And.intro (k_aload_n (pc := 15) (by decide +kernel : decode cX12_drops 15 = .ok (.aload_n 0, 1)) rfl) ?_
  refine And.intro (k_cvV (n := 0) (pc := 16) hG (zRoom_self 2) (tag := 12) rfl ini_X12 im_X12_change se_X12_change mk_X12_139 dy_X12_change (by decide +kernel : decode cX12_drops 16 = .ok (.invokevirtual 139, 3))) ?_
  refine And.intro (k_aload_n (pc := 19) (by decide +kernel : decode cX12_drops 19 = .ok (.aload_n 0, 1)) rfl) ?_
  refine And.intro (k_iload_n (pc := 20) (by decide +kernel : decode cX12_drops 20 = .ok (.iload_n 1, 1)) rfl) ?_
  refine And.intro (k_cvV (n := 1) (pc := 21) hG (zRoom_self 2) (tag := 12) rfl ini_X12 im_X12_drop se_X12_drop mk_X12_173 dy_X12_drop (by decide +kernel : decode cX12_drops 21 = .ok (.invokevirtual 173, 3))) ?_
  refine And.intro (k_aload_n (pc := 24) (by decide +kernel : decode cX12_drops 24 = .ok (.aload_n 0, 1)) rfl) ?_
  refine And.intro (k_gR (pc := 25) rfl (by decide) rfl zin12 lk_X12_9 (by decide +kernel : decode cX12_drops 25 = .ok (.getfield 9, 3))) ?_
  refine And.intro (k_iconst (pc := 28) (by decide +kernel : decode cX12_drops 28 = .ok (.iconst 0, 1)) (by decide)) ?_
  refine And.intro (k_iald (pc := 29) (by decide +kernel : decode cX12_drops 29 = .ok (.iaload, 1))) ?_
  refine And.intro (k_ireturn (pc := 30) rfl (by decide +kernel : decode cX12_drops 30 = .ok (.ireturn, 1))) ?_
  exact trivial
theorem cdX12_drops : Cond.code yX12_drops cX12_drops 2 (some .int) ∈ zWs := zWs_in 1337 (by decide +kernel) rfl
noncomputable def pgX12_sliceAt : zPg := [(0, o_ic (7)), (2, o_ic (2)), (3, o_il 0), (4, o_imul), (5, o_il 1), (6, o_iadd), (7, o_imul), (8, o_il 2), (9, o_iadd), (10, o_ir)]
set_option maxRecDepth 20000 in
theorem pkX12_sliceAt {G : zG} (hG : zGok G) (Q : zRt) : zPOK G (zRm 0) RX12 cX12_sliceAt 3 (some .int) (zF G Q 0 0) 0 0 (zCalls G 0) Q pgX12_sliceAt := by
  refine And.intro (k_bipush (pc := 0) (by decide +kernel : decode cX12_sliceAt 0 = .ok (.bipush 7, 2)) (by decide)) ?_
  refine And.intro (k_iconst (pc := 2) (by decide +kernel : decode cX12_sliceAt 2 = .ok (.iconst 2, 1)) (by decide)) ?_
  refine And.intro (k_iload_n (pc := 3) (by decide +kernel : decode cX12_sliceAt 3 = .ok (.iload_n 0, 1)) rfl) ?_
  refine And.intro (k_imul (pc := 4) (by decide +kernel : decode cX12_sliceAt 4 = .ok (.imul, 1))) ?_
  refine And.intro (k_iload_n (pc := 5) (by decide +kernel : decode cX12_sliceAt 5 = .ok (.iload_n 1, 1)) rfl) ?_
  refine And.intro (k_iadd (pc := 6) (by decide +kernel : decode cX12_sliceAt 6 = .ok (.iadd, 1))) ?_
  refine And.intro (k_imul (pc := 7) (by decide +kernel : decode cX12_sliceAt 7 = .ok (.imul, 1))) ?_
  refine And.intro (k_iload_n (pc := 8) (by decide +kernel : decode cX12_sliceAt 8 = .ok (.iload_n 2, 1)) rfl) ?_
  refine And.intro (k_iadd (pc := 9) (by decide +kernel : decode cX12_sliceAt 9 = .ok (.iadd, 1))) ?_
  refine And.intro (k_ireturn (pc := 10) rfl (by decide +kernel : decode cX12_sliceAt 10 = .ok (.ireturn, 1))) ?_
  exact trivial
theorem cdX12_sliceAt : Cond.code yX12_sliceAt cX12_sliceAt 3 (some .int) ∈ zWs := zWs_in 1383 (by decide +kernel) rfl
noncomputable def pgX12_wide : zPg := [(0, o_al 0), (1, o_ll 1), (2, o_pJ 12 18), (5, o_al 0), (6, o_ll 3), (7, o_pJ 12 19), (10, o_al 0), (11, o_ll 5), (13, o_pJ 12 20), (16, o_al 0), (17, o_ll 7), (19, o_pJ 12 21), (22, o_vr)]
set_option maxRecDepth 20000 in
theorem pkX12_wide {G : zG} (hG : zGok G) (Q : zRt) : zPOK G (zRm 0) RX12 cX12_wide 9 none (zF G Q 0 0) 0 0 (zCalls G 0) Q pgX12_wide := by
  refine And.intro (k_aload_n (pc := 0) (by decide +kernel : decode cX12_wide 0 = .ok (.aload_n 0, 1)) rfl) ?_
  refine And.intro (k_lload_n (pc := 1) (by decide +kernel : decode cX12_wide 1 = .ok (.lload_n 1, 1)) rfl) ?_
  refine And.intro (k_pJ (pc := 2) rfl (by decide) rfl zin12 lk_X12_176 tyX12_ok nmX12 rfl (by decide +kernel) (by decide +kernel : decode cX12_wide 2 = .ok (.putfield 176, 3))) ?_
  refine And.intro (k_aload_n (pc := 5) (by decide +kernel : decode cX12_wide 5 = .ok (.aload_n 0, 1)) rfl) ?_
  refine And.intro (k_lload_n (pc := 6) (by decide +kernel : decode cX12_wide 6 = .ok (.lload_n 3, 1)) rfl) ?_
  refine And.intro (k_pJ (pc := 7) rfl (by decide) rfl zin12 lk_X12_179 tyX12_ok nmX12 rfl (by decide +kernel) (by decide +kernel : decode cX12_wide 7 = .ok (.putfield 179, 3))) ?_
  refine And.intro (k_aload_n (pc := 10) (by decide +kernel : decode cX12_wide 10 = .ok (.aload_n 0, 1)) rfl) ?_
  refine And.intro (k_lload (pc := 11) (by decide +kernel : decode cX12_wide 11 = .ok (.lload 5, 2))) ?_
  refine And.intro (k_pJ (pc := 13) rfl (by decide) rfl zin12 lk_X12_182 tyX12_ok nmX12 rfl (by decide +kernel) (by decide +kernel : decode cX12_wide 13 = .ok (.putfield 182, 3))) ?_
  refine And.intro (k_aload_n (pc := 16) (by decide +kernel : decode cX12_wide 16 = .ok (.aload_n 0, 1)) rfl) ?_
  refine And.intro (k_lload (pc := 17) (by decide +kernel : decode cX12_wide 17 = .ok (.lload 7, 2))) ?_
  refine And.intro (k_pJ (pc := 19) rfl (by decide) rfl zin12 lk_X12_185 tyX12_ok nmX12 rfl (by decide +kernel) (by decide +kernel : decode cX12_wide 19 = .ok (.putfield 185, 3))) ?_
  refine And.intro (k_return (pc := 22) rfl (by decide +kernel : decode cX12_wide 22 = .ok (.return_, 1))) ?_
  exact trivial
theorem cdX12_wide : Cond.code yX12_wide cX12_wide 9 none ∈ zWs := zWs_in 1358 (by decide +kernel) rfl
noncomputable def pgX12_notBelow : zPg := [(0, o_al 0), (1, o_gJ 12 18), (4, o_al 0), (5, o_gJ 12 19), (8, o_ll 1), (9, o_ll 3), (10, o_cr yX12_isLess 4), (13, o_if_ne 17), (16, o_vr), (17, o_al 0), (18, o_ll 1), (19, o_ll 3), (20, o_vv yX12_set 12 3), (23, o_al 0), (24, o_al 0), (25, o_gJ 12 6), (28, o_pJ 12 18), (31, o_al 0), (32, o_al 0), (33, o_gJ 12 7), (36, o_pJ 12 19), (39, o_vr)]
set_option maxRecDepth 20000 in
theorem pkX12_notBelow {G : zG} (hG : zGok G) (Q : zRt) : zPOK G (zRm 2) RX12 cX12_notBelow 5 none (zF G Q 0 0) 0 0 (zCalls G 2) Q pgX12_notBelow := by
  refine And.intro (k_aload_n (pc := 0) (by decide +kernel : decode cX12_notBelow 0 = .ok (.aload_n 0, 1)) rfl) ?_
  refine And.intro (k_gJ (pc := 1) rfl (by decide) rfl zin12 lk_X12_176 (by decide +kernel : decode cX12_notBelow 1 = .ok (.getfield 176, 3))) ?_
  refine And.intro (k_aload_n (pc := 4) (by decide +kernel : decode cX12_notBelow 4 = .ok (.aload_n 0, 1)) rfl) ?_
  refine And.intro (k_gJ (pc := 5) rfl (by decide) rfl zin12 lk_X12_179 (by decide +kernel : decode cX12_notBelow 5 = .ok (.getfield 179, 3))) ?_
  refine And.intro (k_lload_n (pc := 8) (by decide +kernel : decode cX12_notBelow 8 = .ok (.lload_n 1, 1)) rfl) ?_
  refine And.intro (k_lload_n (pc := 9) (by decide +kernel : decode cX12_notBelow 9 = .ok (.lload_n 3, 1)) rfl) ?_
  refine And.intro (k_crS (n := 4) (pc := 10) hG (zRoom_self 2) ini_X12 sta_X12_isLess mk_X12_188 dy_X12_isLess (by decide +kernel : decode cX12_notBelow 10 = .ok (.invokestatic 188, 3))) ?_
  refine And.intro (k_if_ne (pc := 13) (by decide +kernel : decode cX12_notBelow 13 = .ok (.ifCond .ne 4, 3)) (by decide)) ?_
  refine And.intro (k_return (pc := 16) rfl (by decide +kernel : decode cX12_notBelow 16 = .ok (.return_, 1))) ?_
  refine And.intro (k_aload_n (pc := 17) (by decide +kernel : decode cX12_notBelow 17 = .ok (.aload_n 0, 1)) rfl) ?_
  refine And.intro (k_lload_n (pc := 18) (by decide +kernel : decode cX12_notBelow 18 = .ok (.lload_n 1, 1)) rfl) ?_
  refine And.intro (k_lload_n (pc := 19) (by decide +kernel : decode cX12_notBelow 19 = .ok (.lload_n 3, 1)) rfl) ?_
  refine And.intro (k_cvV (n := 2) (pc := 20) hG (zRoom_self 2) (tag := 12) rfl ini_X12 im_X12_set se_X12_set mk_X12_76 dy_X12_set (by decide +kernel : decode cX12_notBelow 20 = .ok (.invokevirtual 76, 3))) ?_
  refine And.intro (k_aload_n (pc := 23) (by decide +kernel : decode cX12_notBelow 23 = .ok (.aload_n 0, 1)) rfl) ?_
  refine And.intro (k_aload_n (pc := 24) (by decide +kernel : decode cX12_notBelow 24 = .ok (.aload_n 0, 1)) rfl) ?_
  refine And.intro (k_gJ (pc := 25) rfl (by decide) rfl zin12 lk_X12_69 (by decide +kernel : decode cX12_notBelow 25 = .ok (.getfield 69, 3))) ?_
  refine And.intro (k_pJ (pc := 28) rfl (by decide) rfl zin12 lk_X12_176 tyX12_ok nmX12 rfl (by decide +kernel) (by decide +kernel : decode cX12_notBelow 28 = .ok (.putfield 176, 3))) ?_
  refine And.intro (k_aload_n (pc := 31) (by decide +kernel : decode cX12_notBelow 31 = .ok (.aload_n 0, 1)) rfl) ?_
  refine And.intro (k_aload_n (pc := 32) (by decide +kernel : decode cX12_notBelow 32 = .ok (.aload_n 0, 1)) rfl) ?_
  refine And.intro (k_gJ (pc := 33) rfl (by decide) rfl zin12 lk_X12_73 (by decide +kernel : decode cX12_notBelow 33 = .ok (.getfield 73, 3))) ?_
  refine And.intro (k_pJ (pc := 36) rfl (by decide) rfl zin12 lk_X12_179 tyX12_ok nmX12 rfl (by decide +kernel) (by decide +kernel : decode cX12_notBelow 36 = .ok (.putfield 179, 3))) ?_
  refine And.intro (k_return (pc := 39) rfl (by decide +kernel : decode cX12_notBelow 39 = .ok (.return_, 1))) ?_
  exact trivial
theorem cdX12_notBelow : Cond.code yX12_notBelow cX12_notBelow 5 none ∈ zWs := zWs_in 1380 (by decide +kernel) rfl
noncomputable def pgX12_notAbove : zPg := [(0, o_ll 1), (1, o_ll 3), (2, o_al 0), (3, o_gJ 12 20), (6, o_al 0), (7, o_gJ 12 21), (10, o_cr yX12_isLess 4), (13, o_if_ne 17), (16, o_vr), (17, o_al 0), (18, o_ll 1), (19, o_ll 3), (20, o_vv yX12_set 12 3), (23, o_al 0), (24, o_al 0), (25, o_gJ 12 6), (28, o_pJ 12 20), (31, o_al 0), (32, o_al 0), (33, o_gJ 12 7), (36, o_pJ 12 21), (39, o_vr)]
set_option maxRecDepth 20000 in
theorem pkX12_notAbove {G : zG} (hG : zGok G) (Q : zRt) : zPOK G (zRm 2) RX12 cX12_notAbove 5 none (zF G Q 0 0) 0 0 (zCalls G 2) Q pgX12_notAbove := by
  refine And.intro (k_lload_n (pc := 0) (by decide +kernel : decode cX12_notAbove 0 = .ok (.lload_n 1, 1)) rfl) ?_
  refine And.intro (k_lload_n (pc := 1) (by decide +kernel : decode cX12_notAbove 1 = .ok (.lload_n 3, 1)) rfl) ?_
  refine And.intro (k_aload_n (pc := 2) (by decide +kernel : decode cX12_notAbove 2 = .ok (.aload_n 0, 1)) rfl) ?_
  refine And.intro (k_gJ (pc := 3) rfl (by decide) rfl zin12 lk_X12_182 (by decide +kernel : decode cX12_notAbove 3 = .ok (.getfield 182, 3))) ?_
  refine And.intro (k_aload_n (pc := 6) (by decide +kernel : decode cX12_notAbove 6 = .ok (.aload_n 0, 1)) rfl) ?_
  refine And.intro (k_gJ (pc := 7) rfl (by decide) rfl zin12 lk_X12_185 (by decide +kernel : decode cX12_notAbove 7 = .ok (.getfield 185, 3))) ?_
  refine And.intro (k_crS (n := 4) (pc := 10) hG (zRoom_self 2) ini_X12 sta_X12_isLess mk_X12_188 dy_X12_isLess (by decide +kernel : decode cX12_notAbove 10 = .ok (.invokestatic 188, 3))) ?_
  refine And.intro (k_if_ne (pc := 13) (by decide +kernel : decode cX12_notAbove 13 = .ok (.ifCond .ne 4, 3)) (by decide)) ?_
  refine And.intro (k_return (pc := 16) rfl (by decide +kernel : decode cX12_notAbove 16 = .ok (.return_, 1))) ?_
  refine And.intro (k_aload_n (pc := 17) (by decide +kernel : decode cX12_notAbove 17 = .ok (.aload_n 0, 1)) rfl) ?_
  refine And.intro (k_lload_n (pc := 18) (by decide +kernel : decode cX12_notAbove 18 = .ok (.lload_n 1, 1)) rfl) ?_
  refine And.intro (k_lload_n (pc := 19) (by decide +kernel : decode cX12_notAbove 19 = .ok (.lload_n 3, 1)) rfl) ?_
  refine And.intro (k_cvV (n := 2) (pc := 20) hG (zRoom_self 2) (tag := 12) rfl ini_X12 im_X12_set se_X12_set mk_X12_76 dy_X12_set (by decide +kernel : decode cX12_notAbove 20 = .ok (.invokevirtual 76, 3))) ?_
  refine And.intro (k_aload_n (pc := 23) (by decide +kernel : decode cX12_notAbove 23 = .ok (.aload_n 0, 1)) rfl) ?_
  refine And.intro (k_aload_n (pc := 24) (by decide +kernel : decode cX12_notAbove 24 = .ok (.aload_n 0, 1)) rfl) ?_
  refine And.intro (k_gJ (pc := 25) rfl (by decide) rfl zin12 lk_X12_69 (by decide +kernel : decode cX12_notAbove 25 = .ok (.getfield 69, 3))) ?_
  refine And.intro (k_pJ (pc := 28) rfl (by decide) rfl zin12 lk_X12_182 tyX12_ok nmX12 rfl (by decide +kernel) (by decide +kernel : decode cX12_notAbove 28 = .ok (.putfield 182, 3))) ?_
  refine And.intro (k_aload_n (pc := 31) (by decide +kernel : decode cX12_notAbove 31 = .ok (.aload_n 0, 1)) rfl) ?_
  refine And.intro (k_aload_n (pc := 32) (by decide +kernel : decode cX12_notAbove 32 = .ok (.aload_n 0, 1)) rfl) ?_
  refine And.intro (k_gJ (pc := 33) rfl (by decide) rfl zin12 lk_X12_73 (by decide +kernel : decode cX12_notAbove 33 = .ok (.getfield 73, 3))) ?_
  refine And.intro (k_pJ (pc := 36) rfl (by decide) rfl zin12 lk_X12_185 tyX12_ok nmX12 rfl (by decide +kernel) (by decide +kernel : decode cX12_notAbove 36 = .ok (.putfield 185, 3))) ?_
  refine And.intro (k_return (pc := 39) rfl (by decide +kernel : decode cX12_notAbove 39 = .ok (.return_, 1))) ?_
  exact trivial
theorem cdX12_notAbove : Cond.code yX12_notAbove cX12_notAbove 5 none ∈ zWs := zWs_in 1366 (by decide +kernel) rfl
noncomputable def pgX12_isEmpty : zPg := [(0, o_al 0), (1, o_gJ 12 20), (4, o_al 0), (5, o_gJ 12 21), (8, o_al 0), (9, o_gJ 12 18), (12, o_al 0), (13, o_gJ 12 19), (16, o_cr yX12_isLess 4), (19, o_zr)]
set_option maxRecDepth 20000 in
theorem pkX12_isEmpty {G : zG} (hG : zGok G) (Q : zRt) : zPOK G (zRm 1) RX12 cX12_isEmpty 1 (some .boolean) (zF G Q 0 0) 0 0 (zCalls G 1) Q pgX12_isEmpty := by
  refine And.intro (k_aload_n (pc := 0) (by decide +kernel : decode cX12_isEmpty 0 = .ok (.aload_n 0, 1)) rfl) ?_
  refine And.intro (k_gJ (pc := 1) rfl (by decide) rfl zin12 lk_X12_182 (by decide +kernel : decode cX12_isEmpty 1 = .ok (.getfield 182, 3))) ?_
  refine And.intro (k_aload_n (pc := 4) (by decide +kernel : decode cX12_isEmpty 4 = .ok (.aload_n 0, 1)) rfl) ?_
  refine And.intro (k_gJ (pc := 5) rfl (by decide) rfl zin12 lk_X12_185 (by decide +kernel : decode cX12_isEmpty 5 = .ok (.getfield 185, 3))) ?_
  refine And.intro (k_aload_n (pc := 8) (by decide +kernel : decode cX12_isEmpty 8 = .ok (.aload_n 0, 1)) rfl) ?_
  refine And.intro (k_gJ (pc := 9) rfl (by decide) rfl zin12 lk_X12_176 (by decide +kernel : decode cX12_isEmpty 9 = .ok (.getfield 176, 3))) ?_
  refine And.intro (k_aload_n (pc := 12) (by decide +kernel : decode cX12_isEmpty 12 = .ok (.aload_n 0, 1)) rfl) ?_
  refine And.intro (k_gJ (pc := 13) rfl (by decide) rfl zin12 lk_X12_179 (by decide +kernel : decode cX12_isEmpty 13 = .ok (.getfield 179, 3))) ?_
  refine And.intro (k_crS (n := 4) (pc := 16) hG (zRoom_self 1) ini_X12 sta_X12_isLess mk_X12_188 dy_X12_isLess (by decide +kernel : decode cX12_isEmpty 16 = .ok (.invokestatic 188, 3))) ?_
  refine And.intro (k_zreturn (pc := 19) rfl (by decide +kernel : decode cX12_isEmpty 19 = .ok (.ireturn, 1))) ?_
  exact trivial
theorem cdX12_isEmpty : Cond.code yX12_isEmpty cX12_isEmpty 1 (some .boolean) ∈ zWs := zWs_in 1387 (by decide +kernel) rfl
noncomputable def pgX12_keepSlice : zPg := [(0, o_al 0), (1, o_gR 12 15), (4, o_il 1), (5, o_il 2), (6, o_yZ), (7, o_al 0), (8, o_gR 12 16), (11, o_ic (2)), (12, o_il 1), (13, o_imul), (14, o_il 2), (15, o_if_eq 25), (18, o_al 0), (19, o_gJ 12 18), (22, o_go 26), (25, o_lc 0), (26, o_yJ), (27, o_al 0), (28, o_gR 12 16), (31, o_ic (2)), (32, o_il 1), (33, o_imul), (34, o_ic (1)), (35, o_iadd), (36, o_il 2), (37, o_if_eq 47), (40, o_al 0), (41, o_gJ 12 19), (44, o_go 48), (47, o_lc 1), (48, o_yJ), (49, o_al 0), (50, o_gR 12 17), (53, o_ic (2)), (54, o_il 1), (55, o_imul), (56, o_il 2), (57, o_if_eq 67), (60, o_al 0), (61, o_gJ 12 20), (64, o_go 68), (67, o_lc 0), (68, o_yJ), (69, o_al 0), (70, o_gR 12 17), (73, o_ic (2)), (74, o_il 1), (75, o_imul), (76, o_ic (1)), (77, o_iadd), (78, o_il 2), (79, o_if_eq 89), (82, o_al 0), (83, o_gJ 12 21), (86, o_go 90), (89, o_lc 1), (90, o_yJ), (91, o_vr)]
set_option maxRecDepth 20000 in
theorem pkX12_keepSlice {G : zG} (hG : zGok G) (Q : zRt) : zPOK G (zRm 0) RX12 cX12_keepSlice 3 none (zF G Q 0 0) 0 0 (zCalls G 0) Q pgX12_keepSlice := by
  refine And.intro (k_aload_n (pc := 0) (by decide +kernel : decode cX12_keepSlice 0 = .ok (.aload_n 0, 1)) rfl) ?_
  refine And.intro (k_gR (pc := 1) rfl (by decide) rfl zin12 lk_X12_30 (by decide +kernel : decode cX12_keepSlice 1 = .ok (.getfield 30, 3))) ?_
  refine And.intro (k_iload_n (pc := 4) (by decide +kernel : decode cX12_keepSlice 4 = .ok (.iload_n 1, 1)) rfl) ?_
  refine And.intro (k_iload_n (pc := 5) (by decide +kernel : decode cX12_keepSlice 5 = .ok (.iload_n 2, 1)) rfl) ?_
  refine And.intro (k_zast (pc := 6) (by decide +kernel : decode cX12_keepSlice 6 = .ok (.bastore, 1))) ?_
  refine And.intro (k_aload_n (pc := 7) (by decide +kernel : decode cX12_keepSlice 7 = .ok (.aload_n 0, 1)) rfl) ?_
  refine And.intro (k_gR (pc := 8) rfl (by decide) rfl zin12 lk_X12_34 (by decide +kernel : decode cX12_keepSlice 8 = .ok (.getfield 34, 3))) ?_
  refine And.intro (k_iconst (pc := 11) (by decide +kernel : decode cX12_keepSlice 11 = .ok (.iconst 2, 1)) (by decide)) ?_
  refine And.intro (k_iload_n (pc := 12) (by decide +kernel : decode cX12_keepSlice 12 = .ok (.iload_n 1, 1)) rfl) ?_
  refine And.intro (k_imul (pc := 13) (by decide +kernel : decode cX12_keepSlice 13 = .ok (.imul, 1))) ?_
  refine And.intro (k_iload_n (pc := 14) (by decide +kernel : decode cX12_keepSlice 14 = .ok (.iload_n 2, 1)) rfl) ?_
  refine And.intro (k_if_eq (pc := 15) (by decide +kernel : decode cX12_keepSlice 15 = .ok (.ifCond .eq 10, 3)) (by decide)) ?_
  refine And.intro (k_aload_n (pc := 18) (by decide +kernel : decode cX12_keepSlice 18 = .ok (.aload_n 0, 1)) rfl) ?_
  refine And.intro (k_gJ (pc := 19) rfl (by decide) rfl zin12 lk_X12_176 (by decide +kernel : decode cX12_keepSlice 19 = .ok (.getfield 176, 3))) ?_
  refine And.intro (k_goto (pc := 22) (by decide +kernel : decode cX12_keepSlice 22 = .ok (.goto 4, 3)) (by decide)) ?_
  refine And.intro (k_lconst (pc := 25) (by decide +kernel : decode cX12_keepSlice 25 = .ok (.lconst 0, 1)) (by decide)) ?_
  refine And.intro (k_last (pc := 26) (by decide +kernel : decode cX12_keepSlice 26 = .ok (.lastore, 1))) ?_
  refine And.intro (k_aload_n (pc := 27) (by decide +kernel : decode cX12_keepSlice 27 = .ok (.aload_n 0, 1)) rfl) ?_
  refine And.intro (k_gR (pc := 28) rfl (by decide) rfl zin12 lk_X12_34 (by decide +kernel : decode cX12_keepSlice 28 = .ok (.getfield 34, 3))) ?_
  refine And.intro (k_iconst (pc := 31) (by decide +kernel : decode cX12_keepSlice 31 = .ok (.iconst 2, 1)) (by decide)) ?_
  refine And.intro (k_iload_n (pc := 32) (by decide +kernel : decode cX12_keepSlice 32 = .ok (.iload_n 1, 1)) rfl) ?_
  refine And.intro (k_imul (pc := 33) (by decide +kernel : decode cX12_keepSlice 33 = .ok (.imul, 1))) ?_
  refine And.intro (k_iconst (pc := 34) (by decide +kernel : decode cX12_keepSlice 34 = .ok (.iconst 1, 1)) (by decide)) ?_
  refine And.intro (k_iadd (pc := 35) (by decide +kernel : decode cX12_keepSlice 35 = .ok (.iadd, 1))) ?_
  refine And.intro (k_iload_n (pc := 36) (by decide +kernel : decode cX12_keepSlice 36 = .ok (.iload_n 2, 1)) rfl) ?_
  refine And.intro (k_if_eq (pc := 37) (by decide +kernel : decode cX12_keepSlice 37 = .ok (.ifCond .eq 10, 3)) (by decide)) ?_
  refine And.intro (k_aload_n (pc := 40) (by decide +kernel : decode cX12_keepSlice 40 = .ok (.aload_n 0, 1)) rfl) ?_
  refine And.intro (k_gJ (pc := 41) rfl (by decide) rfl zin12 lk_X12_179 (by decide +kernel : decode cX12_keepSlice 41 = .ok (.getfield 179, 3))) ?_
  refine And.intro (k_goto (pc := 44) (by decide +kernel : decode cX12_keepSlice 44 = .ok (.goto 4, 3)) (by decide)) ?_
  refine And.intro (k_lconst (pc := 47) (by decide +kernel : decode cX12_keepSlice 47 = .ok (.lconst 1, 1)) (by decide)) ?_
  refine And.intro (k_last (pc := 48) (by decide +kernel : decode cX12_keepSlice 48 = .ok (.lastore, 1))) ?_
  refine And.intro (k_aload_n (pc := 49) (by decide +kernel : decode cX12_keepSlice 49 = .ok (.aload_n 0, 1)) rfl) ?_
  refine And.intro (k_gR (pc := 50) rfl (by decide) rfl zin12 lk_X12_37 (by decide +kernel : decode cX12_keepSlice 50 = .ok (.getfield 37, 3))) ?_
  refine And.intro (k_iconst (pc := 53) (by decide +kernel : decode cX12_keepSlice 53 = .ok (.iconst 2, 1)) (by decide)) ?_
  refine And.intro (k_iload_n (pc := 54) (by decide +kernel : decode cX12_keepSlice 54 = .ok (.iload_n 1, 1)) rfl) ?_
  refine And.intro (k_imul (pc := 55) (by decide +kernel : decode cX12_keepSlice 55 = .ok (.imul, 1))) ?_
  refine And.intro (k_iload_n (pc := 56) (by decide +kernel : decode cX12_keepSlice 56 = .ok (.iload_n 2, 1)) rfl) ?_
  refine And.intro (k_if_eq (pc := 57) (by decide +kernel : decode cX12_keepSlice 57 = .ok (.ifCond .eq 10, 3)) (by decide)) ?_
  refine And.intro (k_aload_n (pc := 60) (by decide +kernel : decode cX12_keepSlice 60 = .ok (.aload_n 0, 1)) rfl) ?_
  refine And.intro (k_gJ (pc := 61) rfl (by decide) rfl zin12 lk_X12_182 (by decide +kernel : decode cX12_keepSlice 61 = .ok (.getfield 182, 3))) ?_
  refine And.intro (k_goto (pc := 64) (by decide +kernel : decode cX12_keepSlice 64 = .ok (.goto 4, 3)) (by decide)) ?_
  refine And.intro (k_lconst (pc := 67) (by decide +kernel : decode cX12_keepSlice 67 = .ok (.lconst 0, 1)) (by decide)) ?_
  refine And.intro (k_last (pc := 68) (by decide +kernel : decode cX12_keepSlice 68 = .ok (.lastore, 1))) ?_
  refine And.intro (k_aload_n (pc := 69) (by decide +kernel : decode cX12_keepSlice 69 = .ok (.aload_n 0, 1)) rfl) ?_
  refine And.intro (k_gR (pc := 70) rfl (by decide) rfl zin12 lk_X12_37 (by decide +kernel : decode cX12_keepSlice 70 = .ok (.getfield 37, 3))) ?_
  refine And.intro (k_iconst (pc := 73) (by decide +kernel : decode cX12_keepSlice 73 = .ok (.iconst 2, 1)) (by decide)) ?_
  refine And.intro (k_iload_n (pc := 74) (by decide +kernel : decode cX12_keepSlice 74 = .ok (.iload_n 1, 1)) rfl) ?_
  refine And.intro (k_imul (pc := 75) (by decide +kernel : decode cX12_keepSlice 75 = .ok (.imul, 1))) ?_
  refine And.intro (k_iconst (pc := 76) (by decide +kernel : decode cX12_keepSlice 76 = .ok (.iconst 1, 1)) (by decide)) ?_
  refine And.intro (k_iadd (pc := 77) (by decide +kernel : decode cX12_keepSlice 77 = .ok (.iadd, 1))) ?_
  refine And.intro (k_iload_n (pc := 78) (by decide +kernel : decode cX12_keepSlice 78 = .ok (.iload_n 2, 1)) rfl) ?_
  refine And.intro (k_if_eq (pc := 79) (by decide +kernel : decode cX12_keepSlice 79 = .ok (.ifCond .eq 10, 3)) (by decide)) ?_
  refine And.intro (k_aload_n (pc := 82) (by decide +kernel : decode cX12_keepSlice 82 = .ok (.aload_n 0, 1)) rfl) ?_
  refine And.intro (k_gJ (pc := 83) rfl (by decide) rfl zin12 lk_X12_185 (by decide +kernel : decode cX12_keepSlice 83 = .ok (.getfield 185, 3))) ?_
  refine And.intro (k_goto (pc := 86) (by decide +kernel : decode cX12_keepSlice 86 = .ok (.goto 4, 3)) (by decide)) ?_
  refine And.intro (k_lconst (pc := 89) (by decide +kernel : decode cX12_keepSlice 89 = .ok (.lconst 1, 1)) (by decide)) ?_
  refine And.intro (k_last (pc := 90) (by decide +kernel : decode cX12_keepSlice 90 = .ok (.lastore, 1))) ?_
  refine And.intro (k_return (pc := 91) rfl (by decide +kernel : decode cX12_keepSlice 91 = .ok (.return_, 1))) ?_
  exact trivial
theorem cdX12_keepSlice : Cond.code yX12_keepSlice cX12_keepSlice 3 none ∈ zWs := zWs_in 1391 (by decide +kernel) rfl
noncomputable def pgX12_narrow : zPg := [(0, o_ll 1), (1, o_lc 0), (2, o_lc_le 12), (6, o_al 0), (7, o_ll 3), (8, o_ll 1), (9, o_vv yX12_notAbove 12 3), (12, o_ll 1), (13, o_lc 0), (14, o_lc_ge 26), (18, o_al 0), (19, o_ll 3), (20, o_lneg), (21, o_ll 1), (22, o_lneg), (23, o_vv yX12_notBelow 12 3), (26, o_ll 1), (27, o_lc 0), (28, o_lc_ne 38), (32, o_ll 3), (33, o_lc 0), (34, o_lc_lt 42), (38, o_ic (1)), (39, o_go 43), (42, o_ic (0)), (43, o_zr)]
set_option maxRecDepth 20000 in
theorem pkX12_narrow {G : zG} (hG : zGok G) (Q : zRt) : zPOK G (zRm 3) RX12 cX12_narrow 5 (some .boolean) (zF G Q 0 0) 0 0 (zCalls G 3) Q pgX12_narrow := by
  refine And.intro (k_lload_n (pc := 0) (by decide +kernel : decode cX12_narrow 0 = .ok (.lload_n 1, 1)) rfl) ?_
  refine And.intro (k_lconst (pc := 1) (by decide +kernel : decode cX12_narrow 1 = .ok (.lconst 0, 1)) (by decide)) ?_
  refine And.intro (k_lcmp_le (pc := 2) (by decide +kernel : decode cX12_narrow 2 = .ok (.lcmp, 1)) (by decide +kernel : decode cX12_narrow 3 = .ok (.ifCond .le 9, 3)) (by decide)) ?_
  refine And.intro (k_aload_n (pc := 6) (by decide +kernel : decode cX12_narrow 6 = .ok (.aload_n 0, 1)) rfl) ?_
  refine And.intro (k_lload_n (pc := 7) (by decide +kernel : decode cX12_narrow 7 = .ok (.lload_n 3, 1)) rfl) ?_
  refine And.intro (k_lload_n (pc := 8) (by decide +kernel : decode cX12_narrow 8 = .ok (.lload_n 1, 1)) rfl) ?_
  refine And.intro (k_cvV (n := 2) (pc := 9) hG (zRoom_self 3) (tag := 12) rfl ini_X12 im_X12_notAbove se_X12_notAbove mk_X12_192 dy_X12_notAbove (by decide +kernel : decode cX12_narrow 9 = .ok (.invokevirtual 192, 3))) ?_
  refine And.intro (k_lload_n (pc := 12) (by decide +kernel : decode cX12_narrow 12 = .ok (.lload_n 1, 1)) rfl) ?_
  refine And.intro (k_lconst (pc := 13) (by decide +kernel : decode cX12_narrow 13 = .ok (.lconst 0, 1)) (by decide)) ?_
  refine And.intro (k_lcmp_ge (pc := 14) (by decide +kernel : decode cX12_narrow 14 = .ok (.lcmp, 1)) (by decide +kernel : decode cX12_narrow 15 = .ok (.ifCond .ge 11, 3)) (by decide)) ?_
  refine And.intro (k_aload_n (pc := 18) (by decide +kernel : decode cX12_narrow 18 = .ok (.aload_n 0, 1)) rfl) ?_
  refine And.intro (k_lload_n (pc := 19) (by decide +kernel : decode cX12_narrow 19 = .ok (.lload_n 3, 1)) rfl) ?_
  refine And.intro (k_lneg (pc := 20) (by decide +kernel : decode cX12_narrow 20 = .ok (.lneg, 1))) ?_
  refine And.intro (k_lload_n (pc := 21) (by decide +kernel : decode cX12_narrow 21 = .ok (.lload_n 1, 1)) rfl) ?_
  refine And.intro (k_lneg (pc := 22) (by decide +kernel : decode cX12_narrow 22 = .ok (.lneg, 1))) ?_
  refine And.intro (k_cvV (n := 2) (pc := 23) hG (zRoom_self 3) (tag := 12) rfl ini_X12 im_X12_notBelow se_X12_notBelow mk_X12_195 dy_X12_notBelow (by decide +kernel : decode cX12_narrow 23 = .ok (.invokevirtual 195, 3))) ?_
  refine And.intro (k_lload_n (pc := 26) (by decide +kernel : decode cX12_narrow 26 = .ok (.lload_n 1, 1)) rfl) ?_
  refine And.intro (k_lconst (pc := 27) (by decide +kernel : decode cX12_narrow 27 = .ok (.lconst 0, 1)) (by decide)) ?_
  refine And.intro (k_lcmp_ne (pc := 28) (by decide +kernel : decode cX12_narrow 28 = .ok (.lcmp, 1)) (by decide +kernel : decode cX12_narrow 29 = .ok (.ifCond .ne 9, 3)) (by decide)) ?_
  refine And.intro (k_lload_n (pc := 32) (by decide +kernel : decode cX12_narrow 32 = .ok (.lload_n 3, 1)) rfl) ?_
  refine And.intro (k_lconst (pc := 33) (by decide +kernel : decode cX12_narrow 33 = .ok (.lconst 0, 1)) (by decide)) ?_
  refine And.intro (k_lcmp_lt (pc := 34) (by decide +kernel : decode cX12_narrow 34 = .ok (.lcmp, 1)) (by decide +kernel : decode cX12_narrow 35 = .ok (.ifCond .lt 7, 3)) (by decide)) ?_
  refine And.intro (k_iconst (pc := 38) (by decide +kernel : decode cX12_narrow 38 = .ok (.iconst 1, 1)) (by decide)) ?_
  refine And.intro (k_goto (pc := 39) (by decide +kernel : decode cX12_narrow 39 = .ok (.goto 4, 3)) (by decide)) ?_
  refine And.intro (k_iconst (pc := 42) (by decide +kernel : decode cX12_narrow 42 = .ok (.iconst 0, 1)) (by decide)) ?_
  refine And.intro (k_zreturn (pc := 43) rfl (by decide +kernel : decode cX12_narrow 43 = .ok (.ireturn, 1))) ?_
  exact trivial
theorem cdX12_narrow : Cond.code yX12_narrow cX12_narrow 5 (some .boolean) ∈ zWs := zWs_in 1362 (by decide +kernel) rfl
noncomputable def pgX12_layFirst : zPg := [(0, o_ic (0)), (1, o_is 1), (2, o_il 1), (3, o_ic (2)), (4, o_ic_ge 128), (7, o_ic (0)), (8, o_is 2), (9, o_il 2), (10, o_ic (7)), (12, o_ic_ge 122), (15, o_al 0), (16, o_lc 0), (17, o_lc 1), (18, o_lc (6)), (21, o_lc 1), (22, o_vv yX12_wide 12 5), (25, o_ic (1)), (26, o_is 3), (27, o_ic (0)), (28, o_is 4), (30, o_il 4), (32, o_al 0), (33, o_vr2 yX12_lines 12 1), (36, o_ic_ge 90), (39, o_al 0), (40, o_al 0), (41, o_il 4), (43, o_ic (1)), (44, o_il 1), (45, o_isub), (46, o_vr2 yX12_of 12 3), (49, o_i2l), (50, o_al 0), (51, o_il 4), (53, o_ic (2)), (54, o_vr2 yX12_of 12 3), (57, o_al 0), (58, o_il 4), (60, o_il 1), (61, o_vr2 yX12_of 12 3), (64, o_il 2), (65, o_imul), (66, o_isub), (67, o_i2l), (68, o_vr2 yX12_narrow 12 3), (71, o_if_eq 82), (74, o_il 3), (75, o_if_eq 82), (78, o_ic (1)), (79, o_go 83), (82, o_ic (0)), (83, o_is 3), (84, o_inc 4 (1)), (87, o_go 30), (90, o_al 0), (91, o_ic (0)), (92, o_il 1), (93, o_il 2), (94, o_cr yX12_sliceAt 3), (97, o_il 3), (98, o_if_eq 112), (101, o_al 0), (102, o_vr2 yX12_isEmpty 12 1), (105, o_if_ne 112), (108, o_ic (1)), (109, o_go 113), (112, o_ic (0)), (113, o_vv yX12_keepSlice 12 3), (116, o_inc 2 (1)), (119, o_go 9), (122, o_inc 1 (1)), (125, o_go 2), (128, o_vr)]
set_option maxRecDepth 20000 in
theorem pkX12_layFirst {G : zG} (hG : zGok G) (Q : zRt) : zPOK G (zRm 4) RX12 cX12_layFirst 5 none (zF G Q 0 0) 0 0 (zCalls G 4) Q pgX12_layFirst := by
  refine And.intro (k_iconst (pc := 0) (by decide +kernel : decode cX12_layFirst 0 = .ok (.iconst 0, 1)) (by decide)) ?_
  refine And.intro (k_istore_n (pc := 1) (by decide +kernel : decode cX12_layFirst 1 = .ok (.istore_n 1, 1)) rfl) ?_
  refine And.intro (k_iload_n (pc := 2) (by decide +kernel : decode cX12_layFirst 2 = .ok (.iload_n 1, 1)) rfl) ?_
  refine And.intro (k_iconst (pc := 3) (by decide +kernel : decode cX12_layFirst 3 = .ok (.iconst 2, 1)) (by decide)) ?_
  refine And.intro (k_icmp_ge (pc := 4) (by decide +kernel : decode cX12_layFirst 4 = .ok (.if_icmp .ge 124, 3)) (by decide)) ?_
  refine And.intro (k_iconst (pc := 7) (by decide +kernel : decode cX12_layFirst 7 = .ok (.iconst 0, 1)) (by decide)) ?_
  refine And.intro (k_istore_n (pc := 8) (by decide +kernel : decode cX12_layFirst 8 = .ok (.istore_n 2, 1)) rfl) ?_
  refine And.intro (k_iload_n (pc := 9) (by decide +kernel : decode cX12_layFirst 9 = .ok (.iload_n 2, 1)) rfl) ?_
  refine And.intro (k_bipush (pc := 10) (by decide +kernel : decode cX12_layFirst 10 = .ok (.bipush 7, 2)) (by decide)) ?_
  refine And.intro (k_icmp_ge (pc := 12) (by decide +kernel : decode cX12_layFirst 12 = .ok (.if_icmp .ge 110, 3)) (by decide)) ?_
  refine And.intro (k_aload_n (pc := 15) (by decide +kernel : decode cX12_layFirst 15 = .ok (.aload_n 0, 1)) rfl) ?_
  refine And.intro (k_lconst (pc := 16) (by decide +kernel : decode cX12_layFirst 16 = .ok (.lconst 0, 1)) (by decide)) ?_
  refine And.intro (k_lconst (pc := 17) (by decide +kernel : decode cX12_layFirst 17 = .ok (.lconst 1, 1)) (by decide)) ?_
  refine And.intro (k_ldc2 (pc := 18) csl_X12_198 (by decide +kernel : decode cX12_layFirst 18 = .ok (.ldc2_w 198, 3))) ?_
  refine And.intro (k_lconst (pc := 21) (by decide +kernel : decode cX12_layFirst 21 = .ok (.lconst 1, 1)) (by decide)) ?_
  refine And.intro (k_cvV (n := 4) (pc := 22) hG (zRoom_self 4) (tag := 12) rfl ini_X12 im_X12_wide se_X12_wide mk_X12_200 dy_X12_wide (by decide +kernel : decode cX12_layFirst 22 = .ok (.invokevirtual 200, 3))) ?_
  refine And.intro (k_iconst (pc := 25) (by decide +kernel : decode cX12_layFirst 25 = .ok (.iconst 1, 1)) (by decide)) ?_
  refine And.intro (k_istore_n (pc := 26) (by decide +kernel : decode cX12_layFirst 26 = .ok (.istore_n 3, 1)) rfl) ?_
  refine And.intro (k_iconst (pc := 27) (by decide +kernel : decode cX12_layFirst 27 = .ok (.iconst 0, 1)) (by decide)) ?_
  refine And.intro (k_istore (pc := 28) (by decide +kernel : decode cX12_layFirst 28 = .ok (.istore 4, 2))) ?_
  refine And.intro (k_iload (pc := 30) (by decide +kernel : decode cX12_layFirst 30 = .ok (.iload 4, 2))) ?_
  refine And.intro (k_aload_n (pc := 32) (by decide +kernel : decode cX12_layFirst 32 = .ok (.aload_n 0, 1)) rfl) ?_
  refine And.intro (k_crV (n := 0) (pc := 33) hG (zRoom_self 4) (tag := 12) rfl ini_X12 im_X12_lines se_X12_lines mk_X12_142 dy_X12_lines (by decide +kernel : decode cX12_layFirst 33 = .ok (.invokevirtual 142, 3))) ?_
  refine And.intro (k_icmp_ge (pc := 36) (by decide +kernel : decode cX12_layFirst 36 = .ok (.if_icmp .ge 54, 3)) (by decide)) ?_
  refine And.intro (k_aload_n (pc := 39) (by decide +kernel : decode cX12_layFirst 39 = .ok (.aload_n 0, 1)) rfl) ?_
  refine And.intro (k_aload_n (pc := 40) (by decide +kernel : decode cX12_layFirst 40 = .ok (.aload_n 0, 1)) rfl) ?_
  refine And.intro (k_iload (pc := 41) (by decide +kernel : decode cX12_layFirst 41 = .ok (.iload 4, 2))) ?_
  refine And.intro (k_iconst (pc := 43) (by decide +kernel : decode cX12_layFirst 43 = .ok (.iconst 1, 1)) (by decide)) ?_
  refine And.intro (k_iload_n (pc := 44) (by decide +kernel : decode cX12_layFirst 44 = .ok (.iload_n 1, 1)) rfl) ?_
  refine And.intro (k_isub (pc := 45) (by decide +kernel : decode cX12_layFirst 45 = .ok (.isub, 1))) ?_
  refine And.intro (k_crV (n := 2) (pc := 46) hG (zRoom_self 4) (tag := 12) rfl ini_X12 im_X12_of se_X12_of mk_X12_145 dy_X12_of (by decide +kernel : decode cX12_layFirst 46 = .ok (.invokevirtual 145, 3))) ?_
  refine And.intro (k_i2l (pc := 49) (by decide +kernel : decode cX12_layFirst 49 = .ok (.i2l, 1))) ?_
  refine And.intro (k_aload_n (pc := 50) (by decide +kernel : decode cX12_layFirst 50 = .ok (.aload_n 0, 1)) rfl) ?_
  refine And.intro (k_iload (pc := 51) (by decide +kernel : decode cX12_layFirst 51 = .ok (.iload 4, 2))) ?_
  refine And.intro (k_iconst (pc := 53) (by decide +kernel : decode cX12_layFirst 53 = .ok (.iconst 2, 1)) (by decide)) ?_
  refine And.intro (k_crV (n := 2) (pc := 54) hG (zRoom_self 4) (tag := 12) rfl ini_X12 im_X12_of se_X12_of mk_X12_145 dy_X12_of (by decide +kernel : decode cX12_layFirst 54 = .ok (.invokevirtual 145, 3))) ?_
  refine And.intro (k_aload_n (pc := 57) (by decide +kernel : decode cX12_layFirst 57 = .ok (.aload_n 0, 1)) rfl) ?_
  refine And.intro (k_iload (pc := 58) (by decide +kernel : decode cX12_layFirst 58 = .ok (.iload 4, 2))) ?_
  refine And.intro (k_iload_n (pc := 60) (by decide +kernel : decode cX12_layFirst 60 = .ok (.iload_n 1, 1)) rfl) ?_
  refine And.intro (k_crV (n := 2) (pc := 61) hG (zRoom_self 4) (tag := 12) rfl ini_X12 im_X12_of se_X12_of mk_X12_145 dy_X12_of (by decide +kernel : decode cX12_layFirst 61 = .ok (.invokevirtual 145, 3))) ?_
  refine And.intro (k_iload_n (pc := 64) (by decide +kernel : decode cX12_layFirst 64 = .ok (.iload_n 2, 1)) rfl) ?_
  refine And.intro (k_imul (pc := 65) (by decide +kernel : decode cX12_layFirst 65 = .ok (.imul, 1))) ?_
  refine And.intro (k_isub (pc := 66) (by decide +kernel : decode cX12_layFirst 66 = .ok (.isub, 1))) ?_
  refine And.intro (k_i2l (pc := 67) (by decide +kernel : decode cX12_layFirst 67 = .ok (.i2l, 1))) ?_
  refine And.intro (k_crV (n := 2) (pc := 68) hG (zRoom_self 4) (tag := 12) rfl ini_X12 im_X12_narrow se_X12_narrow mk_X12_204 dy_X12_narrow (by decide +kernel : decode cX12_layFirst 68 = .ok (.invokevirtual 204, 3))) ?_
  refine And.intro (k_if_eq (pc := 71) (by decide +kernel : decode cX12_layFirst 71 = .ok (.ifCond .eq 11, 3)) (by decide)) ?_
  refine And.intro (k_iload_n (pc := 74) (by decide +kernel : decode cX12_layFirst 74 = .ok (.iload_n 3, 1)) rfl) ?_
  refine And.intro (k_if_eq (pc := 75) (by decide +kernel : decode cX12_layFirst 75 = .ok (.ifCond .eq 7, 3)) (by decide)) ?_
  refine And.intro (k_iconst (pc := 78) (by decide +kernel : decode cX12_layFirst 78 = .ok (.iconst 1, 1)) (by decide)) ?_
  refine And.intro (k_goto (pc := 79) (by decide +kernel : decode cX12_layFirst 79 = .ok (.goto 4, 3)) (by decide)) ?_
  refine And.intro (k_iconst (pc := 82) (by decide +kernel : decode cX12_layFirst 82 = .ok (.iconst 0, 1)) (by decide)) ?_
  refine And.intro (k_istore_n (pc := 83) (by decide +kernel : decode cX12_layFirst 83 = .ok (.istore_n 3, 1)) rfl) ?_
  refine And.intro (k_iinc (pc := 84) (by decide +kernel : decode cX12_layFirst 84 = .ok (.iinc 4 1, 3)) (by decide)) ?_
  refine And.intro (k_goto (pc := 87) (by decide +kernel : decode cX12_layFirst 87 = .ok (.goto (-57), 3)) (by decide)) ?_
  refine And.intro (k_aload_n (pc := 90) (by decide +kernel : decode cX12_layFirst 90 = .ok (.aload_n 0, 1)) rfl) ?_
  refine And.intro (k_iconst (pc := 91) (by decide +kernel : decode cX12_layFirst 91 = .ok (.iconst 0, 1)) (by decide)) ?_
  refine And.intro (k_iload_n (pc := 92) (by decide +kernel : decode cX12_layFirst 92 = .ok (.iload_n 1, 1)) rfl) ?_
  refine And.intro (k_iload_n (pc := 93) (by decide +kernel : decode cX12_layFirst 93 = .ok (.iload_n 2, 1)) rfl) ?_
  refine And.intro (k_crS (n := 3) (pc := 94) hG (zRoom_self 4) ini_X12 sta_X12_sliceAt mk_X12_208 dy_X12_sliceAt (by decide +kernel : decode cX12_layFirst 94 = .ok (.invokestatic 208, 3))) ?_
  refine And.intro (k_iload_n (pc := 97) (by decide +kernel : decode cX12_layFirst 97 = .ok (.iload_n 3, 1)) rfl) ?_
  refine And.intro (k_if_eq (pc := 98) (by decide +kernel : decode cX12_layFirst 98 = .ok (.ifCond .eq 14, 3)) (by decide)) ?_
  refine And.intro (k_aload_n (pc := 101) (by decide +kernel : decode cX12_layFirst 101 = .ok (.aload_n 0, 1)) rfl) ?_
  refine And.intro (k_crV (n := 0) (pc := 102) hG (zRoom_self 4) (tag := 12) rfl ini_X12 im_X12_isEmpty se_X12_isEmpty mk_X12_211 dy_X12_isEmpty (by decide +kernel : decode cX12_layFirst 102 = .ok (.invokevirtual 211, 3))) ?_
  refine And.intro (k_if_ne (pc := 105) (by decide +kernel : decode cX12_layFirst 105 = .ok (.ifCond .ne 7, 3)) (by decide)) ?_
  refine And.intro (k_iconst (pc := 108) (by decide +kernel : decode cX12_layFirst 108 = .ok (.iconst 1, 1)) (by decide)) ?_
  refine And.intro (k_goto (pc := 109) (by decide +kernel : decode cX12_layFirst 109 = .ok (.goto 4, 3)) (by decide)) ?_
  refine And.intro (k_iconst (pc := 112) (by decide +kernel : decode cX12_layFirst 112 = .ok (.iconst 0, 1)) (by decide)) ?_
  refine And.intro (k_cvV (n := 2) (pc := 113) hG (zRoom_self 4) (tag := 12) rfl ini_X12 im_X12_keepSlice se_X12_keepSlice mk_X12_214 dy_X12_keepSlice (by decide +kernel : decode cX12_layFirst 113 = .ok (.invokevirtual 214, 3))) ?_
  refine And.intro (k_iinc (pc := 116) (by decide +kernel : decode cX12_layFirst 116 = .ok (.iinc 2 1, 3)) (by decide)) ?_
  refine And.intro (k_goto (pc := 119) (by decide +kernel : decode cX12_layFirst 119 = .ok (.goto (-110), 3)) (by decide)) ?_
  refine And.intro (k_iinc (pc := 122) (by decide +kernel : decode cX12_layFirst 122 = .ok (.iinc 1 1, 3)) (by decide)) ?_
  refine And.intro (k_goto (pc := 125) (by decide +kernel : decode cX12_layFirst 125 = .ok (.goto (-123), 3)) (by decide)) ?_
  refine And.intro (k_return (pc := 128) rfl (by decide +kernel : decode cX12_layFirst 128 = .ok (.return_, 1))) ?_
  exact trivial
theorem cdX12_layFirst : Cond.code yX12_layFirst cX12_layFirst 5 none ∈ zWs := zWs_in 1353 (by decide +kernel) rfl
noncomputable def pgX12_joins : zPg := [(0, o_al 0), (1, o_vr2 yX12_isEmpty 12 1), (4, o_if_eq 8), (7, o_vr), (8, o_al 0), (9, o_gI 12 22), (12, o_if_eq 37), (15, o_al 0), (16, o_gJ 12 18), (19, o_al 0), (20, o_gJ 12 19), (23, o_al 0), (24, o_gJ 12 23), (27, o_al 0), (28, o_gJ 12 24), (31, o_cr yX12_isLess 4), (34, o_if_eq 53), (37, o_al 0), (38, o_al 0), (39, o_gJ 12 18), (42, o_pJ 12 23), (45, o_al 0), (46, o_al 0), (47, o_gJ 12 19), (50, o_pJ 12 24), (53, o_al 0), (54, o_gI 12 22), (57, o_if_eq 82), (60, o_al 0), (61, o_gJ 12 25), (64, o_al 0), (65, o_gJ 12 26), (68, o_al 0), (69, o_gJ 12 20), (72, o_al 0), (73, o_gJ 12 21), (76, o_cr yX12_isLess 4), (79, o_if_eq 98), (82, o_al 0), (83, o_al 0), (84, o_gJ 12 20), (87, o_pJ 12 25), (90, o_al 0), (91, o_al 0), (92, o_gJ 12 21), (95, o_pJ 12 26), (98, o_al 0), (99, o_ic (1)), (100, o_pZ 12 22), (103, o_vr)]
set_option maxRecDepth 20000 in
theorem pkX12_joins {G : zG} (hG : zGok G) (Q : zRt) : zPOK G (zRm 2) RX12 cX12_joins 1 none (zF G Q 0 0) 0 0 (zCalls G 2) Q pgX12_joins := by
  refine And.intro (k_aload_n (pc := 0) (by decide +kernel : decode cX12_joins 0 = .ok (.aload_n 0, 1)) rfl) ?_
  refine And.intro (k_crV (n := 0) (pc := 1) hG (zRoom_self 2) (tag := 12) rfl ini_X12 im_X12_isEmpty se_X12_isEmpty mk_X12_211 dy_X12_isEmpty (by decide +kernel : decode cX12_joins 1 = .ok (.invokevirtual 211, 3))) ?_
  refine And.intro (k_if_eq (pc := 4) (by decide +kernel : decode cX12_joins 4 = .ok (.ifCond .eq 4, 3)) (by decide)) ?_
  refine And.intro (k_return (pc := 7) rfl (by decide +kernel : decode cX12_joins 7 = .ok (.return_, 1))) ?_
  refine And.intro (k_aload_n (pc := 8) (by decide +kernel : decode cX12_joins 8 = .ok (.aload_n 0, 1)) rfl) ?_
  refine And.intro (k_gZ (pc := 9) rfl (by decide) rfl zin12 lk_X12_218 (by decide +kernel : decode cX12_joins 9 = .ok (.getfield 218, 3))) ?_
  refine And.intro (k_if_eq (pc := 12) (by decide +kernel : decode cX12_joins 12 = .ok (.ifCond .eq 25, 3)) (by decide)) ?_
  refine And.intro (k_aload_n (pc := 15) (by decide +kernel : decode cX12_joins 15 = .ok (.aload_n 0, 1)) rfl) ?_
  refine And.intro (k_gJ (pc := 16) rfl (by decide) rfl zin12 lk_X12_176 (by decide +kernel : decode cX12_joins 16 = .ok (.getfield 176, 3))) ?_
  refine And.intro (k_aload_n (pc := 19) (by decide +kernel : decode cX12_joins 19 = .ok (.aload_n 0, 1)) rfl) ?_
  refine And.intro (k_gJ (pc := 20) rfl (by decide) rfl zin12 lk_X12_179 (by decide +kernel : decode cX12_joins 20 = .ok (.getfield 179, 3))) ?_
  refine And.intro (k_aload_n (pc := 23) (by decide +kernel : decode cX12_joins 23 = .ok (.aload_n 0, 1)) rfl) ?_
  refine And.intro (k_gJ (pc := 24) rfl (by decide) rfl zin12 lk_X12_222 (by decide +kernel : decode cX12_joins 24 = .ok (.getfield 222, 3))) ?_
  refine And.intro (k_aload_n (pc := 27) (by decide +kernel : decode cX12_joins 27 = .ok (.aload_n 0, 1)) rfl) ?_
  refine And.intro (k_gJ (pc := 28) rfl (by decide) rfl zin12 lk_X12_225 (by decide +kernel : decode cX12_joins 28 = .ok (.getfield 225, 3))) ?_
  refine And.intro (k_crS (n := 4) (pc := 31) hG (zRoom_self 2) ini_X12 sta_X12_isLess mk_X12_188 dy_X12_isLess (by decide +kernel : decode cX12_joins 31 = .ok (.invokestatic 188, 3))) ?_
  refine And.intro (k_if_eq (pc := 34) (by decide +kernel : decode cX12_joins 34 = .ok (.ifCond .eq 19, 3)) (by decide)) ?_
  refine And.intro (k_aload_n (pc := 37) (by decide +kernel : decode cX12_joins 37 = .ok (.aload_n 0, 1)) rfl) ?_
  refine And.intro (k_aload_n (pc := 38) (by decide +kernel : decode cX12_joins 38 = .ok (.aload_n 0, 1)) rfl) ?_
  refine And.intro (k_gJ (pc := 39) rfl (by decide) rfl zin12 lk_X12_176 (by decide +kernel : decode cX12_joins 39 = .ok (.getfield 176, 3))) ?_
  refine And.intro (k_pJ (pc := 42) rfl (by decide) rfl zin12 lk_X12_222 tyX12_ok nmX12 rfl (by decide +kernel) (by decide +kernel : decode cX12_joins 42 = .ok (.putfield 222, 3))) ?_
  refine And.intro (k_aload_n (pc := 45) (by decide +kernel : decode cX12_joins 45 = .ok (.aload_n 0, 1)) rfl) ?_
  refine And.intro (k_aload_n (pc := 46) (by decide +kernel : decode cX12_joins 46 = .ok (.aload_n 0, 1)) rfl) ?_
  refine And.intro (k_gJ (pc := 47) rfl (by decide) rfl zin12 lk_X12_179 (by decide +kernel : decode cX12_joins 47 = .ok (.getfield 179, 3))) ?_
  refine And.intro (k_pJ (pc := 50) rfl (by decide) rfl zin12 lk_X12_225 tyX12_ok nmX12 rfl (by decide +kernel) (by decide +kernel : decode cX12_joins 50 = .ok (.putfield 225, 3))) ?_
  refine And.intro (k_aload_n (pc := 53) (by decide +kernel : decode cX12_joins 53 = .ok (.aload_n 0, 1)) rfl) ?_
  refine And.intro (k_gZ (pc := 54) rfl (by decide) rfl zin12 lk_X12_218 (by decide +kernel : decode cX12_joins 54 = .ok (.getfield 218, 3))) ?_
  refine And.intro (k_if_eq (pc := 57) (by decide +kernel : decode cX12_joins 57 = .ok (.ifCond .eq 25, 3)) (by decide)) ?_
  refine And.intro (k_aload_n (pc := 60) (by decide +kernel : decode cX12_joins 60 = .ok (.aload_n 0, 1)) rfl) ?_
  refine And.intro (k_gJ (pc := 61) rfl (by decide) rfl zin12 lk_X12_228 (by decide +kernel : decode cX12_joins 61 = .ok (.getfield 228, 3))) ?_
  refine And.intro (k_aload_n (pc := 64) (by decide +kernel : decode cX12_joins 64 = .ok (.aload_n 0, 1)) rfl) ?_
  refine And.intro (k_gJ (pc := 65) rfl (by decide) rfl zin12 lk_X12_231 (by decide +kernel : decode cX12_joins 65 = .ok (.getfield 231, 3))) ?_
  refine And.intro (k_aload_n (pc := 68) (by decide +kernel : decode cX12_joins 68 = .ok (.aload_n 0, 1)) rfl) ?_
  refine And.intro (k_gJ (pc := 69) rfl (by decide) rfl zin12 lk_X12_182 (by decide +kernel : decode cX12_joins 69 = .ok (.getfield 182, 3))) ?_
  refine And.intro (k_aload_n (pc := 72) (by decide +kernel : decode cX12_joins 72 = .ok (.aload_n 0, 1)) rfl) ?_
  refine And.intro (k_gJ (pc := 73) rfl (by decide) rfl zin12 lk_X12_185 (by decide +kernel : decode cX12_joins 73 = .ok (.getfield 185, 3))) ?_
  refine And.intro (k_crS (n := 4) (pc := 76) hG (zRoom_self 2) ini_X12 sta_X12_isLess mk_X12_188 dy_X12_isLess (by decide +kernel : decode cX12_joins 76 = .ok (.invokestatic 188, 3))) ?_
  refine And.intro (k_if_eq (pc := 79) (by decide +kernel : decode cX12_joins 79 = .ok (.ifCond .eq 19, 3)) (by decide)) ?_
  refine And.intro (k_aload_n (pc := 82) (by decide +kernel : decode cX12_joins 82 = .ok (.aload_n 0, 1)) rfl) ?_
  refine And.intro (k_aload_n (pc := 83) (by decide +kernel : decode cX12_joins 83 = .ok (.aload_n 0, 1)) rfl) ?_
  refine And.intro (k_gJ (pc := 84) rfl (by decide) rfl zin12 lk_X12_182 (by decide +kernel : decode cX12_joins 84 = .ok (.getfield 182, 3))) ?_
  refine And.intro (k_pJ (pc := 87) rfl (by decide) rfl zin12 lk_X12_228 tyX12_ok nmX12 rfl (by decide +kernel) (by decide +kernel : decode cX12_joins 87 = .ok (.putfield 228, 3))) ?_
  refine And.intro (k_aload_n (pc := 90) (by decide +kernel : decode cX12_joins 90 = .ok (.aload_n 0, 1)) rfl) ?_
  refine And.intro (k_aload_n (pc := 91) (by decide +kernel : decode cX12_joins 91 = .ok (.aload_n 0, 1)) rfl) ?_
  refine And.intro (k_gJ (pc := 92) rfl (by decide) rfl zin12 lk_X12_185 (by decide +kernel : decode cX12_joins 92 = .ok (.getfield 185, 3))) ?_
  refine And.intro (k_pJ (pc := 95) rfl (by decide) rfl zin12 lk_X12_231 tyX12_ok nmX12 rfl (by decide +kernel) (by decide +kernel : decode cX12_joins 95 = .ok (.putfield 231, 3))) ?_
  refine And.intro (k_aload_n (pc := 98) (by decide +kernel : decode cX12_joins 98 = .ok (.aload_n 0, 1)) rfl) ?_
  refine And.intro (k_iconst (pc := 99) (by decide +kernel : decode cX12_joins 99 = .ok (.iconst 1, 1)) (by decide)) ?_
  refine And.intro (k_pZ (pc := 100) rfl (by decide) rfl zin12 lk_X12_218 tyX12_ok nmX12 rfl (by decide +kernel) (by decide +kernel : decode cX12_joins 100 = .ok (.putfield 218, 3))) ?_
  refine And.intro (k_return (pc := 103) rfl (by decide +kernel : decode cX12_joins 103 = .ok (.return_, 1))) ?_
  exact trivial
theorem cdX12_joins : Cond.code yX12_joins cX12_joins 1 none ∈ zWs := zWs_in 1399 (by decide +kernel) rfl
noncomputable def pgX12_between : zPg := [(0, o_al 1), (1, o_ic (2)), (2, o_il 2), (3, o_imul), (4, o_xJ), (5, o_ls 6), (7, o_al 1), (8, o_ic (2)), (9, o_il 2), (10, o_imul), (11, o_ic (1)), (12, o_iadd), (13, o_xJ), (14, o_ls 8), (16, o_al 1), (17, o_ic (2)), (18, o_il 2), (19, o_imul), (20, o_ic (2)), (21, o_iadd), (22, o_xJ), (23, o_ls 10), (25, o_al 1), (26, o_ic (2)), (27, o_il 2), (28, o_imul), (29, o_ic (3)), (30, o_iadd), (31, o_xJ), (32, o_ls 12), (34, o_ll 10), (36, o_ll 8), (38, o_lmul), (39, o_ll 6), (41, o_ll 12), (43, o_lmul), (44, o_lsub), (45, o_ls 14), (47, o_il 4), (49, o_i2l), (50, o_ll 8), (52, o_lmul), (53, o_ll 12), (55, o_lmul), (56, o_ll 6), (58, o_ll 12), (60, o_lmul), (61, o_lsub), (62, o_ll 14), (64, o_il 3), (65, o_i2l), (66, o_lmul), (67, o_ladd), (68, o_ls 16), (70, o_il 5), (72, o_if_eq 86), (75, o_al 0), (76, o_ll 14), (78, o_ll 16), (80, o_vr2 yX12_narrow 12 3), (83, o_go 96), (86, o_al 0), (87, o_ll 14), (89, o_lneg), (90, o_ll 16), (92, o_lneg), (93, o_vr2 yX12_narrow 12 3), (96, o_zr)]
set_option maxRecDepth 20000 in
theorem pkX12_between {G : zG} (hG : zGok G) (Q : zRt) : zPOK G (zRm 4) RX12 cX12_between 18 (some .boolean) (zF G Q 0 0) 0 0 (zCalls G 4) Q pgX12_between := by
  refine And.intro (k_aload_n (pc := 0) (by decide +kernel : decode cX12_between 0 = .ok (.aload_n 1, 1)) rfl) ?_
  refine And.intro (k_iconst (pc := 1) (by decide +kernel : decode cX12_between 1 = .ok (.iconst 2, 1)) (by decide)) ?_
  refine And.intro (k_iload_n (pc := 2) (by decide +kernel : decode cX12_between 2 = .ok (.iload_n 2, 1)) rfl) ?_
  refine And.intro (k_imul (pc := 3) (by decide +kernel : decode cX12_between 3 = .ok (.imul, 1))) ?_
  refine And.intro (k_lald (pc := 4) (by decide +kernel : decode cX12_between 4 = .ok (.laload, 1))) ?_
  refine And.intro (k_lstore (pc := 5) (by decide +kernel : decode cX12_between 5 = .ok (.lstore 6, 2))) ?_
  refine And.intro (k_aload_n (pc := 7) (by decide +kernel : decode cX12_between 7 = .ok (.aload_n 1, 1)) rfl) ?_
  refine And.intro (k_iconst (pc := 8) (by decide +kernel : decode cX12_between 8 = .ok (.iconst 2, 1)) (by decide)) ?_
  refine And.intro (k_iload_n (pc := 9) (by decide +kernel : decode cX12_between 9 = .ok (.iload_n 2, 1)) rfl) ?_
  refine And.intro (k_imul (pc := 10) (by decide +kernel : decode cX12_between 10 = .ok (.imul, 1))) ?_
  refine And.intro (k_iconst (pc := 11) (by decide +kernel : decode cX12_between 11 = .ok (.iconst 1, 1)) (by decide)) ?_
  refine And.intro (k_iadd (pc := 12) (by decide +kernel : decode cX12_between 12 = .ok (.iadd, 1))) ?_
  refine And.intro (k_lald (pc := 13) (by decide +kernel : decode cX12_between 13 = .ok (.laload, 1))) ?_
  refine And.intro (k_lstore (pc := 14) (by decide +kernel : decode cX12_between 14 = .ok (.lstore 8, 2))) ?_
  refine And.intro (k_aload_n (pc := 16) (by decide +kernel : decode cX12_between 16 = .ok (.aload_n 1, 1)) rfl) ?_
  refine And.intro (k_iconst (pc := 17) (by decide +kernel : decode cX12_between 17 = .ok (.iconst 2, 1)) (by decide)) ?_
  refine And.intro (k_iload_n (pc := 18) (by decide +kernel : decode cX12_between 18 = .ok (.iload_n 2, 1)) rfl) ?_
  refine And.intro (k_imul (pc := 19) (by decide +kernel : decode cX12_between 19 = .ok (.imul, 1))) ?_
  refine And.intro (k_iconst (pc := 20) (by decide +kernel : decode cX12_between 20 = .ok (.iconst 2, 1)) (by decide)) ?_
  refine And.intro (k_iadd (pc := 21) (by decide +kernel : decode cX12_between 21 = .ok (.iadd, 1))) ?_
  refine And.intro (k_lald (pc := 22) (by decide +kernel : decode cX12_between 22 = .ok (.laload, 1))) ?_
  refine And.intro (k_lstore (pc := 23) (by decide +kernel : decode cX12_between 23 = .ok (.lstore 10, 2))) ?_
  refine And.intro (k_aload_n (pc := 25) (by decide +kernel : decode cX12_between 25 = .ok (.aload_n 1, 1)) rfl) ?_
  refine And.intro (k_iconst (pc := 26) (by decide +kernel : decode cX12_between 26 = .ok (.iconst 2, 1)) (by decide)) ?_
  refine And.intro (k_iload_n (pc := 27) (by decide +kernel : decode cX12_between 27 = .ok (.iload_n 2, 1)) rfl) ?_
  refine And.intro (k_imul (pc := 28) (by decide +kernel : decode cX12_between 28 = .ok (.imul, 1))) ?_
  refine And.intro (k_iconst (pc := 29) (by decide +kernel : decode cX12_between 29 = .ok (.iconst 3, 1)) (by decide)) ?_
  refine And.intro (k_iadd (pc := 30) (by decide +kernel : decode cX12_between 30 = .ok (.iadd, 1))) ?_
  refine And.intro (k_lald (pc := 31) (by decide +kernel : decode cX12_between 31 = .ok (.laload, 1))) ?_
  refine And.intro (k_lstore (pc := 32) (by decide +kernel : decode cX12_between 32 = .ok (.lstore 12, 2))) ?_
  refine And.intro (k_lload (pc := 34) (by decide +kernel : decode cX12_between 34 = .ok (.lload 10, 2))) ?_
  refine And.intro (k_lload (pc := 36) (by decide +kernel : decode cX12_between 36 = .ok (.lload 8, 2))) ?_
  refine And.intro (k_lmul (pc := 38) (by decide +kernel : decode cX12_between 38 = .ok (.lmul, 1))) ?_
  refine And.intro (k_lload (pc := 39) (by decide +kernel : decode cX12_between 39 = .ok (.lload 6, 2))) ?_
  refine And.intro (k_lload (pc := 41) (by decide +kernel : decode cX12_between 41 = .ok (.lload 12, 2))) ?_
  refine And.intro (k_lmul (pc := 43) (by decide +kernel : decode cX12_between 43 = .ok (.lmul, 1))) ?_
  refine And.intro (k_lsub (pc := 44) (by decide +kernel : decode cX12_between 44 = .ok (.lsub, 1))) ?_
  refine And.intro (k_lstore (pc := 45) (by decide +kernel : decode cX12_between 45 = .ok (.lstore 14, 2))) ?_
  refine And.intro (k_iload (pc := 47) (by decide +kernel : decode cX12_between 47 = .ok (.iload 4, 2))) ?_
  refine And.intro (k_i2l (pc := 49) (by decide +kernel : decode cX12_between 49 = .ok (.i2l, 1))) ?_
  refine And.intro (k_lload (pc := 50) (by decide +kernel : decode cX12_between 50 = .ok (.lload 8, 2))) ?_
  refine And.intro (k_lmul (pc := 52) (by decide +kernel : decode cX12_between 52 = .ok (.lmul, 1))) ?_
  refine And.intro (k_lload (pc := 53) (by decide +kernel : decode cX12_between 53 = .ok (.lload 12, 2))) ?_
  refine And.intro (k_lmul (pc := 55) (by decide +kernel : decode cX12_between 55 = .ok (.lmul, 1))) ?_
  refine And.intro (k_lload (pc := 56) (by decide +kernel : decode cX12_between 56 = .ok (.lload 6, 2))) ?_
  refine And.intro (k_lload (pc := 58) (by decide +kernel : decode cX12_between 58 = .ok (.lload 12, 2))) ?_
  refine And.intro (k_lmul (pc := 60) (by decide +kernel : decode cX12_between 60 = .ok (.lmul, 1))) ?_
  refine And.intro (k_lsub (pc := 61) (by decide +kernel : decode cX12_between 61 = .ok (.lsub, 1))) ?_
  refine And.intro (k_lload (pc := 62) (by decide +kernel : decode cX12_between 62 = .ok (.lload 14, 2))) ?_
  refine And.intro (k_iload_n (pc := 64) (by decide +kernel : decode cX12_between 64 = .ok (.iload_n 3, 1)) rfl) ?_
  refine And.intro (k_i2l (pc := 65) (by decide +kernel : decode cX12_between 65 = .ok (.i2l, 1))) ?_
  refine And.intro (k_lmul (pc := 66) (by decide +kernel : decode cX12_between 66 = .ok (.lmul, 1))) ?_
  refine And.intro (k_ladd (pc := 67) (by decide +kernel : decode cX12_between 67 = .ok (.ladd, 1))) ?_
  refine And.intro (k_lstore (pc := 68) (by decide +kernel : decode cX12_between 68 = .ok (.lstore 16, 2))) ?_
  refine And.intro (k_iload (pc := 70) (by decide +kernel : decode cX12_between 70 = .ok (.iload 5, 2))) ?_
  refine And.intro (k_if_eq (pc := 72) (by decide +kernel : decode cX12_between 72 = .ok (.ifCond .eq 14, 3)) (by decide)) ?_
  refine And.intro (k_aload_n (pc := 75) (by decide +kernel : decode cX12_between 75 = .ok (.aload_n 0, 1)) rfl) ?_
  refine And.intro (k_lload (pc := 76) (by decide +kernel : decode cX12_between 76 = .ok (.lload 14, 2))) ?_
  refine And.intro (k_lload (pc := 78) (by decide +kernel : decode cX12_between 78 = .ok (.lload 16, 2))) ?_
  refine And.intro (k_crV (n := 2) (pc := 80) hG (zRoom_self 4) (tag := 12) rfl ini_X12 im_X12_narrow se_X12_narrow mk_X12_204 dy_X12_narrow (by decide +kernel : decode cX12_between 80 = .ok (.invokevirtual 204, 3))) ?_
  refine And.intro (k_goto (pc := 83) (by decide +kernel : decode cX12_between 83 = .ok (.goto 13, 3)) (by decide)) ?_
  refine And.intro (k_aload_n (pc := 86) (by decide +kernel : decode cX12_between 86 = .ok (.aload_n 0, 1)) rfl) ?_
  refine And.intro (k_lload (pc := 87) (by decide +kernel : decode cX12_between 87 = .ok (.lload 14, 2))) ?_
  refine And.intro (k_lneg (pc := 89) (by decide +kernel : decode cX12_between 89 = .ok (.lneg, 1))) ?_
  refine And.intro (k_lload (pc := 90) (by decide +kernel : decode cX12_between 90 = .ok (.lload 16, 2))) ?_
  refine And.intro (k_lneg (pc := 92) (by decide +kernel : decode cX12_between 92 = .ok (.lneg, 1))) ?_
  refine And.intro (k_crV (n := 2) (pc := 93) hG (zRoom_self 4) (tag := 12) rfl ini_X12 im_X12_narrow se_X12_narrow mk_X12_204 dy_X12_narrow (by decide +kernel : decode cX12_between 93 = .ok (.invokevirtual 204, 3))) ?_
  refine And.intro (k_zreturn (pc := 96) rfl (by decide +kernel : decode cX12_between 96 = .ok (.ireturn, 1))) ?_
  exact trivial
theorem cdX12_between : Cond.code yX12_between cX12_between 18 (some .boolean) ∈ zWs := zWs_in 1403 (by decide +kernel) rfl
noncomputable def pgX12_layNext : zPg := [(0, o_ic (0)), (1, o_is 2), (2, o_il 2), (3, o_ic (2)), (4, o_ic_ge 360), (7, o_ic (0)), (8, o_is 3), (9, o_il 3), (10, o_ic (7)), (12, o_ic_ge 354), (15, o_il 1), (16, o_il 2), (17, o_il 3), (18, o_cr yX12_sliceAt 3), (21, o_is 4), (23, o_al 0), (24, o_ic (0)), (25, o_pZ 12 22), (28, o_ic (0)), (29, o_is 5), (31, o_il 5), (33, o_ic (7)), (35, o_ic_ge 242), (38, o_al 0), (39, o_gR 12 15), (42, o_il 4), (44, o_xI 16), (45, o_if_eq 242), (48, o_il 1), (49, o_ic (1)), (50, o_il 2), (51, o_isub), (52, o_il 5), (54, o_cr yX12_sliceAt 3), (57, o_is 6), (59, o_al 0), (60, o_gR 12 15), (63, o_il 6), (65, o_xI 16), (66, o_if_ne 72), (69, o_go 236), (72, o_al 0), (73, o_il 5), (75, o_i2l), (76, o_lc 1), (77, o_il 5), (79, o_i2l), (80, o_lc 1), (81, o_vv yX12_wide 12 5), (84, o_il 3), (85, o_i2l), (86, o_lc 1), (87, o_al 0), (88, o_gR 12 16), (91, o_ic (2)), (92, o_il 6), (94, o_imul), (95, o_xJ), (96, o_al 0), (97, o_gR 12 16), (100, o_ic (2)), (101, o_il 6), (103, o_imul), (104, o_ic (1)), (105, o_iadd), (106, o_xJ), (107, o_cr yX12_isLess 4), (110, o_if_ne 146), (113, o_al 0), (114, o_gR 12 17), (117, o_ic (2)), (118, o_il 6), (120, o_imul), (121, o_xJ), (122, o_al 0), (123, o_gR 12 17), (126, o_ic (2)), (127, o_il 6), (129, o_imul), (130, o_ic (1)), (131, o_iadd), (132, o_xJ), (133, o_il 3), (134, o_i2l), (135, o_lc 1), (136, o_cr yX12_isLess 4), (139, o_if_ne 146), (142, o_al 0), (143, o_vv yX12_joins 12 1), (146, o_il 5), (148, o_ic (6)), (150, o_ic_eq 236), (153, o_al 0), (154, o_gR 12 15), (157, o_il 6), (159, o_ic (1)), (160, o_iadd), (161, o_xI 16), (162, o_if_ne 168), (165, o_go 236), (168, o_al 0), (169, o_il 5), (171, o_i2l), (172, o_lc 1), (173, o_il 5), (175, o_ic (1)), (176, o_iadd), (177, o_i2l), (178, o_lc 1), (179, o_vv yX12_wide 12 5), (182, o_al 0), (183, o_al 0), (184, o_gR 12 16), (187, o_il 6), (189, o_il 5), (191, o_il 3), (192, o_ic (1)), (193, o_vr2 yX12_between 12 6), (196, o_is 7), (198, o_al 0), (199, o_al 0), (200, o_gR 12 17), (203, o_il 6), (205, o_il 5), (207, o_il 3), (208, o_ic (0)), (209, o_vr2 yX12_between 12 6), (212, o_if_eq 224), (215, o_il 7), (217, o_if_eq 224), (220, o_ic (1)), (221, o_go 225), (224, o_ic (0)), (225, o_is 7), (227, o_il 7), (229, o_if_eq 236), (232, o_al 0), (233, o_vv yX12_joins 12 1), (236, o_inc 5 (1)), (239, o_go 31), (242, o_al 0), (243, o_gI 12 22), (246, o_if_eq 317), (249, o_al 0), (250, o_al 0), (251, o_gJ 12 23), (254, o_al 0), (255, o_gJ 12 24), (258, o_al 0), (259, o_gJ 12 25), (262, o_al 0), (263, o_gJ 12 26), (266, o_vv yX12_wide 12 5), (269, o_al 0), (270, o_al 0), (271, o_gR 12 16), (274, o_ic (2)), (275, o_il 4), (277, o_imul), (278, o_xJ), (279, o_al 0), (280, o_gR 12 16), (283, o_ic (2)), (284, o_il 4), (286, o_imul), (287, o_ic (1)), (288, o_iadd), (289, o_xJ), (290, o_vv yX12_notBelow 12 3), (293, o_al 0), (294, o_al 0), (295, o_gR 12 17), (298, o_ic (2)), (299, o_il 4), (301, o_imul), (302, o_xJ), (303, o_al 0), (304, o_gR 12 17), (307, o_ic (2)), (308, o_il 4), (310, o_imul), (311, o_ic (1)), (312, o_iadd), (313, o_xJ), (314, o_vv yX12_notAbove 12 3), (317, o_al 0), (318, o_il 1), (319, o_ic (1)), (320, o_iadd), (321, o_il 2), (322, o_il 3), (323, o_cr yX12_sliceAt 3), (326, o_al 0), (327, o_gI 12 22), (330, o_if_eq 344), (333, o_al 0), (334, o_vr2 yX12_isEmpty 12 1), (337, o_if_ne 344), (340, o_ic (1)), (341, o_go 345), (344, o_ic (0)), (345, o_vv yX12_keepSlice 12 3), (348, o_inc 3 (1)), (351, o_go 9), (354, o_inc 2 (1)), (357, o_go 2), (360, o_vr)]
set_option maxRecDepth 20000 in
theorem pkX12_layNext {G : zG} (hG : zGok G) (Q : zRt) : zPOK G (zRm 5) RX12 cX12_layNext 8 none (zF G Q 0 0) 0 0 (zCalls G 5) Q pgX12_layNext := by
  refine And.intro (k_iconst (pc := 0) (by decide +kernel : decode cX12_layNext 0 = .ok (.iconst 0, 1)) (by decide)) ?_
  refine And.intro (k_istore_n (pc := 1) (by decide +kernel : decode cX12_layNext 1 = .ok (.istore_n 2, 1)) rfl) ?_
  refine And.intro (k_iload_n (pc := 2) (by decide +kernel : decode cX12_layNext 2 = .ok (.iload_n 2, 1)) rfl) ?_
  refine And.intro (k_iconst (pc := 3) (by decide +kernel : decode cX12_layNext 3 = .ok (.iconst 2, 1)) (by decide)) ?_
  refine And.intro (k_icmp_ge (pc := 4) (by decide +kernel : decode cX12_layNext 4 = .ok (.if_icmp .ge 356, 3)) (by decide)) ?_
  refine And.intro (k_iconst (pc := 7) (by decide +kernel : decode cX12_layNext 7 = .ok (.iconst 0, 1)) (by decide)) ?_
  refine And.intro (k_istore_n (pc := 8) (by decide +kernel : decode cX12_layNext 8 = .ok (.istore_n 3, 1)) rfl) ?_
  refine And.intro (k_iload_n (pc := 9) (by decide +kernel : decode cX12_layNext 9 = .ok (.iload_n 3, 1)) rfl) ?_
  refine And.intro (k_bipush (pc := 10) (by decide +kernel : decode cX12_layNext 10 = .ok (.bipush 7, 2)) (by decide)) ?_
  refine And.intro (k_icmp_ge (pc := 12) (by decide +kernel : decode cX12_layNext 12 = .ok (.if_icmp .ge 342, 3)) (by decide)) ?_
  refine And.intro (k_iload_n (pc := 15) (by decide +kernel : decode cX12_layNext 15 = .ok (.iload_n 1, 1)) rfl) ?_
  refine And.intro (k_iload_n (pc := 16) (by decide +kernel : decode cX12_layNext 16 = .ok (.iload_n 2, 1)) rfl) ?_
  refine And.intro (k_iload_n (pc := 17) (by decide +kernel : decode cX12_layNext 17 = .ok (.iload_n 3, 1)) rfl) ?_
  refine And.intro (k_crS (n := 3) (pc := 18) hG (zRoom_self 5) ini_X12 sta_X12_sliceAt mk_X12_208 dy_X12_sliceAt (by decide +kernel : decode cX12_layNext 18 = .ok (.invokestatic 208, 3))) ?_
  refine And.intro (k_istore (pc := 21) (by decide +kernel : decode cX12_layNext 21 = .ok (.istore 4, 2))) ?_
  refine And.intro (k_aload_n (pc := 23) (by decide +kernel : decode cX12_layNext 23 = .ok (.aload_n 0, 1)) rfl) ?_
  refine And.intro (k_iconst (pc := 24) (by decide +kernel : decode cX12_layNext 24 = .ok (.iconst 0, 1)) (by decide)) ?_
  refine And.intro (k_pZ (pc := 25) rfl (by decide) rfl zin12 lk_X12_218 tyX12_ok nmX12 rfl (by decide +kernel) (by decide +kernel : decode cX12_layNext 25 = .ok (.putfield 218, 3))) ?_
  refine And.intro (k_iconst (pc := 28) (by decide +kernel : decode cX12_layNext 28 = .ok (.iconst 0, 1)) (by decide)) ?_
  refine And.intro (k_istore (pc := 29) (by decide +kernel : decode cX12_layNext 29 = .ok (.istore 5, 2))) ?_
  refine And.intro (k_iload (pc := 31) (by decide +kernel : decode cX12_layNext 31 = .ok (.iload 5, 2))) ?_
  refine And.intro (k_bipush (pc := 33) (by decide +kernel : decode cX12_layNext 33 = .ok (.bipush 7, 2)) (by decide)) ?_
  refine And.intro (k_icmp_ge (pc := 35) (by decide +kernel : decode cX12_layNext 35 = .ok (.if_icmp .ge 207, 3)) (by decide)) ?_
  refine And.intro (k_aload_n (pc := 38) (by decide +kernel : decode cX12_layNext 38 = .ok (.aload_n 0, 1)) rfl) ?_
  refine And.intro (k_gR (pc := 39) rfl (by decide) rfl zin12 lk_X12_30 (by decide +kernel : decode cX12_layNext 39 = .ok (.getfield 30, 3))) ?_
  refine And.intro (k_iload (pc := 42) (by decide +kernel : decode cX12_layNext 42 = .ok (.iload 4, 2))) ?_
  refine And.intro (k_zald (pc := 44) (by decide +kernel : decode cX12_layNext 44 = .ok (.baload, 1))) ?_
  refine And.intro (k_if_eq (pc := 45) (by decide +kernel : decode cX12_layNext 45 = .ok (.ifCond .eq 197, 3)) (by decide)) ?_
  refine And.intro (k_iload_n (pc := 48) (by decide +kernel : decode cX12_layNext 48 = .ok (.iload_n 1, 1)) rfl) ?_
  refine And.intro (k_iconst (pc := 49) (by decide +kernel : decode cX12_layNext 49 = .ok (.iconst 1, 1)) (by decide)) ?_
  refine And.intro (k_iload_n (pc := 50) (by decide +kernel : decode cX12_layNext 50 = .ok (.iload_n 2, 1)) rfl) ?_
  refine And.intro (k_isub (pc := 51) (by decide +kernel : decode cX12_layNext 51 = .ok (.isub, 1))) ?_
  refine And.intro (k_iload (pc := 52) (by decide +kernel : decode cX12_layNext 52 = .ok (.iload 5, 2))) ?_
  refine And.intro (k_crS (n := 3) (pc := 54) hG (zRoom_self 5) ini_X12 sta_X12_sliceAt mk_X12_208 dy_X12_sliceAt (by decide +kernel : decode cX12_layNext 54 = .ok (.invokestatic 208, 3))) ?_
  refine And.intro (k_istore (pc := 57) (by decide +kernel : decode cX12_layNext 57 = .ok (.istore 6, 2))) ?_
  refine And.intro (k_aload_n (pc := 59) (by decide +kernel : decode cX12_layNext 59 = .ok (.aload_n 0, 1)) rfl) ?_
  refine And.intro (k_gR (pc := 60) rfl (by decide) rfl zin12 lk_X12_30 (by decide +kernel : decode cX12_layNext 60 = .ok (.getfield 30, 3))) ?_
  refine And.intro (k_iload (pc := 63) (by decide +kernel : decode cX12_layNext 63 = .ok (.iload 6, 2))) ?_
  refine And.intro (k_zald (pc := 65) (by decide +kernel : decode cX12_layNext 65 = .ok (.baload, 1))) ?_
  refine And.intro (k_if_ne (pc := 66) (by decide +kernel : decode cX12_layNext 66 = .ok (.ifCond .ne 6, 3)) (by decide)) ?_
  refine And.intro (k_goto (pc := 69) (by decide +kernel : decode cX12_layNext 69 = .ok (.goto 167, 3)) (by decide)) ?_
  refine And.intro (k_aload_n (pc := 72) (by decide +kernel : decode cX12_layNext 72 = .ok (.aload_n 0, 1)) rfl) ?_
  refine And.intro (k_iload (pc := 73) (by decide +kernel : decode cX12_layNext 73 = .ok (.iload 5, 2))) ?_
  refine And.intro (k_i2l (pc := 75) (by decide +kernel : decode cX12_layNext 75 = .ok (.i2l, 1))) ?_
  refine And.intro (k_lconst (pc := 76) (by decide +kernel : decode cX12_layNext 76 = .ok (.lconst 1, 1)) (by decide)) ?_
  refine And.intro (k_iload (pc := 77) (by decide +kernel : decode cX12_layNext 77 = .ok (.iload 5, 2))) ?_
  refine And.intro (k_i2l (pc := 79) (by decide +kernel : decode cX12_layNext 79 = .ok (.i2l, 1))) ?_
  refine And.intro (k_lconst (pc := 80) (by decide +kernel : decode cX12_layNext 80 = .ok (.lconst 1, 1)) (by decide)) ?_
  refine And.intro (k_cvV (n := 4) (pc := 81) hG (zRoom_self 5) (tag := 12) rfl ini_X12 im_X12_wide se_X12_wide mk_X12_200 dy_X12_wide (by decide +kernel : decode cX12_layNext 81 = .ok (.invokevirtual 200, 3))) ?_
  refine And.intro (k_iload_n (pc := 84) (by decide +kernel : decode cX12_layNext 84 = .ok (.iload_n 3, 1)) rfl) ?_
  refine And.intro (k_i2l (pc := 85) (by decide +kernel : decode cX12_layNext 85 = .ok (.i2l, 1))) ?_
  refine And.intro (k_lconst (pc := 86) (by decide +kernel : decode cX12_layNext 86 = .ok (.lconst 1, 1)) (by decide)) ?_
  refine And.intro (k_aload_n (pc := 87) (by decide +kernel : decode cX12_layNext 87 = .ok (.aload_n 0, 1)) rfl) ?_
  refine And.intro (k_gR (pc := 88) rfl (by decide) rfl zin12 lk_X12_34 (by decide +kernel : decode cX12_layNext 88 = .ok (.getfield 34, 3))) ?_
  refine And.intro (k_iconst (pc := 91) (by decide +kernel : decode cX12_layNext 91 = .ok (.iconst 2, 1)) (by decide)) ?_
  refine And.intro (k_iload (pc := 92) (by decide +kernel : decode cX12_layNext 92 = .ok (.iload 6, 2))) ?_
  refine And.intro (k_imul (pc := 94) (by decide +kernel : decode cX12_layNext 94 = .ok (.imul, 1))) ?_
  refine And.intro (k_lald (pc := 95) (by decide +kernel : decode cX12_layNext 95 = .ok (.laload, 1))) ?_
  refine And.intro (k_aload_n (pc := 96) (by decide +kernel : decode cX12_layNext 96 = .ok (.aload_n 0, 1)) rfl) ?_
  refine And.intro (k_gR (pc := 97) rfl (by decide) rfl zin12 lk_X12_34 (by decide +kernel : decode cX12_layNext 97 = .ok (.getfield 34, 3))) ?_
  refine And.intro (k_iconst (pc := 100) (by decide +kernel : decode cX12_layNext 100 = .ok (.iconst 2, 1)) (by decide)) ?_
  refine And.intro (k_iload (pc := 101) (by decide +kernel : decode cX12_layNext 101 = .ok (.iload 6, 2))) ?_
  refine And.intro (k_imul (pc := 103) (by decide +kernel : decode cX12_layNext 103 = .ok (.imul, 1))) ?_
  refine And.intro (k_iconst (pc := 104) (by decide +kernel : decode cX12_layNext 104 = .ok (.iconst 1, 1)) (by decide)) ?_
  refine And.intro (k_iadd (pc := 105) (by decide +kernel : decode cX12_layNext 105 = .ok (.iadd, 1))) ?_
  refine And.intro (k_lald (pc := 106) (by decide +kernel : decode cX12_layNext 106 = .ok (.laload, 1))) ?_
  refine And.intro (k_crS (n := 4) (pc := 107) hG (zRoom_self 5) ini_X12 sta_X12_isLess mk_X12_188 dy_X12_isLess (by decide +kernel : decode cX12_layNext 107 = .ok (.invokestatic 188, 3))) ?_
  refine And.intro (k_if_ne (pc := 110) (by decide +kernel : decode cX12_layNext 110 = .ok (.ifCond .ne 36, 3)) (by decide)) ?_
  refine And.intro (k_aload_n (pc := 113) (by decide +kernel : decode cX12_layNext 113 = .ok (.aload_n 0, 1)) rfl) ?_
  refine And.intro (k_gR (pc := 114) rfl (by decide) rfl zin12 lk_X12_37 (by decide +kernel : decode cX12_layNext 114 = .ok (.getfield 37, 3))) ?_
  refine And.intro (k_iconst (pc := 117) (by decide +kernel : decode cX12_layNext 117 = .ok (.iconst 2, 1)) (by decide)) ?_
  refine And.intro (k_iload (pc := 118) (by decide +kernel : decode cX12_layNext 118 = .ok (.iload 6, 2))) ?_
  refine And.intro (k_imul (pc := 120) (by decide +kernel : decode cX12_layNext 120 = .ok (.imul, 1))) ?_
  refine And.intro (k_lald (pc := 121) (by decide +kernel : decode cX12_layNext 121 = .ok (.laload, 1))) ?_
  refine And.intro (k_aload_n (pc := 122) (by decide +kernel : decode cX12_layNext 122 = .ok (.aload_n 0, 1)) rfl) ?_
  refine And.intro (k_gR (pc := 123) rfl (by decide) rfl zin12 lk_X12_37 (by decide +kernel : decode cX12_layNext 123 = .ok (.getfield 37, 3))) ?_
  refine And.intro (k_iconst (pc := 126) (by decide +kernel : decode cX12_layNext 126 = .ok (.iconst 2, 1)) (by decide)) ?_
  refine And.intro (k_iload (pc := 127) (by decide +kernel : decode cX12_layNext 127 = .ok (.iload 6, 2))) ?_
  refine And.intro (k_imul (pc := 129) (by decide +kernel : decode cX12_layNext 129 = .ok (.imul, 1))) ?_
  refine And.intro (k_iconst (pc := 130) (by decide +kernel : decode cX12_layNext 130 = .ok (.iconst 1, 1)) (by decide)) ?_
  refine And.intro (k_iadd (pc := 131) (by decide +kernel : decode cX12_layNext 131 = .ok (.iadd, 1))) ?_
  refine And.intro (k_lald (pc := 132) (by decide +kernel : decode cX12_layNext 132 = .ok (.laload, 1))) ?_
  refine And.intro (k_iload_n (pc := 133) (by decide +kernel : decode cX12_layNext 133 = .ok (.iload_n 3, 1)) rfl) ?_
  refine And.intro (k_i2l (pc := 134) (by decide +kernel : decode cX12_layNext 134 = .ok (.i2l, 1))) ?_
  refine And.intro (k_lconst (pc := 135) (by decide +kernel : decode cX12_layNext 135 = .ok (.lconst 1, 1)) (by decide)) ?_
  refine And.intro (k_crS (n := 4) (pc := 136) hG (zRoom_self 5) ini_X12 sta_X12_isLess mk_X12_188 dy_X12_isLess (by decide +kernel : decode cX12_layNext 136 = .ok (.invokestatic 188, 3))) ?_
  refine And.intro (k_if_ne (pc := 139) (by decide +kernel : decode cX12_layNext 139 = .ok (.ifCond .ne 7, 3)) (by decide)) ?_
  refine And.intro (k_aload_n (pc := 142) (by decide +kernel : decode cX12_layNext 142 = .ok (.aload_n 0, 1)) rfl) ?_
  refine And.intro (k_cvV (n := 0) (pc := 143) hG (zRoom_self 5) (tag := 12) rfl ini_X12 im_X12_joins se_X12_joins mk_X12_234 dy_X12_joins (by decide +kernel : decode cX12_layNext 143 = .ok (.invokevirtual 234, 3))) ?_
  refine And.intro (k_iload (pc := 146) (by decide +kernel : decode cX12_layNext 146 = .ok (.iload 5, 2))) ?_
  refine And.intro (k_bipush (pc := 148) (by decide +kernel : decode cX12_layNext 148 = .ok (.bipush 6, 2)) (by decide)) ?_
  refine And.intro (k_icmp_eq (pc := 150) (by decide +kernel : decode cX12_layNext 150 = .ok (.if_icmp .eq 86, 3)) (by decide)) ?_
  refine And.intro (k_aload_n (pc := 153) (by decide +kernel : decode cX12_layNext 153 = .ok (.aload_n 0, 1)) rfl) ?_
  refine And.intro (k_gR (pc := 154) rfl (by decide) rfl zin12 lk_X12_30 (by decide +kernel : decode cX12_layNext 154 = .ok (.getfield 30, 3))) ?_
  refine And.intro (k_iload (pc := 157) (by decide +kernel : decode cX12_layNext 157 = .ok (.iload 6, 2))) ?_
  refine And.intro (k_iconst (pc := 159) (by decide +kernel : decode cX12_layNext 159 = .ok (.iconst 1, 1)) (by decide)) ?_
  refine And.intro (k_iadd (pc := 160) (by decide +kernel : decode cX12_layNext 160 = .ok (.iadd, 1))) ?_
  refine And.intro (k_zald (pc := 161) (by decide +kernel : decode cX12_layNext 161 = .ok (.baload, 1))) ?_
  refine And.intro (k_if_ne (pc := 162) (by decide +kernel : decode cX12_layNext 162 = .ok (.ifCond .ne 6, 3)) (by decide)) ?_
  refine And.intro (k_goto (pc := 165) (by decide +kernel : decode cX12_layNext 165 = .ok (.goto 71, 3)) (by decide)) ?_
  refine And.intro (k_aload_n (pc := 168) (by decide +kernel : decode cX12_layNext 168 = .ok (.aload_n 0, 1)) rfl) ?_
  refine And.intro (k_iload (pc := 169) (by decide +kernel : decode cX12_layNext 169 = .ok (.iload 5, 2))) ?_
  refine And.intro (k_i2l (pc := 171) (by decide +kernel : decode cX12_layNext 171 = .ok (.i2l, 1))) ?_
  refine And.intro (k_lconst (pc := 172) (by decide +kernel : decode cX12_layNext 172 = .ok (.lconst 1, 1)) (by decide)) ?_
  refine And.intro (k_iload (pc := 173) (by decide +kernel : decode cX12_layNext 173 = .ok (.iload 5, 2))) ?_
  refine And.intro (k_iconst (pc := 175) (by decide +kernel : decode cX12_layNext 175 = .ok (.iconst 1, 1)) (by decide)) ?_
  refine And.intro (k_iadd (pc := 176) (by decide +kernel : decode cX12_layNext 176 = .ok (.iadd, 1))) ?_
  refine And.intro (k_i2l (pc := 177) (by decide +kernel : decode cX12_layNext 177 = .ok (.i2l, 1))) ?_
  refine And.intro (k_lconst (pc := 178) (by decide +kernel : decode cX12_layNext 178 = .ok (.lconst 1, 1)) (by decide)) ?_
  refine And.intro (k_cvV (n := 4) (pc := 179) hG (zRoom_self 5) (tag := 12) rfl ini_X12 im_X12_wide se_X12_wide mk_X12_200 dy_X12_wide (by decide +kernel : decode cX12_layNext 179 = .ok (.invokevirtual 200, 3))) ?_
  refine And.intro (k_aload_n (pc := 182) (by decide +kernel : decode cX12_layNext 182 = .ok (.aload_n 0, 1)) rfl) ?_
  refine And.intro (k_aload_n (pc := 183) (by decide +kernel : decode cX12_layNext 183 = .ok (.aload_n 0, 1)) rfl) ?_
  refine And.intro (k_gR (pc := 184) rfl (by decide) rfl zin12 lk_X12_34 (by decide +kernel : decode cX12_layNext 184 = .ok (.getfield 34, 3))) ?_
  refine And.intro (k_iload (pc := 187) (by decide +kernel : decode cX12_layNext 187 = .ok (.iload 6, 2))) ?_
  refine And.intro (k_iload (pc := 189) (by decide +kernel : decode cX12_layNext 189 = .ok (.iload 5, 2))) ?_
  refine And.intro (k_iload_n (pc := 191) (by decide +kernel : decode cX12_layNext 191 = .ok (.iload_n 3, 1)) rfl) ?_
  refine And.intro (k_iconst (pc := 192) (by decide +kernel : decode cX12_layNext 192 = .ok (.iconst 1, 1)) (by decide)) ?_
  refine And.intro (k_crV (n := 5) (pc := 193) hG (zRoom_self 5) (tag := 12) rfl ini_X12 im_X12_between se_X12_between mk_X12_237 dy_X12_between (by decide +kernel : decode cX12_layNext 193 = .ok (.invokevirtual 237, 3))) ?_
  refine And.intro (k_istore (pc := 196) (by decide +kernel : decode cX12_layNext 196 = .ok (.istore 7, 2))) ?_
  refine And.intro (k_aload_n (pc := 198) (by decide +kernel : decode cX12_layNext 198 = .ok (.aload_n 0, 1)) rfl) ?_
  refine And.intro (k_aload_n (pc := 199) (by decide +kernel : decode cX12_layNext 199 = .ok (.aload_n 0, 1)) rfl) ?_
  refine And.intro (k_gR (pc := 200) rfl (by decide) rfl zin12 lk_X12_37 (by decide +kernel : decode cX12_layNext 200 = .ok (.getfield 37, 3))) ?_
  refine And.intro (k_iload (pc := 203) (by decide +kernel : decode cX12_layNext 203 = .ok (.iload 6, 2))) ?_
  refine And.intro (k_iload (pc := 205) (by decide +kernel : decode cX12_layNext 205 = .ok (.iload 5, 2))) ?_
  refine And.intro (k_iload_n (pc := 207) (by decide +kernel : decode cX12_layNext 207 = .ok (.iload_n 3, 1)) rfl) ?_
  refine And.intro (k_iconst (pc := 208) (by decide +kernel : decode cX12_layNext 208 = .ok (.iconst 0, 1)) (by decide)) ?_
  refine And.intro (k_crV (n := 5) (pc := 209) hG (zRoom_self 5) (tag := 12) rfl ini_X12 im_X12_between se_X12_between mk_X12_237 dy_X12_between (by decide +kernel : decode cX12_layNext 209 = .ok (.invokevirtual 237, 3))) ?_
  refine And.intro (k_if_eq (pc := 212) (by decide +kernel : decode cX12_layNext 212 = .ok (.ifCond .eq 12, 3)) (by decide)) ?_
  refine And.intro (k_iload (pc := 215) (by decide +kernel : decode cX12_layNext 215 = .ok (.iload 7, 2))) ?_
  refine And.intro (k_if_eq (pc := 217) (by decide +kernel : decode cX12_layNext 217 = .ok (.ifCond .eq 7, 3)) (by decide)) ?_
  refine And.intro (k_iconst (pc := 220) (by decide +kernel : decode cX12_layNext 220 = .ok (.iconst 1, 1)) (by decide)) ?_
  refine And.intro (k_goto (pc := 221) (by decide +kernel : decode cX12_layNext 221 = .ok (.goto 4, 3)) (by decide)) ?_
  refine And.intro (k_iconst (pc := 224) (by decide +kernel : decode cX12_layNext 224 = .ok (.iconst 0, 1)) (by decide)) ?_
  refine And.intro (k_istore (pc := 225) (by decide +kernel : decode cX12_layNext 225 = .ok (.istore 7, 2))) ?_
  refine And.intro (k_iload (pc := 227) (by decide +kernel : decode cX12_layNext 227 = .ok (.iload 7, 2))) ?_
  refine And.intro (k_if_eq (pc := 229) (by decide +kernel : decode cX12_layNext 229 = .ok (.ifCond .eq 7, 3)) (by decide)) ?_
  refine And.intro (k_aload_n (pc := 232) (by decide +kernel : decode cX12_layNext 232 = .ok (.aload_n 0, 1)) rfl) ?_
  refine And.intro (k_cvV (n := 0) (pc := 233) hG (zRoom_self 5) (tag := 12) rfl ini_X12 im_X12_joins se_X12_joins mk_X12_234 dy_X12_joins (by decide +kernel : decode cX12_layNext 233 = .ok (.invokevirtual 234, 3))) ?_
  refine And.intro (k_iinc (pc := 236) (by decide +kernel : decode cX12_layNext 236 = .ok (.iinc 5 1, 3)) (by decide)) ?_
  refine And.intro (k_goto (pc := 239) (by decide +kernel : decode cX12_layNext 239 = .ok (.goto (-208), 3)) (by decide)) ?_
  refine And.intro (k_aload_n (pc := 242) (by decide +kernel : decode cX12_layNext 242 = .ok (.aload_n 0, 1)) rfl) ?_
  refine And.intro (k_gZ (pc := 243) rfl (by decide) rfl zin12 lk_X12_218 (by decide +kernel : decode cX12_layNext 243 = .ok (.getfield 218, 3))) ?_
  refine And.intro (k_if_eq (pc := 246) (by decide +kernel : decode cX12_layNext 246 = .ok (.ifCond .eq 71, 3)) (by decide)) ?_
  refine And.intro (k_aload_n (pc := 249) (by decide +kernel : decode cX12_layNext 249 = .ok (.aload_n 0, 1)) rfl) ?_
  refine And.intro (k_aload_n (pc := 250) (by decide +kernel : decode cX12_layNext 250 = .ok (.aload_n 0, 1)) rfl) ?_
  refine And.intro (k_gJ (pc := 251) rfl (by decide) rfl zin12 lk_X12_222 (by decide +kernel : decode cX12_layNext 251 = .ok (.getfield 222, 3))) ?_
  refine And.intro (k_aload_n (pc := 254) (by decide +kernel : decode cX12_layNext 254 = .ok (.aload_n 0, 1)) rfl) ?_
  refine And.intro (k_gJ (pc := 255) rfl (by decide) rfl zin12 lk_X12_225 (by decide +kernel : decode cX12_layNext 255 = .ok (.getfield 225, 3))) ?_
  refine And.intro (k_aload_n (pc := 258) (by decide +kernel : decode cX12_layNext 258 = .ok (.aload_n 0, 1)) rfl) ?_
  refine And.intro (k_gJ (pc := 259) rfl (by decide) rfl zin12 lk_X12_228 (by decide +kernel : decode cX12_layNext 259 = .ok (.getfield 228, 3))) ?_
  refine And.intro (k_aload_n (pc := 262) (by decide +kernel : decode cX12_layNext 262 = .ok (.aload_n 0, 1)) rfl) ?_
  refine And.intro (k_gJ (pc := 263) rfl (by decide) rfl zin12 lk_X12_231 (by decide +kernel : decode cX12_layNext 263 = .ok (.getfield 231, 3))) ?_
  refine And.intro (k_cvV (n := 4) (pc := 266) hG (zRoom_self 5) (tag := 12) rfl ini_X12 im_X12_wide se_X12_wide mk_X12_200 dy_X12_wide (by decide +kernel : decode cX12_layNext 266 = .ok (.invokevirtual 200, 3))) ?_
  refine And.intro (k_aload_n (pc := 269) (by decide +kernel : decode cX12_layNext 269 = .ok (.aload_n 0, 1)) rfl) ?_
  refine And.intro (k_aload_n (pc := 270) (by decide +kernel : decode cX12_layNext 270 = .ok (.aload_n 0, 1)) rfl) ?_
  refine And.intro (k_gR (pc := 271) rfl (by decide) rfl zin12 lk_X12_34 (by decide +kernel : decode cX12_layNext 271 = .ok (.getfield 34, 3))) ?_
  refine And.intro (k_iconst (pc := 274) (by decide +kernel : decode cX12_layNext 274 = .ok (.iconst 2, 1)) (by decide)) ?_
  refine And.intro (k_iload (pc := 275) (by decide +kernel : decode cX12_layNext 275 = .ok (.iload 4, 2))) ?_
  refine And.intro (k_imul (pc := 277) (by decide +kernel : decode cX12_layNext 277 = .ok (.imul, 1))) ?_
  refine And.intro (k_lald (pc := 278) (by decide +kernel : decode cX12_layNext 278 = .ok (.laload, 1))) ?_
  refine And.intro (k_aload_n (pc := 279) (by decide +kernel : decode cX12_layNext 279 = .ok (.aload_n 0, 1)) rfl) ?_
  refine And.intro (k_gR (pc := 280) rfl (by decide) rfl zin12 lk_X12_34 (by decide +kernel : decode cX12_layNext 280 = .ok (.getfield 34, 3))) ?_
  refine And.intro (k_iconst (pc := 283) (by decide +kernel : decode cX12_layNext 283 = .ok (.iconst 2, 1)) (by decide)) ?_
  refine And.intro (k_iload (pc := 284) (by decide +kernel : decode cX12_layNext 284 = .ok (.iload 4, 2))) ?_
  refine And.intro (k_imul (pc := 286) (by decide +kernel : decode cX12_layNext 286 = .ok (.imul, 1))) ?_
  refine And.intro (k_iconst (pc := 287) (by decide +kernel : decode cX12_layNext 287 = .ok (.iconst 1, 1)) (by decide)) ?_
  refine And.intro (k_iadd (pc := 288) (by decide +kernel : decode cX12_layNext 288 = .ok (.iadd, 1))) ?_
  refine And.intro (k_lald (pc := 289) (by decide +kernel : decode cX12_layNext 289 = .ok (.laload, 1))) ?_
  refine And.intro (k_cvV (n := 2) (pc := 290) hG (zRoom_self 5) (tag := 12) rfl ini_X12 im_X12_notBelow se_X12_notBelow mk_X12_195 dy_X12_notBelow (by decide +kernel : decode cX12_layNext 290 = .ok (.invokevirtual 195, 3))) ?_
  refine And.intro (k_aload_n (pc := 293) (by decide +kernel : decode cX12_layNext 293 = .ok (.aload_n 0, 1)) rfl) ?_
  refine And.intro (k_aload_n (pc := 294) (by decide +kernel : decode cX12_layNext 294 = .ok (.aload_n 0, 1)) rfl) ?_
  refine And.intro (k_gR (pc := 295) rfl (by decide) rfl zin12 lk_X12_37 (by decide +kernel : decode cX12_layNext 295 = .ok (.getfield 37, 3))) ?_
  refine And.intro (k_iconst (pc := 298) (by decide +kernel : decode cX12_layNext 298 = .ok (.iconst 2, 1)) (by decide)) ?_
  refine And.intro (k_iload (pc := 299) (by decide +kernel : decode cX12_layNext 299 = .ok (.iload 4, 2))) ?_
  refine And.intro (k_imul (pc := 301) (by decide +kernel : decode cX12_layNext 301 = .ok (.imul, 1))) ?_
  refine And.intro (k_lald (pc := 302) (by decide +kernel : decode cX12_layNext 302 = .ok (.laload, 1))) ?_
  refine And.intro (k_aload_n (pc := 303) (by decide +kernel : decode cX12_layNext 303 = .ok (.aload_n 0, 1)) rfl) ?_
  refine And.intro (k_gR (pc := 304) rfl (by decide) rfl zin12 lk_X12_37 (by decide +kernel : decode cX12_layNext 304 = .ok (.getfield 37, 3))) ?_
  refine And.intro (k_iconst (pc := 307) (by decide +kernel : decode cX12_layNext 307 = .ok (.iconst 2, 1)) (by decide)) ?_
  refine And.intro (k_iload (pc := 308) (by decide +kernel : decode cX12_layNext 308 = .ok (.iload 4, 2))) ?_
  refine And.intro (k_imul (pc := 310) (by decide +kernel : decode cX12_layNext 310 = .ok (.imul, 1))) ?_
  refine And.intro (k_iconst (pc := 311) (by decide +kernel : decode cX12_layNext 311 = .ok (.iconst 1, 1)) (by decide)) ?_
  refine And.intro (k_iadd (pc := 312) (by decide +kernel : decode cX12_layNext 312 = .ok (.iadd, 1))) ?_
  refine And.intro (k_lald (pc := 313) (by decide +kernel : decode cX12_layNext 313 = .ok (.laload, 1))) ?_
  refine And.intro (k_cvV (n := 2) (pc := 314) hG (zRoom_self 5) (tag := 12) rfl ini_X12 im_X12_notAbove se_X12_notAbove mk_X12_192 dy_X12_notAbove (by decide +kernel : decode cX12_layNext 314 = .ok (.invokevirtual 192, 3))) ?_
  refine And.intro (k_aload_n (pc := 317) (by decide +kernel : decode cX12_layNext 317 = .ok (.aload_n 0, 1)) rfl) ?_
  refine And.intro (k_iload_n (pc := 318) (by decide +kernel : decode cX12_layNext 318 = .ok (.iload_n 1, 1)) rfl) ?_
  refine And.intro (k_iconst (pc := 319) (by decide +kernel : decode cX12_layNext 319 = .ok (.iconst 1, 1)) (by decide)) ?_
  refine And.intro (k_iadd (pc := 320) (by decide +kernel : decode cX12_layNext 320 = .ok (.iadd, 1))) ?_
  refine And.intro (k_iload_n (pc := 321) (by decide +kernel : decode cX12_layNext 321 = .ok (.iload_n 2, 1)) rfl) ?_
  refine And.intro (k_iload_n (pc := 322) (by decide +kernel : decode cX12_layNext 322 = .ok (.iload_n 3, 1)) rfl) ?_
  refine And.intro (k_crS (n := 3) (pc := 323) hG (zRoom_self 5) ini_X12 sta_X12_sliceAt mk_X12_208 dy_X12_sliceAt (by decide +kernel : decode cX12_layNext 323 = .ok (.invokestatic 208, 3))) ?_
  refine And.intro (k_aload_n (pc := 326) (by decide +kernel : decode cX12_layNext 326 = .ok (.aload_n 0, 1)) rfl) ?_
  refine And.intro (k_gZ (pc := 327) rfl (by decide) rfl zin12 lk_X12_218 (by decide +kernel : decode cX12_layNext 327 = .ok (.getfield 218, 3))) ?_
  refine And.intro (k_if_eq (pc := 330) (by decide +kernel : decode cX12_layNext 330 = .ok (.ifCond .eq 14, 3)) (by decide)) ?_
  refine And.intro (k_aload_n (pc := 333) (by decide +kernel : decode cX12_layNext 333 = .ok (.aload_n 0, 1)) rfl) ?_
  refine And.intro (k_crV (n := 0) (pc := 334) hG (zRoom_self 5) (tag := 12) rfl ini_X12 im_X12_isEmpty se_X12_isEmpty mk_X12_211 dy_X12_isEmpty (by decide +kernel : decode cX12_layNext 334 = .ok (.invokevirtual 211, 3))) ?_
  refine And.intro (k_if_ne (pc := 337) (by decide +kernel : decode cX12_layNext 337 = .ok (.ifCond .ne 7, 3)) (by decide)) ?_
  refine And.intro (k_iconst (pc := 340) (by decide +kernel : decode cX12_layNext 340 = .ok (.iconst 1, 1)) (by decide)) ?_
  refine And.intro (k_goto (pc := 341) (by decide +kernel : decode cX12_layNext 341 = .ok (.goto 4, 3)) (by decide)) ?_
  refine And.intro (k_iconst (pc := 344) (by decide +kernel : decode cX12_layNext 344 = .ok (.iconst 0, 1)) (by decide)) ?_
  refine And.intro (k_cvV (n := 2) (pc := 345) hG (zRoom_self 5) (tag := 12) rfl ini_X12 im_X12_keepSlice se_X12_keepSlice mk_X12_214 dy_X12_keepSlice (by decide +kernel : decode cX12_layNext 345 = .ok (.invokevirtual 214, 3))) ?_
  refine And.intro (k_iinc (pc := 348) (by decide +kernel : decode cX12_layNext 348 = .ok (.iinc 3 1, 3)) (by decide)) ?_
  refine And.intro (k_goto (pc := 351) (by decide +kernel : decode cX12_layNext 351 = .ok (.goto (-342), 3)) (by decide)) ?_
  refine And.intro (k_iinc (pc := 354) (by decide +kernel : decode cX12_layNext 354 = .ok (.iinc 2 1, 3)) (by decide)) ?_
  refine And.intro (k_goto (pc := 357) (by decide +kernel : decode cX12_layNext 357 = .ok (.goto (-355), 3)) (by decide)) ?_
  refine And.intro (k_return (pc := 360) rfl (by decide +kernel : decode cX12_layNext 360 = .ok (.return_, 1))) ?_
  exact trivial
theorem cdX12_layNext : Cond.code yX12_layNext cX12_layNext 8 none ∈ zWs := zWs_in 1395 (by decide +kernel) rfl
noncomputable def pgX12_lay : zPg := [(0, o_al 0), (1, o_vv yX12_layFirst 12 1), (4, o_ic (0)), (5, o_is 2), (6, o_il 2), (7, o_il 1), (8, o_ic_ge 22), (11, o_al 0), (12, o_il 2), (13, o_vv yX12_layNext 12 2), (16, o_inc 2 (1)), (19, o_go 6), (22, o_vr)]
set_option maxRecDepth 20000 in
theorem pkX12_lay {G : zG} (hG : zGok G) (Q : zRt) : zPOK G (zRm 6) RX12 cX12_lay 3 none (zF G Q 0 0) 0 0 (zCalls G 6) Q pgX12_lay := by
  refine And.intro (k_aload_n (pc := 0) (by decide +kernel : decode cX12_lay 0 = .ok (.aload_n 0, 1)) rfl) ?_
  refine And.intro (k_cvV (n := 0) (pc := 1) hG (zRoom_self 6) (tag := 12) rfl ini_X12 im_X12_layFirst se_X12_layFirst mk_X12_241 dy_X12_layFirst (by decide +kernel : decode cX12_lay 1 = .ok (.invokevirtual 241, 3))) ?_
  refine And.intro (k_iconst (pc := 4) (by decide +kernel : decode cX12_lay 4 = .ok (.iconst 0, 1)) (by decide)) ?_
  refine And.intro (k_istore_n (pc := 5) (by decide +kernel : decode cX12_lay 5 = .ok (.istore_n 2, 1)) rfl) ?_
  refine And.intro (k_iload_n (pc := 6) (by decide +kernel : decode cX12_lay 6 = .ok (.iload_n 2, 1)) rfl) ?_
  refine And.intro (k_iload_n (pc := 7) (by decide +kernel : decode cX12_lay 7 = .ok (.iload_n 1, 1)) rfl) ?_
  refine And.intro (k_icmp_ge (pc := 8) (by decide +kernel : decode cX12_lay 8 = .ok (.if_icmp .ge 14, 3)) (by decide)) ?_
  refine And.intro (k_aload_n (pc := 11) (by decide +kernel : decode cX12_lay 11 = .ok (.aload_n 0, 1)) rfl) ?_
  refine And.intro (k_iload_n (pc := 12) (by decide +kernel : decode cX12_lay 12 = .ok (.iload_n 2, 1)) rfl) ?_
  refine And.intro (k_cvV (n := 1) (pc := 13) hG (zRoom_self 6) (tag := 12) rfl ini_X12 im_X12_layNext se_X12_layNext mk_X12_244 dy_X12_layNext (by decide +kernel : decode cX12_lay 13 = .ok (.invokevirtual 244, 3))) ?_
  refine And.intro (k_iinc (pc := 16) (by decide +kernel : decode cX12_lay 16 = .ok (.iinc 2 1, 3)) (by decide)) ?_
  refine And.intro (k_goto (pc := 19) (by decide +kernel : decode cX12_lay 19 = .ok (.goto (-13), 3)) (by decide)) ?_
  refine And.intro (k_return (pc := 22) rfl (by decide +kernel : decode cX12_lay 22 = .ok (.return_, 1))) ?_
  exact trivial
theorem cdX12_lay : Cond.code yX12_lay cX12_lay 3 none ∈ zWs := zWs_in 1349 (by decide +kernel) rfl
noncomputable def pgX12_slice : zPg := [(0, o_al 0), (1, o_ic (0)), (2, o_pI 12 5), (5, o_il 1), (6, o_ic (0)), (7, o_ic (2)), (8, o_cr yX12_in 3), (11, o_if_eq 33), (14, o_il 2), (15, o_ic (0)), (16, o_ic (1)), (17, o_cr yX12_in 3), (20, o_if_eq 33), (23, o_il 3), (24, o_ic (0)), (25, o_ic (6)), (27, o_cr yX12_in 3), (30, o_if_ne 35), (33, o_ic (-1)), (34, o_ir), (35, o_al 0), (36, o_il 1), (37, o_vv yX12_lay 12 2), (40, o_il 1), (41, o_il 2), (42, o_il 3), (43, o_cr yX12_sliceAt 3), (46, o_is 4), (48, o_al 0), (49, o_gR 12 15), (52, o_il 4), (54, o_xI 16), (55, o_if_ne 60), (58, o_ic (0)), (59, o_ir), (60, o_al 0), (61, o_ic (0)), (62, o_pI 12 4), (65, o_al 0), (66, o_al 0), (67, o_gR 12 16), (70, o_ic (2)), (71, o_il 4), (73, o_imul), (74, o_xJ), (75, o_al 0), (76, o_gR 12 16), (79, o_ic (2)), (80, o_il 4), (82, o_imul), (83, o_ic (1)), (84, o_iadd), (85, o_xJ), (86, o_vv yX12_tellFraction 12 3), (89, o_al 0), (90, o_al 0), (91, o_gR 12 17), (94, o_ic (2)), (95, o_il 4), (97, o_imul), (98, o_xJ), (99, o_al 0), (100, o_gR 12 17), (103, o_ic (2)), (104, o_il 4), (106, o_imul), (107, o_ic (1)), (108, o_iadd), (109, o_xJ), (110, o_vv yX12_tellFraction 12 3), (113, o_ic (1)), (114, o_ir)]
set_option maxRecDepth 20000 in
theorem pkX12_slice {G : zG} (hG : zGok G) (Q : zRt) : zPOK G (zRm 7) RX12 cX12_slice 5 (some .int) (zF G Q 0 0) 0 0 (zCalls G 7) Q pgX12_slice := by
  refine And.intro (k_aload_n (pc := 0) (by decide +kernel : decode cX12_slice 0 = .ok (.aload_n 0, 1)) rfl) ?_
  refine And.intro (k_iconst (pc := 1) (by decide +kernel : decode cX12_slice 1 = .ok (.iconst 0, 1)) (by decide)) ?_
  refine And.intro (k_pI (pc := 2) rfl (by decide) rfl zin12 lk_X12_55 tyX12_ok nmX12 rfl (by decide +kernel) (by decide +kernel : decode cX12_slice 2 = .ok (.putfield 55, 3))) ?_
  refine And.intro (k_iload_n (pc := 5) (by decide +kernel : decode cX12_slice 5 = .ok (.iload_n 1, 1)) rfl) ?_
  refine And.intro (k_iconst (pc := 6) (by decide +kernel : decode cX12_slice 6 = .ok (.iconst 0, 1)) (by decide)) ?_
  refine And.intro (k_iconst (pc := 7) (by decide +kernel : decode cX12_slice 7 = .ok (.iconst 2, 1)) (by decide)) ?_
  refine And.intro (k_crS (n := 3) (pc := 8) hG (zRoom_self 7) ini_X12 sta_X12_in mk_X12_87 dy_X12_in (by decide +kernel : decode cX12_slice 8 = .ok (.invokestatic 87, 3))) ?_
  refine And.intro (k_if_eq (pc := 11) (by decide +kernel : decode cX12_slice 11 = .ok (.ifCond .eq 22, 3)) (by decide)) ?_
  refine And.intro (k_iload_n (pc := 14) (by decide +kernel : decode cX12_slice 14 = .ok (.iload_n 2, 1)) rfl) ?_
  refine And.intro (k_iconst (pc := 15) (by decide +kernel : decode cX12_slice 15 = .ok (.iconst 0, 1)) (by decide)) ?_
  refine And.intro (k_iconst (pc := 16) (by decide +kernel : decode cX12_slice 16 = .ok (.iconst 1, 1)) (by decide)) ?_
  refine And.intro (k_crS (n := 3) (pc := 17) hG (zRoom_self 7) ini_X12 sta_X12_in mk_X12_87 dy_X12_in (by decide +kernel : decode cX12_slice 17 = .ok (.invokestatic 87, 3))) ?_
  refine And.intro (k_if_eq (pc := 20) (by decide +kernel : decode cX12_slice 20 = .ok (.ifCond .eq 13, 3)) (by decide)) ?_
  refine And.intro (k_iload_n (pc := 23) (by decide +kernel : decode cX12_slice 23 = .ok (.iload_n 3, 1)) rfl) ?_
  refine And.intro (k_iconst (pc := 24) (by decide +kernel : decode cX12_slice 24 = .ok (.iconst 0, 1)) (by decide)) ?_
  refine And.intro (k_bipush (pc := 25) (by decide +kernel : decode cX12_slice 25 = .ok (.bipush 6, 2)) (by decide)) ?_
  refine And.intro (k_crS (n := 3) (pc := 27) hG (zRoom_self 7) ini_X12 sta_X12_in mk_X12_87 dy_X12_in (by decide +kernel : decode cX12_slice 27 = .ok (.invokestatic 87, 3))) ?_
  refine And.intro (k_if_ne (pc := 30) (by decide +kernel : decode cX12_slice 30 = .ok (.ifCond .ne 5, 3)) (by decide)) ?_
  refine And.intro (k_iconst (pc := 33) (by decide +kernel : decode cX12_slice 33 = .ok (.iconst (-1), 1)) (by decide)) ?_
  refine And.intro (k_ireturn (pc := 34) rfl (by decide +kernel : decode cX12_slice 34 = .ok (.ireturn, 1))) ?_
  refine And.intro (k_aload_n (pc := 35) (by decide +kernel : decode cX12_slice 35 = .ok (.aload_n 0, 1)) rfl) ?_
  refine And.intro (k_iload_n (pc := 36) (by decide +kernel : decode cX12_slice 36 = .ok (.iload_n 1, 1)) rfl) ?_
  refine And.intro (k_cvV (n := 1) (pc := 37) hG (zRoom_self 7) (tag := 12) rfl ini_X12 im_X12_lay se_X12_lay mk_X12_247 dy_X12_lay (by decide +kernel : decode cX12_slice 37 = .ok (.invokevirtual 247, 3))) ?_
  refine And.intro (k_iload_n (pc := 40) (by decide +kernel : decode cX12_slice 40 = .ok (.iload_n 1, 1)) rfl) ?_
  refine And.intro (k_iload_n (pc := 41) (by decide +kernel : decode cX12_slice 41 = .ok (.iload_n 2, 1)) rfl) ?_
  refine And.intro (k_iload_n (pc := 42) (by decide +kernel : decode cX12_slice 42 = .ok (.iload_n 3, 1)) rfl) ?_
  refine And.intro (k_crS (n := 3) (pc := 43) hG (zRoom_self 7) ini_X12 sta_X12_sliceAt mk_X12_208 dy_X12_sliceAt (by decide +kernel : decode cX12_slice 43 = .ok (.invokestatic 208, 3))) ?_
  refine And.intro (k_istore (pc := 46) (by decide +kernel : decode cX12_slice 46 = .ok (.istore 4, 2))) ?_
  refine And.intro (k_aload_n (pc := 48) (by decide +kernel : decode cX12_slice 48 = .ok (.aload_n 0, 1)) rfl) ?_
  refine And.intro (k_gR (pc := 49) rfl (by decide) rfl zin12 lk_X12_30 (by decide +kernel : decode cX12_slice 49 = .ok (.getfield 30, 3))) ?_
  refine And.intro (k_iload (pc := 52) (by decide +kernel : decode cX12_slice 52 = .ok (.iload 4, 2))) ?_
  refine And.intro (k_zald (pc := 54) (by decide +kernel : decode cX12_slice 54 = .ok (.baload, 1))) ?_
  refine And.intro (k_if_ne (pc := 55) (by decide +kernel : decode cX12_slice 55 = .ok (.ifCond .ne 5, 3)) (by decide)) ?_
  refine And.intro (k_iconst (pc := 58) (by decide +kernel : decode cX12_slice 58 = .ok (.iconst 0, 1)) (by decide)) ?_
  refine And.intro (k_ireturn (pc := 59) rfl (by decide +kernel : decode cX12_slice 59 = .ok (.ireturn, 1))) ?_
  refine And.intro (k_aload_n (pc := 60) (by decide +kernel : decode cX12_slice 60 = .ok (.aload_n 0, 1)) rfl) ?_
  refine And.intro (k_iconst (pc := 61) (by decide +kernel : decode cX12_slice 61 = .ok (.iconst 0, 1)) (by decide)) ?_
  refine And.intro (k_pI (pc := 62) rfl (by decide) rfl zin12 lk_X12_59 tyX12_ok nmX12 rfl (by decide +kernel) (by decide +kernel : decode cX12_slice 62 = .ok (.putfield 59, 3))) ?_
  refine And.intro (k_aload_n (pc := 65) (by decide +kernel : decode cX12_slice 65 = .ok (.aload_n 0, 1)) rfl) ?_
  refine And.intro (k_aload_n (pc := 66) (by decide +kernel : decode cX12_slice 66 = .ok (.aload_n 0, 1)) rfl) ?_
  refine And.intro (k_gR (pc := 67) rfl (by decide) rfl zin12 lk_X12_34 (by decide +kernel : decode cX12_slice 67 = .ok (.getfield 34, 3))) ?_
  refine And.intro (k_iconst (pc := 70) (by decide +kernel : decode cX12_slice 70 = .ok (.iconst 2, 1)) (by decide)) ?_
  refine And.intro (k_iload (pc := 71) (by decide +kernel : decode cX12_slice 71 = .ok (.iload 4, 2))) ?_
  refine And.intro (k_imul (pc := 73) (by decide +kernel : decode cX12_slice 73 = .ok (.imul, 1))) ?_
  refine And.intro (k_lald (pc := 74) (by decide +kernel : decode cX12_slice 74 = .ok (.laload, 1))) ?_
  refine And.intro (k_aload_n (pc := 75) (by decide +kernel : decode cX12_slice 75 = .ok (.aload_n 0, 1)) rfl) ?_
  refine And.intro (k_gR (pc := 76) rfl (by decide) rfl zin12 lk_X12_34 (by decide +kernel : decode cX12_slice 76 = .ok (.getfield 34, 3))) ?_
  refine And.intro (k_iconst (pc := 79) (by decide +kernel : decode cX12_slice 79 = .ok (.iconst 2, 1)) (by decide)) ?_
  refine And.intro (k_iload (pc := 80) (by decide +kernel : decode cX12_slice 80 = .ok (.iload 4, 2))) ?_
  refine And.intro (k_imul (pc := 82) (by decide +kernel : decode cX12_slice 82 = .ok (.imul, 1))) ?_
  refine And.intro (k_iconst (pc := 83) (by decide +kernel : decode cX12_slice 83 = .ok (.iconst 1, 1)) (by decide)) ?_
  refine And.intro (k_iadd (pc := 84) (by decide +kernel : decode cX12_slice 84 = .ok (.iadd, 1))) ?_
  refine And.intro (k_lald (pc := 85) (by decide +kernel : decode cX12_slice 85 = .ok (.laload, 1))) ?_
  refine And.intro (k_cvV (n := 2) (pc := 86) hG (zRoom_self 7) (tag := 12) rfl ini_X12 im_X12_tellFraction se_X12_tellFraction mk_X12_250 dy_X12_tellFraction (by decide +kernel : decode cX12_slice 86 = .ok (.invokevirtual 250, 3))) ?_
  refine And.intro (k_aload_n (pc := 89) (by decide +kernel : decode cX12_slice 89 = .ok (.aload_n 0, 1)) rfl) ?_
  refine And.intro (k_aload_n (pc := 90) (by decide +kernel : decode cX12_slice 90 = .ok (.aload_n 0, 1)) rfl) ?_
  refine And.intro (k_gR (pc := 91) rfl (by decide) rfl zin12 lk_X12_37 (by decide +kernel : decode cX12_slice 91 = .ok (.getfield 37, 3))) ?_
  refine And.intro (k_iconst (pc := 94) (by decide +kernel : decode cX12_slice 94 = .ok (.iconst 2, 1)) (by decide)) ?_
  refine And.intro (k_iload (pc := 95) (by decide +kernel : decode cX12_slice 95 = .ok (.iload 4, 2))) ?_
  refine And.intro (k_imul (pc := 97) (by decide +kernel : decode cX12_slice 97 = .ok (.imul, 1))) ?_
  refine And.intro (k_lald (pc := 98) (by decide +kernel : decode cX12_slice 98 = .ok (.laload, 1))) ?_
  refine And.intro (k_aload_n (pc := 99) (by decide +kernel : decode cX12_slice 99 = .ok (.aload_n 0, 1)) rfl) ?_
  refine And.intro (k_gR (pc := 100) rfl (by decide) rfl zin12 lk_X12_37 (by decide +kernel : decode cX12_slice 100 = .ok (.getfield 37, 3))) ?_
  refine And.intro (k_iconst (pc := 103) (by decide +kernel : decode cX12_slice 103 = .ok (.iconst 2, 1)) (by decide)) ?_
  refine And.intro (k_iload (pc := 104) (by decide +kernel : decode cX12_slice 104 = .ok (.iload 4, 2))) ?_
  refine And.intro (k_imul (pc := 106) (by decide +kernel : decode cX12_slice 106 = .ok (.imul, 1))) ?_
  refine And.intro (k_iconst (pc := 107) (by decide +kernel : decode cX12_slice 107 = .ok (.iconst 1, 1)) (by decide)) ?_
  refine And.intro (k_iadd (pc := 108) (by decide +kernel : decode cX12_slice 108 = .ok (.iadd, 1))) ?_
  refine And.intro (k_lald (pc := 109) (by decide +kernel : decode cX12_slice 109 = .ok (.laload, 1))) ?_
  refine And.intro (k_cvV (n := 2) (pc := 110) hG (zRoom_self 7) (tag := 12) rfl ini_X12 im_X12_tellFraction se_X12_tellFraction mk_X12_250 dy_X12_tellFraction (by decide +kernel : decode cX12_slice 110 = .ok (.invokevirtual 250, 3))) ?_
  refine And.intro (k_iconst (pc := 113) (by decide +kernel : decode cX12_slice 113 = .ok (.iconst 1, 1)) (by decide)) ?_
  refine And.intro (k_ireturn (pc := 114) rfl (by decide +kernel : decode cX12_slice 114 = .ok (.ireturn, 1))) ?_
  exact trivial
theorem cdX12_slice : Cond.code yX12_slice cX12_slice 5 (some .int) ∈ zWs := zWs_in 1345 (by decide +kernel) rfl
noncomputable def pgX12_isPoint : zPg := [(0, o_il 2), (1, o_ic (1)), (2, o_ic (12)), (4, o_cr yX12_in 3), (7, o_if_eq 38), (10, o_il 0), (11, o_ic (0)), (12, o_ic (6)), (14, o_il 2), (15, o_imul), (16, o_cr yX12_in 3), (19, o_if_eq 38), (22, o_il 1), (23, o_ic (0)), (24, o_ic (6)), (26, o_il 2), (27, o_imul), (28, o_cr yX12_in 3), (31, o_if_eq 38), (34, o_ic (1)), (35, o_go 39), (38, o_ic (0)), (39, o_zr)]
set_option maxRecDepth 20000 in
theorem pkX12_isPoint {G : zG} (hG : zGok G) (Q : zRt) : zPOK G (zRm 1) RX12 cX12_isPoint 3 (some .boolean) (zF G Q 0 0) 0 0 (zCalls G 1) Q pgX12_isPoint := by
  refine And.intro (k_iload_n (pc := 0) (by decide +kernel : decode cX12_isPoint 0 = .ok (.iload_n 2, 1)) rfl) ?_
  refine And.intro (k_iconst (pc := 1) (by decide +kernel : decode cX12_isPoint 1 = .ok (.iconst 1, 1)) (by decide)) ?_
  refine And.intro (k_bipush (pc := 2) (by decide +kernel : decode cX12_isPoint 2 = .ok (.bipush 12, 2)) (by decide)) ?_
  refine And.intro (k_crS (n := 3) (pc := 4) hG (zRoom_self 1) ini_X12 sta_X12_in mk_X12_87 dy_X12_in (by decide +kernel : decode cX12_isPoint 4 = .ok (.invokestatic 87, 3))) ?_
  refine And.intro (k_if_eq (pc := 7) (by decide +kernel : decode cX12_isPoint 7 = .ok (.ifCond .eq 31, 3)) (by decide)) ?_
  refine And.intro (k_iload_n (pc := 10) (by decide +kernel : decode cX12_isPoint 10 = .ok (.iload_n 0, 1)) rfl) ?_
  refine And.intro (k_iconst (pc := 11) (by decide +kernel : decode cX12_isPoint 11 = .ok (.iconst 0, 1)) (by decide)) ?_
  refine And.intro (k_bipush (pc := 12) (by decide +kernel : decode cX12_isPoint 12 = .ok (.bipush 6, 2)) (by decide)) ?_
  refine And.intro (k_iload_n (pc := 14) (by decide +kernel : decode cX12_isPoint 14 = .ok (.iload_n 2, 1)) rfl) ?_
  refine And.intro (k_imul (pc := 15) (by decide +kernel : decode cX12_isPoint 15 = .ok (.imul, 1))) ?_
  refine And.intro (k_crS (n := 3) (pc := 16) hG (zRoom_self 1) ini_X12 sta_X12_in mk_X12_87 dy_X12_in (by decide +kernel : decode cX12_isPoint 16 = .ok (.invokestatic 87, 3))) ?_
  refine And.intro (k_if_eq (pc := 19) (by decide +kernel : decode cX12_isPoint 19 = .ok (.ifCond .eq 19, 3)) (by decide)) ?_
  refine And.intro (k_iload_n (pc := 22) (by decide +kernel : decode cX12_isPoint 22 = .ok (.iload_n 1, 1)) rfl) ?_
  refine And.intro (k_iconst (pc := 23) (by decide +kernel : decode cX12_isPoint 23 = .ok (.iconst 0, 1)) (by decide)) ?_
  refine And.intro (k_bipush (pc := 24) (by decide +kernel : decode cX12_isPoint 24 = .ok (.bipush 6, 2)) (by decide)) ?_
  refine And.intro (k_iload_n (pc := 26) (by decide +kernel : decode cX12_isPoint 26 = .ok (.iload_n 2, 1)) rfl) ?_
  refine And.intro (k_imul (pc := 27) (by decide +kernel : decode cX12_isPoint 27 = .ok (.imul, 1))) ?_
  refine And.intro (k_crS (n := 3) (pc := 28) hG (zRoom_self 1) ini_X12 sta_X12_in mk_X12_87 dy_X12_in (by decide +kernel : decode cX12_isPoint 28 = .ok (.invokestatic 87, 3))) ?_
  refine And.intro (k_if_eq (pc := 31) (by decide +kernel : decode cX12_isPoint 31 = .ok (.ifCond .eq 7, 3)) (by decide)) ?_
  refine And.intro (k_iconst (pc := 34) (by decide +kernel : decode cX12_isPoint 34 = .ok (.iconst 1, 1)) (by decide)) ?_
  refine And.intro (k_goto (pc := 35) (by decide +kernel : decode cX12_isPoint 35 = .ok (.goto 4, 3)) (by decide)) ?_
  refine And.intro (k_iconst (pc := 38) (by decide +kernel : decode cX12_isPoint 38 = .ok (.iconst 0, 1)) (by decide)) ?_
  refine And.intro (k_zreturn (pc := 39) rfl (by decide +kernel : decode cX12_isPoint 39 = .ok (.ireturn, 1))) ?_
  exact trivial
theorem cdX12_isPoint : Cond.code yX12_isPoint cX12_isPoint 3 (some .boolean) ∈ zWs := zWs_in 1418 (by decide +kernel) rfl
noncomputable def pgX12_isBetween : zPg := [(0, o_al 0), (1, o_ic (2)), (2, o_il 1), (3, o_imul), (4, o_xJ), (5, o_ls 5), (7, o_al 0), (8, o_ic (2)), (9, o_il 1), (10, o_imul), (11, o_ic (1)), (12, o_iadd), (13, o_xJ), (14, o_ls 7), (16, o_al 0), (17, o_ic (2)), (18, o_il 1), (19, o_imul), (20, o_ic (2)), (21, o_iadd), (22, o_xJ), (23, o_ls 9), (25, o_al 0), (26, o_ic (2)), (27, o_il 1), (28, o_imul), (29, o_ic (3)), (30, o_iadd), (31, o_xJ), (32, o_ls 11), (34, o_ll 5), (36, o_ll 11), (38, o_lmul), (39, o_il 4), (41, o_il 2), (42, o_isub), (43, o_i2l), (44, o_lmul), (45, o_ll 9), (47, o_ll 7), (49, o_lmul), (50, o_il 2), (51, o_i2l), (52, o_lmul), (53, o_ladd), (54, o_ls 13), (56, o_il 3), (57, o_i2l), (58, o_ll 7), (60, o_lmul), (61, o_ll 11), (63, o_lmul), (64, o_ls 15), (66, o_ll 15), (68, o_ll 13), (70, o_lc_le 78), (74, o_ic (1)), (75, o_go 91), (78, o_ll 15), (80, o_ll 13), (82, o_lc_ge 90), (86, o_ic (-1)), (87, o_go 91), (90, o_ic (0)), (91, o_ir)]
set_option maxRecDepth 20000 in
theorem pkX12_isBetween {G : zG} (hG : zGok G) (Q : zRt) : zPOK G (zRm 0) RX12 cX12_isBetween 17 (some .int) (zF G Q 0 0) 0 0 (zCalls G 0) Q pgX12_isBetween := by
  refine And.intro (k_aload_n (pc := 0) (by decide +kernel : decode cX12_isBetween 0 = .ok (.aload_n 0, 1)) rfl) ?_
  refine And.intro (k_iconst (pc := 1) (by decide +kernel : decode cX12_isBetween 1 = .ok (.iconst 2, 1)) (by decide)) ?_
  refine And.intro (k_iload_n (pc := 2) (by decide +kernel : decode cX12_isBetween 2 = .ok (.iload_n 1, 1)) rfl) ?_
  refine And.intro (k_imul (pc := 3) (by decide +kernel : decode cX12_isBetween 3 = .ok (.imul, 1))) ?_
  refine And.intro (k_lald (pc := 4) (by decide +kernel : decode cX12_isBetween 4 = .ok (.laload, 1))) ?_
  refine And.intro (k_lstore (pc := 5) (by decide +kernel : decode cX12_isBetween 5 = .ok (.lstore 5, 2))) ?_
  refine And.intro (k_aload_n (pc := 7) (by decide +kernel : decode cX12_isBetween 7 = .ok (.aload_n 0, 1)) rfl) ?_
  refine And.intro (k_iconst (pc := 8) (by decide +kernel : decode cX12_isBetween 8 = .ok (.iconst 2, 1)) (by decide)) ?_
  refine And.intro (k_iload_n (pc := 9) (by decide +kernel : decode cX12_isBetween 9 = .ok (.iload_n 1, 1)) rfl) ?_
  refine And.intro (k_imul (pc := 10) (by decide +kernel : decode cX12_isBetween 10 = .ok (.imul, 1))) ?_
  refine And.intro (k_iconst (pc := 11) (by decide +kernel : decode cX12_isBetween 11 = .ok (.iconst 1, 1)) (by decide)) ?_
  refine And.intro (k_iadd (pc := 12) (by decide +kernel : decode cX12_isBetween 12 = .ok (.iadd, 1))) ?_
  refine And.intro (k_lald (pc := 13) (by decide +kernel : decode cX12_isBetween 13 = .ok (.laload, 1))) ?_
  refine And.intro (k_lstore (pc := 14) (by decide +kernel : decode cX12_isBetween 14 = .ok (.lstore 7, 2))) ?_
  refine And.intro (k_aload_n (pc := 16) (by decide +kernel : decode cX12_isBetween 16 = .ok (.aload_n 0, 1)) rfl) ?_
  refine And.intro (k_iconst (pc := 17) (by decide +kernel : decode cX12_isBetween 17 = .ok (.iconst 2, 1)) (by decide)) ?_
  refine And.intro (k_iload_n (pc := 18) (by decide +kernel : decode cX12_isBetween 18 = .ok (.iload_n 1, 1)) rfl) ?_
  refine And.intro (k_imul (pc := 19) (by decide +kernel : decode cX12_isBetween 19 = .ok (.imul, 1))) ?_
  refine And.intro (k_iconst (pc := 20) (by decide +kernel : decode cX12_isBetween 20 = .ok (.iconst 2, 1)) (by decide)) ?_
  refine And.intro (k_iadd (pc := 21) (by decide +kernel : decode cX12_isBetween 21 = .ok (.iadd, 1))) ?_
  refine And.intro (k_lald (pc := 22) (by decide +kernel : decode cX12_isBetween 22 = .ok (.laload, 1))) ?_
  refine And.intro (k_lstore (pc := 23) (by decide +kernel : decode cX12_isBetween 23 = .ok (.lstore 9, 2))) ?_
  refine And.intro (k_aload_n (pc := 25) (by decide +kernel : decode cX12_isBetween 25 = .ok (.aload_n 0, 1)) rfl) ?_
  refine And.intro (k_iconst (pc := 26) (by decide +kernel : decode cX12_isBetween 26 = .ok (.iconst 2, 1)) (by decide)) ?_
  refine And.intro (k_iload_n (pc := 27) (by decide +kernel : decode cX12_isBetween 27 = .ok (.iload_n 1, 1)) rfl) ?_
  refine And.intro (k_imul (pc := 28) (by decide +kernel : decode cX12_isBetween 28 = .ok (.imul, 1))) ?_
  refine And.intro (k_iconst (pc := 29) (by decide +kernel : decode cX12_isBetween 29 = .ok (.iconst 3, 1)) (by decide)) ?_
  refine And.intro (k_iadd (pc := 30) (by decide +kernel : decode cX12_isBetween 30 = .ok (.iadd, 1))) ?_
  refine And.intro (k_lald (pc := 31) (by decide +kernel : decode cX12_isBetween 31 = .ok (.laload, 1))) ?_
  refine And.intro (k_lstore (pc := 32) (by decide +kernel : decode cX12_isBetween 32 = .ok (.lstore 11, 2))) ?_
  refine And.intro (k_lload (pc := 34) (by decide +kernel : decode cX12_isBetween 34 = .ok (.lload 5, 2))) ?_
  refine And.intro (k_lload (pc := 36) (by decide +kernel : decode cX12_isBetween 36 = .ok (.lload 11, 2))) ?_
  refine And.intro (k_lmul (pc := 38) (by decide +kernel : decode cX12_isBetween 38 = .ok (.lmul, 1))) ?_
  refine And.intro (k_iload (pc := 39) (by decide +kernel : decode cX12_isBetween 39 = .ok (.iload 4, 2))) ?_
  refine And.intro (k_iload_n (pc := 41) (by decide +kernel : decode cX12_isBetween 41 = .ok (.iload_n 2, 1)) rfl) ?_
  refine And.intro (k_isub (pc := 42) (by decide +kernel : decode cX12_isBetween 42 = .ok (.isub, 1))) ?_
  refine And.intro (k_i2l (pc := 43) (by decide +kernel : decode cX12_isBetween 43 = .ok (.i2l, 1))) ?_
  refine And.intro (k_lmul (pc := 44) (by decide +kernel : decode cX12_isBetween 44 = .ok (.lmul, 1))) ?_
  refine And.intro (k_lload (pc := 45) (by decide +kernel : decode cX12_isBetween 45 = .ok (.lload 9, 2))) ?_
  refine And.intro (k_lload (pc := 47) (by decide +kernel : decode cX12_isBetween 47 = .ok (.lload 7, 2))) ?_
  refine And.intro (k_lmul (pc := 49) (by decide +kernel : decode cX12_isBetween 49 = .ok (.lmul, 1))) ?_
  refine And.intro (k_iload_n (pc := 50) (by decide +kernel : decode cX12_isBetween 50 = .ok (.iload_n 2, 1)) rfl) ?_
  refine And.intro (k_i2l (pc := 51) (by decide +kernel : decode cX12_isBetween 51 = .ok (.i2l, 1))) ?_
  refine And.intro (k_lmul (pc := 52) (by decide +kernel : decode cX12_isBetween 52 = .ok (.lmul, 1))) ?_
  refine And.intro (k_ladd (pc := 53) (by decide +kernel : decode cX12_isBetween 53 = .ok (.ladd, 1))) ?_
  refine And.intro (k_lstore (pc := 54) (by decide +kernel : decode cX12_isBetween 54 = .ok (.lstore 13, 2))) ?_
  refine And.intro (k_iload_n (pc := 56) (by decide +kernel : decode cX12_isBetween 56 = .ok (.iload_n 3, 1)) rfl) ?_
  refine And.intro (k_i2l (pc := 57) (by decide +kernel : decode cX12_isBetween 57 = .ok (.i2l, 1))) ?_
  refine And.intro (k_lload (pc := 58) (by decide +kernel : decode cX12_isBetween 58 = .ok (.lload 7, 2))) ?_
  refine And.intro (k_lmul (pc := 60) (by decide +kernel : decode cX12_isBetween 60 = .ok (.lmul, 1))) ?_
  refine And.intro (k_lload (pc := 61) (by decide +kernel : decode cX12_isBetween 61 = .ok (.lload 11, 2))) ?_
  refine And.intro (k_lmul (pc := 63) (by decide +kernel : decode cX12_isBetween 63 = .ok (.lmul, 1))) ?_
  refine And.intro (k_lstore (pc := 64) (by decide +kernel : decode cX12_isBetween 64 = .ok (.lstore 15, 2))) ?_
  refine And.intro (k_lload (pc := 66) (by decide +kernel : decode cX12_isBetween 66 = .ok (.lload 15, 2))) ?_
  refine And.intro (k_lload (pc := 68) (by decide +kernel : decode cX12_isBetween 68 = .ok (.lload 13, 2))) ?_
  refine And.intro (k_lcmp_le (pc := 70) (by decide +kernel : decode cX12_isBetween 70 = .ok (.lcmp, 1)) (by decide +kernel : decode cX12_isBetween 71 = .ok (.ifCond .le 7, 3)) (by decide)) ?_
  refine And.intro (k_iconst (pc := 74) (by decide +kernel : decode cX12_isBetween 74 = .ok (.iconst 1, 1)) (by decide)) ?_
  refine And.intro (k_goto (pc := 75) (by decide +kernel : decode cX12_isBetween 75 = .ok (.goto 16, 3)) (by decide)) ?_
  refine And.intro (k_lload (pc := 78) (by decide +kernel : decode cX12_isBetween 78 = .ok (.lload 15, 2))) ?_
  refine And.intro (k_lload (pc := 80) (by decide +kernel : decode cX12_isBetween 80 = .ok (.lload 13, 2))) ?_
  refine And.intro (k_lcmp_ge (pc := 82) (by decide +kernel : decode cX12_isBetween 82 = .ok (.lcmp, 1)) (by decide +kernel : decode cX12_isBetween 83 = .ok (.ifCond .ge 7, 3)) (by decide)) ?_
  refine And.intro (k_iconst (pc := 86) (by decide +kernel : decode cX12_isBetween 86 = .ok (.iconst (-1), 1)) (by decide)) ?_
  refine And.intro (k_goto (pc := 87) (by decide +kernel : decode cX12_isBetween 87 = .ok (.goto 4, 3)) (by decide)) ?_
  refine And.intro (k_iconst (pc := 90) (by decide +kernel : decode cX12_isBetween 90 = .ok (.iconst 0, 1)) (by decide)) ?_
  refine And.intro (k_ireturn (pc := 91) rfl (by decide +kernel : decode cX12_isBetween 91 = .ok (.ireturn, 1))) ?_
  exact trivial
theorem cdX12_isBetween : Cond.code yX12_isBetween cX12_isBetween 17 (some .int) ∈ zWs := zWs_in 1429 (by decide +kernel) rfl
noncomputable def pgX12_comesBy : zPg := [(0, o_il 2), (1, o_if_ne 8), (4, o_il 3), (5, o_go 10), (8, o_il 4), (10, o_is 6), (12, o_il 2), (13, o_if_ne 21), (16, o_il 4), (18, o_go 22), (21, o_il 3), (22, o_is 7), (24, o_il 6), (26, o_il 5), (28, o_idiv), (29, o_is 8), (31, o_il 6), (33, o_il 5), (35, o_irem), (36, o_is 9), (38, o_il 1), (39, o_il 2), (40, o_il 8), (42, o_cr yX12_sliceAt 3), (45, o_is 10), (47, o_al 0), (48, o_gR 12 15), (51, o_il 10), (53, o_xI 16), (54, o_if_ne 59), (57, o_ic (0)), (58, o_zr), (59, o_il 9), (61, o_if_ne 134), (64, o_il 7), (66, o_i2l), (67, o_il 5), (69, o_i2l), (70, o_al 0), (71, o_gR 12 16), (74, o_ic (2)), (75, o_il 10), (77, o_imul), (78, o_xJ), (79, o_al 0), (80, o_gR 12 16), (83, o_ic (2)), (84, o_il 10), (86, o_imul), (87, o_ic (1)), (88, o_iadd), (89, o_xJ), (90, o_cr yX12_isLess 4), (93, o_if_ne 132), (96, o_al 0), (97, o_gR 12 17), (100, o_ic (2)), (101, o_il 10), (103, o_imul), (104, o_xJ), (105, o_al 0), (106, o_gR 12 17), (109, o_ic (2)), (110, o_il 10), (112, o_imul), (113, o_ic (1)), (114, o_iadd), (115, o_xJ), (116, o_il 7), (118, o_i2l), (119, o_il 5), (121, o_i2l), (122, o_cr yX12_isLess 4), (125, o_if_ne 132), (128, o_ic (1)), (129, o_go 133), (132, o_ic (0)), (133, o_zr), (134, o_al 0), (135, o_gR 12 15), (138, o_il 10), (140, o_ic (1)), (141, o_iadd), (142, o_xI 16), (143, o_if_ne 148), (146, o_ic (0)), (147, o_zr), (148, o_al 0), (149, o_gR 12 16), (152, o_il 10), (154, o_il 9), (156, o_il 7), (158, o_il 5), (160, o_cr yX12_isBetween 5), (163, o_if_lt 188), (166, o_al 0), (167, o_gR 12 17), (170, o_il 10), (172, o_il 9), (174, o_il 7), (176, o_il 5), (178, o_cr yX12_isBetween 5), (181, o_if_gt 188), (184, o_ic (1)), (185, o_go 189), (188, o_ic (0)), (189, o_zr)]
set_option maxRecDepth 20000 in
theorem pkX12_comesBy {G : zG} (hG : zGok G) (Q : zRt) : zPOK G (zRm 1) RX12 cX12_comesBy 11 (some .boolean) (zF G Q 0 0) 0 0 (zCalls G 1) Q pgX12_comesBy := by
  refine And.intro (k_iload_n (pc := 0) (by decide +kernel : decode cX12_comesBy 0 = .ok (.iload_n 2, 1)) rfl) ?_
  refine And.intro (k_if_ne (pc := 1) (by decide +kernel : decode cX12_comesBy 1 = .ok (.ifCond .ne 7, 3)) (by decide)) ?_
  refine And.intro (k_iload_n (pc := 4) (by decide +kernel : decode cX12_comesBy 4 = .ok (.iload_n 3, 1)) rfl) ?_
  refine And.intro (k_goto (pc := 5) (by decide +kernel : decode cX12_comesBy 5 = .ok (.goto 5, 3)) (by decide)) ?_
  refine And.intro (k_iload (pc := 8) (by decide +kernel : decode cX12_comesBy 8 = .ok (.iload 4, 2))) ?_
  refine And.intro (k_istore (pc := 10) (by decide +kernel : decode cX12_comesBy 10 = .ok (.istore 6, 2))) ?_
  refine And.intro (k_iload_n (pc := 12) (by decide +kernel : decode cX12_comesBy 12 = .ok (.iload_n 2, 1)) rfl) ?_
  refine And.intro (k_if_ne (pc := 13) (by decide +kernel : decode cX12_comesBy 13 = .ok (.ifCond .ne 8, 3)) (by decide)) ?_
  refine And.intro (k_iload (pc := 16) (by decide +kernel : decode cX12_comesBy 16 = .ok (.iload 4, 2))) ?_
  refine And.intro (k_goto (pc := 18) (by decide +kernel : decode cX12_comesBy 18 = .ok (.goto 4, 3)) (by decide)) ?_
  refine And.intro (k_iload_n (pc := 21) (by decide +kernel : decode cX12_comesBy 21 = .ok (.iload_n 3, 1)) rfl) ?_
  refine And.intro (k_istore (pc := 22) (by decide +kernel : decode cX12_comesBy 22 = .ok (.istore 7, 2))) ?_
  refine And.intro (k_iload (pc := 24) (by decide +kernel : decode cX12_comesBy 24 = .ok (.iload 6, 2))) ?_
  refine And.intro (k_iload (pc := 26) (by decide +kernel : decode cX12_comesBy 26 = .ok (.iload 5, 2))) ?_
  refine And.intro (k_idiv (pc := 28) (by decide +kernel : decode cX12_comesBy 28 = .ok (.idiv, 1))) ?_
  refine And.intro (k_istore (pc := 29) (by decide +kernel : decode cX12_comesBy 29 = .ok (.istore 8, 2))) ?_
  refine And.intro (k_iload (pc := 31) (by decide +kernel : decode cX12_comesBy 31 = .ok (.iload 6, 2))) ?_
  refine And.intro (k_iload (pc := 33) (by decide +kernel : decode cX12_comesBy 33 = .ok (.iload 5, 2))) ?_
  refine And.intro (k_irem (pc := 35) (by decide +kernel : decode cX12_comesBy 35 = .ok (.irem, 1))) ?_
  refine And.intro (k_istore (pc := 36) (by decide +kernel : decode cX12_comesBy 36 = .ok (.istore 9, 2))) ?_
  refine And.intro (k_iload_n (pc := 38) (by decide +kernel : decode cX12_comesBy 38 = .ok (.iload_n 1, 1)) rfl) ?_
  refine And.intro (k_iload_n (pc := 39) (by decide +kernel : decode cX12_comesBy 39 = .ok (.iload_n 2, 1)) rfl) ?_
  refine And.intro (k_iload (pc := 40) (by decide +kernel : decode cX12_comesBy 40 = .ok (.iload 8, 2))) ?_
  refine And.intro (k_crS (n := 3) (pc := 42) hG (zRoom_self 1) ini_X12 sta_X12_sliceAt mk_X12_208 dy_X12_sliceAt (by decide +kernel : decode cX12_comesBy 42 = .ok (.invokestatic 208, 3))) ?_
  refine And.intro (k_istore (pc := 45) (by decide +kernel : decode cX12_comesBy 45 = .ok (.istore 10, 2))) ?_
  refine And.intro (k_aload_n (pc := 47) (by decide +kernel : decode cX12_comesBy 47 = .ok (.aload_n 0, 1)) rfl) ?_
  refine And.intro (k_gR (pc := 48) rfl (by decide) rfl zin12 lk_X12_30 (by decide +kernel : decode cX12_comesBy 48 = .ok (.getfield 30, 3))) ?_
  refine And.intro (k_iload (pc := 51) (by decide +kernel : decode cX12_comesBy 51 = .ok (.iload 10, 2))) ?_
  refine And.intro (k_zald (pc := 53) (by decide +kernel : decode cX12_comesBy 53 = .ok (.baload, 1))) ?_
  refine And.intro (k_if_ne (pc := 54) (by decide +kernel : decode cX12_comesBy 54 = .ok (.ifCond .ne 5, 3)) (by decide)) ?_
  refine And.intro (k_iconst (pc := 57) (by decide +kernel : decode cX12_comesBy 57 = .ok (.iconst 0, 1)) (by decide)) ?_
  refine And.intro (k_zreturn (pc := 58) rfl (by decide +kernel : decode cX12_comesBy 58 = .ok (.ireturn, 1))) ?_
  refine And.intro (k_iload (pc := 59) (by decide +kernel : decode cX12_comesBy 59 = .ok (.iload 9, 2))) ?_
  refine And.intro (k_if_ne (pc := 61) (by decide +kernel : decode cX12_comesBy 61 = .ok (.ifCond .ne 73, 3)) (by decide)) ?_
  refine And.intro (k_iload (pc := 64) (by decide +kernel : decode cX12_comesBy 64 = .ok (.iload 7, 2))) ?_
  refine And.intro (k_i2l (pc := 66) (by decide +kernel : decode cX12_comesBy 66 = .ok (.i2l, 1))) ?_
  refine And.intro (k_iload (pc := 67) (by decide +kernel : decode cX12_comesBy 67 = .ok (.iload 5, 2))) ?_
  refine And.intro (k_i2l (pc := 69) (by decide +kernel : decode cX12_comesBy 69 = .ok (.i2l, 1))) ?_
  refine And.intro (k_aload_n (pc := 70) (by decide +kernel : decode cX12_comesBy 70 = .ok (.aload_n 0, 1)) rfl) ?_
  refine And.intro (k_gR (pc := 71) rfl (by decide) rfl zin12 lk_X12_34 (by decide +kernel : decode cX12_comesBy 71 = .ok (.getfield 34, 3))) ?_
  refine And.intro (k_iconst (pc := 74) (by decide +kernel : decode cX12_comesBy 74 = .ok (.iconst 2, 1)) (by decide)) ?_
  refine And.intro (k_iload (pc := 75) (by decide +kernel : decode cX12_comesBy 75 = .ok (.iload 10, 2))) ?_
  refine And.intro (k_imul (pc := 77) (by decide +kernel : decode cX12_comesBy 77 = .ok (.imul, 1))) ?_
  refine And.intro (k_lald (pc := 78) (by decide +kernel : decode cX12_comesBy 78 = .ok (.laload, 1))) ?_
  refine And.intro (k_aload_n (pc := 79) (by decide +kernel : decode cX12_comesBy 79 = .ok (.aload_n 0, 1)) rfl) ?_
  refine And.intro (k_gR (pc := 80) rfl (by decide) rfl zin12 lk_X12_34 (by decide +kernel : decode cX12_comesBy 80 = .ok (.getfield 34, 3))) ?_
  refine And.intro (k_iconst (pc := 83) (by decide +kernel : decode cX12_comesBy 83 = .ok (.iconst 2, 1)) (by decide)) ?_
  refine And.intro (k_iload (pc := 84) (by decide +kernel : decode cX12_comesBy 84 = .ok (.iload 10, 2))) ?_
  refine And.intro (k_imul (pc := 86) (by decide +kernel : decode cX12_comesBy 86 = .ok (.imul, 1))) ?_
  refine And.intro (k_iconst (pc := 87) (by decide +kernel : decode cX12_comesBy 87 = .ok (.iconst 1, 1)) (by decide)) ?_
  refine And.intro (k_iadd (pc := 88) (by decide +kernel : decode cX12_comesBy 88 = .ok (.iadd, 1))) ?_
  refine And.intro (k_lald (pc := 89) (by decide +kernel : decode cX12_comesBy 89 = .ok (.laload, 1))) ?_
  refine And.intro (k_crS (n := 4) (pc := 90) hG (zRoom_self 1) ini_X12 sta_X12_isLess mk_X12_188 dy_X12_isLess (by decide +kernel : decode cX12_comesBy 90 = .ok (.invokestatic 188, 3))) ?_
  refine And.intro (k_if_ne (pc := 93) (by decide +kernel : decode cX12_comesBy 93 = .ok (.ifCond .ne 39, 3)) (by decide)) ?_
  refine And.intro (k_aload_n (pc := 96) (by decide +kernel : decode cX12_comesBy 96 = .ok (.aload_n 0, 1)) rfl) ?_
  refine And.intro (k_gR (pc := 97) rfl (by decide) rfl zin12 lk_X12_37 (by decide +kernel : decode cX12_comesBy 97 = .ok (.getfield 37, 3))) ?_
  refine And.intro (k_iconst (pc := 100) (by decide +kernel : decode cX12_comesBy 100 = .ok (.iconst 2, 1)) (by decide)) ?_
  refine And.intro (k_iload (pc := 101) (by decide +kernel : decode cX12_comesBy 101 = .ok (.iload 10, 2))) ?_
  refine And.intro (k_imul (pc := 103) (by decide +kernel : decode cX12_comesBy 103 = .ok (.imul, 1))) ?_
  refine And.intro (k_lald (pc := 104) (by decide +kernel : decode cX12_comesBy 104 = .ok (.laload, 1))) ?_
  refine And.intro (k_aload_n (pc := 105) (by decide +kernel : decode cX12_comesBy 105 = .ok (.aload_n 0, 1)) rfl) ?_
  refine And.intro (k_gR (pc := 106) rfl (by decide) rfl zin12 lk_X12_37 (by decide +kernel : decode cX12_comesBy 106 = .ok (.getfield 37, 3))) ?_
  refine And.intro (k_iconst (pc := 109) (by decide +kernel : decode cX12_comesBy 109 = .ok (.iconst 2, 1)) (by decide)) ?_
  refine And.intro (k_iload (pc := 110) (by decide +kernel : decode cX12_comesBy 110 = .ok (.iload 10, 2))) ?_
  refine And.intro (k_imul (pc := 112) (by decide +kernel : decode cX12_comesBy 112 = .ok (.imul, 1))) ?_
  refine And.intro (k_iconst (pc := 113) (by decide +kernel : decode cX12_comesBy 113 = .ok (.iconst 1, 1)) (by decide)) ?_
  refine And.intro (k_iadd (pc := 114) (by decide +kernel : decode cX12_comesBy 114 = .ok (.iadd, 1))) ?_
  refine And.intro (k_lald (pc := 115) (by decide +kernel : decode cX12_comesBy 115 = .ok (.laload, 1))) ?_
  refine And.intro (k_iload (pc := 116) (by decide +kernel : decode cX12_comesBy 116 = .ok (.iload 7, 2))) ?_
  refine And.intro (k_i2l (pc := 118) (by decide +kernel : decode cX12_comesBy 118 = .ok (.i2l, 1))) ?_
  refine And.intro (k_iload (pc := 119) (by decide +kernel : decode cX12_comesBy 119 = .ok (.iload 5, 2))) ?_
  refine And.intro (k_i2l (pc := 121) (by decide +kernel : decode cX12_comesBy 121 = .ok (.i2l, 1))) ?_
  refine And.intro (k_crS (n := 4) (pc := 122) hG (zRoom_self 1) ini_X12 sta_X12_isLess mk_X12_188 dy_X12_isLess (by decide +kernel : decode cX12_comesBy 122 = .ok (.invokestatic 188, 3))) ?_
  refine And.intro (k_if_ne (pc := 125) (by decide +kernel : decode cX12_comesBy 125 = .ok (.ifCond .ne 7, 3)) (by decide)) ?_
  refine And.intro (k_iconst (pc := 128) (by decide +kernel : decode cX12_comesBy 128 = .ok (.iconst 1, 1)) (by decide)) ?_
  refine And.intro (k_goto (pc := 129) (by decide +kernel : decode cX12_comesBy 129 = .ok (.goto 4, 3)) (by decide)) ?_
  refine And.intro (k_iconst (pc := 132) (by decide +kernel : decode cX12_comesBy 132 = .ok (.iconst 0, 1)) (by decide)) ?_
  refine And.intro (k_zreturn (pc := 133) rfl (by decide +kernel : decode cX12_comesBy 133 = .ok (.ireturn, 1))) ?_
  refine And.intro (k_aload_n (pc := 134) (by decide +kernel : decode cX12_comesBy 134 = .ok (.aload_n 0, 1)) rfl) ?_
  refine And.intro (k_gR (pc := 135) rfl (by decide) rfl zin12 lk_X12_30 (by decide +kernel : decode cX12_comesBy 135 = .ok (.getfield 30, 3))) ?_
  refine And.intro (k_iload (pc := 138) (by decide +kernel : decode cX12_comesBy 138 = .ok (.iload 10, 2))) ?_
  refine And.intro (k_iconst (pc := 140) (by decide +kernel : decode cX12_comesBy 140 = .ok (.iconst 1, 1)) (by decide)) ?_
  refine And.intro (k_iadd (pc := 141) (by decide +kernel : decode cX12_comesBy 141 = .ok (.iadd, 1))) ?_
  refine And.intro (k_zald (pc := 142) (by decide +kernel : decode cX12_comesBy 142 = .ok (.baload, 1))) ?_
  refine And.intro (k_if_ne (pc := 143) (by decide +kernel : decode cX12_comesBy 143 = .ok (.ifCond .ne 5, 3)) (by decide)) ?_
  refine And.intro (k_iconst (pc := 146) (by decide +kernel : decode cX12_comesBy 146 = .ok (.iconst 0, 1)) (by decide)) ?_
  refine And.intro (k_zreturn (pc := 147) rfl (by decide +kernel : decode cX12_comesBy 147 = .ok (.ireturn, 1))) ?_
  refine And.intro (k_aload_n (pc := 148) (by decide +kernel : decode cX12_comesBy 148 = .ok (.aload_n 0, 1)) rfl) ?_
  refine And.intro (k_gR (pc := 149) rfl (by decide) rfl zin12 lk_X12_34 (by decide +kernel : decode cX12_comesBy 149 = .ok (.getfield 34, 3))) ?_
  refine And.intro (k_iload (pc := 152) (by decide +kernel : decode cX12_comesBy 152 = .ok (.iload 10, 2))) ?_
  refine And.intro (k_iload (pc := 154) (by decide +kernel : decode cX12_comesBy 154 = .ok (.iload 9, 2))) ?_
  refine And.intro (k_iload (pc := 156) (by decide +kernel : decode cX12_comesBy 156 = .ok (.iload 7, 2))) ?_
  refine And.intro (k_iload (pc := 158) (by decide +kernel : decode cX12_comesBy 158 = .ok (.iload 5, 2))) ?_
  refine And.intro (k_crS (n := 5) (pc := 160) hG (zRoom_self 1) ini_X12 sta_X12_isBetween mk_X12_253 dy_X12_isBetween (by decide +kernel : decode cX12_comesBy 160 = .ok (.invokestatic 253, 3))) ?_
  refine And.intro (k_if_lt (pc := 163) (by decide +kernel : decode cX12_comesBy 163 = .ok (.ifCond .lt 25, 3)) (by decide)) ?_
  refine And.intro (k_aload_n (pc := 166) (by decide +kernel : decode cX12_comesBy 166 = .ok (.aload_n 0, 1)) rfl) ?_
  refine And.intro (k_gR (pc := 167) rfl (by decide) rfl zin12 lk_X12_37 (by decide +kernel : decode cX12_comesBy 167 = .ok (.getfield 37, 3))) ?_
  refine And.intro (k_iload (pc := 170) (by decide +kernel : decode cX12_comesBy 170 = .ok (.iload 10, 2))) ?_
  refine And.intro (k_iload (pc := 172) (by decide +kernel : decode cX12_comesBy 172 = .ok (.iload 9, 2))) ?_
  refine And.intro (k_iload (pc := 174) (by decide +kernel : decode cX12_comesBy 174 = .ok (.iload 7, 2))) ?_
  refine And.intro (k_iload (pc := 176) (by decide +kernel : decode cX12_comesBy 176 = .ok (.iload 5, 2))) ?_
  refine And.intro (k_crS (n := 5) (pc := 178) hG (zRoom_self 1) ini_X12 sta_X12_isBetween mk_X12_253 dy_X12_isBetween (by decide +kernel : decode cX12_comesBy 178 = .ok (.invokestatic 253, 3))) ?_
  refine And.intro (k_if_gt (pc := 181) (by decide +kernel : decode cX12_comesBy 181 = .ok (.ifCond .gt 7, 3)) (by decide)) ?_
  refine And.intro (k_iconst (pc := 184) (by decide +kernel : decode cX12_comesBy 184 = .ok (.iconst 1, 1)) (by decide)) ?_
  refine And.intro (k_goto (pc := 185) (by decide +kernel : decode cX12_comesBy 185 = .ok (.goto 4, 3)) (by decide)) ?_
  refine And.intro (k_iconst (pc := 188) (by decide +kernel : decode cX12_comesBy 188 = .ok (.iconst 0, 1)) (by decide)) ?_
  refine And.intro (k_zreturn (pc := 189) rfl (by decide +kernel : decode cX12_comesBy 189 = .ok (.ireturn, 1))) ?_
  exact trivial
theorem cdX12_comesBy : Cond.code yX12_comesBy cX12_comesBy 11 (some .boolean) ∈ zWs := zWs_in 1426 (by decide +kernel) rfl
noncomputable def pgX12_isIn : zPg := [(0, o_il 1), (1, o_if_le 40), (4, o_al 0), (5, o_il 1), (6, o_ic (1)), (7, o_isub), (8, o_ic (0)), (9, o_il 2), (10, o_il 3), (11, o_il 4), (13, o_vr2 yX12_comesBy 12 6), (16, o_if_eq 38), (19, o_al 0), (20, o_il 1), (21, o_ic (1)), (22, o_isub), (23, o_ic (1)), (24, o_il 2), (25, o_il 3), (26, o_il 4), (28, o_vr2 yX12_comesBy 12 6), (31, o_if_eq 38), (34, o_ic (1)), (35, o_go 39), (38, o_ic (0)), (39, o_zr), (40, o_ic (0)), (41, o_is 5), (43, o_il 5), (45, o_al 0), (46, o_vr2 yX12_lines 12 1), (49, o_ic_ge 92), (52, o_al 0), (53, o_il 5), (55, o_ic (0)), (56, o_vr2 yX12_of 12 3), (59, o_il 2), (60, o_imul), (61, o_al 0), (62, o_il 5), (64, o_ic (1)), (65, o_vr2 yX12_of 12 3), (68, o_il 3), (69, o_imul), (70, o_iadd), (71, o_al 0), (72, o_il 5), (74, o_ic (2)), (75, o_vr2 yX12_of 12 3), (78, o_il 4), (80, o_imul), (81, o_ic_le 86), (84, o_ic (0)), (85, o_zr), (86, o_inc 5 (1)), (89, o_go 43), (92, o_ic (1)), (93, o_zr)]
set_option maxRecDepth 20000 in
theorem pkX12_isIn {G : zG} (hG : zGok G) (Q : zRt) : zPOK G (zRm 2) RX12 cX12_isIn 6 (some .boolean) (zF G Q 0 0) 0 0 (zCalls G 2) Q pgX12_isIn := by
  refine And.intro (k_iload_n (pc := 0) (by decide +kernel : decode cX12_isIn 0 = .ok (.iload_n 1, 1)) rfl) ?_
  refine And.intro (k_if_le (pc := 1) (by decide +kernel : decode cX12_isIn 1 = .ok (.ifCond .le 39, 3)) (by decide)) ?_
  refine And.intro (k_aload_n (pc := 4) (by decide +kernel : decode cX12_isIn 4 = .ok (.aload_n 0, 1)) rfl) ?_
  refine And.intro (k_iload_n (pc := 5) (by decide +kernel : decode cX12_isIn 5 = .ok (.iload_n 1, 1)) rfl) ?_
  refine And.intro (k_iconst (pc := 6) (by decide +kernel : decode cX12_isIn 6 = .ok (.iconst 1, 1)) (by decide)) ?_
  refine And.intro (k_isub (pc := 7) (by decide +kernel : decode cX12_isIn 7 = .ok (.isub, 1))) ?_
  refine And.intro (k_iconst (pc := 8) (by decide +kernel : decode cX12_isIn 8 = .ok (.iconst 0, 1)) (by decide)) ?_
  refine And.intro (k_iload_n (pc := 9) (by decide +kernel : decode cX12_isIn 9 = .ok (.iload_n 2, 1)) rfl) ?_
  refine And.intro (k_iload_n (pc := 10) (by decide +kernel : decode cX12_isIn 10 = .ok (.iload_n 3, 1)) rfl) ?_
  refine And.intro (k_iload (pc := 11) (by decide +kernel : decode cX12_isIn 11 = .ok (.iload 4, 2))) ?_
  refine And.intro (k_crV (n := 5) (pc := 13) hG (zRoom_self 2) (tag := 12) rfl ini_X12 im_X12_comesBy se_X12_comesBy mk_X12_257 dy_X12_comesBy (by decide +kernel : decode cX12_isIn 13 = .ok (.invokevirtual 257, 3))) ?_
  refine And.intro (k_if_eq (pc := 16) (by decide +kernel : decode cX12_isIn 16 = .ok (.ifCond .eq 22, 3)) (by decide)) ?_
  refine And.intro (k_aload_n (pc := 19) (by decide +kernel : decode cX12_isIn 19 = .ok (.aload_n 0, 1)) rfl) ?_
  refine And.intro (k_iload_n (pc := 20) (by decide +kernel : decode cX12_isIn 20 = .ok (.iload_n 1, 1)) rfl) ?_
  refine And.intro (k_iconst (pc := 21) (by decide +kernel : decode cX12_isIn 21 = .ok (.iconst 1, 1)) (by decide)) ?_
  refine And.intro (k_isub (pc := 22) (by decide +kernel : decode cX12_isIn 22 = .ok (.isub, 1))) ?_
  refine And.intro (k_iconst (pc := 23) (by decide +kernel : decode cX12_isIn 23 = .ok (.iconst 1, 1)) (by decide)) ?_
  refine And.intro (k_iload_n (pc := 24) (by decide +kernel : decode cX12_isIn 24 = .ok (.iload_n 2, 1)) rfl) ?_
  refine And.intro (k_iload_n (pc := 25) (by decide +kernel : decode cX12_isIn 25 = .ok (.iload_n 3, 1)) rfl) ?_
  refine And.intro (k_iload (pc := 26) (by decide +kernel : decode cX12_isIn 26 = .ok (.iload 4, 2))) ?_
  refine And.intro (k_crV (n := 5) (pc := 28) hG (zRoom_self 2) (tag := 12) rfl ini_X12 im_X12_comesBy se_X12_comesBy mk_X12_257 dy_X12_comesBy (by decide +kernel : decode cX12_isIn 28 = .ok (.invokevirtual 257, 3))) ?_
  refine And.intro (k_if_eq (pc := 31) (by decide +kernel : decode cX12_isIn 31 = .ok (.ifCond .eq 7, 3)) (by decide)) ?_
  refine And.intro (k_iconst (pc := 34) (by decide +kernel : decode cX12_isIn 34 = .ok (.iconst 1, 1)) (by decide)) ?_
  refine And.intro (k_goto (pc := 35) (by decide +kernel : decode cX12_isIn 35 = .ok (.goto 4, 3)) (by decide)) ?_
  refine And.intro (k_iconst (pc := 38) (by decide +kernel : decode cX12_isIn 38 = .ok (.iconst 0, 1)) (by decide)) ?_
  refine And.intro (k_zreturn (pc := 39) rfl (by decide +kernel : decode cX12_isIn 39 = .ok (.ireturn, 1))) ?_
  refine And.intro (k_iconst (pc := 40) (by decide +kernel : decode cX12_isIn 40 = .ok (.iconst 0, 1)) (by decide)) ?_
  refine And.intro (k_istore (pc := 41) (by decide +kernel : decode cX12_isIn 41 = .ok (.istore 5, 2))) ?_
  refine And.intro (k_iload (pc := 43) (by decide +kernel : decode cX12_isIn 43 = .ok (.iload 5, 2))) ?_
  refine And.intro (k_aload_n (pc := 45) (by decide +kernel : decode cX12_isIn 45 = .ok (.aload_n 0, 1)) rfl) ?_
  refine And.intro (k_crV (n := 0) (pc := 46) hG (zRoom_self 2) (tag := 12) rfl ini_X12 im_X12_lines se_X12_lines mk_X12_142 dy_X12_lines (by decide +kernel : decode cX12_isIn 46 = .ok (.invokevirtual 142, 3))) ?_
  refine And.intro (k_icmp_ge (pc := 49) (by decide +kernel : decode cX12_isIn 49 = .ok (.if_icmp .ge 43, 3)) (by decide)) ?_
  refine And.intro (k_aload_n (pc := 52) (by decide +kernel : decode cX12_isIn 52 = .ok (.aload_n 0, 1)) rfl) ?_
  refine And.intro (k_iload (pc := 53) (by decide +kernel : decode cX12_isIn 53 = .ok (.iload 5, 2))) ?_
  refine And.intro (k_iconst (pc := 55) (by decide +kernel : decode cX12_isIn 55 = .ok (.iconst 0, 1)) (by decide)) ?_
  refine And.intro (k_crV (n := 2) (pc := 56) hG (zRoom_self 2) (tag := 12) rfl ini_X12 im_X12_of se_X12_of mk_X12_145 dy_X12_of (by decide +kernel : decode cX12_isIn 56 = .ok (.invokevirtual 145, 3))) ?_
  refine And.intro (k_iload_n (pc := 59) (by decide +kernel : decode cX12_isIn 59 = .ok (.iload_n 2, 1)) rfl) ?_
  refine And.intro (k_imul (pc := 60) (by decide +kernel : decode cX12_isIn 60 = .ok (.imul, 1))) ?_
  refine And.intro (k_aload_n (pc := 61) (by decide +kernel : decode cX12_isIn 61 = .ok (.aload_n 0, 1)) rfl) ?_
  refine And.intro (k_iload (pc := 62) (by decide +kernel : decode cX12_isIn 62 = .ok (.iload 5, 2))) ?_
  refine And.intro (k_iconst (pc := 64) (by decide +kernel : decode cX12_isIn 64 = .ok (.iconst 1, 1)) (by decide)) ?_
  refine And.intro (k_crV (n := 2) (pc := 65) hG (zRoom_self 2) (tag := 12) rfl ini_X12 im_X12_of se_X12_of mk_X12_145 dy_X12_of (by decide +kernel : decode cX12_isIn 65 = .ok (.invokevirtual 145, 3))) ?_
  refine And.intro (k_iload_n (pc := 68) (by decide +kernel : decode cX12_isIn 68 = .ok (.iload_n 3, 1)) rfl) ?_
  refine And.intro (k_imul (pc := 69) (by decide +kernel : decode cX12_isIn 69 = .ok (.imul, 1))) ?_
  refine And.intro (k_iadd (pc := 70) (by decide +kernel : decode cX12_isIn 70 = .ok (.iadd, 1))) ?_
  refine And.intro (k_aload_n (pc := 71) (by decide +kernel : decode cX12_isIn 71 = .ok (.aload_n 0, 1)) rfl) ?_
  refine And.intro (k_iload (pc := 72) (by decide +kernel : decode cX12_isIn 72 = .ok (.iload 5, 2))) ?_
  refine And.intro (k_iconst (pc := 74) (by decide +kernel : decode cX12_isIn 74 = .ok (.iconst 2, 1)) (by decide)) ?_
  refine And.intro (k_crV (n := 2) (pc := 75) hG (zRoom_self 2) (tag := 12) rfl ini_X12 im_X12_of se_X12_of mk_X12_145 dy_X12_of (by decide +kernel : decode cX12_isIn 75 = .ok (.invokevirtual 145, 3))) ?_
  refine And.intro (k_iload (pc := 78) (by decide +kernel : decode cX12_isIn 78 = .ok (.iload 4, 2))) ?_
  refine And.intro (k_imul (pc := 80) (by decide +kernel : decode cX12_isIn 80 = .ok (.imul, 1))) ?_
  refine And.intro (k_icmp_le (pc := 81) (by decide +kernel : decode cX12_isIn 81 = .ok (.if_icmp .le 5, 3)) (by decide)) ?_
  refine And.intro (k_iconst (pc := 84) (by decide +kernel : decode cX12_isIn 84 = .ok (.iconst 0, 1)) (by decide)) ?_
  refine And.intro (k_zreturn (pc := 85) rfl (by decide +kernel : decode cX12_isIn 85 = .ok (.ireturn, 1))) ?_
  refine And.intro (k_iinc (pc := 86) (by decide +kernel : decode cX12_isIn 86 = .ok (.iinc 5 1, 3)) (by decide)) ?_
  refine And.intro (k_goto (pc := 89) (by decide +kernel : decode cX12_isIn 89 = .ok (.goto (-46), 3)) (by decide)) ?_
  refine And.intro (k_iconst (pc := 92) (by decide +kernel : decode cX12_isIn 92 = .ok (.iconst 1, 1)) (by decide)) ?_
  refine And.intro (k_zreturn (pc := 93) rfl (by decide +kernel : decode cX12_isIn 93 = .ok (.ireturn, 1))) ?_
  exact trivial
theorem cdX12_isIn : Cond.code yX12_isIn cX12_isIn 6 (some .boolean) ∈ zWs := zWs_in 1422 (by decide +kernel) rfl
noncomputable def pgX12_inside : zPg := [(0, o_al 0), (1, o_ic (0)), (2, o_pI 12 5), (5, o_il 1), (6, o_ic (0)), (7, o_ic (3)), (8, o_cr yX12_in 3), (11, o_if_eq 24), (14, o_il 2), (15, o_il 3), (16, o_il 4), (18, o_cr yX12_isPoint 3), (21, o_if_ne 26), (24, o_ic (-1)), (25, o_ir), (26, o_al 0), (27, o_ic (2)), (28, o_vv yX12_lay 12 2), (31, o_al 0), (32, o_il 1), (33, o_il 2), (34, o_il 3), (35, o_il 4), (37, o_vr2 yX12_isIn 12 5), (40, o_if_eq 47), (43, o_ic (1)), (44, o_go 48), (47, o_ic (0)), (48, o_ir)]
set_option maxRecDepth 20000 in
theorem pkX12_inside {G : zG} (hG : zGok G) (Q : zRt) : zPOK G (zRm 7) RX12 cX12_inside 5 (some .int) (zF G Q 0 0) 0 0 (zCalls G 7) Q pgX12_inside := by
  refine And.intro (k_aload_n (pc := 0) (by decide +kernel : decode cX12_inside 0 = .ok (.aload_n 0, 1)) rfl) ?_
  refine And.intro (k_iconst (pc := 1) (by decide +kernel : decode cX12_inside 1 = .ok (.iconst 0, 1)) (by decide)) ?_
  refine And.intro (k_pI (pc := 2) rfl (by decide) rfl zin12 lk_X12_55 tyX12_ok nmX12 rfl (by decide +kernel) (by decide +kernel : decode cX12_inside 2 = .ok (.putfield 55, 3))) ?_
  refine And.intro (k_iload_n (pc := 5) (by decide +kernel : decode cX12_inside 5 = .ok (.iload_n 1, 1)) rfl) ?_
  refine And.intro (k_iconst (pc := 6) (by decide +kernel : decode cX12_inside 6 = .ok (.iconst 0, 1)) (by decide)) ?_
  refine And.intro (k_iconst (pc := 7) (by decide +kernel : decode cX12_inside 7 = .ok (.iconst 3, 1)) (by decide)) ?_
  refine And.intro (k_crS (n := 3) (pc := 8) hG (zRoom_self 7) ini_X12 sta_X12_in mk_X12_87 dy_X12_in (by decide +kernel : decode cX12_inside 8 = .ok (.invokestatic 87, 3))) ?_
  refine And.intro (k_if_eq (pc := 11) (by decide +kernel : decode cX12_inside 11 = .ok (.ifCond .eq 13, 3)) (by decide)) ?_
  refine And.intro (k_iload_n (pc := 14) (by decide +kernel : decode cX12_inside 14 = .ok (.iload_n 2, 1)) rfl) ?_
  refine And.intro (k_iload_n (pc := 15) (by decide +kernel : decode cX12_inside 15 = .ok (.iload_n 3, 1)) rfl) ?_
  refine And.intro (k_iload (pc := 16) (by decide +kernel : decode cX12_inside 16 = .ok (.iload 4, 2))) ?_
  refine And.intro (k_crS (n := 3) (pc := 18) hG (zRoom_self 7) ini_X12 sta_X12_isPoint mk_X12_261 dy_X12_isPoint (by decide +kernel : decode cX12_inside 18 = .ok (.invokestatic 261, 3))) ?_
  refine And.intro (k_if_ne (pc := 21) (by decide +kernel : decode cX12_inside 21 = .ok (.ifCond .ne 5, 3)) (by decide)) ?_
  refine And.intro (k_iconst (pc := 24) (by decide +kernel : decode cX12_inside 24 = .ok (.iconst (-1), 1)) (by decide)) ?_
  refine And.intro (k_ireturn (pc := 25) rfl (by decide +kernel : decode cX12_inside 25 = .ok (.ireturn, 1))) ?_
  refine And.intro (k_aload_n (pc := 26) (by decide +kernel : decode cX12_inside 26 = .ok (.aload_n 0, 1)) rfl) ?_
  refine And.intro (k_iconst (pc := 27) (by decide +kernel : decode cX12_inside 27 = .ok (.iconst 2, 1)) (by decide)) ?_
  refine And.intro (k_cvV (n := 1) (pc := 28) hG (zRoom_self 7) (tag := 12) rfl ini_X12 im_X12_lay se_X12_lay mk_X12_247 dy_X12_lay (by decide +kernel : decode cX12_inside 28 = .ok (.invokevirtual 247, 3))) ?_
  refine And.intro (k_aload_n (pc := 31) (by decide +kernel : decode cX12_inside 31 = .ok (.aload_n 0, 1)) rfl) ?_
  refine And.intro (k_iload_n (pc := 32) (by decide +kernel : decode cX12_inside 32 = .ok (.iload_n 1, 1)) rfl) ?_
  refine And.intro (k_iload_n (pc := 33) (by decide +kernel : decode cX12_inside 33 = .ok (.iload_n 2, 1)) rfl) ?_
  refine And.intro (k_iload_n (pc := 34) (by decide +kernel : decode cX12_inside 34 = .ok (.iload_n 3, 1)) rfl) ?_
  refine And.intro (k_iload (pc := 35) (by decide +kernel : decode cX12_inside 35 = .ok (.iload 4, 2))) ?_
  refine And.intro (k_crV (n := 4) (pc := 37) hG (zRoom_self 7) (tag := 12) rfl ini_X12 im_X12_isIn se_X12_isIn mk_X12_264 dy_X12_isIn (by decide +kernel : decode cX12_inside 37 = .ok (.invokevirtual 264, 3))) ?_
  refine And.intro (k_if_eq (pc := 40) (by decide +kernel : decode cX12_inside 40 = .ok (.ifCond .eq 7, 3)) (by decide)) ?_
  refine And.intro (k_iconst (pc := 43) (by decide +kernel : decode cX12_inside 43 = .ok (.iconst 1, 1)) (by decide)) ?_
  refine And.intro (k_goto (pc := 44) (by decide +kernel : decode cX12_inside 44 = .ok (.goto 4, 3)) (by decide)) ?_
  refine And.intro (k_iconst (pc := 47) (by decide +kernel : decode cX12_inside 47 = .ok (.iconst 0, 1)) (by decide)) ?_
  refine And.intro (k_ireturn (pc := 48) rfl (by decide +kernel : decode cX12_inside 48 = .ok (.ireturn, 1))) ?_
  exact trivial
theorem cdX12_inside : Cond.code yX12_inside cX12_inside 5 (some .int) ∈ zWs := zWs_in 1415 (by decide +kernel) rfl
noncomputable def pgX12_round : zPg := [(0, o_al 0), (1, o_ic (0)), (2, o_pI 12 5), (5, o_il 1), (6, o_il 2), (7, o_il 3), (8, o_cr yX12_isPoint 3), (11, o_if_ne 16), (14, o_ic (-1)), (15, o_ir), (16, o_al 0), (17, o_ic (2)), (18, o_vv yX12_lay 12 2), (21, o_ic (0)), (22, o_is 4), (24, o_il 4), (26, o_ic (3)), (27, o_ic_gt 51), (30, o_al 0), (31, o_il 4), (33, o_il 1), (34, o_il 2), (35, o_il 3), (36, o_vr2 yX12_isIn 12 5), (39, o_if_ne 45), (42, o_il 4), (44, o_ir), (45, o_inc 4 (1)), (48, o_go 24), (51, o_ic (-2)), (53, o_ir)]
set_option maxRecDepth 20000 in
theorem pkX12_round {G : zG} (hG : zGok G) (Q : zRt) : zPOK G (zRm 7) RX12 cX12_round 5 (some .int) (zF G Q 0 0) 0 0 (zCalls G 7) Q pgX12_round := by
  refine And.intro (k_aload_n (pc := 0) (by decide +kernel : decode cX12_round 0 = .ok (.aload_n 0, 1)) rfl) ?_
  refine And.intro (k_iconst (pc := 1) (by decide +kernel : decode cX12_round 1 = .ok (.iconst 0, 1)) (by decide)) ?_
  refine And.intro (k_pI (pc := 2) rfl (by decide) rfl zin12 lk_X12_55 tyX12_ok nmX12 rfl (by decide +kernel) (by decide +kernel : decode cX12_round 2 = .ok (.putfield 55, 3))) ?_
  refine And.intro (k_iload_n (pc := 5) (by decide +kernel : decode cX12_round 5 = .ok (.iload_n 1, 1)) rfl) ?_
  refine And.intro (k_iload_n (pc := 6) (by decide +kernel : decode cX12_round 6 = .ok (.iload_n 2, 1)) rfl) ?_
  refine And.intro (k_iload_n (pc := 7) (by decide +kernel : decode cX12_round 7 = .ok (.iload_n 3, 1)) rfl) ?_
  refine And.intro (k_crS (n := 3) (pc := 8) hG (zRoom_self 7) ini_X12 sta_X12_isPoint mk_X12_261 dy_X12_isPoint (by decide +kernel : decode cX12_round 8 = .ok (.invokestatic 261, 3))) ?_
  refine And.intro (k_if_ne (pc := 11) (by decide +kernel : decode cX12_round 11 = .ok (.ifCond .ne 5, 3)) (by decide)) ?_
  refine And.intro (k_iconst (pc := 14) (by decide +kernel : decode cX12_round 14 = .ok (.iconst (-1), 1)) (by decide)) ?_
  refine And.intro (k_ireturn (pc := 15) rfl (by decide +kernel : decode cX12_round 15 = .ok (.ireturn, 1))) ?_
  refine And.intro (k_aload_n (pc := 16) (by decide +kernel : decode cX12_round 16 = .ok (.aload_n 0, 1)) rfl) ?_
  refine And.intro (k_iconst (pc := 17) (by decide +kernel : decode cX12_round 17 = .ok (.iconst 2, 1)) (by decide)) ?_
  refine And.intro (k_cvV (n := 1) (pc := 18) hG (zRoom_self 7) (tag := 12) rfl ini_X12 im_X12_lay se_X12_lay mk_X12_247 dy_X12_lay (by decide +kernel : decode cX12_round 18 = .ok (.invokevirtual 247, 3))) ?_
  refine And.intro (k_iconst (pc := 21) (by decide +kernel : decode cX12_round 21 = .ok (.iconst 0, 1)) (by decide)) ?_
  refine And.intro (k_istore (pc := 22) (by decide +kernel : decode cX12_round 22 = .ok (.istore 4, 2))) ?_
  refine And.intro (k_iload (pc := 24) (by decide +kernel : decode cX12_round 24 = .ok (.iload 4, 2))) ?_
  refine And.intro (k_iconst (pc := 26) (by decide +kernel : decode cX12_round 26 = .ok (.iconst 3, 1)) (by decide)) ?_
  refine And.intro (k_icmp_gt (pc := 27) (by decide +kernel : decode cX12_round 27 = .ok (.if_icmp .gt 24, 3)) (by decide)) ?_
  refine And.intro (k_aload_n (pc := 30) (by decide +kernel : decode cX12_round 30 = .ok (.aload_n 0, 1)) rfl) ?_
  refine And.intro (k_iload (pc := 31) (by decide +kernel : decode cX12_round 31 = .ok (.iload 4, 2))) ?_
  refine And.intro (k_iload_n (pc := 33) (by decide +kernel : decode cX12_round 33 = .ok (.iload_n 1, 1)) rfl) ?_
  refine And.intro (k_iload_n (pc := 34) (by decide +kernel : decode cX12_round 34 = .ok (.iload_n 2, 1)) rfl) ?_
  refine And.intro (k_iload_n (pc := 35) (by decide +kernel : decode cX12_round 35 = .ok (.iload_n 3, 1)) rfl) ?_
  refine And.intro (k_crV (n := 4) (pc := 36) hG (zRoom_self 7) (tag := 12) rfl ini_X12 im_X12_isIn se_X12_isIn mk_X12_264 dy_X12_isIn (by decide +kernel : decode cX12_round 36 = .ok (.invokevirtual 264, 3))) ?_
  refine And.intro (k_if_ne (pc := 39) (by decide +kernel : decode cX12_round 39 = .ok (.ifCond .ne 6, 3)) (by decide)) ?_
  refine And.intro (k_iload (pc := 42) (by decide +kernel : decode cX12_round 42 = .ok (.iload 4, 2))) ?_
  refine And.intro (k_ireturn (pc := 44) rfl (by decide +kernel : decode cX12_round 44 = .ok (.ireturn, 1))) ?_
  refine And.intro (k_iinc (pc := 45) (by decide +kernel : decode cX12_round 45 = .ok (.iinc 4 1, 3)) (by decide)) ?_
  refine And.intro (k_goto (pc := 48) (by decide +kernel : decode cX12_round 48 = .ok (.goto (-24), 3)) (by decide)) ?_
  refine And.intro (k_bipush (pc := 51) (by decide +kernel : decode cX12_round 51 = .ok (.bipush (-2), 2)) (by decide)) ?_
  refine And.intro (k_ireturn (pc := 53) rfl (by decide +kernel : decode cX12_round 53 = .ok (.ireturn, 1))) ?_
  exact trivial
theorem cdX12_round : Cond.code yX12_round cX12_round 5 (some .int) ∈ zWs := zWs_in 1433 (by decide +kernel) rfl
noncomputable def pgX12_splits : zPg := [(0, o_al 0), (1, o_ic (0)), (2, o_pI 12 5), (5, o_il 1), (6, o_ic (0)), (7, o_ic (2)), (8, o_cr yX12_in 3), (11, o_if_eq 24), (14, o_il 2), (15, o_il 3), (16, o_il 4), (18, o_cr yX12_isPoint 3), (21, o_if_ne 26), (24, o_ic (-1)), (25, o_ir), (26, o_al 0), (27, o_ic (2)), (28, o_vv yX12_lay 12 2), (31, o_al 0), (32, o_il 1), (33, o_il 2), (34, o_il 3), (35, o_il 4), (37, o_vr2 yX12_isIn 12 5), (40, o_if_ne 46), (43, o_ic (-2)), (45, o_ir), (46, o_al 0), (47, o_il 1), (48, o_ic (0)), (49, o_il 2), (50, o_il 3), (51, o_il 4), (53, o_vr2 yX12_comesBy 12 6), (56, o_if_eq 63), (59, o_ic (0)), (60, o_go 64), (63, o_ic (1)), (64, o_is 5), (66, o_al 0), (67, o_il 1), (68, o_ic (1)), (69, o_il 2), (70, o_il 3), (71, o_il 4), (73, o_vr2 yX12_comesBy 12 6), (76, o_if_eq 83), (79, o_ic (0)), (80, o_go 84), (83, o_ic (1)), (84, o_is 6), (86, o_al 0), (87, o_ic (0)), (88, o_pI 12 4), (91, o_al 0), (92, o_il 5), (94, o_i2l), (95, o_vv yX12_tell 12 2), (98, o_al 0), (99, o_il 6), (101, o_i2l), (102, o_vv yX12_tell 12 2), (105, o_il 5), (107, o_il 6), (109, o_iadd), (110, o_ir)]
set_option maxRecDepth 20000 in
theorem pkX12_splits {G : zG} (hG : zGok G) (Q : zRt) : zPOK G (zRm 7) RX12 cX12_splits 7 (some .int) (zF G Q 0 0) 0 0 (zCalls G 7) Q pgX12_splits := by
  refine And.intro (k_aload_n (pc := 0) (by decide +kernel : decode cX12_splits 0 = .ok (.aload_n 0, 1)) rfl) ?_
  refine And.intro (k_iconst (pc := 1) (by decide +kernel : decode cX12_splits 1 = .ok (.iconst 0, 1)) (by decide)) ?_
  refine And.intro (k_pI (pc := 2) rfl (by decide) rfl zin12 lk_X12_55 tyX12_ok nmX12 rfl (by decide +kernel) (by decide +kernel : decode cX12_splits 2 = .ok (.putfield 55, 3))) ?_
  refine And.intro (k_iload_n (pc := 5) (by decide +kernel : decode cX12_splits 5 = .ok (.iload_n 1, 1)) rfl) ?_
  refine And.intro (k_iconst (pc := 6) (by decide +kernel : decode cX12_splits 6 = .ok (.iconst 0, 1)) (by decide)) ?_
  refine And.intro (k_iconst (pc := 7) (by decide +kernel : decode cX12_splits 7 = .ok (.iconst 2, 1)) (by decide)) ?_
  refine And.intro (k_crS (n := 3) (pc := 8) hG (zRoom_self 7) ini_X12 sta_X12_in mk_X12_87 dy_X12_in (by decide +kernel : decode cX12_splits 8 = .ok (.invokestatic 87, 3))) ?_
  refine And.intro (k_if_eq (pc := 11) (by decide +kernel : decode cX12_splits 11 = .ok (.ifCond .eq 13, 3)) (by decide)) ?_
  refine And.intro (k_iload_n (pc := 14) (by decide +kernel : decode cX12_splits 14 = .ok (.iload_n 2, 1)) rfl) ?_
  refine And.intro (k_iload_n (pc := 15) (by decide +kernel : decode cX12_splits 15 = .ok (.iload_n 3, 1)) rfl) ?_
  refine And.intro (k_iload (pc := 16) (by decide +kernel : decode cX12_splits 16 = .ok (.iload 4, 2))) ?_
  refine And.intro (k_crS (n := 3) (pc := 18) hG (zRoom_self 7) ini_X12 sta_X12_isPoint mk_X12_261 dy_X12_isPoint (by decide +kernel : decode cX12_splits 18 = .ok (.invokestatic 261, 3))) ?_
  refine And.intro (k_if_ne (pc := 21) (by decide +kernel : decode cX12_splits 21 = .ok (.ifCond .ne 5, 3)) (by decide)) ?_
  refine And.intro (k_iconst (pc := 24) (by decide +kernel : decode cX12_splits 24 = .ok (.iconst (-1), 1)) (by decide)) ?_
  refine And.intro (k_ireturn (pc := 25) rfl (by decide +kernel : decode cX12_splits 25 = .ok (.ireturn, 1))) ?_
  refine And.intro (k_aload_n (pc := 26) (by decide +kernel : decode cX12_splits 26 = .ok (.aload_n 0, 1)) rfl) ?_
  refine And.intro (k_iconst (pc := 27) (by decide +kernel : decode cX12_splits 27 = .ok (.iconst 2, 1)) (by decide)) ?_
  refine And.intro (k_cvV (n := 1) (pc := 28) hG (zRoom_self 7) (tag := 12) rfl ini_X12 im_X12_lay se_X12_lay mk_X12_247 dy_X12_lay (by decide +kernel : decode cX12_splits 28 = .ok (.invokevirtual 247, 3))) ?_
  refine And.intro (k_aload_n (pc := 31) (by decide +kernel : decode cX12_splits 31 = .ok (.aload_n 0, 1)) rfl) ?_
  refine And.intro (k_iload_n (pc := 32) (by decide +kernel : decode cX12_splits 32 = .ok (.iload_n 1, 1)) rfl) ?_
  refine And.intro (k_iload_n (pc := 33) (by decide +kernel : decode cX12_splits 33 = .ok (.iload_n 2, 1)) rfl) ?_
  refine And.intro (k_iload_n (pc := 34) (by decide +kernel : decode cX12_splits 34 = .ok (.iload_n 3, 1)) rfl) ?_
  refine And.intro (k_iload (pc := 35) (by decide +kernel : decode cX12_splits 35 = .ok (.iload 4, 2))) ?_
  refine And.intro (k_crV (n := 4) (pc := 37) hG (zRoom_self 7) (tag := 12) rfl ini_X12 im_X12_isIn se_X12_isIn mk_X12_264 dy_X12_isIn (by decide +kernel : decode cX12_splits 37 = .ok (.invokevirtual 264, 3))) ?_
  refine And.intro (k_if_ne (pc := 40) (by decide +kernel : decode cX12_splits 40 = .ok (.ifCond .ne 6, 3)) (by decide)) ?_
  refine And.intro (k_bipush (pc := 43) (by decide +kernel : decode cX12_splits 43 = .ok (.bipush (-2), 2)) (by decide)) ?_
  refine And.intro (k_ireturn (pc := 45) rfl (by decide +kernel : decode cX12_splits 45 = .ok (.ireturn, 1))) ?_
  refine And.intro (k_aload_n (pc := 46) (by decide +kernel : decode cX12_splits 46 = .ok (.aload_n 0, 1)) rfl) ?_
  refine And.intro (k_iload_n (pc := 47) (by decide +kernel : decode cX12_splits 47 = .ok (.iload_n 1, 1)) rfl) ?_
  refine And.intro (k_iconst (pc := 48) (by decide +kernel : decode cX12_splits 48 = .ok (.iconst 0, 1)) (by decide)) ?_
  refine And.intro (k_iload_n (pc := 49) (by decide +kernel : decode cX12_splits 49 = .ok (.iload_n 2, 1)) rfl) ?_
  refine And.intro (k_iload_n (pc := 50) (by decide +kernel : decode cX12_splits 50 = .ok (.iload_n 3, 1)) rfl) ?_
  refine And.intro (k_iload (pc := 51) (by decide +kernel : decode cX12_splits 51 = .ok (.iload 4, 2))) ?_
  refine And.intro (k_crV (n := 5) (pc := 53) hG (zRoom_self 7) (tag := 12) rfl ini_X12 im_X12_comesBy se_X12_comesBy mk_X12_257 dy_X12_comesBy (by decide +kernel : decode cX12_splits 53 = .ok (.invokevirtual 257, 3))) ?_
  refine And.intro (k_if_eq (pc := 56) (by decide +kernel : decode cX12_splits 56 = .ok (.ifCond .eq 7, 3)) (by decide)) ?_
  refine And.intro (k_iconst (pc := 59) (by decide +kernel : decode cX12_splits 59 = .ok (.iconst 0, 1)) (by decide)) ?_
  refine And.intro (k_goto (pc := 60) (by decide +kernel : decode cX12_splits 60 = .ok (.goto 4, 3)) (by decide)) ?_
  refine And.intro (k_iconst (pc := 63) (by decide +kernel : decode cX12_splits 63 = .ok (.iconst 1, 1)) (by decide)) ?_
  refine And.intro (k_istore (pc := 64) (by decide +kernel : decode cX12_splits 64 = .ok (.istore 5, 2))) ?_
  refine And.intro (k_aload_n (pc := 66) (by decide +kernel : decode cX12_splits 66 = .ok (.aload_n 0, 1)) rfl) ?_
  refine And.intro (k_iload_n (pc := 67) (by decide +kernel : decode cX12_splits 67 = .ok (.iload_n 1, 1)) rfl) ?_
  refine And.intro (k_iconst (pc := 68) (by decide +kernel : decode cX12_splits 68 = .ok (.iconst 1, 1)) (by decide)) ?_
  refine And.intro (k_iload_n (pc := 69) (by decide +kernel : decode cX12_splits 69 = .ok (.iload_n 2, 1)) rfl) ?_
  refine And.intro (k_iload_n (pc := 70) (by decide +kernel : decode cX12_splits 70 = .ok (.iload_n 3, 1)) rfl) ?_
  refine And.intro (k_iload (pc := 71) (by decide +kernel : decode cX12_splits 71 = .ok (.iload 4, 2))) ?_
  refine And.intro (k_crV (n := 5) (pc := 73) hG (zRoom_self 7) (tag := 12) rfl ini_X12 im_X12_comesBy se_X12_comesBy mk_X12_257 dy_X12_comesBy (by decide +kernel : decode cX12_splits 73 = .ok (.invokevirtual 257, 3))) ?_
  refine And.intro (k_if_eq (pc := 76) (by decide +kernel : decode cX12_splits 76 = .ok (.ifCond .eq 7, 3)) (by decide)) ?_
  refine And.intro (k_iconst (pc := 79) (by decide +kernel : decode cX12_splits 79 = .ok (.iconst 0, 1)) (by decide)) ?_
  refine And.intro (k_goto (pc := 80) (by decide +kernel : decode cX12_splits 80 = .ok (.goto 4, 3)) (by decide)) ?_
  refine And.intro (k_iconst (pc := 83) (by decide +kernel : decode cX12_splits 83 = .ok (.iconst 1, 1)) (by decide)) ?_
  refine And.intro (k_istore (pc := 84) (by decide +kernel : decode cX12_splits 84 = .ok (.istore 6, 2))) ?_
  refine And.intro (k_aload_n (pc := 86) (by decide +kernel : decode cX12_splits 86 = .ok (.aload_n 0, 1)) rfl) ?_
  refine And.intro (k_iconst (pc := 87) (by decide +kernel : decode cX12_splits 87 = .ok (.iconst 0, 1)) (by decide)) ?_
  refine And.intro (k_pI (pc := 88) rfl (by decide) rfl zin12 lk_X12_59 tyX12_ok nmX12 rfl (by decide +kernel) (by decide +kernel : decode cX12_splits 88 = .ok (.putfield 59, 3))) ?_
  refine And.intro (k_aload_n (pc := 91) (by decide +kernel : decode cX12_splits 91 = .ok (.aload_n 0, 1)) rfl) ?_
  refine And.intro (k_iload (pc := 92) (by decide +kernel : decode cX12_splits 92 = .ok (.iload 5, 2))) ?_
  refine And.intro (k_i2l (pc := 94) (by decide +kernel : decode cX12_splits 94 = .ok (.i2l, 1))) ?_
  refine And.intro (k_cvV (n := 1) (pc := 95) hG (zRoom_self 7) (tag := 12) rfl ini_X12 im_X12_tell se_X12_tell mk_X12_80 dy_X12_tell (by decide +kernel : decode cX12_splits 95 = .ok (.invokevirtual 80, 3))) ?_
  refine And.intro (k_aload_n (pc := 98) (by decide +kernel : decode cX12_splits 98 = .ok (.aload_n 0, 1)) rfl) ?_
  refine And.intro (k_iload (pc := 99) (by decide +kernel : decode cX12_splits 99 = .ok (.iload 6, 2))) ?_
  refine And.intro (k_i2l (pc := 101) (by decide +kernel : decode cX12_splits 101 = .ok (.i2l, 1))) ?_
  refine And.intro (k_cvV (n := 1) (pc := 102) hG (zRoom_self 7) (tag := 12) rfl ini_X12 im_X12_tell se_X12_tell mk_X12_80 dy_X12_tell (by decide +kernel : decode cX12_splits 102 = .ok (.invokevirtual 80, 3))) ?_
  refine And.intro (k_iload (pc := 105) (by decide +kernel : decode cX12_splits 105 = .ok (.iload 5, 2))) ?_
  refine And.intro (k_iload (pc := 107) (by decide +kernel : decode cX12_splits 107 = .ok (.iload 6, 2))) ?_
  refine And.intro (k_iadd (pc := 109) (by decide +kernel : decode cX12_splits 109 = .ok (.iadd, 1))) ?_
  refine And.intro (k_ireturn (pc := 110) rfl (by decide +kernel : decode cX12_splits 110 = .ok (.ireturn, 1))) ?_
  exact trivial
theorem cdX12_splits : Cond.code yX12_splits cX12_splits 7 (some .int) ∈ zWs := zWs_in 1437 (by decide +kernel) rfl
noncomputable def pgX12_slices : zPg := [(0, o_al 0), (1, o_ic (0)), (2, o_pI 12 5), (5, o_il 1), (6, o_ic (0)), (7, o_ic (2)), (8, o_cr yX12_in 3), (11, o_if_ne 16), (14, o_ic (-1)), (15, o_ir), (16, o_al 0), (17, o_il 1), (18, o_vv yX12_lay 12 2), (21, o_ic (0)), (22, o_is 2), (23, o_ic (0)), (24, o_is 3), (25, o_lc 0), (26, o_ls 4), (28, o_lc 1), (29, o_ls 6), (31, o_ic (0)), (32, o_is 8), (34, o_il 8), (36, o_ic (7)), (38, o_ic_ge 210), (41, o_il 3), (42, o_al 0), (43, o_gR 12 15), (46, o_il 1), (47, o_ic (1)), (48, o_il 8), (50, o_cr yX12_sliceAt 3), (53, o_xI 16), (54, o_if_eq 61), (57, o_ic (1)), (58, o_go 62), (61, o_ic (0)), (62, o_iadd), (63, o_is 3), (64, o_il 1), (65, o_ic (0)), (66, o_il 8), (68, o_cr yX12_sliceAt 3), (71, o_is 9), (73, o_al 0), (74, o_gR 12 15), (77, o_il 9), (79, o_xI 16), (80, o_if_ne 86), (83, o_go 204), (86, o_inc 2 (1)), (89, o_il 1), (90, o_ic (2)), (91, o_ic_ne 97), (94, o_go 204), (97, o_al 0), (98, o_gR 12 17), (101, o_ic (2)), (102, o_il 9), (104, o_imul), (105, o_xJ), (106, o_al 0), (107, o_gR 12 16), (110, o_ic (2)), (111, o_il 9), (113, o_imul), (114, o_ic (1)), (115, o_iadd), (116, o_xJ), (117, o_lmul), (118, o_al 0), (119, o_gR 12 16), (122, o_ic (2)), (123, o_il 9), (125, o_imul), (126, o_xJ), (127, o_al 0), (128, o_gR 12 17), (131, o_ic (2)), (132, o_il 9), (134, o_imul), (135, o_ic (1)), (136, o_iadd), (137, o_xJ), (138, o_lmul), (139, o_lsub), (140, o_ls 10), (142, o_al 0), (143, o_gR 12 17), (146, o_ic (2)), (147, o_il 9), (149, o_imul), (150, o_ic (1)), (151, o_iadd), (152, o_xJ), (153, o_al 0), (154, o_gR 12 16), (157, o_ic (2)), (158, o_il 9), (160, o_imul), (161, o_ic (1)), (162, o_iadd), (163, o_xJ), (164, o_lmul), (165, o_ls 12), (167, o_ll 4), (169, o_ll 6), (171, o_ll 10), (173, o_ll 12), (175, o_cr yX12_isLess 4), (178, o_if_ne 184), (181, o_go 204), (184, o_al 0), (185, o_ll 10), (187, o_ll 12), (189, o_vv yX12_set 12 3), (192, o_al 0), (193, o_gJ 12 6), (196, o_ls 4), (198, o_al 0), (199, o_gJ 12 7), (202, o_ls 6), (204, o_inc 8 (1)), (207, o_go 34), (210, o_al 0), (211, o_ic (0)), (212, o_pI 12 4), (215, o_al 0), (216, o_il 2), (217, o_i2l), (218, o_vv yX12_tell 12 2), (221, o_al 0), (222, o_il 3), (223, o_i2l), (224, o_vv yX12_tell 12 2), (227, o_il 1), (228, o_ic (2)), (229, o_ic_ge 240), (232, o_al 0), (233, o_ll 4), (235, o_ll 6), (237, o_vv yX12_tellFraction 12 3), (240, o_il 2), (241, o_il 3), (242, o_iadd), (243, o_ir)]
set_option maxRecDepth 20000 in
theorem pkX12_slices {G : zG} (hG : zGok G) (Q : zRt) : zPOK G (zRm 7) RX12 cX12_slices 14 (some .int) (zF G Q 0 0) 0 0 (zCalls G 7) Q pgX12_slices := by
  refine And.intro (k_aload_n (pc := 0) (by decide +kernel : decode cX12_slices 0 = .ok (.aload_n 0, 1)) rfl) ?_
  refine And.intro (k_iconst (pc := 1) (by decide +kernel : decode cX12_slices 1 = .ok (.iconst 0, 1)) (by decide)) ?_
  refine And.intro (k_pI (pc := 2) rfl (by decide) rfl zin12 lk_X12_55 tyX12_ok nmX12 rfl (by decide +kernel) (by decide +kernel : decode cX12_slices 2 = .ok (.putfield 55, 3))) ?_
  refine And.intro (k_iload_n (pc := 5) (by decide +kernel : decode cX12_slices 5 = .ok (.iload_n 1, 1)) rfl) ?_
  refine And.intro (k_iconst (pc := 6) (by decide +kernel : decode cX12_slices 6 = .ok (.iconst 0, 1)) (by decide)) ?_
  refine And.intro (k_iconst (pc := 7) (by decide +kernel : decode cX12_slices 7 = .ok (.iconst 2, 1)) (by decide)) ?_
  refine And.intro (k_crS (n := 3) (pc := 8) hG (zRoom_self 7) ini_X12 sta_X12_in mk_X12_87 dy_X12_in (by decide +kernel : decode cX12_slices 8 = .ok (.invokestatic 87, 3))) ?_
  refine And.intro (k_if_ne (pc := 11) (by decide +kernel : decode cX12_slices 11 = .ok (.ifCond .ne 5, 3)) (by decide)) ?_
  refine And.intro (k_iconst (pc := 14) (by decide +kernel : decode cX12_slices 14 = .ok (.iconst (-1), 1)) (by decide)) ?_
  refine And.intro (k_ireturn (pc := 15) rfl (by decide +kernel : decode cX12_slices 15 = .ok (.ireturn, 1))) ?_
  refine And.intro (k_aload_n (pc := 16) (by decide +kernel : decode cX12_slices 16 = .ok (.aload_n 0, 1)) rfl) ?_
  refine And.intro (k_iload_n (pc := 17) (by decide +kernel : decode cX12_slices 17 = .ok (.iload_n 1, 1)) rfl) ?_
  refine And.intro (k_cvV (n := 1) (pc := 18) hG (zRoom_self 7) (tag := 12) rfl ini_X12 im_X12_lay se_X12_lay mk_X12_247 dy_X12_lay (by decide +kernel : decode cX12_slices 18 = .ok (.invokevirtual 247, 3))) ?_
  refine And.intro (k_iconst (pc := 21) (by decide +kernel : decode cX12_slices 21 = .ok (.iconst 0, 1)) (by decide)) ?_
  refine And.intro (k_istore_n (pc := 22) (by decide +kernel : decode cX12_slices 22 = .ok (.istore_n 2, 1)) rfl) ?_
  refine And.intro (k_iconst (pc := 23) (by decide +kernel : decode cX12_slices 23 = .ok (.iconst 0, 1)) (by decide)) ?_
  refine And.intro (k_istore_n (pc := 24) (by decide +kernel : decode cX12_slices 24 = .ok (.istore_n 3, 1)) rfl) ?_
  refine And.intro (k_lconst (pc := 25) (by decide +kernel : decode cX12_slices 25 = .ok (.lconst 0, 1)) (by decide)) ?_
  refine And.intro (k_lstore (pc := 26) (by decide +kernel : decode cX12_slices 26 = .ok (.lstore 4, 2))) ?_
  refine And.intro (k_lconst (pc := 28) (by decide +kernel : decode cX12_slices 28 = .ok (.lconst 1, 1)) (by decide)) ?_
  refine And.intro (k_lstore (pc := 29) (by decide +kernel : decode cX12_slices 29 = .ok (.lstore 6, 2))) ?_
  refine And.intro (k_iconst (pc := 31) (by decide +kernel : decode cX12_slices 31 = .ok (.iconst 0, 1)) (by decide)) ?_
  refine And.intro (k_istore (pc := 32) (by decide +kernel : decode cX12_slices 32 = .ok (.istore 8, 2))) ?_
  refine And.intro (k_iload (pc := 34) (by decide +kernel : decode cX12_slices 34 = .ok (.iload 8, 2))) ?_
  refine And.intro (k_bipush (pc := 36) (by decide +kernel : decode cX12_slices 36 = .ok (.bipush 7, 2)) (by decide)) ?_
  refine And.intro (k_icmp_ge (pc := 38) (by decide +kernel : decode cX12_slices 38 = .ok (.if_icmp .ge 172, 3)) (by decide)) ?_
  refine And.intro (k_iload_n (pc := 41) (by decide +kernel : decode cX12_slices 41 = .ok (.iload_n 3, 1)) rfl) ?_
  refine And.intro (k_aload_n (pc := 42) (by decide +kernel : decode cX12_slices 42 = .ok (.aload_n 0, 1)) rfl) ?_
  refine And.intro (k_gR (pc := 43) rfl (by decide) rfl zin12 lk_X12_30 (by decide +kernel : decode cX12_slices 43 = .ok (.getfield 30, 3))) ?_
  refine And.intro (k_iload_n (pc := 46) (by decide +kernel : decode cX12_slices 46 = .ok (.iload_n 1, 1)) rfl) ?_
  refine And.intro (k_iconst (pc := 47) (by decide +kernel : decode cX12_slices 47 = .ok (.iconst 1, 1)) (by decide)) ?_
  refine And.intro (k_iload (pc := 48) (by decide +kernel : decode cX12_slices 48 = .ok (.iload 8, 2))) ?_
  refine And.intro (k_crS (n := 3) (pc := 50) hG (zRoom_self 7) ini_X12 sta_X12_sliceAt mk_X12_208 dy_X12_sliceAt (by decide +kernel : decode cX12_slices 50 = .ok (.invokestatic 208, 3))) ?_
  refine And.intro (k_zald (pc := 53) (by decide +kernel : decode cX12_slices 53 = .ok (.baload, 1))) ?_
  refine And.intro (k_if_eq (pc := 54) (by decide +kernel : decode cX12_slices 54 = .ok (.ifCond .eq 7, 3)) (by decide)) ?_
  refine And.intro (k_iconst (pc := 57) (by decide +kernel : decode cX12_slices 57 = .ok (.iconst 1, 1)) (by decide)) ?_
  refine And.intro (k_goto (pc := 58) (by decide +kernel : decode cX12_slices 58 = .ok (.goto 4, 3)) (by decide)) ?_
  refine And.intro (k_iconst (pc := 61) (by decide +kernel : decode cX12_slices 61 = .ok (.iconst 0, 1)) (by decide)) ?_
  refine And.intro (k_iadd (pc := 62) (by decide +kernel : decode cX12_slices 62 = .ok (.iadd, 1))) ?_
  refine And.intro (k_istore_n (pc := 63) (by decide +kernel : decode cX12_slices 63 = .ok (.istore_n 3, 1)) rfl) ?_
  refine And.intro (k_iload_n (pc := 64) (by decide +kernel : decode cX12_slices 64 = .ok (.iload_n 1, 1)) rfl) ?_
  refine And.intro (k_iconst (pc := 65) (by decide +kernel : decode cX12_slices 65 = .ok (.iconst 0, 1)) (by decide)) ?_
  refine And.intro (k_iload (pc := 66) (by decide +kernel : decode cX12_slices 66 = .ok (.iload 8, 2))) ?_
  refine And.intro (k_crS (n := 3) (pc := 68) hG (zRoom_self 7) ini_X12 sta_X12_sliceAt mk_X12_208 dy_X12_sliceAt (by decide +kernel : decode cX12_slices 68 = .ok (.invokestatic 208, 3))) ?_
  refine And.intro (k_istore (pc := 71) (by decide +kernel : decode cX12_slices 71 = .ok (.istore 9, 2))) ?_
  refine And.intro (k_aload_n (pc := 73) (by decide +kernel : decode cX12_slices 73 = .ok (.aload_n 0, 1)) rfl) ?_
  refine And.intro (k_gR (pc := 74) rfl (by decide) rfl zin12 lk_X12_30 (by decide +kernel : decode cX12_slices 74 = .ok (.getfield 30, 3))) ?_
  refine And.intro (k_iload (pc := 77) (by decide +kernel : decode cX12_slices 77 = .ok (.iload 9, 2))) ?_
  refine And.intro (k_zald (pc := 79) (by decide +kernel : decode cX12_slices 79 = .ok (.baload, 1))) ?_
  refine And.intro (k_if_ne (pc := 80) (by decide +kernel : decode cX12_slices 80 = .ok (.ifCond .ne 6, 3)) (by decide)) ?_
  refine And.intro (k_goto (pc := 83) (by decide +kernel : decode cX12_slices 83 = .ok (.goto 121, 3)) (by decide)) ?_
  refine And.intro (k_iinc (pc := 86) (by decide +kernel : decode cX12_slices 86 = .ok (.iinc 2 1, 3)) (by decide)) ?_
  refine And.intro (k_iload_n (pc := 89) (by decide +kernel : decode cX12_slices 89 = .ok (.iload_n 1, 1)) rfl) ?_
  refine And.intro (k_iconst (pc := 90) (by decide +kernel : decode cX12_slices 90 = .ok (.iconst 2, 1)) (by decide)) ?_
  refine And.intro (k_icmp_ne (pc := 91) (by decide +kernel : decode cX12_slices 91 = .ok (.if_icmp .ne 6, 3)) (by decide)) ?_
  refine And.intro (k_goto (pc := 94) (by decide +kernel : decode cX12_slices 94 = .ok (.goto 110, 3)) (by decide)) ?_
  refine And.intro (k_aload_n (pc := 97) (by decide +kernel : decode cX12_slices 97 = .ok (.aload_n 0, 1)) rfl) ?_
  refine And.intro (k_gR (pc := 98) rfl (by decide) rfl zin12 lk_X12_37 (by decide +kernel : decode cX12_slices 98 = .ok (.getfield 37, 3))) ?_
  refine And.intro (k_iconst (pc := 101) (by decide +kernel : decode cX12_slices 101 = .ok (.iconst 2, 1)) (by decide)) ?_
  refine And.intro (k_iload (pc := 102) (by decide +kernel : decode cX12_slices 102 = .ok (.iload 9, 2))) ?_
  refine And.intro (k_imul (pc := 104) (by decide +kernel : decode cX12_slices 104 = .ok (.imul, 1))) ?_
  refine And.intro (k_lald (pc := 105) (by decide +kernel : decode cX12_slices 105 = .ok (.laload, 1))) ?_
  refine And.intro (k_aload_n (pc := 106) (by decide +kernel : decode cX12_slices 106 = .ok (.aload_n 0, 1)) rfl) ?_
  refine And.intro (k_gR (pc := 107) rfl (by decide) rfl zin12 lk_X12_34 (by decide +kernel : decode cX12_slices 107 = .ok (.getfield 34, 3))) ?_
  refine And.intro (k_iconst (pc := 110) (by decide +kernel : decode cX12_slices 110 = .ok (.iconst 2, 1)) (by decide)) ?_
  refine And.intro (k_iload (pc := 111) (by decide +kernel : decode cX12_slices 111 = .ok (.iload 9, 2))) ?_
  refine And.intro (k_imul (pc := 113) (by decide +kernel : decode cX12_slices 113 = .ok (.imul, 1))) ?_
  refine And.intro (k_iconst (pc := 114) (by decide +kernel : decode cX12_slices 114 = .ok (.iconst 1, 1)) (by decide)) ?_
  refine And.intro (k_iadd (pc := 115) (by decide +kernel : decode cX12_slices 115 = .ok (.iadd, 1))) ?_
  refine And.intro (k_lald (pc := 116) (by decide +kernel : decode cX12_slices 116 = .ok (.laload, 1))) ?_
  refine And.intro (k_lmul (pc := 117) (by decide +kernel : decode cX12_slices 117 = .ok (.lmul, 1))) ?_
  refine And.intro (k_aload_n (pc := 118) (by decide +kernel : decode cX12_slices 118 = .ok (.aload_n 0, 1)) rfl) ?_
  refine And.intro (k_gR (pc := 119) rfl (by decide) rfl zin12 lk_X12_34 (by decide +kernel : decode cX12_slices 119 = .ok (.getfield 34, 3))) ?_
  refine And.intro (k_iconst (pc := 122) (by decide +kernel : decode cX12_slices 122 = .ok (.iconst 2, 1)) (by decide)) ?_
  refine And.intro (k_iload (pc := 123) (by decide +kernel : decode cX12_slices 123 = .ok (.iload 9, 2))) ?_
  refine And.intro (k_imul (pc := 125) (by decide +kernel : decode cX12_slices 125 = .ok (.imul, 1))) ?_
  refine And.intro (k_lald (pc := 126) (by decide +kernel : decode cX12_slices 126 = .ok (.laload, 1))) ?_
  refine And.intro (k_aload_n (pc := 127) (by decide +kernel : decode cX12_slices 127 = .ok (.aload_n 0, 1)) rfl) ?_
  refine And.intro (k_gR (pc := 128) rfl (by decide) rfl zin12 lk_X12_37 (by decide +kernel : decode cX12_slices 128 = .ok (.getfield 37, 3))) ?_
  refine And.intro (k_iconst (pc := 131) (by decide +kernel : decode cX12_slices 131 = .ok (.iconst 2, 1)) (by decide)) ?_
  refine And.intro (k_iload (pc := 132) (by decide +kernel : decode cX12_slices 132 = .ok (.iload 9, 2))) ?_
  refine And.intro (k_imul (pc := 134) (by decide +kernel : decode cX12_slices 134 = .ok (.imul, 1))) ?_
  refine And.intro (k_iconst (pc := 135) (by decide +kernel : decode cX12_slices 135 = .ok (.iconst 1, 1)) (by decide)) ?_
  refine And.intro (k_iadd (pc := 136) (by decide +kernel : decode cX12_slices 136 = .ok (.iadd, 1))) ?_
  refine And.intro (k_lald (pc := 137) (by decide +kernel : decode cX12_slices 137 = .ok (.laload, 1))) ?_
  refine And.intro (k_lmul (pc := 138) (by decide +kernel : decode cX12_slices 138 = .ok (.lmul, 1))) ?_
  refine And.intro (k_lsub (pc := 139) (by decide +kernel : decode cX12_slices 139 = .ok (.lsub, 1))) ?_
  refine And.intro (k_lstore (pc := 140) (by decide +kernel : decode cX12_slices 140 = .ok (.lstore 10, 2))) ?_
  refine And.intro (k_aload_n (pc := 142) (by decide +kernel : decode cX12_slices 142 = .ok (.aload_n 0, 1)) rfl) ?_
  refine And.intro (k_gR (pc := 143) rfl (by decide) rfl zin12 lk_X12_37 (by decide +kernel : decode cX12_slices 143 = .ok (.getfield 37, 3))) ?_
  refine And.intro (k_iconst (pc := 146) (by decide +kernel : decode cX12_slices 146 = .ok (.iconst 2, 1)) (by decide)) ?_
  refine And.intro (k_iload (pc := 147) (by decide +kernel : decode cX12_slices 147 = .ok (.iload 9, 2))) ?_
  refine And.intro (k_imul (pc := 149) (by decide +kernel : decode cX12_slices 149 = .ok (.imul, 1))) ?_
  refine And.intro (k_iconst (pc := 150) (by decide +kernel : decode cX12_slices 150 = .ok (.iconst 1, 1)) (by decide)) ?_
  refine And.intro (k_iadd (pc := 151) (by decide +kernel : decode cX12_slices 151 = .ok (.iadd, 1))) ?_
  refine And.intro (k_lald (pc := 152) (by decide +kernel : decode cX12_slices 152 = .ok (.laload, 1))) ?_
  refine And.intro (k_aload_n (pc := 153) (by decide +kernel : decode cX12_slices 153 = .ok (.aload_n 0, 1)) rfl) ?_
  refine And.intro (k_gR (pc := 154) rfl (by decide) rfl zin12 lk_X12_34 (by decide +kernel : decode cX12_slices 154 = .ok (.getfield 34, 3))) ?_
  refine And.intro (k_iconst (pc := 157) (by decide +kernel : decode cX12_slices 157 = .ok (.iconst 2, 1)) (by decide)) ?_
  refine And.intro (k_iload (pc := 158) (by decide +kernel : decode cX12_slices 158 = .ok (.iload 9, 2))) ?_
  refine And.intro (k_imul (pc := 160) (by decide +kernel : decode cX12_slices 160 = .ok (.imul, 1))) ?_
  refine And.intro (k_iconst (pc := 161) (by decide +kernel : decode cX12_slices 161 = .ok (.iconst 1, 1)) (by decide)) ?_
  refine And.intro (k_iadd (pc := 162) (by decide +kernel : decode cX12_slices 162 = .ok (.iadd, 1))) ?_
  refine And.intro (k_lald (pc := 163) (by decide +kernel : decode cX12_slices 163 = .ok (.laload, 1))) ?_
  refine And.intro (k_lmul (pc := 164) (by decide +kernel : decode cX12_slices 164 = .ok (.lmul, 1))) ?_
  refine And.intro (k_lstore (pc := 165) (by decide +kernel : decode cX12_slices 165 = .ok (.lstore 12, 2))) ?_
  refine And.intro (k_lload (pc := 167) (by decide +kernel : decode cX12_slices 167 = .ok (.lload 4, 2))) ?_
  refine And.intro (k_lload (pc := 169) (by decide +kernel : decode cX12_slices 169 = .ok (.lload 6, 2))) ?_
  refine And.intro (k_lload (pc := 171) (by decide +kernel : decode cX12_slices 171 = .ok (.lload 10, 2))) ?_
  refine And.intro (k_lload (pc := 173) (by decide +kernel : decode cX12_slices 173 = .ok (.lload 12, 2))) ?_
  refine And.intro (k_crS (n := 4) (pc := 175) hG (zRoom_self 7) ini_X12 sta_X12_isLess mk_X12_188 dy_X12_isLess (by decide +kernel : decode cX12_slices 175 = .ok (.invokestatic 188, 3))) ?_
  refine And.intro (k_if_ne (pc := 178) (by decide +kernel : decode cX12_slices 178 = .ok (.ifCond .ne 6, 3)) (by decide)) ?_
  refine And.intro (k_goto (pc := 181) (by decide +kernel : decode cX12_slices 181 = .ok (.goto 23, 3)) (by decide)) ?_
  refine And.intro (k_aload_n (pc := 184) (by decide +kernel : decode cX12_slices 184 = .ok (.aload_n 0, 1)) rfl) ?_
  refine And.intro (k_lload (pc := 185) (by decide +kernel : decode cX12_slices 185 = .ok (.lload 10, 2))) ?_
  refine And.intro (k_lload (pc := 187) (by decide +kernel : decode cX12_slices 187 = .ok (.lload 12, 2))) ?_
  refine And.intro (k_cvV (n := 2) (pc := 189) hG (zRoom_self 7) (tag := 12) rfl ini_X12 im_X12_set se_X12_set mk_X12_76 dy_X12_set (by decide +kernel : decode cX12_slices 189 = .ok (.invokevirtual 76, 3))) ?_
  refine And.intro (k_aload_n (pc := 192) (by decide +kernel : decode cX12_slices 192 = .ok (.aload_n 0, 1)) rfl) ?_
  refine And.intro (k_gJ (pc := 193) rfl (by decide) rfl zin12 lk_X12_69 (by decide +kernel : decode cX12_slices 193 = .ok (.getfield 69, 3))) ?_
  refine And.intro (k_lstore (pc := 196) (by decide +kernel : decode cX12_slices 196 = .ok (.lstore 4, 2))) ?_
  refine And.intro (k_aload_n (pc := 198) (by decide +kernel : decode cX12_slices 198 = .ok (.aload_n 0, 1)) rfl) ?_
  refine And.intro (k_gJ (pc := 199) rfl (by decide) rfl zin12 lk_X12_73 (by decide +kernel : decode cX12_slices 199 = .ok (.getfield 73, 3))) ?_
  refine And.intro (k_lstore (pc := 202) (by decide +kernel : decode cX12_slices 202 = .ok (.lstore 6, 2))) ?_
  refine And.intro (k_iinc (pc := 204) (by decide +kernel : decode cX12_slices 204 = .ok (.iinc 8 1, 3)) (by decide)) ?_
  refine And.intro (k_goto (pc := 207) (by decide +kernel : decode cX12_slices 207 = .ok (.goto (-173), 3)) (by decide)) ?_
  refine And.intro (k_aload_n (pc := 210) (by decide +kernel : decode cX12_slices 210 = .ok (.aload_n 0, 1)) rfl) ?_
  refine And.intro (k_iconst (pc := 211) (by decide +kernel : decode cX12_slices 211 = .ok (.iconst 0, 1)) (by decide)) ?_
  refine And.intro (k_pI (pc := 212) rfl (by decide) rfl zin12 lk_X12_59 tyX12_ok nmX12 rfl (by decide +kernel) (by decide +kernel : decode cX12_slices 212 = .ok (.putfield 59, 3))) ?_
  refine And.intro (k_aload_n (pc := 215) (by decide +kernel : decode cX12_slices 215 = .ok (.aload_n 0, 1)) rfl) ?_
  refine And.intro (k_iload_n (pc := 216) (by decide +kernel : decode cX12_slices 216 = .ok (.iload_n 2, 1)) rfl) ?_
  refine And.intro (k_i2l (pc := 217) (by decide +kernel : decode cX12_slices 217 = .ok (.i2l, 1))) ?_
  refine And.intro (k_cvV (n := 1) (pc := 218) hG (zRoom_self 7) (tag := 12) rfl ini_X12 im_X12_tell se_X12_tell mk_X12_80 dy_X12_tell (by decide +kernel : decode cX12_slices 218 = .ok (.invokevirtual 80, 3))) ?_
  refine And.intro (k_aload_n (pc := 221) (by decide +kernel : decode cX12_slices 221 = .ok (.aload_n 0, 1)) rfl) ?_
  refine And.intro (k_iload_n (pc := 222) (by decide +kernel : decode cX12_slices 222 = .ok (.iload_n 3, 1)) rfl) ?_
  refine And.intro (k_i2l (pc := 223) (by decide +kernel : decode cX12_slices 223 = .ok (.i2l, 1))) ?_
  refine And.intro (k_cvV (n := 1) (pc := 224) hG (zRoom_self 7) (tag := 12) rfl ini_X12 im_X12_tell se_X12_tell mk_X12_80 dy_X12_tell (by decide +kernel : decode cX12_slices 224 = .ok (.invokevirtual 80, 3))) ?_
  refine And.intro (k_iload_n (pc := 227) (by decide +kernel : decode cX12_slices 227 = .ok (.iload_n 1, 1)) rfl) ?_
  refine And.intro (k_iconst (pc := 228) (by decide +kernel : decode cX12_slices 228 = .ok (.iconst 2, 1)) (by decide)) ?_
  refine And.intro (k_icmp_ge (pc := 229) (by decide +kernel : decode cX12_slices 229 = .ok (.if_icmp .ge 11, 3)) (by decide)) ?_
  refine And.intro (k_aload_n (pc := 232) (by decide +kernel : decode cX12_slices 232 = .ok (.aload_n 0, 1)) rfl) ?_
  refine And.intro (k_lload (pc := 233) (by decide +kernel : decode cX12_slices 233 = .ok (.lload 4, 2))) ?_
  refine And.intro (k_lload (pc := 235) (by decide +kernel : decode cX12_slices 235 = .ok (.lload 6, 2))) ?_
  refine And.intro (k_cvV (n := 2) (pc := 237) hG (zRoom_self 7) (tag := 12) rfl ini_X12 im_X12_tellFraction se_X12_tellFraction mk_X12_250 dy_X12_tellFraction (by decide +kernel : decode cX12_slices 237 = .ok (.invokevirtual 250, 3))) ?_
  refine And.intro (k_iload_n (pc := 240) (by decide +kernel : decode cX12_slices 240 = .ok (.iload_n 2, 1)) rfl) ?_
  refine And.intro (k_iload_n (pc := 241) (by decide +kernel : decode cX12_slices 241 = .ok (.iload_n 3, 1)) rfl) ?_
  refine And.intro (k_iadd (pc := 242) (by decide +kernel : decode cX12_slices 242 = .ok (.iadd, 1))) ?_
  refine And.intro (k_ireturn (pc := 243) rfl (by decide +kernel : decode cX12_slices 243 = .ok (.ireturn, 1))) ?_
  exact trivial
theorem cdX12_slices : Cond.code yX12_slices cX12_slices 14 (some .int) ∈ zWs := zWs_in 1441 (by decide +kernel) rfl
noncomputable def pgX12_bounding : zPg := [(0, o_ic (0)), (1, o_is 8), (3, o_il 8), (5, o_al 0), (6, o_vr2 yX12_lines 12 1), (9, o_ic_ge 85), (12, o_al 0), (13, o_il 8), (15, o_ic (1)), (16, o_il 1), (17, o_isub), (18, o_vr2 yX12_of 12 3), (21, o_is 9), (23, o_il 2), (24, o_if_ne 35), (27, o_il 9), (29, o_if_gt 43), (32, o_go 79), (35, o_il 9), (37, o_if_lt 43), (40, o_go 79), (43, o_il 9), (45, o_i2l), (46, o_ll 4), (48, o_lmul), (49, o_al 0), (50, o_il 8), (52, o_il 1), (53, o_vr2 yX12_of 12 3), (56, o_il 3), (57, o_imul), (58, o_al 0), (59, o_il 8), (61, o_ic (2)), (62, o_vr2 yX12_of 12 3), (65, o_isub), (66, o_i2l), (67, o_ll 6), (69, o_lmul), (70, o_ladd), (71, o_lc 0), (72, o_lc_ne 79), (76, o_il 8), (78, o_ir), (79, o_inc 8 (1)), (82, o_go 3), (85, o_ic (-1)), (86, o_ir)]
set_option maxRecDepth 20000 in
theorem pkX12_bounding {G : zG} (hG : zGok G) (Q : zRt) : zPOK G (zRm 1) RX12 cX12_bounding 10 (some .int) (zF G Q 0 0) 0 0 (zCalls G 1) Q pgX12_bounding := by
  refine And.intro (k_iconst (pc := 0) (by decide +kernel : decode cX12_bounding 0 = .ok (.iconst 0, 1)) (by decide)) ?_
  refine And.intro (k_istore (pc := 1) (by decide +kernel : decode cX12_bounding 1 = .ok (.istore 8, 2))) ?_
  refine And.intro (k_iload (pc := 3) (by decide +kernel : decode cX12_bounding 3 = .ok (.iload 8, 2))) ?_
  refine And.intro (k_aload_n (pc := 5) (by decide +kernel : decode cX12_bounding 5 = .ok (.aload_n 0, 1)) rfl) ?_
  refine And.intro (k_crV (n := 0) (pc := 6) hG (zRoom_self 1) (tag := 12) rfl ini_X12 im_X12_lines se_X12_lines mk_X12_142 dy_X12_lines (by decide +kernel : decode cX12_bounding 6 = .ok (.invokevirtual 142, 3))) ?_
  refine And.intro (k_icmp_ge (pc := 9) (by decide +kernel : decode cX12_bounding 9 = .ok (.if_icmp .ge 76, 3)) (by decide)) ?_
  refine And.intro (k_aload_n (pc := 12) (by decide +kernel : decode cX12_bounding 12 = .ok (.aload_n 0, 1)) rfl) ?_
  refine And.intro (k_iload (pc := 13) (by decide +kernel : decode cX12_bounding 13 = .ok (.iload 8, 2))) ?_
  refine And.intro (k_iconst (pc := 15) (by decide +kernel : decode cX12_bounding 15 = .ok (.iconst 1, 1)) (by decide)) ?_
  refine And.intro (k_iload_n (pc := 16) (by decide +kernel : decode cX12_bounding 16 = .ok (.iload_n 1, 1)) rfl) ?_
  refine And.intro (k_isub (pc := 17) (by decide +kernel : decode cX12_bounding 17 = .ok (.isub, 1))) ?_
  refine And.intro (k_crV (n := 2) (pc := 18) hG (zRoom_self 1) (tag := 12) rfl ini_X12 im_X12_of se_X12_of mk_X12_145 dy_X12_of (by decide +kernel : decode cX12_bounding 18 = .ok (.invokevirtual 145, 3))) ?_
  refine And.intro (k_istore (pc := 21) (by decide +kernel : decode cX12_bounding 21 = .ok (.istore 9, 2))) ?_
  refine And.intro (k_iload_n (pc := 23) (by decide +kernel : decode cX12_bounding 23 = .ok (.iload_n 2, 1)) rfl) ?_
  refine And.intro (k_if_ne (pc := 24) (by decide +kernel : decode cX12_bounding 24 = .ok (.ifCond .ne 11, 3)) (by decide)) ?_
  refine And.intro (k_iload (pc := 27) (by decide +kernel : decode cX12_bounding 27 = .ok (.iload 9, 2))) ?_
  refine And.intro (k_if_gt (pc := 29) (by decide +kernel : decode cX12_bounding 29 = .ok (.ifCond .gt 14, 3)) (by decide)) ?_
  refine And.intro (k_goto (pc := 32) (by decide +kernel : decode cX12_bounding 32 = .ok (.goto 47, 3)) (by decide)) ?_
  refine And.intro (k_iload (pc := 35) (by decide +kernel : decode cX12_bounding 35 = .ok (.iload 9, 2))) ?_
  refine And.intro (k_if_lt (pc := 37) (by decide +kernel : decode cX12_bounding 37 = .ok (.ifCond .lt 6, 3)) (by decide)) ?_
  refine And.intro (k_goto (pc := 40) (by decide +kernel : decode cX12_bounding 40 = .ok (.goto 39, 3)) (by decide)) ?_
  refine And.intro (k_iload (pc := 43) (by decide +kernel : decode cX12_bounding 43 = .ok (.iload 9, 2))) ?_
  refine And.intro (k_i2l (pc := 45) (by decide +kernel : decode cX12_bounding 45 = .ok (.i2l, 1))) ?_
  refine And.intro (k_lload (pc := 46) (by decide +kernel : decode cX12_bounding 46 = .ok (.lload 4, 2))) ?_
  refine And.intro (k_lmul (pc := 48) (by decide +kernel : decode cX12_bounding 48 = .ok (.lmul, 1))) ?_
  refine And.intro (k_aload_n (pc := 49) (by decide +kernel : decode cX12_bounding 49 = .ok (.aload_n 0, 1)) rfl) ?_
  refine And.intro (k_iload (pc := 50) (by decide +kernel : decode cX12_bounding 50 = .ok (.iload 8, 2))) ?_
  refine And.intro (k_iload_n (pc := 52) (by decide +kernel : decode cX12_bounding 52 = .ok (.iload_n 1, 1)) rfl) ?_
  refine And.intro (k_crV (n := 2) (pc := 53) hG (zRoom_self 1) (tag := 12) rfl ini_X12 im_X12_of se_X12_of mk_X12_145 dy_X12_of (by decide +kernel : decode cX12_bounding 53 = .ok (.invokevirtual 145, 3))) ?_
  refine And.intro (k_iload_n (pc := 56) (by decide +kernel : decode cX12_bounding 56 = .ok (.iload_n 3, 1)) rfl) ?_
  refine And.intro (k_imul (pc := 57) (by decide +kernel : decode cX12_bounding 57 = .ok (.imul, 1))) ?_
  refine And.intro (k_aload_n (pc := 58) (by decide +kernel : decode cX12_bounding 58 = .ok (.aload_n 0, 1)) rfl) ?_
  refine And.intro (k_iload (pc := 59) (by decide +kernel : decode cX12_bounding 59 = .ok (.iload 8, 2))) ?_
  refine And.intro (k_iconst (pc := 61) (by decide +kernel : decode cX12_bounding 61 = .ok (.iconst 2, 1)) (by decide)) ?_
  refine And.intro (k_crV (n := 2) (pc := 62) hG (zRoom_self 1) (tag := 12) rfl ini_X12 im_X12_of se_X12_of mk_X12_145 dy_X12_of (by decide +kernel : decode cX12_bounding 62 = .ok (.invokevirtual 145, 3))) ?_
  refine And.intro (k_isub (pc := 65) (by decide +kernel : decode cX12_bounding 65 = .ok (.isub, 1))) ?_
  refine And.intro (k_i2l (pc := 66) (by decide +kernel : decode cX12_bounding 66 = .ok (.i2l, 1))) ?_
  refine And.intro (k_lload (pc := 67) (by decide +kernel : decode cX12_bounding 67 = .ok (.lload 6, 2))) ?_
  refine And.intro (k_lmul (pc := 69) (by decide +kernel : decode cX12_bounding 69 = .ok (.lmul, 1))) ?_
  refine And.intro (k_ladd (pc := 70) (by decide +kernel : decode cX12_bounding 70 = .ok (.ladd, 1))) ?_
  refine And.intro (k_lconst (pc := 71) (by decide +kernel : decode cX12_bounding 71 = .ok (.lconst 0, 1)) (by decide)) ?_
  refine And.intro (k_lcmp_ne (pc := 72) (by decide +kernel : decode cX12_bounding 72 = .ok (.lcmp, 1)) (by decide +kernel : decode cX12_bounding 73 = .ok (.ifCond .ne 6, 3)) (by decide)) ?_
  refine And.intro (k_iload (pc := 76) (by decide +kernel : decode cX12_bounding 76 = .ok (.iload 8, 2))) ?_
  refine And.intro (k_ireturn (pc := 78) rfl (by decide +kernel : decode cX12_bounding 78 = .ok (.ireturn, 1))) ?_
  refine And.intro (k_iinc (pc := 79) (by decide +kernel : decode cX12_bounding 79 = .ok (.iinc 8 1, 3)) (by decide)) ?_
  refine And.intro (k_goto (pc := 82) (by decide +kernel : decode cX12_bounding 82 = .ok (.goto (-79), 3)) (by decide)) ?_
  refine And.intro (k_iconst (pc := 85) (by decide +kernel : decode cX12_bounding 85 = .ok (.iconst (-1), 1)) (by decide)) ?_
  refine And.intro (k_ireturn (pc := 86) rfl (by decide +kernel : decode cX12_bounding 86 = .ok (.ireturn, 1))) ?_
  exact trivial
theorem cdX12_bounding : Cond.code yX12_bounding cX12_bounding 10 (some .int) ∈ zWs := zWs_in 1458 (by decide +kernel) rfl
noncomputable def pgX12_refusesCut : zPg := [(0, o_il 1), (1, o_ic (0)), (2, o_ic (1)), (3, o_cr yX12_in 3), (6, o_if_eq 27), (9, o_il 2), (10, o_ic (0)), (11, o_ic (1)), (12, o_cr yX12_in 3), (15, o_if_eq 27), (18, o_il 3), (19, o_ic (0)), (20, o_ic (5)), (21, o_cr yX12_in 3), (24, o_if_ne 29), (27, o_ic (-1)), (28, o_ir), (29, o_al 0), (30, o_vv yX12_layFirst 12 1), (33, o_al 0), (34, o_gR 12 15), (37, o_ic (0)), (38, o_il 1), (39, o_il 3), (40, o_cr yX12_sliceAt 3), (43, o_xI 16), (44, o_if_eq 67), (47, o_al 0), (48, o_gR 12 15), (51, o_ic (0)), (52, o_il 1), (53, o_il 3), (54, o_ic (1)), (55, o_iadd), (56, o_cr yX12_sliceAt 3), (59, o_xI 16), (60, o_if_eq 67), (63, o_ic (0)), (64, o_go 69), (67, o_ic (-2)), (69, o_ir)]
set_option maxRecDepth 20000 in
theorem pkX12_refusesCut {G : zG} (hG : zGok G) (Q : zRt) : zPOK G (zRm 5) RX12 cX12_refusesCut 4 (some .int) (zF G Q 0 0) 0 0 (zCalls G 5) Q pgX12_refusesCut := by
  refine And.intro (k_iload_n (pc := 0) (by decide +kernel : decode cX12_refusesCut 0 = .ok (.iload_n 1, 1)) rfl) ?_
  refine And.intro (k_iconst (pc := 1) (by decide +kernel : decode cX12_refusesCut 1 = .ok (.iconst 0, 1)) (by decide)) ?_
  refine And.intro (k_iconst (pc := 2) (by decide +kernel : decode cX12_refusesCut 2 = .ok (.iconst 1, 1)) (by decide)) ?_
  refine And.intro (k_crS (n := 3) (pc := 3) hG (zRoom_self 5) ini_X12 sta_X12_in mk_X12_87 dy_X12_in (by decide +kernel : decode cX12_refusesCut 3 = .ok (.invokestatic 87, 3))) ?_
  refine And.intro (k_if_eq (pc := 6) (by decide +kernel : decode cX12_refusesCut 6 = .ok (.ifCond .eq 21, 3)) (by decide)) ?_
  refine And.intro (k_iload_n (pc := 9) (by decide +kernel : decode cX12_refusesCut 9 = .ok (.iload_n 2, 1)) rfl) ?_
  refine And.intro (k_iconst (pc := 10) (by decide +kernel : decode cX12_refusesCut 10 = .ok (.iconst 0, 1)) (by decide)) ?_
  refine And.intro (k_iconst (pc := 11) (by decide +kernel : decode cX12_refusesCut 11 = .ok (.iconst 1, 1)) (by decide)) ?_
  refine And.intro (k_crS (n := 3) (pc := 12) hG (zRoom_self 5) ini_X12 sta_X12_in mk_X12_87 dy_X12_in (by decide +kernel : decode cX12_refusesCut 12 = .ok (.invokestatic 87, 3))) ?_
  refine And.intro (k_if_eq (pc := 15) (by decide +kernel : decode cX12_refusesCut 15 = .ok (.ifCond .eq 12, 3)) (by decide)) ?_
  refine And.intro (k_iload_n (pc := 18) (by decide +kernel : decode cX12_refusesCut 18 = .ok (.iload_n 3, 1)) rfl) ?_
  refine And.intro (k_iconst (pc := 19) (by decide +kernel : decode cX12_refusesCut 19 = .ok (.iconst 0, 1)) (by decide)) ?_
  refine And.intro (k_iconst (pc := 20) (by decide +kernel : decode cX12_refusesCut 20 = .ok (.iconst 5, 1)) (by decide)) ?_
  refine And.intro (k_crS (n := 3) (pc := 21) hG (zRoom_self 5) ini_X12 sta_X12_in mk_X12_87 dy_X12_in (by decide +kernel : decode cX12_refusesCut 21 = .ok (.invokestatic 87, 3))) ?_
  refine And.intro (k_if_ne (pc := 24) (by decide +kernel : decode cX12_refusesCut 24 = .ok (.ifCond .ne 5, 3)) (by decide)) ?_
  refine And.intro (k_iconst (pc := 27) (by decide +kernel : decode cX12_refusesCut 27 = .ok (.iconst (-1), 1)) (by decide)) ?_
  refine And.intro (k_ireturn (pc := 28) rfl (by decide +kernel : decode cX12_refusesCut 28 = .ok (.ireturn, 1))) ?_
  refine And.intro (k_aload_n (pc := 29) (by decide +kernel : decode cX12_refusesCut 29 = .ok (.aload_n 0, 1)) rfl) ?_
  refine And.intro (k_cvV (n := 0) (pc := 30) hG (zRoom_self 5) (tag := 12) rfl ini_X12 im_X12_layFirst se_X12_layFirst mk_X12_241 dy_X12_layFirst (by decide +kernel : decode cX12_refusesCut 30 = .ok (.invokevirtual 241, 3))) ?_
  refine And.intro (k_aload_n (pc := 33) (by decide +kernel : decode cX12_refusesCut 33 = .ok (.aload_n 0, 1)) rfl) ?_
  refine And.intro (k_gR (pc := 34) rfl (by decide) rfl zin12 lk_X12_30 (by decide +kernel : decode cX12_refusesCut 34 = .ok (.getfield 30, 3))) ?_
  refine And.intro (k_iconst (pc := 37) (by decide +kernel : decode cX12_refusesCut 37 = .ok (.iconst 0, 1)) (by decide)) ?_
  refine And.intro (k_iload_n (pc := 38) (by decide +kernel : decode cX12_refusesCut 38 = .ok (.iload_n 1, 1)) rfl) ?_
  refine And.intro (k_iload_n (pc := 39) (by decide +kernel : decode cX12_refusesCut 39 = .ok (.iload_n 3, 1)) rfl) ?_
  refine And.intro (k_crS (n := 3) (pc := 40) hG (zRoom_self 5) ini_X12 sta_X12_sliceAt mk_X12_208 dy_X12_sliceAt (by decide +kernel : decode cX12_refusesCut 40 = .ok (.invokestatic 208, 3))) ?_
  refine And.intro (k_zald (pc := 43) (by decide +kernel : decode cX12_refusesCut 43 = .ok (.baload, 1))) ?_
  refine And.intro (k_if_eq (pc := 44) (by decide +kernel : decode cX12_refusesCut 44 = .ok (.ifCond .eq 23, 3)) (by decide)) ?_
  refine And.intro (k_aload_n (pc := 47) (by decide +kernel : decode cX12_refusesCut 47 = .ok (.aload_n 0, 1)) rfl) ?_
  refine And.intro (k_gR (pc := 48) rfl (by decide) rfl zin12 lk_X12_30 (by decide +kernel : decode cX12_refusesCut 48 = .ok (.getfield 30, 3))) ?_
  refine And.intro (k_iconst (pc := 51) (by decide +kernel : decode cX12_refusesCut 51 = .ok (.iconst 0, 1)) (by decide)) ?_
  refine And.intro (k_iload_n (pc := 52) (by decide +kernel : decode cX12_refusesCut 52 = .ok (.iload_n 1, 1)) rfl) ?_
  refine And.intro (k_iload_n (pc := 53) (by decide +kernel : decode cX12_refusesCut 53 = .ok (.iload_n 3, 1)) rfl) ?_
  refine And.intro (k_iconst (pc := 54) (by decide +kernel : decode cX12_refusesCut 54 = .ok (.iconst 1, 1)) (by decide)) ?_
  refine And.intro (k_iadd (pc := 55) (by decide +kernel : decode cX12_refusesCut 55 = .ok (.iadd, 1))) ?_
  refine And.intro (k_crS (n := 3) (pc := 56) hG (zRoom_self 5) ini_X12 sta_X12_sliceAt mk_X12_208 dy_X12_sliceAt (by decide +kernel : decode cX12_refusesCut 56 = .ok (.invokestatic 208, 3))) ?_
  refine And.intro (k_zald (pc := 59) (by decide +kernel : decode cX12_refusesCut 59 = .ok (.baload, 1))) ?_
  refine And.intro (k_if_eq (pc := 60) (by decide +kernel : decode cX12_refusesCut 60 = .ok (.ifCond .eq 7, 3)) (by decide)) ?_
  refine And.intro (k_iconst (pc := 63) (by decide +kernel : decode cX12_refusesCut 63 = .ok (.iconst 0, 1)) (by decide)) ?_
  refine And.intro (k_goto (pc := 64) (by decide +kernel : decode cX12_refusesCut 64 = .ok (.goto 5, 3)) (by decide)) ?_
  refine And.intro (k_bipush (pc := 67) (by decide +kernel : decode cX12_refusesCut 67 = .ok (.bipush (-2), 2)) (by decide)) ?_
  refine And.intro (k_ireturn (pc := 69) rfl (by decide +kernel : decode cX12_refusesCut 69 = .ok (.ireturn, 1))) ?_
  exact trivial
theorem cdX12_refusesCut : Cond.code yX12_refusesCut cX12_refusesCut 4 (some .int) ∈ zWs := zWs_in 1449 (by decide +kernel) rfl
noncomputable def pgX12_putFraction : zPg := [(0, o_al 0), (1, o_ll 2), (2, o_ll 4), (4, o_vv yX12_set 12 3), (7, o_al 0), (8, o_gR 12 27), (11, o_il 1), (12, o_al 0), (13, o_gJ 12 6), (16, o_l2i), (17, o_yI), (18, o_al 0), (19, o_gR 12 27), (22, o_il 1), (23, o_ic (1)), (24, o_iadd), (25, o_al 0), (26, o_gJ 12 7), (29, o_l2i), (30, o_yI), (31, o_vr)]
set_option maxRecDepth 20000 in
theorem pkX12_putFraction {G : zG} (hG : zGok G) (Q : zRt) : zPOK G (zRm 2) RX12 cX12_putFraction 6 none (zF G Q 0 0) 0 0 (zCalls G 2) Q pgX12_putFraction := by
  refine And.intro (k_aload_n (pc := 0) (by decide +kernel : decode cX12_putFraction 0 = .ok (.aload_n 0, 1)) rfl) ?_
  refine And.intro (k_lload_n (pc := 1) (by decide +kernel : decode cX12_putFraction 1 = .ok (.lload_n 2, 1)) rfl) ?_
  refine And.intro (k_lload (pc := 2) (by decide +kernel : decode cX12_putFraction 2 = .ok (.lload 4, 2))) ?_
  refine And.intro (k_cvV (n := 2) (pc := 4) hG (zRoom_self 2) (tag := 12) rfl ini_X12 im_X12_set se_X12_set mk_X12_76 dy_X12_set (by decide +kernel : decode cX12_putFraction 4 = .ok (.invokevirtual 76, 3))) ?_
  refine And.intro (k_aload_n (pc := 7) (by decide +kernel : decode cX12_putFraction 7 = .ok (.aload_n 0, 1)) rfl) ?_
  refine And.intro (k_gR (pc := 8) rfl (by decide) rfl zin12 lk_X12_40 (by decide +kernel : decode cX12_putFraction 8 = .ok (.getfield 40, 3))) ?_
  refine And.intro (k_iload_n (pc := 11) (by decide +kernel : decode cX12_putFraction 11 = .ok (.iload_n 1, 1)) rfl) ?_
  refine And.intro (k_aload_n (pc := 12) (by decide +kernel : decode cX12_putFraction 12 = .ok (.aload_n 0, 1)) rfl) ?_
  refine And.intro (k_gJ (pc := 13) rfl (by decide) rfl zin12 lk_X12_69 (by decide +kernel : decode cX12_putFraction 13 = .ok (.getfield 69, 3))) ?_
  refine And.intro (k_l2i (pc := 16) (by decide +kernel : decode cX12_putFraction 16 = .ok (.l2i, 1))) ?_
  refine And.intro (k_iast (pc := 17) (by decide +kernel : decode cX12_putFraction 17 = .ok (.iastore, 1))) ?_
  refine And.intro (k_aload_n (pc := 18) (by decide +kernel : decode cX12_putFraction 18 = .ok (.aload_n 0, 1)) rfl) ?_
  refine And.intro (k_gR (pc := 19) rfl (by decide) rfl zin12 lk_X12_40 (by decide +kernel : decode cX12_putFraction 19 = .ok (.getfield 40, 3))) ?_
  refine And.intro (k_iload_n (pc := 22) (by decide +kernel : decode cX12_putFraction 22 = .ok (.iload_n 1, 1)) rfl) ?_
  refine And.intro (k_iconst (pc := 23) (by decide +kernel : decode cX12_putFraction 23 = .ok (.iconst 1, 1)) (by decide)) ?_
  refine And.intro (k_iadd (pc := 24) (by decide +kernel : decode cX12_putFraction 24 = .ok (.iadd, 1))) ?_
  refine And.intro (k_aload_n (pc := 25) (by decide +kernel : decode cX12_putFraction 25 = .ok (.aload_n 0, 1)) rfl) ?_
  refine And.intro (k_gJ (pc := 26) rfl (by decide) rfl zin12 lk_X12_73 (by decide +kernel : decode cX12_putFraction 26 = .ok (.getfield 73, 3))) ?_
  refine And.intro (k_l2i (pc := 29) (by decide +kernel : decode cX12_putFraction 29 = .ok (.l2i, 1))) ?_
  refine And.intro (k_iast (pc := 30) (by decide +kernel : decode cX12_putFraction 30 = .ok (.iastore, 1))) ?_
  refine And.intro (k_return (pc := 31) rfl (by decide +kernel : decode cX12_putFraction 31 = .ok (.return_, 1))) ?_
  exact trivial
theorem cdX12_putFraction : Cond.code yX12_putFraction cX12_putFraction 6 none ∈ zWs := zWs_in 1462 (by decide +kernel) rfl
noncomputable def pgX12_layCut : zPg := [(0, o_il 2), (1, o_if_ne 11), (4, o_al 0), (5, o_gR 12 17), (8, o_go 15), (11, o_al 0), (12, o_gR 12 16), (15, o_as 4), (17, o_ic (0)), (18, o_il 1), (19, o_il 3), (20, o_cr yX12_sliceAt 3), (23, o_is 5), (25, o_al 4), (27, o_ic (2)), (28, o_il 5), (30, o_imul), (31, o_xJ), (32, o_ls 6), (34, o_al 4), (36, o_ic (2)), (37, o_il 5), (39, o_imul), (40, o_ic (1)), (41, o_iadd), (42, o_xJ), (43, o_ls 8), (45, o_al 4), (47, o_ic (2)), (48, o_il 5), (50, o_imul), (51, o_ic (2)), (52, o_iadd), (53, o_xJ), (54, o_ls 10), (56, o_al 4), (58, o_ic (2)), (59, o_il 5), (61, o_imul), (62, o_ic (3)), (63, o_iadd), (64, o_xJ), (65, o_ls 12), (67, o_ll 8), (69, o_ll 12), (71, o_lmul), (72, o_ls 14), (74, o_ll 10), (76, o_ll 8), (78, o_lmul), (79, o_ll 6), (81, o_ll 12), (83, o_lmul), (84, o_lsub), (85, o_ls 16), (87, o_ll 6), (89, o_ll 12), (91, o_lmul), (92, o_ll 16), (94, o_il 3), (95, o_i2l), (96, o_lmul), (97, o_lsub), (98, o_ls 18), (100, o_il 2), (101, o_if_ne 108), (104, o_lc 1), (105, o_go 111), (108, o_lc (-1)), (111, o_ls 20), (113, o_ll 14), (115, o_ll 16), (117, o_cr yX12_common 2), (120, o_ll 18), (122, o_cr yX12_common 2), (125, o_ll 20), (127, o_lmul), (128, o_ls 22), (130, o_ll 14), (132, o_ll 22), (134, o_ldiv), (135, o_l2i), (136, o_is 24), (138, o_ll 16), (140, o_lneg), (141, o_ll 22), (143, o_ldiv), (144, o_l2i), (145, o_is 25), (147, o_ll 18), (149, o_ll 22), (151, o_ldiv), (152, o_l2i), (153, o_is 26), (155, o_al 0), (156, o_gR 12 27), (159, o_ic (0)), (160, o_il 1), (161, o_if_ne 169), (164, o_il 25), (166, o_go 171), (169, o_il 24), (171, o_yI), (172, o_al 0), (173, o_gR 12 27), (176, o_ic (1)), (177, o_il 1), (178, o_if_ne 186), (181, o_il 24), (183, o_go 188), (186, o_il 25), (188, o_yI), (189, o_al 0), (190, o_gR 12 27), (193, o_ic (2)), (194, o_il 26), (196, o_yI), (197, o_al 0), (198, o_gR 12 27), (201, o_ic (3)), (202, o_il 1), (203, o_yI), (204, o_al 0), (205, o_gR 12 27), (208, o_ic (4)), (209, o_il 3), (210, o_yI), (211, o_al 0), (212, o_il 1), (213, o_il 2), (214, o_il 3), (215, o_ll 6), (217, o_ll 8), (219, o_vr2 yX12_bounding 12 6), (222, o_is 27), (224, o_al 0), (225, o_il 1), (226, o_il 2), (227, o_il 3), (228, o_ic (1)), (229, o_iadd), (230, o_ll 10), (232, o_ll 12), (234, o_vr2 yX12_bounding 12 6), (237, o_is 28), (239, o_al 0), (240, o_gR 12 27), (243, o_ic (5)), (244, o_il 27), (246, o_yI), (247, o_al 0), (248, o_gR 12 27), (251, o_ic (6)), (253, o_il 28), (255, o_yI), (256, o_al 0), (257, o_ic (7)), (259, o_il 24), (261, o_i2l), (262, o_al 0), (263, o_il 27), (265, o_ic (1)), (266, o_il 1), (267, o_isub), (268, o_vr2 yX12_of 12 3), (271, o_i2l), (272, o_vv yX12_putFraction 12 4), (275, o_al 0), (276, o_ic (9)), (278, o_il 25), (280, o_i2l), (281, o_al 0), (282, o_il 27), (284, o_ic (1)), (285, o_il 1), (286, o_isub), (287, o_vr2 yX12_of 12 3), (290, o_i2l), (291, o_lmul), (292, o_il 24), (294, o_i2l), (295, o_al 0), (296, o_il 27), (298, o_il 1), (299, o_vr2 yX12_of 12 3), (302, o_i2l), (303, o_lmul), (304, o_lsub), (305, o_al 0), (306, o_il 27), (308, o_ic (1)), (309, o_il 1), (310, o_isub), (311, o_vr2 yX12_of 12 3), (314, o_i2l), (315, o_vv yX12_putFraction 12 4), (318, o_al 0), (319, o_ic (11)), (321, o_il 24), (323, o_i2l), (324, o_al 0), (325, o_il 28), (327, o_ic (1)), (328, o_il 1), (329, o_isub), (330, o_vr2 yX12_of 12 3), (333, o_i2l), (334, o_vv yX12_putFraction 12 4), (337, o_al 0), (338, o_ic (13)), (340, o_il 24), (342, o_i2l), (343, o_al 0), (344, o_il 28), (346, o_il 1), (347, o_vr2 yX12_of 12 3), (350, o_i2l), (351, o_lmul), (352, o_il 25), (354, o_i2l), (355, o_al 0), (356, o_il 28), (358, o_ic (1)), (359, o_il 1), (360, o_isub), (361, o_vr2 yX12_of 12 3), (364, o_i2l), (365, o_lmul), (366, o_lsub), (367, o_al 0), (368, o_il 28), (370, o_ic (1)), (371, o_il 1), (372, o_isub), (373, o_vr2 yX12_of 12 3), (376, o_i2l), (377, o_vv yX12_putFraction 12 4), (380, o_vr)]
set_option maxRecDepth 20000 in
theorem pkX12_layCut {G : zG} (hG : zGok G) (Q : zRt) : zPOK G (zRm 3) RX12 cX12_layCut 29 none (zF G Q 0 0) 0 0 (zCalls G 3) Q pgX12_layCut := by
  refine And.intro (k_iload_n (pc := 0) (by decide +kernel : decode cX12_layCut 0 = .ok (.iload_n 2, 1)) rfl) ?_
  refine And.intro (k_if_ne (pc := 1) (by decide +kernel : decode cX12_layCut 1 = .ok (.ifCond .ne 10, 3)) (by decide)) ?_
  refine And.intro (k_aload_n (pc := 4) (by decide +kernel : decode cX12_layCut 4 = .ok (.aload_n 0, 1)) rfl) ?_
  refine And.intro (k_gR (pc := 5) rfl (by decide) rfl zin12 lk_X12_37 (by decide +kernel : decode cX12_layCut 5 = .ok (.getfield 37, 3))) ?_
  refine And.intro (k_goto (pc := 8) (by decide +kernel : decode cX12_layCut 8 = .ok (.goto 7, 3)) (by decide)) ?_
  refine And.intro (k_aload_n (pc := 11) (by decide +kernel : decode cX12_layCut 11 = .ok (.aload_n 0, 1)) rfl) ?_
  refine And.intro (k_gR (pc := 12) rfl (by decide) rfl zin12 lk_X12_34 (by decide +kernel : decode cX12_layCut 12 = .ok (.getfield 34, 3))) ?_
  refine And.intro (k_astore (pc := 15) (by decide +kernel : decode cX12_layCut 15 = .ok (.astore 4, 2))) ?_
  refine And.intro (k_iconst (pc := 17) (by decide +kernel : decode cX12_layCut 17 = .ok (.iconst 0, 1)) (by decide)) ?_
  refine And.intro (k_iload_n (pc := 18) (by decide +kernel : decode cX12_layCut 18 = .ok (.iload_n 1, 1)) rfl) ?_
  refine And.intro (k_iload_n (pc := 19) (by decide +kernel : decode cX12_layCut 19 = .ok (.iload_n 3, 1)) rfl) ?_
  refine And.intro (k_crS (n := 3) (pc := 20) hG (zRoom_self 3) ini_X12 sta_X12_sliceAt mk_X12_208 dy_X12_sliceAt (by decide +kernel : decode cX12_layCut 20 = .ok (.invokestatic 208, 3))) ?_
  refine And.intro (k_istore (pc := 23) (by decide +kernel : decode cX12_layCut 23 = .ok (.istore 5, 2))) ?_
  refine And.intro (k_aload (pc := 25) (by decide +kernel : decode cX12_layCut 25 = .ok (.aload 4, 2))) ?_
  refine And.intro (k_iconst (pc := 27) (by decide +kernel : decode cX12_layCut 27 = .ok (.iconst 2, 1)) (by decide)) ?_
  refine And.intro (k_iload (pc := 28) (by decide +kernel : decode cX12_layCut 28 = .ok (.iload 5, 2))) ?_
  refine And.intro (k_imul (pc := 30) (by decide +kernel : decode cX12_layCut 30 = .ok (.imul, 1))) ?_
  refine And.intro (k_lald (pc := 31) (by decide +kernel : decode cX12_layCut 31 = .ok (.laload, 1))) ?_
  refine And.intro (k_lstore (pc := 32) (by decide +kernel : decode cX12_layCut 32 = .ok (.lstore 6, 2))) ?_
  refine And.intro (k_aload (pc := 34) (by decide +kernel : decode cX12_layCut 34 = .ok (.aload 4, 2))) ?_
  refine And.intro (k_iconst (pc := 36) (by decide +kernel : decode cX12_layCut 36 = .ok (.iconst 2, 1)) (by decide)) ?_
  refine And.intro (k_iload (pc := 37) (by decide +kernel : decode cX12_layCut 37 = .ok (.iload 5, 2))) ?_
  refine And.intro (k_imul (pc := 39) (by decide +kernel : decode cX12_layCut 39 = .ok (.imul, 1))) ?_
  refine And.intro (k_iconst (pc := 40) (by decide +kernel : decode cX12_layCut 40 = .ok (.iconst 1, 1)) (by decide)) ?_
  refine And.intro (k_iadd (pc := 41) (by decide +kernel : decode cX12_layCut 41 = .ok (.iadd, 1))) ?_
  refine And.intro (k_lald (pc := 42) (by decide +kernel : decode cX12_layCut 42 = .ok (.laload, 1))) ?_
  refine And.intro (k_lstore (pc := 43) (by decide +kernel : decode cX12_layCut 43 = .ok (.lstore 8, 2))) ?_
  refine And.intro (k_aload (pc := 45) (by decide +kernel : decode cX12_layCut 45 = .ok (.aload 4, 2))) ?_
  refine And.intro (k_iconst (pc := 47) (by decide +kernel : decode cX12_layCut 47 = .ok (.iconst 2, 1)) (by decide)) ?_
  refine And.intro (k_iload (pc := 48) (by decide +kernel : decode cX12_layCut 48 = .ok (.iload 5, 2))) ?_
  refine And.intro (k_imul (pc := 50) (by decide +kernel : decode cX12_layCut 50 = .ok (.imul, 1))) ?_
  refine And.intro (k_iconst (pc := 51) (by decide +kernel : decode cX12_layCut 51 = .ok (.iconst 2, 1)) (by decide)) ?_
  refine And.intro (k_iadd (pc := 52) (by decide +kernel : decode cX12_layCut 52 = .ok (.iadd, 1))) ?_
  refine And.intro (k_lald (pc := 53) (by decide +kernel : decode cX12_layCut 53 = .ok (.laload, 1))) ?_
  refine And.intro (k_lstore (pc := 54) (by decide +kernel : decode cX12_layCut 54 = .ok (.lstore 10, 2))) ?_
  refine And.intro (k_aload (pc := 56) (by decide +kernel : decode cX12_layCut 56 = .ok (.aload 4, 2))) ?_
  refine And.intro (k_iconst (pc := 58) (by decide +kernel : decode cX12_layCut 58 = .ok (.iconst 2, 1)) (by decide)) ?_
  refine And.intro (k_iload (pc := 59) (by decide +kernel : decode cX12_layCut 59 = .ok (.iload 5, 2))) ?_
  refine And.intro (k_imul (pc := 61) (by decide +kernel : decode cX12_layCut 61 = .ok (.imul, 1))) ?_
  refine And.intro (k_iconst (pc := 62) (by decide +kernel : decode cX12_layCut 62 = .ok (.iconst 3, 1)) (by decide)) ?_
  refine And.intro (k_iadd (pc := 63) (by decide +kernel : decode cX12_layCut 63 = .ok (.iadd, 1))) ?_
  refine And.intro (k_lald (pc := 64) (by decide +kernel : decode cX12_layCut 64 = .ok (.laload, 1))) ?_
  refine And.intro (k_lstore (pc := 65) (by decide +kernel : decode cX12_layCut 65 = .ok (.lstore 12, 2))) ?_
  refine And.intro (k_lload (pc := 67) (by decide +kernel : decode cX12_layCut 67 = .ok (.lload 8, 2))) ?_
  refine And.intro (k_lload (pc := 69) (by decide +kernel : decode cX12_layCut 69 = .ok (.lload 12, 2))) ?_
  refine And.intro (k_lmul (pc := 71) (by decide +kernel : decode cX12_layCut 71 = .ok (.lmul, 1))) ?_
  refine And.intro (k_lstore (pc := 72) (by decide +kernel : decode cX12_layCut 72 = .ok (.lstore 14, 2))) ?_
  refine And.intro (k_lload (pc := 74) (by decide +kernel : decode cX12_layCut 74 = .ok (.lload 10, 2))) ?_
  refine And.intro (k_lload (pc := 76) (by decide +kernel : decode cX12_layCut 76 = .ok (.lload 8, 2))) ?_
  refine And.intro (k_lmul (pc := 78) (by decide +kernel : decode cX12_layCut 78 = .ok (.lmul, 1))) ?_
  refine And.intro (k_lload (pc := 79) (by decide +kernel : decode cX12_layCut 79 = .ok (.lload 6, 2))) ?_
  refine And.intro (k_lload (pc := 81) (by decide +kernel : decode cX12_layCut 81 = .ok (.lload 12, 2))) ?_
  refine And.intro (k_lmul (pc := 83) (by decide +kernel : decode cX12_layCut 83 = .ok (.lmul, 1))) ?_
  refine And.intro (k_lsub (pc := 84) (by decide +kernel : decode cX12_layCut 84 = .ok (.lsub, 1))) ?_
  refine And.intro (k_lstore (pc := 85) (by decide +kernel : decode cX12_layCut 85 = .ok (.lstore 16, 2))) ?_
  refine And.intro (k_lload (pc := 87) (by decide +kernel : decode cX12_layCut 87 = .ok (.lload 6, 2))) ?_
  refine And.intro (k_lload (pc := 89) (by decide +kernel : decode cX12_layCut 89 = .ok (.lload 12, 2))) ?_
  refine And.intro (k_lmul (pc := 91) (by decide +kernel : decode cX12_layCut 91 = .ok (.lmul, 1))) ?_
  refine And.intro (k_lload (pc := 92) (by decide +kernel : decode cX12_layCut 92 = .ok (.lload 16, 2))) ?_
  refine And.intro (k_iload_n (pc := 94) (by decide +kernel : decode cX12_layCut 94 = .ok (.iload_n 3, 1)) rfl) ?_
  refine And.intro (k_i2l (pc := 95) (by decide +kernel : decode cX12_layCut 95 = .ok (.i2l, 1))) ?_
  refine And.intro (k_lmul (pc := 96) (by decide +kernel : decode cX12_layCut 96 = .ok (.lmul, 1))) ?_
  refine And.intro (k_lsub (pc := 97) (by decide +kernel : decode cX12_layCut 97 = .ok (.lsub, 1))) ?_
  refine And.intro (k_lstore (pc := 98) (by decide +kernel : decode cX12_layCut 98 = .ok (.lstore 18, 2))) ?_
  refine And.intro (k_iload_n (pc := 100) (by decide +kernel : decode cX12_layCut 100 = .ok (.iload_n 2, 1)) rfl) ?_
  refine And.intro (k_if_ne (pc := 101) (by decide +kernel : decode cX12_layCut 101 = .ok (.ifCond .ne 7, 3)) (by decide)) ?_
  refine And.intro (k_lconst (pc := 104) (by decide +kernel : decode cX12_layCut 104 = .ok (.lconst 1, 1)) (by decide)) ?_
  refine And.intro (k_goto (pc := 105) (by decide +kernel : decode cX12_layCut 105 = .ok (.goto 6, 3)) (by decide)) ?_
  refine And.intro (k_ldc2 (pc := 108) csl_X12_268 (by decide +kernel : decode cX12_layCut 108 = .ok (.ldc2_w 268, 3))) ?_
  refine And.intro (k_lstore (pc := 111) (by decide +kernel : decode cX12_layCut 111 = .ok (.lstore 20, 2))) ?_
  refine And.intro (k_lload (pc := 113) (by decide +kernel : decode cX12_layCut 113 = .ok (.lload 14, 2))) ?_
  refine And.intro (k_lload (pc := 115) (by decide +kernel : decode cX12_layCut 115 = .ok (.lload 16, 2))) ?_
  refine And.intro (k_crS (n := 2) (pc := 117) hG (zRoom_self 3) ini_X12 sta_X12_common mk_X12_65 dy_X12_common (by decide +kernel : decode cX12_layCut 117 = .ok (.invokestatic 65, 3))) ?_
  refine And.intro (k_lload (pc := 120) (by decide +kernel : decode cX12_layCut 120 = .ok (.lload 18, 2))) ?_
  refine And.intro (k_crS (n := 2) (pc := 122) hG (zRoom_self 3) ini_X12 sta_X12_common mk_X12_65 dy_X12_common (by decide +kernel : decode cX12_layCut 122 = .ok (.invokestatic 65, 3))) ?_
  refine And.intro (k_lload (pc := 125) (by decide +kernel : decode cX12_layCut 125 = .ok (.lload 20, 2))) ?_
  refine And.intro (k_lmul (pc := 127) (by decide +kernel : decode cX12_layCut 127 = .ok (.lmul, 1))) ?_
  refine And.intro (k_lstore (pc := 128) (by decide +kernel : decode cX12_layCut 128 = .ok (.lstore 22, 2))) ?_
  refine And.intro (k_lload (pc := 130) (by decide +kernel : decode cX12_layCut 130 = .ok (.lload 14, 2))) ?_
  refine And.intro (k_lload (pc := 132) (by decide +kernel : decode cX12_layCut 132 = .ok (.lload 22, 2))) ?_
  refine And.intro (k_ldiv (pc := 134) (by decide +kernel : decode cX12_layCut 134 = .ok (.ldiv, 1))) ?_
  refine And.intro (k_l2i (pc := 135) (by decide +kernel : decode cX12_layCut 135 = .ok (.l2i, 1))) ?_
  refine And.intro (k_istore (pc := 136) (by decide +kernel : decode cX12_layCut 136 = .ok (.istore 24, 2))) ?_
  refine And.intro (k_lload (pc := 138) (by decide +kernel : decode cX12_layCut 138 = .ok (.lload 16, 2))) ?_
  refine And.intro (k_lneg (pc := 140) (by decide +kernel : decode cX12_layCut 140 = .ok (.lneg, 1))) ?_
  refine And.intro (k_lload (pc := 141) (by decide +kernel : decode cX12_layCut 141 = .ok (.lload 22, 2))) ?_
  refine And.intro (k_ldiv (pc := 143) (by decide +kernel : decode cX12_layCut 143 = .ok (.ldiv, 1))) ?_
  refine And.intro (k_l2i (pc := 144) (by decide +kernel : decode cX12_layCut 144 = .ok (.l2i, 1))) ?_
  refine And.intro (k_istore (pc := 145) (by decide +kernel : decode cX12_layCut 145 = .ok (.istore 25, 2))) ?_
  refine And.intro (k_lload (pc := 147) (by decide +kernel : decode cX12_layCut 147 = .ok (.lload 18, 2))) ?_
  refine And.intro (k_lload (pc := 149) (by decide +kernel : decode cX12_layCut 149 = .ok (.lload 22, 2))) ?_
  refine And.intro (k_ldiv (pc := 151) (by decide +kernel : decode cX12_layCut 151 = .ok (.ldiv, 1))) ?_
  refine And.intro (k_l2i (pc := 152) (by decide +kernel : decode cX12_layCut 152 = .ok (.l2i, 1))) ?_
  refine And.intro (k_istore (pc := 153) (by decide +kernel : decode cX12_layCut 153 = .ok (.istore 26, 2))) ?_
  refine And.intro (k_aload_n (pc := 155) (by decide +kernel : decode cX12_layCut 155 = .ok (.aload_n 0, 1)) rfl) ?_
  refine And.intro (k_gR (pc := 156) rfl (by decide) rfl zin12 lk_X12_40 (by decide +kernel : decode cX12_layCut 156 = .ok (.getfield 40, 3))) ?_
  refine And.intro (k_iconst (pc := 159) (by decide +kernel : decode cX12_layCut 159 = .ok (.iconst 0, 1)) (by decide)) ?_
  refine And.intro (k_iload_n (pc := 160) (by decide +kernel : decode cX12_layCut 160 = .ok (.iload_n 1, 1)) rfl) ?_
  refine And.intro (k_if_ne (pc := 161) (by decide +kernel : decode cX12_layCut 161 = .ok (.ifCond .ne 8, 3)) (by decide)) ?_
  refine And.intro (k_iload (pc := 164) (by decide +kernel : decode cX12_layCut 164 = .ok (.iload 25, 2))) ?_
  refine And.intro (k_goto (pc := 166) (by decide +kernel : decode cX12_layCut 166 = .ok (.goto 5, 3)) (by decide)) ?_
  refine And.intro (k_iload (pc := 169) (by decide +kernel : decode cX12_layCut 169 = .ok (.iload 24, 2))) ?_
  refine And.intro (k_iast (pc := 171) (by decide +kernel : decode cX12_layCut 171 = .ok (.iastore, 1))) ?_
  refine And.intro (k_aload_n (pc := 172) (by decide +kernel : decode cX12_layCut 172 = .ok (.aload_n 0, 1)) rfl) ?_
  refine And.intro (k_gR (pc := 173) rfl (by decide) rfl zin12 lk_X12_40 (by decide +kernel : decode cX12_layCut 173 = .ok (.getfield 40, 3))) ?_
  refine And.intro (k_iconst (pc := 176) (by decide +kernel : decode cX12_layCut 176 = .ok (.iconst 1, 1)) (by decide)) ?_
  refine And.intro (k_iload_n (pc := 177) (by decide +kernel : decode cX12_layCut 177 = .ok (.iload_n 1, 1)) rfl) ?_
  refine And.intro (k_if_ne (pc := 178) (by decide +kernel : decode cX12_layCut 178 = .ok (.ifCond .ne 8, 3)) (by decide)) ?_
  refine And.intro (k_iload (pc := 181) (by decide +kernel : decode cX12_layCut 181 = .ok (.iload 24, 2))) ?_
  refine And.intro (k_goto (pc := 183) (by decide +kernel : decode cX12_layCut 183 = .ok (.goto 5, 3)) (by decide)) ?_
  refine And.intro (k_iload (pc := 186) (by decide +kernel : decode cX12_layCut 186 = .ok (.iload 25, 2))) ?_
  refine And.intro (k_iast (pc := 188) (by decide +kernel : decode cX12_layCut 188 = .ok (.iastore, 1))) ?_
  refine And.intro (k_aload_n (pc := 189) (by decide +kernel : decode cX12_layCut 189 = .ok (.aload_n 0, 1)) rfl) ?_
  refine And.intro (k_gR (pc := 190) rfl (by decide) rfl zin12 lk_X12_40 (by decide +kernel : decode cX12_layCut 190 = .ok (.getfield 40, 3))) ?_
  refine And.intro (k_iconst (pc := 193) (by decide +kernel : decode cX12_layCut 193 = .ok (.iconst 2, 1)) (by decide)) ?_
  refine And.intro (k_iload (pc := 194) (by decide +kernel : decode cX12_layCut 194 = .ok (.iload 26, 2))) ?_
  refine And.intro (k_iast (pc := 196) (by decide +kernel : decode cX12_layCut 196 = .ok (.iastore, 1))) ?_
  refine And.intro (k_aload_n (pc := 197) (by decide +kernel : decode cX12_layCut 197 = .ok (.aload_n 0, 1)) rfl) ?_
  refine And.intro (k_gR (pc := 198) rfl (by decide) rfl zin12 lk_X12_40 (by decide +kernel : decode cX12_layCut 198 = .ok (.getfield 40, 3))) ?_
  refine And.intro (k_iconst (pc := 201) (by decide +kernel : decode cX12_layCut 201 = .ok (.iconst 3, 1)) (by decide)) ?_
  refine And.intro (k_iload_n (pc := 202) (by decide +kernel : decode cX12_layCut 202 = .ok (.iload_n 1, 1)) rfl) ?_
  refine And.intro (k_iast (pc := 203) (by decide +kernel : decode cX12_layCut 203 = .ok (.iastore, 1))) ?_
  refine And.intro (k_aload_n (pc := 204) (by decide +kernel : decode cX12_layCut 204 = .ok (.aload_n 0, 1)) rfl) ?_
  refine And.intro (k_gR (pc := 205) rfl (by decide) rfl zin12 lk_X12_40 (by decide +kernel : decode cX12_layCut 205 = .ok (.getfield 40, 3))) ?_
  refine And.intro (k_iconst (pc := 208) (by decide +kernel : decode cX12_layCut 208 = .ok (.iconst 4, 1)) (by decide)) ?_
  refine And.intro (k_iload_n (pc := 209) (by decide +kernel : decode cX12_layCut 209 = .ok (.iload_n 3, 1)) rfl) ?_
  refine And.intro (k_iast (pc := 210) (by decide +kernel : decode cX12_layCut 210 = .ok (.iastore, 1))) ?_
  refine And.intro (k_aload_n (pc := 211) (by decide +kernel : decode cX12_layCut 211 = .ok (.aload_n 0, 1)) rfl) ?_
  refine And.intro (k_iload_n (pc := 212) (by decide +kernel : decode cX12_layCut 212 = .ok (.iload_n 1, 1)) rfl) ?_
  refine And.intro (k_iload_n (pc := 213) (by decide +kernel : decode cX12_layCut 213 = .ok (.iload_n 2, 1)) rfl) ?_
  refine And.intro (k_iload_n (pc := 214) (by decide +kernel : decode cX12_layCut 214 = .ok (.iload_n 3, 1)) rfl) ?_
  refine And.intro (k_lload (pc := 215) (by decide +kernel : decode cX12_layCut 215 = .ok (.lload 6, 2))) ?_
  refine And.intro (k_lload (pc := 217) (by decide +kernel : decode cX12_layCut 217 = .ok (.lload 8, 2))) ?_
  refine And.intro (k_crV (n := 5) (pc := 219) hG (zRoom_self 3) (tag := 12) rfl ini_X12 im_X12_bounding se_X12_bounding mk_X12_270 dy_X12_bounding (by decide +kernel : decode cX12_layCut 219 = .ok (.invokevirtual 270, 3))) ?_
  refine And.intro (k_istore (pc := 222) (by decide +kernel : decode cX12_layCut 222 = .ok (.istore 27, 2))) ?_
  refine And.intro (k_aload_n (pc := 224) (by decide +kernel : decode cX12_layCut 224 = .ok (.aload_n 0, 1)) rfl) ?_
  refine And.intro (k_iload_n (pc := 225) (by decide +kernel : decode cX12_layCut 225 = .ok (.iload_n 1, 1)) rfl) ?_
  refine And.intro (k_iload_n (pc := 226) (by decide +kernel : decode cX12_layCut 226 = .ok (.iload_n 2, 1)) rfl) ?_
  refine And.intro (k_iload_n (pc := 227) (by decide +kernel : decode cX12_layCut 227 = .ok (.iload_n 3, 1)) rfl) ?_
  refine And.intro (k_iconst (pc := 228) (by decide +kernel : decode cX12_layCut 228 = .ok (.iconst 1, 1)) (by decide)) ?_
  refine And.intro (k_iadd (pc := 229) (by decide +kernel : decode cX12_layCut 229 = .ok (.iadd, 1))) ?_
  refine And.intro (k_lload (pc := 230) (by decide +kernel : decode cX12_layCut 230 = .ok (.lload 10, 2))) ?_
  refine And.intro (k_lload (pc := 232) (by decide +kernel : decode cX12_layCut 232 = .ok (.lload 12, 2))) ?_
  refine And.intro (k_crV (n := 5) (pc := 234) hG (zRoom_self 3) (tag := 12) rfl ini_X12 im_X12_bounding se_X12_bounding mk_X12_270 dy_X12_bounding (by decide +kernel : decode cX12_layCut 234 = .ok (.invokevirtual 270, 3))) ?_
  refine And.intro (k_istore (pc := 237) (by decide +kernel : decode cX12_layCut 237 = .ok (.istore 28, 2))) ?_
  refine And.intro (k_aload_n (pc := 239) (by decide +kernel : decode cX12_layCut 239 = .ok (.aload_n 0, 1)) rfl) ?_
  refine And.intro (k_gR (pc := 240) rfl (by decide) rfl zin12 lk_X12_40 (by decide +kernel : decode cX12_layCut 240 = .ok (.getfield 40, 3))) ?_
  refine And.intro (k_iconst (pc := 243) (by decide +kernel : decode cX12_layCut 243 = .ok (.iconst 5, 1)) (by decide)) ?_
  refine And.intro (k_iload (pc := 244) (by decide +kernel : decode cX12_layCut 244 = .ok (.iload 27, 2))) ?_
  refine And.intro (k_iast (pc := 246) (by decide +kernel : decode cX12_layCut 246 = .ok (.iastore, 1))) ?_
  refine And.intro (k_aload_n (pc := 247) (by decide +kernel : decode cX12_layCut 247 = .ok (.aload_n 0, 1)) rfl) ?_
  refine And.intro (k_gR (pc := 248) rfl (by decide) rfl zin12 lk_X12_40 (by decide +kernel : decode cX12_layCut 248 = .ok (.getfield 40, 3))) ?_
  refine And.intro (k_bipush (pc := 251) (by decide +kernel : decode cX12_layCut 251 = .ok (.bipush 6, 2)) (by decide)) ?_
  refine And.intro (k_iload (pc := 253) (by decide +kernel : decode cX12_layCut 253 = .ok (.iload 28, 2))) ?_
  refine And.intro (k_iast (pc := 255) (by decide +kernel : decode cX12_layCut 255 = .ok (.iastore, 1))) ?_
  refine And.intro (k_aload_n (pc := 256) (by decide +kernel : decode cX12_layCut 256 = .ok (.aload_n 0, 1)) rfl) ?_
  refine And.intro (k_bipush (pc := 257) (by decide +kernel : decode cX12_layCut 257 = .ok (.bipush 7, 2)) (by decide)) ?_
  refine And.intro (k_iload (pc := 259) (by decide +kernel : decode cX12_layCut 259 = .ok (.iload 24, 2))) ?_
  refine And.intro (k_i2l (pc := 261) (by decide +kernel : decode cX12_layCut 261 = .ok (.i2l, 1))) ?_
  refine And.intro (k_aload_n (pc := 262) (by decide +kernel : decode cX12_layCut 262 = .ok (.aload_n 0, 1)) rfl) ?_
  refine And.intro (k_iload (pc := 263) (by decide +kernel : decode cX12_layCut 263 = .ok (.iload 27, 2))) ?_
  refine And.intro (k_iconst (pc := 265) (by decide +kernel : decode cX12_layCut 265 = .ok (.iconst 1, 1)) (by decide)) ?_
  refine And.intro (k_iload_n (pc := 266) (by decide +kernel : decode cX12_layCut 266 = .ok (.iload_n 1, 1)) rfl) ?_
  refine And.intro (k_isub (pc := 267) (by decide +kernel : decode cX12_layCut 267 = .ok (.isub, 1))) ?_
  refine And.intro (k_crV (n := 2) (pc := 268) hG (zRoom_self 3) (tag := 12) rfl ini_X12 im_X12_of se_X12_of mk_X12_145 dy_X12_of (by decide +kernel : decode cX12_layCut 268 = .ok (.invokevirtual 145, 3))) ?_
  refine And.intro (k_i2l (pc := 271) (by decide +kernel : decode cX12_layCut 271 = .ok (.i2l, 1))) ?_
  refine And.intro (k_cvV (n := 3) (pc := 272) hG (zRoom_self 3) (tag := 12) rfl ini_X12 im_X12_putFraction se_X12_putFraction mk_X12_274 dy_X12_putFraction (by decide +kernel : decode cX12_layCut 272 = .ok (.invokevirtual 274, 3))) ?_
  refine And.intro (k_aload_n (pc := 275) (by decide +kernel : decode cX12_layCut 275 = .ok (.aload_n 0, 1)) rfl) ?_
  refine And.intro (k_bipush (pc := 276) (by decide +kernel : decode cX12_layCut 276 = .ok (.bipush 9, 2)) (by decide)) ?_
  refine And.intro (k_iload (pc := 278) (by decide +kernel : decode cX12_layCut 278 = .ok (.iload 25, 2))) ?_
  refine And.intro (k_i2l (pc := 280) (by decide +kernel : decode cX12_layCut 280 = .ok (.i2l, 1))) ?_
  refine And.intro (k_aload_n (pc := 281) (by decide +kernel : decode cX12_layCut 281 = .ok (.aload_n 0, 1)) rfl) ?_
  refine And.intro (k_iload (pc := 282) (by decide +kernel : decode cX12_layCut 282 = .ok (.iload 27, 2))) ?_
  refine And.intro (k_iconst (pc := 284) (by decide +kernel : decode cX12_layCut 284 = .ok (.iconst 1, 1)) (by decide)) ?_
  refine And.intro (k_iload_n (pc := 285) (by decide +kernel : decode cX12_layCut 285 = .ok (.iload_n 1, 1)) rfl) ?_
  refine And.intro (k_isub (pc := 286) (by decide +kernel : decode cX12_layCut 286 = .ok (.isub, 1))) ?_
  refine And.intro (k_crV (n := 2) (pc := 287) hG (zRoom_self 3) (tag := 12) rfl ini_X12 im_X12_of se_X12_of mk_X12_145 dy_X12_of (by decide +kernel : decode cX12_layCut 287 = .ok (.invokevirtual 145, 3))) ?_
  refine And.intro (k_i2l (pc := 290) (by decide +kernel : decode cX12_layCut 290 = .ok (.i2l, 1))) ?_
  refine And.intro (k_lmul (pc := 291) (by decide +kernel : decode cX12_layCut 291 = .ok (.lmul, 1))) ?_
  refine And.intro (k_iload (pc := 292) (by decide +kernel : decode cX12_layCut 292 = .ok (.iload 24, 2))) ?_
  refine And.intro (k_i2l (pc := 294) (by decide +kernel : decode cX12_layCut 294 = .ok (.i2l, 1))) ?_
  refine And.intro (k_aload_n (pc := 295) (by decide +kernel : decode cX12_layCut 295 = .ok (.aload_n 0, 1)) rfl) ?_
  refine And.intro (k_iload (pc := 296) (by decide +kernel : decode cX12_layCut 296 = .ok (.iload 27, 2))) ?_
  refine And.intro (k_iload_n (pc := 298) (by decide +kernel : decode cX12_layCut 298 = .ok (.iload_n 1, 1)) rfl) ?_
  refine And.intro (k_crV (n := 2) (pc := 299) hG (zRoom_self 3) (tag := 12) rfl ini_X12 im_X12_of se_X12_of mk_X12_145 dy_X12_of (by decide +kernel : decode cX12_layCut 299 = .ok (.invokevirtual 145, 3))) ?_
  refine And.intro (k_i2l (pc := 302) (by decide +kernel : decode cX12_layCut 302 = .ok (.i2l, 1))) ?_
  refine And.intro (k_lmul (pc := 303) (by decide +kernel : decode cX12_layCut 303 = .ok (.lmul, 1))) ?_
  refine And.intro (k_lsub (pc := 304) (by decide +kernel : decode cX12_layCut 304 = .ok (.lsub, 1))) ?_
  refine And.intro (k_aload_n (pc := 305) (by decide +kernel : decode cX12_layCut 305 = .ok (.aload_n 0, 1)) rfl) ?_
  refine And.intro (k_iload (pc := 306) (by decide +kernel : decode cX12_layCut 306 = .ok (.iload 27, 2))) ?_
  refine And.intro (k_iconst (pc := 308) (by decide +kernel : decode cX12_layCut 308 = .ok (.iconst 1, 1)) (by decide)) ?_
  refine And.intro (k_iload_n (pc := 309) (by decide +kernel : decode cX12_layCut 309 = .ok (.iload_n 1, 1)) rfl) ?_
  refine And.intro (k_isub (pc := 310) (by decide +kernel : decode cX12_layCut 310 = .ok (.isub, 1))) ?_
  refine And.intro (k_crV (n := 2) (pc := 311) hG (zRoom_self 3) (tag := 12) rfl ini_X12 im_X12_of se_X12_of mk_X12_145 dy_X12_of (by decide +kernel : decode cX12_layCut 311 = .ok (.invokevirtual 145, 3))) ?_
  refine And.intro (k_i2l (pc := 314) (by decide +kernel : decode cX12_layCut 314 = .ok (.i2l, 1))) ?_
  refine And.intro (k_cvV (n := 3) (pc := 315) hG (zRoom_self 3) (tag := 12) rfl ini_X12 im_X12_putFraction se_X12_putFraction mk_X12_274 dy_X12_putFraction (by decide +kernel : decode cX12_layCut 315 = .ok (.invokevirtual 274, 3))) ?_
  refine And.intro (k_aload_n (pc := 318) (by decide +kernel : decode cX12_layCut 318 = .ok (.aload_n 0, 1)) rfl) ?_
  refine And.intro (k_bipush (pc := 319) (by decide +kernel : decode cX12_layCut 319 = .ok (.bipush 11, 2)) (by decide)) ?_
  refine And.intro (k_iload (pc := 321) (by decide +kernel : decode cX12_layCut 321 = .ok (.iload 24, 2))) ?_
  refine And.intro (k_i2l (pc := 323) (by decide +kernel : decode cX12_layCut 323 = .ok (.i2l, 1))) ?_
  refine And.intro (k_aload_n (pc := 324) (by decide +kernel : decode cX12_layCut 324 = .ok (.aload_n 0, 1)) rfl) ?_
  refine And.intro (k_iload (pc := 325) (by decide +kernel : decode cX12_layCut 325 = .ok (.iload 28, 2))) ?_
  refine And.intro (k_iconst (pc := 327) (by decide +kernel : decode cX12_layCut 327 = .ok (.iconst 1, 1)) (by decide)) ?_
  refine And.intro (k_iload_n (pc := 328) (by decide +kernel : decode cX12_layCut 328 = .ok (.iload_n 1, 1)) rfl) ?_
  refine And.intro (k_isub (pc := 329) (by decide +kernel : decode cX12_layCut 329 = .ok (.isub, 1))) ?_
  refine And.intro (k_crV (n := 2) (pc := 330) hG (zRoom_self 3) (tag := 12) rfl ini_X12 im_X12_of se_X12_of mk_X12_145 dy_X12_of (by decide +kernel : decode cX12_layCut 330 = .ok (.invokevirtual 145, 3))) ?_
  refine And.intro (k_i2l (pc := 333) (by decide +kernel : decode cX12_layCut 333 = .ok (.i2l, 1))) ?_
  refine And.intro (k_cvV (n := 3) (pc := 334) hG (zRoom_self 3) (tag := 12) rfl ini_X12 im_X12_putFraction se_X12_putFraction mk_X12_274 dy_X12_putFraction (by decide +kernel : decode cX12_layCut 334 = .ok (.invokevirtual 274, 3))) ?_
  refine And.intro (k_aload_n (pc := 337) (by decide +kernel : decode cX12_layCut 337 = .ok (.aload_n 0, 1)) rfl) ?_
  refine And.intro (k_bipush (pc := 338) (by decide +kernel : decode cX12_layCut 338 = .ok (.bipush 13, 2)) (by decide)) ?_
  refine And.intro (k_iload (pc := 340) (by decide +kernel : decode cX12_layCut 340 = .ok (.iload 24, 2))) ?_
  refine And.intro (k_i2l (pc := 342) (by decide +kernel : decode cX12_layCut 342 = .ok (.i2l, 1))) ?_
  refine And.intro (k_aload_n (pc := 343) (by decide +kernel : decode cX12_layCut 343 = .ok (.aload_n 0, 1)) rfl) ?_
  refine And.intro (k_iload (pc := 344) (by decide +kernel : decode cX12_layCut 344 = .ok (.iload 28, 2))) ?_
  refine And.intro (k_iload_n (pc := 346) (by decide +kernel : decode cX12_layCut 346 = .ok (.iload_n 1, 1)) rfl) ?_
  refine And.intro (k_crV (n := 2) (pc := 347) hG (zRoom_self 3) (tag := 12) rfl ini_X12 im_X12_of se_X12_of mk_X12_145 dy_X12_of (by decide +kernel : decode cX12_layCut 347 = .ok (.invokevirtual 145, 3))) ?_
  refine And.intro (k_i2l (pc := 350) (by decide +kernel : decode cX12_layCut 350 = .ok (.i2l, 1))) ?_
  refine And.intro (k_lmul (pc := 351) (by decide +kernel : decode cX12_layCut 351 = .ok (.lmul, 1))) ?_
  refine And.intro (k_iload (pc := 352) (by decide +kernel : decode cX12_layCut 352 = .ok (.iload 25, 2))) ?_
  refine And.intro (k_i2l (pc := 354) (by decide +kernel : decode cX12_layCut 354 = .ok (.i2l, 1))) ?_
  refine And.intro (k_aload_n (pc := 355) (by decide +kernel : decode cX12_layCut 355 = .ok (.aload_n 0, 1)) rfl) ?_
  refine And.intro (k_iload (pc := 356) (by decide +kernel : decode cX12_layCut 356 = .ok (.iload 28, 2))) ?_
  refine And.intro (k_iconst (pc := 358) (by decide +kernel : decode cX12_layCut 358 = .ok (.iconst 1, 1)) (by decide)) ?_
  refine And.intro (k_iload_n (pc := 359) (by decide +kernel : decode cX12_layCut 359 = .ok (.iload_n 1, 1)) rfl) ?_
  refine And.intro (k_isub (pc := 360) (by decide +kernel : decode cX12_layCut 360 = .ok (.isub, 1))) ?_
  refine And.intro (k_crV (n := 2) (pc := 361) hG (zRoom_self 3) (tag := 12) rfl ini_X12 im_X12_of se_X12_of mk_X12_145 dy_X12_of (by decide +kernel : decode cX12_layCut 361 = .ok (.invokevirtual 145, 3))) ?_
  refine And.intro (k_i2l (pc := 364) (by decide +kernel : decode cX12_layCut 364 = .ok (.i2l, 1))) ?_
  refine And.intro (k_lmul (pc := 365) (by decide +kernel : decode cX12_layCut 365 = .ok (.lmul, 1))) ?_
  refine And.intro (k_lsub (pc := 366) (by decide +kernel : decode cX12_layCut 366 = .ok (.lsub, 1))) ?_
  refine And.intro (k_aload_n (pc := 367) (by decide +kernel : decode cX12_layCut 367 = .ok (.aload_n 0, 1)) rfl) ?_
  refine And.intro (k_iload (pc := 368) (by decide +kernel : decode cX12_layCut 368 = .ok (.iload 28, 2))) ?_
  refine And.intro (k_iconst (pc := 370) (by decide +kernel : decode cX12_layCut 370 = .ok (.iconst 1, 1)) (by decide)) ?_
  refine And.intro (k_iload_n (pc := 371) (by decide +kernel : decode cX12_layCut 371 = .ok (.iload_n 1, 1)) rfl) ?_
  refine And.intro (k_isub (pc := 372) (by decide +kernel : decode cX12_layCut 372 = .ok (.isub, 1))) ?_
  refine And.intro (k_crV (n := 2) (pc := 373) hG (zRoom_self 3) (tag := 12) rfl ini_X12 im_X12_of se_X12_of mk_X12_145 dy_X12_of (by decide +kernel : decode cX12_layCut 373 = .ok (.invokevirtual 145, 3))) ?_
  refine And.intro (k_i2l (pc := 376) (by decide +kernel : decode cX12_layCut 376 = .ok (.i2l, 1))) ?_
  refine And.intro (k_cvV (n := 3) (pc := 377) hG (zRoom_self 3) (tag := 12) rfl ini_X12 im_X12_putFraction se_X12_putFraction mk_X12_274 dy_X12_putFraction (by decide +kernel : decode cX12_layCut 377 = .ok (.invokevirtual 274, 3))) ?_
  refine And.intro (k_return (pc := 380) rfl (by decide +kernel : decode cX12_layCut 380 = .ok (.return_, 1))) ?_
  exact trivial
theorem cdX12_layCut : Cond.code yX12_layCut cX12_layCut 29 none ∈ zWs := zWs_in 1453 (by decide +kernel) rfl
noncomputable def pgX12_cut : zPg := [(0, o_al 0), (1, o_ic (0)), (2, o_pI 12 5), (5, o_al 0), (6, o_il 1), (7, o_il 2), (8, o_il 3), (9, o_vr2 yX12_refusesCut 12 4), (12, o_is 4), (14, o_il 4), (16, o_if_ge 22), (19, o_il 4), (21, o_ir), (22, o_al 0), (23, o_il 1), (24, o_il 2), (25, o_il 3), (26, o_vv yX12_layCut 12 4), (29, o_al 0), (30, o_ic (0)), (31, o_pI 12 4), (34, o_ic (0)), (35, o_is 5), (37, o_il 5), (39, o_ic (3)), (40, o_ic_ge 61), (43, o_al 0), (44, o_al 0), (45, o_gR 12 27), (48, o_il 5), (50, o_xI 14), (51, o_i2l), (52, o_vv yX12_tell 12 2), (55, o_inc 5 (1)), (58, o_go 37), (61, o_ic (5)), (62, o_is 5), (64, o_il 5), (66, o_ic (15)), (68, o_ic_ge 89), (71, o_al 0), (72, o_al 0), (73, o_gR 12 27), (76, o_il 5), (78, o_xI 14), (79, o_i2l), (80, o_vv yX12_tell 12 2), (83, o_inc 5 (1)), (86, o_go 64), (89, o_ic (1)), (90, o_ir)]
set_option maxRecDepth 20000 in
theorem pkX12_cut {G : zG} (hG : zGok G) (Q : zRt) : zPOK G (zRm 6) RX12 cX12_cut 6 (some .int) (zF G Q 0 0) 0 0 (zCalls G 6) Q pgX12_cut := by
  refine And.intro (k_aload_n (pc := 0) (by decide +kernel : decode cX12_cut 0 = .ok (.aload_n 0, 1)) rfl) ?_
  refine And.intro (k_iconst (pc := 1) (by decide +kernel : decode cX12_cut 1 = .ok (.iconst 0, 1)) (by decide)) ?_
  refine And.intro (k_pI (pc := 2) rfl (by decide) rfl zin12 lk_X12_55 tyX12_ok nmX12 rfl (by decide +kernel) (by decide +kernel : decode cX12_cut 2 = .ok (.putfield 55, 3))) ?_
  refine And.intro (k_aload_n (pc := 5) (by decide +kernel : decode cX12_cut 5 = .ok (.aload_n 0, 1)) rfl) ?_
  refine And.intro (k_iload_n (pc := 6) (by decide +kernel : decode cX12_cut 6 = .ok (.iload_n 1, 1)) rfl) ?_
  refine And.intro (k_iload_n (pc := 7) (by decide +kernel : decode cX12_cut 7 = .ok (.iload_n 2, 1)) rfl) ?_
  refine And.intro (k_iload_n (pc := 8) (by decide +kernel : decode cX12_cut 8 = .ok (.iload_n 3, 1)) rfl) ?_
  refine And.intro (k_crV (n := 3) (pc := 9) hG (zRoom_self 6) (tag := 12) rfl ini_X12 im_X12_refusesCut se_X12_refusesCut mk_X12_278 dy_X12_refusesCut (by decide +kernel : decode cX12_cut 9 = .ok (.invokevirtual 278, 3))) ?_
  refine And.intro (k_istore (pc := 12) (by decide +kernel : decode cX12_cut 12 = .ok (.istore 4, 2))) ?_
  refine And.intro (k_iload (pc := 14) (by decide +kernel : decode cX12_cut 14 = .ok (.iload 4, 2))) ?_
  refine And.intro (k_if_ge (pc := 16) (by decide +kernel : decode cX12_cut 16 = .ok (.ifCond .ge 6, 3)) (by decide)) ?_
  refine And.intro (k_iload (pc := 19) (by decide +kernel : decode cX12_cut 19 = .ok (.iload 4, 2))) ?_
  refine And.intro (k_ireturn (pc := 21) rfl (by decide +kernel : decode cX12_cut 21 = .ok (.ireturn, 1))) ?_
  refine And.intro (k_aload_n (pc := 22) (by decide +kernel : decode cX12_cut 22 = .ok (.aload_n 0, 1)) rfl) ?_
  refine And.intro (k_iload_n (pc := 23) (by decide +kernel : decode cX12_cut 23 = .ok (.iload_n 1, 1)) rfl) ?_
  refine And.intro (k_iload_n (pc := 24) (by decide +kernel : decode cX12_cut 24 = .ok (.iload_n 2, 1)) rfl) ?_
  refine And.intro (k_iload_n (pc := 25) (by decide +kernel : decode cX12_cut 25 = .ok (.iload_n 3, 1)) rfl) ?_
  refine And.intro (k_cvV (n := 3) (pc := 26) hG (zRoom_self 6) (tag := 12) rfl ini_X12 im_X12_layCut se_X12_layCut mk_X12_281 dy_X12_layCut (by decide +kernel : decode cX12_cut 26 = .ok (.invokevirtual 281, 3))) ?_
  refine And.intro (k_aload_n (pc := 29) (by decide +kernel : decode cX12_cut 29 = .ok (.aload_n 0, 1)) rfl) ?_
  refine And.intro (k_iconst (pc := 30) (by decide +kernel : decode cX12_cut 30 = .ok (.iconst 0, 1)) (by decide)) ?_
  refine And.intro (k_pI (pc := 31) rfl (by decide) rfl zin12 lk_X12_59 tyX12_ok nmX12 rfl (by decide +kernel) (by decide +kernel : decode cX12_cut 31 = .ok (.putfield 59, 3))) ?_
  refine And.intro (k_iconst (pc := 34) (by decide +kernel : decode cX12_cut 34 = .ok (.iconst 0, 1)) (by decide)) ?_
  refine And.intro (k_istore (pc := 35) (by decide +kernel : decode cX12_cut 35 = .ok (.istore 5, 2))) ?_
  refine And.intro (k_iload (pc := 37) (by decide +kernel : decode cX12_cut 37 = .ok (.iload 5, 2))) ?_
  refine And.intro (k_iconst (pc := 39) (by decide +kernel : decode cX12_cut 39 = .ok (.iconst 3, 1)) (by decide)) ?_
  refine And.intro (k_icmp_ge (pc := 40) (by decide +kernel : decode cX12_cut 40 = .ok (.if_icmp .ge 21, 3)) (by decide)) ?_
  refine And.intro (k_aload_n (pc := 43) (by decide +kernel : decode cX12_cut 43 = .ok (.aload_n 0, 1)) rfl) ?_
  refine And.intro (k_aload_n (pc := 44) (by decide +kernel : decode cX12_cut 44 = .ok (.aload_n 0, 1)) rfl) ?_
  refine And.intro (k_gR (pc := 45) rfl (by decide) rfl zin12 lk_X12_40 (by decide +kernel : decode cX12_cut 45 = .ok (.getfield 40, 3))) ?_
  refine And.intro (k_iload (pc := 48) (by decide +kernel : decode cX12_cut 48 = .ok (.iload 5, 2))) ?_
  refine And.intro (k_iald (pc := 50) (by decide +kernel : decode cX12_cut 50 = .ok (.iaload, 1))) ?_
  refine And.intro (k_i2l (pc := 51) (by decide +kernel : decode cX12_cut 51 = .ok (.i2l, 1))) ?_
  refine And.intro (k_cvV (n := 1) (pc := 52) hG (zRoom_self 6) (tag := 12) rfl ini_X12 im_X12_tell se_X12_tell mk_X12_80 dy_X12_tell (by decide +kernel : decode cX12_cut 52 = .ok (.invokevirtual 80, 3))) ?_
  refine And.intro (k_iinc (pc := 55) (by decide +kernel : decode cX12_cut 55 = .ok (.iinc 5 1, 3)) (by decide)) ?_
  refine And.intro (k_goto (pc := 58) (by decide +kernel : decode cX12_cut 58 = .ok (.goto (-21), 3)) (by decide)) ?_
  refine And.intro (k_iconst (pc := 61) (by decide +kernel : decode cX12_cut 61 = .ok (.iconst 5, 1)) (by decide)) ?_
  refine And.intro (k_istore (pc := 62) (by decide +kernel : decode cX12_cut 62 = .ok (.istore 5, 2))) ?_
  refine And.intro (k_iload (pc := 64) (by decide +kernel : decode cX12_cut 64 = .ok (.iload 5, 2))) ?_
  refine And.intro (k_bipush (pc := 66) (by decide +kernel : decode cX12_cut 66 = .ok (.bipush 15, 2)) (by decide)) ?_
  refine And.intro (k_icmp_ge (pc := 68) (by decide +kernel : decode cX12_cut 68 = .ok (.if_icmp .ge 21, 3)) (by decide)) ?_
  refine And.intro (k_aload_n (pc := 71) (by decide +kernel : decode cX12_cut 71 = .ok (.aload_n 0, 1)) rfl) ?_
  refine And.intro (k_aload_n (pc := 72) (by decide +kernel : decode cX12_cut 72 = .ok (.aload_n 0, 1)) rfl) ?_
  refine And.intro (k_gR (pc := 73) rfl (by decide) rfl zin12 lk_X12_40 (by decide +kernel : decode cX12_cut 73 = .ok (.getfield 40, 3))) ?_
  refine And.intro (k_iload (pc := 76) (by decide +kernel : decode cX12_cut 76 = .ok (.iload 5, 2))) ?_
  refine And.intro (k_iald (pc := 78) (by decide +kernel : decode cX12_cut 78 = .ok (.iaload, 1))) ?_
  refine And.intro (k_i2l (pc := 79) (by decide +kernel : decode cX12_cut 79 = .ok (.i2l, 1))) ?_
  refine And.intro (k_cvV (n := 1) (pc := 80) hG (zRoom_self 6) (tag := 12) rfl ini_X12 im_X12_tell se_X12_tell mk_X12_80 dy_X12_tell (by decide +kernel : decode cX12_cut 80 = .ok (.invokevirtual 80, 3))) ?_
  refine And.intro (k_iinc (pc := 83) (by decide +kernel : decode cX12_cut 83 = .ok (.iinc 5 1, 3)) (by decide)) ?_
  refine And.intro (k_goto (pc := 86) (by decide +kernel : decode cX12_cut 86 = .ok (.goto (-22), 3)) (by decide)) ?_
  refine And.intro (k_iconst (pc := 89) (by decide +kernel : decode cX12_cut 89 = .ok (.iconst 1, 1)) (by decide)) ?_
  refine And.intro (k_ireturn (pc := 90) rfl (by decide +kernel : decode cX12_cut 90 = .ok (.ireturn, 1))) ?_
  exact trivial
theorem cdX12_cut : Cond.code yX12_cut cX12_cut 6 (some .int) ∈ zWs := zWs_in 1445 (by decide +kernel) rfl
noncomputable def pgX12_refusesStore : zPg := [(0, o_al 0), (1, o_il 1), (2, o_il 2), (3, o_il 3), (4, o_vr2 yX12_refusesCut 12 4), (7, o_is 4), (9, o_il 4), (11, o_if_ge 19), (14, o_il 4), (16, o_go 37), (19, o_al 0), (20, o_gR 12 0), (23, o_ic (19)), (25, o_xI 14), (26, o_ic (8)), (28, o_ic_ne 36), (31, o_ic (-3)), (33, o_go 37), (36, o_ic (0)), (37, o_ir)]
set_option maxRecDepth 20000 in
theorem pkX12_refusesStore {G : zG} (hG : zGok G) (Q : zRt) : zPOK G (zRm 6) RX12 cX12_refusesStore 5 (some .int) (zF G Q 0 0) 0 0 (zCalls G 6) Q pgX12_refusesStore := by
  refine And.intro (k_aload_n (pc := 0) (by decide +kernel : decode cX12_refusesStore 0 = .ok (.aload_n 0, 1)) rfl) ?_
  refine And.intro (k_iload_n (pc := 1) (by decide +kernel : decode cX12_refusesStore 1 = .ok (.iload_n 1, 1)) rfl) ?_
  refine And.intro (k_iload_n (pc := 2) (by decide +kernel : decode cX12_refusesStore 2 = .ok (.iload_n 2, 1)) rfl) ?_
  refine And.intro (k_iload_n (pc := 3) (by decide +kernel : decode cX12_refusesStore 3 = .ok (.iload_n 3, 1)) rfl) ?_
  refine And.intro (k_crV (n := 3) (pc := 4) hG (zRoom_self 6) (tag := 12) rfl ini_X12 im_X12_refusesCut se_X12_refusesCut mk_X12_278 dy_X12_refusesCut (by decide +kernel : decode cX12_refusesStore 4 = .ok (.invokevirtual 278, 3))) ?_
  refine And.intro (k_istore (pc := 7) (by decide +kernel : decode cX12_refusesStore 7 = .ok (.istore 4, 2))) ?_
  refine And.intro (k_iload (pc := 9) (by decide +kernel : decode cX12_refusesStore 9 = .ok (.iload 4, 2))) ?_
  refine And.intro (k_if_ge (pc := 11) (by decide +kernel : decode cX12_refusesStore 11 = .ok (.ifCond .ge 8, 3)) (by decide)) ?_
  refine And.intro (k_iload (pc := 14) (by decide +kernel : decode cX12_refusesStore 14 = .ok (.iload 4, 2))) ?_
  refine And.intro (k_goto (pc := 16) (by decide +kernel : decode cX12_refusesStore 16 = .ok (.goto 21, 3)) (by decide)) ?_
  refine And.intro (k_aload_n (pc := 19) (by decide +kernel : decode cX12_refusesStore 19 = .ok (.aload_n 0, 1)) rfl) ?_
  refine And.intro (k_gR (pc := 20) rfl (by decide) rfl zin12 lk_X12_9 (by decide +kernel : decode cX12_refusesStore 20 = .ok (.getfield 9, 3))) ?_
  refine And.intro (k_bipush (pc := 23) (by decide +kernel : decode cX12_refusesStore 23 = .ok (.bipush 19, 2)) (by decide)) ?_
  refine And.intro (k_iald (pc := 25) (by decide +kernel : decode cX12_refusesStore 25 = .ok (.iaload, 1))) ?_
  refine And.intro (k_bipush (pc := 26) (by decide +kernel : decode cX12_refusesStore 26 = .ok (.bipush 8, 2)) (by decide)) ?_
  refine And.intro (k_icmp_ne (pc := 28) (by decide +kernel : decode cX12_refusesStore 28 = .ok (.if_icmp .ne 8, 3)) (by decide)) ?_
  refine And.intro (k_bipush (pc := 31) (by decide +kernel : decode cX12_refusesStore 31 = .ok (.bipush (-3), 2)) (by decide)) ?_
  refine And.intro (k_goto (pc := 33) (by decide +kernel : decode cX12_refusesStore 33 = .ok (.goto 4, 3)) (by decide)) ?_
  refine And.intro (k_iconst (pc := 36) (by decide +kernel : decode cX12_refusesStore 36 = .ok (.iconst 0, 1)) (by decide)) ?_
  refine And.intro (k_ireturn (pc := 37) rfl (by decide +kernel : decode cX12_refusesStore 37 = .ok (.ireturn, 1))) ?_
  exact trivial
theorem cdX12_refusesStore : Cond.code yX12_refusesStore cX12_refusesStore 5 (some .int) ∈ zWs := zWs_in 1470 (by decide +kernel) rfl
noncomputable def pgX12_store : zPg := [(0, o_al 0), (1, o_il 1), (2, o_il 2), (3, o_il 3), (4, o_vv yX12_layCut 12 4), (7, o_ic (0)), (8, o_is 4), (10, o_il 4), (12, o_ic (15)), (14, o_ic_ge 51), (17, o_al 0), (18, o_gR 12 0), (21, o_ic (20)), (23, o_ic (15)), (25, o_al 0), (26, o_gR 12 0), (29, o_ic (19)), (31, o_xI 14), (32, o_imul), (33, o_iadd), (34, o_il 4), (36, o_iadd), (37, o_al 0), (38, o_gR 12 27), (41, o_il 4), (43, o_xI 14), (44, o_yI), (45, o_inc 4 (1)), (48, o_go 10), (51, o_al 0), (52, o_gR 12 0), (55, o_ic (19)), (57, o_dup2), (58, o_xI 14), (59, o_ic (1)), (60, o_iadd), (61, o_yI), (62, o_vr)]
set_option maxRecDepth 20000 in
theorem pkX12_store {G : zG} (hG : zGok G) (Q : zRt) : zPOK G (zRm 4) RX12 cX12_store 5 none (zF G Q 0 0) 0 0 (zCalls G 4) Q pgX12_store := by
  refine And.intro (k_aload_n (pc := 0) (by decide +kernel : decode cX12_store 0 = .ok (.aload_n 0, 1)) rfl) ?_
  refine And.intro (k_iload_n (pc := 1) (by decide +kernel : decode cX12_store 1 = .ok (.iload_n 1, 1)) rfl) ?_
  refine And.intro (k_iload_n (pc := 2) (by decide +kernel : decode cX12_store 2 = .ok (.iload_n 2, 1)) rfl) ?_
  refine And.intro (k_iload_n (pc := 3) (by decide +kernel : decode cX12_store 3 = .ok (.iload_n 3, 1)) rfl) ?_
  refine And.intro (k_cvV (n := 3) (pc := 4) hG (zRoom_self 4) (tag := 12) rfl ini_X12 im_X12_layCut se_X12_layCut mk_X12_281 dy_X12_layCut (by decide +kernel : decode cX12_store 4 = .ok (.invokevirtual 281, 3))) ?_
  refine And.intro (k_iconst (pc := 7) (by decide +kernel : decode cX12_store 7 = .ok (.iconst 0, 1)) (by decide)) ?_
  refine And.intro (k_istore (pc := 8) (by decide +kernel : decode cX12_store 8 = .ok (.istore 4, 2))) ?_
  refine And.intro (k_iload (pc := 10) (by decide +kernel : decode cX12_store 10 = .ok (.iload 4, 2))) ?_
  refine And.intro (k_bipush (pc := 12) (by decide +kernel : decode cX12_store 12 = .ok (.bipush 15, 2)) (by decide)) ?_
  refine And.intro (k_icmp_ge (pc := 14) (by decide +kernel : decode cX12_store 14 = .ok (.if_icmp .ge 37, 3)) (by decide)) ?_
  refine And.intro (k_aload_n (pc := 17) (by decide +kernel : decode cX12_store 17 = .ok (.aload_n 0, 1)) rfl) ?_
  refine And.intro (k_gR (pc := 18) rfl (by decide) rfl zin12 lk_X12_9 (by decide +kernel : decode cX12_store 18 = .ok (.getfield 9, 3))) ?_
  refine And.intro (k_bipush (pc := 21) (by decide +kernel : decode cX12_store 21 = .ok (.bipush 20, 2)) (by decide)) ?_
  refine And.intro (k_bipush (pc := 23) (by decide +kernel : decode cX12_store 23 = .ok (.bipush 15, 2)) (by decide)) ?_
  refine And.intro (k_aload_n (pc := 25) (by decide +kernel : decode cX12_store 25 = .ok (.aload_n 0, 1)) rfl) ?_
  refine And.intro (k_gR (pc := 26) rfl (by decide) rfl zin12 lk_X12_9 (by decide +kernel : decode cX12_store 26 = .ok (.getfield 9, 3))) ?_
  refine And.intro (k_bipush (pc := 29) (by decide +kernel : decode cX12_store 29 = .ok (.bipush 19, 2)) (by decide)) ?_
  refine And.intro (k_iald (pc := 31) (by decide +kernel : decode cX12_store 31 = .ok (.iaload, 1))) ?_
  refine And.intro (k_imul (pc := 32) (by decide +kernel : decode cX12_store 32 = .ok (.imul, 1))) ?_
  refine And.intro (k_iadd (pc := 33) (by decide +kernel : decode cX12_store 33 = .ok (.iadd, 1))) ?_
  refine And.intro (k_iload (pc := 34) (by decide +kernel : decode cX12_store 34 = .ok (.iload 4, 2))) ?_
  refine And.intro (k_iadd (pc := 36) (by decide +kernel : decode cX12_store 36 = .ok (.iadd, 1))) ?_
  refine And.intro (k_aload_n (pc := 37) (by decide +kernel : decode cX12_store 37 = .ok (.aload_n 0, 1)) rfl) ?_
  refine And.intro (k_gR (pc := 38) rfl (by decide) rfl zin12 lk_X12_40 (by decide +kernel : decode cX12_store 38 = .ok (.getfield 40, 3))) ?_
  refine And.intro (k_iload (pc := 41) (by decide +kernel : decode cX12_store 41 = .ok (.iload 4, 2))) ?_
  refine And.intro (k_iald (pc := 43) (by decide +kernel : decode cX12_store 43 = .ok (.iaload, 1))) ?_
  refine And.intro (k_iast (pc := 44) (by decide +kernel : decode cX12_store 44 = .ok (.iastore, 1))) ?_
  refine And.intro (k_iinc (pc := 45) (by decide +kernel : decode cX12_store 45 = .ok (.iinc 4 1, 3)) (by decide)) ?_
  refine And.intro (k_goto (pc := 48) (by decide +kernel : decode cX12_store 48 = .ok (.goto (-38), 3)) (by decide)) ?_
  refine And.intro (k_aload_n (pc := 51) (by decide +kernel : decode cX12_store 51 = .ok (.aload_n 0, 1)) rfl) ?_
  refine And.intro (k_gR (pc := 52) rfl (by decide) rfl zin12 lk_X12_9 (by decide +kernel : decode cX12_store 52 = .ok (.getfield 9, 3))) ?_
  refine And.intro (k_bipush (pc := 55) (by decide +kernel : decode cX12_store 55 = .ok (.bipush 19, 2)) (by decide)) ?_
  refine And.intro (k_dup2 (pc := 57) (by decide +kernel : decode cX12_store 57 = .ok (.dup2, 1))) ?_
  refine And.intro (k_iald (pc := 58) (by decide +kernel : decode cX12_store 58 = .ok (.iaload, 1))) ?_
  refine And.intro (k_iconst (pc := 59) (by decide +kernel : decode cX12_store 59 = .ok (.iconst 1, 1)) (by decide)) ?_
  refine And.intro (k_iadd (pc := 60) (by decide +kernel : decode cX12_store 60 = .ok (.iadd, 1))) ?_
  refine And.intro (k_iast (pc := 61) (by decide +kernel : decode cX12_store 61 = .ok (.iastore, 1))) ?_
  refine And.intro (k_return (pc := 62) rfl (by decide +kernel : decode cX12_store 62 = .ok (.return_, 1))) ?_
  exact trivial
theorem cdX12_store : Cond.code yX12_store cX12_store 5 none ∈ zWs := zWs_in 1474 (by decide +kernel) rfl
noncomputable def pgX12_stores : zPg := [(0, o_al 0), (1, o_ic (0)), (2, o_pI 12 5), (5, o_al 0), (6, o_il 1), (7, o_il 2), (8, o_il 3), (9, o_vr2 yX12_refusesStore 12 4), (12, o_is 4), (14, o_il 4), (16, o_if_ge 22), (19, o_il 4), (21, o_ir), (22, o_al 0), (23, o_vv yX12_change 12 1), (26, o_al 0), (27, o_il 1), (28, o_il 2), (29, o_il 3), (30, o_vv yX12_store 12 4), (33, o_al 0), (34, o_gR 12 0), (37, o_ic (19)), (39, o_xI 14), (40, o_ir)]
set_option maxRecDepth 20000 in
theorem pkX12_stores {G : zG} (hG : zGok G) (Q : zRt) : zPOK G (zRm 7) RX12 cX12_stores 5 (some .int) (zF G Q 0 0) 0 0 (zCalls G 7) Q pgX12_stores := by
  refine And.intro (k_aload_n (pc := 0) (by decide +kernel : decode cX12_stores 0 = .ok (.aload_n 0, 1)) rfl) ?_
  refine And.intro (k_iconst (pc := 1) (by decide +kernel : decode cX12_stores 1 = .ok (.iconst 0, 1)) (by decide)) ?_
  refine And.intro (k_pI (pc := 2) rfl (by decide) rfl zin12 lk_X12_55 tyX12_ok nmX12 rfl (by decide +kernel) (by decide +kernel : decode cX12_stores 2 = .ok (.putfield 55, 3))) ?_
  refine And.intro (k_aload_n (pc := 5) (by decide +kernel : decode cX12_stores 5 = .ok (.aload_n 0, 1)) rfl) ?_
  refine And.intro (k_iload_n (pc := 6) (by decide +kernel : decode cX12_stores 6 = .ok (.iload_n 1, 1)) rfl) ?_
  refine And.intro (k_iload_n (pc := 7) (by decide +kernel : decode cX12_stores 7 = .ok (.iload_n 2, 1)) rfl) ?_
  refine And.intro (k_iload_n (pc := 8) (by decide +kernel : decode cX12_stores 8 = .ok (.iload_n 3, 1)) rfl) ?_
  refine And.intro (k_crV (n := 3) (pc := 9) hG (zRoom_self 7) (tag := 12) rfl ini_X12 im_X12_refusesStore se_X12_refusesStore mk_X12_284 dy_X12_refusesStore (by decide +kernel : decode cX12_stores 9 = .ok (.invokevirtual 284, 3))) ?_
  refine And.intro (k_istore (pc := 12) (by decide +kernel : decode cX12_stores 12 = .ok (.istore 4, 2))) ?_
  refine And.intro (k_iload (pc := 14) (by decide +kernel : decode cX12_stores 14 = .ok (.iload 4, 2))) ?_
  refine And.intro (k_if_ge (pc := 16) (by decide +kernel : decode cX12_stores 16 = .ok (.ifCond .ge 6, 3)) (by decide)) ?_
  refine And.intro (k_iload (pc := 19) (by decide +kernel : decode cX12_stores 19 = .ok (.iload 4, 2))) ?_
  refine And.intro (k_ireturn (pc := 21) rfl (by decide +kernel : decode cX12_stores 21 = .ok (.ireturn, 1))) ?_
  refine And.intro (k_aload_n (pc := 22) (by decide +kernel : decode cX12_stores 22 = .ok (.aload_n 0, 1)) rfl) ?_
  refine And.intro (k_cvV (n := 0) (pc := 23) hG (zRoom_self 7) (tag := 12) rfl ini_X12 im_X12_change se_X12_change mk_X12_139 dy_X12_change (by decide +kernel : decode cX12_stores 23 = .ok (.invokevirtual 139, 3))) ?_
  refine And.intro (k_aload_n (pc := 26) (by decide +kernel : decode cX12_stores 26 = .ok (.aload_n 0, 1)) rfl) ?_
  refine And.intro (k_iload_n (pc := 27) (by decide +kernel : decode cX12_stores 27 = .ok (.iload_n 1, 1)) rfl) ?_
  refine And.intro (k_iload_n (pc := 28) (by decide +kernel : decode cX12_stores 28 = .ok (.iload_n 2, 1)) rfl) ?_
  refine And.intro (k_iload_n (pc := 29) (by decide +kernel : decode cX12_stores 29 = .ok (.iload_n 3, 1)) rfl) ?_
  refine And.intro (k_cvV (n := 3) (pc := 30) hG (zRoom_self 7) (tag := 12) rfl ini_X12 im_X12_store se_X12_store mk_X12_287 dy_X12_store (by decide +kernel : decode cX12_stores 30 = .ok (.invokevirtual 287, 3))) ?_
  refine And.intro (k_aload_n (pc := 33) (by decide +kernel : decode cX12_stores 33 = .ok (.aload_n 0, 1)) rfl) ?_
  refine And.intro (k_gR (pc := 34) rfl (by decide) rfl zin12 lk_X12_9 (by decide +kernel : decode cX12_stores 34 = .ok (.getfield 9, 3))) ?_
  refine And.intro (k_bipush (pc := 37) (by decide +kernel : decode cX12_stores 37 = .ok (.bipush 19, 2)) (by decide)) ?_
  refine And.intro (k_iald (pc := 39) (by decide +kernel : decode cX12_stores 39 = .ok (.iaload, 1))) ?_
  refine And.intro (k_ireturn (pc := 40) rfl (by decide +kernel : decode cX12_stores 40 = .ok (.ireturn, 1))) ?_
  exact trivial
theorem cdX12_stores : Cond.code yX12_stores cX12_stores 5 (some .int) ∈ zWs := zWs_in 1466 (by decide +kernel) rfl
noncomputable def pgX12_stored : zPg := [(0, o_al 0), (1, o_gR 12 0), (4, o_ic (20)), (6, o_ic (15)), (8, o_il 1), (9, o_imul), (10, o_iadd), (11, o_il 2), (12, o_iadd), (13, o_xI 14), (14, o_ir)]
set_option maxRecDepth 20000 in
theorem pkX12_stored {G : zG} (hG : zGok G) (Q : zRt) : zPOK G (zRm 0) RX12 cX12_stored 3 (some .int) (zF G Q 0 0) 0 0 (zCalls G 0) Q pgX12_stored := by
  refine And.intro (k_aload_n (pc := 0) (by decide +kernel : decode cX12_stored 0 = .ok (.aload_n 0, 1)) rfl) ?_
  refine And.intro (k_gR (pc := 1) rfl (by decide) rfl zin12 lk_X12_9 (by decide +kernel : decode cX12_stored 1 = .ok (.getfield 9, 3))) ?_
  refine And.intro (k_bipush (pc := 4) (by decide +kernel : decode cX12_stored 4 = .ok (.bipush 20, 2)) (by decide)) ?_
  refine And.intro (k_bipush (pc := 6) (by decide +kernel : decode cX12_stored 6 = .ok (.bipush 15, 2)) (by decide)) ?_
  refine And.intro (k_iload_n (pc := 8) (by decide +kernel : decode cX12_stored 8 = .ok (.iload_n 1, 1)) rfl) ?_
  refine And.intro (k_imul (pc := 9) (by decide +kernel : decode cX12_stored 9 = .ok (.imul, 1))) ?_
  refine And.intro (k_iadd (pc := 10) (by decide +kernel : decode cX12_stored 10 = .ok (.iadd, 1))) ?_
  refine And.intro (k_iload_n (pc := 11) (by decide +kernel : decode cX12_stored 11 = .ok (.iload_n 2, 1)) rfl) ?_
  refine And.intro (k_iadd (pc := 12) (by decide +kernel : decode cX12_stored 12 = .ok (.iadd, 1))) ?_
  refine And.intro (k_iald (pc := 13) (by decide +kernel : decode cX12_stored 13 = .ok (.iaload, 1))) ?_
  refine And.intro (k_ireturn (pc := 14) rfl (by decide +kernel : decode cX12_stored 14 = .ok (.ireturn, 1))) ?_
  exact trivial
theorem cdX12_stored : Cond.code yX12_stored cX12_stored 3 (some .int) ∈ zWs := zWs_in 1486 (by decide +kernel) rfl
noncomputable def pgX12_proves : zPg := [(0, o_il 2), (1, o_ic (0)), (2, o_al 0), (3, o_vr2 yX12_lines 12 1), (6, o_ic (1)), (7, o_isub), (8, o_cr yX12_in 3), (11, o_if_ne 16), (14, o_ic (0)), (15, o_zr), (16, o_al 0), (17, o_il 1), (18, o_ic (3)), (19, o_vr2 yX12_stored 12 3), (22, o_is 6), (24, o_al 0), (25, o_il 1), (26, o_il 3), (27, o_vr2 yX12_stored 12 3), (30, o_i2l), (31, o_ls 7), (33, o_al 0), (34, o_il 1), (35, o_il 3), (36, o_ic (1)), (37, o_iadd), (38, o_vr2 yX12_stored 12 3), (41, o_i2l), (42, o_ls 9), (44, o_al 0), (45, o_il 1), (46, o_il 3), (47, o_ic (2)), (48, o_iadd), (49, o_vr2 yX12_stored 12 3), (52, o_i2l), (53, o_ls 11), (55, o_al 0), (56, o_il 1), (57, o_il 3), (58, o_ic (3)), (59, o_iadd), (60, o_vr2 yX12_stored 12 3), (63, o_i2l), (64, o_ls 13), (66, o_ic (0)), (67, o_is 15), (69, o_il 15), (71, o_ic (2)), (72, o_ic_ge 140), (75, o_ll 7), (77, o_al 0), (78, o_il 2), (79, o_il 15), (81, o_vr2 yX12_of 12 3), (84, o_i2l), (85, o_lmul), (86, o_ll 13), (88, o_lmul), (89, o_il 15), (91, o_il 6), (93, o_ic_ne 108), (96, o_ll 11), (98, o_il 4), (100, o_i2l), (101, o_lmul), (102, o_ll 9), (104, o_lmul), (105, o_go 109), (108, o_lc 0), (109, o_ladd), (110, o_ls 16), (112, o_ll 16), (114, o_al 0), (115, o_il 1), (116, o_il 15), (118, o_vr2 yX12_stored 12 3), (121, o_i2l), (122, o_ll 9), (124, o_lmul), (125, o_ll 13), (127, o_lmul), (128, o_lc_eq 134), (132, o_ic (0)), (133, o_zr), (134, o_inc 15 (1)), (137, o_go 69), (140, o_ll 7), (142, o_al 0), (143, o_il 2), (144, o_ic (2)), (145, o_vr2 yX12_of 12 3), (148, o_i2l), (149, o_lmul), (150, o_ll 13), (152, o_lmul), (153, o_ll 11), (155, o_il 4), (157, o_i2l), (158, o_lmul), (159, o_il 5), (161, o_i2l), (162, o_lmul), (163, o_ll 9), (165, o_lmul), (166, o_ladd), (167, o_al 0), (168, o_il 1), (169, o_ic (2)), (170, o_vr2 yX12_stored 12 3), (173, o_i2l), (174, o_ll 9), (176, o_lmul), (177, o_ll 13), (179, o_lmul), (180, o_lc_gt 188), (184, o_ic (1)), (185, o_go 189), (188, o_ic (0)), (189, o_zr)]
set_option maxRecDepth 20000 in
theorem pkX12_proves {G : zG} (hG : zGok G) (Q : zRt) : zPOK G (zRm 1) RX12 cX12_proves 18 (some .boolean) (zF G Q 0 0) 0 0 (zCalls G 1) Q pgX12_proves := by
  refine And.intro (k_iload_n (pc := 0) (by decide +kernel : decode cX12_proves 0 = .ok (.iload_n 2, 1)) rfl) ?_
  refine And.intro (k_iconst (pc := 1) (by decide +kernel : decode cX12_proves 1 = .ok (.iconst 0, 1)) (by decide)) ?_
  refine And.intro (k_aload_n (pc := 2) (by decide +kernel : decode cX12_proves 2 = .ok (.aload_n 0, 1)) rfl) ?_
  refine And.intro (k_crV (n := 0) (pc := 3) hG (zRoom_self 1) (tag := 12) rfl ini_X12 im_X12_lines se_X12_lines mk_X12_142 dy_X12_lines (by decide +kernel : decode cX12_proves 3 = .ok (.invokevirtual 142, 3))) ?_
  refine And.intro (k_iconst (pc := 6) (by decide +kernel : decode cX12_proves 6 = .ok (.iconst 1, 1)) (by decide)) ?_
  refine And.intro (k_isub (pc := 7) (by decide +kernel : decode cX12_proves 7 = .ok (.isub, 1))) ?_
  refine And.intro (k_crS (n := 3) (pc := 8) hG (zRoom_self 1) ini_X12 sta_X12_in mk_X12_87 dy_X12_in (by decide +kernel : decode cX12_proves 8 = .ok (.invokestatic 87, 3))) ?_
  refine And.intro (k_if_ne (pc := 11) (by decide +kernel : decode cX12_proves 11 = .ok (.ifCond .ne 5, 3)) (by decide)) ?_
  refine And.intro (k_iconst (pc := 14) (by decide +kernel : decode cX12_proves 14 = .ok (.iconst 0, 1)) (by decide)) ?_
  refine And.intro (k_zreturn (pc := 15) rfl (by decide +kernel : decode cX12_proves 15 = .ok (.ireturn, 1))) ?_
  refine And.intro (k_aload_n (pc := 16) (by decide +kernel : decode cX12_proves 16 = .ok (.aload_n 0, 1)) rfl) ?_
  refine And.intro (k_iload_n (pc := 17) (by decide +kernel : decode cX12_proves 17 = .ok (.iload_n 1, 1)) rfl) ?_
  refine And.intro (k_iconst (pc := 18) (by decide +kernel : decode cX12_proves 18 = .ok (.iconst 3, 1)) (by decide)) ?_
  refine And.intro (k_crV (n := 2) (pc := 19) hG (zRoom_self 1) (tag := 12) rfl ini_X12 im_X12_stored se_X12_stored mk_X12_290 dy_X12_stored (by decide +kernel : decode cX12_proves 19 = .ok (.invokevirtual 290, 3))) ?_
  refine And.intro (k_istore (pc := 22) (by decide +kernel : decode cX12_proves 22 = .ok (.istore 6, 2))) ?_
  refine And.intro (k_aload_n (pc := 24) (by decide +kernel : decode cX12_proves 24 = .ok (.aload_n 0, 1)) rfl) ?_
  refine And.intro (k_iload_n (pc := 25) (by decide +kernel : decode cX12_proves 25 = .ok (.iload_n 1, 1)) rfl) ?_
  refine And.intro (k_iload_n (pc := 26) (by decide +kernel : decode cX12_proves 26 = .ok (.iload_n 3, 1)) rfl) ?_
  refine And.intro (k_crV (n := 2) (pc := 27) hG (zRoom_self 1) (tag := 12) rfl ini_X12 im_X12_stored se_X12_stored mk_X12_290 dy_X12_stored (by decide +kernel : decode cX12_proves 27 = .ok (.invokevirtual 290, 3))) ?_
  refine And.intro (k_i2l (pc := 30) (by decide +kernel : decode cX12_proves 30 = .ok (.i2l, 1))) ?_
  refine And.intro (k_lstore (pc := 31) (by decide +kernel : decode cX12_proves 31 = .ok (.lstore 7, 2))) ?_
  refine And.intro (k_aload_n (pc := 33) (by decide +kernel : decode cX12_proves 33 = .ok (.aload_n 0, 1)) rfl) ?_
  refine And.intro (k_iload_n (pc := 34) (by decide +kernel : decode cX12_proves 34 = .ok (.iload_n 1, 1)) rfl) ?_
  refine And.intro (k_iload_n (pc := 35) (by decide +kernel : decode cX12_proves 35 = .ok (.iload_n 3, 1)) rfl) ?_
  refine And.intro (k_iconst (pc := 36) (by decide +kernel : decode cX12_proves 36 = .ok (.iconst 1, 1)) (by decide)) ?_
  refine And.intro (k_iadd (pc := 37) (by decide +kernel : decode cX12_proves 37 = .ok (.iadd, 1))) ?_
  refine And.intro (k_crV (n := 2) (pc := 38) hG (zRoom_self 1) (tag := 12) rfl ini_X12 im_X12_stored se_X12_stored mk_X12_290 dy_X12_stored (by decide +kernel : decode cX12_proves 38 = .ok (.invokevirtual 290, 3))) ?_
  refine And.intro (k_i2l (pc := 41) (by decide +kernel : decode cX12_proves 41 = .ok (.i2l, 1))) ?_
  refine And.intro (k_lstore (pc := 42) (by decide +kernel : decode cX12_proves 42 = .ok (.lstore 9, 2))) ?_
  refine And.intro (k_aload_n (pc := 44) (by decide +kernel : decode cX12_proves 44 = .ok (.aload_n 0, 1)) rfl) ?_
  refine And.intro (k_iload_n (pc := 45) (by decide +kernel : decode cX12_proves 45 = .ok (.iload_n 1, 1)) rfl) ?_
  refine And.intro (k_iload_n (pc := 46) (by decide +kernel : decode cX12_proves 46 = .ok (.iload_n 3, 1)) rfl) ?_
  refine And.intro (k_iconst (pc := 47) (by decide +kernel : decode cX12_proves 47 = .ok (.iconst 2, 1)) (by decide)) ?_
  refine And.intro (k_iadd (pc := 48) (by decide +kernel : decode cX12_proves 48 = .ok (.iadd, 1))) ?_
  refine And.intro (k_crV (n := 2) (pc := 49) hG (zRoom_self 1) (tag := 12) rfl ini_X12 im_X12_stored se_X12_stored mk_X12_290 dy_X12_stored (by decide +kernel : decode cX12_proves 49 = .ok (.invokevirtual 290, 3))) ?_
  refine And.intro (k_i2l (pc := 52) (by decide +kernel : decode cX12_proves 52 = .ok (.i2l, 1))) ?_
  refine And.intro (k_lstore (pc := 53) (by decide +kernel : decode cX12_proves 53 = .ok (.lstore 11, 2))) ?_
  refine And.intro (k_aload_n (pc := 55) (by decide +kernel : decode cX12_proves 55 = .ok (.aload_n 0, 1)) rfl) ?_
  refine And.intro (k_iload_n (pc := 56) (by decide +kernel : decode cX12_proves 56 = .ok (.iload_n 1, 1)) rfl) ?_
  refine And.intro (k_iload_n (pc := 57) (by decide +kernel : decode cX12_proves 57 = .ok (.iload_n 3, 1)) rfl) ?_
  refine And.intro (k_iconst (pc := 58) (by decide +kernel : decode cX12_proves 58 = .ok (.iconst 3, 1)) (by decide)) ?_
  refine And.intro (k_iadd (pc := 59) (by decide +kernel : decode cX12_proves 59 = .ok (.iadd, 1))) ?_
  refine And.intro (k_crV (n := 2) (pc := 60) hG (zRoom_self 1) (tag := 12) rfl ini_X12 im_X12_stored se_X12_stored mk_X12_290 dy_X12_stored (by decide +kernel : decode cX12_proves 60 = .ok (.invokevirtual 290, 3))) ?_
  refine And.intro (k_i2l (pc := 63) (by decide +kernel : decode cX12_proves 63 = .ok (.i2l, 1))) ?_
  refine And.intro (k_lstore (pc := 64) (by decide +kernel : decode cX12_proves 64 = .ok (.lstore 13, 2))) ?_
  refine And.intro (k_iconst (pc := 66) (by decide +kernel : decode cX12_proves 66 = .ok (.iconst 0, 1)) (by decide)) ?_
  refine And.intro (k_istore (pc := 67) (by decide +kernel : decode cX12_proves 67 = .ok (.istore 15, 2))) ?_
  refine And.intro (k_iload (pc := 69) (by decide +kernel : decode cX12_proves 69 = .ok (.iload 15, 2))) ?_
  refine And.intro (k_iconst (pc := 71) (by decide +kernel : decode cX12_proves 71 = .ok (.iconst 2, 1)) (by decide)) ?_
  refine And.intro (k_icmp_ge (pc := 72) (by decide +kernel : decode cX12_proves 72 = .ok (.if_icmp .ge 68, 3)) (by decide)) ?_
  refine And.intro (k_lload (pc := 75) (by decide +kernel : decode cX12_proves 75 = .ok (.lload 7, 2))) ?_
  refine And.intro (k_aload_n (pc := 77) (by decide +kernel : decode cX12_proves 77 = .ok (.aload_n 0, 1)) rfl) ?_
  refine And.intro (k_iload_n (pc := 78) (by decide +kernel : decode cX12_proves 78 = .ok (.iload_n 2, 1)) rfl) ?_
  refine And.intro (k_iload (pc := 79) (by decide +kernel : decode cX12_proves 79 = .ok (.iload 15, 2))) ?_
  refine And.intro (k_crV (n := 2) (pc := 81) hG (zRoom_self 1) (tag := 12) rfl ini_X12 im_X12_of se_X12_of mk_X12_145 dy_X12_of (by decide +kernel : decode cX12_proves 81 = .ok (.invokevirtual 145, 3))) ?_
  refine And.intro (k_i2l (pc := 84) (by decide +kernel : decode cX12_proves 84 = .ok (.i2l, 1))) ?_
  refine And.intro (k_lmul (pc := 85) (by decide +kernel : decode cX12_proves 85 = .ok (.lmul, 1))) ?_
  refine And.intro (k_lload (pc := 86) (by decide +kernel : decode cX12_proves 86 = .ok (.lload 13, 2))) ?_
  refine And.intro (k_lmul (pc := 88) (by decide +kernel : decode cX12_proves 88 = .ok (.lmul, 1))) ?_
  refine And.intro (k_iload (pc := 89) (by decide +kernel : decode cX12_proves 89 = .ok (.iload 15, 2))) ?_
  refine And.intro (k_iload (pc := 91) (by decide +kernel : decode cX12_proves 91 = .ok (.iload 6, 2))) ?_
  refine And.intro (k_icmp_ne (pc := 93) (by decide +kernel : decode cX12_proves 93 = .ok (.if_icmp .ne 15, 3)) (by decide)) ?_
  refine And.intro (k_lload (pc := 96) (by decide +kernel : decode cX12_proves 96 = .ok (.lload 11, 2))) ?_
  refine And.intro (k_iload (pc := 98) (by decide +kernel : decode cX12_proves 98 = .ok (.iload 4, 2))) ?_
  refine And.intro (k_i2l (pc := 100) (by decide +kernel : decode cX12_proves 100 = .ok (.i2l, 1))) ?_
  refine And.intro (k_lmul (pc := 101) (by decide +kernel : decode cX12_proves 101 = .ok (.lmul, 1))) ?_
  refine And.intro (k_lload (pc := 102) (by decide +kernel : decode cX12_proves 102 = .ok (.lload 9, 2))) ?_
  refine And.intro (k_lmul (pc := 104) (by decide +kernel : decode cX12_proves 104 = .ok (.lmul, 1))) ?_
  refine And.intro (k_goto (pc := 105) (by decide +kernel : decode cX12_proves 105 = .ok (.goto 4, 3)) (by decide)) ?_
  refine And.intro (k_lconst (pc := 108) (by decide +kernel : decode cX12_proves 108 = .ok (.lconst 0, 1)) (by decide)) ?_
  refine And.intro (k_ladd (pc := 109) (by decide +kernel : decode cX12_proves 109 = .ok (.ladd, 1))) ?_
  refine And.intro (k_lstore (pc := 110) (by decide +kernel : decode cX12_proves 110 = .ok (.lstore 16, 2))) ?_
  refine And.intro (k_lload (pc := 112) (by decide +kernel : decode cX12_proves 112 = .ok (.lload 16, 2))) ?_
  refine And.intro (k_aload_n (pc := 114) (by decide +kernel : decode cX12_proves 114 = .ok (.aload_n 0, 1)) rfl) ?_
  refine And.intro (k_iload_n (pc := 115) (by decide +kernel : decode cX12_proves 115 = .ok (.iload_n 1, 1)) rfl) ?_
  refine And.intro (k_iload (pc := 116) (by decide +kernel : decode cX12_proves 116 = .ok (.iload 15, 2))) ?_
  refine And.intro (k_crV (n := 2) (pc := 118) hG (zRoom_self 1) (tag := 12) rfl ini_X12 im_X12_stored se_X12_stored mk_X12_290 dy_X12_stored (by decide +kernel : decode cX12_proves 118 = .ok (.invokevirtual 290, 3))) ?_
  refine And.intro (k_i2l (pc := 121) (by decide +kernel : decode cX12_proves 121 = .ok (.i2l, 1))) ?_
  refine And.intro (k_lload (pc := 122) (by decide +kernel : decode cX12_proves 122 = .ok (.lload 9, 2))) ?_
  refine And.intro (k_lmul (pc := 124) (by decide +kernel : decode cX12_proves 124 = .ok (.lmul, 1))) ?_
  refine And.intro (k_lload (pc := 125) (by decide +kernel : decode cX12_proves 125 = .ok (.lload 13, 2))) ?_
  refine And.intro (k_lmul (pc := 127) (by decide +kernel : decode cX12_proves 127 = .ok (.lmul, 1))) ?_
  refine And.intro (k_lcmp_eq (pc := 128) (by decide +kernel : decode cX12_proves 128 = .ok (.lcmp, 1)) (by decide +kernel : decode cX12_proves 129 = .ok (.ifCond .eq 5, 3)) (by decide)) ?_
  refine And.intro (k_iconst (pc := 132) (by decide +kernel : decode cX12_proves 132 = .ok (.iconst 0, 1)) (by decide)) ?_
  refine And.intro (k_zreturn (pc := 133) rfl (by decide +kernel : decode cX12_proves 133 = .ok (.ireturn, 1))) ?_
  refine And.intro (k_iinc (pc := 134) (by decide +kernel : decode cX12_proves 134 = .ok (.iinc 15 1, 3)) (by decide)) ?_
  refine And.intro (k_goto (pc := 137) (by decide +kernel : decode cX12_proves 137 = .ok (.goto (-68), 3)) (by decide)) ?_
  refine And.intro (k_lload (pc := 140) (by decide +kernel : decode cX12_proves 140 = .ok (.lload 7, 2))) ?_
  refine And.intro (k_aload_n (pc := 142) (by decide +kernel : decode cX12_proves 142 = .ok (.aload_n 0, 1)) rfl) ?_
  refine And.intro (k_iload_n (pc := 143) (by decide +kernel : decode cX12_proves 143 = .ok (.iload_n 2, 1)) rfl) ?_
  refine And.intro (k_iconst (pc := 144) (by decide +kernel : decode cX12_proves 144 = .ok (.iconst 2, 1)) (by decide)) ?_
  refine And.intro (k_crV (n := 2) (pc := 145) hG (zRoom_self 1) (tag := 12) rfl ini_X12 im_X12_of se_X12_of mk_X12_145 dy_X12_of (by decide +kernel : decode cX12_proves 145 = .ok (.invokevirtual 145, 3))) ?_
  refine And.intro (k_i2l (pc := 148) (by decide +kernel : decode cX12_proves 148 = .ok (.i2l, 1))) ?_
  refine And.intro (k_lmul (pc := 149) (by decide +kernel : decode cX12_proves 149 = .ok (.lmul, 1))) ?_
  refine And.intro (k_lload (pc := 150) (by decide +kernel : decode cX12_proves 150 = .ok (.lload 13, 2))) ?_
  refine And.intro (k_lmul (pc := 152) (by decide +kernel : decode cX12_proves 152 = .ok (.lmul, 1))) ?_
  refine And.intro (k_lload (pc := 153) (by decide +kernel : decode cX12_proves 153 = .ok (.lload 11, 2))) ?_
  refine And.intro (k_iload (pc := 155) (by decide +kernel : decode cX12_proves 155 = .ok (.iload 4, 2))) ?_
  refine And.intro (k_i2l (pc := 157) (by decide +kernel : decode cX12_proves 157 = .ok (.i2l, 1))) ?_
  refine And.intro (k_lmul (pc := 158) (by decide +kernel : decode cX12_proves 158 = .ok (.lmul, 1))) ?_
  refine And.intro (k_iload (pc := 159) (by decide +kernel : decode cX12_proves 159 = .ok (.iload 5, 2))) ?_
  refine And.intro (k_i2l (pc := 161) (by decide +kernel : decode cX12_proves 161 = .ok (.i2l, 1))) ?_
  refine And.intro (k_lmul (pc := 162) (by decide +kernel : decode cX12_proves 162 = .ok (.lmul, 1))) ?_
  refine And.intro (k_lload (pc := 163) (by decide +kernel : decode cX12_proves 163 = .ok (.lload 9, 2))) ?_
  refine And.intro (k_lmul (pc := 165) (by decide +kernel : decode cX12_proves 165 = .ok (.lmul, 1))) ?_
  refine And.intro (k_ladd (pc := 166) (by decide +kernel : decode cX12_proves 166 = .ok (.ladd, 1))) ?_
  refine And.intro (k_aload_n (pc := 167) (by decide +kernel : decode cX12_proves 167 = .ok (.aload_n 0, 1)) rfl) ?_
  refine And.intro (k_iload_n (pc := 168) (by decide +kernel : decode cX12_proves 168 = .ok (.iload_n 1, 1)) rfl) ?_
  refine And.intro (k_iconst (pc := 169) (by decide +kernel : decode cX12_proves 169 = .ok (.iconst 2, 1)) (by decide)) ?_
  refine And.intro (k_crV (n := 2) (pc := 170) hG (zRoom_self 1) (tag := 12) rfl ini_X12 im_X12_stored se_X12_stored mk_X12_290 dy_X12_stored (by decide +kernel : decode cX12_proves 170 = .ok (.invokevirtual 290, 3))) ?_
  refine And.intro (k_i2l (pc := 173) (by decide +kernel : decode cX12_proves 173 = .ok (.i2l, 1))) ?_
  refine And.intro (k_lload (pc := 174) (by decide +kernel : decode cX12_proves 174 = .ok (.lload 9, 2))) ?_
  refine And.intro (k_lmul (pc := 176) (by decide +kernel : decode cX12_proves 176 = .ok (.lmul, 1))) ?_
  refine And.intro (k_lload (pc := 177) (by decide +kernel : decode cX12_proves 177 = .ok (.lload 13, 2))) ?_
  refine And.intro (k_lmul (pc := 179) (by decide +kernel : decode cX12_proves 179 = .ok (.lmul, 1))) ?_
  refine And.intro (k_lcmp_gt (pc := 180) (by decide +kernel : decode cX12_proves 180 = .ok (.lcmp, 1)) (by decide +kernel : decode cX12_proves 181 = .ok (.ifCond .gt 7, 3)) (by decide)) ?_
  refine And.intro (k_iconst (pc := 184) (by decide +kernel : decode cX12_proves 184 = .ok (.iconst 1, 1)) (by decide)) ?_
  refine And.intro (k_goto (pc := 185) (by decide +kernel : decode cX12_proves 185 = .ok (.goto 4, 3)) (by decide)) ?_
  refine And.intro (k_iconst (pc := 188) (by decide +kernel : decode cX12_proves 188 = .ok (.iconst 0, 1)) (by decide)) ?_
  refine And.intro (k_zreturn (pc := 189) rfl (by decide +kernel : decode cX12_proves 189 = .ok (.ireturn, 1))) ?_
  exact trivial
theorem cdX12_proves : Cond.code yX12_proves cX12_proves 18 (some .boolean) ∈ zWs := zWs_in 1494 (by decide +kernel) rfl
noncomputable def pgX12_isProven : zPg := [(0, o_al 0), (1, o_il 1), (2, o_ic (4)), (3, o_vr2 yX12_stored 12 3), (6, o_is 2), (7, o_al 0), (8, o_il 1), (9, o_al 0), (10, o_il 1), (11, o_ic (5)), (12, o_vr2 yX12_stored 12 3), (15, o_ic (7)), (17, o_ic (1)), (18, o_il 2), (19, o_vr2 yX12_proves 12 6), (22, o_if_eq 50), (25, o_al 0), (26, o_il 1), (27, o_al 0), (28, o_il 1), (29, o_ic (6)), (31, o_vr2 yX12_stored 12 3), (34, o_ic (11)), (36, o_ic (-1)), (37, o_il 2), (38, o_ic (1)), (39, o_iadd), (40, o_vr2 yX12_proves 12 6), (43, o_if_eq 50), (46, o_ic (1)), (47, o_go 51), (50, o_ic (0)), (51, o_zr)]
set_option maxRecDepth 20000 in
theorem pkX12_isProven {G : zG} (hG : zGok G) (Q : zRt) : zPOK G (zRm 2) RX12 cX12_isProven 3 (some .boolean) (zF G Q 0 0) 0 0 (zCalls G 2) Q pgX12_isProven := by
  refine And.intro (k_aload_n (pc := 0) (by decide +kernel : decode cX12_isProven 0 = .ok (.aload_n 0, 1)) rfl) ?_
  refine And.intro (k_iload_n (pc := 1) (by decide +kernel : decode cX12_isProven 1 = .ok (.iload_n 1, 1)) rfl) ?_
  refine And.intro (k_iconst (pc := 2) (by decide +kernel : decode cX12_isProven 2 = .ok (.iconst 4, 1)) (by decide)) ?_
  refine And.intro (k_crV (n := 2) (pc := 3) hG (zRoom_self 2) (tag := 12) rfl ini_X12 im_X12_stored se_X12_stored mk_X12_290 dy_X12_stored (by decide +kernel : decode cX12_isProven 3 = .ok (.invokevirtual 290, 3))) ?_
  refine And.intro (k_istore_n (pc := 6) (by decide +kernel : decode cX12_isProven 6 = .ok (.istore_n 2, 1)) rfl) ?_
  refine And.intro (k_aload_n (pc := 7) (by decide +kernel : decode cX12_isProven 7 = .ok (.aload_n 0, 1)) rfl) ?_
  refine And.intro (k_iload_n (pc := 8) (by decide +kernel : decode cX12_isProven 8 = .ok (.iload_n 1, 1)) rfl) ?_
  refine And.intro (k_aload_n (pc := 9) (by decide +kernel : decode cX12_isProven 9 = .ok (.aload_n 0, 1)) rfl) ?_
  refine And.intro (k_iload_n (pc := 10) (by decide +kernel : decode cX12_isProven 10 = .ok (.iload_n 1, 1)) rfl) ?_
  refine And.intro (k_iconst (pc := 11) (by decide +kernel : decode cX12_isProven 11 = .ok (.iconst 5, 1)) (by decide)) ?_
  refine And.intro (k_crV (n := 2) (pc := 12) hG (zRoom_self 2) (tag := 12) rfl ini_X12 im_X12_stored se_X12_stored mk_X12_290 dy_X12_stored (by decide +kernel : decode cX12_isProven 12 = .ok (.invokevirtual 290, 3))) ?_
  refine And.intro (k_bipush (pc := 15) (by decide +kernel : decode cX12_isProven 15 = .ok (.bipush 7, 2)) (by decide)) ?_
  refine And.intro (k_iconst (pc := 17) (by decide +kernel : decode cX12_isProven 17 = .ok (.iconst 1, 1)) (by decide)) ?_
  refine And.intro (k_iload_n (pc := 18) (by decide +kernel : decode cX12_isProven 18 = .ok (.iload_n 2, 1)) rfl) ?_
  refine And.intro (k_crV (n := 5) (pc := 19) hG (zRoom_self 2) (tag := 12) rfl ini_X12 im_X12_proves se_X12_proves mk_X12_293 dy_X12_proves (by decide +kernel : decode cX12_isProven 19 = .ok (.invokevirtual 293, 3))) ?_
  refine And.intro (k_if_eq (pc := 22) (by decide +kernel : decode cX12_isProven 22 = .ok (.ifCond .eq 28, 3)) (by decide)) ?_
  refine And.intro (k_aload_n (pc := 25) (by decide +kernel : decode cX12_isProven 25 = .ok (.aload_n 0, 1)) rfl) ?_
  refine And.intro (k_iload_n (pc := 26) (by decide +kernel : decode cX12_isProven 26 = .ok (.iload_n 1, 1)) rfl) ?_
  refine And.intro (k_aload_n (pc := 27) (by decide +kernel : decode cX12_isProven 27 = .ok (.aload_n 0, 1)) rfl) ?_
  refine And.intro (k_iload_n (pc := 28) (by decide +kernel : decode cX12_isProven 28 = .ok (.iload_n 1, 1)) rfl) ?_
  refine And.intro (k_bipush (pc := 29) (by decide +kernel : decode cX12_isProven 29 = .ok (.bipush 6, 2)) (by decide)) ?_
  refine And.intro (k_crV (n := 2) (pc := 31) hG (zRoom_self 2) (tag := 12) rfl ini_X12 im_X12_stored se_X12_stored mk_X12_290 dy_X12_stored (by decide +kernel : decode cX12_isProven 31 = .ok (.invokevirtual 290, 3))) ?_
  refine And.intro (k_bipush (pc := 34) (by decide +kernel : decode cX12_isProven 34 = .ok (.bipush 11, 2)) (by decide)) ?_
  refine And.intro (k_iconst (pc := 36) (by decide +kernel : decode cX12_isProven 36 = .ok (.iconst (-1), 1)) (by decide)) ?_
  refine And.intro (k_iload_n (pc := 37) (by decide +kernel : decode cX12_isProven 37 = .ok (.iload_n 2, 1)) rfl) ?_
  refine And.intro (k_iconst (pc := 38) (by decide +kernel : decode cX12_isProven 38 = .ok (.iconst 1, 1)) (by decide)) ?_
  refine And.intro (k_iadd (pc := 39) (by decide +kernel : decode cX12_isProven 39 = .ok (.iadd, 1))) ?_
  refine And.intro (k_crV (n := 5) (pc := 40) hG (zRoom_self 2) (tag := 12) rfl ini_X12 im_X12_proves se_X12_proves mk_X12_293 dy_X12_proves (by decide +kernel : decode cX12_isProven 40 = .ok (.invokevirtual 293, 3))) ?_
  refine And.intro (k_if_eq (pc := 43) (by decide +kernel : decode cX12_isProven 43 = .ok (.ifCond .eq 7, 3)) (by decide)) ?_
  refine And.intro (k_iconst (pc := 46) (by decide +kernel : decode cX12_isProven 46 = .ok (.iconst 1, 1)) (by decide)) ?_
  refine And.intro (k_goto (pc := 47) (by decide +kernel : decode cX12_isProven 47 = .ok (.goto 4, 3)) (by decide)) ?_
  refine And.intro (k_iconst (pc := 50) (by decide +kernel : decode cX12_isProven 50 = .ok (.iconst 0, 1)) (by decide)) ?_
  refine And.intro (k_zreturn (pc := 51) rfl (by decide +kernel : decode cX12_isProven 51 = .ok (.ireturn, 1))) ?_
  exact trivial
theorem cdX12_isProven : Cond.code yX12_isProven cX12_isProven 3 (some .boolean) ∈ zWs := zWs_in 1490 (by decide +kernel) rfl
noncomputable def pgX12_isStored : zPg := [(0, o_il 1), (1, o_ic (0)), (2, o_al 0), (3, o_gR 12 0), (6, o_ic (19)), (8, o_xI 14), (9, o_ic (1)), (10, o_isub), (11, o_cr yX12_in 3), (14, o_zr)]
set_option maxRecDepth 20000 in
theorem pkX12_isStored {G : zG} (hG : zGok G) (Q : zRt) : zPOK G (zRm 1) RX12 cX12_isStored 2 (some .boolean) (zF G Q 0 0) 0 0 (zCalls G 1) Q pgX12_isStored := by
  refine And.intro (k_iload_n (pc := 0) (by decide +kernel : decode cX12_isStored 0 = .ok (.iload_n 1, 1)) rfl) ?_
  refine And.intro (k_iconst (pc := 1) (by decide +kernel : decode cX12_isStored 1 = .ok (.iconst 0, 1)) (by decide)) ?_
  refine And.intro (k_aload_n (pc := 2) (by decide +kernel : decode cX12_isStored 2 = .ok (.aload_n 0, 1)) rfl) ?_
  refine And.intro (k_gR (pc := 3) rfl (by decide) rfl zin12 lk_X12_9 (by decide +kernel : decode cX12_isStored 3 = .ok (.getfield 9, 3))) ?_
  refine And.intro (k_bipush (pc := 6) (by decide +kernel : decode cX12_isStored 6 = .ok (.bipush 19, 2)) (by decide)) ?_
  refine And.intro (k_iald (pc := 8) (by decide +kernel : decode cX12_isStored 8 = .ok (.iaload, 1))) ?_
  refine And.intro (k_iconst (pc := 9) (by decide +kernel : decode cX12_isStored 9 = .ok (.iconst 1, 1)) (by decide)) ?_
  refine And.intro (k_isub (pc := 10) (by decide +kernel : decode cX12_isStored 10 = .ok (.isub, 1))) ?_
  refine And.intro (k_crS (n := 3) (pc := 11) hG (zRoom_self 1) ini_X12 sta_X12_in mk_X12_87 dy_X12_in (by decide +kernel : decode cX12_isStored 11 = .ok (.invokestatic 87, 3))) ?_
  refine And.intro (k_zreturn (pc := 14) rfl (by decide +kernel : decode cX12_isStored 14 = .ok (.ireturn, 1))) ?_
  exact trivial
theorem cdX12_isStored : Cond.code yX12_isStored cX12_isStored 2 (some .boolean) ∈ zWs := zWs_in 1482 (by decide +kernel) rfl
noncomputable def pgX12_checks : zPg := [(0, o_al 0), (1, o_ic (0)), (2, o_pI 12 5), (5, o_al 0), (6, o_il 1), (7, o_vr2 yX12_isStored 12 2), (10, o_if_ne 15), (13, o_ic (-1)), (14, o_ir), (15, o_al 0), (16, o_ic (0)), (17, o_pI 12 4), (20, o_ic (0)), (21, o_is 2), (22, o_il 2), (23, o_ic (3)), (24, o_ic_ge 44), (27, o_al 0), (28, o_al 0), (29, o_il 1), (30, o_il 2), (31, o_vr2 yX12_stored 12 3), (34, o_i2l), (35, o_vv yX12_tell 12 2), (38, o_inc 2 (1)), (41, o_go 22), (44, o_al 0), (45, o_il 1), (46, o_vr2 yX12_isProven 12 2), (49, o_if_eq 56), (52, o_ic (1)), (53, o_go 57), (56, o_ic (0)), (57, o_ir)]
set_option maxRecDepth 20000 in
theorem pkX12_checks {G : zG} (hG : zGok G) (Q : zRt) : zPOK G (zRm 3) RX12 cX12_checks 3 (some .int) (zF G Q 0 0) 0 0 (zCalls G 3) Q pgX12_checks := by
  refine And.intro (k_aload_n (pc := 0) (by decide +kernel : decode cX12_checks 0 = .ok (.aload_n 0, 1)) rfl) ?_
  refine And.intro (k_iconst (pc := 1) (by decide +kernel : decode cX12_checks 1 = .ok (.iconst 0, 1)) (by decide)) ?_
  refine And.intro (k_pI (pc := 2) rfl (by decide) rfl zin12 lk_X12_55 tyX12_ok nmX12 rfl (by decide +kernel) (by decide +kernel : decode cX12_checks 2 = .ok (.putfield 55, 3))) ?_
  refine And.intro (k_aload_n (pc := 5) (by decide +kernel : decode cX12_checks 5 = .ok (.aload_n 0, 1)) rfl) ?_
  refine And.intro (k_iload_n (pc := 6) (by decide +kernel : decode cX12_checks 6 = .ok (.iload_n 1, 1)) rfl) ?_
  refine And.intro (k_crV (n := 1) (pc := 7) hG (zRoom_self 3) (tag := 12) rfl ini_X12 im_X12_isStored se_X12_isStored mk_X12_296 dy_X12_isStored (by decide +kernel : decode cX12_checks 7 = .ok (.invokevirtual 296, 3))) ?_
  refine And.intro (k_if_ne (pc := 10) (by decide +kernel : decode cX12_checks 10 = .ok (.ifCond .ne 5, 3)) (by decide)) ?_
  refine And.intro (k_iconst (pc := 13) (by decide +kernel : decode cX12_checks 13 = .ok (.iconst (-1), 1)) (by decide)) ?_
  refine And.intro (k_ireturn (pc := 14) rfl (by decide +kernel : decode cX12_checks 14 = .ok (.ireturn, 1))) ?_
  refine And.intro (k_aload_n (pc := 15) (by decide +kernel : decode cX12_checks 15 = .ok (.aload_n 0, 1)) rfl) ?_
  refine And.intro (k_iconst (pc := 16) (by decide +kernel : decode cX12_checks 16 = .ok (.iconst 0, 1)) (by decide)) ?_
  refine And.intro (k_pI (pc := 17) rfl (by decide) rfl zin12 lk_X12_59 tyX12_ok nmX12 rfl (by decide +kernel) (by decide +kernel : decode cX12_checks 17 = .ok (.putfield 59, 3))) ?_
  refine And.intro (k_iconst (pc := 20) (by decide +kernel : decode cX12_checks 20 = .ok (.iconst 0, 1)) (by decide)) ?_
  refine And.intro (k_istore_n (pc := 21) (by decide +kernel : decode cX12_checks 21 = .ok (.istore_n 2, 1)) rfl) ?_
  refine And.intro (k_iload_n (pc := 22) (by decide +kernel : decode cX12_checks 22 = .ok (.iload_n 2, 1)) rfl) ?_
  refine And.intro (k_iconst (pc := 23) (by decide +kernel : decode cX12_checks 23 = .ok (.iconst 3, 1)) (by decide)) ?_
  refine And.intro (k_icmp_ge (pc := 24) (by decide +kernel : decode cX12_checks 24 = .ok (.if_icmp .ge 20, 3)) (by decide)) ?_
  refine And.intro (k_aload_n (pc := 27) (by decide +kernel : decode cX12_checks 27 = .ok (.aload_n 0, 1)) rfl) ?_
  refine And.intro (k_aload_n (pc := 28) (by decide +kernel : decode cX12_checks 28 = .ok (.aload_n 0, 1)) rfl) ?_
  refine And.intro (k_iload_n (pc := 29) (by decide +kernel : decode cX12_checks 29 = .ok (.iload_n 1, 1)) rfl) ?_
  refine And.intro (k_iload_n (pc := 30) (by decide +kernel : decode cX12_checks 30 = .ok (.iload_n 2, 1)) rfl) ?_
  refine And.intro (k_crV (n := 2) (pc := 31) hG (zRoom_self 3) (tag := 12) rfl ini_X12 im_X12_stored se_X12_stored mk_X12_290 dy_X12_stored (by decide +kernel : decode cX12_checks 31 = .ok (.invokevirtual 290, 3))) ?_
  refine And.intro (k_i2l (pc := 34) (by decide +kernel : decode cX12_checks 34 = .ok (.i2l, 1))) ?_
  refine And.intro (k_cvV (n := 1) (pc := 35) hG (zRoom_self 3) (tag := 12) rfl ini_X12 im_X12_tell se_X12_tell mk_X12_80 dy_X12_tell (by decide +kernel : decode cX12_checks 35 = .ok (.invokevirtual 80, 3))) ?_
  refine And.intro (k_iinc (pc := 38) (by decide +kernel : decode cX12_checks 38 = .ok (.iinc 2 1, 3)) (by decide)) ?_
  refine And.intro (k_goto (pc := 41) (by decide +kernel : decode cX12_checks 41 = .ok (.goto (-19), 3)) (by decide)) ?_
  refine And.intro (k_aload_n (pc := 44) (by decide +kernel : decode cX12_checks 44 = .ok (.aload_n 0, 1)) rfl) ?_
  refine And.intro (k_iload_n (pc := 45) (by decide +kernel : decode cX12_checks 45 = .ok (.iload_n 1, 1)) rfl) ?_
  refine And.intro (k_crV (n := 1) (pc := 46) hG (zRoom_self 3) (tag := 12) rfl ini_X12 im_X12_isProven se_X12_isProven mk_X12_299 dy_X12_isProven (by decide +kernel : decode cX12_checks 46 = .ok (.invokevirtual 299, 3))) ?_
  refine And.intro (k_if_eq (pc := 49) (by decide +kernel : decode cX12_checks 49 = .ok (.ifCond .eq 7, 3)) (by decide)) ?_
  refine And.intro (k_iconst (pc := 52) (by decide +kernel : decode cX12_checks 52 = .ok (.iconst 1, 1)) (by decide)) ?_
  refine And.intro (k_goto (pc := 53) (by decide +kernel : decode cX12_checks 53 = .ok (.goto 4, 3)) (by decide)) ?_
  refine And.intro (k_iconst (pc := 56) (by decide +kernel : decode cX12_checks 56 = .ok (.iconst 0, 1)) (by decide)) ?_
  refine And.intro (k_ireturn (pc := 57) rfl (by decide +kernel : decode cX12_checks 57 = .ok (.ireturn, 1))) ?_
  exact trivial
theorem cdX12_checks : Cond.code yX12_checks cX12_checks 3 (some .int) ∈ zWs := zWs_in 1478 (by decide +kernel) rfl
noncomputable def pgX12_isWhole : zPg := [(0, o_al 0), (1, o_ic (0)), (2, o_il 1), (3, o_il 2), (4, o_ic (1)), (5, o_vr2 yX12_isIn 12 5), (8, o_zr)]
set_option maxRecDepth 20000 in
theorem pkX12_isWhole {G : zG} (hG : zGok G) (Q : zRt) : zPOK G (zRm 3) RX12 cX12_isWhole 3 (some .boolean) (zF G Q 0 0) 0 0 (zCalls G 3) Q pgX12_isWhole := by
  refine And.intro (k_aload_n (pc := 0) (by decide +kernel : decode cX12_isWhole 0 = .ok (.aload_n 0, 1)) rfl) ?_
  refine And.intro (k_iconst (pc := 1) (by decide +kernel : decode cX12_isWhole 1 = .ok (.iconst 0, 1)) (by decide)) ?_
  refine And.intro (k_iload_n (pc := 2) (by decide +kernel : decode cX12_isWhole 2 = .ok (.iload_n 1, 1)) rfl) ?_
  refine And.intro (k_iload_n (pc := 3) (by decide +kernel : decode cX12_isWhole 3 = .ok (.iload_n 2, 1)) rfl) ?_
  refine And.intro (k_iconst (pc := 4) (by decide +kernel : decode cX12_isWhole 4 = .ok (.iconst 1, 1)) (by decide)) ?_
  refine And.intro (k_crV (n := 4) (pc := 5) hG (zRoom_self 3) (tag := 12) rfl ini_X12 im_X12_isIn se_X12_isIn mk_X12_264 dy_X12_isIn (by decide +kernel : decode cX12_isWhole 5 = .ok (.invokevirtual 264, 3))) ?_
  refine And.intro (k_zreturn (pc := 8) rfl (by decide +kernel : decode cX12_isWhole 8 = .ok (.ireturn, 1))) ?_
  exact trivial
theorem cdX12_isWhole : Cond.code yX12_isWhole cX12_isWhole 3 (some .boolean) ∈ zWs := zWs_in 1502 (by decide +kernel) rfl
noncomputable def pgX12_stronger : zPg := [(0, o_al 0), (1, o_ic (0)), (2, o_pI 12 5), (5, o_al 0), (6, o_il 1), (7, o_vr2 yX12_isStored 12 2), (10, o_if_ne 15), (13, o_ic (-1)), (14, o_ir), (15, o_al 0), (16, o_il 1), (17, o_ic (0)), (18, o_vr2 yX12_stored 12 3), (21, o_i2l), (22, o_al 0), (23, o_il 1), (24, o_ic (1)), (25, o_vr2 yX12_stored 12 3), (28, o_i2l), (29, o_cr yX12_common 2), (32, o_l2i), (33, o_is 2), (34, o_al 0), (35, o_il 1), (36, o_ic (2)), (37, o_vr2 yX12_stored 12 3), (40, o_il 2), (41, o_irem), (42, o_is 3), (43, o_al 0), (44, o_il 1), (45, o_ic (2)), (46, o_vr2 yX12_stored 12 3), (49, o_il 3), (50, o_if_ge 59), (53, o_il 3), (54, o_il 2), (55, o_iadd), (56, o_go 60), (59, o_il 3), (60, o_isub), (61, o_il 2), (62, o_idiv), (63, o_is 4), (65, o_ic (0)), (66, o_is 5), (68, o_ic (0)), (69, o_is 6), (71, o_il 6), (73, o_ic (6)), (75, o_ic_gt 142), (78, o_ic (0)), (79, o_is 7), (81, o_il 7), (83, o_ic (6)), (85, o_ic_gt 136), (88, o_al 0), (89, o_il 6), (91, o_il 7), (93, o_vr2 yX12_isWhole 12 3), (96, o_if_eq 130), (99, o_al 0), (100, o_il 1), (101, o_ic (0)), (102, o_vr2 yX12_stored 12 3), (105, o_il 2), (106, o_idiv), (107, o_il 6), (109, o_imul), (110, o_al 0), (111, o_il 1), (112, o_ic (1)), (113, o_vr2 yX12_stored 12 3), (116, o_il 2), (117, o_idiv), (118, o_il 7), (120, o_imul), (121, o_iadd), (122, o_il 4), (124, o_ic_le 130), (127, o_inc 5 (1)), (130, o_inc 7 (1)), (133, o_go 81), (136, o_inc 6 (1)), (139, o_go 71), (142, o_al 0), (143, o_ic (0)), (144, o_pI 12 4), (147, o_al 0), (148, o_al 0), (149, o_il 1), (150, o_ic (0)), (151, o_vr2 yX12_stored 12 3), (154, o_il 2), (155, o_idiv), (156, o_i2l), (157, o_vv yX12_tell 12 2), (160, o_al 0), (161, o_al 0), (162, o_il 1), (163, o_ic (1)), (164, o_vr2 yX12_stored 12 3), (167, o_il 2), (168, o_idiv), (169, o_i2l), (170, o_vv yX12_tell 12 2), (173, o_al 0), (174, o_il 3), (175, o_if_ne 182), (178, o_lc 0), (179, o_go 183), (182, o_lc 1), (183, o_vv yX12_tell 12 2), (186, o_al 0), (187, o_il 5), (189, o_i2l), (190, o_vv yX12_tell 12 2), (193, o_il 4), (195, o_ir)]
set_option maxRecDepth 20000 in
theorem pkX12_stronger {G : zG} (hG : zGok G) (Q : zRt) : zPOK G (zRm 4) RX12 cX12_stronger 8 (some .int) (zF G Q 0 0) 0 0 (zCalls G 4) Q pgX12_stronger := by
  refine And.intro (k_aload_n (pc := 0) (by decide +kernel : decode cX12_stronger 0 = .ok (.aload_n 0, 1)) rfl) ?_
  refine And.intro (k_iconst (pc := 1) (by decide +kernel : decode cX12_stronger 1 = .ok (.iconst 0, 1)) (by decide)) ?_
  refine And.intro (k_pI (pc := 2) rfl (by decide) rfl zin12 lk_X12_55 tyX12_ok nmX12 rfl (by decide +kernel) (by decide +kernel : decode cX12_stronger 2 = .ok (.putfield 55, 3))) ?_
  refine And.intro (k_aload_n (pc := 5) (by decide +kernel : decode cX12_stronger 5 = .ok (.aload_n 0, 1)) rfl) ?_
  refine And.intro (k_iload_n (pc := 6) (by decide +kernel : decode cX12_stronger 6 = .ok (.iload_n 1, 1)) rfl) ?_
  refine And.intro (k_crV (n := 1) (pc := 7) hG (zRoom_self 4) (tag := 12) rfl ini_X12 im_X12_isStored se_X12_isStored mk_X12_296 dy_X12_isStored (by decide +kernel : decode cX12_stronger 7 = .ok (.invokevirtual 296, 3))) ?_
  refine And.intro (k_if_ne (pc := 10) (by decide +kernel : decode cX12_stronger 10 = .ok (.ifCond .ne 5, 3)) (by decide)) ?_
  refine And.intro (k_iconst (pc := 13) (by decide +kernel : decode cX12_stronger 13 = .ok (.iconst (-1), 1)) (by decide)) ?_
  refine And.intro (k_ireturn (pc := 14) rfl (by decide +kernel : decode cX12_stronger 14 = .ok (.ireturn, 1))) ?_
  refine And.intro (k_aload_n (pc := 15) (by decide +kernel : decode cX12_stronger 15 = .ok (.aload_n 0, 1)) rfl) ?_
  refine And.intro (k_iload_n (pc := 16) (by decide +kernel : decode cX12_stronger 16 = .ok (.iload_n 1, 1)) rfl) ?_
  refine And.intro (k_iconst (pc := 17) (by decide +kernel : decode cX12_stronger 17 = .ok (.iconst 0, 1)) (by decide)) ?_
  refine And.intro (k_crV (n := 2) (pc := 18) hG (zRoom_self 4) (tag := 12) rfl ini_X12 im_X12_stored se_X12_stored mk_X12_290 dy_X12_stored (by decide +kernel : decode cX12_stronger 18 = .ok (.invokevirtual 290, 3))) ?_
  refine And.intro (k_i2l (pc := 21) (by decide +kernel : decode cX12_stronger 21 = .ok (.i2l, 1))) ?_
  refine And.intro (k_aload_n (pc := 22) (by decide +kernel : decode cX12_stronger 22 = .ok (.aload_n 0, 1)) rfl) ?_
  refine And.intro (k_iload_n (pc := 23) (by decide +kernel : decode cX12_stronger 23 = .ok (.iload_n 1, 1)) rfl) ?_
  refine And.intro (k_iconst (pc := 24) (by decide +kernel : decode cX12_stronger 24 = .ok (.iconst 1, 1)) (by decide)) ?_
  refine And.intro (k_crV (n := 2) (pc := 25) hG (zRoom_self 4) (tag := 12) rfl ini_X12 im_X12_stored se_X12_stored mk_X12_290 dy_X12_stored (by decide +kernel : decode cX12_stronger 25 = .ok (.invokevirtual 290, 3))) ?_
  refine And.intro (k_i2l (pc := 28) (by decide +kernel : decode cX12_stronger 28 = .ok (.i2l, 1))) ?_
  refine And.intro (k_crS (n := 2) (pc := 29) hG (zRoom_self 4) ini_X12 sta_X12_common mk_X12_65 dy_X12_common (by decide +kernel : decode cX12_stronger 29 = .ok (.invokestatic 65, 3))) ?_
  refine And.intro (k_l2i (pc := 32) (by decide +kernel : decode cX12_stronger 32 = .ok (.l2i, 1))) ?_
  refine And.intro (k_istore_n (pc := 33) (by decide +kernel : decode cX12_stronger 33 = .ok (.istore_n 2, 1)) rfl) ?_
  refine And.intro (k_aload_n (pc := 34) (by decide +kernel : decode cX12_stronger 34 = .ok (.aload_n 0, 1)) rfl) ?_
  refine And.intro (k_iload_n (pc := 35) (by decide +kernel : decode cX12_stronger 35 = .ok (.iload_n 1, 1)) rfl) ?_
  refine And.intro (k_iconst (pc := 36) (by decide +kernel : decode cX12_stronger 36 = .ok (.iconst 2, 1)) (by decide)) ?_
  refine And.intro (k_crV (n := 2) (pc := 37) hG (zRoom_self 4) (tag := 12) rfl ini_X12 im_X12_stored se_X12_stored mk_X12_290 dy_X12_stored (by decide +kernel : decode cX12_stronger 37 = .ok (.invokevirtual 290, 3))) ?_
  refine And.intro (k_iload_n (pc := 40) (by decide +kernel : decode cX12_stronger 40 = .ok (.iload_n 2, 1)) rfl) ?_
  refine And.intro (k_irem (pc := 41) (by decide +kernel : decode cX12_stronger 41 = .ok (.irem, 1))) ?_
  refine And.intro (k_istore_n (pc := 42) (by decide +kernel : decode cX12_stronger 42 = .ok (.istore_n 3, 1)) rfl) ?_
  refine And.intro (k_aload_n (pc := 43) (by decide +kernel : decode cX12_stronger 43 = .ok (.aload_n 0, 1)) rfl) ?_
  refine And.intro (k_iload_n (pc := 44) (by decide +kernel : decode cX12_stronger 44 = .ok (.iload_n 1, 1)) rfl) ?_
  refine And.intro (k_iconst (pc := 45) (by decide +kernel : decode cX12_stronger 45 = .ok (.iconst 2, 1)) (by decide)) ?_
  refine And.intro (k_crV (n := 2) (pc := 46) hG (zRoom_self 4) (tag := 12) rfl ini_X12 im_X12_stored se_X12_stored mk_X12_290 dy_X12_stored (by decide +kernel : decode cX12_stronger 46 = .ok (.invokevirtual 290, 3))) ?_
  refine And.intro (k_iload_n (pc := 49) (by decide +kernel : decode cX12_stronger 49 = .ok (.iload_n 3, 1)) rfl) ?_
  refine And.intro (k_if_ge (pc := 50) (by decide +kernel : decode cX12_stronger 50 = .ok (.ifCond .ge 9, 3)) (by decide)) ?_
  refine And.intro (k_iload_n (pc := 53) (by decide +kernel : decode cX12_stronger 53 = .ok (.iload_n 3, 1)) rfl) ?_
  refine And.intro (k_iload_n (pc := 54) (by decide +kernel : decode cX12_stronger 54 = .ok (.iload_n 2, 1)) rfl) ?_
  refine And.intro (k_iadd (pc := 55) (by decide +kernel : decode cX12_stronger 55 = .ok (.iadd, 1))) ?_
  refine And.intro (k_goto (pc := 56) (by decide +kernel : decode cX12_stronger 56 = .ok (.goto 4, 3)) (by decide)) ?_
  refine And.intro (k_iload_n (pc := 59) (by decide +kernel : decode cX12_stronger 59 = .ok (.iload_n 3, 1)) rfl) ?_
  refine And.intro (k_isub (pc := 60) (by decide +kernel : decode cX12_stronger 60 = .ok (.isub, 1))) ?_
  refine And.intro (k_iload_n (pc := 61) (by decide +kernel : decode cX12_stronger 61 = .ok (.iload_n 2, 1)) rfl) ?_
  refine And.intro (k_idiv (pc := 62) (by decide +kernel : decode cX12_stronger 62 = .ok (.idiv, 1))) ?_
  refine And.intro (k_istore (pc := 63) (by decide +kernel : decode cX12_stronger 63 = .ok (.istore 4, 2))) ?_
  refine And.intro (k_iconst (pc := 65) (by decide +kernel : decode cX12_stronger 65 = .ok (.iconst 0, 1)) (by decide)) ?_
  refine And.intro (k_istore (pc := 66) (by decide +kernel : decode cX12_stronger 66 = .ok (.istore 5, 2))) ?_
  refine And.intro (k_iconst (pc := 68) (by decide +kernel : decode cX12_stronger 68 = .ok (.iconst 0, 1)) (by decide)) ?_
  refine And.intro (k_istore (pc := 69) (by decide +kernel : decode cX12_stronger 69 = .ok (.istore 6, 2))) ?_
  refine And.intro (k_iload (pc := 71) (by decide +kernel : decode cX12_stronger 71 = .ok (.iload 6, 2))) ?_
  refine And.intro (k_bipush (pc := 73) (by decide +kernel : decode cX12_stronger 73 = .ok (.bipush 6, 2)) (by decide)) ?_
  refine And.intro (k_icmp_gt (pc := 75) (by decide +kernel : decode cX12_stronger 75 = .ok (.if_icmp .gt 67, 3)) (by decide)) ?_
  refine And.intro (k_iconst (pc := 78) (by decide +kernel : decode cX12_stronger 78 = .ok (.iconst 0, 1)) (by decide)) ?_
  refine And.intro (k_istore (pc := 79) (by decide +kernel : decode cX12_stronger 79 = .ok (.istore 7, 2))) ?_
  refine And.intro (k_iload (pc := 81) (by decide +kernel : decode cX12_stronger 81 = .ok (.iload 7, 2))) ?_
  refine And.intro (k_bipush (pc := 83) (by decide +kernel : decode cX12_stronger 83 = .ok (.bipush 6, 2)) (by decide)) ?_
  refine And.intro (k_icmp_gt (pc := 85) (by decide +kernel : decode cX12_stronger 85 = .ok (.if_icmp .gt 51, 3)) (by decide)) ?_
  refine And.intro (k_aload_n (pc := 88) (by decide +kernel : decode cX12_stronger 88 = .ok (.aload_n 0, 1)) rfl) ?_
  refine And.intro (k_iload (pc := 89) (by decide +kernel : decode cX12_stronger 89 = .ok (.iload 6, 2))) ?_
  refine And.intro (k_iload (pc := 91) (by decide +kernel : decode cX12_stronger 91 = .ok (.iload 7, 2))) ?_
  refine And.intro (k_crV (n := 2) (pc := 93) hG (zRoom_self 4) (tag := 12) rfl ini_X12 im_X12_isWhole se_X12_isWhole mk_X12_302 dy_X12_isWhole (by decide +kernel : decode cX12_stronger 93 = .ok (.invokevirtual 302, 3))) ?_
  refine And.intro (k_if_eq (pc := 96) (by decide +kernel : decode cX12_stronger 96 = .ok (.ifCond .eq 34, 3)) (by decide)) ?_
  refine And.intro (k_aload_n (pc := 99) (by decide +kernel : decode cX12_stronger 99 = .ok (.aload_n 0, 1)) rfl) ?_
  refine And.intro (k_iload_n (pc := 100) (by decide +kernel : decode cX12_stronger 100 = .ok (.iload_n 1, 1)) rfl) ?_
  refine And.intro (k_iconst (pc := 101) (by decide +kernel : decode cX12_stronger 101 = .ok (.iconst 0, 1)) (by decide)) ?_
  refine And.intro (k_crV (n := 2) (pc := 102) hG (zRoom_self 4) (tag := 12) rfl ini_X12 im_X12_stored se_X12_stored mk_X12_290 dy_X12_stored (by decide +kernel : decode cX12_stronger 102 = .ok (.invokevirtual 290, 3))) ?_
  refine And.intro (k_iload_n (pc := 105) (by decide +kernel : decode cX12_stronger 105 = .ok (.iload_n 2, 1)) rfl) ?_
  refine And.intro (k_idiv (pc := 106) (by decide +kernel : decode cX12_stronger 106 = .ok (.idiv, 1))) ?_
  refine And.intro (k_iload (pc := 107) (by decide +kernel : decode cX12_stronger 107 = .ok (.iload 6, 2))) ?_
  refine And.intro (k_imul (pc := 109) (by decide +kernel : decode cX12_stronger 109 = .ok (.imul, 1))) ?_
  refine And.intro (k_aload_n (pc := 110) (by decide +kernel : decode cX12_stronger 110 = .ok (.aload_n 0, 1)) rfl) ?_
  refine And.intro (k_iload_n (pc := 111) (by decide +kernel : decode cX12_stronger 111 = .ok (.iload_n 1, 1)) rfl) ?_
  refine And.intro (k_iconst (pc := 112) (by decide +kernel : decode cX12_stronger 112 = .ok (.iconst 1, 1)) (by decide)) ?_
  refine And.intro (k_crV (n := 2) (pc := 113) hG (zRoom_self 4) (tag := 12) rfl ini_X12 im_X12_stored se_X12_stored mk_X12_290 dy_X12_stored (by decide +kernel : decode cX12_stronger 113 = .ok (.invokevirtual 290, 3))) ?_
  refine And.intro (k_iload_n (pc := 116) (by decide +kernel : decode cX12_stronger 116 = .ok (.iload_n 2, 1)) rfl) ?_
  refine And.intro (k_idiv (pc := 117) (by decide +kernel : decode cX12_stronger 117 = .ok (.idiv, 1))) ?_
  refine And.intro (k_iload (pc := 118) (by decide +kernel : decode cX12_stronger 118 = .ok (.iload 7, 2))) ?_
  refine And.intro (k_imul (pc := 120) (by decide +kernel : decode cX12_stronger 120 = .ok (.imul, 1))) ?_
  refine And.intro (k_iadd (pc := 121) (by decide +kernel : decode cX12_stronger 121 = .ok (.iadd, 1))) ?_
  refine And.intro (k_iload (pc := 122) (by decide +kernel : decode cX12_stronger 122 = .ok (.iload 4, 2))) ?_
  refine And.intro (k_icmp_le (pc := 124) (by decide +kernel : decode cX12_stronger 124 = .ok (.if_icmp .le 6, 3)) (by decide)) ?_
  refine And.intro (k_iinc (pc := 127) (by decide +kernel : decode cX12_stronger 127 = .ok (.iinc 5 1, 3)) (by decide)) ?_
  refine And.intro (k_iinc (pc := 130) (by decide +kernel : decode cX12_stronger 130 = .ok (.iinc 7 1, 3)) (by decide)) ?_
  refine And.intro (k_goto (pc := 133) (by decide +kernel : decode cX12_stronger 133 = .ok (.goto (-52), 3)) (by decide)) ?_
  refine And.intro (k_iinc (pc := 136) (by decide +kernel : decode cX12_stronger 136 = .ok (.iinc 6 1, 3)) (by decide)) ?_
  refine And.intro (k_goto (pc := 139) (by decide +kernel : decode cX12_stronger 139 = .ok (.goto (-68), 3)) (by decide)) ?_
  refine And.intro (k_aload_n (pc := 142) (by decide +kernel : decode cX12_stronger 142 = .ok (.aload_n 0, 1)) rfl) ?_
  refine And.intro (k_iconst (pc := 143) (by decide +kernel : decode cX12_stronger 143 = .ok (.iconst 0, 1)) (by decide)) ?_
  refine And.intro (k_pI (pc := 144) rfl (by decide) rfl zin12 lk_X12_59 tyX12_ok nmX12 rfl (by decide +kernel) (by decide +kernel : decode cX12_stronger 144 = .ok (.putfield 59, 3))) ?_
  refine And.intro (k_aload_n (pc := 147) (by decide +kernel : decode cX12_stronger 147 = .ok (.aload_n 0, 1)) rfl) ?_
  refine And.intro (k_aload_n (pc := 148) (by decide +kernel : decode cX12_stronger 148 = .ok (.aload_n 0, 1)) rfl) ?_
  refine And.intro (k_iload_n (pc := 149) (by decide +kernel : decode cX12_stronger 149 = .ok (.iload_n 1, 1)) rfl) ?_
  refine And.intro (k_iconst (pc := 150) (by decide +kernel : decode cX12_stronger 150 = .ok (.iconst 0, 1)) (by decide)) ?_
  refine And.intro (k_crV (n := 2) (pc := 151) hG (zRoom_self 4) (tag := 12) rfl ini_X12 im_X12_stored se_X12_stored mk_X12_290 dy_X12_stored (by decide +kernel : decode cX12_stronger 151 = .ok (.invokevirtual 290, 3))) ?_
  refine And.intro (k_iload_n (pc := 154) (by decide +kernel : decode cX12_stronger 154 = .ok (.iload_n 2, 1)) rfl) ?_
  refine And.intro (k_idiv (pc := 155) (by decide +kernel : decode cX12_stronger 155 = .ok (.idiv, 1))) ?_
  refine And.intro (k_i2l (pc := 156) (by decide +kernel : decode cX12_stronger 156 = .ok (.i2l, 1))) ?_
  refine And.intro (k_cvV (n := 1) (pc := 157) hG (zRoom_self 4) (tag := 12) rfl ini_X12 im_X12_tell se_X12_tell mk_X12_80 dy_X12_tell (by decide +kernel : decode cX12_stronger 157 = .ok (.invokevirtual 80, 3))) ?_
  refine And.intro (k_aload_n (pc := 160) (by decide +kernel : decode cX12_stronger 160 = .ok (.aload_n 0, 1)) rfl) ?_
  refine And.intro (k_aload_n (pc := 161) (by decide +kernel : decode cX12_stronger 161 = .ok (.aload_n 0, 1)) rfl) ?_
  refine And.intro (k_iload_n (pc := 162) (by decide +kernel : decode cX12_stronger 162 = .ok (.iload_n 1, 1)) rfl) ?_
  refine And.intro (k_iconst (pc := 163) (by decide +kernel : decode cX12_stronger 163 = .ok (.iconst 1, 1)) (by decide)) ?_
  refine And.intro (k_crV (n := 2) (pc := 164) hG (zRoom_self 4) (tag := 12) rfl ini_X12 im_X12_stored se_X12_stored mk_X12_290 dy_X12_stored (by decide +kernel : decode cX12_stronger 164 = .ok (.invokevirtual 290, 3))) ?_
  refine And.intro (k_iload_n (pc := 167) (by decide +kernel : decode cX12_stronger 167 = .ok (.iload_n 2, 1)) rfl) ?_
  refine And.intro (k_idiv (pc := 168) (by decide +kernel : decode cX12_stronger 168 = .ok (.idiv, 1))) ?_
  refine And.intro (k_i2l (pc := 169) (by decide +kernel : decode cX12_stronger 169 = .ok (.i2l, 1))) ?_
  refine And.intro (k_cvV (n := 1) (pc := 170) hG (zRoom_self 4) (tag := 12) rfl ini_X12 im_X12_tell se_X12_tell mk_X12_80 dy_X12_tell (by decide +kernel : decode cX12_stronger 170 = .ok (.invokevirtual 80, 3))) ?_
  refine And.intro (k_aload_n (pc := 173) (by decide +kernel : decode cX12_stronger 173 = .ok (.aload_n 0, 1)) rfl) ?_
  refine And.intro (k_iload_n (pc := 174) (by decide +kernel : decode cX12_stronger 174 = .ok (.iload_n 3, 1)) rfl) ?_
  refine And.intro (k_if_ne (pc := 175) (by decide +kernel : decode cX12_stronger 175 = .ok (.ifCond .ne 7, 3)) (by decide)) ?_
  refine And.intro (k_lconst (pc := 178) (by decide +kernel : decode cX12_stronger 178 = .ok (.lconst 0, 1)) (by decide)) ?_
  refine And.intro (k_goto (pc := 179) (by decide +kernel : decode cX12_stronger 179 = .ok (.goto 4, 3)) (by decide)) ?_
  refine And.intro (k_lconst (pc := 182) (by decide +kernel : decode cX12_stronger 182 = .ok (.lconst 1, 1)) (by decide)) ?_
  refine And.intro (k_cvV (n := 1) (pc := 183) hG (zRoom_self 4) (tag := 12) rfl ini_X12 im_X12_tell se_X12_tell mk_X12_80 dy_X12_tell (by decide +kernel : decode cX12_stronger 183 = .ok (.invokevirtual 80, 3))) ?_
  refine And.intro (k_aload_n (pc := 186) (by decide +kernel : decode cX12_stronger 186 = .ok (.aload_n 0, 1)) rfl) ?_
  refine And.intro (k_iload (pc := 187) (by decide +kernel : decode cX12_stronger 187 = .ok (.iload 5, 2))) ?_
  refine And.intro (k_i2l (pc := 189) (by decide +kernel : decode cX12_stronger 189 = .ok (.i2l, 1))) ?_
  refine And.intro (k_cvV (n := 1) (pc := 190) hG (zRoom_self 4) (tag := 12) rfl ini_X12 im_X12_tell se_X12_tell mk_X12_80 dy_X12_tell (by decide +kernel : decode cX12_stronger 190 = .ok (.invokevirtual 80, 3))) ?_
  refine And.intro (k_iload (pc := 193) (by decide +kernel : decode cX12_stronger 193 = .ok (.iload 4, 2))) ?_
  refine And.intro (k_ireturn (pc := 195) rfl (by decide +kernel : decode cX12_stronger 195 = .ok (.ireturn, 1))) ?_
  exact trivial
theorem cdX12_stronger : Cond.code yX12_stronger cX12_stronger 8 (some .int) ∈ zWs := zWs_in 1498 (by decide +kernel) rfl
noncomputable def pgX12_clears : zPg := [(0, o_al 0), (1, o_ic (0)), (2, o_pI 12 5), (5, o_al 0), (6, o_vv yX12_change 12 1), (9, o_al 0), (10, o_gR 12 0), (13, o_ic (19)), (15, o_xI 14), (16, o_is 1), (17, o_al 0), (18, o_gR 12 0), (21, o_ic (19)), (23, o_ic (0)), (24, o_yI), (25, o_ic (0)), (26, o_is 2), (27, o_il 2), (28, o_ic (120)), (30, o_ic_ge 49), (33, o_al 0), (34, o_gR 12 0), (37, o_ic (20)), (39, o_il 2), (40, o_iadd), (41, o_ic (0)), (42, o_yI), (43, o_inc 2 (1)), (46, o_go 27), (49, o_il 1), (50, o_ir)]
set_option maxRecDepth 20000 in
theorem pkX12_clears {G : zG} (hG : zGok G) (Q : zRt) : zPOK G (zRm 2) RX12 cX12_clears 3 (some .int) (zF G Q 0 0) 0 0 (zCalls G 2) Q pgX12_clears := by
  refine And.intro (k_aload_n (pc := 0) (by decide +kernel : decode cX12_clears 0 = .ok (.aload_n 0, 1)) rfl) ?_
  refine And.intro (k_iconst (pc := 1) (by decide +kernel : decode cX12_clears 1 = .ok (.iconst 0, 1)) (by decide)) ?_
  refine And.intro (k_pI (pc := 2) rfl (by decide) rfl zin12 lk_X12_55 tyX12_ok nmX12 rfl (by decide +kernel) (by decide +kernel : decode cX12_clears 2 = .ok (.putfield 55, 3))) ?_
  refine And.intro (k_aload_n (pc := 5) (by decide +kernel : decode cX12_clears 5 = .ok (.aload_n 0, 1)) rfl) ?_
  refine And.intro (k_cvV (n := 0) (pc := 6) hG (zRoom_self 2) (tag := 12) rfl ini_X12 im_X12_change se_X12_change mk_X12_139 dy_X12_change (by decide +kernel : decode cX12_clears 6 = .ok (.invokevirtual 139, 3))) ?_
  refine And.intro (k_aload_n (pc := 9) (by decide +kernel : decode cX12_clears 9 = .ok (.aload_n 0, 1)) rfl) ?_
  refine And.intro (k_gR (pc := 10) rfl (by decide) rfl zin12 lk_X12_9 (by decide +kernel : decode cX12_clears 10 = .ok (.getfield 9, 3))) ?_
  refine And.intro (k_bipush (pc := 13) (by decide +kernel : decode cX12_clears 13 = .ok (.bipush 19, 2)) (by decide)) ?_
  refine And.intro (k_iald (pc := 15) (by decide +kernel : decode cX12_clears 15 = .ok (.iaload, 1))) ?_
  refine And.intro (k_istore_n (pc := 16) (by decide +kernel : decode cX12_clears 16 = .ok (.istore_n 1, 1)) rfl) ?_
  refine And.intro (k_aload_n (pc := 17) (by decide +kernel : decode cX12_clears 17 = .ok (.aload_n 0, 1)) rfl) ?_
  refine And.intro (k_gR (pc := 18) rfl (by decide) rfl zin12 lk_X12_9 (by decide +kernel : decode cX12_clears 18 = .ok (.getfield 9, 3))) ?_
  refine And.intro (k_bipush (pc := 21) (by decide +kernel : decode cX12_clears 21 = .ok (.bipush 19, 2)) (by decide)) ?_
  refine And.intro (k_iconst (pc := 23) (by decide +kernel : decode cX12_clears 23 = .ok (.iconst 0, 1)) (by decide)) ?_
  refine And.intro (k_iast (pc := 24) (by decide +kernel : decode cX12_clears 24 = .ok (.iastore, 1))) ?_
  refine And.intro (k_iconst (pc := 25) (by decide +kernel : decode cX12_clears 25 = .ok (.iconst 0, 1)) (by decide)) ?_
  refine And.intro (k_istore_n (pc := 26) (by decide +kernel : decode cX12_clears 26 = .ok (.istore_n 2, 1)) rfl) ?_
  refine And.intro (k_iload_n (pc := 27) (by decide +kernel : decode cX12_clears 27 = .ok (.iload_n 2, 1)) rfl) ?_
  refine And.intro (k_bipush (pc := 28) (by decide +kernel : decode cX12_clears 28 = .ok (.bipush 120, 2)) (by decide)) ?_
  refine And.intro (k_icmp_ge (pc := 30) (by decide +kernel : decode cX12_clears 30 = .ok (.if_icmp .ge 19, 3)) (by decide)) ?_
  refine And.intro (k_aload_n (pc := 33) (by decide +kernel : decode cX12_clears 33 = .ok (.aload_n 0, 1)) rfl) ?_
  refine And.intro (k_gR (pc := 34) rfl (by decide) rfl zin12 lk_X12_9 (by decide +kernel : decode cX12_clears 34 = .ok (.getfield 9, 3))) ?_
  refine And.intro (k_bipush (pc := 37) (by decide +kernel : decode cX12_clears 37 = .ok (.bipush 20, 2)) (by decide)) ?_
  refine And.intro (k_iload_n (pc := 39) (by decide +kernel : decode cX12_clears 39 = .ok (.iload_n 2, 1)) rfl) ?_
  refine And.intro (k_iadd (pc := 40) (by decide +kernel : decode cX12_clears 40 = .ok (.iadd, 1))) ?_
  refine And.intro (k_iconst (pc := 41) (by decide +kernel : decode cX12_clears 41 = .ok (.iconst 0, 1)) (by decide)) ?_
  refine And.intro (k_iast (pc := 42) (by decide +kernel : decode cX12_clears 42 = .ok (.iastore, 1))) ?_
  refine And.intro (k_iinc (pc := 43) (by decide +kernel : decode cX12_clears 43 = .ok (.iinc 2 1, 3)) (by decide)) ?_
  refine And.intro (k_goto (pc := 46) (by decide +kernel : decode cX12_clears 46 = .ok (.goto (-19), 3)) (by decide)) ?_
  refine And.intro (k_iload_n (pc := 49) (by decide +kernel : decode cX12_clears 49 = .ok (.iload_n 1, 1)) rfl) ?_
  refine And.intro (k_ireturn (pc := 50) rfl (by decide +kernel : decode cX12_clears 50 = .ok (.ireturn, 1))) ?_
  exact trivial
theorem cdX12_clears : Cond.code yX12_clears cX12_clears 3 (some .int) ∈ zWs := zWs_in 1506 (by decide +kernel) rfl
noncomputable def pgX12_breaks : zPg := [(0, o_al 0), (1, o_ic (0)), (2, o_pI 12 5), (5, o_il 1), (6, o_il 2), (7, o_il 3), (8, o_cr yX12_isPoint 3), (11, o_if_ne 16), (14, o_ic (-1)), (15, o_ir), (16, o_ic (-1)), (17, o_is 4), (19, o_lc 0), (20, o_ls 5), (22, o_ic (0)), (23, o_is 7), (25, o_il 7), (27, o_al 0), (28, o_gR 12 0), (31, o_ic (19)), (33, o_xI 14), (34, o_ic_ge 105), (37, o_al 0), (38, o_il 7), (40, o_ic (0)), (41, o_vr2 yX12_stored 12 3), (44, o_i2l), (45, o_il 1), (46, o_i2l), (47, o_lmul), (48, o_al 0), (49, o_il 7), (51, o_ic (1)), (52, o_vr2 yX12_stored 12 3), (55, o_i2l), (56, o_il 2), (57, o_i2l), (58, o_lmul), (59, o_ladd), (60, o_al 0), (61, o_il 7), (63, o_ic (2)), (64, o_vr2 yX12_stored 12 3), (67, o_i2l), (68, o_il 3), (69, o_i2l), (70, o_lmul), (71, o_lsub), (72, o_ls 8), (74, o_il 4), (76, o_ic (-1)), (77, o_ic_eq 91), (80, o_ll 8), (82, o_ll 5), (84, o_lc_gt 91), (88, o_go 99), (91, o_il 7), (93, o_is 4), (95, o_ll 8), (97, o_ls 5), (99, o_inc 7 (1)), (102, o_go 25), (105, o_il 4), (107, o_ic (-1)), (108, o_ic_ne 114), (111, o_ic (-2)), (113, o_ir), (114, o_al 0), (115, o_ic (0)), (116, o_pI 12 4), (119, o_al 0), (120, o_ll 5), (122, o_il 3), (123, o_i2l), (124, o_vv yX12_tellFraction 12 3), (127, o_il 4), (129, o_ir)]
set_option maxRecDepth 20000 in
theorem pkX12_breaks {G : zG} (hG : zGok G) (Q : zRt) : zPOK G (zRm 3) RX12 cX12_breaks 10 (some .int) (zF G Q 0 0) 0 0 (zCalls G 3) Q pgX12_breaks := by
  refine And.intro (k_aload_n (pc := 0) (by decide +kernel : decode cX12_breaks 0 = .ok (.aload_n 0, 1)) rfl) ?_
  refine And.intro (k_iconst (pc := 1) (by decide +kernel : decode cX12_breaks 1 = .ok (.iconst 0, 1)) (by decide)) ?_
  refine And.intro (k_pI (pc := 2) rfl (by decide) rfl zin12 lk_X12_55 tyX12_ok nmX12 rfl (by decide +kernel) (by decide +kernel : decode cX12_breaks 2 = .ok (.putfield 55, 3))) ?_
  refine And.intro (k_iload_n (pc := 5) (by decide +kernel : decode cX12_breaks 5 = .ok (.iload_n 1, 1)) rfl) ?_
  refine And.intro (k_iload_n (pc := 6) (by decide +kernel : decode cX12_breaks 6 = .ok (.iload_n 2, 1)) rfl) ?_
  refine And.intro (k_iload_n (pc := 7) (by decide +kernel : decode cX12_breaks 7 = .ok (.iload_n 3, 1)) rfl) ?_
  refine And.intro (k_crS (n := 3) (pc := 8) hG (zRoom_self 3) ini_X12 sta_X12_isPoint mk_X12_261 dy_X12_isPoint (by decide +kernel : decode cX12_breaks 8 = .ok (.invokestatic 261, 3))) ?_
  refine And.intro (k_if_ne (pc := 11) (by decide +kernel : decode cX12_breaks 11 = .ok (.ifCond .ne 5, 3)) (by decide)) ?_
  refine And.intro (k_iconst (pc := 14) (by decide +kernel : decode cX12_breaks 14 = .ok (.iconst (-1), 1)) (by decide)) ?_
  refine And.intro (k_ireturn (pc := 15) rfl (by decide +kernel : decode cX12_breaks 15 = .ok (.ireturn, 1))) ?_
  refine And.intro (k_iconst (pc := 16) (by decide +kernel : decode cX12_breaks 16 = .ok (.iconst (-1), 1)) (by decide)) ?_
  refine And.intro (k_istore (pc := 17) (by decide +kernel : decode cX12_breaks 17 = .ok (.istore 4, 2))) ?_
  refine And.intro (k_lconst (pc := 19) (by decide +kernel : decode cX12_breaks 19 = .ok (.lconst 0, 1)) (by decide)) ?_
  refine And.intro (k_lstore (pc := 20) (by decide +kernel : decode cX12_breaks 20 = .ok (.lstore 5, 2))) ?_
  refine And.intro (k_iconst (pc := 22) (by decide +kernel : decode cX12_breaks 22 = .ok (.iconst 0, 1)) (by decide)) ?_
  refine And.intro (k_istore (pc := 23) (by decide +kernel : decode cX12_breaks 23 = .ok (.istore 7, 2))) ?_
  refine And.intro (k_iload (pc := 25) (by decide +kernel : decode cX12_breaks 25 = .ok (.iload 7, 2))) ?_
  refine And.intro (k_aload_n (pc := 27) (by decide +kernel : decode cX12_breaks 27 = .ok (.aload_n 0, 1)) rfl) ?_
  refine And.intro (k_gR (pc := 28) rfl (by decide) rfl zin12 lk_X12_9 (by decide +kernel : decode cX12_breaks 28 = .ok (.getfield 9, 3))) ?_
  refine And.intro (k_bipush (pc := 31) (by decide +kernel : decode cX12_breaks 31 = .ok (.bipush 19, 2)) (by decide)) ?_
  refine And.intro (k_iald (pc := 33) (by decide +kernel : decode cX12_breaks 33 = .ok (.iaload, 1))) ?_
  refine And.intro (k_icmp_ge (pc := 34) (by decide +kernel : decode cX12_breaks 34 = .ok (.if_icmp .ge 71, 3)) (by decide)) ?_
  refine And.intro (k_aload_n (pc := 37) (by decide +kernel : decode cX12_breaks 37 = .ok (.aload_n 0, 1)) rfl) ?_
  refine And.intro (k_iload (pc := 38) (by decide +kernel : decode cX12_breaks 38 = .ok (.iload 7, 2))) ?_
  refine And.intro (k_iconst (pc := 40) (by decide +kernel : decode cX12_breaks 40 = .ok (.iconst 0, 1)) (by decide)) ?_
  refine And.intro (k_crV (n := 2) (pc := 41) hG (zRoom_self 3) (tag := 12) rfl ini_X12 im_X12_stored se_X12_stored mk_X12_290 dy_X12_stored (by decide +kernel : decode cX12_breaks 41 = .ok (.invokevirtual 290, 3))) ?_
  refine And.intro (k_i2l (pc := 44) (by decide +kernel : decode cX12_breaks 44 = .ok (.i2l, 1))) ?_
  refine And.intro (k_iload_n (pc := 45) (by decide +kernel : decode cX12_breaks 45 = .ok (.iload_n 1, 1)) rfl) ?_
  refine And.intro (k_i2l (pc := 46) (by decide +kernel : decode cX12_breaks 46 = .ok (.i2l, 1))) ?_
  refine And.intro (k_lmul (pc := 47) (by decide +kernel : decode cX12_breaks 47 = .ok (.lmul, 1))) ?_
  refine And.intro (k_aload_n (pc := 48) (by decide +kernel : decode cX12_breaks 48 = .ok (.aload_n 0, 1)) rfl) ?_
  refine And.intro (k_iload (pc := 49) (by decide +kernel : decode cX12_breaks 49 = .ok (.iload 7, 2))) ?_
  refine And.intro (k_iconst (pc := 51) (by decide +kernel : decode cX12_breaks 51 = .ok (.iconst 1, 1)) (by decide)) ?_
  refine And.intro (k_crV (n := 2) (pc := 52) hG (zRoom_self 3) (tag := 12) rfl ini_X12 im_X12_stored se_X12_stored mk_X12_290 dy_X12_stored (by decide +kernel : decode cX12_breaks 52 = .ok (.invokevirtual 290, 3))) ?_
  refine And.intro (k_i2l (pc := 55) (by decide +kernel : decode cX12_breaks 55 = .ok (.i2l, 1))) ?_
  refine And.intro (k_iload_n (pc := 56) (by decide +kernel : decode cX12_breaks 56 = .ok (.iload_n 2, 1)) rfl) ?_
  refine And.intro (k_i2l (pc := 57) (by decide +kernel : decode cX12_breaks 57 = .ok (.i2l, 1))) ?_
  refine And.intro (k_lmul (pc := 58) (by decide +kernel : decode cX12_breaks 58 = .ok (.lmul, 1))) ?_
  refine And.intro (k_ladd (pc := 59) (by decide +kernel : decode cX12_breaks 59 = .ok (.ladd, 1))) ?_
  refine And.intro (k_aload_n (pc := 60) (by decide +kernel : decode cX12_breaks 60 = .ok (.aload_n 0, 1)) rfl) ?_
  refine And.intro (k_iload (pc := 61) (by decide +kernel : decode cX12_breaks 61 = .ok (.iload 7, 2))) ?_
  refine And.intro (k_iconst (pc := 63) (by decide +kernel : decode cX12_breaks 63 = .ok (.iconst 2, 1)) (by decide)) ?_
  refine And.intro (k_crV (n := 2) (pc := 64) hG (zRoom_self 3) (tag := 12) rfl ini_X12 im_X12_stored se_X12_stored mk_X12_290 dy_X12_stored (by decide +kernel : decode cX12_breaks 64 = .ok (.invokevirtual 290, 3))) ?_
  refine And.intro (k_i2l (pc := 67) (by decide +kernel : decode cX12_breaks 67 = .ok (.i2l, 1))) ?_
  refine And.intro (k_iload_n (pc := 68) (by decide +kernel : decode cX12_breaks 68 = .ok (.iload_n 3, 1)) rfl) ?_
  refine And.intro (k_i2l (pc := 69) (by decide +kernel : decode cX12_breaks 69 = .ok (.i2l, 1))) ?_
  refine And.intro (k_lmul (pc := 70) (by decide +kernel : decode cX12_breaks 70 = .ok (.lmul, 1))) ?_
  refine And.intro (k_lsub (pc := 71) (by decide +kernel : decode cX12_breaks 71 = .ok (.lsub, 1))) ?_
  refine And.intro (k_lstore (pc := 72) (by decide +kernel : decode cX12_breaks 72 = .ok (.lstore 8, 2))) ?_
  refine And.intro (k_iload (pc := 74) (by decide +kernel : decode cX12_breaks 74 = .ok (.iload 4, 2))) ?_
  refine And.intro (k_iconst (pc := 76) (by decide +kernel : decode cX12_breaks 76 = .ok (.iconst (-1), 1)) (by decide)) ?_
  refine And.intro (k_icmp_eq (pc := 77) (by decide +kernel : decode cX12_breaks 77 = .ok (.if_icmp .eq 14, 3)) (by decide)) ?_
  refine And.intro (k_lload (pc := 80) (by decide +kernel : decode cX12_breaks 80 = .ok (.lload 8, 2))) ?_
  refine And.intro (k_lload (pc := 82) (by decide +kernel : decode cX12_breaks 82 = .ok (.lload 5, 2))) ?_
  refine And.intro (k_lcmp_gt (pc := 84) (by decide +kernel : decode cX12_breaks 84 = .ok (.lcmp, 1)) (by decide +kernel : decode cX12_breaks 85 = .ok (.ifCond .gt 6, 3)) (by decide)) ?_
  refine And.intro (k_goto (pc := 88) (by decide +kernel : decode cX12_breaks 88 = .ok (.goto 11, 3)) (by decide)) ?_
  refine And.intro (k_iload (pc := 91) (by decide +kernel : decode cX12_breaks 91 = .ok (.iload 7, 2))) ?_
  refine And.intro (k_istore (pc := 93) (by decide +kernel : decode cX12_breaks 93 = .ok (.istore 4, 2))) ?_
  refine And.intro (k_lload (pc := 95) (by decide +kernel : decode cX12_breaks 95 = .ok (.lload 8, 2))) ?_
  refine And.intro (k_lstore (pc := 97) (by decide +kernel : decode cX12_breaks 97 = .ok (.lstore 5, 2))) ?_
  refine And.intro (k_iinc (pc := 99) (by decide +kernel : decode cX12_breaks 99 = .ok (.iinc 7 1, 3)) (by decide)) ?_
  refine And.intro (k_goto (pc := 102) (by decide +kernel : decode cX12_breaks 102 = .ok (.goto (-77), 3)) (by decide)) ?_
  refine And.intro (k_iload (pc := 105) (by decide +kernel : decode cX12_breaks 105 = .ok (.iload 4, 2))) ?_
  refine And.intro (k_iconst (pc := 107) (by decide +kernel : decode cX12_breaks 107 = .ok (.iconst (-1), 1)) (by decide)) ?_
  refine And.intro (k_icmp_ne (pc := 108) (by decide +kernel : decode cX12_breaks 108 = .ok (.if_icmp .ne 6, 3)) (by decide)) ?_
  refine And.intro (k_bipush (pc := 111) (by decide +kernel : decode cX12_breaks 111 = .ok (.bipush (-2), 2)) (by decide)) ?_
  refine And.intro (k_ireturn (pc := 113) rfl (by decide +kernel : decode cX12_breaks 113 = .ok (.ireturn, 1))) ?_
  refine And.intro (k_aload_n (pc := 114) (by decide +kernel : decode cX12_breaks 114 = .ok (.aload_n 0, 1)) rfl) ?_
  refine And.intro (k_iconst (pc := 115) (by decide +kernel : decode cX12_breaks 115 = .ok (.iconst 0, 1)) (by decide)) ?_
  refine And.intro (k_pI (pc := 116) rfl (by decide) rfl zin12 lk_X12_59 tyX12_ok nmX12 rfl (by decide +kernel) (by decide +kernel : decode cX12_breaks 116 = .ok (.putfield 59, 3))) ?_
  refine And.intro (k_aload_n (pc := 119) (by decide +kernel : decode cX12_breaks 119 = .ok (.aload_n 0, 1)) rfl) ?_
  refine And.intro (k_lload (pc := 120) (by decide +kernel : decode cX12_breaks 120 = .ok (.lload 5, 2))) ?_
  refine And.intro (k_iload_n (pc := 122) (by decide +kernel : decode cX12_breaks 122 = .ok (.iload_n 3, 1)) rfl) ?_
  refine And.intro (k_i2l (pc := 123) (by decide +kernel : decode cX12_breaks 123 = .ok (.i2l, 1))) ?_
  refine And.intro (k_cvV (n := 2) (pc := 124) hG (zRoom_self 3) (tag := 12) rfl ini_X12 im_X12_tellFraction se_X12_tellFraction mk_X12_250 dy_X12_tellFraction (by decide +kernel : decode cX12_breaks 124 = .ok (.invokevirtual 250, 3))) ?_
  refine And.intro (k_iload (pc := 127) (by decide +kernel : decode cX12_breaks 127 = .ok (.iload 4, 2))) ?_
  refine And.intro (k_ireturn (pc := 129) rfl (by decide +kernel : decode cX12_breaks 129 = .ok (.ireturn, 1))) ?_
  exact trivial
theorem cdX12_breaks : Cond.code yX12_breaks cX12_breaks 10 (some .int) ∈ zWs := zWs_in 1510 (by decide +kernel) rfl
noncomputable def pgX12_layWholes : zPg := [(0, o_al 0), (1, o_ic (0)), (2, o_pI 12 29), (5, o_ic (0)), (6, o_is 1), (7, o_il 1), (8, o_ic (6)), (10, o_ic_gt 81), (13, o_ic (0)), (14, o_is 2), (15, o_il 2), (16, o_ic (6)), (18, o_ic_gt 75), (21, o_al 0), (22, o_il 1), (23, o_il 2), (24, o_vr2 yX12_isWhole 12 3), (27, o_if_ne 33), (30, o_go 69), (33, o_al 0), (34, o_gR 12 28), (37, o_ic (2)), (38, o_al 0), (39, o_gI 12 29), (42, o_imul), (43, o_il 1), (44, o_yI), (45, o_al 0), (46, o_gR 12 28), (49, o_ic (2)), (50, o_al 0), (51, o_gI 12 29), (54, o_imul), (55, o_ic (1)), (56, o_iadd), (57, o_il 2), (58, o_yI), (59, o_al 0), (60, o_dup), (61, o_gI 12 29), (64, o_ic (1)), (65, o_iadd), (66, o_pI 12 29), (69, o_inc 2 (1)), (72, o_go 15), (75, o_inc 1 (1)), (78, o_go 7), (81, o_vr)]
set_option maxRecDepth 20000 in
theorem pkX12_layWholes {G : zG} (hG : zGok G) (Q : zRt) : zPOK G (zRm 4) RX12 cX12_layWholes 3 none (zF G Q 0 0) 0 0 (zCalls G 4) Q pgX12_layWholes := by
  refine And.intro (k_aload_n (pc := 0) (by decide +kernel : decode cX12_layWholes 0 = .ok (.aload_n 0, 1)) rfl) ?_
  refine And.intro (k_iconst (pc := 1) (by decide +kernel : decode cX12_layWholes 1 = .ok (.iconst 0, 1)) (by decide)) ?_
  refine And.intro (k_pI (pc := 2) rfl (by decide) rfl zin12 lk_X12_306 tyX12_ok nmX12 rfl (by decide +kernel) (by decide +kernel : decode cX12_layWholes 2 = .ok (.putfield 306, 3))) ?_
  refine And.intro (k_iconst (pc := 5) (by decide +kernel : decode cX12_layWholes 5 = .ok (.iconst 0, 1)) (by decide)) ?_
  refine And.intro (k_istore_n (pc := 6) (by decide +kernel : decode cX12_layWholes 6 = .ok (.istore_n 1, 1)) rfl) ?_
  refine And.intro (k_iload_n (pc := 7) (by decide +kernel : decode cX12_layWholes 7 = .ok (.iload_n 1, 1)) rfl) ?_
  refine And.intro (k_bipush (pc := 8) (by decide +kernel : decode cX12_layWholes 8 = .ok (.bipush 6, 2)) (by decide)) ?_
  refine And.intro (k_icmp_gt (pc := 10) (by decide +kernel : decode cX12_layWholes 10 = .ok (.if_icmp .gt 71, 3)) (by decide)) ?_
  refine And.intro (k_iconst (pc := 13) (by decide +kernel : decode cX12_layWholes 13 = .ok (.iconst 0, 1)) (by decide)) ?_
  refine And.intro (k_istore_n (pc := 14) (by decide +kernel : decode cX12_layWholes 14 = .ok (.istore_n 2, 1)) rfl) ?_
  refine And.intro (k_iload_n (pc := 15) (by decide +kernel : decode cX12_layWholes 15 = .ok (.iload_n 2, 1)) rfl) ?_
  refine And.intro (k_bipush (pc := 16) (by decide +kernel : decode cX12_layWholes 16 = .ok (.bipush 6, 2)) (by decide)) ?_
  refine And.intro (k_icmp_gt (pc := 18) (by decide +kernel : decode cX12_layWholes 18 = .ok (.if_icmp .gt 57, 3)) (by decide)) ?_
  refine And.intro (k_aload_n (pc := 21) (by decide +kernel : decode cX12_layWholes 21 = .ok (.aload_n 0, 1)) rfl) ?_
  refine And.intro (k_iload_n (pc := 22) (by decide +kernel : decode cX12_layWholes 22 = .ok (.iload_n 1, 1)) rfl) ?_
  refine And.intro (k_iload_n (pc := 23) (by decide +kernel : decode cX12_layWholes 23 = .ok (.iload_n 2, 1)) rfl) ?_
  refine And.intro (k_crV (n := 2) (pc := 24) hG (zRoom_self 4) (tag := 12) rfl ini_X12 im_X12_isWhole se_X12_isWhole mk_X12_302 dy_X12_isWhole (by decide +kernel : decode cX12_layWholes 24 = .ok (.invokevirtual 302, 3))) ?_
  refine And.intro (k_if_ne (pc := 27) (by decide +kernel : decode cX12_layWholes 27 = .ok (.ifCond .ne 6, 3)) (by decide)) ?_
  refine And.intro (k_goto (pc := 30) (by decide +kernel : decode cX12_layWholes 30 = .ok (.goto 39, 3)) (by decide)) ?_
  refine And.intro (k_aload_n (pc := 33) (by decide +kernel : decode cX12_layWholes 33 = .ok (.aload_n 0, 1)) rfl) ?_
  refine And.intro (k_gR (pc := 34) rfl (by decide) rfl zin12 lk_X12_43 (by decide +kernel : decode cX12_layWholes 34 = .ok (.getfield 43, 3))) ?_
  refine And.intro (k_iconst (pc := 37) (by decide +kernel : decode cX12_layWholes 37 = .ok (.iconst 2, 1)) (by decide)) ?_
  refine And.intro (k_aload_n (pc := 38) (by decide +kernel : decode cX12_layWholes 38 = .ok (.aload_n 0, 1)) rfl) ?_
  refine And.intro (k_gI (pc := 39) rfl (by decide) rfl zin12 lk_X12_306 (by decide +kernel : decode cX12_layWholes 39 = .ok (.getfield 306, 3))) ?_
  refine And.intro (k_imul (pc := 42) (by decide +kernel : decode cX12_layWholes 42 = .ok (.imul, 1))) ?_
  refine And.intro (k_iload_n (pc := 43) (by decide +kernel : decode cX12_layWholes 43 = .ok (.iload_n 1, 1)) rfl) ?_
  refine And.intro (k_iast (pc := 44) (by decide +kernel : decode cX12_layWholes 44 = .ok (.iastore, 1))) ?_
  refine And.intro (k_aload_n (pc := 45) (by decide +kernel : decode cX12_layWholes 45 = .ok (.aload_n 0, 1)) rfl) ?_
  refine And.intro (k_gR (pc := 46) rfl (by decide) rfl zin12 lk_X12_43 (by decide +kernel : decode cX12_layWholes 46 = .ok (.getfield 43, 3))) ?_
  refine And.intro (k_iconst (pc := 49) (by decide +kernel : decode cX12_layWholes 49 = .ok (.iconst 2, 1)) (by decide)) ?_
  refine And.intro (k_aload_n (pc := 50) (by decide +kernel : decode cX12_layWholes 50 = .ok (.aload_n 0, 1)) rfl) ?_
  refine And.intro (k_gI (pc := 51) rfl (by decide) rfl zin12 lk_X12_306 (by decide +kernel : decode cX12_layWholes 51 = .ok (.getfield 306, 3))) ?_
  refine And.intro (k_imul (pc := 54) (by decide +kernel : decode cX12_layWholes 54 = .ok (.imul, 1))) ?_
  refine And.intro (k_iconst (pc := 55) (by decide +kernel : decode cX12_layWholes 55 = .ok (.iconst 1, 1)) (by decide)) ?_
  refine And.intro (k_iadd (pc := 56) (by decide +kernel : decode cX12_layWholes 56 = .ok (.iadd, 1))) ?_
  refine And.intro (k_iload_n (pc := 57) (by decide +kernel : decode cX12_layWholes 57 = .ok (.iload_n 2, 1)) rfl) ?_
  refine And.intro (k_iast (pc := 58) (by decide +kernel : decode cX12_layWholes 58 = .ok (.iastore, 1))) ?_
  refine And.intro (k_aload_n (pc := 59) (by decide +kernel : decode cX12_layWholes 59 = .ok (.aload_n 0, 1)) rfl) ?_
  refine And.intro (k_dup (pc := 60) (by decide +kernel : decode cX12_layWholes 60 = .ok (.dup, 1))) ?_
  refine And.intro (k_gI (pc := 61) rfl (by decide) rfl zin12 lk_X12_306 (by decide +kernel : decode cX12_layWholes 61 = .ok (.getfield 306, 3))) ?_
  refine And.intro (k_iconst (pc := 64) (by decide +kernel : decode cX12_layWholes 64 = .ok (.iconst 1, 1)) (by decide)) ?_
  refine And.intro (k_iadd (pc := 65) (by decide +kernel : decode cX12_layWholes 65 = .ok (.iadd, 1))) ?_
  refine And.intro (k_pI (pc := 66) rfl (by decide) rfl zin12 lk_X12_306 tyX12_ok nmX12 rfl (by decide +kernel) (by decide +kernel : decode cX12_layWholes 66 = .ok (.putfield 306, 3))) ?_
  refine And.intro (k_iinc (pc := 69) (by decide +kernel : decode cX12_layWholes 69 = .ok (.iinc 2 1, 3)) (by decide)) ?_
  refine And.intro (k_goto (pc := 72) (by decide +kernel : decode cX12_layWholes 72 = .ok (.goto (-57), 3)) (by decide)) ?_
  refine And.intro (k_iinc (pc := 75) (by decide +kernel : decode cX12_layWholes 75 = .ok (.iinc 1 1, 3)) (by decide)) ?_
  refine And.intro (k_goto (pc := 78) (by decide +kernel : decode cX12_layWholes 78 = .ok (.goto (-71), 3)) (by decide)) ?_
  refine And.intro (k_return (pc := 81) rfl (by decide +kernel : decode cX12_layWholes 81 = .ok (.return_, 1))) ?_
  exact trivial
theorem cdX12_layWholes : Cond.code yX12_layWholes cX12_layWholes 3 none ∈ zWs := zWs_in 1518 (by decide +kernel) rfl
noncomputable def pgX12_wholes : zPg := [(0, o_al 0), (1, o_ic (0)), (2, o_pI 12 5), (5, o_al 0), (6, o_vv yX12_layWholes 12 1), (9, o_al 0), (10, o_ic (0)), (11, o_pI 12 4), (14, o_al 0), (15, o_gI 12 29), (18, o_if_ne 23), (21, o_ic (0)), (22, o_ir), (23, o_al 0), (24, o_al 0), (25, o_gR 12 28), (28, o_ic (0)), (29, o_xI 14), (30, o_i2l), (31, o_vv yX12_tell 12 2), (34, o_al 0), (35, o_al 0), (36, o_gR 12 28), (39, o_ic (1)), (40, o_xI 14), (41, o_i2l), (42, o_vv yX12_tell 12 2), (45, o_al 0), (46, o_al 0), (47, o_gR 12 28), (50, o_ic (2)), (51, o_al 0), (52, o_gI 12 29), (55, o_imul), (56, o_ic (2)), (57, o_isub), (58, o_xI 14), (59, o_i2l), (60, o_vv yX12_tell 12 2), (63, o_al 0), (64, o_al 0), (65, o_gR 12 28), (68, o_ic (2)), (69, o_al 0), (70, o_gI 12 29), (73, o_imul), (74, o_ic (1)), (75, o_isub), (76, o_xI 14), (77, o_i2l), (78, o_vv yX12_tell 12 2), (81, o_al 0), (82, o_gI 12 29), (85, o_ir)]
set_option maxRecDepth 20000 in
theorem pkX12_wholes {G : zG} (hG : zGok G) (Q : zRt) : zPOK G (zRm 5) RX12 cX12_wholes 1 (some .int) (zF G Q 0 0) 0 0 (zCalls G 5) Q pgX12_wholes := by
  refine And.intro (k_aload_n (pc := 0) (by decide +kernel : decode cX12_wholes 0 = .ok (.aload_n 0, 1)) rfl) ?_
  refine And.intro (k_iconst (pc := 1) (by decide +kernel : decode cX12_wholes 1 = .ok (.iconst 0, 1)) (by decide)) ?_
  refine And.intro (k_pI (pc := 2) rfl (by decide) rfl zin12 lk_X12_55 tyX12_ok nmX12 rfl (by decide +kernel) (by decide +kernel : decode cX12_wholes 2 = .ok (.putfield 55, 3))) ?_
  refine And.intro (k_aload_n (pc := 5) (by decide +kernel : decode cX12_wholes 5 = .ok (.aload_n 0, 1)) rfl) ?_
  refine And.intro (k_cvV (n := 0) (pc := 6) hG (zRoom_self 5) (tag := 12) rfl ini_X12 im_X12_layWholes se_X12_layWholes mk_X12_309 dy_X12_layWholes (by decide +kernel : decode cX12_wholes 6 = .ok (.invokevirtual 309, 3))) ?_
  refine And.intro (k_aload_n (pc := 9) (by decide +kernel : decode cX12_wholes 9 = .ok (.aload_n 0, 1)) rfl) ?_
  refine And.intro (k_iconst (pc := 10) (by decide +kernel : decode cX12_wholes 10 = .ok (.iconst 0, 1)) (by decide)) ?_
  refine And.intro (k_pI (pc := 11) rfl (by decide) rfl zin12 lk_X12_59 tyX12_ok nmX12 rfl (by decide +kernel) (by decide +kernel : decode cX12_wholes 11 = .ok (.putfield 59, 3))) ?_
  refine And.intro (k_aload_n (pc := 14) (by decide +kernel : decode cX12_wholes 14 = .ok (.aload_n 0, 1)) rfl) ?_
  refine And.intro (k_gI (pc := 15) rfl (by decide) rfl zin12 lk_X12_306 (by decide +kernel : decode cX12_wholes 15 = .ok (.getfield 306, 3))) ?_
  refine And.intro (k_if_ne (pc := 18) (by decide +kernel : decode cX12_wholes 18 = .ok (.ifCond .ne 5, 3)) (by decide)) ?_
  refine And.intro (k_iconst (pc := 21) (by decide +kernel : decode cX12_wholes 21 = .ok (.iconst 0, 1)) (by decide)) ?_
  refine And.intro (k_ireturn (pc := 22) rfl (by decide +kernel : decode cX12_wholes 22 = .ok (.ireturn, 1))) ?_
  refine And.intro (k_aload_n (pc := 23) (by decide +kernel : decode cX12_wholes 23 = .ok (.aload_n 0, 1)) rfl) ?_
  refine And.intro (k_aload_n (pc := 24) (by decide +kernel : decode cX12_wholes 24 = .ok (.aload_n 0, 1)) rfl) ?_
  refine And.intro (k_gR (pc := 25) rfl (by decide) rfl zin12 lk_X12_43 (by decide +kernel : decode cX12_wholes 25 = .ok (.getfield 43, 3))) ?_
  refine And.intro (k_iconst (pc := 28) (by decide +kernel : decode cX12_wholes 28 = .ok (.iconst 0, 1)) (by decide)) ?_
  refine And.intro (k_iald (pc := 29) (by decide +kernel : decode cX12_wholes 29 = .ok (.iaload, 1))) ?_
  refine And.intro (k_i2l (pc := 30) (by decide +kernel : decode cX12_wholes 30 = .ok (.i2l, 1))) ?_
  refine And.intro (k_cvV (n := 1) (pc := 31) hG (zRoom_self 5) (tag := 12) rfl ini_X12 im_X12_tell se_X12_tell mk_X12_80 dy_X12_tell (by decide +kernel : decode cX12_wholes 31 = .ok (.invokevirtual 80, 3))) ?_
  refine And.intro (k_aload_n (pc := 34) (by decide +kernel : decode cX12_wholes 34 = .ok (.aload_n 0, 1)) rfl) ?_
  refine And.intro (k_aload_n (pc := 35) (by decide +kernel : decode cX12_wholes 35 = .ok (.aload_n 0, 1)) rfl) ?_
  refine And.intro (k_gR (pc := 36) rfl (by decide) rfl zin12 lk_X12_43 (by decide +kernel : decode cX12_wholes 36 = .ok (.getfield 43, 3))) ?_
  refine And.intro (k_iconst (pc := 39) (by decide +kernel : decode cX12_wholes 39 = .ok (.iconst 1, 1)) (by decide)) ?_
  refine And.intro (k_iald (pc := 40) (by decide +kernel : decode cX12_wholes 40 = .ok (.iaload, 1))) ?_
  refine And.intro (k_i2l (pc := 41) (by decide +kernel : decode cX12_wholes 41 = .ok (.i2l, 1))) ?_
  refine And.intro (k_cvV (n := 1) (pc := 42) hG (zRoom_self 5) (tag := 12) rfl ini_X12 im_X12_tell se_X12_tell mk_X12_80 dy_X12_tell (by decide +kernel : decode cX12_wholes 42 = .ok (.invokevirtual 80, 3))) ?_
  refine And.intro (k_aload_n (pc := 45) (by decide +kernel : decode cX12_wholes 45 = .ok (.aload_n 0, 1)) rfl) ?_
  refine And.intro (k_aload_n (pc := 46) (by decide +kernel : decode cX12_wholes 46 = .ok (.aload_n 0, 1)) rfl) ?_
  refine And.intro (k_gR (pc := 47) rfl (by decide) rfl zin12 lk_X12_43 (by decide +kernel : decode cX12_wholes 47 = .ok (.getfield 43, 3))) ?_
  refine And.intro (k_iconst (pc := 50) (by decide +kernel : decode cX12_wholes 50 = .ok (.iconst 2, 1)) (by decide)) ?_
  refine And.intro (k_aload_n (pc := 51) (by decide +kernel : decode cX12_wholes 51 = .ok (.aload_n 0, 1)) rfl) ?_
  refine And.intro (k_gI (pc := 52) rfl (by decide) rfl zin12 lk_X12_306 (by decide +kernel : decode cX12_wholes 52 = .ok (.getfield 306, 3))) ?_
  refine And.intro (k_imul (pc := 55) (by decide +kernel : decode cX12_wholes 55 = .ok (.imul, 1))) ?_
  refine And.intro (k_iconst (pc := 56) (by decide +kernel : decode cX12_wholes 56 = .ok (.iconst 2, 1)) (by decide)) ?_
  refine And.intro (k_isub (pc := 57) (by decide +kernel : decode cX12_wholes 57 = .ok (.isub, 1))) ?_
  refine And.intro (k_iald (pc := 58) (by decide +kernel : decode cX12_wholes 58 = .ok (.iaload, 1))) ?_
  refine And.intro (k_i2l (pc := 59) (by decide +kernel : decode cX12_wholes 59 = .ok (.i2l, 1))) ?_
  refine And.intro (k_cvV (n := 1) (pc := 60) hG (zRoom_self 5) (tag := 12) rfl ini_X12 im_X12_tell se_X12_tell mk_X12_80 dy_X12_tell (by decide +kernel : decode cX12_wholes 60 = .ok (.invokevirtual 80, 3))) ?_
  refine And.intro (k_aload_n (pc := 63) (by decide +kernel : decode cX12_wholes 63 = .ok (.aload_n 0, 1)) rfl) ?_
  refine And.intro (k_aload_n (pc := 64) (by decide +kernel : decode cX12_wholes 64 = .ok (.aload_n 0, 1)) rfl) ?_
  refine And.intro (k_gR (pc := 65) rfl (by decide) rfl zin12 lk_X12_43 (by decide +kernel : decode cX12_wholes 65 = .ok (.getfield 43, 3))) ?_
  refine And.intro (k_iconst (pc := 68) (by decide +kernel : decode cX12_wholes 68 = .ok (.iconst 2, 1)) (by decide)) ?_
  refine And.intro (k_aload_n (pc := 69) (by decide +kernel : decode cX12_wholes 69 = .ok (.aload_n 0, 1)) rfl) ?_
  refine And.intro (k_gI (pc := 70) rfl (by decide) rfl zin12 lk_X12_306 (by decide +kernel : decode cX12_wholes 70 = .ok (.getfield 306, 3))) ?_
  refine And.intro (k_imul (pc := 73) (by decide +kernel : decode cX12_wholes 73 = .ok (.imul, 1))) ?_
  refine And.intro (k_iconst (pc := 74) (by decide +kernel : decode cX12_wholes 74 = .ok (.iconst 1, 1)) (by decide)) ?_
  refine And.intro (k_isub (pc := 75) (by decide +kernel : decode cX12_wholes 75 = .ok (.isub, 1))) ?_
  refine And.intro (k_iald (pc := 76) (by decide +kernel : decode cX12_wholes 76 = .ok (.iaload, 1))) ?_
  refine And.intro (k_i2l (pc := 77) (by decide +kernel : decode cX12_wholes 77 = .ok (.i2l, 1))) ?_
  refine And.intro (k_cvV (n := 1) (pc := 78) hG (zRoom_self 5) (tag := 12) rfl ini_X12 im_X12_tell se_X12_tell mk_X12_80 dy_X12_tell (by decide +kernel : decode cX12_wholes 78 = .ok (.invokevirtual 80, 3))) ?_
  refine And.intro (k_aload_n (pc := 81) (by decide +kernel : decode cX12_wholes 81 = .ok (.aload_n 0, 1)) rfl) ?_
  refine And.intro (k_gI (pc := 82) rfl (by decide) rfl zin12 lk_X12_306 (by decide +kernel : decode cX12_wholes 82 = .ok (.getfield 306, 3))) ?_
  refine And.intro (k_ireturn (pc := 85) rfl (by decide +kernel : decode cX12_wholes 85 = .ok (.ireturn, 1))) ?_
  exact trivial
theorem cdX12_wholes : Cond.code yX12_wholes cX12_wholes 1 (some .int) ∈ zWs := zWs_in 1514 (by decide +kernel) rfl
noncomputable def pgX12_turn : zPg := [(0, o_al 0), (1, o_gR 12 28), (4, o_ic (2)), (5, o_il 2), (6, o_imul), (7, o_xI 14), (8, o_al 0), (9, o_gR 12 28), (12, o_ic (2)), (13, o_il 1), (14, o_imul), (15, o_xI 14), (16, o_isub), (17, o_al 0), (18, o_gR 12 28), (21, o_ic (2)), (22, o_il 3), (23, o_imul), (24, o_ic (1)), (25, o_iadd), (26, o_xI 14), (27, o_al 0), (28, o_gR 12 28), (31, o_ic (2)), (32, o_il 1), (33, o_imul), (34, o_ic (1)), (35, o_iadd), (36, o_xI 14), (37, o_isub), (38, o_imul), (39, o_al 0), (40, o_gR 12 28), (43, o_ic (2)), (44, o_il 2), (45, o_imul), (46, o_ic (1)), (47, o_iadd), (48, o_xI 14), (49, o_al 0), (50, o_gR 12 28), (53, o_ic (2)), (54, o_il 1), (55, o_imul), (56, o_ic (1)), (57, o_iadd), (58, o_xI 14), (59, o_isub), (60, o_al 0), (61, o_gR 12 28), (64, o_ic (2)), (65, o_il 3), (66, o_imul), (67, o_xI 14), (68, o_al 0), (69, o_gR 12 28), (72, o_ic (2)), (73, o_il 1), (74, o_imul), (75, o_xI 14), (76, o_isub), (77, o_imul), (78, o_isub), (79, o_ir)]
set_option maxRecDepth 20000 in
theorem pkX12_turn {G : zG} (hG : zGok G) (Q : zRt) : zPOK G (zRm 0) RX12 cX12_turn 4 (some .int) (zF G Q 0 0) 0 0 (zCalls G 0) Q pgX12_turn := by
  refine And.intro (k_aload_n (pc := 0) (by decide +kernel : decode cX12_turn 0 = .ok (.aload_n 0, 1)) rfl) ?_
  refine And.intro (k_gR (pc := 1) rfl (by decide) rfl zin12 lk_X12_43 (by decide +kernel : decode cX12_turn 1 = .ok (.getfield 43, 3))) ?_
  refine And.intro (k_iconst (pc := 4) (by decide +kernel : decode cX12_turn 4 = .ok (.iconst 2, 1)) (by decide)) ?_
  refine And.intro (k_iload_n (pc := 5) (by decide +kernel : decode cX12_turn 5 = .ok (.iload_n 2, 1)) rfl) ?_
  refine And.intro (k_imul (pc := 6) (by decide +kernel : decode cX12_turn 6 = .ok (.imul, 1))) ?_
  refine And.intro (k_iald (pc := 7) (by decide +kernel : decode cX12_turn 7 = .ok (.iaload, 1))) ?_
  refine And.intro (k_aload_n (pc := 8) (by decide +kernel : decode cX12_turn 8 = .ok (.aload_n 0, 1)) rfl) ?_
  refine And.intro (k_gR (pc := 9) rfl (by decide) rfl zin12 lk_X12_43 (by decide +kernel : decode cX12_turn 9 = .ok (.getfield 43, 3))) ?_
  refine And.intro (k_iconst (pc := 12) (by decide +kernel : decode cX12_turn 12 = .ok (.iconst 2, 1)) (by decide)) ?_
  refine And.intro (k_iload_n (pc := 13) (by decide +kernel : decode cX12_turn 13 = .ok (.iload_n 1, 1)) rfl) ?_
  refine And.intro (k_imul (pc := 14) (by decide +kernel : decode cX12_turn 14 = .ok (.imul, 1))) ?_
  refine And.intro (k_iald (pc := 15) (by decide +kernel : decode cX12_turn 15 = .ok (.iaload, 1))) ?_
  refine And.intro (k_isub (pc := 16) (by decide +kernel : decode cX12_turn 16 = .ok (.isub, 1))) ?_
  refine And.intro (k_aload_n (pc := 17) (by decide +kernel : decode cX12_turn 17 = .ok (.aload_n 0, 1)) rfl) ?_
  refine And.intro (k_gR (pc := 18) rfl (by decide) rfl zin12 lk_X12_43 (by decide +kernel : decode cX12_turn 18 = .ok (.getfield 43, 3))) ?_
  refine And.intro (k_iconst (pc := 21) (by decide +kernel : decode cX12_turn 21 = .ok (.iconst 2, 1)) (by decide)) ?_
  refine And.intro (k_iload_n (pc := 22) (by decide +kernel : decode cX12_turn 22 = .ok (.iload_n 3, 1)) rfl) ?_
  refine And.intro (k_imul (pc := 23) (by decide +kernel : decode cX12_turn 23 = .ok (.imul, 1))) ?_
  refine And.intro (k_iconst (pc := 24) (by decide +kernel : decode cX12_turn 24 = .ok (.iconst 1, 1)) (by decide)) ?_
  refine And.intro (k_iadd (pc := 25) (by decide +kernel : decode cX12_turn 25 = .ok (.iadd, 1))) ?_
  refine And.intro (k_iald (pc := 26) (by decide +kernel : decode cX12_turn 26 = .ok (.iaload, 1))) ?_
  refine And.intro (k_aload_n (pc := 27) (by decide +kernel : decode cX12_turn 27 = .ok (.aload_n 0, 1)) rfl) ?_
  refine And.intro (k_gR (pc := 28) rfl (by decide) rfl zin12 lk_X12_43 (by decide +kernel : decode cX12_turn 28 = .ok (.getfield 43, 3))) ?_
  refine And.intro (k_iconst (pc := 31) (by decide +kernel : decode cX12_turn 31 = .ok (.iconst 2, 1)) (by decide)) ?_
  refine And.intro (k_iload_n (pc := 32) (by decide +kernel : decode cX12_turn 32 = .ok (.iload_n 1, 1)) rfl) ?_
  refine And.intro (k_imul (pc := 33) (by decide +kernel : decode cX12_turn 33 = .ok (.imul, 1))) ?_
  refine And.intro (k_iconst (pc := 34) (by decide +kernel : decode cX12_turn 34 = .ok (.iconst 1, 1)) (by decide)) ?_
  refine And.intro (k_iadd (pc := 35) (by decide +kernel : decode cX12_turn 35 = .ok (.iadd, 1))) ?_
  refine And.intro (k_iald (pc := 36) (by decide +kernel : decode cX12_turn 36 = .ok (.iaload, 1))) ?_
  refine And.intro (k_isub (pc := 37) (by decide +kernel : decode cX12_turn 37 = .ok (.isub, 1))) ?_
  refine And.intro (k_imul (pc := 38) (by decide +kernel : decode cX12_turn 38 = .ok (.imul, 1))) ?_
  refine And.intro (k_aload_n (pc := 39) (by decide +kernel : decode cX12_turn 39 = .ok (.aload_n 0, 1)) rfl) ?_
  refine And.intro (k_gR (pc := 40) rfl (by decide) rfl zin12 lk_X12_43 (by decide +kernel : decode cX12_turn 40 = .ok (.getfield 43, 3))) ?_
  refine And.intro (k_iconst (pc := 43) (by decide +kernel : decode cX12_turn 43 = .ok (.iconst 2, 1)) (by decide)) ?_
  refine And.intro (k_iload_n (pc := 44) (by decide +kernel : decode cX12_turn 44 = .ok (.iload_n 2, 1)) rfl) ?_
  refine And.intro (k_imul (pc := 45) (by decide +kernel : decode cX12_turn 45 = .ok (.imul, 1))) ?_
  refine And.intro (k_iconst (pc := 46) (by decide +kernel : decode cX12_turn 46 = .ok (.iconst 1, 1)) (by decide)) ?_
  refine And.intro (k_iadd (pc := 47) (by decide +kernel : decode cX12_turn 47 = .ok (.iadd, 1))) ?_
  refine And.intro (k_iald (pc := 48) (by decide +kernel : decode cX12_turn 48 = .ok (.iaload, 1))) ?_
  refine And.intro (k_aload_n (pc := 49) (by decide +kernel : decode cX12_turn 49 = .ok (.aload_n 0, 1)) rfl) ?_
  refine And.intro (k_gR (pc := 50) rfl (by decide) rfl zin12 lk_X12_43 (by decide +kernel : decode cX12_turn 50 = .ok (.getfield 43, 3))) ?_
  refine And.intro (k_iconst (pc := 53) (by decide +kernel : decode cX12_turn 53 = .ok (.iconst 2, 1)) (by decide)) ?_
  refine And.intro (k_iload_n (pc := 54) (by decide +kernel : decode cX12_turn 54 = .ok (.iload_n 1, 1)) rfl) ?_
  refine And.intro (k_imul (pc := 55) (by decide +kernel : decode cX12_turn 55 = .ok (.imul, 1))) ?_
  refine And.intro (k_iconst (pc := 56) (by decide +kernel : decode cX12_turn 56 = .ok (.iconst 1, 1)) (by decide)) ?_
  refine And.intro (k_iadd (pc := 57) (by decide +kernel : decode cX12_turn 57 = .ok (.iadd, 1))) ?_
  refine And.intro (k_iald (pc := 58) (by decide +kernel : decode cX12_turn 58 = .ok (.iaload, 1))) ?_
  refine And.intro (k_isub (pc := 59) (by decide +kernel : decode cX12_turn 59 = .ok (.isub, 1))) ?_
  refine And.intro (k_aload_n (pc := 60) (by decide +kernel : decode cX12_turn 60 = .ok (.aload_n 0, 1)) rfl) ?_
  refine And.intro (k_gR (pc := 61) rfl (by decide) rfl zin12 lk_X12_43 (by decide +kernel : decode cX12_turn 61 = .ok (.getfield 43, 3))) ?_
  refine And.intro (k_iconst (pc := 64) (by decide +kernel : decode cX12_turn 64 = .ok (.iconst 2, 1)) (by decide)) ?_
  refine And.intro (k_iload_n (pc := 65) (by decide +kernel : decode cX12_turn 65 = .ok (.iload_n 3, 1)) rfl) ?_
  refine And.intro (k_imul (pc := 66) (by decide +kernel : decode cX12_turn 66 = .ok (.imul, 1))) ?_
  refine And.intro (k_iald (pc := 67) (by decide +kernel : decode cX12_turn 67 = .ok (.iaload, 1))) ?_
  refine And.intro (k_aload_n (pc := 68) (by decide +kernel : decode cX12_turn 68 = .ok (.aload_n 0, 1)) rfl) ?_
  refine And.intro (k_gR (pc := 69) rfl (by decide) rfl zin12 lk_X12_43 (by decide +kernel : decode cX12_turn 69 = .ok (.getfield 43, 3))) ?_
  refine And.intro (k_iconst (pc := 72) (by decide +kernel : decode cX12_turn 72 = .ok (.iconst 2, 1)) (by decide)) ?_
  refine And.intro (k_iload_n (pc := 73) (by decide +kernel : decode cX12_turn 73 = .ok (.iload_n 1, 1)) rfl) ?_
  refine And.intro (k_imul (pc := 74) (by decide +kernel : decode cX12_turn 74 = .ok (.imul, 1))) ?_
  refine And.intro (k_iald (pc := 75) (by decide +kernel : decode cX12_turn 75 = .ok (.iaload, 1))) ?_
  refine And.intro (k_isub (pc := 76) (by decide +kernel : decode cX12_turn 76 = .ok (.isub, 1))) ?_
  refine And.intro (k_imul (pc := 77) (by decide +kernel : decode cX12_turn 77 = .ok (.imul, 1))) ?_
  refine And.intro (k_isub (pc := 78) (by decide +kernel : decode cX12_turn 78 = .ok (.isub, 1))) ?_
  refine And.intro (k_ireturn (pc := 79) rfl (by decide +kernel : decode cX12_turn 79 = .ok (.ireturn, 1))) ?_
  exact trivial
theorem cdX12_turn : Cond.code yX12_turn cX12_turn 4 (some .int) ∈ zWs := zWs_in 1530 (by decide +kernel) rfl
noncomputable def pgX12_far : zPg := [(0, o_al 0), (1, o_gR 12 28), (4, o_ic (2)), (5, o_il 2), (6, o_imul), (7, o_xI 14), (8, o_al 0), (9, o_gR 12 28), (12, o_ic (2)), (13, o_il 1), (14, o_imul), (15, o_xI 14), (16, o_isub), (17, o_is 3), (18, o_al 0), (19, o_gR 12 28), (22, o_ic (2)), (23, o_il 2), (24, o_imul), (25, o_ic (1)), (26, o_iadd), (27, o_xI 14), (28, o_al 0), (29, o_gR 12 28), (32, o_ic (2)), (33, o_il 1), (34, o_imul), (35, o_ic (1)), (36, o_iadd), (37, o_xI 14), (38, o_isub), (39, o_is 4), (41, o_il 3), (42, o_il 3), (43, o_imul), (44, o_il 4), (46, o_il 4), (48, o_imul), (49, o_iadd), (50, o_ir)]
set_option maxRecDepth 20000 in
theorem pkX12_far {G : zG} (hG : zGok G) (Q : zRt) : zPOK G (zRm 0) RX12 cX12_far 5 (some .int) (zF G Q 0 0) 0 0 (zCalls G 0) Q pgX12_far := by
  refine And.intro (k_aload_n (pc := 0) (by decide +kernel : decode cX12_far 0 = .ok (.aload_n 0, 1)) rfl) ?_
  refine And.intro (k_gR (pc := 1) rfl (by decide) rfl zin12 lk_X12_43 (by decide +kernel : decode cX12_far 1 = .ok (.getfield 43, 3))) ?_
  refine And.intro (k_iconst (pc := 4) (by decide +kernel : decode cX12_far 4 = .ok (.iconst 2, 1)) (by decide)) ?_
  refine And.intro (k_iload_n (pc := 5) (by decide +kernel : decode cX12_far 5 = .ok (.iload_n 2, 1)) rfl) ?_
  refine And.intro (k_imul (pc := 6) (by decide +kernel : decode cX12_far 6 = .ok (.imul, 1))) ?_
  refine And.intro (k_iald (pc := 7) (by decide +kernel : decode cX12_far 7 = .ok (.iaload, 1))) ?_
  refine And.intro (k_aload_n (pc := 8) (by decide +kernel : decode cX12_far 8 = .ok (.aload_n 0, 1)) rfl) ?_
  refine And.intro (k_gR (pc := 9) rfl (by decide) rfl zin12 lk_X12_43 (by decide +kernel : decode cX12_far 9 = .ok (.getfield 43, 3))) ?_
  refine And.intro (k_iconst (pc := 12) (by decide +kernel : decode cX12_far 12 = .ok (.iconst 2, 1)) (by decide)) ?_
  refine And.intro (k_iload_n (pc := 13) (by decide +kernel : decode cX12_far 13 = .ok (.iload_n 1, 1)) rfl) ?_
  refine And.intro (k_imul (pc := 14) (by decide +kernel : decode cX12_far 14 = .ok (.imul, 1))) ?_
  refine And.intro (k_iald (pc := 15) (by decide +kernel : decode cX12_far 15 = .ok (.iaload, 1))) ?_
  refine And.intro (k_isub (pc := 16) (by decide +kernel : decode cX12_far 16 = .ok (.isub, 1))) ?_
  refine And.intro (k_istore_n (pc := 17) (by decide +kernel : decode cX12_far 17 = .ok (.istore_n 3, 1)) rfl) ?_
  refine And.intro (k_aload_n (pc := 18) (by decide +kernel : decode cX12_far 18 = .ok (.aload_n 0, 1)) rfl) ?_
  refine And.intro (k_gR (pc := 19) rfl (by decide) rfl zin12 lk_X12_43 (by decide +kernel : decode cX12_far 19 = .ok (.getfield 43, 3))) ?_
  refine And.intro (k_iconst (pc := 22) (by decide +kernel : decode cX12_far 22 = .ok (.iconst 2, 1)) (by decide)) ?_
  refine And.intro (k_iload_n (pc := 23) (by decide +kernel : decode cX12_far 23 = .ok (.iload_n 2, 1)) rfl) ?_
  refine And.intro (k_imul (pc := 24) (by decide +kernel : decode cX12_far 24 = .ok (.imul, 1))) ?_
  refine And.intro (k_iconst (pc := 25) (by decide +kernel : decode cX12_far 25 = .ok (.iconst 1, 1)) (by decide)) ?_
  refine And.intro (k_iadd (pc := 26) (by decide +kernel : decode cX12_far 26 = .ok (.iadd, 1))) ?_
  refine And.intro (k_iald (pc := 27) (by decide +kernel : decode cX12_far 27 = .ok (.iaload, 1))) ?_
  refine And.intro (k_aload_n (pc := 28) (by decide +kernel : decode cX12_far 28 = .ok (.aload_n 0, 1)) rfl) ?_
  refine And.intro (k_gR (pc := 29) rfl (by decide) rfl zin12 lk_X12_43 (by decide +kernel : decode cX12_far 29 = .ok (.getfield 43, 3))) ?_
  refine And.intro (k_iconst (pc := 32) (by decide +kernel : decode cX12_far 32 = .ok (.iconst 2, 1)) (by decide)) ?_
  refine And.intro (k_iload_n (pc := 33) (by decide +kernel : decode cX12_far 33 = .ok (.iload_n 1, 1)) rfl) ?_
  refine And.intro (k_imul (pc := 34) (by decide +kernel : decode cX12_far 34 = .ok (.imul, 1))) ?_
  refine And.intro (k_iconst (pc := 35) (by decide +kernel : decode cX12_far 35 = .ok (.iconst 1, 1)) (by decide)) ?_
  refine And.intro (k_iadd (pc := 36) (by decide +kernel : decode cX12_far 36 = .ok (.iadd, 1))) ?_
  refine And.intro (k_iald (pc := 37) (by decide +kernel : decode cX12_far 37 = .ok (.iaload, 1))) ?_
  refine And.intro (k_isub (pc := 38) (by decide +kernel : decode cX12_far 38 = .ok (.isub, 1))) ?_
  refine And.intro (k_istore (pc := 39) (by decide +kernel : decode cX12_far 39 = .ok (.istore 4, 2))) ?_
  refine And.intro (k_iload_n (pc := 41) (by decide +kernel : decode cX12_far 41 = .ok (.iload_n 3, 1)) rfl) ?_
  refine And.intro (k_iload_n (pc := 42) (by decide +kernel : decode cX12_far 42 = .ok (.iload_n 3, 1)) rfl) ?_
  refine And.intro (k_imul (pc := 43) (by decide +kernel : decode cX12_far 43 = .ok (.imul, 1))) ?_
  refine And.intro (k_iload (pc := 44) (by decide +kernel : decode cX12_far 44 = .ok (.iload 4, 2))) ?_
  refine And.intro (k_iload (pc := 46) (by decide +kernel : decode cX12_far 46 = .ok (.iload 4, 2))) ?_
  refine And.intro (k_imul (pc := 48) (by decide +kernel : decode cX12_far 48 = .ok (.imul, 1))) ?_
  refine And.intro (k_iadd (pc := 49) (by decide +kernel : decode cX12_far 49 = .ok (.iadd, 1))) ?_
  refine And.intro (k_ireturn (pc := 50) rfl (by decide +kernel : decode cX12_far 50 = .ok (.ireturn, 1))) ?_
  exact trivial
theorem cdX12_far : Cond.code yX12_far cX12_far 5 (some .int) ∈ zWs := zWs_in 1534 (by decide +kernel) rfl
noncomputable def pgX12_nextCorner : zPg := [(0, o_ic (-1)), (1, o_is 2), (2, o_ic (0)), (3, o_is 3), (4, o_il 3), (5, o_al 0), (6, o_gI 12 29), (9, o_ic_ge 76), (12, o_il 3), (13, o_il 1), (14, o_ic_ne 20), (17, o_go 70), (20, o_il 2), (21, o_ic (-1)), (22, o_ic_ne 29), (25, o_ic (-1)), (26, o_go 36), (29, o_al 0), (30, o_il 1), (31, o_il 2), (32, o_il 3), (33, o_vr2 yX12_turn 12 4), (36, o_is 4), (38, o_il 2), (39, o_ic (-1)), (40, o_ic_eq 68), (43, o_il 4), (45, o_if_lt 68), (48, o_il 4), (50, o_if_ne 70), (53, o_al 0), (54, o_il 1), (55, o_il 3), (56, o_vr2 yX12_far 12 3), (59, o_al 0), (60, o_il 1), (61, o_il 2), (62, o_vr2 yX12_far 12 3), (65, o_ic_le 70), (68, o_il 3), (69, o_is 2), (70, o_inc 3 (1)), (73, o_go 4), (76, o_il 2), (77, o_ir)]
set_option maxRecDepth 20000 in
theorem pkX12_nextCorner {G : zG} (hG : zGok G) (Q : zRt) : zPOK G (zRm 1) RX12 cX12_nextCorner 5 (some .int) (zF G Q 0 0) 0 0 (zCalls G 1) Q pgX12_nextCorner := by
  refine And.intro (k_iconst (pc := 0) (by decide +kernel : decode cX12_nextCorner 0 = .ok (.iconst (-1), 1)) (by decide)) ?_
  refine And.intro (k_istore_n (pc := 1) (by decide +kernel : decode cX12_nextCorner 1 = .ok (.istore_n 2, 1)) rfl) ?_
  refine And.intro (k_iconst (pc := 2) (by decide +kernel : decode cX12_nextCorner 2 = .ok (.iconst 0, 1)) (by decide)) ?_
  refine And.intro (k_istore_n (pc := 3) (by decide +kernel : decode cX12_nextCorner 3 = .ok (.istore_n 3, 1)) rfl) ?_
  refine And.intro (k_iload_n (pc := 4) (by decide +kernel : decode cX12_nextCorner 4 = .ok (.iload_n 3, 1)) rfl) ?_
  refine And.intro (k_aload_n (pc := 5) (by decide +kernel : decode cX12_nextCorner 5 = .ok (.aload_n 0, 1)) rfl) ?_
  refine And.intro (k_gI (pc := 6) rfl (by decide) rfl zin12 lk_X12_306 (by decide +kernel : decode cX12_nextCorner 6 = .ok (.getfield 306, 3))) ?_
  refine And.intro (k_icmp_ge (pc := 9) (by decide +kernel : decode cX12_nextCorner 9 = .ok (.if_icmp .ge 67, 3)) (by decide)) ?_
  refine And.intro (k_iload_n (pc := 12) (by decide +kernel : decode cX12_nextCorner 12 = .ok (.iload_n 3, 1)) rfl) ?_
  refine And.intro (k_iload_n (pc := 13) (by decide +kernel : decode cX12_nextCorner 13 = .ok (.iload_n 1, 1)) rfl) ?_
  refine And.intro (k_icmp_ne (pc := 14) (by decide +kernel : decode cX12_nextCorner 14 = .ok (.if_icmp .ne 6, 3)) (by decide)) ?_
  refine And.intro (k_goto (pc := 17) (by decide +kernel : decode cX12_nextCorner 17 = .ok (.goto 53, 3)) (by decide)) ?_
  refine And.intro (k_iload_n (pc := 20) (by decide +kernel : decode cX12_nextCorner 20 = .ok (.iload_n 2, 1)) rfl) ?_
  refine And.intro (k_iconst (pc := 21) (by decide +kernel : decode cX12_nextCorner 21 = .ok (.iconst (-1), 1)) (by decide)) ?_
  refine And.intro (k_icmp_ne (pc := 22) (by decide +kernel : decode cX12_nextCorner 22 = .ok (.if_icmp .ne 7, 3)) (by decide)) ?_
  refine And.intro (k_iconst (pc := 25) (by decide +kernel : decode cX12_nextCorner 25 = .ok (.iconst (-1), 1)) (by decide)) ?_
  refine And.intro (k_goto (pc := 26) (by decide +kernel : decode cX12_nextCorner 26 = .ok (.goto 10, 3)) (by decide)) ?_
  refine And.intro (k_aload_n (pc := 29) (by decide +kernel : decode cX12_nextCorner 29 = .ok (.aload_n 0, 1)) rfl) ?_
  refine And.intro (k_iload_n (pc := 30) (by decide +kernel : decode cX12_nextCorner 30 = .ok (.iload_n 1, 1)) rfl) ?_
  refine And.intro (k_iload_n (pc := 31) (by decide +kernel : decode cX12_nextCorner 31 = .ok (.iload_n 2, 1)) rfl) ?_
  refine And.intro (k_iload_n (pc := 32) (by decide +kernel : decode cX12_nextCorner 32 = .ok (.iload_n 3, 1)) rfl) ?_
  refine And.intro (k_crV (n := 3) (pc := 33) hG (zRoom_self 1) (tag := 12) rfl ini_X12 im_X12_turn se_X12_turn mk_X12_312 dy_X12_turn (by decide +kernel : decode cX12_nextCorner 33 = .ok (.invokevirtual 312, 3))) ?_
  refine And.intro (k_istore (pc := 36) (by decide +kernel : decode cX12_nextCorner 36 = .ok (.istore 4, 2))) ?_
  refine And.intro (k_iload_n (pc := 38) (by decide +kernel : decode cX12_nextCorner 38 = .ok (.iload_n 2, 1)) rfl) ?_
  refine And.intro (k_iconst (pc := 39) (by decide +kernel : decode cX12_nextCorner 39 = .ok (.iconst (-1), 1)) (by decide)) ?_
  refine And.intro (k_icmp_eq (pc := 40) (by decide +kernel : decode cX12_nextCorner 40 = .ok (.if_icmp .eq 28, 3)) (by decide)) ?_
  refine And.intro (k_iload (pc := 43) (by decide +kernel : decode cX12_nextCorner 43 = .ok (.iload 4, 2))) ?_
  refine And.intro (k_if_lt (pc := 45) (by decide +kernel : decode cX12_nextCorner 45 = .ok (.ifCond .lt 23, 3)) (by decide)) ?_
  refine And.intro (k_iload (pc := 48) (by decide +kernel : decode cX12_nextCorner 48 = .ok (.iload 4, 2))) ?_
  refine And.intro (k_if_ne (pc := 50) (by decide +kernel : decode cX12_nextCorner 50 = .ok (.ifCond .ne 20, 3)) (by decide)) ?_
  refine And.intro (k_aload_n (pc := 53) (by decide +kernel : decode cX12_nextCorner 53 = .ok (.aload_n 0, 1)) rfl) ?_
  refine And.intro (k_iload_n (pc := 54) (by decide +kernel : decode cX12_nextCorner 54 = .ok (.iload_n 1, 1)) rfl) ?_
  refine And.intro (k_iload_n (pc := 55) (by decide +kernel : decode cX12_nextCorner 55 = .ok (.iload_n 3, 1)) rfl) ?_
  refine And.intro (k_crV (n := 2) (pc := 56) hG (zRoom_self 1) (tag := 12) rfl ini_X12 im_X12_far se_X12_far mk_X12_315 dy_X12_far (by decide +kernel : decode cX12_nextCorner 56 = .ok (.invokevirtual 315, 3))) ?_
  refine And.intro (k_aload_n (pc := 59) (by decide +kernel : decode cX12_nextCorner 59 = .ok (.aload_n 0, 1)) rfl) ?_
  refine And.intro (k_iload_n (pc := 60) (by decide +kernel : decode cX12_nextCorner 60 = .ok (.iload_n 1, 1)) rfl) ?_
  refine And.intro (k_iload_n (pc := 61) (by decide +kernel : decode cX12_nextCorner 61 = .ok (.iload_n 2, 1)) rfl) ?_
  refine And.intro (k_crV (n := 2) (pc := 62) hG (zRoom_self 1) (tag := 12) rfl ini_X12 im_X12_far se_X12_far mk_X12_315 dy_X12_far (by decide +kernel : decode cX12_nextCorner 62 = .ok (.invokevirtual 315, 3))) ?_
  refine And.intro (k_icmp_le (pc := 65) (by decide +kernel : decode cX12_nextCorner 65 = .ok (.if_icmp .le 5, 3)) (by decide)) ?_
  refine And.intro (k_iload_n (pc := 68) (by decide +kernel : decode cX12_nextCorner 68 = .ok (.iload_n 3, 1)) rfl) ?_
  refine And.intro (k_istore_n (pc := 69) (by decide +kernel : decode cX12_nextCorner 69 = .ok (.istore_n 2, 1)) rfl) ?_
  refine And.intro (k_iinc (pc := 70) (by decide +kernel : decode cX12_nextCorner 70 = .ok (.iinc 3 1, 3)) (by decide)) ?_
  refine And.intro (k_goto (pc := 73) (by decide +kernel : decode cX12_nextCorner 73 = .ok (.goto (-69), 3)) (by decide)) ?_
  refine And.intro (k_iload_n (pc := 76) (by decide +kernel : decode cX12_nextCorner 76 = .ok (.iload_n 2, 1)) rfl) ?_
  refine And.intro (k_ireturn (pc := 77) rfl (by decide +kernel : decode cX12_nextCorner 77 = .ok (.ireturn, 1))) ?_
  exact trivial
theorem cdX12_nextCorner : Cond.code yX12_nextCorner cX12_nextCorner 5 (some .int) ∈ zWs := zWs_in 1526 (by decide +kernel) rfl
noncomputable def pgX12_hull : zPg := [(0, o_al 0), (1, o_ic (0)), (2, o_pI 12 5), (5, o_al 0), (6, o_vv yX12_layWholes 12 1), (9, o_al 0), (10, o_ic (0)), (11, o_pI 12 4), (14, o_al 0), (15, o_gI 12 29), (18, o_if_ne 23), (21, o_ic (0)), (22, o_ir), (23, o_ic (0)), (24, o_is 1), (25, o_ic (0)), (26, o_is 2), (27, o_al 0), (28, o_al 0), (29, o_gR 12 28), (32, o_ic (2)), (33, o_il 1), (34, o_imul), (35, o_xI 14), (36, o_i2l), (37, o_vv yX12_tell 12 2), (40, o_al 0), (41, o_al 0), (42, o_gR 12 28), (45, o_ic (2)), (46, o_il 1), (47, o_imul), (48, o_ic (1)), (49, o_iadd), (50, o_xI 14), (51, o_i2l), (52, o_vv yX12_tell 12 2), (55, o_inc 2 (1)), (58, o_al 0), (59, o_gI 12 29), (62, o_ic (1)), (63, o_ic_ne 70), (66, o_ic (0)), (67, o_go 75), (70, o_al 0), (71, o_il 1), (72, o_vr2 yX12_nextCorner 12 2), (75, o_is 1), (76, o_il 1), (77, o_if_ne 27), (80, o_il 2), (81, o_ir)]
set_option maxRecDepth 20000 in
theorem pkX12_hull {G : zG} (hG : zGok G) (Q : zRt) : zPOK G (zRm 5) RX12 cX12_hull 3 (some .int) (zF G Q 0 0) 0 0 (zCalls G 5) Q pgX12_hull := by
  refine And.intro (k_aload_n (pc := 0) (by decide +kernel : decode cX12_hull 0 = .ok (.aload_n 0, 1)) rfl) ?_
  refine And.intro (k_iconst (pc := 1) (by decide +kernel : decode cX12_hull 1 = .ok (.iconst 0, 1)) (by decide)) ?_
  refine And.intro (k_pI (pc := 2) rfl (by decide) rfl zin12 lk_X12_55 tyX12_ok nmX12 rfl (by decide +kernel) (by decide +kernel : decode cX12_hull 2 = .ok (.putfield 55, 3))) ?_
  refine And.intro (k_aload_n (pc := 5) (by decide +kernel : decode cX12_hull 5 = .ok (.aload_n 0, 1)) rfl) ?_
  refine And.intro (k_cvV (n := 0) (pc := 6) hG (zRoom_self 5) (tag := 12) rfl ini_X12 im_X12_layWholes se_X12_layWholes mk_X12_309 dy_X12_layWholes (by decide +kernel : decode cX12_hull 6 = .ok (.invokevirtual 309, 3))) ?_
  refine And.intro (k_aload_n (pc := 9) (by decide +kernel : decode cX12_hull 9 = .ok (.aload_n 0, 1)) rfl) ?_
  refine And.intro (k_iconst (pc := 10) (by decide +kernel : decode cX12_hull 10 = .ok (.iconst 0, 1)) (by decide)) ?_
  refine And.intro (k_pI (pc := 11) rfl (by decide) rfl zin12 lk_X12_59 tyX12_ok nmX12 rfl (by decide +kernel) (by decide +kernel : decode cX12_hull 11 = .ok (.putfield 59, 3))) ?_
  refine And.intro (k_aload_n (pc := 14) (by decide +kernel : decode cX12_hull 14 = .ok (.aload_n 0, 1)) rfl) ?_
  refine And.intro (k_gI (pc := 15) rfl (by decide) rfl zin12 lk_X12_306 (by decide +kernel : decode cX12_hull 15 = .ok (.getfield 306, 3))) ?_
  refine And.intro (k_if_ne (pc := 18) (by decide +kernel : decode cX12_hull 18 = .ok (.ifCond .ne 5, 3)) (by decide)) ?_
  refine And.intro (k_iconst (pc := 21) (by decide +kernel : decode cX12_hull 21 = .ok (.iconst 0, 1)) (by decide)) ?_
  refine And.intro (k_ireturn (pc := 22) rfl (by decide +kernel : decode cX12_hull 22 = .ok (.ireturn, 1))) ?_
  refine And.intro (k_iconst (pc := 23) (by decide +kernel : decode cX12_hull 23 = .ok (.iconst 0, 1)) (by decide)) ?_
  refine And.intro (k_istore_n (pc := 24) (by decide +kernel : decode cX12_hull 24 = .ok (.istore_n 1, 1)) rfl) ?_
  refine And.intro (k_iconst (pc := 25) (by decide +kernel : decode cX12_hull 25 = .ok (.iconst 0, 1)) (by decide)) ?_
  refine And.intro (k_istore_n (pc := 26) (by decide +kernel : decode cX12_hull 26 = .ok (.istore_n 2, 1)) rfl) ?_
  refine And.intro (k_aload_n (pc := 27) (by decide +kernel : decode cX12_hull 27 = .ok (.aload_n 0, 1)) rfl) ?_
  refine And.intro (k_aload_n (pc := 28) (by decide +kernel : decode cX12_hull 28 = .ok (.aload_n 0, 1)) rfl) ?_
  refine And.intro (k_gR (pc := 29) rfl (by decide) rfl zin12 lk_X12_43 (by decide +kernel : decode cX12_hull 29 = .ok (.getfield 43, 3))) ?_
  refine And.intro (k_iconst (pc := 32) (by decide +kernel : decode cX12_hull 32 = .ok (.iconst 2, 1)) (by decide)) ?_
  refine And.intro (k_iload_n (pc := 33) (by decide +kernel : decode cX12_hull 33 = .ok (.iload_n 1, 1)) rfl) ?_
  refine And.intro (k_imul (pc := 34) (by decide +kernel : decode cX12_hull 34 = .ok (.imul, 1))) ?_
  refine And.intro (k_iald (pc := 35) (by decide +kernel : decode cX12_hull 35 = .ok (.iaload, 1))) ?_
  refine And.intro (k_i2l (pc := 36) (by decide +kernel : decode cX12_hull 36 = .ok (.i2l, 1))) ?_
  refine And.intro (k_cvV (n := 1) (pc := 37) hG (zRoom_self 5) (tag := 12) rfl ini_X12 im_X12_tell se_X12_tell mk_X12_80 dy_X12_tell (by decide +kernel : decode cX12_hull 37 = .ok (.invokevirtual 80, 3))) ?_
  refine And.intro (k_aload_n (pc := 40) (by decide +kernel : decode cX12_hull 40 = .ok (.aload_n 0, 1)) rfl) ?_
  refine And.intro (k_aload_n (pc := 41) (by decide +kernel : decode cX12_hull 41 = .ok (.aload_n 0, 1)) rfl) ?_
  refine And.intro (k_gR (pc := 42) rfl (by decide) rfl zin12 lk_X12_43 (by decide +kernel : decode cX12_hull 42 = .ok (.getfield 43, 3))) ?_
  refine And.intro (k_iconst (pc := 45) (by decide +kernel : decode cX12_hull 45 = .ok (.iconst 2, 1)) (by decide)) ?_
  refine And.intro (k_iload_n (pc := 46) (by decide +kernel : decode cX12_hull 46 = .ok (.iload_n 1, 1)) rfl) ?_
  refine And.intro (k_imul (pc := 47) (by decide +kernel : decode cX12_hull 47 = .ok (.imul, 1))) ?_
  refine And.intro (k_iconst (pc := 48) (by decide +kernel : decode cX12_hull 48 = .ok (.iconst 1, 1)) (by decide)) ?_
  refine And.intro (k_iadd (pc := 49) (by decide +kernel : decode cX12_hull 49 = .ok (.iadd, 1))) ?_
  refine And.intro (k_iald (pc := 50) (by decide +kernel : decode cX12_hull 50 = .ok (.iaload, 1))) ?_
  refine And.intro (k_i2l (pc := 51) (by decide +kernel : decode cX12_hull 51 = .ok (.i2l, 1))) ?_
  refine And.intro (k_cvV (n := 1) (pc := 52) hG (zRoom_self 5) (tag := 12) rfl ini_X12 im_X12_tell se_X12_tell mk_X12_80 dy_X12_tell (by decide +kernel : decode cX12_hull 52 = .ok (.invokevirtual 80, 3))) ?_
  refine And.intro (k_iinc (pc := 55) (by decide +kernel : decode cX12_hull 55 = .ok (.iinc 2 1, 3)) (by decide)) ?_
  refine And.intro (k_aload_n (pc := 58) (by decide +kernel : decode cX12_hull 58 = .ok (.aload_n 0, 1)) rfl) ?_
  refine And.intro (k_gI (pc := 59) rfl (by decide) rfl zin12 lk_X12_306 (by decide +kernel : decode cX12_hull 59 = .ok (.getfield 306, 3))) ?_
  refine And.intro (k_iconst (pc := 62) (by decide +kernel : decode cX12_hull 62 = .ok (.iconst 1, 1)) (by decide)) ?_
  refine And.intro (k_icmp_ne (pc := 63) (by decide +kernel : decode cX12_hull 63 = .ok (.if_icmp .ne 7, 3)) (by decide)) ?_
  refine And.intro (k_iconst (pc := 66) (by decide +kernel : decode cX12_hull 66 = .ok (.iconst 0, 1)) (by decide)) ?_
  refine And.intro (k_goto (pc := 67) (by decide +kernel : decode cX12_hull 67 = .ok (.goto 8, 3)) (by decide)) ?_
  refine And.intro (k_aload_n (pc := 70) (by decide +kernel : decode cX12_hull 70 = .ok (.aload_n 0, 1)) rfl) ?_
  refine And.intro (k_iload_n (pc := 71) (by decide +kernel : decode cX12_hull 71 = .ok (.iload_n 1, 1)) rfl) ?_
  refine And.intro (k_crV (n := 1) (pc := 72) hG (zRoom_self 5) (tag := 12) rfl ini_X12 im_X12_nextCorner se_X12_nextCorner mk_X12_318 dy_X12_nextCorner (by decide +kernel : decode cX12_hull 72 = .ok (.invokevirtual 318, 3))) ?_
  refine And.intro (k_istore_n (pc := 75) (by decide +kernel : decode cX12_hull 75 = .ok (.istore_n 1, 1)) rfl) ?_
  refine And.intro (k_iload_n (pc := 76) (by decide +kernel : decode cX12_hull 76 = .ok (.iload_n 1, 1)) rfl) ?_
  refine And.intro (k_if_ne (pc := 77) (by decide +kernel : decode cX12_hull 77 = .ok (.ifCond .ne (-50), 3)) (by decide)) ?_
  refine And.intro (k_iload_n (pc := 80) (by decide +kernel : decode cX12_hull 80 = .ok (.iload_n 2, 1)) rfl) ?_
  refine And.intro (k_ireturn (pc := 81) rfl (by decide +kernel : decode cX12_hull 81 = .ok (.ireturn, 1))) ?_
  exact trivial
theorem cdX12_hull : Cond.code yX12_hull cX12_hull 3 (some .int) ∈ zWs := zWs_in 1522 (by decide +kernel) rfl
noncomputable def pgX12_farFrom : zPg := [(0, o_al 0), (1, o_gR 12 28), (4, o_ic (2)), (5, o_il 1), (6, o_imul), (7, o_xI 14), (8, o_il 4), (10, o_imul), (11, o_il 2), (12, o_isub), (13, o_is 5), (15, o_al 0), (16, o_gR 12 28), (19, o_ic (2)), (20, o_il 1), (21, o_imul), (22, o_ic (1)), (23, o_iadd), (24, o_xI 14), (25, o_il 4), (27, o_imul), (28, o_il 3), (29, o_isub), (30, o_is 6), (32, o_il 5), (34, o_il 5), (36, o_imul), (37, o_il 6), (39, o_il 6), (41, o_imul), (42, o_iadd), (43, o_ir)]
set_option maxRecDepth 20000 in
theorem pkX12_farFrom {G : zG} (hG : zGok G) (Q : zRt) : zPOK G (zRm 0) RX12 cX12_farFrom 7 (some .int) (zF G Q 0 0) 0 0 (zCalls G 0) Q pgX12_farFrom := by
  refine And.intro (k_aload_n (pc := 0) (by decide +kernel : decode cX12_farFrom 0 = .ok (.aload_n 0, 1)) rfl) ?_
  refine And.intro (k_gR (pc := 1) rfl (by decide) rfl zin12 lk_X12_43 (by decide +kernel : decode cX12_farFrom 1 = .ok (.getfield 43, 3))) ?_
  refine And.intro (k_iconst (pc := 4) (by decide +kernel : decode cX12_farFrom 4 = .ok (.iconst 2, 1)) (by decide)) ?_
  refine And.intro (k_iload_n (pc := 5) (by decide +kernel : decode cX12_farFrom 5 = .ok (.iload_n 1, 1)) rfl) ?_
  refine And.intro (k_imul (pc := 6) (by decide +kernel : decode cX12_farFrom 6 = .ok (.imul, 1))) ?_
  refine And.intro (k_iald (pc := 7) (by decide +kernel : decode cX12_farFrom 7 = .ok (.iaload, 1))) ?_
  refine And.intro (k_iload (pc := 8) (by decide +kernel : decode cX12_farFrom 8 = .ok (.iload 4, 2))) ?_
  refine And.intro (k_imul (pc := 10) (by decide +kernel : decode cX12_farFrom 10 = .ok (.imul, 1))) ?_
  refine And.intro (k_iload_n (pc := 11) (by decide +kernel : decode cX12_farFrom 11 = .ok (.iload_n 2, 1)) rfl) ?_
  refine And.intro (k_isub (pc := 12) (by decide +kernel : decode cX12_farFrom 12 = .ok (.isub, 1))) ?_
  refine And.intro (k_istore (pc := 13) (by decide +kernel : decode cX12_farFrom 13 = .ok (.istore 5, 2))) ?_
  refine And.intro (k_aload_n (pc := 15) (by decide +kernel : decode cX12_farFrom 15 = .ok (.aload_n 0, 1)) rfl) ?_
  refine And.intro (k_gR (pc := 16) rfl (by decide) rfl zin12 lk_X12_43 (by decide +kernel : decode cX12_farFrom 16 = .ok (.getfield 43, 3))) ?_
  refine And.intro (k_iconst (pc := 19) (by decide +kernel : decode cX12_farFrom 19 = .ok (.iconst 2, 1)) (by decide)) ?_
  refine And.intro (k_iload_n (pc := 20) (by decide +kernel : decode cX12_farFrom 20 = .ok (.iload_n 1, 1)) rfl) ?_
  refine And.intro (k_imul (pc := 21) (by decide +kernel : decode cX12_farFrom 21 = .ok (.imul, 1))) ?_
  refine And.intro (k_iconst (pc := 22) (by decide +kernel : decode cX12_farFrom 22 = .ok (.iconst 1, 1)) (by decide)) ?_
  refine And.intro (k_iadd (pc := 23) (by decide +kernel : decode cX12_farFrom 23 = .ok (.iadd, 1))) ?_
  refine And.intro (k_iald (pc := 24) (by decide +kernel : decode cX12_farFrom 24 = .ok (.iaload, 1))) ?_
  refine And.intro (k_iload (pc := 25) (by decide +kernel : decode cX12_farFrom 25 = .ok (.iload 4, 2))) ?_
  refine And.intro (k_imul (pc := 27) (by decide +kernel : decode cX12_farFrom 27 = .ok (.imul, 1))) ?_
  refine And.intro (k_iload_n (pc := 28) (by decide +kernel : decode cX12_farFrom 28 = .ok (.iload_n 3, 1)) rfl) ?_
  refine And.intro (k_isub (pc := 29) (by decide +kernel : decode cX12_farFrom 29 = .ok (.isub, 1))) ?_
  refine And.intro (k_istore (pc := 30) (by decide +kernel : decode cX12_farFrom 30 = .ok (.istore 6, 2))) ?_
  refine And.intro (k_iload (pc := 32) (by decide +kernel : decode cX12_farFrom 32 = .ok (.iload 5, 2))) ?_
  refine And.intro (k_iload (pc := 34) (by decide +kernel : decode cX12_farFrom 34 = .ok (.iload 5, 2))) ?_
  refine And.intro (k_imul (pc := 36) (by decide +kernel : decode cX12_farFrom 36 = .ok (.imul, 1))) ?_
  refine And.intro (k_iload (pc := 37) (by decide +kernel : decode cX12_farFrom 37 = .ok (.iload 6, 2))) ?_
  refine And.intro (k_iload (pc := 39) (by decide +kernel : decode cX12_farFrom 39 = .ok (.iload 6, 2))) ?_
  refine And.intro (k_imul (pc := 41) (by decide +kernel : decode cX12_farFrom 41 = .ok (.imul, 1))) ?_
  refine And.intro (k_iadd (pc := 42) (by decide +kernel : decode cX12_farFrom 42 = .ok (.iadd, 1))) ?_
  refine And.intro (k_ireturn (pc := 43) rfl (by decide +kernel : decode cX12_farFrom 43 = .ok (.ireturn, 1))) ?_
  exact trivial
theorem cdX12_farFrom : Cond.code yX12_farFrom cX12_farFrom 7 (some .int) ∈ zWs := zWs_in 1542 (by decide +kernel) rfl
noncomputable def pgX12_nearest : zPg := [(0, o_al 0), (1, o_ic (0)), (2, o_pI 12 5), (5, o_il 1), (6, o_il 2), (7, o_il 3), (8, o_cr yX12_isPoint 3), (11, o_if_ne 16), (14, o_ic (-1)), (15, o_ir), (16, o_al 0), (17, o_vv yX12_layWholes 12 1), (20, o_al 0), (21, o_gI 12 29), (24, o_if_ne 30), (27, o_ic (-2)), (29, o_ir), (30, o_ic (0)), (31, o_is 4), (33, o_ic (0)), (34, o_is 5), (36, o_ic (0)), (37, o_is 6), (39, o_il 6), (41, o_al 0), (42, o_gI 12 29), (45, o_ic_ge 79), (48, o_al 0), (49, o_il 6), (51, o_il 1), (52, o_il 2), (53, o_il 3), (54, o_vr2 yX12_farFrom 12 5), (57, o_al 0), (58, o_il 4), (60, o_il 1), (61, o_il 2), (62, o_il 3), (63, o_vr2 yX12_farFrom 12 5), (66, o_ic_ge 73), (69, o_il 6), (71, o_is 4), (73, o_inc 6 (1)), (76, o_go 39), (79, o_ic (0)), (80, o_is 6), (82, o_il 6), (84, o_al 0), (85, o_gI 12 29), (88, o_ic_ge 128), (91, o_il 5), (93, o_al 0), (94, o_il 6), (96, o_il 1), (97, o_il 2), (98, o_il 3), (99, o_vr2 yX12_farFrom 12 5), (102, o_al 0), (103, o_il 4), (105, o_il 1), (106, o_il 2), (107, o_il 3), (108, o_vr2 yX12_farFrom 12 5), (111, o_ic_ne 118), (114, o_ic (1)), (115, o_go 119), (118, o_ic (0)), (119, o_iadd), (120, o_is 5), (122, o_inc 6 (1)), (125, o_go 82), (128, o_al 0), (129, o_ic (0)), (130, o_pI 12 4), (133, o_al 0), (134, o_al 0), (135, o_gR 12 28), (138, o_ic (2)), (139, o_il 4), (141, o_imul), (142, o_xI 14), (143, o_i2l), (144, o_vv yX12_tell 12 2), (147, o_al 0), (148, o_al 0), (149, o_gR 12 28), (152, o_ic (2)), (153, o_il 4), (155, o_imul), (156, o_ic (1)), (157, o_iadd), (158, o_xI 14), (159, o_i2l), (160, o_vv yX12_tell 12 2), (163, o_al 0), (164, o_al 0), (165, o_il 4), (167, o_il 1), (168, o_il 2), (169, o_il 3), (170, o_vr2 yX12_farFrom 12 5), (173, o_i2l), (174, o_il 3), (175, o_i2l), (176, o_il 3), (177, o_i2l), (178, o_lmul), (179, o_vv yX12_tellFraction 12 3), (182, o_il 5), (184, o_ir)]
set_option maxRecDepth 20000 in
theorem pkX12_nearest {G : zG} (hG : zGok G) (Q : zRt) : zPOK G (zRm 5) RX12 cX12_nearest 7 (some .int) (zF G Q 0 0) 0 0 (zCalls G 5) Q pgX12_nearest := by
  refine And.intro (k_aload_n (pc := 0) (by decide +kernel : decode cX12_nearest 0 = .ok (.aload_n 0, 1)) rfl) ?_
  refine And.intro (k_iconst (pc := 1) (by decide +kernel : decode cX12_nearest 1 = .ok (.iconst 0, 1)) (by decide)) ?_
  refine And.intro (k_pI (pc := 2) rfl (by decide) rfl zin12 lk_X12_55 tyX12_ok nmX12 rfl (by decide +kernel) (by decide +kernel : decode cX12_nearest 2 = .ok (.putfield 55, 3))) ?_
  refine And.intro (k_iload_n (pc := 5) (by decide +kernel : decode cX12_nearest 5 = .ok (.iload_n 1, 1)) rfl) ?_
  refine And.intro (k_iload_n (pc := 6) (by decide +kernel : decode cX12_nearest 6 = .ok (.iload_n 2, 1)) rfl) ?_
  refine And.intro (k_iload_n (pc := 7) (by decide +kernel : decode cX12_nearest 7 = .ok (.iload_n 3, 1)) rfl) ?_
  refine And.intro (k_crS (n := 3) (pc := 8) hG (zRoom_self 5) ini_X12 sta_X12_isPoint mk_X12_261 dy_X12_isPoint (by decide +kernel : decode cX12_nearest 8 = .ok (.invokestatic 261, 3))) ?_
  refine And.intro (k_if_ne (pc := 11) (by decide +kernel : decode cX12_nearest 11 = .ok (.ifCond .ne 5, 3)) (by decide)) ?_
  refine And.intro (k_iconst (pc := 14) (by decide +kernel : decode cX12_nearest 14 = .ok (.iconst (-1), 1)) (by decide)) ?_
  refine And.intro (k_ireturn (pc := 15) rfl (by decide +kernel : decode cX12_nearest 15 = .ok (.ireturn, 1))) ?_
  refine And.intro (k_aload_n (pc := 16) (by decide +kernel : decode cX12_nearest 16 = .ok (.aload_n 0, 1)) rfl) ?_
  refine And.intro (k_cvV (n := 0) (pc := 17) hG (zRoom_self 5) (tag := 12) rfl ini_X12 im_X12_layWholes se_X12_layWholes mk_X12_309 dy_X12_layWholes (by decide +kernel : decode cX12_nearest 17 = .ok (.invokevirtual 309, 3))) ?_
  refine And.intro (k_aload_n (pc := 20) (by decide +kernel : decode cX12_nearest 20 = .ok (.aload_n 0, 1)) rfl) ?_
  refine And.intro (k_gI (pc := 21) rfl (by decide) rfl zin12 lk_X12_306 (by decide +kernel : decode cX12_nearest 21 = .ok (.getfield 306, 3))) ?_
  refine And.intro (k_if_ne (pc := 24) (by decide +kernel : decode cX12_nearest 24 = .ok (.ifCond .ne 6, 3)) (by decide)) ?_
  refine And.intro (k_bipush (pc := 27) (by decide +kernel : decode cX12_nearest 27 = .ok (.bipush (-2), 2)) (by decide)) ?_
  refine And.intro (k_ireturn (pc := 29) rfl (by decide +kernel : decode cX12_nearest 29 = .ok (.ireturn, 1))) ?_
  refine And.intro (k_iconst (pc := 30) (by decide +kernel : decode cX12_nearest 30 = .ok (.iconst 0, 1)) (by decide)) ?_
  refine And.intro (k_istore (pc := 31) (by decide +kernel : decode cX12_nearest 31 = .ok (.istore 4, 2))) ?_
  refine And.intro (k_iconst (pc := 33) (by decide +kernel : decode cX12_nearest 33 = .ok (.iconst 0, 1)) (by decide)) ?_
  refine And.intro (k_istore (pc := 34) (by decide +kernel : decode cX12_nearest 34 = .ok (.istore 5, 2))) ?_
  refine And.intro (k_iconst (pc := 36) (by decide +kernel : decode cX12_nearest 36 = .ok (.iconst 0, 1)) (by decide)) ?_
  refine And.intro (k_istore (pc := 37) (by decide +kernel : decode cX12_nearest 37 = .ok (.istore 6, 2))) ?_
  refine And.intro (k_iload (pc := 39) (by decide +kernel : decode cX12_nearest 39 = .ok (.iload 6, 2))) ?_
  refine And.intro (k_aload_n (pc := 41) (by decide +kernel : decode cX12_nearest 41 = .ok (.aload_n 0, 1)) rfl) ?_
  refine And.intro (k_gI (pc := 42) rfl (by decide) rfl zin12 lk_X12_306 (by decide +kernel : decode cX12_nearest 42 = .ok (.getfield 306, 3))) ?_
  refine And.intro (k_icmp_ge (pc := 45) (by decide +kernel : decode cX12_nearest 45 = .ok (.if_icmp .ge 34, 3)) (by decide)) ?_
  refine And.intro (k_aload_n (pc := 48) (by decide +kernel : decode cX12_nearest 48 = .ok (.aload_n 0, 1)) rfl) ?_
  refine And.intro (k_iload (pc := 49) (by decide +kernel : decode cX12_nearest 49 = .ok (.iload 6, 2))) ?_
  refine And.intro (k_iload_n (pc := 51) (by decide +kernel : decode cX12_nearest 51 = .ok (.iload_n 1, 1)) rfl) ?_
  refine And.intro (k_iload_n (pc := 52) (by decide +kernel : decode cX12_nearest 52 = .ok (.iload_n 2, 1)) rfl) ?_
  refine And.intro (k_iload_n (pc := 53) (by decide +kernel : decode cX12_nearest 53 = .ok (.iload_n 3, 1)) rfl) ?_
  refine And.intro (k_crV (n := 4) (pc := 54) hG (zRoom_self 5) (tag := 12) rfl ini_X12 im_X12_farFrom se_X12_farFrom mk_X12_321 dy_X12_farFrom (by decide +kernel : decode cX12_nearest 54 = .ok (.invokevirtual 321, 3))) ?_
  refine And.intro (k_aload_n (pc := 57) (by decide +kernel : decode cX12_nearest 57 = .ok (.aload_n 0, 1)) rfl) ?_
  refine And.intro (k_iload (pc := 58) (by decide +kernel : decode cX12_nearest 58 = .ok (.iload 4, 2))) ?_
  refine And.intro (k_iload_n (pc := 60) (by decide +kernel : decode cX12_nearest 60 = .ok (.iload_n 1, 1)) rfl) ?_
  refine And.intro (k_iload_n (pc := 61) (by decide +kernel : decode cX12_nearest 61 = .ok (.iload_n 2, 1)) rfl) ?_
  refine And.intro (k_iload_n (pc := 62) (by decide +kernel : decode cX12_nearest 62 = .ok (.iload_n 3, 1)) rfl) ?_
  refine And.intro (k_crV (n := 4) (pc := 63) hG (zRoom_self 5) (tag := 12) rfl ini_X12 im_X12_farFrom se_X12_farFrom mk_X12_321 dy_X12_farFrom (by decide +kernel : decode cX12_nearest 63 = .ok (.invokevirtual 321, 3))) ?_
  refine And.intro (k_icmp_ge (pc := 66) (by decide +kernel : decode cX12_nearest 66 = .ok (.if_icmp .ge 7, 3)) (by decide)) ?_
  refine And.intro (k_iload (pc := 69) (by decide +kernel : decode cX12_nearest 69 = .ok (.iload 6, 2))) ?_
  refine And.intro (k_istore (pc := 71) (by decide +kernel : decode cX12_nearest 71 = .ok (.istore 4, 2))) ?_
  refine And.intro (k_iinc (pc := 73) (by decide +kernel : decode cX12_nearest 73 = .ok (.iinc 6 1, 3)) (by decide)) ?_
  refine And.intro (k_goto (pc := 76) (by decide +kernel : decode cX12_nearest 76 = .ok (.goto (-37), 3)) (by decide)) ?_
  refine And.intro (k_iconst (pc := 79) (by decide +kernel : decode cX12_nearest 79 = .ok (.iconst 0, 1)) (by decide)) ?_
  refine And.intro (k_istore (pc := 80) (by decide +kernel : decode cX12_nearest 80 = .ok (.istore 6, 2))) ?_
  refine And.intro (k_iload (pc := 82) (by decide +kernel : decode cX12_nearest 82 = .ok (.iload 6, 2))) ?_
  refine And.intro (k_aload_n (pc := 84) (by decide +kernel : decode cX12_nearest 84 = .ok (.aload_n 0, 1)) rfl) ?_
  refine And.intro (k_gI (pc := 85) rfl (by decide) rfl zin12 lk_X12_306 (by decide +kernel : decode cX12_nearest 85 = .ok (.getfield 306, 3))) ?_
  refine And.intro (k_icmp_ge (pc := 88) (by decide +kernel : decode cX12_nearest 88 = .ok (.if_icmp .ge 40, 3)) (by decide)) ?_
  refine And.intro (k_iload (pc := 91) (by decide +kernel : decode cX12_nearest 91 = .ok (.iload 5, 2))) ?_
  refine And.intro (k_aload_n (pc := 93) (by decide +kernel : decode cX12_nearest 93 = .ok (.aload_n 0, 1)) rfl) ?_
  refine And.intro (k_iload (pc := 94) (by decide +kernel : decode cX12_nearest 94 = .ok (.iload 6, 2))) ?_
  refine And.intro (k_iload_n (pc := 96) (by decide +kernel : decode cX12_nearest 96 = .ok (.iload_n 1, 1)) rfl) ?_
  refine And.intro (k_iload_n (pc := 97) (by decide +kernel : decode cX12_nearest 97 = .ok (.iload_n 2, 1)) rfl) ?_
  refine And.intro (k_iload_n (pc := 98) (by decide +kernel : decode cX12_nearest 98 = .ok (.iload_n 3, 1)) rfl) ?_
  refine And.intro (k_crV (n := 4) (pc := 99) hG (zRoom_self 5) (tag := 12) rfl ini_X12 im_X12_farFrom se_X12_farFrom mk_X12_321 dy_X12_farFrom (by decide +kernel : decode cX12_nearest 99 = .ok (.invokevirtual 321, 3))) ?_
  refine And.intro (k_aload_n (pc := 102) (by decide +kernel : decode cX12_nearest 102 = .ok (.aload_n 0, 1)) rfl) ?_
  refine And.intro (k_iload (pc := 103) (by decide +kernel : decode cX12_nearest 103 = .ok (.iload 4, 2))) ?_
  refine And.intro (k_iload_n (pc := 105) (by decide +kernel : decode cX12_nearest 105 = .ok (.iload_n 1, 1)) rfl) ?_
  refine And.intro (k_iload_n (pc := 106) (by decide +kernel : decode cX12_nearest 106 = .ok (.iload_n 2, 1)) rfl) ?_
  refine And.intro (k_iload_n (pc := 107) (by decide +kernel : decode cX12_nearest 107 = .ok (.iload_n 3, 1)) rfl) ?_
  refine And.intro (k_crV (n := 4) (pc := 108) hG (zRoom_self 5) (tag := 12) rfl ini_X12 im_X12_farFrom se_X12_farFrom mk_X12_321 dy_X12_farFrom (by decide +kernel : decode cX12_nearest 108 = .ok (.invokevirtual 321, 3))) ?_
  refine And.intro (k_icmp_ne (pc := 111) (by decide +kernel : decode cX12_nearest 111 = .ok (.if_icmp .ne 7, 3)) (by decide)) ?_
  refine And.intro (k_iconst (pc := 114) (by decide +kernel : decode cX12_nearest 114 = .ok (.iconst 1, 1)) (by decide)) ?_
  refine And.intro (k_goto (pc := 115) (by decide +kernel : decode cX12_nearest 115 = .ok (.goto 4, 3)) (by decide)) ?_
  refine And.intro (k_iconst (pc := 118) (by decide +kernel : decode cX12_nearest 118 = .ok (.iconst 0, 1)) (by decide)) ?_
  refine And.intro (k_iadd (pc := 119) (by decide +kernel : decode cX12_nearest 119 = .ok (.iadd, 1))) ?_
  refine And.intro (k_istore (pc := 120) (by decide +kernel : decode cX12_nearest 120 = .ok (.istore 5, 2))) ?_
  refine And.intro (k_iinc (pc := 122) (by decide +kernel : decode cX12_nearest 122 = .ok (.iinc 6 1, 3)) (by decide)) ?_
  refine And.intro (k_goto (pc := 125) (by decide +kernel : decode cX12_nearest 125 = .ok (.goto (-43), 3)) (by decide)) ?_
  refine And.intro (k_aload_n (pc := 128) (by decide +kernel : decode cX12_nearest 128 = .ok (.aload_n 0, 1)) rfl) ?_
  refine And.intro (k_iconst (pc := 129) (by decide +kernel : decode cX12_nearest 129 = .ok (.iconst 0, 1)) (by decide)) ?_
  refine And.intro (k_pI (pc := 130) rfl (by decide) rfl zin12 lk_X12_59 tyX12_ok nmX12 rfl (by decide +kernel) (by decide +kernel : decode cX12_nearest 130 = .ok (.putfield 59, 3))) ?_
  refine And.intro (k_aload_n (pc := 133) (by decide +kernel : decode cX12_nearest 133 = .ok (.aload_n 0, 1)) rfl) ?_
  refine And.intro (k_aload_n (pc := 134) (by decide +kernel : decode cX12_nearest 134 = .ok (.aload_n 0, 1)) rfl) ?_
  refine And.intro (k_gR (pc := 135) rfl (by decide) rfl zin12 lk_X12_43 (by decide +kernel : decode cX12_nearest 135 = .ok (.getfield 43, 3))) ?_
  refine And.intro (k_iconst (pc := 138) (by decide +kernel : decode cX12_nearest 138 = .ok (.iconst 2, 1)) (by decide)) ?_
  refine And.intro (k_iload (pc := 139) (by decide +kernel : decode cX12_nearest 139 = .ok (.iload 4, 2))) ?_
  refine And.intro (k_imul (pc := 141) (by decide +kernel : decode cX12_nearest 141 = .ok (.imul, 1))) ?_
  refine And.intro (k_iald (pc := 142) (by decide +kernel : decode cX12_nearest 142 = .ok (.iaload, 1))) ?_
  refine And.intro (k_i2l (pc := 143) (by decide +kernel : decode cX12_nearest 143 = .ok (.i2l, 1))) ?_
  refine And.intro (k_cvV (n := 1) (pc := 144) hG (zRoom_self 5) (tag := 12) rfl ini_X12 im_X12_tell se_X12_tell mk_X12_80 dy_X12_tell (by decide +kernel : decode cX12_nearest 144 = .ok (.invokevirtual 80, 3))) ?_
  refine And.intro (k_aload_n (pc := 147) (by decide +kernel : decode cX12_nearest 147 = .ok (.aload_n 0, 1)) rfl) ?_
  refine And.intro (k_aload_n (pc := 148) (by decide +kernel : decode cX12_nearest 148 = .ok (.aload_n 0, 1)) rfl) ?_
  refine And.intro (k_gR (pc := 149) rfl (by decide) rfl zin12 lk_X12_43 (by decide +kernel : decode cX12_nearest 149 = .ok (.getfield 43, 3))) ?_
  refine And.intro (k_iconst (pc := 152) (by decide +kernel : decode cX12_nearest 152 = .ok (.iconst 2, 1)) (by decide)) ?_
  refine And.intro (k_iload (pc := 153) (by decide +kernel : decode cX12_nearest 153 = .ok (.iload 4, 2))) ?_
  refine And.intro (k_imul (pc := 155) (by decide +kernel : decode cX12_nearest 155 = .ok (.imul, 1))) ?_
  refine And.intro (k_iconst (pc := 156) (by decide +kernel : decode cX12_nearest 156 = .ok (.iconst 1, 1)) (by decide)) ?_
  refine And.intro (k_iadd (pc := 157) (by decide +kernel : decode cX12_nearest 157 = .ok (.iadd, 1))) ?_
  refine And.intro (k_iald (pc := 158) (by decide +kernel : decode cX12_nearest 158 = .ok (.iaload, 1))) ?_
  refine And.intro (k_i2l (pc := 159) (by decide +kernel : decode cX12_nearest 159 = .ok (.i2l, 1))) ?_
  refine And.intro (k_cvV (n := 1) (pc := 160) hG (zRoom_self 5) (tag := 12) rfl ini_X12 im_X12_tell se_X12_tell mk_X12_80 dy_X12_tell (by decide +kernel : decode cX12_nearest 160 = .ok (.invokevirtual 80, 3))) ?_
  refine And.intro (k_aload_n (pc := 163) (by decide +kernel : decode cX12_nearest 163 = .ok (.aload_n 0, 1)) rfl) ?_
  refine And.intro (k_aload_n (pc := 164) (by decide +kernel : decode cX12_nearest 164 = .ok (.aload_n 0, 1)) rfl) ?_
  refine And.intro (k_iload (pc := 165) (by decide +kernel : decode cX12_nearest 165 = .ok (.iload 4, 2))) ?_
  refine And.intro (k_iload_n (pc := 167) (by decide +kernel : decode cX12_nearest 167 = .ok (.iload_n 1, 1)) rfl) ?_
  refine And.intro (k_iload_n (pc := 168) (by decide +kernel : decode cX12_nearest 168 = .ok (.iload_n 2, 1)) rfl) ?_
  refine And.intro (k_iload_n (pc := 169) (by decide +kernel : decode cX12_nearest 169 = .ok (.iload_n 3, 1)) rfl) ?_
  refine And.intro (k_crV (n := 4) (pc := 170) hG (zRoom_self 5) (tag := 12) rfl ini_X12 im_X12_farFrom se_X12_farFrom mk_X12_321 dy_X12_farFrom (by decide +kernel : decode cX12_nearest 170 = .ok (.invokevirtual 321, 3))) ?_
  refine And.intro (k_i2l (pc := 173) (by decide +kernel : decode cX12_nearest 173 = .ok (.i2l, 1))) ?_
  refine And.intro (k_iload_n (pc := 174) (by decide +kernel : decode cX12_nearest 174 = .ok (.iload_n 3, 1)) rfl) ?_
  refine And.intro (k_i2l (pc := 175) (by decide +kernel : decode cX12_nearest 175 = .ok (.i2l, 1))) ?_
  refine And.intro (k_iload_n (pc := 176) (by decide +kernel : decode cX12_nearest 176 = .ok (.iload_n 3, 1)) rfl) ?_
  refine And.intro (k_i2l (pc := 177) (by decide +kernel : decode cX12_nearest 177 = .ok (.i2l, 1))) ?_
  refine And.intro (k_lmul (pc := 178) (by decide +kernel : decode cX12_nearest 178 = .ok (.lmul, 1))) ?_
  refine And.intro (k_cvV (n := 2) (pc := 179) hG (zRoom_self 5) (tag := 12) rfl ini_X12 im_X12_tellFraction se_X12_tellFraction mk_X12_250 dy_X12_tellFraction (by decide +kernel : decode cX12_nearest 179 = .ok (.invokevirtual 250, 3))) ?_
  refine And.intro (k_iload (pc := 182) (by decide +kernel : decode cX12_nearest 182 = .ok (.iload 5, 2))) ?_
  refine And.intro (k_ireturn (pc := 184) rfl (by decide +kernel : decode cX12_nearest 184 = .ok (.ireturn, 1))) ?_
  exact trivial
theorem cdX12_nearest : Cond.code yX12_nearest cX12_nearest 7 (some .int) ∈ zWs := zWs_in 1538 (by decide +kernel) rfl
noncomputable def pgX12_offer : zPg := [(0, o_al 0), (1, o_gI 12 30), (4, o_if_eq 24), (7, o_al 0), (8, o_gJ 12 31), (11, o_al 0), (12, o_gJ 12 32), (15, o_ll 1), (16, o_ll 3), (17, o_cr yX12_isLess 4), (20, o_if_ne 24), (23, o_vr), (24, o_al 0), (25, o_ic (1)), (26, o_pZ 12 30), (29, o_al 0), (30, o_ll 1), (31, o_ll 3), (32, o_vv yX12_set 12 3), (35, o_al 0), (36, o_al 0), (37, o_gJ 12 6), (40, o_pJ 12 31), (43, o_al 0), (44, o_al 0), (45, o_gJ 12 7), (48, o_pJ 12 32), (51, o_vr)]
set_option maxRecDepth 20000 in
theorem pkX12_offer {G : zG} (hG : zGok G) (Q : zRt) : zPOK G (zRm 2) RX12 cX12_offer 5 none (zF G Q 0 0) 0 0 (zCalls G 2) Q pgX12_offer := by
  refine And.intro (k_aload_n (pc := 0) (by decide +kernel : decode cX12_offer 0 = .ok (.aload_n 0, 1)) rfl) ?_
  refine And.intro (k_gZ (pc := 1) rfl (by decide) rfl zin12 lk_X12_325 (by decide +kernel : decode cX12_offer 1 = .ok (.getfield 325, 3))) ?_
  refine And.intro (k_if_eq (pc := 4) (by decide +kernel : decode cX12_offer 4 = .ok (.ifCond .eq 20, 3)) (by decide)) ?_
  refine And.intro (k_aload_n (pc := 7) (by decide +kernel : decode cX12_offer 7 = .ok (.aload_n 0, 1)) rfl) ?_
  refine And.intro (k_gJ (pc := 8) rfl (by decide) rfl zin12 lk_X12_328 (by decide +kernel : decode cX12_offer 8 = .ok (.getfield 328, 3))) ?_
  refine And.intro (k_aload_n (pc := 11) (by decide +kernel : decode cX12_offer 11 = .ok (.aload_n 0, 1)) rfl) ?_
  refine And.intro (k_gJ (pc := 12) rfl (by decide) rfl zin12 lk_X12_331 (by decide +kernel : decode cX12_offer 12 = .ok (.getfield 331, 3))) ?_
  refine And.intro (k_lload_n (pc := 15) (by decide +kernel : decode cX12_offer 15 = .ok (.lload_n 1, 1)) rfl) ?_
  refine And.intro (k_lload_n (pc := 16) (by decide +kernel : decode cX12_offer 16 = .ok (.lload_n 3, 1)) rfl) ?_
  refine And.intro (k_crS (n := 4) (pc := 17) hG (zRoom_self 2) ini_X12 sta_X12_isLess mk_X12_188 dy_X12_isLess (by decide +kernel : decode cX12_offer 17 = .ok (.invokestatic 188, 3))) ?_
  refine And.intro (k_if_ne (pc := 20) (by decide +kernel : decode cX12_offer 20 = .ok (.ifCond .ne 4, 3)) (by decide)) ?_
  refine And.intro (k_return (pc := 23) rfl (by decide +kernel : decode cX12_offer 23 = .ok (.return_, 1))) ?_
  refine And.intro (k_aload_n (pc := 24) (by decide +kernel : decode cX12_offer 24 = .ok (.aload_n 0, 1)) rfl) ?_
  refine And.intro (k_iconst (pc := 25) (by decide +kernel : decode cX12_offer 25 = .ok (.iconst 1, 1)) (by decide)) ?_
  refine And.intro (k_pZ (pc := 26) rfl (by decide) rfl zin12 lk_X12_325 tyX12_ok nmX12 rfl (by decide +kernel) (by decide +kernel : decode cX12_offer 26 = .ok (.putfield 325, 3))) ?_
  refine And.intro (k_aload_n (pc := 29) (by decide +kernel : decode cX12_offer 29 = .ok (.aload_n 0, 1)) rfl) ?_
  refine And.intro (k_lload_n (pc := 30) (by decide +kernel : decode cX12_offer 30 = .ok (.lload_n 1, 1)) rfl) ?_
  refine And.intro (k_lload_n (pc := 31) (by decide +kernel : decode cX12_offer 31 = .ok (.lload_n 3, 1)) rfl) ?_
  refine And.intro (k_cvV (n := 2) (pc := 32) hG (zRoom_self 2) (tag := 12) rfl ini_X12 im_X12_set se_X12_set mk_X12_76 dy_X12_set (by decide +kernel : decode cX12_offer 32 = .ok (.invokevirtual 76, 3))) ?_
  refine And.intro (k_aload_n (pc := 35) (by decide +kernel : decode cX12_offer 35 = .ok (.aload_n 0, 1)) rfl) ?_
  refine And.intro (k_aload_n (pc := 36) (by decide +kernel : decode cX12_offer 36 = .ok (.aload_n 0, 1)) rfl) ?_
  refine And.intro (k_gJ (pc := 37) rfl (by decide) rfl zin12 lk_X12_69 (by decide +kernel : decode cX12_offer 37 = .ok (.getfield 69, 3))) ?_
  refine And.intro (k_pJ (pc := 40) rfl (by decide) rfl zin12 lk_X12_328 tyX12_ok nmX12 rfl (by decide +kernel) (by decide +kernel : decode cX12_offer 40 = .ok (.putfield 328, 3))) ?_
  refine And.intro (k_aload_n (pc := 43) (by decide +kernel : decode cX12_offer 43 = .ok (.aload_n 0, 1)) rfl) ?_
  refine And.intro (k_aload_n (pc := 44) (by decide +kernel : decode cX12_offer 44 = .ok (.aload_n 0, 1)) rfl) ?_
  refine And.intro (k_gJ (pc := 45) rfl (by decide) rfl zin12 lk_X12_73 (by decide +kernel : decode cX12_offer 45 = .ok (.getfield 73, 3))) ?_
  refine And.intro (k_pJ (pc := 48) rfl (by decide) rfl zin12 lk_X12_331 tyX12_ok nmX12 rfl (by decide +kernel) (by decide +kernel : decode cX12_offer 48 = .ok (.putfield 331, 3))) ?_
  refine And.intro (k_return (pc := 51) rfl (by decide +kernel : decode cX12_offer 51 = .ok (.return_, 1))) ?_
  exact trivial
theorem cdX12_offer : Cond.code yX12_offer cX12_offer 5 none ∈ zWs := zWs_in 1561 (by decide +kernel) rfl
noncomputable def pgX12_offerCorner : zPg := [(0, o_al 0), (1, o_il 1), (2, o_ic (0)), (3, o_vr2 yX12_of 12 3), (6, o_i2l), (7, o_al 0), (8, o_il 2), (9, o_ic (1)), (10, o_vr2 yX12_of 12 3), (13, o_i2l), (14, o_lmul), (15, o_al 0), (16, o_il 1), (17, o_ic (1)), (18, o_vr2 yX12_of 12 3), (21, o_i2l), (22, o_al 0), (23, o_il 2), (24, o_ic (0)), (25, o_vr2 yX12_of 12 3), (28, o_i2l), (29, o_lmul), (30, o_lsub), (31, o_ls 5), (33, o_ll 5), (35, o_lc 0), (36, o_lc_ne 41), (40, o_vr), (41, o_al 0), (42, o_il 1), (43, o_ic (2)), (44, o_vr2 yX12_of 12 3), (47, o_i2l), (48, o_al 0), (49, o_il 2), (50, o_ic (1)), (51, o_vr2 yX12_of 12 3), (54, o_i2l), (55, o_lmul), (56, o_al 0), (57, o_il 1), (58, o_ic (1)), (59, o_vr2 yX12_of 12 3), (62, o_i2l), (63, o_al 0), (64, o_il 2), (65, o_ic (2)), (66, o_vr2 yX12_of 12 3), (69, o_i2l), (70, o_lmul), (71, o_lsub), (72, o_ls 7), (74, o_al 0), (75, o_il 1), (76, o_ic (0)), (77, o_vr2 yX12_of 12 3), (80, o_i2l), (81, o_al 0), (82, o_il 2), (83, o_ic (2)), (84, o_vr2 yX12_of 12 3), (87, o_i2l), (88, o_lmul), (89, o_al 0), (90, o_il 1), (91, o_ic (2)), (92, o_vr2 yX12_of 12 3), (95, o_i2l), (96, o_al 0), (97, o_il 2), (98, o_ic (0)), (99, o_vr2 yX12_of 12 3), (102, o_i2l), (103, o_lmul), (104, o_lsub), (105, o_ls 9), (107, o_ll 5), (109, o_lc 0), (110, o_lc_ge 120), (114, o_lc (-1)), (117, o_go 121), (120, o_lc 1), (121, o_ls 11), (123, o_ic (0)), (124, o_is 13), (126, o_il 13), (128, o_al 0), (129, o_vr2 yX12_lines 12 1), (132, o_ic_ge 186), (135, o_al 0), (136, o_il 13), (138, o_ic (0)), (139, o_vr2 yX12_of 12 3), (142, o_i2l), (143, o_ll 7), (145, o_lmul), (146, o_al 0), (147, o_il 13), (149, o_ic (1)), (150, o_vr2 yX12_of 12 3), (153, o_i2l), (154, o_ll 9), (156, o_lmul), (157, o_ladd), (158, o_ll 11), (160, o_lmul), (161, o_al 0), (162, o_il 13), (164, o_ic (2)), (165, o_vr2 yX12_of 12 3), (168, o_i2l), (169, o_ll 5), (171, o_lmul), (172, o_ll 11), (174, o_lmul), (175, o_lc_le 180), (179, o_vr), (180, o_inc 13 (1)), (183, o_go 126), (186, o_al 0), (187, o_il 3), (188, o_i2l), (189, o_ll 7), (191, o_lmul), (192, o_il 4), (194, o_i2l), (195, o_ll 9), (197, o_lmul), (198, o_ladd), (199, o_ll 5), (201, o_vv yX12_set 12 3), (204, o_al 0), (205, o_al 0), (206, o_gJ 12 6), (209, o_al 0), (210, o_gJ 12 7), (213, o_vv yX12_offer 12 3), (216, o_vr)]
set_option maxRecDepth 20000 in
theorem pkX12_offerCorner {G : zG} (hG : zGok G) (Q : zRt) : zPOK G (zRm 3) RX12 cX12_offerCorner 14 none (zF G Q 0 0) 0 0 (zCalls G 3) Q pgX12_offerCorner := by
  refine And.intro (k_aload_n (pc := 0) (by decide +kernel : decode cX12_offerCorner 0 = .ok (.aload_n 0, 1)) rfl) ?_
  refine And.intro (k_iload_n (pc := 1) (by decide +kernel : decode cX12_offerCorner 1 = .ok (.iload_n 1, 1)) rfl) ?_
  refine And.intro (k_iconst (pc := 2) (by decide +kernel : decode cX12_offerCorner 2 = .ok (.iconst 0, 1)) (by decide)) ?_
  refine And.intro (k_crV (n := 2) (pc := 3) hG (zRoom_self 3) (tag := 12) rfl ini_X12 im_X12_of se_X12_of mk_X12_145 dy_X12_of (by decide +kernel : decode cX12_offerCorner 3 = .ok (.invokevirtual 145, 3))) ?_
  refine And.intro (k_i2l (pc := 6) (by decide +kernel : decode cX12_offerCorner 6 = .ok (.i2l, 1))) ?_
  refine And.intro (k_aload_n (pc := 7) (by decide +kernel : decode cX12_offerCorner 7 = .ok (.aload_n 0, 1)) rfl) ?_
  refine And.intro (k_iload_n (pc := 8) (by decide +kernel : decode cX12_offerCorner 8 = .ok (.iload_n 2, 1)) rfl) ?_
  refine And.intro (k_iconst (pc := 9) (by decide +kernel : decode cX12_offerCorner 9 = .ok (.iconst 1, 1)) (by decide)) ?_
  refine And.intro (k_crV (n := 2) (pc := 10) hG (zRoom_self 3) (tag := 12) rfl ini_X12 im_X12_of se_X12_of mk_X12_145 dy_X12_of (by decide +kernel : decode cX12_offerCorner 10 = .ok (.invokevirtual 145, 3))) ?_
  refine And.intro (k_i2l (pc := 13) (by decide +kernel : decode cX12_offerCorner 13 = .ok (.i2l, 1))) ?_
  refine And.intro (k_lmul (pc := 14) (by decide +kernel : decode cX12_offerCorner 14 = .ok (.lmul, 1))) ?_
  refine And.intro (k_aload_n (pc := 15) (by decide +kernel : decode cX12_offerCorner 15 = .ok (.aload_n 0, 1)) rfl) ?_
  refine And.intro (k_iload_n (pc := 16) (by decide +kernel : decode cX12_offerCorner 16 = .ok (.iload_n 1, 1)) rfl) ?_
  refine And.intro (k_iconst (pc := 17) (by decide +kernel : decode cX12_offerCorner 17 = .ok (.iconst 1, 1)) (by decide)) ?_
  refine And.intro (k_crV (n := 2) (pc := 18) hG (zRoom_self 3) (tag := 12) rfl ini_X12 im_X12_of se_X12_of mk_X12_145 dy_X12_of (by decide +kernel : decode cX12_offerCorner 18 = .ok (.invokevirtual 145, 3))) ?_
  refine And.intro (k_i2l (pc := 21) (by decide +kernel : decode cX12_offerCorner 21 = .ok (.i2l, 1))) ?_
  refine And.intro (k_aload_n (pc := 22) (by decide +kernel : decode cX12_offerCorner 22 = .ok (.aload_n 0, 1)) rfl) ?_
  refine And.intro (k_iload_n (pc := 23) (by decide +kernel : decode cX12_offerCorner 23 = .ok (.iload_n 2, 1)) rfl) ?_
  refine And.intro (k_iconst (pc := 24) (by decide +kernel : decode cX12_offerCorner 24 = .ok (.iconst 0, 1)) (by decide)) ?_
  refine And.intro (k_crV (n := 2) (pc := 25) hG (zRoom_self 3) (tag := 12) rfl ini_X12 im_X12_of se_X12_of mk_X12_145 dy_X12_of (by decide +kernel : decode cX12_offerCorner 25 = .ok (.invokevirtual 145, 3))) ?_
  refine And.intro (k_i2l (pc := 28) (by decide +kernel : decode cX12_offerCorner 28 = .ok (.i2l, 1))) ?_
  refine And.intro (k_lmul (pc := 29) (by decide +kernel : decode cX12_offerCorner 29 = .ok (.lmul, 1))) ?_
  refine And.intro (k_lsub (pc := 30) (by decide +kernel : decode cX12_offerCorner 30 = .ok (.lsub, 1))) ?_
  refine And.intro (k_lstore (pc := 31) (by decide +kernel : decode cX12_offerCorner 31 = .ok (.lstore 5, 2))) ?_
  refine And.intro (k_lload (pc := 33) (by decide +kernel : decode cX12_offerCorner 33 = .ok (.lload 5, 2))) ?_
  refine And.intro (k_lconst (pc := 35) (by decide +kernel : decode cX12_offerCorner 35 = .ok (.lconst 0, 1)) (by decide)) ?_
  refine And.intro (k_lcmp_ne (pc := 36) (by decide +kernel : decode cX12_offerCorner 36 = .ok (.lcmp, 1)) (by decide +kernel : decode cX12_offerCorner 37 = .ok (.ifCond .ne 4, 3)) (by decide)) ?_
  refine And.intro (k_return (pc := 40) rfl (by decide +kernel : decode cX12_offerCorner 40 = .ok (.return_, 1))) ?_
  refine And.intro (k_aload_n (pc := 41) (by decide +kernel : decode cX12_offerCorner 41 = .ok (.aload_n 0, 1)) rfl) ?_
  refine And.intro (k_iload_n (pc := 42) (by decide +kernel : decode cX12_offerCorner 42 = .ok (.iload_n 1, 1)) rfl) ?_
  refine And.intro (k_iconst (pc := 43) (by decide +kernel : decode cX12_offerCorner 43 = .ok (.iconst 2, 1)) (by decide)) ?_
  refine And.intro (k_crV (n := 2) (pc := 44) hG (zRoom_self 3) (tag := 12) rfl ini_X12 im_X12_of se_X12_of mk_X12_145 dy_X12_of (by decide +kernel : decode cX12_offerCorner 44 = .ok (.invokevirtual 145, 3))) ?_
  refine And.intro (k_i2l (pc := 47) (by decide +kernel : decode cX12_offerCorner 47 = .ok (.i2l, 1))) ?_
  refine And.intro (k_aload_n (pc := 48) (by decide +kernel : decode cX12_offerCorner 48 = .ok (.aload_n 0, 1)) rfl) ?_
  refine And.intro (k_iload_n (pc := 49) (by decide +kernel : decode cX12_offerCorner 49 = .ok (.iload_n 2, 1)) rfl) ?_
  refine And.intro (k_iconst (pc := 50) (by decide +kernel : decode cX12_offerCorner 50 = .ok (.iconst 1, 1)) (by decide)) ?_
  refine And.intro (k_crV (n := 2) (pc := 51) hG (zRoom_self 3) (tag := 12) rfl ini_X12 im_X12_of se_X12_of mk_X12_145 dy_X12_of (by decide +kernel : decode cX12_offerCorner 51 = .ok (.invokevirtual 145, 3))) ?_
  refine And.intro (k_i2l (pc := 54) (by decide +kernel : decode cX12_offerCorner 54 = .ok (.i2l, 1))) ?_
  refine And.intro (k_lmul (pc := 55) (by decide +kernel : decode cX12_offerCorner 55 = .ok (.lmul, 1))) ?_
  refine And.intro (k_aload_n (pc := 56) (by decide +kernel : decode cX12_offerCorner 56 = .ok (.aload_n 0, 1)) rfl) ?_
  refine And.intro (k_iload_n (pc := 57) (by decide +kernel : decode cX12_offerCorner 57 = .ok (.iload_n 1, 1)) rfl) ?_
  refine And.intro (k_iconst (pc := 58) (by decide +kernel : decode cX12_offerCorner 58 = .ok (.iconst 1, 1)) (by decide)) ?_
  refine And.intro (k_crV (n := 2) (pc := 59) hG (zRoom_self 3) (tag := 12) rfl ini_X12 im_X12_of se_X12_of mk_X12_145 dy_X12_of (by decide +kernel : decode cX12_offerCorner 59 = .ok (.invokevirtual 145, 3))) ?_
  refine And.intro (k_i2l (pc := 62) (by decide +kernel : decode cX12_offerCorner 62 = .ok (.i2l, 1))) ?_
  refine And.intro (k_aload_n (pc := 63) (by decide +kernel : decode cX12_offerCorner 63 = .ok (.aload_n 0, 1)) rfl) ?_
  refine And.intro (k_iload_n (pc := 64) (by decide +kernel : decode cX12_offerCorner 64 = .ok (.iload_n 2, 1)) rfl) ?_
  refine And.intro (k_iconst (pc := 65) (by decide +kernel : decode cX12_offerCorner 65 = .ok (.iconst 2, 1)) (by decide)) ?_
  refine And.intro (k_crV (n := 2) (pc := 66) hG (zRoom_self 3) (tag := 12) rfl ini_X12 im_X12_of se_X12_of mk_X12_145 dy_X12_of (by decide +kernel : decode cX12_offerCorner 66 = .ok (.invokevirtual 145, 3))) ?_
  refine And.intro (k_i2l (pc := 69) (by decide +kernel : decode cX12_offerCorner 69 = .ok (.i2l, 1))) ?_
  refine And.intro (k_lmul (pc := 70) (by decide +kernel : decode cX12_offerCorner 70 = .ok (.lmul, 1))) ?_
  refine And.intro (k_lsub (pc := 71) (by decide +kernel : decode cX12_offerCorner 71 = .ok (.lsub, 1))) ?_
  refine And.intro (k_lstore (pc := 72) (by decide +kernel : decode cX12_offerCorner 72 = .ok (.lstore 7, 2))) ?_
  refine And.intro (k_aload_n (pc := 74) (by decide +kernel : decode cX12_offerCorner 74 = .ok (.aload_n 0, 1)) rfl) ?_
  refine And.intro (k_iload_n (pc := 75) (by decide +kernel : decode cX12_offerCorner 75 = .ok (.iload_n 1, 1)) rfl) ?_
  refine And.intro (k_iconst (pc := 76) (by decide +kernel : decode cX12_offerCorner 76 = .ok (.iconst 0, 1)) (by decide)) ?_
  refine And.intro (k_crV (n := 2) (pc := 77) hG (zRoom_self 3) (tag := 12) rfl ini_X12 im_X12_of se_X12_of mk_X12_145 dy_X12_of (by decide +kernel : decode cX12_offerCorner 77 = .ok (.invokevirtual 145, 3))) ?_
  refine And.intro (k_i2l (pc := 80) (by decide +kernel : decode cX12_offerCorner 80 = .ok (.i2l, 1))) ?_
  refine And.intro (k_aload_n (pc := 81) (by decide +kernel : decode cX12_offerCorner 81 = .ok (.aload_n 0, 1)) rfl) ?_
  refine And.intro (k_iload_n (pc := 82) (by decide +kernel : decode cX12_offerCorner 82 = .ok (.iload_n 2, 1)) rfl) ?_
  refine And.intro (k_iconst (pc := 83) (by decide +kernel : decode cX12_offerCorner 83 = .ok (.iconst 2, 1)) (by decide)) ?_
  refine And.intro (k_crV (n := 2) (pc := 84) hG (zRoom_self 3) (tag := 12) rfl ini_X12 im_X12_of se_X12_of mk_X12_145 dy_X12_of (by decide +kernel : decode cX12_offerCorner 84 = .ok (.invokevirtual 145, 3))) ?_
  refine And.intro (k_i2l (pc := 87) (by decide +kernel : decode cX12_offerCorner 87 = .ok (.i2l, 1))) ?_
  refine And.intro (k_lmul (pc := 88) (by decide +kernel : decode cX12_offerCorner 88 = .ok (.lmul, 1))) ?_
  refine And.intro (k_aload_n (pc := 89) (by decide +kernel : decode cX12_offerCorner 89 = .ok (.aload_n 0, 1)) rfl) ?_
  refine And.intro (k_iload_n (pc := 90) (by decide +kernel : decode cX12_offerCorner 90 = .ok (.iload_n 1, 1)) rfl) ?_
  refine And.intro (k_iconst (pc := 91) (by decide +kernel : decode cX12_offerCorner 91 = .ok (.iconst 2, 1)) (by decide)) ?_
  refine And.intro (k_crV (n := 2) (pc := 92) hG (zRoom_self 3) (tag := 12) rfl ini_X12 im_X12_of se_X12_of mk_X12_145 dy_X12_of (by decide +kernel : decode cX12_offerCorner 92 = .ok (.invokevirtual 145, 3))) ?_
  refine And.intro (k_i2l (pc := 95) (by decide +kernel : decode cX12_offerCorner 95 = .ok (.i2l, 1))) ?_
  refine And.intro (k_aload_n (pc := 96) (by decide +kernel : decode cX12_offerCorner 96 = .ok (.aload_n 0, 1)) rfl) ?_
  refine And.intro (k_iload_n (pc := 97) (by decide +kernel : decode cX12_offerCorner 97 = .ok (.iload_n 2, 1)) rfl) ?_
  refine And.intro (k_iconst (pc := 98) (by decide +kernel : decode cX12_offerCorner 98 = .ok (.iconst 0, 1)) (by decide)) ?_
  refine And.intro (k_crV (n := 2) (pc := 99) hG (zRoom_self 3) (tag := 12) rfl ini_X12 im_X12_of se_X12_of mk_X12_145 dy_X12_of (by decide +kernel : decode cX12_offerCorner 99 = .ok (.invokevirtual 145, 3))) ?_
  refine And.intro (k_i2l (pc := 102) (by decide +kernel : decode cX12_offerCorner 102 = .ok (.i2l, 1))) ?_
  refine And.intro (k_lmul (pc := 103) (by decide +kernel : decode cX12_offerCorner 103 = .ok (.lmul, 1))) ?_
  refine And.intro (k_lsub (pc := 104) (by decide +kernel : decode cX12_offerCorner 104 = .ok (.lsub, 1))) ?_
  refine And.intro (k_lstore (pc := 105) (by decide +kernel : decode cX12_offerCorner 105 = .ok (.lstore 9, 2))) ?_
  refine And.intro (k_lload (pc := 107) (by decide +kernel : decode cX12_offerCorner 107 = .ok (.lload 5, 2))) ?_
  refine And.intro (k_lconst (pc := 109) (by decide +kernel : decode cX12_offerCorner 109 = .ok (.lconst 0, 1)) (by decide)) ?_
  refine And.intro (k_lcmp_ge (pc := 110) (by decide +kernel : decode cX12_offerCorner 110 = .ok (.lcmp, 1)) (by decide +kernel : decode cX12_offerCorner 111 = .ok (.ifCond .ge 9, 3)) (by decide)) ?_
  refine And.intro (k_ldc2 (pc := 114) csl_X12_268 (by decide +kernel : decode cX12_offerCorner 114 = .ok (.ldc2_w 268, 3))) ?_
  refine And.intro (k_goto (pc := 117) (by decide +kernel : decode cX12_offerCorner 117 = .ok (.goto 4, 3)) (by decide)) ?_
  refine And.intro (k_lconst (pc := 120) (by decide +kernel : decode cX12_offerCorner 120 = .ok (.lconst 1, 1)) (by decide)) ?_
  refine And.intro (k_lstore (pc := 121) (by decide +kernel : decode cX12_offerCorner 121 = .ok (.lstore 11, 2))) ?_
  refine And.intro (k_iconst (pc := 123) (by decide +kernel : decode cX12_offerCorner 123 = .ok (.iconst 0, 1)) (by decide)) ?_
  refine And.intro (k_istore (pc := 124) (by decide +kernel : decode cX12_offerCorner 124 = .ok (.istore 13, 2))) ?_
  refine And.intro (k_iload (pc := 126) (by decide +kernel : decode cX12_offerCorner 126 = .ok (.iload 13, 2))) ?_
  refine And.intro (k_aload_n (pc := 128) (by decide +kernel : decode cX12_offerCorner 128 = .ok (.aload_n 0, 1)) rfl) ?_
  refine And.intro (k_crV (n := 0) (pc := 129) hG (zRoom_self 3) (tag := 12) rfl ini_X12 im_X12_lines se_X12_lines mk_X12_142 dy_X12_lines (by decide +kernel : decode cX12_offerCorner 129 = .ok (.invokevirtual 142, 3))) ?_
  refine And.intro (k_icmp_ge (pc := 132) (by decide +kernel : decode cX12_offerCorner 132 = .ok (.if_icmp .ge 54, 3)) (by decide)) ?_
  refine And.intro (k_aload_n (pc := 135) (by decide +kernel : decode cX12_offerCorner 135 = .ok (.aload_n 0, 1)) rfl) ?_
  refine And.intro (k_iload (pc := 136) (by decide +kernel : decode cX12_offerCorner 136 = .ok (.iload 13, 2))) ?_
  refine And.intro (k_iconst (pc := 138) (by decide +kernel : decode cX12_offerCorner 138 = .ok (.iconst 0, 1)) (by decide)) ?_
  refine And.intro (k_crV (n := 2) (pc := 139) hG (zRoom_self 3) (tag := 12) rfl ini_X12 im_X12_of se_X12_of mk_X12_145 dy_X12_of (by decide +kernel : decode cX12_offerCorner 139 = .ok (.invokevirtual 145, 3))) ?_
  refine And.intro (k_i2l (pc := 142) (by decide +kernel : decode cX12_offerCorner 142 = .ok (.i2l, 1))) ?_
  refine And.intro (k_lload (pc := 143) (by decide +kernel : decode cX12_offerCorner 143 = .ok (.lload 7, 2))) ?_
  refine And.intro (k_lmul (pc := 145) (by decide +kernel : decode cX12_offerCorner 145 = .ok (.lmul, 1))) ?_
  refine And.intro (k_aload_n (pc := 146) (by decide +kernel : decode cX12_offerCorner 146 = .ok (.aload_n 0, 1)) rfl) ?_
  refine And.intro (k_iload (pc := 147) (by decide +kernel : decode cX12_offerCorner 147 = .ok (.iload 13, 2))) ?_
  refine And.intro (k_iconst (pc := 149) (by decide +kernel : decode cX12_offerCorner 149 = .ok (.iconst 1, 1)) (by decide)) ?_
  refine And.intro (k_crV (n := 2) (pc := 150) hG (zRoom_self 3) (tag := 12) rfl ini_X12 im_X12_of se_X12_of mk_X12_145 dy_X12_of (by decide +kernel : decode cX12_offerCorner 150 = .ok (.invokevirtual 145, 3))) ?_
  refine And.intro (k_i2l (pc := 153) (by decide +kernel : decode cX12_offerCorner 153 = .ok (.i2l, 1))) ?_
  refine And.intro (k_lload (pc := 154) (by decide +kernel : decode cX12_offerCorner 154 = .ok (.lload 9, 2))) ?_
  refine And.intro (k_lmul (pc := 156) (by decide +kernel : decode cX12_offerCorner 156 = .ok (.lmul, 1))) ?_
  refine And.intro (k_ladd (pc := 157) (by decide +kernel : decode cX12_offerCorner 157 = .ok (.ladd, 1))) ?_
  refine And.intro (k_lload (pc := 158) (by decide +kernel : decode cX12_offerCorner 158 = .ok (.lload 11, 2))) ?_
  refine And.intro (k_lmul (pc := 160) (by decide +kernel : decode cX12_offerCorner 160 = .ok (.lmul, 1))) ?_
  refine And.intro (k_aload_n (pc := 161) (by decide +kernel : decode cX12_offerCorner 161 = .ok (.aload_n 0, 1)) rfl) ?_
  refine And.intro (k_iload (pc := 162) (by decide +kernel : decode cX12_offerCorner 162 = .ok (.iload 13, 2))) ?_
  refine And.intro (k_iconst (pc := 164) (by decide +kernel : decode cX12_offerCorner 164 = .ok (.iconst 2, 1)) (by decide)) ?_
  refine And.intro (k_crV (n := 2) (pc := 165) hG (zRoom_self 3) (tag := 12) rfl ini_X12 im_X12_of se_X12_of mk_X12_145 dy_X12_of (by decide +kernel : decode cX12_offerCorner 165 = .ok (.invokevirtual 145, 3))) ?_
  refine And.intro (k_i2l (pc := 168) (by decide +kernel : decode cX12_offerCorner 168 = .ok (.i2l, 1))) ?_
  refine And.intro (k_lload (pc := 169) (by decide +kernel : decode cX12_offerCorner 169 = .ok (.lload 5, 2))) ?_
  refine And.intro (k_lmul (pc := 171) (by decide +kernel : decode cX12_offerCorner 171 = .ok (.lmul, 1))) ?_
  refine And.intro (k_lload (pc := 172) (by decide +kernel : decode cX12_offerCorner 172 = .ok (.lload 11, 2))) ?_
  refine And.intro (k_lmul (pc := 174) (by decide +kernel : decode cX12_offerCorner 174 = .ok (.lmul, 1))) ?_
  refine And.intro (k_lcmp_le (pc := 175) (by decide +kernel : decode cX12_offerCorner 175 = .ok (.lcmp, 1)) (by decide +kernel : decode cX12_offerCorner 176 = .ok (.ifCond .le 4, 3)) (by decide)) ?_
  refine And.intro (k_return (pc := 179) rfl (by decide +kernel : decode cX12_offerCorner 179 = .ok (.return_, 1))) ?_
  refine And.intro (k_iinc (pc := 180) (by decide +kernel : decode cX12_offerCorner 180 = .ok (.iinc 13 1, 3)) (by decide)) ?_
  refine And.intro (k_goto (pc := 183) (by decide +kernel : decode cX12_offerCorner 183 = .ok (.goto (-57), 3)) (by decide)) ?_
  refine And.intro (k_aload_n (pc := 186) (by decide +kernel : decode cX12_offerCorner 186 = .ok (.aload_n 0, 1)) rfl) ?_
  refine And.intro (k_iload_n (pc := 187) (by decide +kernel : decode cX12_offerCorner 187 = .ok (.iload_n 3, 1)) rfl) ?_
  refine And.intro (k_i2l (pc := 188) (by decide +kernel : decode cX12_offerCorner 188 = .ok (.i2l, 1))) ?_
  refine And.intro (k_lload (pc := 189) (by decide +kernel : decode cX12_offerCorner 189 = .ok (.lload 7, 2))) ?_
  refine And.intro (k_lmul (pc := 191) (by decide +kernel : decode cX12_offerCorner 191 = .ok (.lmul, 1))) ?_
  refine And.intro (k_iload (pc := 192) (by decide +kernel : decode cX12_offerCorner 192 = .ok (.iload 4, 2))) ?_
  refine And.intro (k_i2l (pc := 194) (by decide +kernel : decode cX12_offerCorner 194 = .ok (.i2l, 1))) ?_
  refine And.intro (k_lload (pc := 195) (by decide +kernel : decode cX12_offerCorner 195 = .ok (.lload 9, 2))) ?_
  refine And.intro (k_lmul (pc := 197) (by decide +kernel : decode cX12_offerCorner 197 = .ok (.lmul, 1))) ?_
  refine And.intro (k_ladd (pc := 198) (by decide +kernel : decode cX12_offerCorner 198 = .ok (.ladd, 1))) ?_
  refine And.intro (k_lload (pc := 199) (by decide +kernel : decode cX12_offerCorner 199 = .ok (.lload 5, 2))) ?_
  refine And.intro (k_cvV (n := 2) (pc := 201) hG (zRoom_self 3) (tag := 12) rfl ini_X12 im_X12_set se_X12_set mk_X12_76 dy_X12_set (by decide +kernel : decode cX12_offerCorner 201 = .ok (.invokevirtual 76, 3))) ?_
  refine And.intro (k_aload_n (pc := 204) (by decide +kernel : decode cX12_offerCorner 204 = .ok (.aload_n 0, 1)) rfl) ?_
  refine And.intro (k_aload_n (pc := 205) (by decide +kernel : decode cX12_offerCorner 205 = .ok (.aload_n 0, 1)) rfl) ?_
  refine And.intro (k_gJ (pc := 206) rfl (by decide) rfl zin12 lk_X12_69 (by decide +kernel : decode cX12_offerCorner 206 = .ok (.getfield 69, 3))) ?_
  refine And.intro (k_aload_n (pc := 209) (by decide +kernel : decode cX12_offerCorner 209 = .ok (.aload_n 0, 1)) rfl) ?_
  refine And.intro (k_gJ (pc := 210) rfl (by decide) rfl zin12 lk_X12_73 (by decide +kernel : decode cX12_offerCorner 210 = .ok (.getfield 73, 3))) ?_
  refine And.intro (k_cvV (n := 2) (pc := 213) hG (zRoom_self 3) (tag := 12) rfl ini_X12 im_X12_offer se_X12_offer mk_X12_334 dy_X12_offer (by decide +kernel : decode cX12_offerCorner 213 = .ok (.invokevirtual 334, 3))) ?_
  refine And.intro (k_return (pc := 216) rfl (by decide +kernel : decode cX12_offerCorner 216 = .ok (.return_, 1))) ?_
  exact trivial
theorem cdX12_offerCorner : Cond.code yX12_offerCorner cX12_offerCorner 14 none ∈ zWs := zWs_in 1557 (by decide +kernel) rfl
noncomputable def pgX12_offerSlices : zPg := [(0, o_ic (0)), (1, o_is 4), (3, o_il 4), (5, o_ic (7)), (7, o_ic_ge 151), (10, o_ic (0)), (11, o_il 1), (12, o_il 4), (14, o_cr yX12_sliceAt 3), (17, o_is 5), (19, o_al 0), (20, o_gR 12 15), (23, o_il 5), (25, o_xI 16), (26, o_if_ne 32), (29, o_go 145), (32, o_il 1), (33, o_if_ne 41), (36, o_il 3), (37, o_i2l), (38, o_go 43), (41, o_il 2), (42, o_i2l), (43, o_ls 6), (45, o_il 1), (46, o_if_ne 53), (49, o_il 2), (50, o_go 54), (53, o_il 3), (54, o_i2l), (55, o_il 4), (57, o_i2l), (58, o_lmul), (59, o_ls 8), (61, o_al 0), (62, o_ll 8), (64, o_al 0), (65, o_gR 12 16), (68, o_ic (2)), (69, o_il 5), (71, o_imul), (72, o_ic (1)), (73, o_iadd), (74, o_xJ), (75, o_lmul), (76, o_ll 6), (78, o_al 0), (79, o_gR 12 16), (82, o_ic (2)), (83, o_il 5), (85, o_imul), (86, o_xJ), (87, o_lmul), (88, o_ladd), (89, o_al 0), (90, o_gR 12 16), (93, o_ic (2)), (94, o_il 5), (96, o_imul), (97, o_ic (1)), (98, o_iadd), (99, o_xJ), (100, o_vv yX12_offer 12 3), (103, o_al 0), (104, o_ll 8), (106, o_al 0), (107, o_gR 12 17), (110, o_ic (2)), (111, o_il 5), (113, o_imul), (114, o_ic (1)), (115, o_iadd), (116, o_xJ), (117, o_lmul), (118, o_ll 6), (120, o_al 0), (121, o_gR 12 17), (124, o_ic (2)), (125, o_il 5), (127, o_imul), (128, o_xJ), (129, o_lmul), (130, o_ladd), (131, o_al 0), (132, o_gR 12 17), (135, o_ic (2)), (136, o_il 5), (138, o_imul), (139, o_ic (1)), (140, o_iadd), (141, o_xJ), (142, o_vv yX12_offer 12 3), (145, o_inc 4 (1)), (148, o_go 3), (151, o_vr)]
set_option maxRecDepth 20000 in
theorem pkX12_offerSlices {G : zG} (hG : zGok G) (Q : zRt) : zPOK G (zRm 3) RX12 cX12_offerSlices 10 none (zF G Q 0 0) 0 0 (zCalls G 3) Q pgX12_offerSlices := by
  refine And.intro (k_iconst (pc := 0) (by decide +kernel : decode cX12_offerSlices 0 = .ok (.iconst 0, 1)) (by decide)) ?_
  refine And.intro (k_istore (pc := 1) (by decide +kernel : decode cX12_offerSlices 1 = .ok (.istore 4, 2))) ?_
  refine And.intro (k_iload (pc := 3) (by decide +kernel : decode cX12_offerSlices 3 = .ok (.iload 4, 2))) ?_
  refine And.intro (k_bipush (pc := 5) (by decide +kernel : decode cX12_offerSlices 5 = .ok (.bipush 7, 2)) (by decide)) ?_
  refine And.intro (k_icmp_ge (pc := 7) (by decide +kernel : decode cX12_offerSlices 7 = .ok (.if_icmp .ge 144, 3)) (by decide)) ?_
  refine And.intro (k_iconst (pc := 10) (by decide +kernel : decode cX12_offerSlices 10 = .ok (.iconst 0, 1)) (by decide)) ?_
  refine And.intro (k_iload_n (pc := 11) (by decide +kernel : decode cX12_offerSlices 11 = .ok (.iload_n 1, 1)) rfl) ?_
  refine And.intro (k_iload (pc := 12) (by decide +kernel : decode cX12_offerSlices 12 = .ok (.iload 4, 2))) ?_
  refine And.intro (k_crS (n := 3) (pc := 14) hG (zRoom_self 3) ini_X12 sta_X12_sliceAt mk_X12_208 dy_X12_sliceAt (by decide +kernel : decode cX12_offerSlices 14 = .ok (.invokestatic 208, 3))) ?_
  refine And.intro (k_istore (pc := 17) (by decide +kernel : decode cX12_offerSlices 17 = .ok (.istore 5, 2))) ?_
  refine And.intro (k_aload_n (pc := 19) (by decide +kernel : decode cX12_offerSlices 19 = .ok (.aload_n 0, 1)) rfl) ?_
  refine And.intro (k_gR (pc := 20) rfl (by decide) rfl zin12 lk_X12_30 (by decide +kernel : decode cX12_offerSlices 20 = .ok (.getfield 30, 3))) ?_
  refine And.intro (k_iload (pc := 23) (by decide +kernel : decode cX12_offerSlices 23 = .ok (.iload 5, 2))) ?_
  refine And.intro (k_zald (pc := 25) (by decide +kernel : decode cX12_offerSlices 25 = .ok (.baload, 1))) ?_
  refine And.intro (k_if_ne (pc := 26) (by decide +kernel : decode cX12_offerSlices 26 = .ok (.ifCond .ne 6, 3)) (by decide)) ?_
  refine And.intro (k_goto (pc := 29) (by decide +kernel : decode cX12_offerSlices 29 = .ok (.goto 116, 3)) (by decide)) ?_
  refine And.intro (k_iload_n (pc := 32) (by decide +kernel : decode cX12_offerSlices 32 = .ok (.iload_n 1, 1)) rfl) ?_
  refine And.intro (k_if_ne (pc := 33) (by decide +kernel : decode cX12_offerSlices 33 = .ok (.ifCond .ne 8, 3)) (by decide)) ?_
  refine And.intro (k_iload_n (pc := 36) (by decide +kernel : decode cX12_offerSlices 36 = .ok (.iload_n 3, 1)) rfl) ?_
  refine And.intro (k_i2l (pc := 37) (by decide +kernel : decode cX12_offerSlices 37 = .ok (.i2l, 1))) ?_
  refine And.intro (k_goto (pc := 38) (by decide +kernel : decode cX12_offerSlices 38 = .ok (.goto 5, 3)) (by decide)) ?_
  refine And.intro (k_iload_n (pc := 41) (by decide +kernel : decode cX12_offerSlices 41 = .ok (.iload_n 2, 1)) rfl) ?_
  refine And.intro (k_i2l (pc := 42) (by decide +kernel : decode cX12_offerSlices 42 = .ok (.i2l, 1))) ?_
  refine And.intro (k_lstore (pc := 43) (by decide +kernel : decode cX12_offerSlices 43 = .ok (.lstore 6, 2))) ?_
  refine And.intro (k_iload_n (pc := 45) (by decide +kernel : decode cX12_offerSlices 45 = .ok (.iload_n 1, 1)) rfl) ?_
  refine And.intro (k_if_ne (pc := 46) (by decide +kernel : decode cX12_offerSlices 46 = .ok (.ifCond .ne 7, 3)) (by decide)) ?_
  refine And.intro (k_iload_n (pc := 49) (by decide +kernel : decode cX12_offerSlices 49 = .ok (.iload_n 2, 1)) rfl) ?_
  refine And.intro (k_goto (pc := 50) (by decide +kernel : decode cX12_offerSlices 50 = .ok (.goto 4, 3)) (by decide)) ?_
  refine And.intro (k_iload_n (pc := 53) (by decide +kernel : decode cX12_offerSlices 53 = .ok (.iload_n 3, 1)) rfl) ?_
  refine And.intro (k_i2l (pc := 54) (by decide +kernel : decode cX12_offerSlices 54 = .ok (.i2l, 1))) ?_
  refine And.intro (k_iload (pc := 55) (by decide +kernel : decode cX12_offerSlices 55 = .ok (.iload 4, 2))) ?_
  refine And.intro (k_i2l (pc := 57) (by decide +kernel : decode cX12_offerSlices 57 = .ok (.i2l, 1))) ?_
  refine And.intro (k_lmul (pc := 58) (by decide +kernel : decode cX12_offerSlices 58 = .ok (.lmul, 1))) ?_
  refine And.intro (k_lstore (pc := 59) (by decide +kernel : decode cX12_offerSlices 59 = .ok (.lstore 8, 2))) ?_
  refine And.intro (k_aload_n (pc := 61) (by decide +kernel : decode cX12_offerSlices 61 = .ok (.aload_n 0, 1)) rfl) ?_
  refine And.intro (k_lload (pc := 62) (by decide +kernel : decode cX12_offerSlices 62 = .ok (.lload 8, 2))) ?_
  refine And.intro (k_aload_n (pc := 64) (by decide +kernel : decode cX12_offerSlices 64 = .ok (.aload_n 0, 1)) rfl) ?_
  refine And.intro (k_gR (pc := 65) rfl (by decide) rfl zin12 lk_X12_34 (by decide +kernel : decode cX12_offerSlices 65 = .ok (.getfield 34, 3))) ?_
  refine And.intro (k_iconst (pc := 68) (by decide +kernel : decode cX12_offerSlices 68 = .ok (.iconst 2, 1)) (by decide)) ?_
  refine And.intro (k_iload (pc := 69) (by decide +kernel : decode cX12_offerSlices 69 = .ok (.iload 5, 2))) ?_
  refine And.intro (k_imul (pc := 71) (by decide +kernel : decode cX12_offerSlices 71 = .ok (.imul, 1))) ?_
  refine And.intro (k_iconst (pc := 72) (by decide +kernel : decode cX12_offerSlices 72 = .ok (.iconst 1, 1)) (by decide)) ?_
  refine And.intro (k_iadd (pc := 73) (by decide +kernel : decode cX12_offerSlices 73 = .ok (.iadd, 1))) ?_
  refine And.intro (k_lald (pc := 74) (by decide +kernel : decode cX12_offerSlices 74 = .ok (.laload, 1))) ?_
  refine And.intro (k_lmul (pc := 75) (by decide +kernel : decode cX12_offerSlices 75 = .ok (.lmul, 1))) ?_
  refine And.intro (k_lload (pc := 76) (by decide +kernel : decode cX12_offerSlices 76 = .ok (.lload 6, 2))) ?_
  refine And.intro (k_aload_n (pc := 78) (by decide +kernel : decode cX12_offerSlices 78 = .ok (.aload_n 0, 1)) rfl) ?_
  refine And.intro (k_gR (pc := 79) rfl (by decide) rfl zin12 lk_X12_34 (by decide +kernel : decode cX12_offerSlices 79 = .ok (.getfield 34, 3))) ?_
  refine And.intro (k_iconst (pc := 82) (by decide +kernel : decode cX12_offerSlices 82 = .ok (.iconst 2, 1)) (by decide)) ?_
  refine And.intro (k_iload (pc := 83) (by decide +kernel : decode cX12_offerSlices 83 = .ok (.iload 5, 2))) ?_
  refine And.intro (k_imul (pc := 85) (by decide +kernel : decode cX12_offerSlices 85 = .ok (.imul, 1))) ?_
  refine And.intro (k_lald (pc := 86) (by decide +kernel : decode cX12_offerSlices 86 = .ok (.laload, 1))) ?_
  refine And.intro (k_lmul (pc := 87) (by decide +kernel : decode cX12_offerSlices 87 = .ok (.lmul, 1))) ?_
  refine And.intro (k_ladd (pc := 88) (by decide +kernel : decode cX12_offerSlices 88 = .ok (.ladd, 1))) ?_
  refine And.intro (k_aload_n (pc := 89) (by decide +kernel : decode cX12_offerSlices 89 = .ok (.aload_n 0, 1)) rfl) ?_
  refine And.intro (k_gR (pc := 90) rfl (by decide) rfl zin12 lk_X12_34 (by decide +kernel : decode cX12_offerSlices 90 = .ok (.getfield 34, 3))) ?_
  refine And.intro (k_iconst (pc := 93) (by decide +kernel : decode cX12_offerSlices 93 = .ok (.iconst 2, 1)) (by decide)) ?_
  refine And.intro (k_iload (pc := 94) (by decide +kernel : decode cX12_offerSlices 94 = .ok (.iload 5, 2))) ?_
  refine And.intro (k_imul (pc := 96) (by decide +kernel : decode cX12_offerSlices 96 = .ok (.imul, 1))) ?_
  refine And.intro (k_iconst (pc := 97) (by decide +kernel : decode cX12_offerSlices 97 = .ok (.iconst 1, 1)) (by decide)) ?_
  refine And.intro (k_iadd (pc := 98) (by decide +kernel : decode cX12_offerSlices 98 = .ok (.iadd, 1))) ?_
  refine And.intro (k_lald (pc := 99) (by decide +kernel : decode cX12_offerSlices 99 = .ok (.laload, 1))) ?_
  refine And.intro (k_cvV (n := 2) (pc := 100) hG (zRoom_self 3) (tag := 12) rfl ini_X12 im_X12_offer se_X12_offer mk_X12_334 dy_X12_offer (by decide +kernel : decode cX12_offerSlices 100 = .ok (.invokevirtual 334, 3))) ?_
  refine And.intro (k_aload_n (pc := 103) (by decide +kernel : decode cX12_offerSlices 103 = .ok (.aload_n 0, 1)) rfl) ?_
  refine And.intro (k_lload (pc := 104) (by decide +kernel : decode cX12_offerSlices 104 = .ok (.lload 8, 2))) ?_
  refine And.intro (k_aload_n (pc := 106) (by decide +kernel : decode cX12_offerSlices 106 = .ok (.aload_n 0, 1)) rfl) ?_
  refine And.intro (k_gR (pc := 107) rfl (by decide) rfl zin12 lk_X12_37 (by decide +kernel : decode cX12_offerSlices 107 = .ok (.getfield 37, 3))) ?_
  refine And.intro (k_iconst (pc := 110) (by decide +kernel : decode cX12_offerSlices 110 = .ok (.iconst 2, 1)) (by decide)) ?_
  refine And.intro (k_iload (pc := 111) (by decide +kernel : decode cX12_offerSlices 111 = .ok (.iload 5, 2))) ?_
  refine And.intro (k_imul (pc := 113) (by decide +kernel : decode cX12_offerSlices 113 = .ok (.imul, 1))) ?_
  refine And.intro (k_iconst (pc := 114) (by decide +kernel : decode cX12_offerSlices 114 = .ok (.iconst 1, 1)) (by decide)) ?_
  refine And.intro (k_iadd (pc := 115) (by decide +kernel : decode cX12_offerSlices 115 = .ok (.iadd, 1))) ?_
  refine And.intro (k_lald (pc := 116) (by decide +kernel : decode cX12_offerSlices 116 = .ok (.laload, 1))) ?_
  refine And.intro (k_lmul (pc := 117) (by decide +kernel : decode cX12_offerSlices 117 = .ok (.lmul, 1))) ?_
  refine And.intro (k_lload (pc := 118) (by decide +kernel : decode cX12_offerSlices 118 = .ok (.lload 6, 2))) ?_
  refine And.intro (k_aload_n (pc := 120) (by decide +kernel : decode cX12_offerSlices 120 = .ok (.aload_n 0, 1)) rfl) ?_
  refine And.intro (k_gR (pc := 121) rfl (by decide) rfl zin12 lk_X12_37 (by decide +kernel : decode cX12_offerSlices 121 = .ok (.getfield 37, 3))) ?_
  refine And.intro (k_iconst (pc := 124) (by decide +kernel : decode cX12_offerSlices 124 = .ok (.iconst 2, 1)) (by decide)) ?_
  refine And.intro (k_iload (pc := 125) (by decide +kernel : decode cX12_offerSlices 125 = .ok (.iload 5, 2))) ?_
  refine And.intro (k_imul (pc := 127) (by decide +kernel : decode cX12_offerSlices 127 = .ok (.imul, 1))) ?_
  refine And.intro (k_lald (pc := 128) (by decide +kernel : decode cX12_offerSlices 128 = .ok (.laload, 1))) ?_
  refine And.intro (k_lmul (pc := 129) (by decide +kernel : decode cX12_offerSlices 129 = .ok (.lmul, 1))) ?_
  refine And.intro (k_ladd (pc := 130) (by decide +kernel : decode cX12_offerSlices 130 = .ok (.ladd, 1))) ?_
  refine And.intro (k_aload_n (pc := 131) (by decide +kernel : decode cX12_offerSlices 131 = .ok (.aload_n 0, 1)) rfl) ?_
  refine And.intro (k_gR (pc := 132) rfl (by decide) rfl zin12 lk_X12_37 (by decide +kernel : decode cX12_offerSlices 132 = .ok (.getfield 37, 3))) ?_
  refine And.intro (k_iconst (pc := 135) (by decide +kernel : decode cX12_offerSlices 135 = .ok (.iconst 2, 1)) (by decide)) ?_
  refine And.intro (k_iload (pc := 136) (by decide +kernel : decode cX12_offerSlices 136 = .ok (.iload 5, 2))) ?_
  refine And.intro (k_imul (pc := 138) (by decide +kernel : decode cX12_offerSlices 138 = .ok (.imul, 1))) ?_
  refine And.intro (k_iconst (pc := 139) (by decide +kernel : decode cX12_offerSlices 139 = .ok (.iconst 1, 1)) (by decide)) ?_
  refine And.intro (k_iadd (pc := 140) (by decide +kernel : decode cX12_offerSlices 140 = .ok (.iadd, 1))) ?_
  refine And.intro (k_lald (pc := 141) (by decide +kernel : decode cX12_offerSlices 141 = .ok (.laload, 1))) ?_
  refine And.intro (k_cvV (n := 2) (pc := 142) hG (zRoom_self 3) (tag := 12) rfl ini_X12 im_X12_offer se_X12_offer mk_X12_334 dy_X12_offer (by decide +kernel : decode cX12_offerSlices 142 = .ok (.invokevirtual 334, 3))) ?_
  refine And.intro (k_iinc (pc := 145) (by decide +kernel : decode cX12_offerSlices 145 = .ok (.iinc 4 1, 3)) (by decide)) ?_
  refine And.intro (k_goto (pc := 148) (by decide +kernel : decode cX12_offerSlices 148 = .ok (.goto (-145), 3)) (by decide)) ?_
  refine And.intro (k_return (pc := 151) rfl (by decide +kernel : decode cX12_offerSlices 151 = .ok (.return_, 1))) ?_
  exact trivial
theorem cdX12_offerSlices : Cond.code yX12_offerSlices cX12_offerSlices 10 none ∈ zWs := zWs_in 1565 (by decide +kernel) rfl
noncomputable def pgX12_layMost : zPg := [(0, o_al 0), (1, o_ic (0)), (2, o_pZ 12 30), (5, o_al 0), (6, o_vv yX12_layFirst 12 1), (9, o_il 3), (10, o_if_ne 62), (13, o_ic (0)), (14, o_is 4), (16, o_il 4), (18, o_al 0), (19, o_vr2 yX12_lines 12 1), (22, o_ic_ge 62), (25, o_il 4), (27, o_ic (1)), (28, o_iadd), (29, o_is 5), (31, o_il 5), (33, o_al 0), (34, o_vr2 yX12_lines 12 1), (37, o_ic_ge 56), (40, o_al 0), (41, o_il 4), (43, o_il 5), (45, o_il 1), (46, o_il 2), (47, o_vv yX12_offerCorner 12 5), (50, o_inc 5 (1)), (53, o_go 31), (56, o_inc 4 (1)), (59, o_go 16), (62, o_il 3), (63, o_ic (1)), (64, o_ic_eq 72), (67, o_il 3), (68, o_ic (2)), (69, o_ic_ne 81), (72, o_al 0), (73, o_il 3), (74, o_ic (1)), (75, o_isub), (76, o_il 1), (77, o_il 2), (78, o_vv yX12_offerSlices 12 4), (81, o_il 3), (82, o_ic (3)), (83, o_ic_ge 87), (86, o_vr), (87, o_al 0), (88, o_vv yX12_layWholes 12 1), (91, o_ic (0)), (92, o_is 4), (94, o_il 4), (96, o_al 0), (97, o_gI 12 29), (100, o_ic_ge 140), (103, o_al 0), (104, o_il 1), (105, o_al 0), (106, o_gR 12 28), (109, o_ic (2)), (110, o_il 4), (112, o_imul), (113, o_xI 14), (114, o_imul), (115, o_il 2), (116, o_al 0), (117, o_gR 12 28), (120, o_ic (2)), (121, o_il 4), (123, o_imul), (124, o_ic (1)), (125, o_iadd), (126, o_xI 14), (127, o_imul), (128, o_iadd), (129, o_i2l), (130, o_lc 1), (131, o_vv yX12_offer 12 3), (134, o_inc 4 (1)), (137, o_go 94), (140, o_vr)]
set_option maxRecDepth 20000 in
theorem pkX12_layMost {G : zG} (hG : zGok G) (Q : zRt) : zPOK G (zRm 5) RX12 cX12_layMost 6 none (zF G Q 0 0) 0 0 (zCalls G 5) Q pgX12_layMost := by
  refine And.intro (k_aload_n (pc := 0) (by decide +kernel : decode cX12_layMost 0 = .ok (.aload_n 0, 1)) rfl) ?_
  refine And.intro (k_iconst (pc := 1) (by decide +kernel : decode cX12_layMost 1 = .ok (.iconst 0, 1)) (by decide)) ?_
  refine And.intro (k_pZ (pc := 2) rfl (by decide) rfl zin12 lk_X12_325 tyX12_ok nmX12 rfl (by decide +kernel) (by decide +kernel : decode cX12_layMost 2 = .ok (.putfield 325, 3))) ?_
  refine And.intro (k_aload_n (pc := 5) (by decide +kernel : decode cX12_layMost 5 = .ok (.aload_n 0, 1)) rfl) ?_
  refine And.intro (k_cvV (n := 0) (pc := 6) hG (zRoom_self 5) (tag := 12) rfl ini_X12 im_X12_layFirst se_X12_layFirst mk_X12_241 dy_X12_layFirst (by decide +kernel : decode cX12_layMost 6 = .ok (.invokevirtual 241, 3))) ?_
  refine And.intro (k_iload_n (pc := 9) (by decide +kernel : decode cX12_layMost 9 = .ok (.iload_n 3, 1)) rfl) ?_
  refine And.intro (k_if_ne (pc := 10) (by decide +kernel : decode cX12_layMost 10 = .ok (.ifCond .ne 52, 3)) (by decide)) ?_
  refine And.intro (k_iconst (pc := 13) (by decide +kernel : decode cX12_layMost 13 = .ok (.iconst 0, 1)) (by decide)) ?_
  refine And.intro (k_istore (pc := 14) (by decide +kernel : decode cX12_layMost 14 = .ok (.istore 4, 2))) ?_
  refine And.intro (k_iload (pc := 16) (by decide +kernel : decode cX12_layMost 16 = .ok (.iload 4, 2))) ?_
  refine And.intro (k_aload_n (pc := 18) (by decide +kernel : decode cX12_layMost 18 = .ok (.aload_n 0, 1)) rfl) ?_
  refine And.intro (k_crV (n := 0) (pc := 19) hG (zRoom_self 5) (tag := 12) rfl ini_X12 im_X12_lines se_X12_lines mk_X12_142 dy_X12_lines (by decide +kernel : decode cX12_layMost 19 = .ok (.invokevirtual 142, 3))) ?_
  refine And.intro (k_icmp_ge (pc := 22) (by decide +kernel : decode cX12_layMost 22 = .ok (.if_icmp .ge 40, 3)) (by decide)) ?_
  refine And.intro (k_iload (pc := 25) (by decide +kernel : decode cX12_layMost 25 = .ok (.iload 4, 2))) ?_
  refine And.intro (k_iconst (pc := 27) (by decide +kernel : decode cX12_layMost 27 = .ok (.iconst 1, 1)) (by decide)) ?_
  refine And.intro (k_iadd (pc := 28) (by decide +kernel : decode cX12_layMost 28 = .ok (.iadd, 1))) ?_
  refine And.intro (k_istore (pc := 29) (by decide +kernel : decode cX12_layMost 29 = .ok (.istore 5, 2))) ?_
  refine And.intro (k_iload (pc := 31) (by decide +kernel : decode cX12_layMost 31 = .ok (.iload 5, 2))) ?_
  refine And.intro (k_aload_n (pc := 33) (by decide +kernel : decode cX12_layMost 33 = .ok (.aload_n 0, 1)) rfl) ?_
  refine And.intro (k_crV (n := 0) (pc := 34) hG (zRoom_self 5) (tag := 12) rfl ini_X12 im_X12_lines se_X12_lines mk_X12_142 dy_X12_lines (by decide +kernel : decode cX12_layMost 34 = .ok (.invokevirtual 142, 3))) ?_
  refine And.intro (k_icmp_ge (pc := 37) (by decide +kernel : decode cX12_layMost 37 = .ok (.if_icmp .ge 19, 3)) (by decide)) ?_
  refine And.intro (k_aload_n (pc := 40) (by decide +kernel : decode cX12_layMost 40 = .ok (.aload_n 0, 1)) rfl) ?_
  refine And.intro (k_iload (pc := 41) (by decide +kernel : decode cX12_layMost 41 = .ok (.iload 4, 2))) ?_
  refine And.intro (k_iload (pc := 43) (by decide +kernel : decode cX12_layMost 43 = .ok (.iload 5, 2))) ?_
  refine And.intro (k_iload_n (pc := 45) (by decide +kernel : decode cX12_layMost 45 = .ok (.iload_n 1, 1)) rfl) ?_
  refine And.intro (k_iload_n (pc := 46) (by decide +kernel : decode cX12_layMost 46 = .ok (.iload_n 2, 1)) rfl) ?_
  refine And.intro (k_cvV (n := 4) (pc := 47) hG (zRoom_self 5) (tag := 12) rfl ini_X12 im_X12_offerCorner se_X12_offerCorner mk_X12_337 dy_X12_offerCorner (by decide +kernel : decode cX12_layMost 47 = .ok (.invokevirtual 337, 3))) ?_
  refine And.intro (k_iinc (pc := 50) (by decide +kernel : decode cX12_layMost 50 = .ok (.iinc 5 1, 3)) (by decide)) ?_
  refine And.intro (k_goto (pc := 53) (by decide +kernel : decode cX12_layMost 53 = .ok (.goto (-22), 3)) (by decide)) ?_
  refine And.intro (k_iinc (pc := 56) (by decide +kernel : decode cX12_layMost 56 = .ok (.iinc 4 1, 3)) (by decide)) ?_
  refine And.intro (k_goto (pc := 59) (by decide +kernel : decode cX12_layMost 59 = .ok (.goto (-43), 3)) (by decide)) ?_
  refine And.intro (k_iload_n (pc := 62) (by decide +kernel : decode cX12_layMost 62 = .ok (.iload_n 3, 1)) rfl) ?_
  refine And.intro (k_iconst (pc := 63) (by decide +kernel : decode cX12_layMost 63 = .ok (.iconst 1, 1)) (by decide)) ?_
  refine And.intro (k_icmp_eq (pc := 64) (by decide +kernel : decode cX12_layMost 64 = .ok (.if_icmp .eq 8, 3)) (by decide)) ?_
  refine And.intro (k_iload_n (pc := 67) (by decide +kernel : decode cX12_layMost 67 = .ok (.iload_n 3, 1)) rfl) ?_
  refine And.intro (k_iconst (pc := 68) (by decide +kernel : decode cX12_layMost 68 = .ok (.iconst 2, 1)) (by decide)) ?_
  refine And.intro (k_icmp_ne (pc := 69) (by decide +kernel : decode cX12_layMost 69 = .ok (.if_icmp .ne 12, 3)) (by decide)) ?_
  refine And.intro (k_aload_n (pc := 72) (by decide +kernel : decode cX12_layMost 72 = .ok (.aload_n 0, 1)) rfl) ?_
  refine And.intro (k_iload_n (pc := 73) (by decide +kernel : decode cX12_layMost 73 = .ok (.iload_n 3, 1)) rfl) ?_
  refine And.intro (k_iconst (pc := 74) (by decide +kernel : decode cX12_layMost 74 = .ok (.iconst 1, 1)) (by decide)) ?_
  refine And.intro (k_isub (pc := 75) (by decide +kernel : decode cX12_layMost 75 = .ok (.isub, 1))) ?_
  refine And.intro (k_iload_n (pc := 76) (by decide +kernel : decode cX12_layMost 76 = .ok (.iload_n 1, 1)) rfl) ?_
  refine And.intro (k_iload_n (pc := 77) (by decide +kernel : decode cX12_layMost 77 = .ok (.iload_n 2, 1)) rfl) ?_
  refine And.intro (k_cvV (n := 3) (pc := 78) hG (zRoom_self 5) (tag := 12) rfl ini_X12 im_X12_offerSlices se_X12_offerSlices mk_X12_341 dy_X12_offerSlices (by decide +kernel : decode cX12_layMost 78 = .ok (.invokevirtual 341, 3))) ?_
  refine And.intro (k_iload_n (pc := 81) (by decide +kernel : decode cX12_layMost 81 = .ok (.iload_n 3, 1)) rfl) ?_
  refine And.intro (k_iconst (pc := 82) (by decide +kernel : decode cX12_layMost 82 = .ok (.iconst 3, 1)) (by decide)) ?_
  refine And.intro (k_icmp_ge (pc := 83) (by decide +kernel : decode cX12_layMost 83 = .ok (.if_icmp .ge 4, 3)) (by decide)) ?_
  refine And.intro (k_return (pc := 86) rfl (by decide +kernel : decode cX12_layMost 86 = .ok (.return_, 1))) ?_
  refine And.intro (k_aload_n (pc := 87) (by decide +kernel : decode cX12_layMost 87 = .ok (.aload_n 0, 1)) rfl) ?_
  refine And.intro (k_cvV (n := 0) (pc := 88) hG (zRoom_self 5) (tag := 12) rfl ini_X12 im_X12_layWholes se_X12_layWholes mk_X12_309 dy_X12_layWholes (by decide +kernel : decode cX12_layMost 88 = .ok (.invokevirtual 309, 3))) ?_
  refine And.intro (k_iconst (pc := 91) (by decide +kernel : decode cX12_layMost 91 = .ok (.iconst 0, 1)) (by decide)) ?_
  refine And.intro (k_istore (pc := 92) (by decide +kernel : decode cX12_layMost 92 = .ok (.istore 4, 2))) ?_
  refine And.intro (k_iload (pc := 94) (by decide +kernel : decode cX12_layMost 94 = .ok (.iload 4, 2))) ?_
  refine And.intro (k_aload_n (pc := 96) (by decide +kernel : decode cX12_layMost 96 = .ok (.aload_n 0, 1)) rfl) ?_
  refine And.intro (k_gI (pc := 97) rfl (by decide) rfl zin12 lk_X12_306 (by decide +kernel : decode cX12_layMost 97 = .ok (.getfield 306, 3))) ?_
  refine And.intro (k_icmp_ge (pc := 100) (by decide +kernel : decode cX12_layMost 100 = .ok (.if_icmp .ge 40, 3)) (by decide)) ?_
  refine And.intro (k_aload_n (pc := 103) (by decide +kernel : decode cX12_layMost 103 = .ok (.aload_n 0, 1)) rfl) ?_
  refine And.intro (k_iload_n (pc := 104) (by decide +kernel : decode cX12_layMost 104 = .ok (.iload_n 1, 1)) rfl) ?_
  refine And.intro (k_aload_n (pc := 105) (by decide +kernel : decode cX12_layMost 105 = .ok (.aload_n 0, 1)) rfl) ?_
  refine And.intro (k_gR (pc := 106) rfl (by decide) rfl zin12 lk_X12_43 (by decide +kernel : decode cX12_layMost 106 = .ok (.getfield 43, 3))) ?_
  refine And.intro (k_iconst (pc := 109) (by decide +kernel : decode cX12_layMost 109 = .ok (.iconst 2, 1)) (by decide)) ?_
  refine And.intro (k_iload (pc := 110) (by decide +kernel : decode cX12_layMost 110 = .ok (.iload 4, 2))) ?_
  refine And.intro (k_imul (pc := 112) (by decide +kernel : decode cX12_layMost 112 = .ok (.imul, 1))) ?_
  refine And.intro (k_iald (pc := 113) (by decide +kernel : decode cX12_layMost 113 = .ok (.iaload, 1))) ?_
  refine And.intro (k_imul (pc := 114) (by decide +kernel : decode cX12_layMost 114 = .ok (.imul, 1))) ?_
  refine And.intro (k_iload_n (pc := 115) (by decide +kernel : decode cX12_layMost 115 = .ok (.iload_n 2, 1)) rfl) ?_
  refine And.intro (k_aload_n (pc := 116) (by decide +kernel : decode cX12_layMost 116 = .ok (.aload_n 0, 1)) rfl) ?_
  refine And.intro (k_gR (pc := 117) rfl (by decide) rfl zin12 lk_X12_43 (by decide +kernel : decode cX12_layMost 117 = .ok (.getfield 43, 3))) ?_
  refine And.intro (k_iconst (pc := 120) (by decide +kernel : decode cX12_layMost 120 = .ok (.iconst 2, 1)) (by decide)) ?_
  refine And.intro (k_iload (pc := 121) (by decide +kernel : decode cX12_layMost 121 = .ok (.iload 4, 2))) ?_
  refine And.intro (k_imul (pc := 123) (by decide +kernel : decode cX12_layMost 123 = .ok (.imul, 1))) ?_
  refine And.intro (k_iconst (pc := 124) (by decide +kernel : decode cX12_layMost 124 = .ok (.iconst 1, 1)) (by decide)) ?_
  refine And.intro (k_iadd (pc := 125) (by decide +kernel : decode cX12_layMost 125 = .ok (.iadd, 1))) ?_
  refine And.intro (k_iald (pc := 126) (by decide +kernel : decode cX12_layMost 126 = .ok (.iaload, 1))) ?_
  refine And.intro (k_imul (pc := 127) (by decide +kernel : decode cX12_layMost 127 = .ok (.imul, 1))) ?_
  refine And.intro (k_iadd (pc := 128) (by decide +kernel : decode cX12_layMost 128 = .ok (.iadd, 1))) ?_
  refine And.intro (k_i2l (pc := 129) (by decide +kernel : decode cX12_layMost 129 = .ok (.i2l, 1))) ?_
  refine And.intro (k_lconst (pc := 130) (by decide +kernel : decode cX12_layMost 130 = .ok (.lconst 1, 1)) (by decide)) ?_
  refine And.intro (k_cvV (n := 2) (pc := 131) hG (zRoom_self 5) (tag := 12) rfl ini_X12 im_X12_offer se_X12_offer mk_X12_334 dy_X12_offer (by decide +kernel : decode cX12_layMost 131 = .ok (.invokevirtual 334, 3))) ?_
  refine And.intro (k_iinc (pc := 134) (by decide +kernel : decode cX12_layMost 134 = .ok (.iinc 4 1, 3)) (by decide)) ?_
  refine And.intro (k_goto (pc := 137) (by decide +kernel : decode cX12_layMost 137 = .ok (.goto (-43), 3)) (by decide)) ?_
  refine And.intro (k_return (pc := 140) rfl (by decide +kernel : decode cX12_layMost 140 = .ok (.return_, 1))) ?_
  exact trivial
theorem cdX12_layMost : Cond.code yX12_layMost cX12_layMost 6 none ∈ zWs := zWs_in 1553 (by decide +kernel) rfl
noncomputable def pgX12_isSum : zPg := [(0, o_il 0), (1, o_ic (-9)), (3, o_ic (9)), (5, o_cr yX12_in 3), (8, o_if_eq 26), (11, o_il 1), (12, o_ic (-9)), (14, o_ic (9)), (16, o_cr yX12_in 3), (19, o_if_eq 26), (22, o_ic (1)), (23, o_go 27), (26, o_ic (0)), (27, o_zr)]
set_option maxRecDepth 20000 in
theorem pkX12_isSum {G : zG} (hG : zGok G) (Q : zRt) : zPOK G (zRm 1) RX12 cX12_isSum 2 (some .boolean) (zF G Q 0 0) 0 0 (zCalls G 1) Q pgX12_isSum := by
  refine And.intro (k_iload_n (pc := 0) (by decide +kernel : decode cX12_isSum 0 = .ok (.iload_n 0, 1)) rfl) ?_
  refine And.intro (k_bipush (pc := 1) (by decide +kernel : decode cX12_isSum 1 = .ok (.bipush (-9), 2)) (by decide)) ?_
  refine And.intro (k_bipush (pc := 3) (by decide +kernel : decode cX12_isSum 3 = .ok (.bipush 9, 2)) (by decide)) ?_
  refine And.intro (k_crS (n := 3) (pc := 5) hG (zRoom_self 1) ini_X12 sta_X12_in mk_X12_87 dy_X12_in (by decide +kernel : decode cX12_isSum 5 = .ok (.invokestatic 87, 3))) ?_
  refine And.intro (k_if_eq (pc := 8) (by decide +kernel : decode cX12_isSum 8 = .ok (.ifCond .eq 18, 3)) (by decide)) ?_
  refine And.intro (k_iload_n (pc := 11) (by decide +kernel : decode cX12_isSum 11 = .ok (.iload_n 1, 1)) rfl) ?_
  refine And.intro (k_bipush (pc := 12) (by decide +kernel : decode cX12_isSum 12 = .ok (.bipush (-9), 2)) (by decide)) ?_
  refine And.intro (k_bipush (pc := 14) (by decide +kernel : decode cX12_isSum 14 = .ok (.bipush 9, 2)) (by decide)) ?_
  refine And.intro (k_crS (n := 3) (pc := 16) hG (zRoom_self 1) ini_X12 sta_X12_in mk_X12_87 dy_X12_in (by decide +kernel : decode cX12_isSum 16 = .ok (.invokestatic 87, 3))) ?_
  refine And.intro (k_if_eq (pc := 19) (by decide +kernel : decode cX12_isSum 19 = .ok (.ifCond .eq 7, 3)) (by decide)) ?_
  refine And.intro (k_iconst (pc := 22) (by decide +kernel : decode cX12_isSum 22 = .ok (.iconst 1, 1)) (by decide)) ?_
  refine And.intro (k_goto (pc := 23) (by decide +kernel : decode cX12_isSum 23 = .ok (.goto 4, 3)) (by decide)) ?_
  refine And.intro (k_iconst (pc := 26) (by decide +kernel : decode cX12_isSum 26 = .ok (.iconst 0, 1)) (by decide)) ?_
  refine And.intro (k_zreturn (pc := 27) rfl (by decide +kernel : decode cX12_isSum 27 = .ok (.ireturn, 1))) ?_
  exact trivial
theorem cdX12_isSum : Cond.code yX12_isSum cX12_isSum 2 (some .boolean) ∈ zWs := zWs_in 1549 (by decide +kernel) rfl
noncomputable def pgX12_most : zPg := [(0, o_al 0), (1, o_ic (0)), (2, o_pI 12 5), (5, o_il 1), (6, o_il 2), (7, o_cr yX12_isSum 2), (10, o_if_eq 22), (13, o_il 3), (14, o_ic (0)), (15, o_ic (3)), (16, o_cr yX12_in 3), (19, o_if_ne 24), (22, o_ic (-1)), (23, o_ir), (24, o_al 0), (25, o_il 1), (26, o_il 2), (27, o_il 3), (28, o_vv yX12_layMost 12 4), (31, o_al 0), (32, o_gI 12 30), (35, o_if_ne 41), (38, o_ic (-2)), (40, o_ir), (41, o_al 0), (42, o_ic (0)), (43, o_pI 12 4), (46, o_al 0), (47, o_al 0), (48, o_gJ 12 31), (51, o_al 0), (52, o_gJ 12 32), (55, o_vv yX12_tellFraction 12 3), (58, o_ic (0)), (59, o_ir)]
set_option maxRecDepth 20000 in
theorem pkX12_most {G : zG} (hG : zGok G) (Q : zRt) : zPOK G (zRm 6) RX12 cX12_most 4 (some .int) (zF G Q 0 0) 0 0 (zCalls G 6) Q pgX12_most := by
  refine And.intro (k_aload_n (pc := 0) (by decide +kernel : decode cX12_most 0 = .ok (.aload_n 0, 1)) rfl) ?_
  refine And.intro (k_iconst (pc := 1) (by decide +kernel : decode cX12_most 1 = .ok (.iconst 0, 1)) (by decide)) ?_
  refine And.intro (k_pI (pc := 2) rfl (by decide) rfl zin12 lk_X12_55 tyX12_ok nmX12 rfl (by decide +kernel) (by decide +kernel : decode cX12_most 2 = .ok (.putfield 55, 3))) ?_
  refine And.intro (k_iload_n (pc := 5) (by decide +kernel : decode cX12_most 5 = .ok (.iload_n 1, 1)) rfl) ?_
  refine And.intro (k_iload_n (pc := 6) (by decide +kernel : decode cX12_most 6 = .ok (.iload_n 2, 1)) rfl) ?_
  refine And.intro (k_crS (n := 2) (pc := 7) hG (zRoom_self 6) ini_X12 sta_X12_isSum mk_X12_344 dy_X12_isSum (by decide +kernel : decode cX12_most 7 = .ok (.invokestatic 344, 3))) ?_
  refine And.intro (k_if_eq (pc := 10) (by decide +kernel : decode cX12_most 10 = .ok (.ifCond .eq 12, 3)) (by decide)) ?_
  refine And.intro (k_iload_n (pc := 13) (by decide +kernel : decode cX12_most 13 = .ok (.iload_n 3, 1)) rfl) ?_
  refine And.intro (k_iconst (pc := 14) (by decide +kernel : decode cX12_most 14 = .ok (.iconst 0, 1)) (by decide)) ?_
  refine And.intro (k_iconst (pc := 15) (by decide +kernel : decode cX12_most 15 = .ok (.iconst 3, 1)) (by decide)) ?_
  refine And.intro (k_crS (n := 3) (pc := 16) hG (zRoom_self 6) ini_X12 sta_X12_in mk_X12_87 dy_X12_in (by decide +kernel : decode cX12_most 16 = .ok (.invokestatic 87, 3))) ?_
  refine And.intro (k_if_ne (pc := 19) (by decide +kernel : decode cX12_most 19 = .ok (.ifCond .ne 5, 3)) (by decide)) ?_
  refine And.intro (k_iconst (pc := 22) (by decide +kernel : decode cX12_most 22 = .ok (.iconst (-1), 1)) (by decide)) ?_
  refine And.intro (k_ireturn (pc := 23) rfl (by decide +kernel : decode cX12_most 23 = .ok (.ireturn, 1))) ?_
  refine And.intro (k_aload_n (pc := 24) (by decide +kernel : decode cX12_most 24 = .ok (.aload_n 0, 1)) rfl) ?_
  refine And.intro (k_iload_n (pc := 25) (by decide +kernel : decode cX12_most 25 = .ok (.iload_n 1, 1)) rfl) ?_
  refine And.intro (k_iload_n (pc := 26) (by decide +kernel : decode cX12_most 26 = .ok (.iload_n 2, 1)) rfl) ?_
  refine And.intro (k_iload_n (pc := 27) (by decide +kernel : decode cX12_most 27 = .ok (.iload_n 3, 1)) rfl) ?_
  refine And.intro (k_cvV (n := 3) (pc := 28) hG (zRoom_self 6) (tag := 12) rfl ini_X12 im_X12_layMost se_X12_layMost mk_X12_347 dy_X12_layMost (by decide +kernel : decode cX12_most 28 = .ok (.invokevirtual 347, 3))) ?_
  refine And.intro (k_aload_n (pc := 31) (by decide +kernel : decode cX12_most 31 = .ok (.aload_n 0, 1)) rfl) ?_
  refine And.intro (k_gZ (pc := 32) rfl (by decide) rfl zin12 lk_X12_325 (by decide +kernel : decode cX12_most 32 = .ok (.getfield 325, 3))) ?_
  refine And.intro (k_if_ne (pc := 35) (by decide +kernel : decode cX12_most 35 = .ok (.ifCond .ne 6, 3)) (by decide)) ?_
  refine And.intro (k_bipush (pc := 38) (by decide +kernel : decode cX12_most 38 = .ok (.bipush (-2), 2)) (by decide)) ?_
  refine And.intro (k_ireturn (pc := 40) rfl (by decide +kernel : decode cX12_most 40 = .ok (.ireturn, 1))) ?_
  refine And.intro (k_aload_n (pc := 41) (by decide +kernel : decode cX12_most 41 = .ok (.aload_n 0, 1)) rfl) ?_
  refine And.intro (k_iconst (pc := 42) (by decide +kernel : decode cX12_most 42 = .ok (.iconst 0, 1)) (by decide)) ?_
  refine And.intro (k_pI (pc := 43) rfl (by decide) rfl zin12 lk_X12_59 tyX12_ok nmX12 rfl (by decide +kernel) (by decide +kernel : decode cX12_most 43 = .ok (.putfield 59, 3))) ?_
  refine And.intro (k_aload_n (pc := 46) (by decide +kernel : decode cX12_most 46 = .ok (.aload_n 0, 1)) rfl) ?_
  refine And.intro (k_aload_n (pc := 47) (by decide +kernel : decode cX12_most 47 = .ok (.aload_n 0, 1)) rfl) ?_
  refine And.intro (k_gJ (pc := 48) rfl (by decide) rfl zin12 lk_X12_328 (by decide +kernel : decode cX12_most 48 = .ok (.getfield 328, 3))) ?_
  refine And.intro (k_aload_n (pc := 51) (by decide +kernel : decode cX12_most 51 = .ok (.aload_n 0, 1)) rfl) ?_
  refine And.intro (k_gJ (pc := 52) rfl (by decide) rfl zin12 lk_X12_331 (by decide +kernel : decode cX12_most 52 = .ok (.getfield 331, 3))) ?_
  refine And.intro (k_cvV (n := 2) (pc := 55) hG (zRoom_self 6) (tag := 12) rfl ini_X12 im_X12_tellFraction se_X12_tellFraction mk_X12_250 dy_X12_tellFraction (by decide +kernel : decode cX12_most 55 = .ok (.invokevirtual 250, 3))) ?_
  refine And.intro (k_iconst (pc := 58) (by decide +kernel : decode cX12_most 58 = .ok (.iconst 0, 1)) (by decide)) ?_
  refine And.intro (k_ireturn (pc := 59) rfl (by decide +kernel : decode cX12_most 59 = .ok (.ireturn, 1))) ?_
  exact trivial
theorem cdX12_most : Cond.code yX12_most cX12_most 4 (some .int) ∈ zWs := zWs_in 1546 (by decide +kernel) rfl
noncomputable def pgX12_gains : zPg := [(0, o_al 0), (1, o_ic (0)), (2, o_pI 12 5), (5, o_il 1), (6, o_il 2), (7, o_cr yX12_isSum 2), (10, o_if_ne 15), (13, o_ic (-1)), (14, o_ir), (15, o_al 0), (16, o_il 1), (17, o_il 2), (18, o_ic (3)), (19, o_vv yX12_layMost 12 4), (22, o_al 0), (23, o_gI 12 30), (26, o_if_ne 32), (29, o_ic (-2)), (31, o_ir), (32, o_al 0), (33, o_gJ 12 31), (36, o_ls 3), (37, o_al 0), (38, o_il 1), (39, o_il 2), (40, o_ic (1)), (41, o_vv yX12_layMost 12 4), (44, o_al 0), (45, o_gJ 12 31), (48, o_ls 5), (50, o_al 0), (51, o_gJ 12 32), (54, o_ls 7), (56, o_al 0), (57, o_il 1), (58, o_il 2), (59, o_ic (2)), (60, o_vv yX12_layMost 12 4), (63, o_al 0), (64, o_gJ 12 31), (67, o_al 0), (68, o_gJ 12 32), (71, o_ll 5), (73, o_ll 7), (75, o_cr yX12_isLess 4), (78, o_if_eq 85), (81, o_ic (1)), (82, o_go 86), (85, o_ic (0)), (86, o_is 9), (88, o_il 9), (90, o_ic (1)), (91, o_ic_ne 101), (94, o_al 0), (95, o_gJ 12 31), (98, o_go 103), (101, o_ll 5), (103, o_ls 10), (105, o_il 9), (107, o_ic (1)), (108, o_ic_ne 118), (111, o_al 0), (112, o_gJ 12 32), (115, o_go 120), (118, o_ll 7), (120, o_ls 12), (122, o_al 0), (123, o_il 1), (124, o_il 2), (125, o_ic (0)), (126, o_vv yX12_layMost 12 4), (129, o_al 0), (130, o_ic (0)), (131, o_pI 12 4), (134, o_al 0), (135, o_al 0), (136, o_gJ 12 31), (139, o_ll 12), (141, o_lmul), (142, o_ll 10), (144, o_al 0), (145, o_gJ 12 32), (148, o_lmul), (149, o_lsub), (150, o_al 0), (151, o_gJ 12 32), (154, o_ll 12), (156, o_lmul), (157, o_vv yX12_tellFraction 12 3), (160, o_al 0), (161, o_al 0), (162, o_gJ 12 31), (165, o_ll 3), (166, o_al 0), (167, o_gJ 12 32), (170, o_lmul), (171, o_lsub), (172, o_al 0), (173, o_gJ 12 32), (176, o_vv yX12_tellFraction 12 3), (179, o_il 9), (181, o_ir)]
set_option maxRecDepth 20000 in
theorem pkX12_gains {G : zG} (hG : zGok G) (Q : zRt) : zPOK G (zRm 6) RX12 cX12_gains 14 (some .int) (zF G Q 0 0) 0 0 (zCalls G 6) Q pgX12_gains := by
  refine And.intro (k_aload_n (pc := 0) (by decide +kernel : decode cX12_gains 0 = .ok (.aload_n 0, 1)) rfl) ?_
  refine And.intro (k_iconst (pc := 1) (by decide +kernel : decode cX12_gains 1 = .ok (.iconst 0, 1)) (by decide)) ?_
  refine And.intro (k_pI (pc := 2) rfl (by decide) rfl zin12 lk_X12_55 tyX12_ok nmX12 rfl (by decide +kernel) (by decide +kernel : decode cX12_gains 2 = .ok (.putfield 55, 3))) ?_
  refine And.intro (k_iload_n (pc := 5) (by decide +kernel : decode cX12_gains 5 = .ok (.iload_n 1, 1)) rfl) ?_
  refine And.intro (k_iload_n (pc := 6) (by decide +kernel : decode cX12_gains 6 = .ok (.iload_n 2, 1)) rfl) ?_
  refine And.intro (k_crS (n := 2) (pc := 7) hG (zRoom_self 6) ini_X12 sta_X12_isSum mk_X12_344 dy_X12_isSum (by decide +kernel : decode cX12_gains 7 = .ok (.invokestatic 344, 3))) ?_
  refine And.intro (k_if_ne (pc := 10) (by decide +kernel : decode cX12_gains 10 = .ok (.ifCond .ne 5, 3)) (by decide)) ?_
  refine And.intro (k_iconst (pc := 13) (by decide +kernel : decode cX12_gains 13 = .ok (.iconst (-1), 1)) (by decide)) ?_
  refine And.intro (k_ireturn (pc := 14) rfl (by decide +kernel : decode cX12_gains 14 = .ok (.ireturn, 1))) ?_
  refine And.intro (k_aload_n (pc := 15) (by decide +kernel : decode cX12_gains 15 = .ok (.aload_n 0, 1)) rfl) ?_
  refine And.intro (k_iload_n (pc := 16) (by decide +kernel : decode cX12_gains 16 = .ok (.iload_n 1, 1)) rfl) ?_
  refine And.intro (k_iload_n (pc := 17) (by decide +kernel : decode cX12_gains 17 = .ok (.iload_n 2, 1)) rfl) ?_
  refine And.intro (k_iconst (pc := 18) (by decide +kernel : decode cX12_gains 18 = .ok (.iconst 3, 1)) (by decide)) ?_
  refine And.intro (k_cvV (n := 3) (pc := 19) hG (zRoom_self 6) (tag := 12) rfl ini_X12 im_X12_layMost se_X12_layMost mk_X12_347 dy_X12_layMost (by decide +kernel : decode cX12_gains 19 = .ok (.invokevirtual 347, 3))) ?_
  refine And.intro (k_aload_n (pc := 22) (by decide +kernel : decode cX12_gains 22 = .ok (.aload_n 0, 1)) rfl) ?_
  refine And.intro (k_gZ (pc := 23) rfl (by decide) rfl zin12 lk_X12_325 (by decide +kernel : decode cX12_gains 23 = .ok (.getfield 325, 3))) ?_
  refine And.intro (k_if_ne (pc := 26) (by decide +kernel : decode cX12_gains 26 = .ok (.ifCond .ne 6, 3)) (by decide)) ?_
  refine And.intro (k_bipush (pc := 29) (by decide +kernel : decode cX12_gains 29 = .ok (.bipush (-2), 2)) (by decide)) ?_
  refine And.intro (k_ireturn (pc := 31) rfl (by decide +kernel : decode cX12_gains 31 = .ok (.ireturn, 1))) ?_
  refine And.intro (k_aload_n (pc := 32) (by decide +kernel : decode cX12_gains 32 = .ok (.aload_n 0, 1)) rfl) ?_
  refine And.intro (k_gJ (pc := 33) rfl (by decide) rfl zin12 lk_X12_328 (by decide +kernel : decode cX12_gains 33 = .ok (.getfield 328, 3))) ?_
  refine And.intro (k_lstore_n (pc := 36) (by decide +kernel : decode cX12_gains 36 = .ok (.lstore_n 3, 1)) rfl) ?_
  refine And.intro (k_aload_n (pc := 37) (by decide +kernel : decode cX12_gains 37 = .ok (.aload_n 0, 1)) rfl) ?_
  refine And.intro (k_iload_n (pc := 38) (by decide +kernel : decode cX12_gains 38 = .ok (.iload_n 1, 1)) rfl) ?_
  refine And.intro (k_iload_n (pc := 39) (by decide +kernel : decode cX12_gains 39 = .ok (.iload_n 2, 1)) rfl) ?_
  refine And.intro (k_iconst (pc := 40) (by decide +kernel : decode cX12_gains 40 = .ok (.iconst 1, 1)) (by decide)) ?_
  refine And.intro (k_cvV (n := 3) (pc := 41) hG (zRoom_self 6) (tag := 12) rfl ini_X12 im_X12_layMost se_X12_layMost mk_X12_347 dy_X12_layMost (by decide +kernel : decode cX12_gains 41 = .ok (.invokevirtual 347, 3))) ?_
  refine And.intro (k_aload_n (pc := 44) (by decide +kernel : decode cX12_gains 44 = .ok (.aload_n 0, 1)) rfl) ?_
  refine And.intro (k_gJ (pc := 45) rfl (by decide) rfl zin12 lk_X12_328 (by decide +kernel : decode cX12_gains 45 = .ok (.getfield 328, 3))) ?_
  refine And.intro (k_lstore (pc := 48) (by decide +kernel : decode cX12_gains 48 = .ok (.lstore 5, 2))) ?_
  refine And.intro (k_aload_n (pc := 50) (by decide +kernel : decode cX12_gains 50 = .ok (.aload_n 0, 1)) rfl) ?_
  refine And.intro (k_gJ (pc := 51) rfl (by decide) rfl zin12 lk_X12_331 (by decide +kernel : decode cX12_gains 51 = .ok (.getfield 331, 3))) ?_
  refine And.intro (k_lstore (pc := 54) (by decide +kernel : decode cX12_gains 54 = .ok (.lstore 7, 2))) ?_
  refine And.intro (k_aload_n (pc := 56) (by decide +kernel : decode cX12_gains 56 = .ok (.aload_n 0, 1)) rfl) ?_
  refine And.intro (k_iload_n (pc := 57) (by decide +kernel : decode cX12_gains 57 = .ok (.iload_n 1, 1)) rfl) ?_
  refine And.intro (k_iload_n (pc := 58) (by decide +kernel : decode cX12_gains 58 = .ok (.iload_n 2, 1)) rfl) ?_
  refine And.intro (k_iconst (pc := 59) (by decide +kernel : decode cX12_gains 59 = .ok (.iconst 2, 1)) (by decide)) ?_
  refine And.intro (k_cvV (n := 3) (pc := 60) hG (zRoom_self 6) (tag := 12) rfl ini_X12 im_X12_layMost se_X12_layMost mk_X12_347 dy_X12_layMost (by decide +kernel : decode cX12_gains 60 = .ok (.invokevirtual 347, 3))) ?_
  refine And.intro (k_aload_n (pc := 63) (by decide +kernel : decode cX12_gains 63 = .ok (.aload_n 0, 1)) rfl) ?_
  refine And.intro (k_gJ (pc := 64) rfl (by decide) rfl zin12 lk_X12_328 (by decide +kernel : decode cX12_gains 64 = .ok (.getfield 328, 3))) ?_
  refine And.intro (k_aload_n (pc := 67) (by decide +kernel : decode cX12_gains 67 = .ok (.aload_n 0, 1)) rfl) ?_
  refine And.intro (k_gJ (pc := 68) rfl (by decide) rfl zin12 lk_X12_331 (by decide +kernel : decode cX12_gains 68 = .ok (.getfield 331, 3))) ?_
  refine And.intro (k_lload (pc := 71) (by decide +kernel : decode cX12_gains 71 = .ok (.lload 5, 2))) ?_
  refine And.intro (k_lload (pc := 73) (by decide +kernel : decode cX12_gains 73 = .ok (.lload 7, 2))) ?_
  refine And.intro (k_crS (n := 4) (pc := 75) hG (zRoom_self 6) ini_X12 sta_X12_isLess mk_X12_188 dy_X12_isLess (by decide +kernel : decode cX12_gains 75 = .ok (.invokestatic 188, 3))) ?_
  refine And.intro (k_if_eq (pc := 78) (by decide +kernel : decode cX12_gains 78 = .ok (.ifCond .eq 7, 3)) (by decide)) ?_
  refine And.intro (k_iconst (pc := 81) (by decide +kernel : decode cX12_gains 81 = .ok (.iconst 1, 1)) (by decide)) ?_
  refine And.intro (k_goto (pc := 82) (by decide +kernel : decode cX12_gains 82 = .ok (.goto 4, 3)) (by decide)) ?_
  refine And.intro (k_iconst (pc := 85) (by decide +kernel : decode cX12_gains 85 = .ok (.iconst 0, 1)) (by decide)) ?_
  refine And.intro (k_istore (pc := 86) (by decide +kernel : decode cX12_gains 86 = .ok (.istore 9, 2))) ?_
  refine And.intro (k_iload (pc := 88) (by decide +kernel : decode cX12_gains 88 = .ok (.iload 9, 2))) ?_
  refine And.intro (k_iconst (pc := 90) (by decide +kernel : decode cX12_gains 90 = .ok (.iconst 1, 1)) (by decide)) ?_
  refine And.intro (k_icmp_ne (pc := 91) (by decide +kernel : decode cX12_gains 91 = .ok (.if_icmp .ne 10, 3)) (by decide)) ?_
  refine And.intro (k_aload_n (pc := 94) (by decide +kernel : decode cX12_gains 94 = .ok (.aload_n 0, 1)) rfl) ?_
  refine And.intro (k_gJ (pc := 95) rfl (by decide) rfl zin12 lk_X12_328 (by decide +kernel : decode cX12_gains 95 = .ok (.getfield 328, 3))) ?_
  refine And.intro (k_goto (pc := 98) (by decide +kernel : decode cX12_gains 98 = .ok (.goto 5, 3)) (by decide)) ?_
  refine And.intro (k_lload (pc := 101) (by decide +kernel : decode cX12_gains 101 = .ok (.lload 5, 2))) ?_
  refine And.intro (k_lstore (pc := 103) (by decide +kernel : decode cX12_gains 103 = .ok (.lstore 10, 2))) ?_
  refine And.intro (k_iload (pc := 105) (by decide +kernel : decode cX12_gains 105 = .ok (.iload 9, 2))) ?_
  refine And.intro (k_iconst (pc := 107) (by decide +kernel : decode cX12_gains 107 = .ok (.iconst 1, 1)) (by decide)) ?_
  refine And.intro (k_icmp_ne (pc := 108) (by decide +kernel : decode cX12_gains 108 = .ok (.if_icmp .ne 10, 3)) (by decide)) ?_
  refine And.intro (k_aload_n (pc := 111) (by decide +kernel : decode cX12_gains 111 = .ok (.aload_n 0, 1)) rfl) ?_
  refine And.intro (k_gJ (pc := 112) rfl (by decide) rfl zin12 lk_X12_331 (by decide +kernel : decode cX12_gains 112 = .ok (.getfield 331, 3))) ?_
  refine And.intro (k_goto (pc := 115) (by decide +kernel : decode cX12_gains 115 = .ok (.goto 5, 3)) (by decide)) ?_
  refine And.intro (k_lload (pc := 118) (by decide +kernel : decode cX12_gains 118 = .ok (.lload 7, 2))) ?_
  refine And.intro (k_lstore (pc := 120) (by decide +kernel : decode cX12_gains 120 = .ok (.lstore 12, 2))) ?_
  refine And.intro (k_aload_n (pc := 122) (by decide +kernel : decode cX12_gains 122 = .ok (.aload_n 0, 1)) rfl) ?_
  refine And.intro (k_iload_n (pc := 123) (by decide +kernel : decode cX12_gains 123 = .ok (.iload_n 1, 1)) rfl) ?_
  refine And.intro (k_iload_n (pc := 124) (by decide +kernel : decode cX12_gains 124 = .ok (.iload_n 2, 1)) rfl) ?_
  refine And.intro (k_iconst (pc := 125) (by decide +kernel : decode cX12_gains 125 = .ok (.iconst 0, 1)) (by decide)) ?_
  refine And.intro (k_cvV (n := 3) (pc := 126) hG (zRoom_self 6) (tag := 12) rfl ini_X12 im_X12_layMost se_X12_layMost mk_X12_347 dy_X12_layMost (by decide +kernel : decode cX12_gains 126 = .ok (.invokevirtual 347, 3))) ?_
  refine And.intro (k_aload_n (pc := 129) (by decide +kernel : decode cX12_gains 129 = .ok (.aload_n 0, 1)) rfl) ?_
  refine And.intro (k_iconst (pc := 130) (by decide +kernel : decode cX12_gains 130 = .ok (.iconst 0, 1)) (by decide)) ?_
  refine And.intro (k_pI (pc := 131) rfl (by decide) rfl zin12 lk_X12_59 tyX12_ok nmX12 rfl (by decide +kernel) (by decide +kernel : decode cX12_gains 131 = .ok (.putfield 59, 3))) ?_
  refine And.intro (k_aload_n (pc := 134) (by decide +kernel : decode cX12_gains 134 = .ok (.aload_n 0, 1)) rfl) ?_
  refine And.intro (k_aload_n (pc := 135) (by decide +kernel : decode cX12_gains 135 = .ok (.aload_n 0, 1)) rfl) ?_
  refine And.intro (k_gJ (pc := 136) rfl (by decide) rfl zin12 lk_X12_328 (by decide +kernel : decode cX12_gains 136 = .ok (.getfield 328, 3))) ?_
  refine And.intro (k_lload (pc := 139) (by decide +kernel : decode cX12_gains 139 = .ok (.lload 12, 2))) ?_
  refine And.intro (k_lmul (pc := 141) (by decide +kernel : decode cX12_gains 141 = .ok (.lmul, 1))) ?_
  refine And.intro (k_lload (pc := 142) (by decide +kernel : decode cX12_gains 142 = .ok (.lload 10, 2))) ?_
  refine And.intro (k_aload_n (pc := 144) (by decide +kernel : decode cX12_gains 144 = .ok (.aload_n 0, 1)) rfl) ?_
  refine And.intro (k_gJ (pc := 145) rfl (by decide) rfl zin12 lk_X12_331 (by decide +kernel : decode cX12_gains 145 = .ok (.getfield 331, 3))) ?_
  refine And.intro (k_lmul (pc := 148) (by decide +kernel : decode cX12_gains 148 = .ok (.lmul, 1))) ?_
  refine And.intro (k_lsub (pc := 149) (by decide +kernel : decode cX12_gains 149 = .ok (.lsub, 1))) ?_
  refine And.intro (k_aload_n (pc := 150) (by decide +kernel : decode cX12_gains 150 = .ok (.aload_n 0, 1)) rfl) ?_
  refine And.intro (k_gJ (pc := 151) rfl (by decide) rfl zin12 lk_X12_331 (by decide +kernel : decode cX12_gains 151 = .ok (.getfield 331, 3))) ?_
  refine And.intro (k_lload (pc := 154) (by decide +kernel : decode cX12_gains 154 = .ok (.lload 12, 2))) ?_
  refine And.intro (k_lmul (pc := 156) (by decide +kernel : decode cX12_gains 156 = .ok (.lmul, 1))) ?_
  refine And.intro (k_cvV (n := 2) (pc := 157) hG (zRoom_self 6) (tag := 12) rfl ini_X12 im_X12_tellFraction se_X12_tellFraction mk_X12_250 dy_X12_tellFraction (by decide +kernel : decode cX12_gains 157 = .ok (.invokevirtual 250, 3))) ?_
  refine And.intro (k_aload_n (pc := 160) (by decide +kernel : decode cX12_gains 160 = .ok (.aload_n 0, 1)) rfl) ?_
  refine And.intro (k_aload_n (pc := 161) (by decide +kernel : decode cX12_gains 161 = .ok (.aload_n 0, 1)) rfl) ?_
  refine And.intro (k_gJ (pc := 162) rfl (by decide) rfl zin12 lk_X12_328 (by decide +kernel : decode cX12_gains 162 = .ok (.getfield 328, 3))) ?_
  refine And.intro (k_lload_n (pc := 165) (by decide +kernel : decode cX12_gains 165 = .ok (.lload_n 3, 1)) rfl) ?_
  refine And.intro (k_aload_n (pc := 166) (by decide +kernel : decode cX12_gains 166 = .ok (.aload_n 0, 1)) rfl) ?_
  refine And.intro (k_gJ (pc := 167) rfl (by decide) rfl zin12 lk_X12_331 (by decide +kernel : decode cX12_gains 167 = .ok (.getfield 331, 3))) ?_
  refine And.intro (k_lmul (pc := 170) (by decide +kernel : decode cX12_gains 170 = .ok (.lmul, 1))) ?_
  refine And.intro (k_lsub (pc := 171) (by decide +kernel : decode cX12_gains 171 = .ok (.lsub, 1))) ?_
  refine And.intro (k_aload_n (pc := 172) (by decide +kernel : decode cX12_gains 172 = .ok (.aload_n 0, 1)) rfl) ?_
  refine And.intro (k_gJ (pc := 173) rfl (by decide) rfl zin12 lk_X12_331 (by decide +kernel : decode cX12_gains 173 = .ok (.getfield 331, 3))) ?_
  refine And.intro (k_cvV (n := 2) (pc := 176) hG (zRoom_self 6) (tag := 12) rfl ini_X12 im_X12_tellFraction se_X12_tellFraction mk_X12_250 dy_X12_tellFraction (by decide +kernel : decode cX12_gains 176 = .ok (.invokevirtual 250, 3))) ?_
  refine And.intro (k_iload (pc := 179) (by decide +kernel : decode cX12_gains 179 = .ok (.iload 9, 2))) ?_
  refine And.intro (k_ireturn (pc := 181) rfl (by decide +kernel : decode cX12_gains 181 = .ok (.ireturn, 1))) ?_
  exact trivial
theorem cdX12_gains : Cond.code yX12_gains cX12_gains 14 (some .int) ∈ zWs := zWs_in 1569 (by decide +kernel) rfl
noncomputable def pgX12_loses : zPg := [(0, o_al 0), (1, o_ic (0)), (2, o_pI 12 5), (5, o_il 1), (6, o_il 2), (7, o_il 3), (8, o_cr yX12_canBe 3), (11, o_if_ne 16), (14, o_ic (-1)), (15, o_ir), (16, o_al 0), (17, o_vv yX12_layWholes 12 1), (20, o_ic (0)), (21, o_is 4), (23, o_ic (0)), (24, o_is 5), (26, o_il 5), (28, o_al 0), (29, o_gI 12 29), (32, o_ic_ge 80), (35, o_il 4), (37, o_il 1), (38, o_al 0), (39, o_gR 12 28), (42, o_ic (2)), (43, o_il 5), (45, o_imul), (46, o_xI 14), (47, o_imul), (48, o_il 2), (49, o_al 0), (50, o_gR 12 28), (53, o_ic (2)), (54, o_il 5), (56, o_imul), (57, o_ic (1)), (58, o_iadd), (59, o_xI 14), (60, o_imul), (61, o_iadd), (62, o_il 3), (63, o_ic_le 70), (66, o_ic (1)), (67, o_go 71), (70, o_ic (0)), (71, o_iadd), (72, o_is 4), (74, o_inc 5 (1)), (77, o_go 26), (80, o_al 0), (81, o_ic (0)), (82, o_pI 12 4), (85, o_al 0), (86, o_al 0), (87, o_gI 12 29), (90, o_il 4), (92, o_isub), (93, o_i2l), (94, o_vv yX12_tell 12 2), (97, o_il 4), (99, o_ir)]
set_option maxRecDepth 20000 in
theorem pkX12_loses {G : zG} (hG : zGok G) (Q : zRt) : zPOK G (zRm 5) RX12 cX12_loses 6 (some .int) (zF G Q 0 0) 0 0 (zCalls G 5) Q pgX12_loses := by
  refine And.intro (k_aload_n (pc := 0) (by decide +kernel : decode cX12_loses 0 = .ok (.aload_n 0, 1)) rfl) ?_
  refine And.intro (k_iconst (pc := 1) (by decide +kernel : decode cX12_loses 1 = .ok (.iconst 0, 1)) (by decide)) ?_
  refine And.intro (k_pI (pc := 2) rfl (by decide) rfl zin12 lk_X12_55 tyX12_ok nmX12 rfl (by decide +kernel) (by decide +kernel : decode cX12_loses 2 = .ok (.putfield 55, 3))) ?_
  refine And.intro (k_iload_n (pc := 5) (by decide +kernel : decode cX12_loses 5 = .ok (.iload_n 1, 1)) rfl) ?_
  refine And.intro (k_iload_n (pc := 6) (by decide +kernel : decode cX12_loses 6 = .ok (.iload_n 2, 1)) rfl) ?_
  refine And.intro (k_iload_n (pc := 7) (by decide +kernel : decode cX12_loses 7 = .ok (.iload_n 3, 1)) rfl) ?_
  refine And.intro (k_crS (n := 3) (pc := 8) hG (zRoom_self 5) ini_X12 sta_X12_canBe mk_X12_136 dy_X12_canBe (by decide +kernel : decode cX12_loses 8 = .ok (.invokestatic 136, 3))) ?_
  refine And.intro (k_if_ne (pc := 11) (by decide +kernel : decode cX12_loses 11 = .ok (.ifCond .ne 5, 3)) (by decide)) ?_
  refine And.intro (k_iconst (pc := 14) (by decide +kernel : decode cX12_loses 14 = .ok (.iconst (-1), 1)) (by decide)) ?_
  refine And.intro (k_ireturn (pc := 15) rfl (by decide +kernel : decode cX12_loses 15 = .ok (.ireturn, 1))) ?_
  refine And.intro (k_aload_n (pc := 16) (by decide +kernel : decode cX12_loses 16 = .ok (.aload_n 0, 1)) rfl) ?_
  refine And.intro (k_cvV (n := 0) (pc := 17) hG (zRoom_self 5) (tag := 12) rfl ini_X12 im_X12_layWholes se_X12_layWholes mk_X12_309 dy_X12_layWholes (by decide +kernel : decode cX12_loses 17 = .ok (.invokevirtual 309, 3))) ?_
  refine And.intro (k_iconst (pc := 20) (by decide +kernel : decode cX12_loses 20 = .ok (.iconst 0, 1)) (by decide)) ?_
  refine And.intro (k_istore (pc := 21) (by decide +kernel : decode cX12_loses 21 = .ok (.istore 4, 2))) ?_
  refine And.intro (k_iconst (pc := 23) (by decide +kernel : decode cX12_loses 23 = .ok (.iconst 0, 1)) (by decide)) ?_
  refine And.intro (k_istore (pc := 24) (by decide +kernel : decode cX12_loses 24 = .ok (.istore 5, 2))) ?_
  refine And.intro (k_iload (pc := 26) (by decide +kernel : decode cX12_loses 26 = .ok (.iload 5, 2))) ?_
  refine And.intro (k_aload_n (pc := 28) (by decide +kernel : decode cX12_loses 28 = .ok (.aload_n 0, 1)) rfl) ?_
  refine And.intro (k_gI (pc := 29) rfl (by decide) rfl zin12 lk_X12_306 (by decide +kernel : decode cX12_loses 29 = .ok (.getfield 306, 3))) ?_
  refine And.intro (k_icmp_ge (pc := 32) (by decide +kernel : decode cX12_loses 32 = .ok (.if_icmp .ge 48, 3)) (by decide)) ?_
  refine And.intro (k_iload (pc := 35) (by decide +kernel : decode cX12_loses 35 = .ok (.iload 4, 2))) ?_
  refine And.intro (k_iload_n (pc := 37) (by decide +kernel : decode cX12_loses 37 = .ok (.iload_n 1, 1)) rfl) ?_
  refine And.intro (k_aload_n (pc := 38) (by decide +kernel : decode cX12_loses 38 = .ok (.aload_n 0, 1)) rfl) ?_
  refine And.intro (k_gR (pc := 39) rfl (by decide) rfl zin12 lk_X12_43 (by decide +kernel : decode cX12_loses 39 = .ok (.getfield 43, 3))) ?_
  refine And.intro (k_iconst (pc := 42) (by decide +kernel : decode cX12_loses 42 = .ok (.iconst 2, 1)) (by decide)) ?_
  refine And.intro (k_iload (pc := 43) (by decide +kernel : decode cX12_loses 43 = .ok (.iload 5, 2))) ?_
  refine And.intro (k_imul (pc := 45) (by decide +kernel : decode cX12_loses 45 = .ok (.imul, 1))) ?_
  refine And.intro (k_iald (pc := 46) (by decide +kernel : decode cX12_loses 46 = .ok (.iaload, 1))) ?_
  refine And.intro (k_imul (pc := 47) (by decide +kernel : decode cX12_loses 47 = .ok (.imul, 1))) ?_
  refine And.intro (k_iload_n (pc := 48) (by decide +kernel : decode cX12_loses 48 = .ok (.iload_n 2, 1)) rfl) ?_
  refine And.intro (k_aload_n (pc := 49) (by decide +kernel : decode cX12_loses 49 = .ok (.aload_n 0, 1)) rfl) ?_
  refine And.intro (k_gR (pc := 50) rfl (by decide) rfl zin12 lk_X12_43 (by decide +kernel : decode cX12_loses 50 = .ok (.getfield 43, 3))) ?_
  refine And.intro (k_iconst (pc := 53) (by decide +kernel : decode cX12_loses 53 = .ok (.iconst 2, 1)) (by decide)) ?_
  refine And.intro (k_iload (pc := 54) (by decide +kernel : decode cX12_loses 54 = .ok (.iload 5, 2))) ?_
  refine And.intro (k_imul (pc := 56) (by decide +kernel : decode cX12_loses 56 = .ok (.imul, 1))) ?_
  refine And.intro (k_iconst (pc := 57) (by decide +kernel : decode cX12_loses 57 = .ok (.iconst 1, 1)) (by decide)) ?_
  refine And.intro (k_iadd (pc := 58) (by decide +kernel : decode cX12_loses 58 = .ok (.iadd, 1))) ?_
  refine And.intro (k_iald (pc := 59) (by decide +kernel : decode cX12_loses 59 = .ok (.iaload, 1))) ?_
  refine And.intro (k_imul (pc := 60) (by decide +kernel : decode cX12_loses 60 = .ok (.imul, 1))) ?_
  refine And.intro (k_iadd (pc := 61) (by decide +kernel : decode cX12_loses 61 = .ok (.iadd, 1))) ?_
  refine And.intro (k_iload_n (pc := 62) (by decide +kernel : decode cX12_loses 62 = .ok (.iload_n 3, 1)) rfl) ?_
  refine And.intro (k_icmp_le (pc := 63) (by decide +kernel : decode cX12_loses 63 = .ok (.if_icmp .le 7, 3)) (by decide)) ?_
  refine And.intro (k_iconst (pc := 66) (by decide +kernel : decode cX12_loses 66 = .ok (.iconst 1, 1)) (by decide)) ?_
  refine And.intro (k_goto (pc := 67) (by decide +kernel : decode cX12_loses 67 = .ok (.goto 4, 3)) (by decide)) ?_
  refine And.intro (k_iconst (pc := 70) (by decide +kernel : decode cX12_loses 70 = .ok (.iconst 0, 1)) (by decide)) ?_
  refine And.intro (k_iadd (pc := 71) (by decide +kernel : decode cX12_loses 71 = .ok (.iadd, 1))) ?_
  refine And.intro (k_istore (pc := 72) (by decide +kernel : decode cX12_loses 72 = .ok (.istore 4, 2))) ?_
  refine And.intro (k_iinc (pc := 74) (by decide +kernel : decode cX12_loses 74 = .ok (.iinc 5 1, 3)) (by decide)) ?_
  refine And.intro (k_goto (pc := 77) (by decide +kernel : decode cX12_loses 77 = .ok (.goto (-51), 3)) (by decide)) ?_
  refine And.intro (k_aload_n (pc := 80) (by decide +kernel : decode cX12_loses 80 = .ok (.aload_n 0, 1)) rfl) ?_
  refine And.intro (k_iconst (pc := 81) (by decide +kernel : decode cX12_loses 81 = .ok (.iconst 0, 1)) (by decide)) ?_
  refine And.intro (k_pI (pc := 82) rfl (by decide) rfl zin12 lk_X12_59 tyX12_ok nmX12 rfl (by decide +kernel) (by decide +kernel : decode cX12_loses 82 = .ok (.putfield 59, 3))) ?_
  refine And.intro (k_aload_n (pc := 85) (by decide +kernel : decode cX12_loses 85 = .ok (.aload_n 0, 1)) rfl) ?_
  refine And.intro (k_aload_n (pc := 86) (by decide +kernel : decode cX12_loses 86 = .ok (.aload_n 0, 1)) rfl) ?_
  refine And.intro (k_gI (pc := 87) rfl (by decide) rfl zin12 lk_X12_306 (by decide +kernel : decode cX12_loses 87 = .ok (.getfield 306, 3))) ?_
  refine And.intro (k_iload (pc := 90) (by decide +kernel : decode cX12_loses 90 = .ok (.iload 4, 2))) ?_
  refine And.intro (k_isub (pc := 92) (by decide +kernel : decode cX12_loses 92 = .ok (.isub, 1))) ?_
  refine And.intro (k_i2l (pc := 93) (by decide +kernel : decode cX12_loses 93 = .ok (.i2l, 1))) ?_
  refine And.intro (k_cvV (n := 1) (pc := 94) hG (zRoom_self 5) (tag := 12) rfl ini_X12 im_X12_tell se_X12_tell mk_X12_80 dy_X12_tell (by decide +kernel : decode cX12_loses 94 = .ok (.invokevirtual 80, 3))) ?_
  refine And.intro (k_iload (pc := 97) (by decide +kernel : decode cX12_loses 97 = .ok (.iload 4, 2))) ?_
  refine And.intro (k_ireturn (pc := 99) rfl (by decide +kernel : decode cX12_loses 99 = .ok (.ireturn, 1))) ?_
  exact trivial
theorem cdX12_loses : Cond.code yX12_loses cX12_loses 6 (some .int) ∈ zWs := zWs_in 1573 (by decide +kernel) rfl
noncomputable def pgX12_wholesWithout : zPg := [(0, o_ic (0)), (1, o_is 2), (2, o_ic (0)), (3, o_is 3), (4, o_il 3), (5, o_ic (6)), (7, o_ic_gt 114), (10, o_ic (0)), (11, o_is 4), (13, o_il 4), (15, o_ic (6)), (17, o_ic_gt 108), (20, o_ic (1)), (21, o_is 5), (23, o_ic (0)), (24, o_is 6), (26, o_il 6), (28, o_al 0), (29, o_vr2 yX12_lines 12 1), (32, o_ic_ge 89), (35, o_il 5), (37, o_if_eq 80), (40, o_il 6), (42, o_il 1), (43, o_ic_eq 76), (46, o_al 0), (47, o_il 6), (49, o_ic (0)), (50, o_vr2 yX12_of 12 3), (53, o_il 3), (54, o_imul), (55, o_al 0), (56, o_il 6), (58, o_ic (1)), (59, o_vr2 yX12_of 12 3), (62, o_il 4), (64, o_imul), (65, o_iadd), (66, o_al 0), (67, o_il 6), (69, o_ic (2)), (70, o_vr2 yX12_of 12 3), (73, o_ic_gt 80), (76, o_ic (1)), (77, o_go 81), (80, o_ic (0)), (81, o_is 5), (83, o_inc 6 (1)), (86, o_go 26), (89, o_il 2), (90, o_il 5), (92, o_if_eq 99), (95, o_ic (1)), (96, o_go 100), (99, o_ic (0)), (100, o_iadd), (101, o_is 2), (102, o_inc 4 (1)), (105, o_go 13), (108, o_inc 3 (1)), (111, o_go 4), (114, o_il 2), (115, o_ir)]
set_option maxRecDepth 20000 in
theorem pkX12_wholesWithout {G : zG} (hG : zGok G) (Q : zRt) : zPOK G (zRm 1) RX12 cX12_wholesWithout 7 (some .int) (zF G Q 0 0) 0 0 (zCalls G 1) Q pgX12_wholesWithout := by
  refine And.intro (k_iconst (pc := 0) (by decide +kernel : decode cX12_wholesWithout 0 = .ok (.iconst 0, 1)) (by decide)) ?_
  refine And.intro (k_istore_n (pc := 1) (by decide +kernel : decode cX12_wholesWithout 1 = .ok (.istore_n 2, 1)) rfl) ?_
  refine And.intro (k_iconst (pc := 2) (by decide +kernel : decode cX12_wholesWithout 2 = .ok (.iconst 0, 1)) (by decide)) ?_
  refine And.intro (k_istore_n (pc := 3) (by decide +kernel : decode cX12_wholesWithout 3 = .ok (.istore_n 3, 1)) rfl) ?_
  refine And.intro (k_iload_n (pc := 4) (by decide +kernel : decode cX12_wholesWithout 4 = .ok (.iload_n 3, 1)) rfl) ?_
  refine And.intro (k_bipush (pc := 5) (by decide +kernel : decode cX12_wholesWithout 5 = .ok (.bipush 6, 2)) (by decide)) ?_
  refine And.intro (k_icmp_gt (pc := 7) (by decide +kernel : decode cX12_wholesWithout 7 = .ok (.if_icmp .gt 107, 3)) (by decide)) ?_
  refine And.intro (k_iconst (pc := 10) (by decide +kernel : decode cX12_wholesWithout 10 = .ok (.iconst 0, 1)) (by decide)) ?_
  refine And.intro (k_istore (pc := 11) (by decide +kernel : decode cX12_wholesWithout 11 = .ok (.istore 4, 2))) ?_
  refine And.intro (k_iload (pc := 13) (by decide +kernel : decode cX12_wholesWithout 13 = .ok (.iload 4, 2))) ?_
  refine And.intro (k_bipush (pc := 15) (by decide +kernel : decode cX12_wholesWithout 15 = .ok (.bipush 6, 2)) (by decide)) ?_
  refine And.intro (k_icmp_gt (pc := 17) (by decide +kernel : decode cX12_wholesWithout 17 = .ok (.if_icmp .gt 91, 3)) (by decide)) ?_
  refine And.intro (k_iconst (pc := 20) (by decide +kernel : decode cX12_wholesWithout 20 = .ok (.iconst 1, 1)) (by decide)) ?_
  refine And.intro (k_istore (pc := 21) (by decide +kernel : decode cX12_wholesWithout 21 = .ok (.istore 5, 2))) ?_
  refine And.intro (k_iconst (pc := 23) (by decide +kernel : decode cX12_wholesWithout 23 = .ok (.iconst 0, 1)) (by decide)) ?_
  refine And.intro (k_istore (pc := 24) (by decide +kernel : decode cX12_wholesWithout 24 = .ok (.istore 6, 2))) ?_
  refine And.intro (k_iload (pc := 26) (by decide +kernel : decode cX12_wholesWithout 26 = .ok (.iload 6, 2))) ?_
  refine And.intro (k_aload_n (pc := 28) (by decide +kernel : decode cX12_wholesWithout 28 = .ok (.aload_n 0, 1)) rfl) ?_
  refine And.intro (k_crV (n := 0) (pc := 29) hG (zRoom_self 1) (tag := 12) rfl ini_X12 im_X12_lines se_X12_lines mk_X12_142 dy_X12_lines (by decide +kernel : decode cX12_wholesWithout 29 = .ok (.invokevirtual 142, 3))) ?_
  refine And.intro (k_icmp_ge (pc := 32) (by decide +kernel : decode cX12_wholesWithout 32 = .ok (.if_icmp .ge 57, 3)) (by decide)) ?_
  refine And.intro (k_iload (pc := 35) (by decide +kernel : decode cX12_wholesWithout 35 = .ok (.iload 5, 2))) ?_
  refine And.intro (k_if_eq (pc := 37) (by decide +kernel : decode cX12_wholesWithout 37 = .ok (.ifCond .eq 43, 3)) (by decide)) ?_
  refine And.intro (k_iload (pc := 40) (by decide +kernel : decode cX12_wholesWithout 40 = .ok (.iload 6, 2))) ?_
  refine And.intro (k_iload_n (pc := 42) (by decide +kernel : decode cX12_wholesWithout 42 = .ok (.iload_n 1, 1)) rfl) ?_
  refine And.intro (k_icmp_eq (pc := 43) (by decide +kernel : decode cX12_wholesWithout 43 = .ok (.if_icmp .eq 33, 3)) (by decide)) ?_
  refine And.intro (k_aload_n (pc := 46) (by decide +kernel : decode cX12_wholesWithout 46 = .ok (.aload_n 0, 1)) rfl) ?_
  refine And.intro (k_iload (pc := 47) (by decide +kernel : decode cX12_wholesWithout 47 = .ok (.iload 6, 2))) ?_
  refine And.intro (k_iconst (pc := 49) (by decide +kernel : decode cX12_wholesWithout 49 = .ok (.iconst 0, 1)) (by decide)) ?_
  refine And.intro (k_crV (n := 2) (pc := 50) hG (zRoom_self 1) (tag := 12) rfl ini_X12 im_X12_of se_X12_of mk_X12_145 dy_X12_of (by decide +kernel : decode cX12_wholesWithout 50 = .ok (.invokevirtual 145, 3))) ?_
  refine And.intro (k_iload_n (pc := 53) (by decide +kernel : decode cX12_wholesWithout 53 = .ok (.iload_n 3, 1)) rfl) ?_
  refine And.intro (k_imul (pc := 54) (by decide +kernel : decode cX12_wholesWithout 54 = .ok (.imul, 1))) ?_
  refine And.intro (k_aload_n (pc := 55) (by decide +kernel : decode cX12_wholesWithout 55 = .ok (.aload_n 0, 1)) rfl) ?_
  refine And.intro (k_iload (pc := 56) (by decide +kernel : decode cX12_wholesWithout 56 = .ok (.iload 6, 2))) ?_
  refine And.intro (k_iconst (pc := 58) (by decide +kernel : decode cX12_wholesWithout 58 = .ok (.iconst 1, 1)) (by decide)) ?_
  refine And.intro (k_crV (n := 2) (pc := 59) hG (zRoom_self 1) (tag := 12) rfl ini_X12 im_X12_of se_X12_of mk_X12_145 dy_X12_of (by decide +kernel : decode cX12_wholesWithout 59 = .ok (.invokevirtual 145, 3))) ?_
  refine And.intro (k_iload (pc := 62) (by decide +kernel : decode cX12_wholesWithout 62 = .ok (.iload 4, 2))) ?_
  refine And.intro (k_imul (pc := 64) (by decide +kernel : decode cX12_wholesWithout 64 = .ok (.imul, 1))) ?_
  refine And.intro (k_iadd (pc := 65) (by decide +kernel : decode cX12_wholesWithout 65 = .ok (.iadd, 1))) ?_
  refine And.intro (k_aload_n (pc := 66) (by decide +kernel : decode cX12_wholesWithout 66 = .ok (.aload_n 0, 1)) rfl) ?_
  refine And.intro (k_iload (pc := 67) (by decide +kernel : decode cX12_wholesWithout 67 = .ok (.iload 6, 2))) ?_
  refine And.intro (k_iconst (pc := 69) (by decide +kernel : decode cX12_wholesWithout 69 = .ok (.iconst 2, 1)) (by decide)) ?_
  refine And.intro (k_crV (n := 2) (pc := 70) hG (zRoom_self 1) (tag := 12) rfl ini_X12 im_X12_of se_X12_of mk_X12_145 dy_X12_of (by decide +kernel : decode cX12_wholesWithout 70 = .ok (.invokevirtual 145, 3))) ?_
  refine And.intro (k_icmp_gt (pc := 73) (by decide +kernel : decode cX12_wholesWithout 73 = .ok (.if_icmp .gt 7, 3)) (by decide)) ?_
  refine And.intro (k_iconst (pc := 76) (by decide +kernel : decode cX12_wholesWithout 76 = .ok (.iconst 1, 1)) (by decide)) ?_
  refine And.intro (k_goto (pc := 77) (by decide +kernel : decode cX12_wholesWithout 77 = .ok (.goto 4, 3)) (by decide)) ?_
  refine And.intro (k_iconst (pc := 80) (by decide +kernel : decode cX12_wholesWithout 80 = .ok (.iconst 0, 1)) (by decide)) ?_
  refine And.intro (k_istore (pc := 81) (by decide +kernel : decode cX12_wholesWithout 81 = .ok (.istore 5, 2))) ?_
  refine And.intro (k_iinc (pc := 83) (by decide +kernel : decode cX12_wholesWithout 83 = .ok (.iinc 6 1, 3)) (by decide)) ?_
  refine And.intro (k_goto (pc := 86) (by decide +kernel : decode cX12_wholesWithout 86 = .ok (.goto (-60), 3)) (by decide)) ?_
  refine And.intro (k_iload_n (pc := 89) (by decide +kernel : decode cX12_wholesWithout 89 = .ok (.iload_n 2, 1)) rfl) ?_
  refine And.intro (k_iload (pc := 90) (by decide +kernel : decode cX12_wholesWithout 90 = .ok (.iload 5, 2))) ?_
  refine And.intro (k_if_eq (pc := 92) (by decide +kernel : decode cX12_wholesWithout 92 = .ok (.ifCond .eq 7, 3)) (by decide)) ?_
  refine And.intro (k_iconst (pc := 95) (by decide +kernel : decode cX12_wholesWithout 95 = .ok (.iconst 1, 1)) (by decide)) ?_
  refine And.intro (k_goto (pc := 96) (by decide +kernel : decode cX12_wholesWithout 96 = .ok (.goto 4, 3)) (by decide)) ?_
  refine And.intro (k_iconst (pc := 99) (by decide +kernel : decode cX12_wholesWithout 99 = .ok (.iconst 0, 1)) (by decide)) ?_
  refine And.intro (k_iadd (pc := 100) (by decide +kernel : decode cX12_wholesWithout 100 = .ok (.iadd, 1))) ?_
  refine And.intro (k_istore_n (pc := 101) (by decide +kernel : decode cX12_wholesWithout 101 = .ok (.istore_n 2, 1)) rfl) ?_
  refine And.intro (k_iinc (pc := 102) (by decide +kernel : decode cX12_wholesWithout 102 = .ok (.iinc 4 1, 3)) (by decide)) ?_
  refine And.intro (k_goto (pc := 105) (by decide +kernel : decode cX12_wholesWithout 105 = .ok (.goto (-92), 3)) (by decide)) ?_
  refine And.intro (k_iinc (pc := 108) (by decide +kernel : decode cX12_wholesWithout 108 = .ok (.iinc 3 1, 3)) (by decide)) ?_
  refine And.intro (k_goto (pc := 111) (by decide +kernel : decode cX12_wholesWithout 111 = .ok (.goto (-107), 3)) (by decide)) ?_
  refine And.intro (k_iload_n (pc := 114) (by decide +kernel : decode cX12_wholesWithout 114 = .ok (.iload_n 2, 1)) rfl) ?_
  refine And.intro (k_ireturn (pc := 115) rfl (by decide +kernel : decode cX12_wholesWithout 115 = .ok (.ireturn, 1))) ?_
  exact trivial
theorem cdX12_wholesWithout : Cond.code yX12_wholesWithout cX12_wholesWithout 7 (some .int) ∈ zWs := zWs_in 1581 (by decide +kernel) rfl
noncomputable def pgX12_tightest : zPg := [(0, o_al 0), (1, o_ic (0)), (2, o_pI 12 5), (5, o_ic (-1)), (6, o_is 1), (7, o_ic (0)), (8, o_is 2), (9, o_ic (0)), (10, o_is 3), (11, o_il 3), (12, o_al 0), (13, o_gR 12 0), (16, o_ic (0)), (17, o_xI 14), (18, o_ic_ge 53), (21, o_al 0), (22, o_il 3), (23, o_vr2 yX12_wholesWithout 12 2), (26, o_is 4), (28, o_il 1), (29, o_ic (-1)), (30, o_ic_eq 42), (33, o_il 4), (35, o_il 2), (36, o_ic_gt 42), (39, o_go 47), (42, o_il 3), (43, o_is 1), (44, o_il 4), (46, o_is 2), (47, o_inc 3 (1)), (50, o_go 11), (53, o_il 1), (54, o_ic (-1)), (55, o_ic_ne 61), (58, o_ic (-2)), (60, o_ir), (61, o_al 0), (62, o_ic (0)), (63, o_pI 12 4), (66, o_al 0), (67, o_il 2), (68, o_i2l), (69, o_vv yX12_tell 12 2), (72, o_il 1), (73, o_ir)]
set_option maxRecDepth 20000 in
theorem pkX12_tightest {G : zG} (hG : zGok G) (Q : zRt) : zPOK G (zRm 2) RX12 cX12_tightest 5 (some .int) (zF G Q 0 0) 0 0 (zCalls G 2) Q pgX12_tightest := by
  refine And.intro (k_aload_n (pc := 0) (by decide +kernel : decode cX12_tightest 0 = .ok (.aload_n 0, 1)) rfl) ?_
  refine And.intro (k_iconst (pc := 1) (by decide +kernel : decode cX12_tightest 1 = .ok (.iconst 0, 1)) (by decide)) ?_
  refine And.intro (k_pI (pc := 2) rfl (by decide) rfl zin12 lk_X12_55 tyX12_ok nmX12 rfl (by decide +kernel) (by decide +kernel : decode cX12_tightest 2 = .ok (.putfield 55, 3))) ?_
  refine And.intro (k_iconst (pc := 5) (by decide +kernel : decode cX12_tightest 5 = .ok (.iconst (-1), 1)) (by decide)) ?_
  refine And.intro (k_istore_n (pc := 6) (by decide +kernel : decode cX12_tightest 6 = .ok (.istore_n 1, 1)) rfl) ?_
  refine And.intro (k_iconst (pc := 7) (by decide +kernel : decode cX12_tightest 7 = .ok (.iconst 0, 1)) (by decide)) ?_
  refine And.intro (k_istore_n (pc := 8) (by decide +kernel : decode cX12_tightest 8 = .ok (.istore_n 2, 1)) rfl) ?_
  refine And.intro (k_iconst (pc := 9) (by decide +kernel : decode cX12_tightest 9 = .ok (.iconst 0, 1)) (by decide)) ?_
  refine And.intro (k_istore_n (pc := 10) (by decide +kernel : decode cX12_tightest 10 = .ok (.istore_n 3, 1)) rfl) ?_
  refine And.intro (k_iload_n (pc := 11) (by decide +kernel : decode cX12_tightest 11 = .ok (.iload_n 3, 1)) rfl) ?_
  refine And.intro (k_aload_n (pc := 12) (by decide +kernel : decode cX12_tightest 12 = .ok (.aload_n 0, 1)) rfl) ?_
  refine And.intro (k_gR (pc := 13) rfl (by decide) rfl zin12 lk_X12_9 (by decide +kernel : decode cX12_tightest 13 = .ok (.getfield 9, 3))) ?_
  refine And.intro (k_iconst (pc := 16) (by decide +kernel : decode cX12_tightest 16 = .ok (.iconst 0, 1)) (by decide)) ?_
  refine And.intro (k_iald (pc := 17) (by decide +kernel : decode cX12_tightest 17 = .ok (.iaload, 1))) ?_
  refine And.intro (k_icmp_ge (pc := 18) (by decide +kernel : decode cX12_tightest 18 = .ok (.if_icmp .ge 35, 3)) (by decide)) ?_
  refine And.intro (k_aload_n (pc := 21) (by decide +kernel : decode cX12_tightest 21 = .ok (.aload_n 0, 1)) rfl) ?_
  refine And.intro (k_iload_n (pc := 22) (by decide +kernel : decode cX12_tightest 22 = .ok (.iload_n 3, 1)) rfl) ?_
  refine And.intro (k_crV (n := 1) (pc := 23) hG (zRoom_self 2) (tag := 12) rfl ini_X12 im_X12_wholesWithout se_X12_wholesWithout mk_X12_350 dy_X12_wholesWithout (by decide +kernel : decode cX12_tightest 23 = .ok (.invokevirtual 350, 3))) ?_
  refine And.intro (k_istore (pc := 26) (by decide +kernel : decode cX12_tightest 26 = .ok (.istore 4, 2))) ?_
  refine And.intro (k_iload_n (pc := 28) (by decide +kernel : decode cX12_tightest 28 = .ok (.iload_n 1, 1)) rfl) ?_
  refine And.intro (k_iconst (pc := 29) (by decide +kernel : decode cX12_tightest 29 = .ok (.iconst (-1), 1)) (by decide)) ?_
  refine And.intro (k_icmp_eq (pc := 30) (by decide +kernel : decode cX12_tightest 30 = .ok (.if_icmp .eq 12, 3)) (by decide)) ?_
  refine And.intro (k_iload (pc := 33) (by decide +kernel : decode cX12_tightest 33 = .ok (.iload 4, 2))) ?_
  refine And.intro (k_iload_n (pc := 35) (by decide +kernel : decode cX12_tightest 35 = .ok (.iload_n 2, 1)) rfl) ?_
  refine And.intro (k_icmp_gt (pc := 36) (by decide +kernel : decode cX12_tightest 36 = .ok (.if_icmp .gt 6, 3)) (by decide)) ?_
  refine And.intro (k_goto (pc := 39) (by decide +kernel : decode cX12_tightest 39 = .ok (.goto 8, 3)) (by decide)) ?_
  refine And.intro (k_iload_n (pc := 42) (by decide +kernel : decode cX12_tightest 42 = .ok (.iload_n 3, 1)) rfl) ?_
  refine And.intro (k_istore_n (pc := 43) (by decide +kernel : decode cX12_tightest 43 = .ok (.istore_n 1, 1)) rfl) ?_
  refine And.intro (k_iload (pc := 44) (by decide +kernel : decode cX12_tightest 44 = .ok (.iload 4, 2))) ?_
  refine And.intro (k_istore_n (pc := 46) (by decide +kernel : decode cX12_tightest 46 = .ok (.istore_n 2, 1)) rfl) ?_
  refine And.intro (k_iinc (pc := 47) (by decide +kernel : decode cX12_tightest 47 = .ok (.iinc 3 1, 3)) (by decide)) ?_
  refine And.intro (k_goto (pc := 50) (by decide +kernel : decode cX12_tightest 50 = .ok (.goto (-39), 3)) (by decide)) ?_
  refine And.intro (k_iload_n (pc := 53) (by decide +kernel : decode cX12_tightest 53 = .ok (.iload_n 1, 1)) rfl) ?_
  refine And.intro (k_iconst (pc := 54) (by decide +kernel : decode cX12_tightest 54 = .ok (.iconst (-1), 1)) (by decide)) ?_
  refine And.intro (k_icmp_ne (pc := 55) (by decide +kernel : decode cX12_tightest 55 = .ok (.if_icmp .ne 6, 3)) (by decide)) ?_
  refine And.intro (k_bipush (pc := 58) (by decide +kernel : decode cX12_tightest 58 = .ok (.bipush (-2), 2)) (by decide)) ?_
  refine And.intro (k_ireturn (pc := 60) rfl (by decide +kernel : decode cX12_tightest 60 = .ok (.ireturn, 1))) ?_
  refine And.intro (k_aload_n (pc := 61) (by decide +kernel : decode cX12_tightest 61 = .ok (.aload_n 0, 1)) rfl) ?_
  refine And.intro (k_iconst (pc := 62) (by decide +kernel : decode cX12_tightest 62 = .ok (.iconst 0, 1)) (by decide)) ?_
  refine And.intro (k_pI (pc := 63) rfl (by decide) rfl zin12 lk_X12_59 tyX12_ok nmX12 rfl (by decide +kernel) (by decide +kernel : decode cX12_tightest 63 = .ok (.putfield 59, 3))) ?_
  refine And.intro (k_aload_n (pc := 66) (by decide +kernel : decode cX12_tightest 66 = .ok (.aload_n 0, 1)) rfl) ?_
  refine And.intro (k_iload_n (pc := 67) (by decide +kernel : decode cX12_tightest 67 = .ok (.iload_n 2, 1)) rfl) ?_
  refine And.intro (k_i2l (pc := 68) (by decide +kernel : decode cX12_tightest 68 = .ok (.i2l, 1))) ?_
  refine And.intro (k_cvV (n := 1) (pc := 69) hG (zRoom_self 2) (tag := 12) rfl ini_X12 im_X12_tell se_X12_tell mk_X12_80 dy_X12_tell (by decide +kernel : decode cX12_tightest 69 = .ok (.invokevirtual 80, 3))) ?_
  refine And.intro (k_iload_n (pc := 72) (by decide +kernel : decode cX12_tightest 72 = .ok (.iload_n 1, 1)) rfl) ?_
  refine And.intro (k_ireturn (pc := 73) rfl (by decide +kernel : decode cX12_tightest 73 = .ok (.ireturn, 1))) ?_
  exact trivial
theorem cdX12_tightest : Cond.code yX12_tightest cX12_tightest 5 (some .int) ∈ zWs := zWs_in 1577 (by decide +kernel) rfl
noncomputable def pgX12_readAct : zPg := [(0, o_al 0), (1, o_vr2 yX12_here 12 1), (4, o_is 2), (5, o_il 2), (6, o_ic (98)), (8, o_ic_eq 38), (11, o_il 2), (12, o_ic (100)), (14, o_ic_eq 38), (17, o_il 2), (18, o_ic (115)), (20, o_ic_eq 38), (23, o_il 2), (24, o_ic (99)), (26, o_ic_eq 38), (29, o_al 0), (30, o_al 0), (31, o_gI 12 9), (34, o_vv yX12_fault 12 2), (37, o_vr), (38, o_al 0), (39, o_dup), (40, o_gI 12 9), (43, o_ic (1)), (44, o_iadd), (45, o_pI 12 9), (48, o_al 0), (49, o_gR 12 33), (52, o_il 1), (53, o_il 2), (54, o_yI), (55, o_il 2), (56, o_ic (99)), (58, o_ic_ne 62), (61, o_vr), (62, o_al 0), (63, o_gR 12 33), (66, o_il 1), (67, o_ic (1)), (68, o_iadd), (69, o_al 0), (70, o_ic (10)), (72, o_vr2 yX12_digit 12 2), (75, o_yI), (76, o_il 2), (77, o_ic (100)), (79, o_ic_ne 83), (82, o_vr), (83, o_il 2), (84, o_ic (115)), (86, o_ic_ne 118), (89, o_al 0), (90, o_gR 12 33), (93, o_il 1), (94, o_ic (2)), (95, o_iadd), (96, o_al 0), (97, o_ic (10)), (99, o_vr2 yX12_digit 12 2), (102, o_yI), (103, o_al 0), (104, o_gR 12 33), (107, o_il 1), (108, o_ic (3)), (109, o_iadd), (110, o_al 0), (111, o_ic (10)), (113, o_vr2 yX12_digit 12 2), (116, o_yI), (117, o_vr), (118, o_al 0), (119, o_vr2 yX12_sided 12 1), (122, o_is 3), (123, o_al 0), (124, o_ic (10)), (126, o_vr2 yX12_digit 12 2), (129, o_is 4), (131, o_al 0), (132, o_gR 12 33), (135, o_il 1), (136, o_ic (2)), (137, o_iadd), (138, o_il 3), (139, o_ic (10)), (141, o_il 4), (143, o_imul), (144, o_al 0), (145, o_ic (10)), (147, o_vr2 yX12_digit 12 2), (150, o_iadd), (151, o_imul), (152, o_yI), (153, o_vr)]
set_option maxRecDepth 20000 in
theorem pkX12_readAct {G : zG} (hG : zGok G) (Q : zRt) : zPOK G (zRm 4) RX12 cX12_readAct 5 none (zF G Q 0 0) 0 0 (zCalls G 4) Q pgX12_readAct := by
  refine And.intro (k_aload_n (pc := 0) (by decide +kernel : decode cX12_readAct 0 = .ok (.aload_n 0, 1)) rfl) ?_
  refine And.intro (k_crV (n := 0) (pc := 1) hG (zRoom_self 4) (tag := 12) rfl ini_X12 im_X12_here se_X12_here mk_X12_104 dy_X12_here (by decide +kernel : decode cX12_readAct 1 = .ok (.invokevirtual 104, 3))) ?_
  refine And.intro (k_istore_n (pc := 4) (by decide +kernel : decode cX12_readAct 4 = .ok (.istore_n 2, 1)) rfl) ?_
  refine And.intro (k_iload_n (pc := 5) (by decide +kernel : decode cX12_readAct 5 = .ok (.iload_n 2, 1)) rfl) ?_
  refine And.intro (k_bipush (pc := 6) (by decide +kernel : decode cX12_readAct 6 = .ok (.bipush 98, 2)) (by decide)) ?_
  refine And.intro (k_icmp_eq (pc := 8) (by decide +kernel : decode cX12_readAct 8 = .ok (.if_icmp .eq 30, 3)) (by decide)) ?_
  refine And.intro (k_iload_n (pc := 11) (by decide +kernel : decode cX12_readAct 11 = .ok (.iload_n 2, 1)) rfl) ?_
  refine And.intro (k_bipush (pc := 12) (by decide +kernel : decode cX12_readAct 12 = .ok (.bipush 100, 2)) (by decide)) ?_
  refine And.intro (k_icmp_eq (pc := 14) (by decide +kernel : decode cX12_readAct 14 = .ok (.if_icmp .eq 24, 3)) (by decide)) ?_
  refine And.intro (k_iload_n (pc := 17) (by decide +kernel : decode cX12_readAct 17 = .ok (.iload_n 2, 1)) rfl) ?_
  refine And.intro (k_bipush (pc := 18) (by decide +kernel : decode cX12_readAct 18 = .ok (.bipush 115, 2)) (by decide)) ?_
  refine And.intro (k_icmp_eq (pc := 20) (by decide +kernel : decode cX12_readAct 20 = .ok (.if_icmp .eq 18, 3)) (by decide)) ?_
  refine And.intro (k_iload_n (pc := 23) (by decide +kernel : decode cX12_readAct 23 = .ok (.iload_n 2, 1)) rfl) ?_
  refine And.intro (k_bipush (pc := 24) (by decide +kernel : decode cX12_readAct 24 = .ok (.bipush 99, 2)) (by decide)) ?_
  refine And.intro (k_icmp_eq (pc := 26) (by decide +kernel : decode cX12_readAct 26 = .ok (.if_icmp .eq 12, 3)) (by decide)) ?_
  refine And.intro (k_aload_n (pc := 29) (by decide +kernel : decode cX12_readAct 29 = .ok (.aload_n 0, 1)) rfl) ?_
  refine And.intro (k_aload_n (pc := 30) (by decide +kernel : decode cX12_readAct 30 = .ok (.aload_n 0, 1)) rfl) ?_
  refine And.intro (k_gI (pc := 31) rfl (by decide) rfl zin12 lk_X12_94 (by decide +kernel : decode cX12_readAct 31 = .ok (.getfield 94, 3))) ?_
  refine And.intro (k_cvV (n := 1) (pc := 34) hG (zRoom_self 4) (tag := 12) rfl ini_X12 im_X12_fault se_X12_fault mk_X12_112 dy_X12_fault (by decide +kernel : decode cX12_readAct 34 = .ok (.invokevirtual 112, 3))) ?_
  refine And.intro (k_return (pc := 37) rfl (by decide +kernel : decode cX12_readAct 37 = .ok (.return_, 1))) ?_
  refine And.intro (k_aload_n (pc := 38) (by decide +kernel : decode cX12_readAct 38 = .ok (.aload_n 0, 1)) rfl) ?_
  refine And.intro (k_dup (pc := 39) (by decide +kernel : decode cX12_readAct 39 = .ok (.dup, 1))) ?_
  refine And.intro (k_gI (pc := 40) rfl (by decide) rfl zin12 lk_X12_94 (by decide +kernel : decode cX12_readAct 40 = .ok (.getfield 94, 3))) ?_
  refine And.intro (k_iconst (pc := 43) (by decide +kernel : decode cX12_readAct 43 = .ok (.iconst 1, 1)) (by decide)) ?_
  refine And.intro (k_iadd (pc := 44) (by decide +kernel : decode cX12_readAct 44 = .ok (.iadd, 1))) ?_
  refine And.intro (k_pI (pc := 45) rfl (by decide) rfl zin12 lk_X12_94 tyX12_ok nmX12 rfl (by decide +kernel) (by decide +kernel : decode cX12_readAct 45 = .ok (.putfield 94, 3))) ?_
  refine And.intro (k_aload_n (pc := 48) (by decide +kernel : decode cX12_readAct 48 = .ok (.aload_n 0, 1)) rfl) ?_
  refine And.intro (k_gR (pc := 49) rfl (by decide) rfl zin12 lk_X12_46 (by decide +kernel : decode cX12_readAct 49 = .ok (.getfield 46, 3))) ?_
  refine And.intro (k_iload_n (pc := 52) (by decide +kernel : decode cX12_readAct 52 = .ok (.iload_n 1, 1)) rfl) ?_
  refine And.intro (k_iload_n (pc := 53) (by decide +kernel : decode cX12_readAct 53 = .ok (.iload_n 2, 1)) rfl) ?_
  refine And.intro (k_iast (pc := 54) (by decide +kernel : decode cX12_readAct 54 = .ok (.iastore, 1))) ?_
  refine And.intro (k_iload_n (pc := 55) (by decide +kernel : decode cX12_readAct 55 = .ok (.iload_n 2, 1)) rfl) ?_
  refine And.intro (k_bipush (pc := 56) (by decide +kernel : decode cX12_readAct 56 = .ok (.bipush 99, 2)) (by decide)) ?_
  refine And.intro (k_icmp_ne (pc := 58) (by decide +kernel : decode cX12_readAct 58 = .ok (.if_icmp .ne 4, 3)) (by decide)) ?_
  refine And.intro (k_return (pc := 61) rfl (by decide +kernel : decode cX12_readAct 61 = .ok (.return_, 1))) ?_
  refine And.intro (k_aload_n (pc := 62) (by decide +kernel : decode cX12_readAct 62 = .ok (.aload_n 0, 1)) rfl) ?_
  refine And.intro (k_gR (pc := 63) rfl (by decide) rfl zin12 lk_X12_46 (by decide +kernel : decode cX12_readAct 63 = .ok (.getfield 46, 3))) ?_
  refine And.intro (k_iload_n (pc := 66) (by decide +kernel : decode cX12_readAct 66 = .ok (.iload_n 1, 1)) rfl) ?_
  refine And.intro (k_iconst (pc := 67) (by decide +kernel : decode cX12_readAct 67 = .ok (.iconst 1, 1)) (by decide)) ?_
  refine And.intro (k_iadd (pc := 68) (by decide +kernel : decode cX12_readAct 68 = .ok (.iadd, 1))) ?_
  refine And.intro (k_aload_n (pc := 69) (by decide +kernel : decode cX12_readAct 69 = .ok (.aload_n 0, 1)) rfl) ?_
  refine And.intro (k_bipush (pc := 70) (by decide +kernel : decode cX12_readAct 70 = .ok (.bipush 10, 2)) (by decide)) ?_
  refine And.intro (k_crV (n := 1) (pc := 72) hG (zRoom_self 4) (tag := 12) rfl ini_X12 im_X12_digit se_X12_digit mk_X12_123 dy_X12_digit (by decide +kernel : decode cX12_readAct 72 = .ok (.invokevirtual 123, 3))) ?_
  refine And.intro (k_iast (pc := 75) (by decide +kernel : decode cX12_readAct 75 = .ok (.iastore, 1))) ?_
  refine And.intro (k_iload_n (pc := 76) (by decide +kernel : decode cX12_readAct 76 = .ok (.iload_n 2, 1)) rfl) ?_
  refine And.intro (k_bipush (pc := 77) (by decide +kernel : decode cX12_readAct 77 = .ok (.bipush 100, 2)) (by decide)) ?_
  refine And.intro (k_icmp_ne (pc := 79) (by decide +kernel : decode cX12_readAct 79 = .ok (.if_icmp .ne 4, 3)) (by decide)) ?_
  refine And.intro (k_return (pc := 82) rfl (by decide +kernel : decode cX12_readAct 82 = .ok (.return_, 1))) ?_
  refine And.intro (k_iload_n (pc := 83) (by decide +kernel : decode cX12_readAct 83 = .ok (.iload_n 2, 1)) rfl) ?_
  refine And.intro (k_bipush (pc := 84) (by decide +kernel : decode cX12_readAct 84 = .ok (.bipush 115, 2)) (by decide)) ?_
  refine And.intro (k_icmp_ne (pc := 86) (by decide +kernel : decode cX12_readAct 86 = .ok (.if_icmp .ne 32, 3)) (by decide)) ?_
  refine And.intro (k_aload_n (pc := 89) (by decide +kernel : decode cX12_readAct 89 = .ok (.aload_n 0, 1)) rfl) ?_
  refine And.intro (k_gR (pc := 90) rfl (by decide) rfl zin12 lk_X12_46 (by decide +kernel : decode cX12_readAct 90 = .ok (.getfield 46, 3))) ?_
  refine And.intro (k_iload_n (pc := 93) (by decide +kernel : decode cX12_readAct 93 = .ok (.iload_n 1, 1)) rfl) ?_
  refine And.intro (k_iconst (pc := 94) (by decide +kernel : decode cX12_readAct 94 = .ok (.iconst 2, 1)) (by decide)) ?_
  refine And.intro (k_iadd (pc := 95) (by decide +kernel : decode cX12_readAct 95 = .ok (.iadd, 1))) ?_
  refine And.intro (k_aload_n (pc := 96) (by decide +kernel : decode cX12_readAct 96 = .ok (.aload_n 0, 1)) rfl) ?_
  refine And.intro (k_bipush (pc := 97) (by decide +kernel : decode cX12_readAct 97 = .ok (.bipush 10, 2)) (by decide)) ?_
  refine And.intro (k_crV (n := 1) (pc := 99) hG (zRoom_self 4) (tag := 12) rfl ini_X12 im_X12_digit se_X12_digit mk_X12_123 dy_X12_digit (by decide +kernel : decode cX12_readAct 99 = .ok (.invokevirtual 123, 3))) ?_
  refine And.intro (k_iast (pc := 102) (by decide +kernel : decode cX12_readAct 102 = .ok (.iastore, 1))) ?_
  refine And.intro (k_aload_n (pc := 103) (by decide +kernel : decode cX12_readAct 103 = .ok (.aload_n 0, 1)) rfl) ?_
  refine And.intro (k_gR (pc := 104) rfl (by decide) rfl zin12 lk_X12_46 (by decide +kernel : decode cX12_readAct 104 = .ok (.getfield 46, 3))) ?_
  refine And.intro (k_iload_n (pc := 107) (by decide +kernel : decode cX12_readAct 107 = .ok (.iload_n 1, 1)) rfl) ?_
  refine And.intro (k_iconst (pc := 108) (by decide +kernel : decode cX12_readAct 108 = .ok (.iconst 3, 1)) (by decide)) ?_
  refine And.intro (k_iadd (pc := 109) (by decide +kernel : decode cX12_readAct 109 = .ok (.iadd, 1))) ?_
  refine And.intro (k_aload_n (pc := 110) (by decide +kernel : decode cX12_readAct 110 = .ok (.aload_n 0, 1)) rfl) ?_
  refine And.intro (k_bipush (pc := 111) (by decide +kernel : decode cX12_readAct 111 = .ok (.bipush 10, 2)) (by decide)) ?_
  refine And.intro (k_crV (n := 1) (pc := 113) hG (zRoom_self 4) (tag := 12) rfl ini_X12 im_X12_digit se_X12_digit mk_X12_123 dy_X12_digit (by decide +kernel : decode cX12_readAct 113 = .ok (.invokevirtual 123, 3))) ?_
  refine And.intro (k_iast (pc := 116) (by decide +kernel : decode cX12_readAct 116 = .ok (.iastore, 1))) ?_
  refine And.intro (k_return (pc := 117) rfl (by decide +kernel : decode cX12_readAct 117 = .ok (.return_, 1))) ?_
  refine And.intro (k_aload_n (pc := 118) (by decide +kernel : decode cX12_readAct 118 = .ok (.aload_n 0, 1)) rfl) ?_
  refine And.intro (k_crV (n := 0) (pc := 119) hG (zRoom_self 4) (tag := 12) rfl ini_X12 im_X12_sided se_X12_sided mk_X12_120 dy_X12_sided (by decide +kernel : decode cX12_readAct 119 = .ok (.invokevirtual 120, 3))) ?_
  refine And.intro (k_istore_n (pc := 122) (by decide +kernel : decode cX12_readAct 122 = .ok (.istore_n 3, 1)) rfl) ?_
  refine And.intro (k_aload_n (pc := 123) (by decide +kernel : decode cX12_readAct 123 = .ok (.aload_n 0, 1)) rfl) ?_
  refine And.intro (k_bipush (pc := 124) (by decide +kernel : decode cX12_readAct 124 = .ok (.bipush 10, 2)) (by decide)) ?_
  refine And.intro (k_crV (n := 1) (pc := 126) hG (zRoom_self 4) (tag := 12) rfl ini_X12 im_X12_digit se_X12_digit mk_X12_123 dy_X12_digit (by decide +kernel : decode cX12_readAct 126 = .ok (.invokevirtual 123, 3))) ?_
  refine And.intro (k_istore (pc := 129) (by decide +kernel : decode cX12_readAct 129 = .ok (.istore 4, 2))) ?_
  refine And.intro (k_aload_n (pc := 131) (by decide +kernel : decode cX12_readAct 131 = .ok (.aload_n 0, 1)) rfl) ?_
  refine And.intro (k_gR (pc := 132) rfl (by decide) rfl zin12 lk_X12_46 (by decide +kernel : decode cX12_readAct 132 = .ok (.getfield 46, 3))) ?_
  refine And.intro (k_iload_n (pc := 135) (by decide +kernel : decode cX12_readAct 135 = .ok (.iload_n 1, 1)) rfl) ?_
  refine And.intro (k_iconst (pc := 136) (by decide +kernel : decode cX12_readAct 136 = .ok (.iconst 2, 1)) (by decide)) ?_
  refine And.intro (k_iadd (pc := 137) (by decide +kernel : decode cX12_readAct 137 = .ok (.iadd, 1))) ?_
  refine And.intro (k_iload_n (pc := 138) (by decide +kernel : decode cX12_readAct 138 = .ok (.iload_n 3, 1)) rfl) ?_
  refine And.intro (k_bipush (pc := 139) (by decide +kernel : decode cX12_readAct 139 = .ok (.bipush 10, 2)) (by decide)) ?_
  refine And.intro (k_iload (pc := 141) (by decide +kernel : decode cX12_readAct 141 = .ok (.iload 4, 2))) ?_
  refine And.intro (k_imul (pc := 143) (by decide +kernel : decode cX12_readAct 143 = .ok (.imul, 1))) ?_
  refine And.intro (k_aload_n (pc := 144) (by decide +kernel : decode cX12_readAct 144 = .ok (.aload_n 0, 1)) rfl) ?_
  refine And.intro (k_bipush (pc := 145) (by decide +kernel : decode cX12_readAct 145 = .ok (.bipush 10, 2)) (by decide)) ?_
  refine And.intro (k_crV (n := 1) (pc := 147) hG (zRoom_self 4) (tag := 12) rfl ini_X12 im_X12_digit se_X12_digit mk_X12_123 dy_X12_digit (by decide +kernel : decode cX12_readAct 147 = .ok (.invokevirtual 123, 3))) ?_
  refine And.intro (k_iadd (pc := 150) (by decide +kernel : decode cX12_readAct 150 = .ok (.iadd, 1))) ?_
  refine And.intro (k_imul (pc := 151) (by decide +kernel : decode cX12_readAct 151 = .ok (.imul, 1))) ?_
  refine And.intro (k_iast (pc := 152) (by decide +kernel : decode cX12_readAct 152 = .ok (.iastore, 1))) ?_
  refine And.intro (k_return (pc := 153) rfl (by decide +kernel : decode cX12_readAct 153 = .ok (.return_, 1))) ?_
  exact trivial
theorem cdX12_readAct : Cond.code yX12_readAct cX12_readAct 5 none ∈ zWs := zWs_in 1589 (by decide +kernel) rfl
noncomputable def pgX12_act : zPg := [(0, o_al 0), (1, o_gR 12 33), (4, o_il 1), (5, o_ic (1)), (6, o_iadd), (7, o_xI 14), (8, o_is 2), (9, o_al 0), (10, o_gR 12 33), (13, o_il 1), (14, o_ic (2)), (15, o_iadd), (16, o_xI 14), (17, o_is 3), (18, o_al 0), (19, o_gR 12 33), (22, o_il 1), (23, o_xI 14), (24, o_sw [(98, 60), (100, 86), (115, 103)] 138), (60, o_al 0), (61, o_il 2), (62, o_il 3), (63, o_vr2 yX12_refusesBecome 12 3), (66, o_if_ge 71), (69, o_ic (0)), (70, o_zr), (71, o_al 0), (72, o_gR 12 0), (75, o_ic (1)), (76, o_ic (3)), (77, o_il 2), (78, o_imul), (79, o_iadd), (80, o_ic (2)), (81, o_iadd), (82, o_il 3), (83, o_yI), (84, o_ic (1)), (85, o_zr), (86, o_al 0), (87, o_il 2), (88, o_vr2 yX12_isTold 12 2), (91, o_if_ne 96), (94, o_ic (0)), (95, o_zr), (96, o_al 0), (97, o_il 2), (98, o_vv yX12_drop 12 2), (101, o_ic (1)), (102, o_zr), (103, o_al 0), (104, o_il 2), (105, o_il 3), (106, o_al 0), (107, o_gR 12 33), (110, o_il 1), (111, o_ic (3)), (112, o_iadd), (113, o_xI 14), (114, o_vr2 yX12_refusesStore 12 4), (117, o_if_ge 122), (120, o_ic (0)), (121, o_zr), (122, o_al 0), (123, o_il 2), (124, o_il 3), (125, o_al 0), (126, o_gR 12 33), (129, o_il 1), (130, o_ic (3)), (131, o_iadd), (132, o_xI 14), (133, o_vv yX12_store 12 4), (136, o_ic (1)), (137, o_zr), (138, o_al 0), (139, o_gR 12 0), (142, o_ic (19)), (144, o_ic (0)), (145, o_yI), (146, o_ic (0)), (147, o_is 4), (149, o_il 4), (151, o_ic (120)), (153, o_ic_ge 173), (156, o_al 0), (157, o_gR 12 0), (160, o_ic (20)), (162, o_il 4), (164, o_iadd), (165, o_ic (0)), (166, o_yI), (167, o_inc 4 (1)), (170, o_go 149), (173, o_ic (1)), (174, o_zr)]
set_option maxRecDepth 20000 in
theorem pkX12_act {G : zG} (hG : zGok G) (Q : zRt) : zPOK G (zRm 7) RX12 cX12_act 5 (some .boolean) (zF G Q 0 0) 0 0 (zCalls G 7) Q pgX12_act := by
  refine And.intro (k_aload_n (pc := 0) (by decide +kernel : decode cX12_act 0 = .ok (.aload_n 0, 1)) rfl) ?_
  refine And.intro (k_gR (pc := 1) rfl (by decide) rfl zin12 lk_X12_46 (by decide +kernel : decode cX12_act 1 = .ok (.getfield 46, 3))) ?_
  refine And.intro (k_iload_n (pc := 4) (by decide +kernel : decode cX12_act 4 = .ok (.iload_n 1, 1)) rfl) ?_
  refine And.intro (k_iconst (pc := 5) (by decide +kernel : decode cX12_act 5 = .ok (.iconst 1, 1)) (by decide)) ?_
  refine And.intro (k_iadd (pc := 6) (by decide +kernel : decode cX12_act 6 = .ok (.iadd, 1))) ?_
  refine And.intro (k_iald (pc := 7) (by decide +kernel : decode cX12_act 7 = .ok (.iaload, 1))) ?_
  refine And.intro (k_istore_n (pc := 8) (by decide +kernel : decode cX12_act 8 = .ok (.istore_n 2, 1)) rfl) ?_
  refine And.intro (k_aload_n (pc := 9) (by decide +kernel : decode cX12_act 9 = .ok (.aload_n 0, 1)) rfl) ?_
  refine And.intro (k_gR (pc := 10) rfl (by decide) rfl zin12 lk_X12_46 (by decide +kernel : decode cX12_act 10 = .ok (.getfield 46, 3))) ?_
  refine And.intro (k_iload_n (pc := 13) (by decide +kernel : decode cX12_act 13 = .ok (.iload_n 1, 1)) rfl) ?_
  refine And.intro (k_iconst (pc := 14) (by decide +kernel : decode cX12_act 14 = .ok (.iconst 2, 1)) (by decide)) ?_
  refine And.intro (k_iadd (pc := 15) (by decide +kernel : decode cX12_act 15 = .ok (.iadd, 1))) ?_
  refine And.intro (k_iald (pc := 16) (by decide +kernel : decode cX12_act 16 = .ok (.iaload, 1))) ?_
  refine And.intro (k_istore_n (pc := 17) (by decide +kernel : decode cX12_act 17 = .ok (.istore_n 3, 1)) rfl) ?_
  refine And.intro (k_aload_n (pc := 18) (by decide +kernel : decode cX12_act 18 = .ok (.aload_n 0, 1)) rfl) ?_
  refine And.intro (k_gR (pc := 19) rfl (by decide) rfl zin12 lk_X12_46 (by decide +kernel : decode cX12_act 19 = .ok (.getfield 46, 3))) ?_
  refine And.intro (k_iload_n (pc := 22) (by decide +kernel : decode cX12_act 22 = .ok (.iload_n 1, 1)) rfl) ?_
  refine And.intro (k_iald (pc := 23) (by decide +kernel : decode cX12_act 23 = .ok (.iaload, 1))) ?_
  refine And.intro (k_lsw (pc := 24) (by decide +kernel : decode cX12_act 24 = .ok (.lookupswitch 114 #[(98, 36), (100, 62), (115, 79)], 36)) (by decide) (zlsw_hit (by decide)) (zlsw_no (by decide) (by decide))) ?_
  refine And.intro (k_aload_n (pc := 60) (by decide +kernel : decode cX12_act 60 = .ok (.aload_n 0, 1)) rfl) ?_
  refine And.intro (k_iload_n (pc := 61) (by decide +kernel : decode cX12_act 61 = .ok (.iload_n 2, 1)) rfl) ?_
  refine And.intro (k_iload_n (pc := 62) (by decide +kernel : decode cX12_act 62 = .ok (.iload_n 3, 1)) rfl) ?_
  refine And.intro (k_crV (n := 2) (pc := 63) hG (zRoom_self 7) (tag := 12) rfl ini_X12 im_X12_refusesBecome se_X12_refusesBecome mk_X12_162 dy_X12_refusesBecome (by decide +kernel : decode cX12_act 63 = .ok (.invokevirtual 162, 3))) ?_
  refine And.intro (k_if_ge (pc := 66) (by decide +kernel : decode cX12_act 66 = .ok (.ifCond .ge 5, 3)) (by decide)) ?_
  refine And.intro (k_iconst (pc := 69) (by decide +kernel : decode cX12_act 69 = .ok (.iconst 0, 1)) (by decide)) ?_
  refine And.intro (k_zreturn (pc := 70) rfl (by decide +kernel : decode cX12_act 70 = .ok (.ireturn, 1))) ?_
  refine And.intro (k_aload_n (pc := 71) (by decide +kernel : decode cX12_act 71 = .ok (.aload_n 0, 1)) rfl) ?_
  refine And.intro (k_gR (pc := 72) rfl (by decide) rfl zin12 lk_X12_9 (by decide +kernel : decode cX12_act 72 = .ok (.getfield 9, 3))) ?_
  refine And.intro (k_iconst (pc := 75) (by decide +kernel : decode cX12_act 75 = .ok (.iconst 1, 1)) (by decide)) ?_
  refine And.intro (k_iconst (pc := 76) (by decide +kernel : decode cX12_act 76 = .ok (.iconst 3, 1)) (by decide)) ?_
  refine And.intro (k_iload_n (pc := 77) (by decide +kernel : decode cX12_act 77 = .ok (.iload_n 2, 1)) rfl) ?_
  refine And.intro (k_imul (pc := 78) (by decide +kernel : decode cX12_act 78 = .ok (.imul, 1))) ?_
  refine And.intro (k_iadd (pc := 79) (by decide +kernel : decode cX12_act 79 = .ok (.iadd, 1))) ?_
  refine And.intro (k_iconst (pc := 80) (by decide +kernel : decode cX12_act 80 = .ok (.iconst 2, 1)) (by decide)) ?_
  refine And.intro (k_iadd (pc := 81) (by decide +kernel : decode cX12_act 81 = .ok (.iadd, 1))) ?_
  refine And.intro (k_iload_n (pc := 82) (by decide +kernel : decode cX12_act 82 = .ok (.iload_n 3, 1)) rfl) ?_
  refine And.intro (k_iast (pc := 83) (by decide +kernel : decode cX12_act 83 = .ok (.iastore, 1))) ?_
  refine And.intro (k_iconst (pc := 84) (by decide +kernel : decode cX12_act 84 = .ok (.iconst 1, 1)) (by decide)) ?_
  refine And.intro (k_zreturn (pc := 85) rfl (by decide +kernel : decode cX12_act 85 = .ok (.ireturn, 1))) ?_
  refine And.intro (k_aload_n (pc := 86) (by decide +kernel : decode cX12_act 86 = .ok (.aload_n 0, 1)) rfl) ?_
  refine And.intro (k_iload_n (pc := 87) (by decide +kernel : decode cX12_act 87 = .ok (.iload_n 2, 1)) rfl) ?_
  refine And.intro (k_crV (n := 1) (pc := 88) hG (zRoom_self 7) (tag := 12) rfl ini_X12 im_X12_isTold se_X12_isTold mk_X12_158 dy_X12_isTold (by decide +kernel : decode cX12_act 88 = .ok (.invokevirtual 158, 3))) ?_
  refine And.intro (k_if_ne (pc := 91) (by decide +kernel : decode cX12_act 91 = .ok (.ifCond .ne 5, 3)) (by decide)) ?_
  refine And.intro (k_iconst (pc := 94) (by decide +kernel : decode cX12_act 94 = .ok (.iconst 0, 1)) (by decide)) ?_
  refine And.intro (k_zreturn (pc := 95) rfl (by decide +kernel : decode cX12_act 95 = .ok (.ireturn, 1))) ?_
  refine And.intro (k_aload_n (pc := 96) (by decide +kernel : decode cX12_act 96 = .ok (.aload_n 0, 1)) rfl) ?_
  refine And.intro (k_iload_n (pc := 97) (by decide +kernel : decode cX12_act 97 = .ok (.iload_n 2, 1)) rfl) ?_
  refine And.intro (k_cvV (n := 1) (pc := 98) hG (zRoom_self 7) (tag := 12) rfl ini_X12 im_X12_drop se_X12_drop mk_X12_173 dy_X12_drop (by decide +kernel : decode cX12_act 98 = .ok (.invokevirtual 173, 3))) ?_
  refine And.intro (k_iconst (pc := 101) (by decide +kernel : decode cX12_act 101 = .ok (.iconst 1, 1)) (by decide)) ?_
  refine And.intro (k_zreturn (pc := 102) rfl (by decide +kernel : decode cX12_act 102 = .ok (.ireturn, 1))) ?_
  refine And.intro (k_aload_n (pc := 103) (by decide +kernel : decode cX12_act 103 = .ok (.aload_n 0, 1)) rfl) ?_
  refine And.intro (k_iload_n (pc := 104) (by decide +kernel : decode cX12_act 104 = .ok (.iload_n 2, 1)) rfl) ?_
  refine And.intro (k_iload_n (pc := 105) (by decide +kernel : decode cX12_act 105 = .ok (.iload_n 3, 1)) rfl) ?_
  refine And.intro (k_aload_n (pc := 106) (by decide +kernel : decode cX12_act 106 = .ok (.aload_n 0, 1)) rfl) ?_
  refine And.intro (k_gR (pc := 107) rfl (by decide) rfl zin12 lk_X12_46 (by decide +kernel : decode cX12_act 107 = .ok (.getfield 46, 3))) ?_
  refine And.intro (k_iload_n (pc := 110) (by decide +kernel : decode cX12_act 110 = .ok (.iload_n 1, 1)) rfl) ?_
  refine And.intro (k_iconst (pc := 111) (by decide +kernel : decode cX12_act 111 = .ok (.iconst 3, 1)) (by decide)) ?_
  refine And.intro (k_iadd (pc := 112) (by decide +kernel : decode cX12_act 112 = .ok (.iadd, 1))) ?_
  refine And.intro (k_iald (pc := 113) (by decide +kernel : decode cX12_act 113 = .ok (.iaload, 1))) ?_
  refine And.intro (k_crV (n := 3) (pc := 114) hG (zRoom_self 7) (tag := 12) rfl ini_X12 im_X12_refusesStore se_X12_refusesStore mk_X12_284 dy_X12_refusesStore (by decide +kernel : decode cX12_act 114 = .ok (.invokevirtual 284, 3))) ?_
  refine And.intro (k_if_ge (pc := 117) (by decide +kernel : decode cX12_act 117 = .ok (.ifCond .ge 5, 3)) (by decide)) ?_
  refine And.intro (k_iconst (pc := 120) (by decide +kernel : decode cX12_act 120 = .ok (.iconst 0, 1)) (by decide)) ?_
  refine And.intro (k_zreturn (pc := 121) rfl (by decide +kernel : decode cX12_act 121 = .ok (.ireturn, 1))) ?_
  refine And.intro (k_aload_n (pc := 122) (by decide +kernel : decode cX12_act 122 = .ok (.aload_n 0, 1)) rfl) ?_
  refine And.intro (k_iload_n (pc := 123) (by decide +kernel : decode cX12_act 123 = .ok (.iload_n 2, 1)) rfl) ?_
  refine And.intro (k_iload_n (pc := 124) (by decide +kernel : decode cX12_act 124 = .ok (.iload_n 3, 1)) rfl) ?_
  refine And.intro (k_aload_n (pc := 125) (by decide +kernel : decode cX12_act 125 = .ok (.aload_n 0, 1)) rfl) ?_
  refine And.intro (k_gR (pc := 126) rfl (by decide) rfl zin12 lk_X12_46 (by decide +kernel : decode cX12_act 126 = .ok (.getfield 46, 3))) ?_
  refine And.intro (k_iload_n (pc := 129) (by decide +kernel : decode cX12_act 129 = .ok (.iload_n 1, 1)) rfl) ?_
  refine And.intro (k_iconst (pc := 130) (by decide +kernel : decode cX12_act 130 = .ok (.iconst 3, 1)) (by decide)) ?_
  refine And.intro (k_iadd (pc := 131) (by decide +kernel : decode cX12_act 131 = .ok (.iadd, 1))) ?_
  refine And.intro (k_iald (pc := 132) (by decide +kernel : decode cX12_act 132 = .ok (.iaload, 1))) ?_
  refine And.intro (k_cvV (n := 3) (pc := 133) hG (zRoom_self 7) (tag := 12) rfl ini_X12 im_X12_store se_X12_store mk_X12_287 dy_X12_store (by decide +kernel : decode cX12_act 133 = .ok (.invokevirtual 287, 3))) ?_
  refine And.intro (k_iconst (pc := 136) (by decide +kernel : decode cX12_act 136 = .ok (.iconst 1, 1)) (by decide)) ?_
  refine And.intro (k_zreturn (pc := 137) rfl (by decide +kernel : decode cX12_act 137 = .ok (.ireturn, 1))) ?_
  refine And.intro (k_aload_n (pc := 138) (by decide +kernel : decode cX12_act 138 = .ok (.aload_n 0, 1)) rfl) ?_
  refine And.intro (k_gR (pc := 139) rfl (by decide) rfl zin12 lk_X12_9 (by decide +kernel : decode cX12_act 139 = .ok (.getfield 9, 3))) ?_
  refine And.intro (k_bipush (pc := 142) (by decide +kernel : decode cX12_act 142 = .ok (.bipush 19, 2)) (by decide)) ?_
  refine And.intro (k_iconst (pc := 144) (by decide +kernel : decode cX12_act 144 = .ok (.iconst 0, 1)) (by decide)) ?_
  refine And.intro (k_iast (pc := 145) (by decide +kernel : decode cX12_act 145 = .ok (.iastore, 1))) ?_
  refine And.intro (k_iconst (pc := 146) (by decide +kernel : decode cX12_act 146 = .ok (.iconst 0, 1)) (by decide)) ?_
  refine And.intro (k_istore (pc := 147) (by decide +kernel : decode cX12_act 147 = .ok (.istore 4, 2))) ?_
  refine And.intro (k_iload (pc := 149) (by decide +kernel : decode cX12_act 149 = .ok (.iload 4, 2))) ?_
  refine And.intro (k_bipush (pc := 151) (by decide +kernel : decode cX12_act 151 = .ok (.bipush 120, 2)) (by decide)) ?_
  refine And.intro (k_icmp_ge (pc := 153) (by decide +kernel : decode cX12_act 153 = .ok (.if_icmp .ge 20, 3)) (by decide)) ?_
  refine And.intro (k_aload_n (pc := 156) (by decide +kernel : decode cX12_act 156 = .ok (.aload_n 0, 1)) rfl) ?_
  refine And.intro (k_gR (pc := 157) rfl (by decide) rfl zin12 lk_X12_9 (by decide +kernel : decode cX12_act 157 = .ok (.getfield 9, 3))) ?_
  refine And.intro (k_bipush (pc := 160) (by decide +kernel : decode cX12_act 160 = .ok (.bipush 20, 2)) (by decide)) ?_
  refine And.intro (k_iload (pc := 162) (by decide +kernel : decode cX12_act 162 = .ok (.iload 4, 2))) ?_
  refine And.intro (k_iadd (pc := 164) (by decide +kernel : decode cX12_act 164 = .ok (.iadd, 1))) ?_
  refine And.intro (k_iconst (pc := 165) (by decide +kernel : decode cX12_act 165 = .ok (.iconst 0, 1)) (by decide)) ?_
  refine And.intro (k_iast (pc := 166) (by decide +kernel : decode cX12_act 166 = .ok (.iastore, 1))) ?_
  refine And.intro (k_iinc (pc := 167) (by decide +kernel : decode cX12_act 167 = .ok (.iinc 4 1, 3)) (by decide)) ?_
  refine And.intro (k_goto (pc := 170) (by decide +kernel : decode cX12_act 170 = .ok (.goto (-21), 3)) (by decide)) ?_
  refine And.intro (k_iconst (pc := 173) (by decide +kernel : decode cX12_act 173 = .ok (.iconst 1, 1)) (by decide)) ?_
  refine And.intro (k_zreturn (pc := 174) rfl (by decide +kernel : decode cX12_act 174 = .ok (.ireturn, 1))) ?_
  exact trivial
theorem cdX12_act : Cond.code yX12_act cX12_act 5 (some .boolean) ∈ zWs := zWs_in 1593 (by decide +kernel) rfl
noncomputable def pgX12_day : zPg := [(0, o_al 0), (1, o_ic (0)), (2, o_pI 12 5), (5, o_al 0), (6, o_vv yX12_begin 12 1), (9, o_ic (0)), (10, o_is 1), (11, o_al 0), (12, o_vr2 yX12_fine 12 1), (15, o_if_eq 42), (18, o_al 0), (19, o_gI 12 9), (22, o_al 0), (23, o_gI 12 8), (26, o_ic_ge 42), (29, o_al 0), (30, o_ic (4)), (31, o_il 1), (32, o_imul), (33, o_vv yX12_readAct 12 2), (36, o_inc 1 (1)), (39, o_go 11), (42, o_al 0), (43, o_vr2 yX12_wasRight 12 1), (46, o_if_ne 56), (49, o_ic (-1)), (50, o_al 0), (51, o_gI 12 10), (54, o_isub), (55, o_ir), (56, o_ic (0)), (57, o_is 2), (58, o_il 2), (59, o_ic (140)), (62, o_ic_ge 83), (65, o_al 0), (66, o_gR 12 14), (69, o_il 2), (70, o_al 0), (71, o_gR 12 0), (74, o_il 2), (75, o_xI 14), (76, o_yI), (77, o_inc 2 (1)), (80, o_go 58), (83, o_ic (0)), (84, o_is 2), (85, o_il 2), (86, o_il 1), (87, o_ic_ge 106), (90, o_al 0), (91, o_ic (4)), (92, o_il 2), (93, o_imul), (94, o_vr2 yX12_act 12 2), (97, o_if_eq 106), (100, o_inc 2 (1)), (103, o_go 85), (106, o_il 2), (107, o_if_le 114), (110, o_al 0), (111, o_vv yX12_note 12 1), (114, o_al 0), (115, o_ic (0)), (116, o_pI 12 4), (119, o_al 0), (120, o_il 2), (121, o_il 1), (122, o_ic_ge 129), (125, o_lc 1), (126, o_go 130), (129, o_lc 0), (130, o_vv yX12_tell 12 2), (133, o_il 2), (134, o_ir)]
set_option maxRecDepth 20000 in
theorem pkX12_day {G : zG} (hG : zGok G) (Q : zRt) : zPOK G (zRm 8) RX12 cX12_day 3 (some .int) (zF G Q 0 0) 0 0 (zCalls G 8) Q pgX12_day := by
  refine And.intro (k_aload_n (pc := 0) (by decide +kernel : decode cX12_day 0 = .ok (.aload_n 0, 1)) rfl) ?_
  refine And.intro (k_iconst (pc := 1) (by decide +kernel : decode cX12_day 1 = .ok (.iconst 0, 1)) (by decide)) ?_
  refine And.intro (k_pI (pc := 2) rfl (by decide) rfl zin12 lk_X12_55 tyX12_ok nmX12 rfl (by decide +kernel) (by decide +kernel : decode cX12_day 2 = .ok (.putfield 55, 3))) ?_
  refine And.intro (k_aload_n (pc := 5) (by decide +kernel : decode cX12_day 5 = .ok (.aload_n 0, 1)) rfl) ?_
  refine And.intro (k_cvV (n := 0) (pc := 6) hG (zRoom_self 8) (tag := 12) rfl ini_X12 im_X12_begin se_X12_begin mk_X12_127 dy_X12_begin (by decide +kernel : decode cX12_day 6 = .ok (.invokevirtual 127, 3))) ?_
  refine And.intro (k_iconst (pc := 9) (by decide +kernel : decode cX12_day 9 = .ok (.iconst 0, 1)) (by decide)) ?_
  refine And.intro (k_istore_n (pc := 10) (by decide +kernel : decode cX12_day 10 = .ok (.istore_n 1, 1)) rfl) ?_
  refine And.intro (k_aload_n (pc := 11) (by decide +kernel : decode cX12_day 11 = .ok (.aload_n 0, 1)) rfl) ?_
  refine And.intro (k_crV (n := 0) (pc := 12) hG (zRoom_self 8) (tag := 12) rfl ini_X12 im_X12_fine se_X12_fine mk_X12_100 dy_X12_fine (by decide +kernel : decode cX12_day 12 = .ok (.invokevirtual 100, 3))) ?_
  refine And.intro (k_if_eq (pc := 15) (by decide +kernel : decode cX12_day 15 = .ok (.ifCond .eq 27, 3)) (by decide)) ?_
  refine And.intro (k_aload_n (pc := 18) (by decide +kernel : decode cX12_day 18 = .ok (.aload_n 0, 1)) rfl) ?_
  refine And.intro (k_gI (pc := 19) rfl (by decide) rfl zin12 lk_X12_94 (by decide +kernel : decode cX12_day 19 = .ok (.getfield 94, 3))) ?_
  refine And.intro (k_aload_n (pc := 22) (by decide +kernel : decode cX12_day 22 = .ok (.aload_n 0, 1)) rfl) ?_
  refine And.intro (k_gI (pc := 23) rfl (by decide) rfl zin12 lk_X12_91 (by decide +kernel : decode cX12_day 23 = .ok (.getfield 91, 3))) ?_
  refine And.intro (k_icmp_ge (pc := 26) (by decide +kernel : decode cX12_day 26 = .ok (.if_icmp .ge 16, 3)) (by decide)) ?_
  refine And.intro (k_aload_n (pc := 29) (by decide +kernel : decode cX12_day 29 = .ok (.aload_n 0, 1)) rfl) ?_
  refine And.intro (k_iconst (pc := 30) (by decide +kernel : decode cX12_day 30 = .ok (.iconst 4, 1)) (by decide)) ?_
  refine And.intro (k_iload_n (pc := 31) (by decide +kernel : decode cX12_day 31 = .ok (.iload_n 1, 1)) rfl) ?_
  refine And.intro (k_imul (pc := 32) (by decide +kernel : decode cX12_day 32 = .ok (.imul, 1))) ?_
  refine And.intro (k_cvV (n := 1) (pc := 33) hG (zRoom_self 8) (tag := 12) rfl ini_X12 im_X12_readAct se_X12_readAct mk_X12_353 dy_X12_readAct (by decide +kernel : decode cX12_day 33 = .ok (.invokevirtual 353, 3))) ?_
  refine And.intro (k_iinc (pc := 36) (by decide +kernel : decode cX12_day 36 = .ok (.iinc 1 1, 3)) (by decide)) ?_
  refine And.intro (k_goto (pc := 39) (by decide +kernel : decode cX12_day 39 = .ok (.goto (-28), 3)) (by decide)) ?_
  refine And.intro (k_aload_n (pc := 42) (by decide +kernel : decode cX12_day 42 = .ok (.aload_n 0, 1)) rfl) ?_
  refine And.intro (k_crV (n := 0) (pc := 43) hG (zRoom_self 8) (tag := 12) rfl ini_X12 im_X12_wasRight se_X12_wasRight mk_X12_133 dy_X12_wasRight (by decide +kernel : decode cX12_day 43 = .ok (.invokevirtual 133, 3))) ?_
  refine And.intro (k_if_ne (pc := 46) (by decide +kernel : decode cX12_day 46 = .ok (.ifCond .ne 10, 3)) (by decide)) ?_
  refine And.intro (k_iconst (pc := 49) (by decide +kernel : decode cX12_day 49 = .ok (.iconst (-1), 1)) (by decide)) ?_
  refine And.intro (k_aload_n (pc := 50) (by decide +kernel : decode cX12_day 50 = .ok (.aload_n 0, 1)) rfl) ?_
  refine And.intro (k_gI (pc := 51) rfl (by decide) rfl zin12 lk_X12_97 (by decide +kernel : decode cX12_day 51 = .ok (.getfield 97, 3))) ?_
  refine And.intro (k_isub (pc := 54) (by decide +kernel : decode cX12_day 54 = .ok (.isub, 1))) ?_
  refine And.intro (k_ireturn (pc := 55) rfl (by decide +kernel : decode cX12_day 55 = .ok (.ireturn, 1))) ?_
  refine And.intro (k_iconst (pc := 56) (by decide +kernel : decode cX12_day 56 = .ok (.iconst 0, 1)) (by decide)) ?_
  refine And.intro (k_istore_n (pc := 57) (by decide +kernel : decode cX12_day 57 = .ok (.istore_n 2, 1)) rfl) ?_
  refine And.intro (k_iload_n (pc := 58) (by decide +kernel : decode cX12_day 58 = .ok (.iload_n 2, 1)) rfl) ?_
  refine And.intro (k_sipush (pc := 59) (by decide +kernel : decode cX12_day 59 = .ok (.sipush 140, 3)) (by decide)) ?_
  refine And.intro (k_icmp_ge (pc := 62) (by decide +kernel : decode cX12_day 62 = .ok (.if_icmp .ge 21, 3)) (by decide)) ?_
  refine And.intro (k_aload_n (pc := 65) (by decide +kernel : decode cX12_day 65 = .ok (.aload_n 0, 1)) rfl) ?_
  refine And.intro (k_gR (pc := 66) rfl (by decide) rfl zin12 lk_X12_27 (by decide +kernel : decode cX12_day 66 = .ok (.getfield 27, 3))) ?_
  refine And.intro (k_iload_n (pc := 69) (by decide +kernel : decode cX12_day 69 = .ok (.iload_n 2, 1)) rfl) ?_
  refine And.intro (k_aload_n (pc := 70) (by decide +kernel : decode cX12_day 70 = .ok (.aload_n 0, 1)) rfl) ?_
  refine And.intro (k_gR (pc := 71) rfl (by decide) rfl zin12 lk_X12_9 (by decide +kernel : decode cX12_day 71 = .ok (.getfield 9, 3))) ?_
  refine And.intro (k_iload_n (pc := 74) (by decide +kernel : decode cX12_day 74 = .ok (.iload_n 2, 1)) rfl) ?_
  refine And.intro (k_iald (pc := 75) (by decide +kernel : decode cX12_day 75 = .ok (.iaload, 1))) ?_
  refine And.intro (k_iast (pc := 76) (by decide +kernel : decode cX12_day 76 = .ok (.iastore, 1))) ?_
  refine And.intro (k_iinc (pc := 77) (by decide +kernel : decode cX12_day 77 = .ok (.iinc 2 1, 3)) (by decide)) ?_
  refine And.intro (k_goto (pc := 80) (by decide +kernel : decode cX12_day 80 = .ok (.goto (-22), 3)) (by decide)) ?_
  refine And.intro (k_iconst (pc := 83) (by decide +kernel : decode cX12_day 83 = .ok (.iconst 0, 1)) (by decide)) ?_
  refine And.intro (k_istore_n (pc := 84) (by decide +kernel : decode cX12_day 84 = .ok (.istore_n 2, 1)) rfl) ?_
  refine And.intro (k_iload_n (pc := 85) (by decide +kernel : decode cX12_day 85 = .ok (.iload_n 2, 1)) rfl) ?_
  refine And.intro (k_iload_n (pc := 86) (by decide +kernel : decode cX12_day 86 = .ok (.iload_n 1, 1)) rfl) ?_
  refine And.intro (k_icmp_ge (pc := 87) (by decide +kernel : decode cX12_day 87 = .ok (.if_icmp .ge 19, 3)) (by decide)) ?_
  refine And.intro (k_aload_n (pc := 90) (by decide +kernel : decode cX12_day 90 = .ok (.aload_n 0, 1)) rfl) ?_
  refine And.intro (k_iconst (pc := 91) (by decide +kernel : decode cX12_day 91 = .ok (.iconst 4, 1)) (by decide)) ?_
  refine And.intro (k_iload_n (pc := 92) (by decide +kernel : decode cX12_day 92 = .ok (.iload_n 2, 1)) rfl) ?_
  refine And.intro (k_imul (pc := 93) (by decide +kernel : decode cX12_day 93 = .ok (.imul, 1))) ?_
  refine And.intro (k_crV (n := 1) (pc := 94) hG (zRoom_self 8) (tag := 12) rfl ini_X12 im_X12_act se_X12_act mk_X12_356 dy_X12_act (by decide +kernel : decode cX12_day 94 = .ok (.invokevirtual 356, 3))) ?_
  refine And.intro (k_if_eq (pc := 97) (by decide +kernel : decode cX12_day 97 = .ok (.ifCond .eq 9, 3)) (by decide)) ?_
  refine And.intro (k_iinc (pc := 100) (by decide +kernel : decode cX12_day 100 = .ok (.iinc 2 1, 3)) (by decide)) ?_
  refine And.intro (k_goto (pc := 103) (by decide +kernel : decode cX12_day 103 = .ok (.goto (-18), 3)) (by decide)) ?_
  refine And.intro (k_iload_n (pc := 106) (by decide +kernel : decode cX12_day 106 = .ok (.iload_n 2, 1)) rfl) ?_
  refine And.intro (k_if_le (pc := 107) (by decide +kernel : decode cX12_day 107 = .ok (.ifCond .le 7, 3)) (by decide)) ?_
  refine And.intro (k_aload_n (pc := 110) (by decide +kernel : decode cX12_day 110 = .ok (.aload_n 0, 1)) rfl) ?_
  refine And.intro (k_cvV (n := 0) (pc := 111) hG (zRoom_self 8) (tag := 12) rfl ini_X12 im_X12_note se_X12_note mk_X12_152 dy_X12_note (by decide +kernel : decode cX12_day 111 = .ok (.invokevirtual 152, 3))) ?_
  refine And.intro (k_aload_n (pc := 114) (by decide +kernel : decode cX12_day 114 = .ok (.aload_n 0, 1)) rfl) ?_
  refine And.intro (k_iconst (pc := 115) (by decide +kernel : decode cX12_day 115 = .ok (.iconst 0, 1)) (by decide)) ?_
  refine And.intro (k_pI (pc := 116) rfl (by decide) rfl zin12 lk_X12_59 tyX12_ok nmX12 rfl (by decide +kernel) (by decide +kernel : decode cX12_day 116 = .ok (.putfield 59, 3))) ?_
  refine And.intro (k_aload_n (pc := 119) (by decide +kernel : decode cX12_day 119 = .ok (.aload_n 0, 1)) rfl) ?_
  refine And.intro (k_iload_n (pc := 120) (by decide +kernel : decode cX12_day 120 = .ok (.iload_n 2, 1)) rfl) ?_
  refine And.intro (k_iload_n (pc := 121) (by decide +kernel : decode cX12_day 121 = .ok (.iload_n 1, 1)) rfl) ?_
  refine And.intro (k_icmp_ge (pc := 122) (by decide +kernel : decode cX12_day 122 = .ok (.if_icmp .ge 7, 3)) (by decide)) ?_
  refine And.intro (k_lconst (pc := 125) (by decide +kernel : decode cX12_day 125 = .ok (.lconst 1, 1)) (by decide)) ?_
  refine And.intro (k_goto (pc := 126) (by decide +kernel : decode cX12_day 126 = .ok (.goto 4, 3)) (by decide)) ?_
  refine And.intro (k_lconst (pc := 129) (by decide +kernel : decode cX12_day 129 = .ok (.lconst 0, 1)) (by decide)) ?_
  refine And.intro (k_cvV (n := 1) (pc := 130) hG (zRoom_self 8) (tag := 12) rfl ini_X12 im_X12_tell se_X12_tell mk_X12_80 dy_X12_tell (by decide +kernel : decode cX12_day 130 = .ok (.invokevirtual 80, 3))) ?_
  refine And.intro (k_iload_n (pc := 133) (by decide +kernel : decode cX12_day 133 = .ok (.iload_n 2, 1)) rfl) ?_
  refine And.intro (k_ireturn (pc := 134) rfl (by decide +kernel : decode cX12_day 134 = .ok (.ireturn, 1))) ?_
  exact trivial
theorem cdX12_day : Cond.code yX12_day cX12_day 3 (some .int) ∈ zWs := zWs_in 1585 (by decide +kernel) rfl
noncomputable def pgX12_undo : zPg := [(0, o_al 0), (1, o_ic (0)), (2, o_pI 12 5), (5, o_al 0), (6, o_gI 12 13), (9, o_if_ne 14), (12, o_ic (-1)), (13, o_ir), (14, o_al 0), (15, o_dup), (16, o_gI 12 13), (19, o_ic (1)), (20, o_isub), (21, o_pI 12 13), (24, o_ic (0)), (25, o_is 1), (26, o_il 1), (27, o_ic (140)), (30, o_ic_ge 60), (33, o_al 0), (34, o_gR 12 0), (37, o_il 1), (38, o_al 0), (39, o_gR 12 12), (42, o_ic (140)), (45, o_al 0), (46, o_gI 12 13), (49, o_imul), (50, o_il 1), (51, o_iadd), (52, o_xI 14), (53, o_yI), (54, o_inc 1 (1)), (57, o_go 26), (60, o_al 0), (61, o_gI 12 13), (64, o_ir)]
set_option maxRecDepth 20000 in
theorem pkX12_undo {G : zG} (hG : zGok G) (Q : zRt) : zPOK G (zRm 0) RX12 cX12_undo 2 (some .int) (zF G Q 0 0) 0 0 (zCalls G 0) Q pgX12_undo := by
  refine And.intro (k_aload_n (pc := 0) (by decide +kernel : decode cX12_undo 0 = .ok (.aload_n 0, 1)) rfl) ?_
  refine And.intro (k_iconst (pc := 1) (by decide +kernel : decode cX12_undo 1 = .ok (.iconst 0, 1)) (by decide)) ?_
  refine And.intro (k_pI (pc := 2) rfl (by decide) rfl zin12 lk_X12_55 tyX12_ok nmX12 rfl (by decide +kernel) (by decide +kernel : decode cX12_undo 2 = .ok (.putfield 55, 3))) ?_
  refine And.intro (k_aload_n (pc := 5) (by decide +kernel : decode cX12_undo 5 = .ok (.aload_n 0, 1)) rfl) ?_
  refine And.intro (k_gI (pc := 6) rfl (by decide) rfl zin12 lk_X12_155 (by decide +kernel : decode cX12_undo 6 = .ok (.getfield 155, 3))) ?_
  refine And.intro (k_if_ne (pc := 9) (by decide +kernel : decode cX12_undo 9 = .ok (.ifCond .ne 5, 3)) (by decide)) ?_
  refine And.intro (k_iconst (pc := 12) (by decide +kernel : decode cX12_undo 12 = .ok (.iconst (-1), 1)) (by decide)) ?_
  refine And.intro (k_ireturn (pc := 13) rfl (by decide +kernel : decode cX12_undo 13 = .ok (.ireturn, 1))) ?_
  refine And.intro (k_aload_n (pc := 14) (by decide +kernel : decode cX12_undo 14 = .ok (.aload_n 0, 1)) rfl) ?_
  refine And.intro (k_dup (pc := 15) (by decide +kernel : decode cX12_undo 15 = .ok (.dup, 1))) ?_
  refine And.intro (k_gI (pc := 16) rfl (by decide) rfl zin12 lk_X12_155 (by decide +kernel : decode cX12_undo 16 = .ok (.getfield 155, 3))) ?_
  refine And.intro (k_iconst (pc := 19) (by decide +kernel : decode cX12_undo 19 = .ok (.iconst 1, 1)) (by decide)) ?_
  refine And.intro (k_isub (pc := 20) (by decide +kernel : decode cX12_undo 20 = .ok (.isub, 1))) ?_
  refine And.intro (k_pI (pc := 21) rfl (by decide) rfl zin12 lk_X12_155 tyX12_ok nmX12 rfl (by decide +kernel) (by decide +kernel : decode cX12_undo 21 = .ok (.putfield 155, 3))) ?_
  refine And.intro (k_iconst (pc := 24) (by decide +kernel : decode cX12_undo 24 = .ok (.iconst 0, 1)) (by decide)) ?_
  refine And.intro (k_istore_n (pc := 25) (by decide +kernel : decode cX12_undo 25 = .ok (.istore_n 1, 1)) rfl) ?_
  refine And.intro (k_iload_n (pc := 26) (by decide +kernel : decode cX12_undo 26 = .ok (.iload_n 1, 1)) rfl) ?_
  refine And.intro (k_sipush (pc := 27) (by decide +kernel : decode cX12_undo 27 = .ok (.sipush 140, 3)) (by decide)) ?_
  refine And.intro (k_icmp_ge (pc := 30) (by decide +kernel : decode cX12_undo 30 = .ok (.if_icmp .ge 30, 3)) (by decide)) ?_
  refine And.intro (k_aload_n (pc := 33) (by decide +kernel : decode cX12_undo 33 = .ok (.aload_n 0, 1)) rfl) ?_
  refine And.intro (k_gR (pc := 34) rfl (by decide) rfl zin12 lk_X12_9 (by decide +kernel : decode cX12_undo 34 = .ok (.getfield 9, 3))) ?_
  refine And.intro (k_iload_n (pc := 37) (by decide +kernel : decode cX12_undo 37 = .ok (.iload_n 1, 1)) rfl) ?_
  refine And.intro (k_aload_n (pc := 38) (by decide +kernel : decode cX12_undo 38 = .ok (.aload_n 0, 1)) rfl) ?_
  refine And.intro (k_gR (pc := 39) rfl (by decide) rfl zin12 lk_X12_24 (by decide +kernel : decode cX12_undo 39 = .ok (.getfield 24, 3))) ?_
  refine And.intro (k_sipush (pc := 42) (by decide +kernel : decode cX12_undo 42 = .ok (.sipush 140, 3)) (by decide)) ?_
  refine And.intro (k_aload_n (pc := 45) (by decide +kernel : decode cX12_undo 45 = .ok (.aload_n 0, 1)) rfl) ?_
  refine And.intro (k_gI (pc := 46) rfl (by decide) rfl zin12 lk_X12_155 (by decide +kernel : decode cX12_undo 46 = .ok (.getfield 155, 3))) ?_
  refine And.intro (k_imul (pc := 49) (by decide +kernel : decode cX12_undo 49 = .ok (.imul, 1))) ?_
  refine And.intro (k_iload_n (pc := 50) (by decide +kernel : decode cX12_undo 50 = .ok (.iload_n 1, 1)) rfl) ?_
  refine And.intro (k_iadd (pc := 51) (by decide +kernel : decode cX12_undo 51 = .ok (.iadd, 1))) ?_
  refine And.intro (k_iald (pc := 52) (by decide +kernel : decode cX12_undo 52 = .ok (.iaload, 1))) ?_
  refine And.intro (k_iast (pc := 53) (by decide +kernel : decode cX12_undo 53 = .ok (.iastore, 1))) ?_
  refine And.intro (k_iinc (pc := 54) (by decide +kernel : decode cX12_undo 54 = .ok (.iinc 1 1, 3)) (by decide)) ?_
  refine And.intro (k_goto (pc := 57) (by decide +kernel : decode cX12_undo 57 = .ok (.goto (-31), 3)) (by decide)) ?_
  refine And.intro (k_aload_n (pc := 60) (by decide +kernel : decode cX12_undo 60 = .ok (.aload_n 0, 1)) rfl) ?_
  refine And.intro (k_gI (pc := 61) rfl (by decide) rfl zin12 lk_X12_155 (by decide +kernel : decode cX12_undo 61 = .ok (.getfield 155, 3))) ?_
  refine And.intro (k_ireturn (pc := 64) rfl (by decide +kernel : decode cX12_undo 64 = .ok (.ireturn, 1))) ?_
  exact trivial
theorem cdX12_undo : Cond.code yX12_undo cX12_undo 2 (some .int) ∈ zWs := zWs_in 1597 (by decide +kernel) rfl
noncomputable def pgX12_draw : zPg := [(0, o_al 0), (1, o_al 0), (2, o_gI 12 34), (5, o_ic (1103515245)), (8, o_imul), (9, o_ic (12345)), (12, o_iadd), (13, o_pI 12 34), (16, o_al 0), (17, o_gI 12 34), (20, o_ic (16)), (22, o_iushr), (23, o_il 1), (24, o_irem), (25, o_ir)]
set_option maxRecDepth 20000 in
theorem pkX12_draw {G : zG} (hG : zGok G) (Q : zRt) : zPOK G (zRm 0) RX12 cX12_draw 2 (some .int) (zF G Q 0 0) 0 0 (zCalls G 0) Q pgX12_draw := by
  refine And.intro (k_aload_n (pc := 0) (by decide +kernel : decode cX12_draw 0 = .ok (.aload_n 0, 1)) rfl) ?_
  refine And.intro (k_aload_n (pc := 1) (by decide +kernel : decode cX12_draw 1 = .ok (.aload_n 0, 1)) rfl) ?_
  refine And.intro (k_gI (pc := 2) rfl (by decide) rfl zin12 lk_X12_359 (by decide +kernel : decode cX12_draw 2 = .ok (.getfield 359, 3))) ?_
  refine And.intro (k_ldcw (pc := 5) cst_X12_362 (by decide +kernel : decode cX12_draw 5 = .ok (.ldc_w 362, 3))) ?_
  refine And.intro (k_imul (pc := 8) (by decide +kernel : decode cX12_draw 8 = .ok (.imul, 1))) ?_
  refine And.intro (k_sipush (pc := 9) (by decide +kernel : decode cX12_draw 9 = .ok (.sipush 12345, 3)) (by decide)) ?_
  refine And.intro (k_iadd (pc := 12) (by decide +kernel : decode cX12_draw 12 = .ok (.iadd, 1))) ?_
  refine And.intro (k_pI (pc := 13) rfl (by decide) rfl zin12 lk_X12_359 tyX12_ok nmX12 rfl (by decide +kernel) (by decide +kernel : decode cX12_draw 13 = .ok (.putfield 359, 3))) ?_
  refine And.intro (k_aload_n (pc := 16) (by decide +kernel : decode cX12_draw 16 = .ok (.aload_n 0, 1)) rfl) ?_
  refine And.intro (k_gI (pc := 17) rfl (by decide) rfl zin12 lk_X12_359 (by decide +kernel : decode cX12_draw 17 = .ok (.getfield 359, 3))) ?_
  refine And.intro (k_bipush (pc := 20) (by decide +kernel : decode cX12_draw 20 = .ok (.bipush 16, 2)) (by decide)) ?_
  refine And.intro (k_iushr (pc := 22) (by decide +kernel : decode cX12_draw 22 = .ok (.iushr, 1))) ?_
  refine And.intro (k_iload_n (pc := 23) (by decide +kernel : decode cX12_draw 23 = .ok (.iload_n 1, 1)) rfl) ?_
  refine And.intro (k_irem (pc := 24) (by decide +kernel : decode cX12_draw 24 = .ok (.irem, 1))) ?_
  refine And.intro (k_ireturn (pc := 25) rfl (by decide +kernel : decode cX12_draw 25 = .ok (.ireturn, 1))) ?_
  exact trivial
theorem cdX12_draw : Cond.code yX12_draw cX12_draw 2 (some .int) ∈ zWs := zWs_in 1609 (by decide +kernel) rfl
noncomputable def pgX12_goDrawn : zPg := [(0, o_al 0), (1, o_ic (3)), (2, o_vr2 yX12_draw 12 2), (5, o_sw [(0, 32), (1, 72)] 118), (32, o_al 0), (33, o_ic (6)), (35, o_vr2 yX12_draw 12 2), (38, o_is 1), (39, o_al 0), (40, o_ic (51)), (42, o_vr2 yX12_draw 12 2), (45, o_is 2), (46, o_al 0), (47, o_il 1), (48, o_il 2), (49, o_vr2 yX12_refusesBecome 12 3), (52, o_if_ge 57), (55, o_ic (0)), (56, o_ir), (57, o_al 0), (58, o_gR 12 0), (61, o_ic (1)), (62, o_ic (3)), (63, o_il 1), (64, o_imul), (65, o_iadd), (66, o_ic (2)), (67, o_iadd), (68, o_il 2), (69, o_yI), (70, o_ic (1)), (71, o_ir), (72, o_al 0), (73, o_ic (11)), (75, o_vr2 yX12_draw 12 2), (78, o_ic (5)), (79, o_isub), (80, o_is 1), (81, o_al 0), (82, o_ic (11)), (84, o_vr2 yX12_draw 12 2), (87, o_ic (5)), (88, o_isub), (89, o_is 2), (90, o_al 0), (91, o_ic (41)), (93, o_vr2 yX12_draw 12 2), (96, o_is 3), (97, o_al 0), (98, o_il 1), (99, o_il 2), (100, o_il 3), (101, o_vr2 yX12_refusesAdd 12 4), (104, o_if_ge 109), (107, o_ic (0)), (108, o_ir), (109, o_al 0), (110, o_il 1), (111, o_il 2), (112, o_il 3), (113, o_vv yX12_add 12 4), (116, o_ic (1)), (117, o_ir), (118, o_al 0), (119, o_ic (6)), (121, o_vr2 yX12_draw 12 2), (124, o_is 1), (125, o_al 0), (126, o_il 1), (127, o_vr2 yX12_isTold 12 2), (130, o_if_ne 135), (133, o_ic (0)), (134, o_ir), (135, o_al 0), (136, o_il 1), (137, o_vv yX12_drop 12 2), (140, o_ic (1)), (141, o_ir)]
set_option maxRecDepth 20000 in
theorem pkX12_goDrawn {G : zG} (hG : zGok G) (Q : zRt) : zPOK G (zRm 3) RX12 cX12_goDrawn 4 (some .int) (zF G Q 0 0) 0 0 (zCalls G 3) Q pgX12_goDrawn := by
  refine And.intro (k_aload_n (pc := 0) (by decide +kernel : decode cX12_goDrawn 0 = .ok (.aload_n 0, 1)) rfl) ?_
  refine And.intro (k_iconst (pc := 1) (by decide +kernel : decode cX12_goDrawn 1 = .ok (.iconst 3, 1)) (by decide)) ?_
  refine And.intro (k_crV (n := 1) (pc := 2) hG (zRoom_self 3) (tag := 12) rfl ini_X12 im_X12_draw se_X12_draw mk_X12_363 dy_X12_draw (by decide +kernel : decode cX12_goDrawn 2 = .ok (.invokevirtual 363, 3))) ?_
  refine And.intro (k_lsw (pc := 5) (by decide +kernel : decode cX12_goDrawn 5 = .ok (.lookupswitch 113 #[(0, 27), (1, 67)], 27)) (by decide) (zlsw_hit (by decide)) (zlsw_no (by decide) (by decide))) ?_
  refine And.intro (k_aload_n (pc := 32) (by decide +kernel : decode cX12_goDrawn 32 = .ok (.aload_n 0, 1)) rfl) ?_
  refine And.intro (k_bipush (pc := 33) (by decide +kernel : decode cX12_goDrawn 33 = .ok (.bipush 6, 2)) (by decide)) ?_
  refine And.intro (k_crV (n := 1) (pc := 35) hG (zRoom_self 3) (tag := 12) rfl ini_X12 im_X12_draw se_X12_draw mk_X12_363 dy_X12_draw (by decide +kernel : decode cX12_goDrawn 35 = .ok (.invokevirtual 363, 3))) ?_
  refine And.intro (k_istore_n (pc := 38) (by decide +kernel : decode cX12_goDrawn 38 = .ok (.istore_n 1, 1)) rfl) ?_
  refine And.intro (k_aload_n (pc := 39) (by decide +kernel : decode cX12_goDrawn 39 = .ok (.aload_n 0, 1)) rfl) ?_
  refine And.intro (k_bipush (pc := 40) (by decide +kernel : decode cX12_goDrawn 40 = .ok (.bipush 51, 2)) (by decide)) ?_
  refine And.intro (k_crV (n := 1) (pc := 42) hG (zRoom_self 3) (tag := 12) rfl ini_X12 im_X12_draw se_X12_draw mk_X12_363 dy_X12_draw (by decide +kernel : decode cX12_goDrawn 42 = .ok (.invokevirtual 363, 3))) ?_
  refine And.intro (k_istore_n (pc := 45) (by decide +kernel : decode cX12_goDrawn 45 = .ok (.istore_n 2, 1)) rfl) ?_
  refine And.intro (k_aload_n (pc := 46) (by decide +kernel : decode cX12_goDrawn 46 = .ok (.aload_n 0, 1)) rfl) ?_
  refine And.intro (k_iload_n (pc := 47) (by decide +kernel : decode cX12_goDrawn 47 = .ok (.iload_n 1, 1)) rfl) ?_
  refine And.intro (k_iload_n (pc := 48) (by decide +kernel : decode cX12_goDrawn 48 = .ok (.iload_n 2, 1)) rfl) ?_
  refine And.intro (k_crV (n := 2) (pc := 49) hG (zRoom_self 3) (tag := 12) rfl ini_X12 im_X12_refusesBecome se_X12_refusesBecome mk_X12_162 dy_X12_refusesBecome (by decide +kernel : decode cX12_goDrawn 49 = .ok (.invokevirtual 162, 3))) ?_
  refine And.intro (k_if_ge (pc := 52) (by decide +kernel : decode cX12_goDrawn 52 = .ok (.ifCond .ge 5, 3)) (by decide)) ?_
  refine And.intro (k_iconst (pc := 55) (by decide +kernel : decode cX12_goDrawn 55 = .ok (.iconst 0, 1)) (by decide)) ?_
  refine And.intro (k_ireturn (pc := 56) rfl (by decide +kernel : decode cX12_goDrawn 56 = .ok (.ireturn, 1))) ?_
  refine And.intro (k_aload_n (pc := 57) (by decide +kernel : decode cX12_goDrawn 57 = .ok (.aload_n 0, 1)) rfl) ?_
  refine And.intro (k_gR (pc := 58) rfl (by decide) rfl zin12 lk_X12_9 (by decide +kernel : decode cX12_goDrawn 58 = .ok (.getfield 9, 3))) ?_
  refine And.intro (k_iconst (pc := 61) (by decide +kernel : decode cX12_goDrawn 61 = .ok (.iconst 1, 1)) (by decide)) ?_
  refine And.intro (k_iconst (pc := 62) (by decide +kernel : decode cX12_goDrawn 62 = .ok (.iconst 3, 1)) (by decide)) ?_
  refine And.intro (k_iload_n (pc := 63) (by decide +kernel : decode cX12_goDrawn 63 = .ok (.iload_n 1, 1)) rfl) ?_
  refine And.intro (k_imul (pc := 64) (by decide +kernel : decode cX12_goDrawn 64 = .ok (.imul, 1))) ?_
  refine And.intro (k_iadd (pc := 65) (by decide +kernel : decode cX12_goDrawn 65 = .ok (.iadd, 1))) ?_
  refine And.intro (k_iconst (pc := 66) (by decide +kernel : decode cX12_goDrawn 66 = .ok (.iconst 2, 1)) (by decide)) ?_
  refine And.intro (k_iadd (pc := 67) (by decide +kernel : decode cX12_goDrawn 67 = .ok (.iadd, 1))) ?_
  refine And.intro (k_iload_n (pc := 68) (by decide +kernel : decode cX12_goDrawn 68 = .ok (.iload_n 2, 1)) rfl) ?_
  refine And.intro (k_iast (pc := 69) (by decide +kernel : decode cX12_goDrawn 69 = .ok (.iastore, 1))) ?_
  refine And.intro (k_iconst (pc := 70) (by decide +kernel : decode cX12_goDrawn 70 = .ok (.iconst 1, 1)) (by decide)) ?_
  refine And.intro (k_ireturn (pc := 71) rfl (by decide +kernel : decode cX12_goDrawn 71 = .ok (.ireturn, 1))) ?_
  refine And.intro (k_aload_n (pc := 72) (by decide +kernel : decode cX12_goDrawn 72 = .ok (.aload_n 0, 1)) rfl) ?_
  refine And.intro (k_bipush (pc := 73) (by decide +kernel : decode cX12_goDrawn 73 = .ok (.bipush 11, 2)) (by decide)) ?_
  refine And.intro (k_crV (n := 1) (pc := 75) hG (zRoom_self 3) (tag := 12) rfl ini_X12 im_X12_draw se_X12_draw mk_X12_363 dy_X12_draw (by decide +kernel : decode cX12_goDrawn 75 = .ok (.invokevirtual 363, 3))) ?_
  refine And.intro (k_iconst (pc := 78) (by decide +kernel : decode cX12_goDrawn 78 = .ok (.iconst 5, 1)) (by decide)) ?_
  refine And.intro (k_isub (pc := 79) (by decide +kernel : decode cX12_goDrawn 79 = .ok (.isub, 1))) ?_
  refine And.intro (k_istore_n (pc := 80) (by decide +kernel : decode cX12_goDrawn 80 = .ok (.istore_n 1, 1)) rfl) ?_
  refine And.intro (k_aload_n (pc := 81) (by decide +kernel : decode cX12_goDrawn 81 = .ok (.aload_n 0, 1)) rfl) ?_
  refine And.intro (k_bipush (pc := 82) (by decide +kernel : decode cX12_goDrawn 82 = .ok (.bipush 11, 2)) (by decide)) ?_
  refine And.intro (k_crV (n := 1) (pc := 84) hG (zRoom_self 3) (tag := 12) rfl ini_X12 im_X12_draw se_X12_draw mk_X12_363 dy_X12_draw (by decide +kernel : decode cX12_goDrawn 84 = .ok (.invokevirtual 363, 3))) ?_
  refine And.intro (k_iconst (pc := 87) (by decide +kernel : decode cX12_goDrawn 87 = .ok (.iconst 5, 1)) (by decide)) ?_
  refine And.intro (k_isub (pc := 88) (by decide +kernel : decode cX12_goDrawn 88 = .ok (.isub, 1))) ?_
  refine And.intro (k_istore_n (pc := 89) (by decide +kernel : decode cX12_goDrawn 89 = .ok (.istore_n 2, 1)) rfl) ?_
  refine And.intro (k_aload_n (pc := 90) (by decide +kernel : decode cX12_goDrawn 90 = .ok (.aload_n 0, 1)) rfl) ?_
  refine And.intro (k_bipush (pc := 91) (by decide +kernel : decode cX12_goDrawn 91 = .ok (.bipush 41, 2)) (by decide)) ?_
  refine And.intro (k_crV (n := 1) (pc := 93) hG (zRoom_self 3) (tag := 12) rfl ini_X12 im_X12_draw se_X12_draw mk_X12_363 dy_X12_draw (by decide +kernel : decode cX12_goDrawn 93 = .ok (.invokevirtual 363, 3))) ?_
  refine And.intro (k_istore_n (pc := 96) (by decide +kernel : decode cX12_goDrawn 96 = .ok (.istore_n 3, 1)) rfl) ?_
  refine And.intro (k_aload_n (pc := 97) (by decide +kernel : decode cX12_goDrawn 97 = .ok (.aload_n 0, 1)) rfl) ?_
  refine And.intro (k_iload_n (pc := 98) (by decide +kernel : decode cX12_goDrawn 98 = .ok (.iload_n 1, 1)) rfl) ?_
  refine And.intro (k_iload_n (pc := 99) (by decide +kernel : decode cX12_goDrawn 99 = .ok (.iload_n 2, 1)) rfl) ?_
  refine And.intro (k_iload_n (pc := 100) (by decide +kernel : decode cX12_goDrawn 100 = .ok (.iload_n 3, 1)) rfl) ?_
  refine And.intro (k_crV (n := 3) (pc := 101) hG (zRoom_self 3) (tag := 12) rfl ini_X12 im_X12_refusesAdd se_X12_refusesAdd mk_X12_165 dy_X12_refusesAdd (by decide +kernel : decode cX12_goDrawn 101 = .ok (.invokevirtual 165, 3))) ?_
  refine And.intro (k_if_ge (pc := 104) (by decide +kernel : decode cX12_goDrawn 104 = .ok (.ifCond .ge 5, 3)) (by decide)) ?_
  refine And.intro (k_iconst (pc := 107) (by decide +kernel : decode cX12_goDrawn 107 = .ok (.iconst 0, 1)) (by decide)) ?_
  refine And.intro (k_ireturn (pc := 108) rfl (by decide +kernel : decode cX12_goDrawn 108 = .ok (.ireturn, 1))) ?_
  refine And.intro (k_aload_n (pc := 109) (by decide +kernel : decode cX12_goDrawn 109 = .ok (.aload_n 0, 1)) rfl) ?_
  refine And.intro (k_iload_n (pc := 110) (by decide +kernel : decode cX12_goDrawn 110 = .ok (.iload_n 1, 1)) rfl) ?_
  refine And.intro (k_iload_n (pc := 111) (by decide +kernel : decode cX12_goDrawn 111 = .ok (.iload_n 2, 1)) rfl) ?_
  refine And.intro (k_iload_n (pc := 112) (by decide +kernel : decode cX12_goDrawn 112 = .ok (.iload_n 3, 1)) rfl) ?_
  refine And.intro (k_cvV (n := 3) (pc := 113) hG (zRoom_self 3) (tag := 12) rfl ini_X12 im_X12_add se_X12_add mk_X12_169 dy_X12_add (by decide +kernel : decode cX12_goDrawn 113 = .ok (.invokevirtual 169, 3))) ?_
  refine And.intro (k_iconst (pc := 116) (by decide +kernel : decode cX12_goDrawn 116 = .ok (.iconst 1, 1)) (by decide)) ?_
  refine And.intro (k_ireturn (pc := 117) rfl (by decide +kernel : decode cX12_goDrawn 117 = .ok (.ireturn, 1))) ?_
  refine And.intro (k_aload_n (pc := 118) (by decide +kernel : decode cX12_goDrawn 118 = .ok (.aload_n 0, 1)) rfl) ?_
  refine And.intro (k_bipush (pc := 119) (by decide +kernel : decode cX12_goDrawn 119 = .ok (.bipush 6, 2)) (by decide)) ?_
  refine And.intro (k_crV (n := 1) (pc := 121) hG (zRoom_self 3) (tag := 12) rfl ini_X12 im_X12_draw se_X12_draw mk_X12_363 dy_X12_draw (by decide +kernel : decode cX12_goDrawn 121 = .ok (.invokevirtual 363, 3))) ?_
  refine And.intro (k_istore_n (pc := 124) (by decide +kernel : decode cX12_goDrawn 124 = .ok (.istore_n 1, 1)) rfl) ?_
  refine And.intro (k_aload_n (pc := 125) (by decide +kernel : decode cX12_goDrawn 125 = .ok (.aload_n 0, 1)) rfl) ?_
  refine And.intro (k_iload_n (pc := 126) (by decide +kernel : decode cX12_goDrawn 126 = .ok (.iload_n 1, 1)) rfl) ?_
  refine And.intro (k_crV (n := 1) (pc := 127) hG (zRoom_self 3) (tag := 12) rfl ini_X12 im_X12_isTold se_X12_isTold mk_X12_158 dy_X12_isTold (by decide +kernel : decode cX12_goDrawn 127 = .ok (.invokevirtual 158, 3))) ?_
  refine And.intro (k_if_ne (pc := 130) (by decide +kernel : decode cX12_goDrawn 130 = .ok (.ifCond .ne 5, 3)) (by decide)) ?_
  refine And.intro (k_iconst (pc := 133) (by decide +kernel : decode cX12_goDrawn 133 = .ok (.iconst 0, 1)) (by decide)) ?_
  refine And.intro (k_ireturn (pc := 134) rfl (by decide +kernel : decode cX12_goDrawn 134 = .ok (.ireturn, 1))) ?_
  refine And.intro (k_aload_n (pc := 135) (by decide +kernel : decode cX12_goDrawn 135 = .ok (.aload_n 0, 1)) rfl) ?_
  refine And.intro (k_iload_n (pc := 136) (by decide +kernel : decode cX12_goDrawn 136 = .ok (.iload_n 1, 1)) rfl) ?_
  refine And.intro (k_cvV (n := 1) (pc := 137) hG (zRoom_self 3) (tag := 12) rfl ini_X12 im_X12_drop se_X12_drop mk_X12_173 dy_X12_drop (by decide +kernel : decode cX12_goDrawn 137 = .ok (.invokevirtual 173, 3))) ?_
  refine And.intro (k_iconst (pc := 140) (by decide +kernel : decode cX12_goDrawn 140 = .ok (.iconst 1, 1)) (by decide)) ?_
  refine And.intro (k_ireturn (pc := 141) rfl (by decide +kernel : decode cX12_goDrawn 141 = .ok (.ireturn, 1))) ?_
  exact trivial
theorem cdX12_goDrawn : Cond.code yX12_goDrawn cX12_goDrawn 4 (some .int) ∈ zWs := zWs_in 1605 (by decide +kernel) rfl
noncomputable def pgX12_years : zPg := [(0, o_al 0), (1, o_ic (0)), (2, o_pI 12 5), (5, o_il 2), (6, o_ic (1)), (7, o_ic (20)), (9, o_cr yX12_in 3), (12, o_if_ne 17), (15, o_ic (-1)), (16, o_ir), (17, o_al 0), (18, o_il 1), (19, o_pI 12 34), (22, o_ic (0)), (23, o_is 3), (24, o_il 3), (25, o_ic (140)), (28, o_ic_ge 49), (31, o_al 0), (32, o_gR 12 14), (35, o_il 3), (36, o_al 0), (37, o_gR 12 0), (40, o_il 3), (41, o_xI 14), (42, o_yI), (43, o_inc 3 (1)), (46, o_go 24), (49, o_ic (0)), (50, o_is 3), (51, o_ic (0)), (52, o_is 4), (54, o_il 4), (56, o_il 2), (57, o_ic_ge 73), (60, o_il 3), (61, o_al 0), (62, o_vr2 yX12_goDrawn 12 1), (65, o_iadd), (66, o_is 3), (67, o_inc 4 (1)), (70, o_go 54), (73, o_al 0), (74, o_vv yX12_layWholes 12 1), (77, o_al 0), (78, o_ic (0)), (79, o_pI 12 4), (82, o_al 0), (83, o_al 0), (84, o_gR 12 0), (87, o_ic (0)), (88, o_xI 14), (89, o_i2l), (90, o_vv yX12_tell 12 2), (93, o_al 0), (94, o_il 3), (95, o_i2l), (96, o_vv yX12_tell 12 2), (99, o_ic (0)), (100, o_is 4), (102, o_il 4), (104, o_ic (140)), (107, o_ic_ge 130), (110, o_al 0), (111, o_gR 12 0), (114, o_il 4), (116, o_al 0), (117, o_gR 12 14), (120, o_il 4), (122, o_xI 14), (123, o_yI), (124, o_inc 4 (1)), (127, o_go 102), (130, o_al 0), (131, o_gI 12 29), (134, o_ir)]
set_option maxRecDepth 20000 in
theorem pkX12_years {G : zG} (hG : zGok G) (Q : zRt) : zPOK G (zRm 5) RX12 cX12_years 5 (some .int) (zF G Q 0 0) 0 0 (zCalls G 5) Q pgX12_years := by
  refine And.intro (k_aload_n (pc := 0) (by decide +kernel : decode cX12_years 0 = .ok (.aload_n 0, 1)) rfl) ?_
  refine And.intro (k_iconst (pc := 1) (by decide +kernel : decode cX12_years 1 = .ok (.iconst 0, 1)) (by decide)) ?_
  refine And.intro (k_pI (pc := 2) rfl (by decide) rfl zin12 lk_X12_55 tyX12_ok nmX12 rfl (by decide +kernel) (by decide +kernel : decode cX12_years 2 = .ok (.putfield 55, 3))) ?_
  refine And.intro (k_iload_n (pc := 5) (by decide +kernel : decode cX12_years 5 = .ok (.iload_n 2, 1)) rfl) ?_
  refine And.intro (k_iconst (pc := 6) (by decide +kernel : decode cX12_years 6 = .ok (.iconst 1, 1)) (by decide)) ?_
  refine And.intro (k_bipush (pc := 7) (by decide +kernel : decode cX12_years 7 = .ok (.bipush 20, 2)) (by decide)) ?_
  refine And.intro (k_crS (n := 3) (pc := 9) hG (zRoom_self 5) ini_X12 sta_X12_in mk_X12_87 dy_X12_in (by decide +kernel : decode cX12_years 9 = .ok (.invokestatic 87, 3))) ?_
  refine And.intro (k_if_ne (pc := 12) (by decide +kernel : decode cX12_years 12 = .ok (.ifCond .ne 5, 3)) (by decide)) ?_
  refine And.intro (k_iconst (pc := 15) (by decide +kernel : decode cX12_years 15 = .ok (.iconst (-1), 1)) (by decide)) ?_
  refine And.intro (k_ireturn (pc := 16) rfl (by decide +kernel : decode cX12_years 16 = .ok (.ireturn, 1))) ?_
  refine And.intro (k_aload_n (pc := 17) (by decide +kernel : decode cX12_years 17 = .ok (.aload_n 0, 1)) rfl) ?_
  refine And.intro (k_iload_n (pc := 18) (by decide +kernel : decode cX12_years 18 = .ok (.iload_n 1, 1)) rfl) ?_
  refine And.intro (k_pI (pc := 19) rfl (by decide) rfl zin12 lk_X12_359 tyX12_ok nmX12 rfl (by decide +kernel) (by decide +kernel : decode cX12_years 19 = .ok (.putfield 359, 3))) ?_
  refine And.intro (k_iconst (pc := 22) (by decide +kernel : decode cX12_years 22 = .ok (.iconst 0, 1)) (by decide)) ?_
  refine And.intro (k_istore_n (pc := 23) (by decide +kernel : decode cX12_years 23 = .ok (.istore_n 3, 1)) rfl) ?_
  refine And.intro (k_iload_n (pc := 24) (by decide +kernel : decode cX12_years 24 = .ok (.iload_n 3, 1)) rfl) ?_
  refine And.intro (k_sipush (pc := 25) (by decide +kernel : decode cX12_years 25 = .ok (.sipush 140, 3)) (by decide)) ?_
  refine And.intro (k_icmp_ge (pc := 28) (by decide +kernel : decode cX12_years 28 = .ok (.if_icmp .ge 21, 3)) (by decide)) ?_
  refine And.intro (k_aload_n (pc := 31) (by decide +kernel : decode cX12_years 31 = .ok (.aload_n 0, 1)) rfl) ?_
  refine And.intro (k_gR (pc := 32) rfl (by decide) rfl zin12 lk_X12_27 (by decide +kernel : decode cX12_years 32 = .ok (.getfield 27, 3))) ?_
  refine And.intro (k_iload_n (pc := 35) (by decide +kernel : decode cX12_years 35 = .ok (.iload_n 3, 1)) rfl) ?_
  refine And.intro (k_aload_n (pc := 36) (by decide +kernel : decode cX12_years 36 = .ok (.aload_n 0, 1)) rfl) ?_
  refine And.intro (k_gR (pc := 37) rfl (by decide) rfl zin12 lk_X12_9 (by decide +kernel : decode cX12_years 37 = .ok (.getfield 9, 3))) ?_
  refine And.intro (k_iload_n (pc := 40) (by decide +kernel : decode cX12_years 40 = .ok (.iload_n 3, 1)) rfl) ?_
  refine And.intro (k_iald (pc := 41) (by decide +kernel : decode cX12_years 41 = .ok (.iaload, 1))) ?_
  refine And.intro (k_iast (pc := 42) (by decide +kernel : decode cX12_years 42 = .ok (.iastore, 1))) ?_
  refine And.intro (k_iinc (pc := 43) (by decide +kernel : decode cX12_years 43 = .ok (.iinc 3 1, 3)) (by decide)) ?_
  refine And.intro (k_goto (pc := 46) (by decide +kernel : decode cX12_years 46 = .ok (.goto (-22), 3)) (by decide)) ?_
  refine And.intro (k_iconst (pc := 49) (by decide +kernel : decode cX12_years 49 = .ok (.iconst 0, 1)) (by decide)) ?_
  refine And.intro (k_istore_n (pc := 50) (by decide +kernel : decode cX12_years 50 = .ok (.istore_n 3, 1)) rfl) ?_
  refine And.intro (k_iconst (pc := 51) (by decide +kernel : decode cX12_years 51 = .ok (.iconst 0, 1)) (by decide)) ?_
  refine And.intro (k_istore (pc := 52) (by decide +kernel : decode cX12_years 52 = .ok (.istore 4, 2))) ?_
  refine And.intro (k_iload (pc := 54) (by decide +kernel : decode cX12_years 54 = .ok (.iload 4, 2))) ?_
  refine And.intro (k_iload_n (pc := 56) (by decide +kernel : decode cX12_years 56 = .ok (.iload_n 2, 1)) rfl) ?_
  refine And.intro (k_icmp_ge (pc := 57) (by decide +kernel : decode cX12_years 57 = .ok (.if_icmp .ge 16, 3)) (by decide)) ?_
  refine And.intro (k_iload_n (pc := 60) (by decide +kernel : decode cX12_years 60 = .ok (.iload_n 3, 1)) rfl) ?_
  refine And.intro (k_aload_n (pc := 61) (by decide +kernel : decode cX12_years 61 = .ok (.aload_n 0, 1)) rfl) ?_
  refine And.intro (k_crV (n := 0) (pc := 62) hG (zRoom_self 5) (tag := 12) rfl ini_X12 im_X12_goDrawn se_X12_goDrawn mk_X12_366 dy_X12_goDrawn (by decide +kernel : decode cX12_years 62 = .ok (.invokevirtual 366, 3))) ?_
  refine And.intro (k_iadd (pc := 65) (by decide +kernel : decode cX12_years 65 = .ok (.iadd, 1))) ?_
  refine And.intro (k_istore_n (pc := 66) (by decide +kernel : decode cX12_years 66 = .ok (.istore_n 3, 1)) rfl) ?_
  refine And.intro (k_iinc (pc := 67) (by decide +kernel : decode cX12_years 67 = .ok (.iinc 4 1, 3)) (by decide)) ?_
  refine And.intro (k_goto (pc := 70) (by decide +kernel : decode cX12_years 70 = .ok (.goto (-16), 3)) (by decide)) ?_
  refine And.intro (k_aload_n (pc := 73) (by decide +kernel : decode cX12_years 73 = .ok (.aload_n 0, 1)) rfl) ?_
  refine And.intro (k_cvV (n := 0) (pc := 74) hG (zRoom_self 5) (tag := 12) rfl ini_X12 im_X12_layWholes se_X12_layWholes mk_X12_309 dy_X12_layWholes (by decide +kernel : decode cX12_years 74 = .ok (.invokevirtual 309, 3))) ?_
  refine And.intro (k_aload_n (pc := 77) (by decide +kernel : decode cX12_years 77 = .ok (.aload_n 0, 1)) rfl) ?_
  refine And.intro (k_iconst (pc := 78) (by decide +kernel : decode cX12_years 78 = .ok (.iconst 0, 1)) (by decide)) ?_
  refine And.intro (k_pI (pc := 79) rfl (by decide) rfl zin12 lk_X12_59 tyX12_ok nmX12 rfl (by decide +kernel) (by decide +kernel : decode cX12_years 79 = .ok (.putfield 59, 3))) ?_
  refine And.intro (k_aload_n (pc := 82) (by decide +kernel : decode cX12_years 82 = .ok (.aload_n 0, 1)) rfl) ?_
  refine And.intro (k_aload_n (pc := 83) (by decide +kernel : decode cX12_years 83 = .ok (.aload_n 0, 1)) rfl) ?_
  refine And.intro (k_gR (pc := 84) rfl (by decide) rfl zin12 lk_X12_9 (by decide +kernel : decode cX12_years 84 = .ok (.getfield 9, 3))) ?_
  refine And.intro (k_iconst (pc := 87) (by decide +kernel : decode cX12_years 87 = .ok (.iconst 0, 1)) (by decide)) ?_
  refine And.intro (k_iald (pc := 88) (by decide +kernel : decode cX12_years 88 = .ok (.iaload, 1))) ?_
  refine And.intro (k_i2l (pc := 89) (by decide +kernel : decode cX12_years 89 = .ok (.i2l, 1))) ?_
  refine And.intro (k_cvV (n := 1) (pc := 90) hG (zRoom_self 5) (tag := 12) rfl ini_X12 im_X12_tell se_X12_tell mk_X12_80 dy_X12_tell (by decide +kernel : decode cX12_years 90 = .ok (.invokevirtual 80, 3))) ?_
  refine And.intro (k_aload_n (pc := 93) (by decide +kernel : decode cX12_years 93 = .ok (.aload_n 0, 1)) rfl) ?_
  refine And.intro (k_iload_n (pc := 94) (by decide +kernel : decode cX12_years 94 = .ok (.iload_n 3, 1)) rfl) ?_
  refine And.intro (k_i2l (pc := 95) (by decide +kernel : decode cX12_years 95 = .ok (.i2l, 1))) ?_
  refine And.intro (k_cvV (n := 1) (pc := 96) hG (zRoom_self 5) (tag := 12) rfl ini_X12 im_X12_tell se_X12_tell mk_X12_80 dy_X12_tell (by decide +kernel : decode cX12_years 96 = .ok (.invokevirtual 80, 3))) ?_
  refine And.intro (k_iconst (pc := 99) (by decide +kernel : decode cX12_years 99 = .ok (.iconst 0, 1)) (by decide)) ?_
  refine And.intro (k_istore (pc := 100) (by decide +kernel : decode cX12_years 100 = .ok (.istore 4, 2))) ?_
  refine And.intro (k_iload (pc := 102) (by decide +kernel : decode cX12_years 102 = .ok (.iload 4, 2))) ?_
  refine And.intro (k_sipush (pc := 104) (by decide +kernel : decode cX12_years 104 = .ok (.sipush 140, 3)) (by decide)) ?_
  refine And.intro (k_icmp_ge (pc := 107) (by decide +kernel : decode cX12_years 107 = .ok (.if_icmp .ge 23, 3)) (by decide)) ?_
  refine And.intro (k_aload_n (pc := 110) (by decide +kernel : decode cX12_years 110 = .ok (.aload_n 0, 1)) rfl) ?_
  refine And.intro (k_gR (pc := 111) rfl (by decide) rfl zin12 lk_X12_9 (by decide +kernel : decode cX12_years 111 = .ok (.getfield 9, 3))) ?_
  refine And.intro (k_iload (pc := 114) (by decide +kernel : decode cX12_years 114 = .ok (.iload 4, 2))) ?_
  refine And.intro (k_aload_n (pc := 116) (by decide +kernel : decode cX12_years 116 = .ok (.aload_n 0, 1)) rfl) ?_
  refine And.intro (k_gR (pc := 117) rfl (by decide) rfl zin12 lk_X12_27 (by decide +kernel : decode cX12_years 117 = .ok (.getfield 27, 3))) ?_
  refine And.intro (k_iload (pc := 120) (by decide +kernel : decode cX12_years 120 = .ok (.iload 4, 2))) ?_
  refine And.intro (k_iald (pc := 122) (by decide +kernel : decode cX12_years 122 = .ok (.iaload, 1))) ?_
  refine And.intro (k_iast (pc := 123) (by decide +kernel : decode cX12_years 123 = .ok (.iastore, 1))) ?_
  refine And.intro (k_iinc (pc := 124) (by decide +kernel : decode cX12_years 124 = .ok (.iinc 4 1, 3)) (by decide)) ?_
  refine And.intro (k_goto (pc := 127) (by decide +kernel : decode cX12_years 127 = .ok (.goto (-25), 3)) (by decide)) ?_
  refine And.intro (k_aload_n (pc := 130) (by decide +kernel : decode cX12_years 130 = .ok (.aload_n 0, 1)) rfl) ?_
  refine And.intro (k_gI (pc := 131) rfl (by decide) rfl zin12 lk_X12_306 (by decide +kernel : decode cX12_years 131 = .ok (.getfield 306, 3))) ?_
  refine And.intro (k_ireturn (pc := 134) rfl (by decide +kernel : decode cX12_years 134 = .ok (.ireturn, 1))) ?_
  exact trivial
theorem cdX12_years : Cond.code yX12_years cX12_years 5 (some .int) ∈ zWs := zWs_in 1601 (by decide +kernel) rfl
noncomputable def pgX12_keep : zPg := [(0, o_al 0), (1, o_ic (0)), (2, o_pI 12 5), (5, o_il 1), (6, o_ic (0)), (7, o_ic (1)), (8, o_cr yX12_in 3), (11, o_if_ne 16), (14, o_ic (0)), (15, o_zr), (16, o_al 0), (17, o_gR 12 36), (20, o_il 1), (21, o_ic (1)), (22, o_yZ), (23, o_ic (0)), (24, o_is 2), (25, o_il 2), (26, o_ic (140)), (29, o_ic_ge 56), (32, o_al 0), (33, o_gR 12 35), (36, o_ic (140)), (39, o_il 1), (40, o_imul), (41, o_il 2), (42, o_iadd), (43, o_al 0), (44, o_gR 12 0), (47, o_il 2), (48, o_xI 14), (49, o_yI), (50, o_inc 2 (1)), (53, o_go 25), (56, o_ic (1)), (57, o_zr)]
set_option maxRecDepth 20000 in
theorem pkX12_keep {G : zG} (hG : zGok G) (Q : zRt) : zPOK G (zRm 1) RX12 cX12_keep 3 (some .boolean) (zF G Q 0 0) 0 0 (zCalls G 1) Q pgX12_keep := by
  refine And.intro (k_aload_n (pc := 0) (by decide +kernel : decode cX12_keep 0 = .ok (.aload_n 0, 1)) rfl) ?_
  refine And.intro (k_iconst (pc := 1) (by decide +kernel : decode cX12_keep 1 = .ok (.iconst 0, 1)) (by decide)) ?_
  refine And.intro (k_pI (pc := 2) rfl (by decide) rfl zin12 lk_X12_55 tyX12_ok nmX12 rfl (by decide +kernel) (by decide +kernel : decode cX12_keep 2 = .ok (.putfield 55, 3))) ?_
  refine And.intro (k_iload_n (pc := 5) (by decide +kernel : decode cX12_keep 5 = .ok (.iload_n 1, 1)) rfl) ?_
  refine And.intro (k_iconst (pc := 6) (by decide +kernel : decode cX12_keep 6 = .ok (.iconst 0, 1)) (by decide)) ?_
  refine And.intro (k_iconst (pc := 7) (by decide +kernel : decode cX12_keep 7 = .ok (.iconst 1, 1)) (by decide)) ?_
  refine And.intro (k_crS (n := 3) (pc := 8) hG (zRoom_self 1) ini_X12 sta_X12_in mk_X12_87 dy_X12_in (by decide +kernel : decode cX12_keep 8 = .ok (.invokestatic 87, 3))) ?_
  refine And.intro (k_if_ne (pc := 11) (by decide +kernel : decode cX12_keep 11 = .ok (.ifCond .ne 5, 3)) (by decide)) ?_
  refine And.intro (k_iconst (pc := 14) (by decide +kernel : decode cX12_keep 14 = .ok (.iconst 0, 1)) (by decide)) ?_
  refine And.intro (k_zreturn (pc := 15) rfl (by decide +kernel : decode cX12_keep 15 = .ok (.ireturn, 1))) ?_
  refine And.intro (k_aload_n (pc := 16) (by decide +kernel : decode cX12_keep 16 = .ok (.aload_n 0, 1)) rfl) ?_
  refine And.intro (k_gR (pc := 17) rfl (by decide) rfl zin12 lk_X12_52 (by decide +kernel : decode cX12_keep 17 = .ok (.getfield 52, 3))) ?_
  refine And.intro (k_iload_n (pc := 20) (by decide +kernel : decode cX12_keep 20 = .ok (.iload_n 1, 1)) rfl) ?_
  refine And.intro (k_iconst (pc := 21) (by decide +kernel : decode cX12_keep 21 = .ok (.iconst 1, 1)) (by decide)) ?_
  refine And.intro (k_zast (pc := 22) (by decide +kernel : decode cX12_keep 22 = .ok (.bastore, 1))) ?_
  refine And.intro (k_iconst (pc := 23) (by decide +kernel : decode cX12_keep 23 = .ok (.iconst 0, 1)) (by decide)) ?_
  refine And.intro (k_istore_n (pc := 24) (by decide +kernel : decode cX12_keep 24 = .ok (.istore_n 2, 1)) rfl) ?_
  refine And.intro (k_iload_n (pc := 25) (by decide +kernel : decode cX12_keep 25 = .ok (.iload_n 2, 1)) rfl) ?_
  refine And.intro (k_sipush (pc := 26) (by decide +kernel : decode cX12_keep 26 = .ok (.sipush 140, 3)) (by decide)) ?_
  refine And.intro (k_icmp_ge (pc := 29) (by decide +kernel : decode cX12_keep 29 = .ok (.if_icmp .ge 27, 3)) (by decide)) ?_
  refine And.intro (k_aload_n (pc := 32) (by decide +kernel : decode cX12_keep 32 = .ok (.aload_n 0, 1)) rfl) ?_
  refine And.intro (k_gR (pc := 33) rfl (by decide) rfl zin12 lk_X12_49 (by decide +kernel : decode cX12_keep 33 = .ok (.getfield 49, 3))) ?_
  refine And.intro (k_sipush (pc := 36) (by decide +kernel : decode cX12_keep 36 = .ok (.sipush 140, 3)) (by decide)) ?_
  refine And.intro (k_iload_n (pc := 39) (by decide +kernel : decode cX12_keep 39 = .ok (.iload_n 1, 1)) rfl) ?_
  refine And.intro (k_imul (pc := 40) (by decide +kernel : decode cX12_keep 40 = .ok (.imul, 1))) ?_
  refine And.intro (k_iload_n (pc := 41) (by decide +kernel : decode cX12_keep 41 = .ok (.iload_n 2, 1)) rfl) ?_
  refine And.intro (k_iadd (pc := 42) (by decide +kernel : decode cX12_keep 42 = .ok (.iadd, 1))) ?_
  refine And.intro (k_aload_n (pc := 43) (by decide +kernel : decode cX12_keep 43 = .ok (.aload_n 0, 1)) rfl) ?_
  refine And.intro (k_gR (pc := 44) rfl (by decide) rfl zin12 lk_X12_9 (by decide +kernel : decode cX12_keep 44 = .ok (.getfield 9, 3))) ?_
  refine And.intro (k_iload_n (pc := 47) (by decide +kernel : decode cX12_keep 47 = .ok (.iload_n 2, 1)) rfl) ?_
  refine And.intro (k_iald (pc := 48) (by decide +kernel : decode cX12_keep 48 = .ok (.iaload, 1))) ?_
  refine And.intro (k_iast (pc := 49) (by decide +kernel : decode cX12_keep 49 = .ok (.iastore, 1))) ?_
  refine And.intro (k_iinc (pc := 50) (by decide +kernel : decode cX12_keep 50 = .ok (.iinc 2 1, 3)) (by decide)) ?_
  refine And.intro (k_goto (pc := 53) (by decide +kernel : decode cX12_keep 53 = .ok (.goto (-28), 3)) (by decide)) ?_
  refine And.intro (k_iconst (pc := 56) (by decide +kernel : decode cX12_keep 56 = .ok (.iconst 1, 1)) (by decide)) ?_
  refine And.intro (k_zreturn (pc := 57) rfl (by decide +kernel : decode cX12_keep 57 = .ok (.ireturn, 1))) ?_
  exact trivial
theorem cdX12_keep : Cond.code yX12_keep cX12_keep 3 (some .boolean) ∈ zWs := zWs_in 1614 (by decide +kernel) rfl
noncomputable def pgX12_again : zPg := [(0, o_al 0), (1, o_ic (0)), (2, o_pI 12 5), (5, o_il 1), (6, o_ic (0)), (7, o_ic (1)), (8, o_cr yX12_in 3), (11, o_if_eq 23), (14, o_al 0), (15, o_gR 12 36), (18, o_il 1), (19, o_xI 16), (20, o_if_ne 25), (23, o_ic (0)), (24, o_zr), (25, o_ic (0)), (26, o_is 2), (27, o_il 2), (28, o_ic (140)), (31, o_ic_ge 58), (34, o_al 0), (35, o_gR 12 0), (38, o_il 2), (39, o_al 0), (40, o_gR 12 35), (43, o_ic (140)), (46, o_il 1), (47, o_imul), (48, o_il 2), (49, o_iadd), (50, o_xI 14), (51, o_yI), (52, o_inc 2 (1)), (55, o_go 27), (58, o_al 0), (59, o_ic (0)), (60, o_pI 12 13), (63, o_ic (1)), (64, o_zr)]
set_option maxRecDepth 20000 in
theorem pkX12_again {G : zG} (hG : zGok G) (Q : zRt) : zPOK G (zRm 1) RX12 cX12_again 3 (some .boolean) (zF G Q 0 0) 0 0 (zCalls G 1) Q pgX12_again := by
  refine And.intro (k_aload_n (pc := 0) (by decide +kernel : decode cX12_again 0 = .ok (.aload_n 0, 1)) rfl) ?_
  refine And.intro (k_iconst (pc := 1) (by decide +kernel : decode cX12_again 1 = .ok (.iconst 0, 1)) (by decide)) ?_
  refine And.intro (k_pI (pc := 2) rfl (by decide) rfl zin12 lk_X12_55 tyX12_ok nmX12 rfl (by decide +kernel) (by decide +kernel : decode cX12_again 2 = .ok (.putfield 55, 3))) ?_
  refine And.intro (k_iload_n (pc := 5) (by decide +kernel : decode cX12_again 5 = .ok (.iload_n 1, 1)) rfl) ?_
  refine And.intro (k_iconst (pc := 6) (by decide +kernel : decode cX12_again 6 = .ok (.iconst 0, 1)) (by decide)) ?_
  refine And.intro (k_iconst (pc := 7) (by decide +kernel : decode cX12_again 7 = .ok (.iconst 1, 1)) (by decide)) ?_
  refine And.intro (k_crS (n := 3) (pc := 8) hG (zRoom_self 1) ini_X12 sta_X12_in mk_X12_87 dy_X12_in (by decide +kernel : decode cX12_again 8 = .ok (.invokestatic 87, 3))) ?_
  refine And.intro (k_if_eq (pc := 11) (by decide +kernel : decode cX12_again 11 = .ok (.ifCond .eq 12, 3)) (by decide)) ?_
  refine And.intro (k_aload_n (pc := 14) (by decide +kernel : decode cX12_again 14 = .ok (.aload_n 0, 1)) rfl) ?_
  refine And.intro (k_gR (pc := 15) rfl (by decide) rfl zin12 lk_X12_52 (by decide +kernel : decode cX12_again 15 = .ok (.getfield 52, 3))) ?_
  refine And.intro (k_iload_n (pc := 18) (by decide +kernel : decode cX12_again 18 = .ok (.iload_n 1, 1)) rfl) ?_
  refine And.intro (k_zald (pc := 19) (by decide +kernel : decode cX12_again 19 = .ok (.baload, 1))) ?_
  refine And.intro (k_if_ne (pc := 20) (by decide +kernel : decode cX12_again 20 = .ok (.ifCond .ne 5, 3)) (by decide)) ?_
  refine And.intro (k_iconst (pc := 23) (by decide +kernel : decode cX12_again 23 = .ok (.iconst 0, 1)) (by decide)) ?_
  refine And.intro (k_zreturn (pc := 24) rfl (by decide +kernel : decode cX12_again 24 = .ok (.ireturn, 1))) ?_
  refine And.intro (k_iconst (pc := 25) (by decide +kernel : decode cX12_again 25 = .ok (.iconst 0, 1)) (by decide)) ?_
  refine And.intro (k_istore_n (pc := 26) (by decide +kernel : decode cX12_again 26 = .ok (.istore_n 2, 1)) rfl) ?_
  refine And.intro (k_iload_n (pc := 27) (by decide +kernel : decode cX12_again 27 = .ok (.iload_n 2, 1)) rfl) ?_
  refine And.intro (k_sipush (pc := 28) (by decide +kernel : decode cX12_again 28 = .ok (.sipush 140, 3)) (by decide)) ?_
  refine And.intro (k_icmp_ge (pc := 31) (by decide +kernel : decode cX12_again 31 = .ok (.if_icmp .ge 27, 3)) (by decide)) ?_
  refine And.intro (k_aload_n (pc := 34) (by decide +kernel : decode cX12_again 34 = .ok (.aload_n 0, 1)) rfl) ?_
  refine And.intro (k_gR (pc := 35) rfl (by decide) rfl zin12 lk_X12_9 (by decide +kernel : decode cX12_again 35 = .ok (.getfield 9, 3))) ?_
  refine And.intro (k_iload_n (pc := 38) (by decide +kernel : decode cX12_again 38 = .ok (.iload_n 2, 1)) rfl) ?_
  refine And.intro (k_aload_n (pc := 39) (by decide +kernel : decode cX12_again 39 = .ok (.aload_n 0, 1)) rfl) ?_
  refine And.intro (k_gR (pc := 40) rfl (by decide) rfl zin12 lk_X12_49 (by decide +kernel : decode cX12_again 40 = .ok (.getfield 49, 3))) ?_
  refine And.intro (k_sipush (pc := 43) (by decide +kernel : decode cX12_again 43 = .ok (.sipush 140, 3)) (by decide)) ?_
  refine And.intro (k_iload_n (pc := 46) (by decide +kernel : decode cX12_again 46 = .ok (.iload_n 1, 1)) rfl) ?_
  refine And.intro (k_imul (pc := 47) (by decide +kernel : decode cX12_again 47 = .ok (.imul, 1))) ?_
  refine And.intro (k_iload_n (pc := 48) (by decide +kernel : decode cX12_again 48 = .ok (.iload_n 2, 1)) rfl) ?_
  refine And.intro (k_iadd (pc := 49) (by decide +kernel : decode cX12_again 49 = .ok (.iadd, 1))) ?_
  refine And.intro (k_iald (pc := 50) (by decide +kernel : decode cX12_again 50 = .ok (.iaload, 1))) ?_
  refine And.intro (k_iast (pc := 51) (by decide +kernel : decode cX12_again 51 = .ok (.iastore, 1))) ?_
  refine And.intro (k_iinc (pc := 52) (by decide +kernel : decode cX12_again 52 = .ok (.iinc 2 1, 3)) (by decide)) ?_
  refine And.intro (k_goto (pc := 55) (by decide +kernel : decode cX12_again 55 = .ok (.goto (-28), 3)) (by decide)) ?_
  refine And.intro (k_aload_n (pc := 58) (by decide +kernel : decode cX12_again 58 = .ok (.aload_n 0, 1)) rfl) ?_
  refine And.intro (k_iconst (pc := 59) (by decide +kernel : decode cX12_again 59 = .ok (.iconst 0, 1)) (by decide)) ?_
  refine And.intro (k_pI (pc := 60) rfl (by decide) rfl zin12 lk_X12_155 tyX12_ok nmX12 rfl (by decide +kernel) (by decide +kernel : decode cX12_again 60 = .ok (.putfield 155, 3))) ?_
  refine And.intro (k_iconst (pc := 63) (by decide +kernel : decode cX12_again 63 = .ok (.iconst 1, 1)) (by decide)) ?_
  refine And.intro (k_zreturn (pc := 64) rfl (by decide +kernel : decode cX12_again 64 = .ok (.ireturn, 1))) ?_
  exact trivial
theorem cdX12_again : Cond.code yX12_again cX12_again 3 (some .boolean) ∈ zWs := zWs_in 1618 (by decide +kernel) rfl
noncomputable def pgX12_provenMany : zPg := [(0, o_ic (0)), (1, o_is 1), (2, o_ic (0)), (3, o_is 2), (4, o_il 2), (5, o_al 0), (6, o_gR 12 0), (9, o_ic (19)), (11, o_xI 14), (12, o_ic_ge 37), (15, o_il 1), (16, o_al 0), (17, o_il 2), (18, o_vr2 yX12_isProven 12 2), (21, o_if_eq 28), (24, o_ic (1)), (25, o_go 29), (28, o_ic (0)), (29, o_iadd), (30, o_is 1), (31, o_inc 2 (1)), (34, o_go 4), (37, o_il 1), (38, o_ir)]
set_option maxRecDepth 20000 in
theorem pkX12_provenMany {G : zG} (hG : zGok G) (Q : zRt) : zPOK G (zRm 3) RX12 cX12_provenMany 3 (some .int) (zF G Q 0 0) 0 0 (zCalls G 3) Q pgX12_provenMany := by
  refine And.intro (k_iconst (pc := 0) (by decide +kernel : decode cX12_provenMany 0 = .ok (.iconst 0, 1)) (by decide)) ?_
  refine And.intro (k_istore_n (pc := 1) (by decide +kernel : decode cX12_provenMany 1 = .ok (.istore_n 1, 1)) rfl) ?_
  refine And.intro (k_iconst (pc := 2) (by decide +kernel : decode cX12_provenMany 2 = .ok (.iconst 0, 1)) (by decide)) ?_
  refine And.intro (k_istore_n (pc := 3) (by decide +kernel : decode cX12_provenMany 3 = .ok (.istore_n 2, 1)) rfl) ?_
  refine And.intro (k_iload_n (pc := 4) (by decide +kernel : decode cX12_provenMany 4 = .ok (.iload_n 2, 1)) rfl) ?_
  refine And.intro (k_aload_n (pc := 5) (by decide +kernel : decode cX12_provenMany 5 = .ok (.aload_n 0, 1)) rfl) ?_
  refine And.intro (k_gR (pc := 6) rfl (by decide) rfl zin12 lk_X12_9 (by decide +kernel : decode cX12_provenMany 6 = .ok (.getfield 9, 3))) ?_
  refine And.intro (k_bipush (pc := 9) (by decide +kernel : decode cX12_provenMany 9 = .ok (.bipush 19, 2)) (by decide)) ?_
  refine And.intro (k_iald (pc := 11) (by decide +kernel : decode cX12_provenMany 11 = .ok (.iaload, 1))) ?_
  refine And.intro (k_icmp_ge (pc := 12) (by decide +kernel : decode cX12_provenMany 12 = .ok (.if_icmp .ge 25, 3)) (by decide)) ?_
  refine And.intro (k_iload_n (pc := 15) (by decide +kernel : decode cX12_provenMany 15 = .ok (.iload_n 1, 1)) rfl) ?_
  refine And.intro (k_aload_n (pc := 16) (by decide +kernel : decode cX12_provenMany 16 = .ok (.aload_n 0, 1)) rfl) ?_
  refine And.intro (k_iload_n (pc := 17) (by decide +kernel : decode cX12_provenMany 17 = .ok (.iload_n 2, 1)) rfl) ?_
  refine And.intro (k_crV (n := 1) (pc := 18) hG (zRoom_self 3) (tag := 12) rfl ini_X12 im_X12_isProven se_X12_isProven mk_X12_299 dy_X12_isProven (by decide +kernel : decode cX12_provenMany 18 = .ok (.invokevirtual 299, 3))) ?_
  refine And.intro (k_if_eq (pc := 21) (by decide +kernel : decode cX12_provenMany 21 = .ok (.ifCond .eq 7, 3)) (by decide)) ?_
  refine And.intro (k_iconst (pc := 24) (by decide +kernel : decode cX12_provenMany 24 = .ok (.iconst 1, 1)) (by decide)) ?_
  refine And.intro (k_goto (pc := 25) (by decide +kernel : decode cX12_provenMany 25 = .ok (.goto 4, 3)) (by decide)) ?_
  refine And.intro (k_iconst (pc := 28) (by decide +kernel : decode cX12_provenMany 28 = .ok (.iconst 0, 1)) (by decide)) ?_
  refine And.intro (k_iadd (pc := 29) (by decide +kernel : decode cX12_provenMany 29 = .ok (.iadd, 1))) ?_
  refine And.intro (k_istore_n (pc := 30) (by decide +kernel : decode cX12_provenMany 30 = .ok (.istore_n 1, 1)) rfl) ?_
  refine And.intro (k_iinc (pc := 31) (by decide +kernel : decode cX12_provenMany 31 = .ok (.iinc 2 1, 3)) (by decide)) ?_
  refine And.intro (k_goto (pc := 34) (by decide +kernel : decode cX12_provenMany 34 = .ok (.goto (-30), 3)) (by decide)) ?_
  refine And.intro (k_iload_n (pc := 37) (by decide +kernel : decode cX12_provenMany 37 = .ok (.iload_n 1, 1)) rfl) ?_
  refine And.intro (k_ireturn (pc := 38) rfl (by decide +kernel : decode cX12_provenMany 38 = .ok (.ireturn, 1))) ?_
  exact trivial
theorem cdX12_provenMany : Cond.code yX12_provenMany cX12_provenMany 3 (some .int) ∈ zWs := zWs_in 1626 (by decide +kernel) rfl
noncomputable def pgX12_brokenMany : zPg := [(0, o_al 0), (1, o_vv yX12_layWholes 12 1), (4, o_ic (0)), (5, o_is 1), (6, o_ic (0)), (7, o_is 2), (8, o_il 2), (9, o_al 0), (10, o_gI 12 29), (13, o_ic_ge 112), (16, o_ic (1)), (17, o_is 3), (18, o_ic (0)), (19, o_is 4), (21, o_il 4), (23, o_al 0), (24, o_gR 12 0), (27, o_ic (19)), (29, o_xI 14), (30, o_ic_ge 94), (33, o_il 3), (34, o_if_eq 86), (37, o_al 0), (38, o_il 4), (40, o_ic (0)), (41, o_vr2 yX12_stored 12 3), (44, o_al 0), (45, o_gR 12 28), (48, o_ic (2)), (49, o_il 2), (50, o_imul), (51, o_xI 14), (52, o_imul), (53, o_al 0), (54, o_il 4), (56, o_ic (1)), (57, o_vr2 yX12_stored 12 3), (60, o_al 0), (61, o_gR 12 28), (64, o_ic (2)), (65, o_il 2), (66, o_imul), (67, o_ic (1)), (68, o_iadd), (69, o_xI 14), (70, o_imul), (71, o_iadd), (72, o_al 0), (73, o_il 4), (75, o_ic (2)), (76, o_vr2 yX12_stored 12 3), (79, o_ic_gt 86), (82, o_ic (1)), (83, o_go 87), (86, o_ic (0)), (87, o_is 3), (88, o_inc 4 (1)), (91, o_go 21), (94, o_il 1), (95, o_il 3), (96, o_if_eq 103), (99, o_ic (0)), (100, o_go 104), (103, o_ic (1)), (104, o_iadd), (105, o_is 1), (106, o_inc 2 (1)), (109, o_go 8), (112, o_il 1), (113, o_ir)]
set_option maxRecDepth 20000 in
theorem pkX12_brokenMany {G : zG} (hG : zGok G) (Q : zRt) : zPOK G (zRm 5) RX12 cX12_brokenMany 5 (some .int) (zF G Q 0 0) 0 0 (zCalls G 5) Q pgX12_brokenMany := by
  refine And.intro (k_aload_n (pc := 0) (by decide +kernel : decode cX12_brokenMany 0 = .ok (.aload_n 0, 1)) rfl) ?_
  refine And.intro (k_cvV (n := 0) (pc := 1) hG (zRoom_self 5) (tag := 12) rfl ini_X12 im_X12_layWholes se_X12_layWholes mk_X12_309 dy_X12_layWholes (by decide +kernel : decode cX12_brokenMany 1 = .ok (.invokevirtual 309, 3))) ?_
  refine And.intro (k_iconst (pc := 4) (by decide +kernel : decode cX12_brokenMany 4 = .ok (.iconst 0, 1)) (by decide)) ?_
  refine And.intro (k_istore_n (pc := 5) (by decide +kernel : decode cX12_brokenMany 5 = .ok (.istore_n 1, 1)) rfl) ?_
  refine And.intro (k_iconst (pc := 6) (by decide +kernel : decode cX12_brokenMany 6 = .ok (.iconst 0, 1)) (by decide)) ?_
  refine And.intro (k_istore_n (pc := 7) (by decide +kernel : decode cX12_brokenMany 7 = .ok (.istore_n 2, 1)) rfl) ?_
  refine And.intro (k_iload_n (pc := 8) (by decide +kernel : decode cX12_brokenMany 8 = .ok (.iload_n 2, 1)) rfl) ?_
  refine And.intro (k_aload_n (pc := 9) (by decide +kernel : decode cX12_brokenMany 9 = .ok (.aload_n 0, 1)) rfl) ?_
  refine And.intro (k_gI (pc := 10) rfl (by decide) rfl zin12 lk_X12_306 (by decide +kernel : decode cX12_brokenMany 10 = .ok (.getfield 306, 3))) ?_
  refine And.intro (k_icmp_ge (pc := 13) (by decide +kernel : decode cX12_brokenMany 13 = .ok (.if_icmp .ge 99, 3)) (by decide)) ?_
  refine And.intro (k_iconst (pc := 16) (by decide +kernel : decode cX12_brokenMany 16 = .ok (.iconst 1, 1)) (by decide)) ?_
  refine And.intro (k_istore_n (pc := 17) (by decide +kernel : decode cX12_brokenMany 17 = .ok (.istore_n 3, 1)) rfl) ?_
  refine And.intro (k_iconst (pc := 18) (by decide +kernel : decode cX12_brokenMany 18 = .ok (.iconst 0, 1)) (by decide)) ?_
  refine And.intro (k_istore (pc := 19) (by decide +kernel : decode cX12_brokenMany 19 = .ok (.istore 4, 2))) ?_
  refine And.intro (k_iload (pc := 21) (by decide +kernel : decode cX12_brokenMany 21 = .ok (.iload 4, 2))) ?_
  refine And.intro (k_aload_n (pc := 23) (by decide +kernel : decode cX12_brokenMany 23 = .ok (.aload_n 0, 1)) rfl) ?_
  refine And.intro (k_gR (pc := 24) rfl (by decide) rfl zin12 lk_X12_9 (by decide +kernel : decode cX12_brokenMany 24 = .ok (.getfield 9, 3))) ?_
  refine And.intro (k_bipush (pc := 27) (by decide +kernel : decode cX12_brokenMany 27 = .ok (.bipush 19, 2)) (by decide)) ?_
  refine And.intro (k_iald (pc := 29) (by decide +kernel : decode cX12_brokenMany 29 = .ok (.iaload, 1))) ?_
  refine And.intro (k_icmp_ge (pc := 30) (by decide +kernel : decode cX12_brokenMany 30 = .ok (.if_icmp .ge 64, 3)) (by decide)) ?_
  refine And.intro (k_iload_n (pc := 33) (by decide +kernel : decode cX12_brokenMany 33 = .ok (.iload_n 3, 1)) rfl) ?_
  refine And.intro (k_if_eq (pc := 34) (by decide +kernel : decode cX12_brokenMany 34 = .ok (.ifCond .eq 52, 3)) (by decide)) ?_
  refine And.intro (k_aload_n (pc := 37) (by decide +kernel : decode cX12_brokenMany 37 = .ok (.aload_n 0, 1)) rfl) ?_
  refine And.intro (k_iload (pc := 38) (by decide +kernel : decode cX12_brokenMany 38 = .ok (.iload 4, 2))) ?_
  refine And.intro (k_iconst (pc := 40) (by decide +kernel : decode cX12_brokenMany 40 = .ok (.iconst 0, 1)) (by decide)) ?_
  refine And.intro (k_crV (n := 2) (pc := 41) hG (zRoom_self 5) (tag := 12) rfl ini_X12 im_X12_stored se_X12_stored mk_X12_290 dy_X12_stored (by decide +kernel : decode cX12_brokenMany 41 = .ok (.invokevirtual 290, 3))) ?_
  refine And.intro (k_aload_n (pc := 44) (by decide +kernel : decode cX12_brokenMany 44 = .ok (.aload_n 0, 1)) rfl) ?_
  refine And.intro (k_gR (pc := 45) rfl (by decide) rfl zin12 lk_X12_43 (by decide +kernel : decode cX12_brokenMany 45 = .ok (.getfield 43, 3))) ?_
  refine And.intro (k_iconst (pc := 48) (by decide +kernel : decode cX12_brokenMany 48 = .ok (.iconst 2, 1)) (by decide)) ?_
  refine And.intro (k_iload_n (pc := 49) (by decide +kernel : decode cX12_brokenMany 49 = .ok (.iload_n 2, 1)) rfl) ?_
  refine And.intro (k_imul (pc := 50) (by decide +kernel : decode cX12_brokenMany 50 = .ok (.imul, 1))) ?_
  refine And.intro (k_iald (pc := 51) (by decide +kernel : decode cX12_brokenMany 51 = .ok (.iaload, 1))) ?_
  refine And.intro (k_imul (pc := 52) (by decide +kernel : decode cX12_brokenMany 52 = .ok (.imul, 1))) ?_
  refine And.intro (k_aload_n (pc := 53) (by decide +kernel : decode cX12_brokenMany 53 = .ok (.aload_n 0, 1)) rfl) ?_
  refine And.intro (k_iload (pc := 54) (by decide +kernel : decode cX12_brokenMany 54 = .ok (.iload 4, 2))) ?_
  refine And.intro (k_iconst (pc := 56) (by decide +kernel : decode cX12_brokenMany 56 = .ok (.iconst 1, 1)) (by decide)) ?_
  refine And.intro (k_crV (n := 2) (pc := 57) hG (zRoom_self 5) (tag := 12) rfl ini_X12 im_X12_stored se_X12_stored mk_X12_290 dy_X12_stored (by decide +kernel : decode cX12_brokenMany 57 = .ok (.invokevirtual 290, 3))) ?_
  refine And.intro (k_aload_n (pc := 60) (by decide +kernel : decode cX12_brokenMany 60 = .ok (.aload_n 0, 1)) rfl) ?_
  refine And.intro (k_gR (pc := 61) rfl (by decide) rfl zin12 lk_X12_43 (by decide +kernel : decode cX12_brokenMany 61 = .ok (.getfield 43, 3))) ?_
  refine And.intro (k_iconst (pc := 64) (by decide +kernel : decode cX12_brokenMany 64 = .ok (.iconst 2, 1)) (by decide)) ?_
  refine And.intro (k_iload_n (pc := 65) (by decide +kernel : decode cX12_brokenMany 65 = .ok (.iload_n 2, 1)) rfl) ?_
  refine And.intro (k_imul (pc := 66) (by decide +kernel : decode cX12_brokenMany 66 = .ok (.imul, 1))) ?_
  refine And.intro (k_iconst (pc := 67) (by decide +kernel : decode cX12_brokenMany 67 = .ok (.iconst 1, 1)) (by decide)) ?_
  refine And.intro (k_iadd (pc := 68) (by decide +kernel : decode cX12_brokenMany 68 = .ok (.iadd, 1))) ?_
  refine And.intro (k_iald (pc := 69) (by decide +kernel : decode cX12_brokenMany 69 = .ok (.iaload, 1))) ?_
  refine And.intro (k_imul (pc := 70) (by decide +kernel : decode cX12_brokenMany 70 = .ok (.imul, 1))) ?_
  refine And.intro (k_iadd (pc := 71) (by decide +kernel : decode cX12_brokenMany 71 = .ok (.iadd, 1))) ?_
  refine And.intro (k_aload_n (pc := 72) (by decide +kernel : decode cX12_brokenMany 72 = .ok (.aload_n 0, 1)) rfl) ?_
  refine And.intro (k_iload (pc := 73) (by decide +kernel : decode cX12_brokenMany 73 = .ok (.iload 4, 2))) ?_
  refine And.intro (k_iconst (pc := 75) (by decide +kernel : decode cX12_brokenMany 75 = .ok (.iconst 2, 1)) (by decide)) ?_
  refine And.intro (k_crV (n := 2) (pc := 76) hG (zRoom_self 5) (tag := 12) rfl ini_X12 im_X12_stored se_X12_stored mk_X12_290 dy_X12_stored (by decide +kernel : decode cX12_brokenMany 76 = .ok (.invokevirtual 290, 3))) ?_
  refine And.intro (k_icmp_gt (pc := 79) (by decide +kernel : decode cX12_brokenMany 79 = .ok (.if_icmp .gt 7, 3)) (by decide)) ?_
  refine And.intro (k_iconst (pc := 82) (by decide +kernel : decode cX12_brokenMany 82 = .ok (.iconst 1, 1)) (by decide)) ?_
  refine And.intro (k_goto (pc := 83) (by decide +kernel : decode cX12_brokenMany 83 = .ok (.goto 4, 3)) (by decide)) ?_
  refine And.intro (k_iconst (pc := 86) (by decide +kernel : decode cX12_brokenMany 86 = .ok (.iconst 0, 1)) (by decide)) ?_
  refine And.intro (k_istore_n (pc := 87) (by decide +kernel : decode cX12_brokenMany 87 = .ok (.istore_n 3, 1)) rfl) ?_
  refine And.intro (k_iinc (pc := 88) (by decide +kernel : decode cX12_brokenMany 88 = .ok (.iinc 4 1, 3)) (by decide)) ?_
  refine And.intro (k_goto (pc := 91) (by decide +kernel : decode cX12_brokenMany 91 = .ok (.goto (-70), 3)) (by decide)) ?_
  refine And.intro (k_iload_n (pc := 94) (by decide +kernel : decode cX12_brokenMany 94 = .ok (.iload_n 1, 1)) rfl) ?_
  refine And.intro (k_iload_n (pc := 95) (by decide +kernel : decode cX12_brokenMany 95 = .ok (.iload_n 3, 1)) rfl) ?_
  refine And.intro (k_if_eq (pc := 96) (by decide +kernel : decode cX12_brokenMany 96 = .ok (.ifCond .eq 7, 3)) (by decide)) ?_
  refine And.intro (k_iconst (pc := 99) (by decide +kernel : decode cX12_brokenMany 99 = .ok (.iconst 0, 1)) (by decide)) ?_
  refine And.intro (k_goto (pc := 100) (by decide +kernel : decode cX12_brokenMany 100 = .ok (.goto 4, 3)) (by decide)) ?_
  refine And.intro (k_iconst (pc := 103) (by decide +kernel : decode cX12_brokenMany 103 = .ok (.iconst 1, 1)) (by decide)) ?_
  refine And.intro (k_iadd (pc := 104) (by decide +kernel : decode cX12_brokenMany 104 = .ok (.iadd, 1))) ?_
  refine And.intro (k_istore_n (pc := 105) (by decide +kernel : decode cX12_brokenMany 105 = .ok (.istore_n 1, 1)) rfl) ?_
  refine And.intro (k_iinc (pc := 106) (by decide +kernel : decode cX12_brokenMany 106 = .ok (.iinc 2 1, 3)) (by decide)) ?_
  refine And.intro (k_goto (pc := 109) (by decide +kernel : decode cX12_brokenMany 109 = .ok (.goto (-101), 3)) (by decide)) ?_
  refine And.intro (k_iload_n (pc := 112) (by decide +kernel : decode cX12_brokenMany 112 = .ok (.iload_n 1, 1)) rfl) ?_
  refine And.intro (k_ireturn (pc := 113) rfl (by decide +kernel : decode cX12_brokenMany 113 = .ok (.ireturn, 1))) ?_
  exact trivial
theorem cdX12_brokenMany : Cond.code yX12_brokenMany cX12_brokenMany 5 (some .int) ∈ zWs := zWs_in 1630 (by decide +kernel) rfl
noncomputable def pgX12_count : zPg := [(0, o_al 0), (1, o_ic (0)), (2, o_pI 12 5), (5, o_il 1), (6, o_sw [(0, 48), (1, 55), (2, 63), (3, 68), (4, 73), (5, 78), (6, 83)] 88), (48, o_al 0), (49, o_gR 12 0), (52, o_ic (0)), (53, o_xI 14), (54, o_ir), (55, o_al 0), (56, o_gR 12 0), (59, o_ic (19)), (61, o_xI 14), (62, o_ir), (63, o_al 0), (64, o_vr2 yX12_provenMany 12 1), (67, o_ir), (68, o_al 0), (69, o_gI 12 13), (72, o_ir), (73, o_al 0), (74, o_gI 12 4), (77, o_ir), (78, o_al 0), (79, o_gI 12 2), (82, o_ir), (83, o_al 0), (84, o_vr2 yX12_brokenMany 12 1), (87, o_ir), (88, o_ic (-1)), (89, o_ir)]
set_option maxRecDepth 20000 in
theorem pkX12_count {G : zG} (hG : zGok G) (Q : zRt) : zPOK G (zRm 6) RX12 cX12_count 2 (some .int) (zF G Q 0 0) 0 0 (zCalls G 6) Q pgX12_count := by
  refine And.intro (k_aload_n (pc := 0) (by decide +kernel : decode cX12_count 0 = .ok (.aload_n 0, 1)) rfl) ?_
  refine And.intro (k_iconst (pc := 1) (by decide +kernel : decode cX12_count 1 = .ok (.iconst 0, 1)) (by decide)) ?_
  refine And.intro (k_pI (pc := 2) rfl (by decide) rfl zin12 lk_X12_55 tyX12_ok nmX12 rfl (by decide +kernel) (by decide +kernel : decode cX12_count 2 = .ok (.putfield 55, 3))) ?_
  refine And.intro (k_iload_n (pc := 5) (by decide +kernel : decode cX12_count 5 = .ok (.iload_n 1, 1)) rfl) ?_
  refine And.intro (k_tsw (pc := 6) (by decide +kernel : decode cX12_count 6 = .ok (.tableswitch 82 0 6 #[42, 49, 57, 62, 67, 72, 77], 42)) (ztsw_hit (by decide)) (ztsw_no (by decide)) (by decide)) ?_
  refine And.intro (k_aload_n (pc := 48) (by decide +kernel : decode cX12_count 48 = .ok (.aload_n 0, 1)) rfl) ?_
  refine And.intro (k_gR (pc := 49) rfl (by decide) rfl zin12 lk_X12_9 (by decide +kernel : decode cX12_count 49 = .ok (.getfield 9, 3))) ?_
  refine And.intro (k_iconst (pc := 52) (by decide +kernel : decode cX12_count 52 = .ok (.iconst 0, 1)) (by decide)) ?_
  refine And.intro (k_iald (pc := 53) (by decide +kernel : decode cX12_count 53 = .ok (.iaload, 1))) ?_
  refine And.intro (k_ireturn (pc := 54) rfl (by decide +kernel : decode cX12_count 54 = .ok (.ireturn, 1))) ?_
  refine And.intro (k_aload_n (pc := 55) (by decide +kernel : decode cX12_count 55 = .ok (.aload_n 0, 1)) rfl) ?_
  refine And.intro (k_gR (pc := 56) rfl (by decide) rfl zin12 lk_X12_9 (by decide +kernel : decode cX12_count 56 = .ok (.getfield 9, 3))) ?_
  refine And.intro (k_bipush (pc := 59) (by decide +kernel : decode cX12_count 59 = .ok (.bipush 19, 2)) (by decide)) ?_
  refine And.intro (k_iald (pc := 61) (by decide +kernel : decode cX12_count 61 = .ok (.iaload, 1))) ?_
  refine And.intro (k_ireturn (pc := 62) rfl (by decide +kernel : decode cX12_count 62 = .ok (.ireturn, 1))) ?_
  refine And.intro (k_aload_n (pc := 63) (by decide +kernel : decode cX12_count 63 = .ok (.aload_n 0, 1)) rfl) ?_
  refine And.intro (k_crV (n := 0) (pc := 64) hG (zRoom_self 6) (tag := 12) rfl ini_X12 im_X12_provenMany se_X12_provenMany mk_X12_369 dy_X12_provenMany (by decide +kernel : decode cX12_count 64 = .ok (.invokevirtual 369, 3))) ?_
  refine And.intro (k_ireturn (pc := 67) rfl (by decide +kernel : decode cX12_count 67 = .ok (.ireturn, 1))) ?_
  refine And.intro (k_aload_n (pc := 68) (by decide +kernel : decode cX12_count 68 = .ok (.aload_n 0, 1)) rfl) ?_
  refine And.intro (k_gI (pc := 69) rfl (by decide) rfl zin12 lk_X12_155 (by decide +kernel : decode cX12_count 69 = .ok (.getfield 155, 3))) ?_
  refine And.intro (k_ireturn (pc := 72) rfl (by decide +kernel : decode cX12_count 72 = .ok (.ireturn, 1))) ?_
  refine And.intro (k_aload_n (pc := 73) (by decide +kernel : decode cX12_count 73 = .ok (.aload_n 0, 1)) rfl) ?_
  refine And.intro (k_gI (pc := 74) rfl (by decide) rfl zin12 lk_X12_59 (by decide +kernel : decode cX12_count 74 = .ok (.getfield 59, 3))) ?_
  refine And.intro (k_ireturn (pc := 77) rfl (by decide +kernel : decode cX12_count 77 = .ok (.ireturn, 1))) ?_
  refine And.intro (k_aload_n (pc := 78) (by decide +kernel : decode cX12_count 78 = .ok (.aload_n 0, 1)) rfl) ?_
  refine And.intro (k_gI (pc := 79) rfl (by decide) rfl zin12 lk_X12_84 (by decide +kernel : decode cX12_count 79 = .ok (.getfield 84, 3))) ?_
  refine And.intro (k_ireturn (pc := 82) rfl (by decide +kernel : decode cX12_count 82 = .ok (.ireturn, 1))) ?_
  refine And.intro (k_aload_n (pc := 83) (by decide +kernel : decode cX12_count 83 = .ok (.aload_n 0, 1)) rfl) ?_
  refine And.intro (k_crV (n := 0) (pc := 84) hG (zRoom_self 6) (tag := 12) rfl ini_X12 im_X12_brokenMany se_X12_brokenMany mk_X12_372 dy_X12_brokenMany (by decide +kernel : decode cX12_count 84 = .ok (.invokevirtual 372, 3))) ?_
  refine And.intro (k_ireturn (pc := 87) rfl (by decide +kernel : decode cX12_count 87 = .ok (.ireturn, 1))) ?_
  refine And.intro (k_iconst (pc := 88) (by decide +kernel : decode cX12_count 88 = .ok (.iconst (-1), 1)) (by decide)) ?_
  refine And.intro (k_ireturn (pc := 89) rfl (by decide +kernel : decode cX12_count 89 = .ok (.ireturn, 1))) ?_
  exact trivial
theorem cdX12_count : Cond.code yX12_count cX12_count 2 (some .int) ∈ zWs := zWs_in 1622 (by decide +kernel) rfl
noncomputable def pgX12_told : zPg := [(0, o_al 0), (1, o_ic (0)), (2, o_pI 12 5), (5, o_il 1), (6, o_ic (0)), (7, o_al 0), (8, o_gI 12 4), (11, o_ic (1)), (12, o_isub), (13, o_cr yX12_in 3), (16, o_if_eq 28), (19, o_al 0), (20, o_gR 12 3), (23, o_il 1), (24, o_xJ), (25, o_go 33), (28, o_al 0), (29, o_vr2 yX12_lost 12 1), (32, o_i2l), (33, o_lr)]
set_option maxRecDepth 20000 in
theorem pkX12_told {G : zG} (hG : zGok G) (Q : zRt) : zPOK G (zRm 1) RX12 cX12_told 2 (some .long) (zF G Q 0 0) 0 0 (zCalls G 1) Q pgX12_told := by
  refine And.intro (k_aload_n (pc := 0) (by decide +kernel : decode cX12_told 0 = .ok (.aload_n 0, 1)) rfl) ?_
  refine And.intro (k_iconst (pc := 1) (by decide +kernel : decode cX12_told 1 = .ok (.iconst 0, 1)) (by decide)) ?_
  refine And.intro (k_pI (pc := 2) rfl (by decide) rfl zin12 lk_X12_55 tyX12_ok nmX12 rfl (by decide +kernel) (by decide +kernel : decode cX12_told 2 = .ok (.putfield 55, 3))) ?_
  refine And.intro (k_iload_n (pc := 5) (by decide +kernel : decode cX12_told 5 = .ok (.iload_n 1, 1)) rfl) ?_
  refine And.intro (k_iconst (pc := 6) (by decide +kernel : decode cX12_told 6 = .ok (.iconst 0, 1)) (by decide)) ?_
  refine And.intro (k_aload_n (pc := 7) (by decide +kernel : decode cX12_told 7 = .ok (.aload_n 0, 1)) rfl) ?_
  refine And.intro (k_gI (pc := 8) rfl (by decide) rfl zin12 lk_X12_59 (by decide +kernel : decode cX12_told 8 = .ok (.getfield 59, 3))) ?_
  refine And.intro (k_iconst (pc := 11) (by decide +kernel : decode cX12_told 11 = .ok (.iconst 1, 1)) (by decide)) ?_
  refine And.intro (k_isub (pc := 12) (by decide +kernel : decode cX12_told 12 = .ok (.isub, 1))) ?_
  refine And.intro (k_crS (n := 3) (pc := 13) hG (zRoom_self 1) ini_X12 sta_X12_in mk_X12_87 dy_X12_in (by decide +kernel : decode cX12_told 13 = .ok (.invokestatic 87, 3))) ?_
  refine And.intro (k_if_eq (pc := 16) (by decide +kernel : decode cX12_told 16 = .ok (.ifCond .eq 12, 3)) (by decide)) ?_
  refine And.intro (k_aload_n (pc := 19) (by decide +kernel : decode cX12_told 19 = .ok (.aload_n 0, 1)) rfl) ?_
  refine And.intro (k_gR (pc := 20) rfl (by decide) rfl zin12 lk_X12_17 (by decide +kernel : decode cX12_told 20 = .ok (.getfield 17, 3))) ?_
  refine And.intro (k_iload_n (pc := 23) (by decide +kernel : decode cX12_told 23 = .ok (.iload_n 1, 1)) rfl) ?_
  refine And.intro (k_lald (pc := 24) (by decide +kernel : decode cX12_told 24 = .ok (.laload, 1))) ?_
  refine And.intro (k_goto (pc := 25) (by decide +kernel : decode cX12_told 25 = .ok (.goto 8, 3)) (by decide)) ?_
  refine And.intro (k_aload_n (pc := 28) (by decide +kernel : decode cX12_told 28 = .ok (.aload_n 0, 1)) rfl) ?_
  refine And.intro (k_crV (n := 0) (pc := 29) hG (zRoom_self 1) (tag := 12) rfl ini_X12 im_X12_lost se_X12_lost mk_X12_149 dy_X12_lost (by decide +kernel : decode cX12_told 29 = .ok (.invokevirtual 149, 3))) ?_
  refine And.intro (k_i2l (pc := 32) (by decide +kernel : decode cX12_told 32 = .ok (.i2l, 1))) ?_
  refine And.intro (k_lreturn (pc := 33) rfl (by decide +kernel : decode cX12_told 33 = .ok (.lreturn, 1))) ?_
  exact trivial
theorem cdX12_told : Cond.code yX12_told cX12_told 2 (some .long) ∈ zWs := zWs_in 1634 (by decide +kernel) rfl
