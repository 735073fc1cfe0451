theorem zlsw_no0 : ∀ (ps : List (Int × Int)) (d x : Int), (∀ p ∈ ps, ¬ x = p.1) → Op.lookupswitch.offset ps d x = d
  | [], d, x, _ => rfl
  | p :: r, d, x, h => by
    rw [Op.lookupswitch.offset_cons, if_neg (fun e => h p List.mem_cons_self (by first | exact e | exact e.symm))]
    exact zlsw_no0 r d x (fun q hq => h q (List.mem_cons_of_mem _ hq))
theorem zlsw_no {pc d : Nat} {dflt : Int} {ps : List (Int × Int)} {qs : List (Int32 × Nat)} (h1 : ∀ p ∈ ps, ∃ q ∈ qs, q.1.toInt = p.1) (h2 : (pc : Int) + dflt = (d : Int)) : ∀ x : Int32, (∀ q ∈ qs, ¬ x = q.1) → ∃ off, Op.lookupswitch.offset ps dflt x.toInt = off ∧ (pc : Int) + off = (d : Int) := by
  intro x hx
  refine ⟨dflt, zlsw_no0 ps dflt x.toInt (fun p hp e => ?_), h2⟩
  obtain ⟨q, hq, e2⟩ := h1 p hp
  exact hx q hq (Int32.toInt_inj.mp (e.trans e2.symm))
theorem zlsw_hit {pc : Nat} {dflt : Int} {ps : List (Int × Int)} {qs : List (Int32 × Nat)} (h : ∀ q ∈ qs, (pc : Int) + Op.lookupswitch.offset ps dflt q.1.toInt = (q.2 : Int)) : ∀ q ∈ qs, ∃ off, Op.lookupswitch.offset ps dflt q.1.toInt = off ∧ (pc : Int) + off = (q.2 : Int) := fun q hq => ⟨_, rfl, h q hq⟩
theorem ztsw_hit {pc : Nat} {lo hi : Int} {offs : Array Int} {qs : List (Int32 × Nat)} (h : ∀ q ∈ qs, ¬ q.1.toInt < lo ∧ ¬ hi < q.1.toInt ∧ offs[(q.1.toInt - lo).toNat]? = some ((q.2 : Int) - (pc : Int))) : ∀ q ∈ qs, ∃ off, ¬ q.1.toInt < lo ∧ ¬ hi < q.1.toInt ∧ offs[(q.1.toInt - lo).toNat]? = some off ∧ (pc : Int) + off = (q.2 : Int) := by
  intro q hq
  obtain ⟨a, b, c⟩ := h q hq
  exact ⟨_, a, b, c, by omega⟩
theorem ztsw_no {lo hi : Int} {qs : List (Int32 × Nat)} (h : ∀ n : Nat, n < (hi - lo + 1).toNat → ∃ q ∈ qs, q.1.toInt = lo + (n : Int)) : ∀ x : Int32, (∀ q ∈ qs, ¬ x = q.1) → x.toInt < lo ∨ hi < x.toInt := by
  intro x hx
  by_cases h1 : x.toInt < lo
  · exact Or.inl h1
  · by_cases h2 : hi < x.toInt
    · exact Or.inr h2
    · obtain ⟨q, hq, e⟩ := h (x.toInt - lo).toNat (by omega)
      exact absurd (Int32.toInt_inj.mp (by omega)) (hx q hq)
noncomputable def pgJ9_abs_067f4 : zPg := [(0, o_ll 0), (1, o_lc 0), (2, o_lc_ge 11), (6, o_ll 0), (7, o_lneg), (8, o_go 12), (11, o_ll 0), (12, o_lr)]
set_option maxRecDepth 20000 in
theorem pkJ9_abs_067f4 {G : zG} (hG : zGok G) (Q : zRt) : zPOK G (zRm 0) RJ9 cJ9_abs_067f4 2 (some .long) (zF G Q 0 0) 0 0 (zCalls G 0) Q pgJ9_abs_067f4 := by
  refine And.intro (k_lload_n (pc := 0) (by decide +kernel : decode cJ9_abs_067f4 0 = .ok (.lload_n 0, 1)) rfl) ?_
  refine And.intro (k_lconst (pc := 1) (by decide +kernel : decode cJ9_abs_067f4 1 = .ok (.lconst 0, 1)) (by decide)) ?_
  refine And.intro (k_lcmp_ge (pc := 2) (by decide +kernel : decode cJ9_abs_067f4 2 = .ok (.lcmp, 1)) (by decide +kernel : decode cJ9_abs_067f4 3 = .ok (.ifCond .ge 8, 3)) (by decide)) ?_
  refine And.intro (k_lload_n (pc := 6) (by decide +kernel : decode cJ9_abs_067f4 6 = .ok (.lload_n 0, 1)) rfl) ?_
  refine And.intro (k_lneg (pc := 7) (by decide +kernel : decode cJ9_abs_067f4 7 = .ok (.lneg, 1))) ?_
  refine And.intro (k_goto (pc := 8) (by decide +kernel : decode cJ9_abs_067f4 8 = .ok (.goto 4, 3)) (by decide)) ?_
  refine And.intro (k_lload_n (pc := 11) (by decide +kernel : decode cJ9_abs_067f4 11 = .ok (.lload_n 0, 1)) rfl) ?_
  refine And.intro (k_lreturn (pc := 12) rfl (by decide +kernel : decode cJ9_abs_067f4 12 = .ok (.lreturn, 1))) ?_
  exact trivial
theorem cdJ9_abs_067f4 : Cond.code yJ9_abs_067f4 cJ9_abs_067f4 2 (some .long) ∈ zWs := zWs_in 618 (by decide +kernel) rfl
noncomputable def pgX0_putLine : zPg := [(0, o_al 0), (1, o_gR 0 0), (4, o_ic (13)), (6, o_xJ), (7, o_l2i), (8, o_is 4), (10, o_il 3), (11, o_if_ne 18), (14, o_lc 1), (15, o_go 21), (18, o_lc (-1)), (21, o_ls 5), (23, o_ll 5), (25, o_al 1), (26, o_gJ 6 0), (29, o_al 2), (30, o_gJ 6 1), (33, o_lmul), (34, o_al 2), (35, o_gJ 6 0), (38, o_al 1), (39, o_gJ 6 1), (42, o_lmul), (43, o_lsub), (44, o_lmul), (45, o_ls 7), (47, o_ll 5), (49, o_al 1), (50, o_gJ 6 1), (53, o_lmul), (54, o_al 2), (55, o_gJ 6 1), (58, o_lmul), (59, o_ls 9), (61, o_ll 7), (63, o_al 0), (64, o_gR 0 0), (67, o_ic (14)), (69, o_xJ), (70, o_lmul), (71, o_ll 5), (73, o_al 1), (74, o_gJ 6 0), (77, o_lmul), (78, o_al 2), (79, o_gJ 6 1), (82, o_lmul), (83, o_ladd), (84, o_ls 11), (86, o_ll 7), (88, o_ll 9), (90, o_cr yX11_greatestDivisor 2), (93, o_ll 11), (95, o_cr yX11_greatestDivisor 2), (98, o_ls 13), (100, o_ll 13), (102, o_lc 1), (103, o_lc_le 128), (107, o_ll 7), (109, o_ll 13), (111, o_ldiv), (112, o_ls 7), (114, o_ll 9), (116, o_ll 13), (118, o_ldiv), (119, o_ls 9), (121, o_ll 11), (123, o_ll 13), (125, o_ldiv), (126, o_ls 11), (128, o_al 0), (129, o_gR 0 0), (132, o_ic (0)), (133, o_il 4), (135, o_if_ne 143), (138, o_ll 7), (140, o_go 145), (143, o_ll 9), (145, o_yJ), (146, o_al 0), (147, o_gR 0 0), (150, o_ic (1)), (151, o_il 4), (153, o_if_ne 161), (156, o_ll 9), (158, o_go 163), (161, o_ll 7), (163, o_yJ), (164, o_al 0), (165, o_gR 0 0), (168, o_ic (2)), (169, o_ll 11), (171, o_yJ), (172, o_vr)]
set_option maxRecDepth 20000 in
theorem pkX0_putLine {G : zG} (hG : zGok G) (Q : zRt) : zPOK G (zRm 2) RX0 cX0_putLine 15 none (zF G Q 0 0) 0 0 (zCalls G 2) Q pgX0_putLine := by
  refine And.intro (k_aload_n (pc := 0) (by decide +kernel : decode cX0_putLine 0 = .ok (.aload_n 0, 1)) rfl) ?_
  refine And.intro (k_gR (pc := 1) rfl (by decide) rfl zin0 lk_X0_9 (by decide +kernel : decode cX0_putLine 1 = .ok (.getfield 9, 3))) ?_
  refine And.intro (k_bipush (pc := 4) (by decide +kernel : decode cX0_putLine 4 = .ok (.bipush 13, 2)) (by decide)) ?_
  refine And.intro (k_lald (pc := 6) (by decide +kernel : decode cX0_putLine 6 = .ok (.laload, 1))) ?_
  refine And.intro (k_l2i (pc := 7) (by decide +kernel : decode cX0_putLine 7 = .ok (.l2i, 1))) ?_
  refine And.intro (k_istore (pc := 8) (by decide +kernel : decode cX0_putLine 8 = .ok (.istore 4, 2))) ?_
  refine And.intro (k_iload_n (pc := 10) (by decide +kernel : decode cX0_putLine 10 = .ok (.iload_n 3, 1)) rfl) ?_
  refine And.intro (k_if_ne (pc := 11) (by decide +kernel : decode cX0_putLine 11 = .ok (.ifCond .ne 7, 3)) (by decide)) ?_
  refine And.intro (k_lconst (pc := 14) (by decide +kernel : decode cX0_putLine 14 = .ok (.lconst 1, 1)) (by decide)) ?_
  refine And.intro (k_goto (pc := 15) (by decide +kernel : decode cX0_putLine 15 = .ok (.goto 6, 3)) (by decide)) ?_
  refine And.intro (k_ldc2 (pc := 18) csl_X0_48 (by decide +kernel : decode cX0_putLine 18 = .ok (.ldc2_w 48, 3))) ?_
  refine And.intro (k_lstore (pc := 21) (by decide +kernel : decode cX0_putLine 21 = .ok (.lstore 5, 2))) ?_
  refine And.intro (k_lload (pc := 23) (by decide +kernel : decode cX0_putLine 23 = .ok (.lload 5, 2))) ?_
  refine And.intro (k_aload_n (pc := 25) (by decide +kernel : decode cX0_putLine 25 = .ok (.aload_n 1, 1)) rfl) ?_
  refine And.intro (k_gJ (pc := 26) rfl (by decide) rfl zin6 lk_X0_50 (by decide +kernel : decode cX0_putLine 26 = .ok (.getfield 50, 3))) ?_
  refine And.intro (k_aload_n (pc := 29) (by decide +kernel : decode cX0_putLine 29 = .ok (.aload_n 2, 1)) rfl) ?_
  refine And.intro (k_gJ (pc := 30) rfl (by decide) rfl zin6 lk_X0_54 (by decide +kernel : decode cX0_putLine 30 = .ok (.getfield 54, 3))) ?_
  refine And.intro (k_lmul (pc := 33) (by decide +kernel : decode cX0_putLine 33 = .ok (.lmul, 1))) ?_
  refine And.intro (k_aload_n (pc := 34) (by decide +kernel : decode cX0_putLine 34 = .ok (.aload_n 2, 1)) rfl) ?_
  refine And.intro (k_gJ (pc := 35) rfl (by decide) rfl zin6 lk_X0_50 (by decide +kernel : decode cX0_putLine 35 = .ok (.getfield 50, 3))) ?_
  refine And.intro (k_aload_n (pc := 38) (by decide +kernel : decode cX0_putLine 38 = .ok (.aload_n 1, 1)) rfl) ?_
  refine And.intro (k_gJ (pc := 39) rfl (by decide) rfl zin6 lk_X0_54 (by decide +kernel : decode cX0_putLine 39 = .ok (.getfield 54, 3))) ?_
  refine And.intro (k_lmul (pc := 42) (by decide +kernel : decode cX0_putLine 42 = .ok (.lmul, 1))) ?_
  refine And.intro (k_lsub (pc := 43) (by decide +kernel : decode cX0_putLine 43 = .ok (.lsub, 1))) ?_
  refine And.intro (k_lmul (pc := 44) (by decide +kernel : decode cX0_putLine 44 = .ok (.lmul, 1))) ?_
  refine And.intro (k_lstore (pc := 45) (by decide +kernel : decode cX0_putLine 45 = .ok (.lstore 7, 2))) ?_
  refine And.intro (k_lload (pc := 47) (by decide +kernel : decode cX0_putLine 47 = .ok (.lload 5, 2))) ?_
  refine And.intro (k_aload_n (pc := 49) (by decide +kernel : decode cX0_putLine 49 = .ok (.aload_n 1, 1)) rfl) ?_
  refine And.intro (k_gJ (pc := 50) rfl (by decide) rfl zin6 lk_X0_54 (by decide +kernel : decode cX0_putLine 50 = .ok (.getfield 54, 3))) ?_
  refine And.intro (k_lmul (pc := 53) (by decide +kernel : decode cX0_putLine 53 = .ok (.lmul, 1))) ?_
  refine And.intro (k_aload_n (pc := 54) (by decide +kernel : decode cX0_putLine 54 = .ok (.aload_n 2, 1)) rfl) ?_
  refine And.intro (k_gJ (pc := 55) rfl (by decide) rfl zin6 lk_X0_54 (by decide +kernel : decode cX0_putLine 55 = .ok (.getfield 54, 3))) ?_
  refine And.intro (k_lmul (pc := 58) (by decide +kernel : decode cX0_putLine 58 = .ok (.lmul, 1))) ?_
  refine And.intro (k_lstore (pc := 59) (by decide +kernel : decode cX0_putLine 59 = .ok (.lstore 9, 2))) ?_
  refine And.intro (k_lload (pc := 61) (by decide +kernel : decode cX0_putLine 61 = .ok (.lload 7, 2))) ?_
  refine And.intro (k_aload_n (pc := 63) (by decide +kernel : decode cX0_putLine 63 = .ok (.aload_n 0, 1)) rfl) ?_
  refine And.intro (k_gR (pc := 64) rfl (by decide) rfl zin0 lk_X0_9 (by decide +kernel : decode cX0_putLine 64 = .ok (.getfield 9, 3))) ?_
  refine And.intro (k_bipush (pc := 67) (by decide +kernel : decode cX0_putLine 67 = .ok (.bipush 14, 2)) (by decide)) ?_
  refine And.intro (k_lald (pc := 69) (by decide +kernel : decode cX0_putLine 69 = .ok (.laload, 1))) ?_
  refine And.intro (k_lmul (pc := 70) (by decide +kernel : decode cX0_putLine 70 = .ok (.lmul, 1))) ?_
  refine And.intro (k_lload (pc := 71) (by decide +kernel : decode cX0_putLine 71 = .ok (.lload 5, 2))) ?_
  refine And.intro (k_aload_n (pc := 73) (by decide +kernel : decode cX0_putLine 73 = .ok (.aload_n 1, 1)) rfl) ?_
  refine And.intro (k_gJ (pc := 74) rfl (by decide) rfl zin6 lk_X0_50 (by decide +kernel : decode cX0_putLine 74 = .ok (.getfield 50, 3))) ?_
  refine And.intro (k_lmul (pc := 77) (by decide +kernel : decode cX0_putLine 77 = .ok (.lmul, 1))) ?_
  refine And.intro (k_aload_n (pc := 78) (by decide +kernel : decode cX0_putLine 78 = .ok (.aload_n 2, 1)) rfl) ?_
  refine And.intro (k_gJ (pc := 79) rfl (by decide) rfl zin6 lk_X0_54 (by decide +kernel : decode cX0_putLine 79 = .ok (.getfield 54, 3))) ?_
  refine And.intro (k_lmul (pc := 82) (by decide +kernel : decode cX0_putLine 82 = .ok (.lmul, 1))) ?_
  refine And.intro (k_ladd (pc := 83) (by decide +kernel : decode cX0_putLine 83 = .ok (.ladd, 1))) ?_
  refine And.intro (k_lstore (pc := 84) (by decide +kernel : decode cX0_putLine 84 = .ok (.lstore 11, 2))) ?_
  refine And.intro (k_lload (pc := 86) (by decide +kernel : decode cX0_putLine 86 = .ok (.lload 7, 2))) ?_
  refine And.intro (k_lload (pc := 88) (by decide +kernel : decode cX0_putLine 88 = .ok (.lload 9, 2))) ?_
  refine And.intro (k_crS (n := 2) (pc := 90) hG (zRoom_self 2) ini_X11 sta_X11_greatestDivisor mk_X0_56 dy_X11_greatestDivisor (by decide +kernel : decode cX0_putLine 90 = .ok (.invokestatic 56, 3))) ?_
  refine And.intro (k_lload (pc := 93) (by decide +kernel : decode cX0_putLine 93 = .ok (.lload 11, 2))) ?_
  refine And.intro (k_crS (n := 2) (pc := 95) hG (zRoom_self 2) ini_X11 sta_X11_greatestDivisor mk_X0_56 dy_X11_greatestDivisor (by decide +kernel : decode cX0_putLine 95 = .ok (.invokestatic 56, 3))) ?_
  refine And.intro (k_lstore (pc := 98) (by decide +kernel : decode cX0_putLine 98 = .ok (.lstore 13, 2))) ?_
  refine And.intro (k_lload (pc := 100) (by decide +kernel : decode cX0_putLine 100 = .ok (.lload 13, 2))) ?_
  refine And.intro (k_lconst (pc := 102) (by decide +kernel : decode cX0_putLine 102 = .ok (.lconst 1, 1)) (by decide)) ?_
  refine And.intro (k_lcmp_le (pc := 103) (by decide +kernel : decode cX0_putLine 103 = .ok (.lcmp, 1)) (by decide +kernel : decode cX0_putLine 104 = .ok (.ifCond .le 24, 3)) (by decide)) ?_
  refine And.intro (k_lload (pc := 107) (by decide +kernel : decode cX0_putLine 107 = .ok (.lload 7, 2))) ?_
  refine And.intro (k_lload (pc := 109) (by decide +kernel : decode cX0_putLine 109 = .ok (.lload 13, 2))) ?_
  refine And.intro (k_ldiv (pc := 111) (by decide +kernel : decode cX0_putLine 111 = .ok (.ldiv, 1))) ?_
  refine And.intro (k_lstore (pc := 112) (by decide +kernel : decode cX0_putLine 112 = .ok (.lstore 7, 2))) ?_
  refine And.intro (k_lload (pc := 114) (by decide +kernel : decode cX0_putLine 114 = .ok (.lload 9, 2))) ?_
  refine And.intro (k_lload (pc := 116) (by decide +kernel : decode cX0_putLine 116 = .ok (.lload 13, 2))) ?_
  refine And.intro (k_ldiv (pc := 118) (by decide +kernel : decode cX0_putLine 118 = .ok (.ldiv, 1))) ?_
  refine And.intro (k_lstore (pc := 119) (by decide +kernel : decode cX0_putLine 119 = .ok (.lstore 9, 2))) ?_
  refine And.intro (k_lload (pc := 121) (by decide +kernel : decode cX0_putLine 121 = .ok (.lload 11, 2))) ?_
  refine And.intro (k_lload (pc := 123) (by decide +kernel : decode cX0_putLine 123 = .ok (.lload 13, 2))) ?_
  refine And.intro (k_ldiv (pc := 125) (by decide +kernel : decode cX0_putLine 125 = .ok (.ldiv, 1))) ?_
  refine And.intro (k_lstore (pc := 126) (by decide +kernel : decode cX0_putLine 126 = .ok (.lstore 11, 2))) ?_
  refine And.intro (k_aload_n (pc := 128) (by decide +kernel : decode cX0_putLine 128 = .ok (.aload_n 0, 1)) rfl) ?_
  refine And.intro (k_gR (pc := 129) rfl (by decide) rfl zin0 lk_X0_9 (by decide +kernel : decode cX0_putLine 129 = .ok (.getfield 9, 3))) ?_
  refine And.intro (k_iconst (pc := 132) (by decide +kernel : decode cX0_putLine 132 = .ok (.iconst 0, 1)) (by decide)) ?_
  refine And.intro (k_iload (pc := 133) (by decide +kernel : decode cX0_putLine 133 = .ok (.iload 4, 2))) ?_
  refine And.intro (k_if_ne (pc := 135) (by decide +kernel : decode cX0_putLine 135 = .ok (.ifCond .ne 8, 3)) (by decide)) ?_
  refine And.intro (k_lload (pc := 138) (by decide +kernel : decode cX0_putLine 138 = .ok (.lload 7, 2))) ?_
  refine And.intro (k_goto (pc := 140) (by decide +kernel : decode cX0_putLine 140 = .ok (.goto 5, 3)) (by decide)) ?_
  refine And.intro (k_lload (pc := 143) (by decide +kernel : decode cX0_putLine 143 = .ok (.lload 9, 2))) ?_
  refine And.intro (k_last (pc := 145) (by decide +kernel : decode cX0_putLine 145 = .ok (.lastore, 1))) ?_
  refine And.intro (k_aload_n (pc := 146) (by decide +kernel : decode cX0_putLine 146 = .ok (.aload_n 0, 1)) rfl) ?_
  refine And.intro (k_gR (pc := 147) rfl (by decide) rfl zin0 lk_X0_9 (by decide +kernel : decode cX0_putLine 147 = .ok (.getfield 9, 3))) ?_
  refine And.intro (k_iconst (pc := 150) (by decide +kernel : decode cX0_putLine 150 = .ok (.iconst 1, 1)) (by decide)) ?_
  refine And.intro (k_iload (pc := 151) (by decide +kernel : decode cX0_putLine 151 = .ok (.iload 4, 2))) ?_
  refine And.intro (k_if_ne (pc := 153) (by decide +kernel : decode cX0_putLine 153 = .ok (.ifCond .ne 8, 3)) (by decide)) ?_
  refine And.intro (k_lload (pc := 156) (by decide +kernel : decode cX0_putLine 156 = .ok (.lload 9, 2))) ?_
  refine And.intro (k_goto (pc := 158) (by decide +kernel : decode cX0_putLine 158 = .ok (.goto 5, 3)) (by decide)) ?_
  refine And.intro (k_lload (pc := 161) (by decide +kernel : decode cX0_putLine 161 = .ok (.lload 7, 2))) ?_
  refine And.intro (k_last (pc := 163) (by decide +kernel : decode cX0_putLine 163 = .ok (.lastore, 1))) ?_
  refine And.intro (k_aload_n (pc := 164) (by decide +kernel : decode cX0_putLine 164 = .ok (.aload_n 0, 1)) rfl) ?_
  refine And.intro (k_gR (pc := 165) rfl (by decide) rfl zin0 lk_X0_9 (by decide +kernel : decode cX0_putLine 165 = .ok (.getfield 9, 3))) ?_
  refine And.intro (k_iconst (pc := 168) (by decide +kernel : decode cX0_putLine 168 = .ok (.iconst 2, 1)) (by decide)) ?_
  refine And.intro (k_lload (pc := 169) (by decide +kernel : decode cX0_putLine 169 = .ok (.lload 11, 2))) ?_
  refine And.intro (k_last (pc := 171) (by decide +kernel : decode cX0_putLine 171 = .ok (.lastore, 1))) ?_
  refine And.intro (k_return (pc := 172) rfl (by decide +kernel : decode cX0_putLine 172 = .ok (.return_, 1))) ?_
  exact trivial
theorem cdX0_putLine : Cond.code yX0_putLine cX0_putLine 15 none ∈ zWs := zWs_in 747 (by decide +kernel) rfl
noncomputable def pgX5_allRows : zPg := [(0, o_al 0), (1, o_gI 5 0), (4, o_ic (4)), (5, o_iadd), (6, o_ir)]
set_option maxRecDepth 20000 in
theorem pkX5_allRows {G : zG} (hG : zGok G) (Q : zRt) : zPOK G (zRm 0) RX5 cX5_allRows 1 (some .int) (zF G Q 0 0) 0 0 (zCalls G 0) Q pgX5_allRows := by
  refine And.intro (k_aload_n (pc := 0) (by decide +kernel : decode cX5_allRows 0 = .ok (.aload_n 0, 1)) rfl) ?_
  refine And.intro (k_gI (pc := 1) rfl (by decide) rfl zin5 lk_X5_9 (by decide +kernel : decode cX5_allRows 1 = .ok (.getfield 9, 3))) ?_
  refine And.intro (k_iconst (pc := 4) (by decide +kernel : decode cX5_allRows 4 = .ok (.iconst 4, 1)) (by decide)) ?_
  refine And.intro (k_iadd (pc := 5) (by decide +kernel : decode cX5_allRows 5 = .ok (.iadd, 1))) ?_
  refine And.intro (k_ireturn (pc := 6) rfl (by decide +kernel : decode cX5_allRows 6 = .ok (.ireturn, 1))) ?_
  exact trivial
theorem cdX5_allRows : Cond.code yX5_allRows cX5_allRows 1 (some .int) ∈ zWs := zWs_in 502 (by decide +kernel) rfl
noncomputable def pgX5_isTold : zPg := [(0, o_il 1), (1, o_if_lt 22), (4, o_il 1), (5, o_al 0), (6, o_gI 5 0), (9, o_ic_ge 22), (12, o_il 1), (13, o_ic (6)), (15, o_ic_ge 22), (18, o_ic (1)), (19, o_go 23), (22, o_ic (0)), (23, o_zr)]
set_option maxRecDepth 20000 in
theorem pkX5_isTold {G : zG} (hG : zGok G) (Q : zRt) : zPOK G (zRm 0) RX5 cX5_isTold 2 (some .boolean) (zF G Q 0 0) 0 0 (zCalls G 0) Q pgX5_isTold := by
  refine And.intro (k_iload_n (pc := 0) (by decide +kernel : decode cX5_isTold 0 = .ok (.iload_n 1, 1)) rfl) ?_
  refine And.intro (k_if_lt (pc := 1) (by decide +kernel : decode cX5_isTold 1 = .ok (.ifCond .lt 21, 3)) (by decide)) ?_
  refine And.intro (k_iload_n (pc := 4) (by decide +kernel : decode cX5_isTold 4 = .ok (.iload_n 1, 1)) rfl) ?_
  refine And.intro (k_aload_n (pc := 5) (by decide +kernel : decode cX5_isTold 5 = .ok (.aload_n 0, 1)) rfl) ?_
  refine And.intro (k_gI (pc := 6) rfl (by decide) rfl zin5 lk_X5_9 (by decide +kernel : decode cX5_isTold 6 = .ok (.getfield 9, 3))) ?_
  refine And.intro (k_icmp_ge (pc := 9) (by decide +kernel : decode cX5_isTold 9 = .ok (.if_icmp .ge 13, 3)) (by decide)) ?_
  refine And.intro (k_iload_n (pc := 12) (by decide +kernel : decode cX5_isTold 12 = .ok (.iload_n 1, 1)) rfl) ?_
  refine And.intro (k_bipush (pc := 13) (by decide +kernel : decode cX5_isTold 13 = .ok (.bipush 6, 2)) (by decide)) ?_
  refine And.intro (k_icmp_ge (pc := 15) (by decide +kernel : decode cX5_isTold 15 = .ok (.if_icmp .ge 7, 3)) (by decide)) ?_
  refine And.intro (k_iconst (pc := 18) (by decide +kernel : decode cX5_isTold 18 = .ok (.iconst 1, 1)) (by decide)) ?_
  refine And.intro (k_goto (pc := 19) (by decide +kernel : decode cX5_isTold 19 = .ok (.goto 4, 3)) (by decide)) ?_
  refine And.intro (k_iconst (pc := 22) (by decide +kernel : decode cX5_isTold 22 = .ok (.iconst 0, 1)) (by decide)) ?_
  refine And.intro (k_zreturn (pc := 23) rfl (by decide +kernel : decode cX5_isTold 23 = .ok (.ireturn, 1))) ?_
  exact trivial
theorem cdX5_isTold : Cond.code yX5_isTold cX5_isTold 2 (some .boolean) ∈ zWs := zWs_in 506 (by decide +kernel) rfl
noncomputable def pgX5_part : zPg := [(0, o_il 1), (1, o_if_lt 21), (4, o_il 1), (5, o_al 0), (6, o_vr2 yX5_allRows 5 1), (9, o_ic_ge 21), (12, o_il 2), (13, o_if_lt 21), (16, o_il 2), (17, o_ic (2)), (18, o_ic_le 23), (21, o_ic (0)), (22, o_ir), (23, o_al 0), (24, o_il 1), (25, o_vr2 yX5_isTold 5 2), (28, o_if_eq 42), (31, o_al 0), (32, o_gR 5 2), (35, o_ic (3)), (36, o_il 1), (37, o_imul), (38, o_il 2), (39, o_iadd), (40, o_xI 14), (41, o_ir), (42, o_ic (3)), (43, o_il 1), (44, o_al 0), (45, o_gI 5 0), (48, o_isub), (49, o_imul), (50, o_il 2), (51, o_iadd), (52, o_is 3), (53, o_il 3), (54, o_if_lt 73), (57, o_il 3), (58, o_gs 0), (61, o_sl 0 12), (62, o_ic_ge 73), (65, o_gs 0), (68, o_il 3), (69, o_xs 0 12 zBx), (70, o_go 74), (73, o_ic (0)), (74, o_ir)]
set_option maxRecDepth 20000 in
theorem pkX5_part {G : zG} (hG : zGok G) (Q : zRt) : zPOK G (zRm 1) RX5 cX5_part 4 (some .int) (zF G Q 0 0) 0 0 (zCalls G 1) Q pgX5_part := by
  refine And.intro (k_iload_n (pc := 0) (by decide +kernel : decode cX5_part 0 = .ok (.iload_n 1, 1)) rfl) ?_
  refine And.intro (k_if_lt (pc := 1) (by decide +kernel : decode cX5_part 1 = .ok (.ifCond .lt 20, 3)) (by decide)) ?_
  refine And.intro (k_iload_n (pc := 4) (by decide +kernel : decode cX5_part 4 = .ok (.iload_n 1, 1)) rfl) ?_
  refine And.intro (k_aload_n (pc := 5) (by decide +kernel : decode cX5_part 5 = .ok (.aload_n 0, 1)) rfl) ?_
  refine And.intro (k_crV (n := 0) (pc := 6) hG (zRoom_self 1) (tag := 5) rfl ini_X5 im_X5_allRows se_X5_allRows mk_X5_37 dy_X5_allRows (by decide +kernel : decode cX5_part 6 = .ok (.invokevirtual 37, 3))) ?_
  refine And.intro (k_icmp_ge (pc := 9) (by decide +kernel : decode cX5_part 9 = .ok (.if_icmp .ge 12, 3)) (by decide)) ?_
  refine And.intro (k_iload_n (pc := 12) (by decide +kernel : decode cX5_part 12 = .ok (.iload_n 2, 1)) rfl) ?_
  refine And.intro (k_if_lt (pc := 13) (by decide +kernel : decode cX5_part 13 = .ok (.ifCond .lt 8, 3)) (by decide)) ?_
  refine And.intro (k_iload_n (pc := 16) (by decide +kernel : decode cX5_part 16 = .ok (.iload_n 2, 1)) rfl) ?_
  refine And.intro (k_iconst (pc := 17) (by decide +kernel : decode cX5_part 17 = .ok (.iconst 2, 1)) (by decide)) ?_
  refine And.intro (k_icmp_le (pc := 18) (by decide +kernel : decode cX5_part 18 = .ok (.if_icmp .le 5, 3)) (by decide)) ?_
  refine And.intro (k_iconst (pc := 21) (by decide +kernel : decode cX5_part 21 = .ok (.iconst 0, 1)) (by decide)) ?_
  refine And.intro (k_ireturn (pc := 22) rfl (by decide +kernel : decode cX5_part 22 = .ok (.ireturn, 1))) ?_
  refine And.intro (k_aload_n (pc := 23) (by decide +kernel : decode cX5_part 23 = .ok (.aload_n 0, 1)) rfl) ?_
  refine And.intro (k_iload_n (pc := 24) (by decide +kernel : decode cX5_part 24 = .ok (.iload_n 1, 1)) rfl) ?_
  refine And.intro (k_crV (n := 1) (pc := 25) hG (zRoom_self 1) (tag := 5) rfl ini_X5 im_X5_isTold se_X5_isTold mk_X5_41 dy_X5_isTold (by decide +kernel : decode cX5_part 25 = .ok (.invokevirtual 41, 3))) ?_
  refine And.intro (k_if_eq (pc := 28) (by decide +kernel : decode cX5_part 28 = .ok (.ifCond .eq 14, 3)) (by decide)) ?_
  refine And.intro (k_aload_n (pc := 31) (by decide +kernel : decode cX5_part 31 = .ok (.aload_n 0, 1)) rfl) ?_
  refine And.intro (k_gR (pc := 32) rfl (by decide) rfl zin5 lk_X5_18 (by decide +kernel : decode cX5_part 32 = .ok (.getfield 18, 3))) ?_
  refine And.intro (k_iconst (pc := 35) (by decide +kernel : decode cX5_part 35 = .ok (.iconst 3, 1)) (by decide)) ?_
  refine And.intro (k_iload_n (pc := 36) (by decide +kernel : decode cX5_part 36 = .ok (.iload_n 1, 1)) rfl) ?_
  refine And.intro (k_imul (pc := 37) (by decide +kernel : decode cX5_part 37 = .ok (.imul, 1))) ?_
  refine And.intro (k_iload_n (pc := 38) (by decide +kernel : decode cX5_part 38 = .ok (.iload_n 2, 1)) rfl) ?_
  refine And.intro (k_iadd (pc := 39) (by decide +kernel : decode cX5_part 39 = .ok (.iadd, 1))) ?_
  refine And.intro (k_iald (pc := 40) (by decide +kernel : decode cX5_part 40 = .ok (.iaload, 1))) ?_
  refine And.intro (k_ireturn (pc := 41) rfl (by decide +kernel : decode cX5_part 41 = .ok (.ireturn, 1))) ?_
  refine And.intro (k_iconst (pc := 42) (by decide +kernel : decode cX5_part 42 = .ok (.iconst 3, 1)) (by decide)) ?_
  refine And.intro (k_iload_n (pc := 43) (by decide +kernel : decode cX5_part 43 = .ok (.iload_n 1, 1)) rfl) ?_
  refine And.intro (k_aload_n (pc := 44) (by decide +kernel : decode cX5_part 44 = .ok (.aload_n 0, 1)) rfl) ?_
  refine And.intro (k_gI (pc := 45) rfl (by decide) rfl zin5 lk_X5_9 (by decide +kernel : decode cX5_part 45 = .ok (.getfield 9, 3))) ?_
  refine And.intro (k_isub (pc := 48) (by decide +kernel : decode cX5_part 48 = .ok (.isub, 1))) ?_
  refine And.intro (k_imul (pc := 49) (by decide +kernel : decode cX5_part 49 = .ok (.imul, 1))) ?_
  refine And.intro (k_iload_n (pc := 50) (by decide +kernel : decode cX5_part 50 = .ok (.iload_n 2, 1)) rfl) ?_
  refine And.intro (k_iadd (pc := 51) (by decide +kernel : decode cX5_part 51 = .ok (.iadd, 1))) ?_
  refine And.intro (k_istore_n (pc := 52) (by decide +kernel : decode cX5_part 52 = .ok (.istore_n 3, 1)) rfl) ?_
  refine And.intro (k_iload_n (pc := 53) (by decide +kernel : decode cX5_part 53 = .ok (.iload_n 3, 1)) rfl) ?_
  refine And.intro (k_if_lt (pc := 54) (by decide +kernel : decode cX5_part 54 = .ok (.ifCond .lt 19, 3)) (by decide)) ?_
  refine And.intro (k_iload_n (pc := 57) (by decide +kernel : decode cX5_part 57 = .ok (.iload_n 3, 1)) rfl) ?_
  refine And.intro (k_gs0 (pc := 58) sk_X5_45 (by decide +kernel : decode cX5_part 58 = .ok (.getstatic 45, 3))) ?_
  refine And.intro (k_sl (pc := 61) (by decide) rfl (by decide +kernel : decode cX5_part 61 = .ok (.arraylength, 1))) ?_
  refine And.intro (k_icmp_ge (pc := 62) (by decide +kernel : decode cX5_part 62 = .ok (.if_icmp .ge 11, 3)) (by decide)) ?_
  refine And.intro (k_gs0 (pc := 65) sk_X5_45 (by decide +kernel : decode cX5_part 65 = .ok (.getstatic 45, 3))) ?_
  refine And.intro (k_iload_n (pc := 68) (by decide +kernel : decode cX5_part 68 = .ok (.iload_n 3, 1)) rfl) ?_
  refine And.intro (k_xs (pc := 69) (by decide) rfl rfl (by decide +kernel : decode cX5_part 69 = .ok (.iaload, 1))) ?_
  refine And.intro (k_goto (pc := 70) (by decide +kernel : decode cX5_part 70 = .ok (.goto 4, 3)) (by decide)) ?_
  refine And.intro (k_iconst (pc := 73) (by decide +kernel : decode cX5_part 73 = .ok (.iconst 0, 1)) (by decide)) ?_
  refine And.intro (k_ireturn (pc := 74) rfl (by decide +kernel : decode cX5_part 74 = .ok (.ireturn, 1))) ?_
  exact trivial
theorem cdX5_part : Cond.code yX5_part cX5_part 4 (some .int) ∈ zWs := zWs_in 498 (by decide +kernel) rfl
noncomputable def pgX0_firstBounding : zPg := [(0, o_al 0), (1, o_gR 0 0), (4, o_ic (13)), (6, o_xJ), (7, o_l2i), (8, o_is 5), (10, o_al 0), (11, o_gR 0 0), (14, o_ic (14)), (16, o_xJ), (17, o_il 4), (19, o_i2l), (20, o_ladd), (21, o_ls 6), (23, o_ic (0)), (24, o_is 8), (26, o_il 8), (28, o_al 1), (29, o_vr2 yX5_allRows 5 1), (32, o_ic_ge 132), (35, o_al 1), (36, o_il 8), (38, o_ic (1)), (39, o_il 5), (41, o_isub), (42, o_vr2 yX5_part 5 3), (45, o_i2l), (46, o_ls 9), (48, o_il 3), (49, o_if_ne 67), (52, o_ll 9), (54, o_lc 0), (55, o_lc_le 63), (59, o_ic (1)), (60, o_go 79), (63, o_ic (0)), (64, o_go 79), (67, o_ll 9), (69, o_lc 0), (70, o_lc_ge 78), (74, o_ic (1)), (75, o_go 79), (78, o_ic (0)), (79, o_is 11), (81, o_il 11), (83, o_if_eq 126), (86, o_ll 9), (88, o_al 2), (89, o_gJ 6 0), (92, o_lmul), (93, o_al 1), (94, o_il 8), (96, o_ic (2)), (97, o_vr2 yX5_part 5 3), (100, o_i2l), (101, o_al 1), (102, o_il 8), (104, o_il 5), (106, o_vr2 yX5_part 5 3), (109, o_i2l), (110, o_ll 6), (112, o_lmul), (113, o_lsub), (114, o_al 2), (115, o_gJ 6 1), (118, o_lmul), (119, o_lc_ne 126), (123, o_il 8), (125, o_ir), (126, o_inc 8 (1)), (129, o_go 26), (132, o_ic (-1)), (133, o_ir)]
set_option maxRecDepth 20000 in
theorem pkX0_firstBounding {G : zG} (hG : zGok G) (Q : zRt) : zPOK G (zRm 2) RX0 cX0_firstBounding 12 (some .int) (zF G Q 0 0) 0 0 (zCalls G 2) Q pgX0_firstBounding := by
  refine And.intro (k_aload_n (pc := 0) (by decide +kernel : decode cX0_firstBounding 0 = .ok (.aload_n 0, 1)) rfl) ?_
  refine And.intro (k_gR (pc := 1) rfl (by decide) rfl zin0 lk_X0_9 (by decide +kernel : decode cX0_firstBounding 1 = .ok (.getfield 9, 3))) ?_
  refine And.intro (k_bipush (pc := 4) (by decide +kernel : decode cX0_firstBounding 4 = .ok (.bipush 13, 2)) (by decide)) ?_
  refine And.intro (k_lald (pc := 6) (by decide +kernel : decode cX0_firstBounding 6 = .ok (.laload, 1))) ?_
  refine And.intro (k_l2i (pc := 7) (by decide +kernel : decode cX0_firstBounding 7 = .ok (.l2i, 1))) ?_
  refine And.intro (k_istore (pc := 8) (by decide +kernel : decode cX0_firstBounding 8 = .ok (.istore 5, 2))) ?_
  refine And.intro (k_aload_n (pc := 10) (by decide +kernel : decode cX0_firstBounding 10 = .ok (.aload_n 0, 1)) rfl) ?_
  refine And.intro (k_gR (pc := 11) rfl (by decide) rfl zin0 lk_X0_9 (by decide +kernel : decode cX0_firstBounding 11 = .ok (.getfield 9, 3))) ?_
  refine And.intro (k_bipush (pc := 14) (by decide +kernel : decode cX0_firstBounding 14 = .ok (.bipush 14, 2)) (by decide)) ?_
  refine And.intro (k_lald (pc := 16) (by decide +kernel : decode cX0_firstBounding 16 = .ok (.laload, 1))) ?_
  refine And.intro (k_iload (pc := 17) (by decide +kernel : decode cX0_firstBounding 17 = .ok (.iload 4, 2))) ?_
  refine And.intro (k_i2l (pc := 19) (by decide +kernel : decode cX0_firstBounding 19 = .ok (.i2l, 1))) ?_
  refine And.intro (k_ladd (pc := 20) (by decide +kernel : decode cX0_firstBounding 20 = .ok (.ladd, 1))) ?_
  refine And.intro (k_lstore (pc := 21) (by decide +kernel : decode cX0_firstBounding 21 = .ok (.lstore 6, 2))) ?_
  refine And.intro (k_iconst (pc := 23) (by decide +kernel : decode cX0_firstBounding 23 = .ok (.iconst 0, 1)) (by decide)) ?_
  refine And.intro (k_istore (pc := 24) (by decide +kernel : decode cX0_firstBounding 24 = .ok (.istore 8, 2))) ?_
  refine And.intro (k_iload (pc := 26) (by decide +kernel : decode cX0_firstBounding 26 = .ok (.iload 8, 2))) ?_
  refine And.intro (k_aload_n (pc := 28) (by decide +kernel : decode cX0_firstBounding 28 = .ok (.aload_n 1, 1)) rfl) ?_
  refine And.intro (k_crV (n := 0) (pc := 29) hG (zRoom_self 2) (tag := 5) rfl ini_X5 im_X5_allRows se_X5_allRows mk_X0_78 dy_X5_allRows (by decide +kernel : decode cX0_firstBounding 29 = .ok (.invokevirtual 78, 3))) ?_
  refine And.intro (k_icmp_ge (pc := 32) (by decide +kernel : decode cX0_firstBounding 32 = .ok (.if_icmp .ge 100, 3)) (by decide)) ?_
  refine And.intro (k_aload_n (pc := 35) (by decide +kernel : decode cX0_firstBounding 35 = .ok (.aload_n 1, 1)) rfl) ?_
  refine And.intro (k_iload (pc := 36) (by decide +kernel : decode cX0_firstBounding 36 = .ok (.iload 8, 2))) ?_
  refine And.intro (k_iconst (pc := 38) (by decide +kernel : decode cX0_firstBounding 38 = .ok (.iconst 1, 1)) (by decide)) ?_
  refine And.intro (k_iload (pc := 39) (by decide +kernel : decode cX0_firstBounding 39 = .ok (.iload 5, 2))) ?_
  refine And.intro (k_isub (pc := 41) (by decide +kernel : decode cX0_firstBounding 41 = .ok (.isub, 1))) ?_
  refine And.intro (k_crV (n := 2) (pc := 42) hG (zRoom_self 2) (tag := 5) rfl ini_X5 im_X5_part se_X5_part mk_X0_64 dy_X5_part (by decide +kernel : decode cX0_firstBounding 42 = .ok (.invokevirtual 64, 3))) ?_
  refine And.intro (k_i2l (pc := 45) (by decide +kernel : decode cX0_firstBounding 45 = .ok (.i2l, 1))) ?_
  refine And.intro (k_lstore (pc := 46) (by decide +kernel : decode cX0_firstBounding 46 = .ok (.lstore 9, 2))) ?_
  refine And.intro (k_iload_n (pc := 48) (by decide +kernel : decode cX0_firstBounding 48 = .ok (.iload_n 3, 1)) rfl) ?_
  refine And.intro (k_if_ne (pc := 49) (by decide +kernel : decode cX0_firstBounding 49 = .ok (.ifCond .ne 18, 3)) (by decide)) ?_
  refine And.intro (k_lload (pc := 52) (by decide +kernel : decode cX0_firstBounding 52 = .ok (.lload 9, 2))) ?_
  refine And.intro (k_lconst (pc := 54) (by decide +kernel : decode cX0_firstBounding 54 = .ok (.lconst 0, 1)) (by decide)) ?_
  refine And.intro (k_lcmp_le (pc := 55) (by decide +kernel : decode cX0_firstBounding 55 = .ok (.lcmp, 1)) (by decide +kernel : decode cX0_firstBounding 56 = .ok (.ifCond .le 7, 3)) (by decide)) ?_
  refine And.intro (k_iconst (pc := 59) (by decide +kernel : decode cX0_firstBounding 59 = .ok (.iconst 1, 1)) (by decide)) ?_
  refine And.intro (k_goto (pc := 60) (by decide +kernel : decode cX0_firstBounding 60 = .ok (.goto 19, 3)) (by decide)) ?_
  refine And.intro (k_iconst (pc := 63) (by decide +kernel : decode cX0_firstBounding 63 = .ok (.iconst 0, 1)) (by decide)) ?_
  refine And.intro (k_goto (pc := 64) (by decide +kernel : decode cX0_firstBounding 64 = .ok (.goto 15, 3)) (by decide)) ?_
  refine And.intro (k_lload (pc := 67) (by decide +kernel : decode cX0_firstBounding 67 = .ok (.lload 9, 2))) ?_
  refine And.intro (k_lconst (pc := 69) (by decide +kernel : decode cX0_firstBounding 69 = .ok (.lconst 0, 1)) (by decide)) ?_
  refine And.intro (k_lcmp_ge (pc := 70) (by decide +kernel : decode cX0_firstBounding 70 = .ok (.lcmp, 1)) (by decide +kernel : decode cX0_firstBounding 71 = .ok (.ifCond .ge 7, 3)) (by decide)) ?_
  refine And.intro (k_iconst (pc := 74) (by decide +kernel : decode cX0_firstBounding 74 = .ok (.iconst 1, 1)) (by decide)) ?_
  refine And.intro (k_goto (pc := 75) (by decide +kernel : decode cX0_firstBounding 75 = .ok (.goto 4, 3)) (by decide)) ?_
  refine And.intro (k_iconst (pc := 78) (by decide +kernel : decode cX0_firstBounding 78 = .ok (.iconst 0, 1)) (by decide)) ?_
  refine And.intro (k_istore (pc := 79) (by decide +kernel : decode cX0_firstBounding 79 = .ok (.istore 11, 2))) ?_
  refine And.intro (k_iload (pc := 81) (by decide +kernel : decode cX0_firstBounding 81 = .ok (.iload 11, 2))) ?_
  refine And.intro (k_if_eq (pc := 83) (by decide +kernel : decode cX0_firstBounding 83 = .ok (.ifCond .eq 43, 3)) (by decide)) ?_
  refine And.intro (k_lload (pc := 86) (by decide +kernel : decode cX0_firstBounding 86 = .ok (.lload 9, 2))) ?_
  refine And.intro (k_aload_n (pc := 88) (by decide +kernel : decode cX0_firstBounding 88 = .ok (.aload_n 2, 1)) rfl) ?_
  refine And.intro (k_gJ (pc := 89) rfl (by decide) rfl zin6 lk_X0_50 (by decide +kernel : decode cX0_firstBounding 89 = .ok (.getfield 50, 3))) ?_
  refine And.intro (k_lmul (pc := 92) (by decide +kernel : decode cX0_firstBounding 92 = .ok (.lmul, 1))) ?_
  refine And.intro (k_aload_n (pc := 93) (by decide +kernel : decode cX0_firstBounding 93 = .ok (.aload_n 1, 1)) rfl) ?_
  refine And.intro (k_iload (pc := 94) (by decide +kernel : decode cX0_firstBounding 94 = .ok (.iload 8, 2))) ?_
  refine And.intro (k_iconst (pc := 96) (by decide +kernel : decode cX0_firstBounding 96 = .ok (.iconst 2, 1)) (by decide)) ?_
  refine And.intro (k_crV (n := 2) (pc := 97) hG (zRoom_self 2) (tag := 5) rfl ini_X5 im_X5_part se_X5_part mk_X0_64 dy_X5_part (by decide +kernel : decode cX0_firstBounding 97 = .ok (.invokevirtual 64, 3))) ?_
  refine And.intro (k_i2l (pc := 100) (by decide +kernel : decode cX0_firstBounding 100 = .ok (.i2l, 1))) ?_
  refine And.intro (k_aload_n (pc := 101) (by decide +kernel : decode cX0_firstBounding 101 = .ok (.aload_n 1, 1)) rfl) ?_
  refine And.intro (k_iload (pc := 102) (by decide +kernel : decode cX0_firstBounding 102 = .ok (.iload 8, 2))) ?_
  refine And.intro (k_iload (pc := 104) (by decide +kernel : decode cX0_firstBounding 104 = .ok (.iload 5, 2))) ?_
  refine And.intro (k_crV (n := 2) (pc := 106) hG (zRoom_self 2) (tag := 5) rfl ini_X5 im_X5_part se_X5_part mk_X0_64 dy_X5_part (by decide +kernel : decode cX0_firstBounding 106 = .ok (.invokevirtual 64, 3))) ?_
  refine And.intro (k_i2l (pc := 109) (by decide +kernel : decode cX0_firstBounding 109 = .ok (.i2l, 1))) ?_
  refine And.intro (k_lload (pc := 110) (by decide +kernel : decode cX0_firstBounding 110 = .ok (.lload 6, 2))) ?_
  refine And.intro (k_lmul (pc := 112) (by decide +kernel : decode cX0_firstBounding 112 = .ok (.lmul, 1))) ?_
  refine And.intro (k_lsub (pc := 113) (by decide +kernel : decode cX0_firstBounding 113 = .ok (.lsub, 1))) ?_
  refine And.intro (k_aload_n (pc := 114) (by decide +kernel : decode cX0_firstBounding 114 = .ok (.aload_n 2, 1)) rfl) ?_
  refine And.intro (k_gJ (pc := 115) rfl (by decide) rfl zin6 lk_X0_54 (by decide +kernel : decode cX0_firstBounding 115 = .ok (.getfield 54, 3))) ?_
  refine And.intro (k_lmul (pc := 118) (by decide +kernel : decode cX0_firstBounding 118 = .ok (.lmul, 1))) ?_
  refine And.intro (k_lcmp_ne (pc := 119) (by decide +kernel : decode cX0_firstBounding 119 = .ok (.lcmp, 1)) (by decide +kernel : decode cX0_firstBounding 120 = .ok (.ifCond .ne 6, 3)) (by decide)) ?_
  refine And.intro (k_iload (pc := 123) (by decide +kernel : decode cX0_firstBounding 123 = .ok (.iload 8, 2))) ?_
  refine And.intro (k_ireturn (pc := 125) rfl (by decide +kernel : decode cX0_firstBounding 125 = .ok (.ireturn, 1))) ?_
  refine And.intro (k_iinc (pc := 126) (by decide +kernel : decode cX0_firstBounding 126 = .ok (.iinc 8 1, 3)) (by decide)) ?_
  refine And.intro (k_goto (pc := 129) (by decide +kernel : decode cX0_firstBounding 129 = .ok (.goto (-103), 3)) (by decide)) ?_
  refine And.intro (k_iconst (pc := 132) (by decide +kernel : decode cX0_firstBounding 132 = .ok (.iconst (-1), 1)) (by decide)) ?_
  refine And.intro (k_ireturn (pc := 133) rfl (by decide +kernel : decode cX0_firstBounding 133 = .ok (.ireturn, 1))) ?_
  exact trivial
theorem cdX0_firstBounding : Cond.code yX0_firstBounding cX0_firstBounding 12 (some .int) ∈ zWs := zWs_in 757 (by decide +kernel) rfl
noncomputable def pgX6_put : zPg := [(0, o_ll 1), (1, o_ll 3), (2, o_cr yX11_greatestDivisor 2), (5, o_ls 5), (7, o_ll 3), (8, o_lc 0), (9, o_lc_eq 20), (13, o_ll 5), (15, o_lc 0), (16, o_lc_ne 31), (20, o_al 0), (21, o_lc 0), (22, o_pJ 6 0), (25, o_al 0), (26, o_lc 1), (27, o_pJ 6 1), (30, o_vr), (31, o_ll 3), (32, o_lc 0), (33, o_lc_ge 43), (37, o_ll 5), (39, o_lneg), (40, o_go 45), (43, o_ll 5), (45, o_ls 7), (47, o_al 0), (48, o_ll 1), (49, o_ll 7), (51, o_ldiv), (52, o_pJ 6 0), (55, o_al 0), (56, o_ll 3), (57, o_ll 7), (59, o_ldiv), (60, o_pJ 6 1), (63, o_vr)]
set_option maxRecDepth 20000 in
theorem pkX6_put {G : zG} (hG : zGok G) (Q : zRt) : zPOK G (zRm 2) RX6 cX6_put 9 none (zF G Q 0 0) 0 0 (zCalls G 2) Q pgX6_put := by
  refine And.intro (k_lload_n (pc := 0) (by decide +kernel : decode cX6_put 0 = .ok (.lload_n 1, 1)) rfl) ?_
  refine And.intro (k_lload_n (pc := 1) (by decide +kernel : decode cX6_put 1 = .ok (.lload_n 3, 1)) rfl) ?_
  refine And.intro (k_crS (n := 2) (pc := 2) hG (zRoom_self 2) ini_X11 sta_X11_greatestDivisor mk_X6_16 dy_X11_greatestDivisor (by decide +kernel : decode cX6_put 2 = .ok (.invokestatic 16, 3))) ?_
  refine And.intro (k_lstore (pc := 5) (by decide +kernel : decode cX6_put 5 = .ok (.lstore 5, 2))) ?_
  refine And.intro (k_lload_n (pc := 7) (by decide +kernel : decode cX6_put 7 = .ok (.lload_n 3, 1)) rfl) ?_
  refine And.intro (k_lconst (pc := 8) (by decide +kernel : decode cX6_put 8 = .ok (.lconst 0, 1)) (by decide)) ?_
  refine And.intro (k_lcmp_eq (pc := 9) (by decide +kernel : decode cX6_put 9 = .ok (.lcmp, 1)) (by decide +kernel : decode cX6_put 10 = .ok (.ifCond .eq 10, 3)) (by decide)) ?_
  refine And.intro (k_lload (pc := 13) (by decide +kernel : decode cX6_put 13 = .ok (.lload 5, 2))) ?_
  refine And.intro (k_lconst (pc := 15) (by decide +kernel : decode cX6_put 15 = .ok (.lconst 0, 1)) (by decide)) ?_
  refine And.intro (k_lcmp_ne (pc := 16) (by decide +kernel : decode cX6_put 16 = .ok (.lcmp, 1)) (by decide +kernel : decode cX6_put 17 = .ok (.ifCond .ne 14, 3)) (by decide)) ?_
  refine And.intro (k_aload_n (pc := 20) (by decide +kernel : decode cX6_put 20 = .ok (.aload_n 0, 1)) rfl) ?_
  refine And.intro (k_lconst (pc := 21) (by decide +kernel : decode cX6_put 21 = .ok (.lconst 0, 1)) (by decide)) ?_
  refine And.intro (k_pJ (pc := 22) rfl (by decide) rfl zin6 lk_X6_7 tyX6_ok nmX6 rfl (by decide +kernel) (by decide +kernel : decode cX6_put 22 = .ok (.putfield 7, 3))) ?_
  refine And.intro (k_aload_n (pc := 25) (by decide +kernel : decode cX6_put 25 = .ok (.aload_n 0, 1)) rfl) ?_
  refine And.intro (k_lconst (pc := 26) (by decide +kernel : decode cX6_put 26 = .ok (.lconst 1, 1)) (by decide)) ?_
  refine And.intro (k_pJ (pc := 27) rfl (by decide) rfl zin6 lk_X6_13 tyX6_ok nmX6 rfl (by decide +kernel) (by decide +kernel : decode cX6_put 27 = .ok (.putfield 13, 3))) ?_
  refine And.intro (k_return (pc := 30) rfl (by decide +kernel : decode cX6_put 30 = .ok (.return_, 1))) ?_
  refine And.intro (k_lload_n (pc := 31) (by decide +kernel : decode cX6_put 31 = .ok (.lload_n 3, 1)) rfl) ?_
  refine And.intro (k_lconst (pc := 32) (by decide +kernel : decode cX6_put 32 = .ok (.lconst 0, 1)) (by decide)) ?_
  refine And.intro (k_lcmp_ge (pc := 33) (by decide +kernel : decode cX6_put 33 = .ok (.lcmp, 1)) (by decide +kernel : decode cX6_put 34 = .ok (.ifCond .ge 9, 3)) (by decide)) ?_
  refine And.intro (k_lload (pc := 37) (by decide +kernel : decode cX6_put 37 = .ok (.lload 5, 2))) ?_
  refine And.intro (k_lneg (pc := 39) (by decide +kernel : decode cX6_put 39 = .ok (.lneg, 1))) ?_
  refine And.intro (k_goto (pc := 40) (by decide +kernel : decode cX6_put 40 = .ok (.goto 5, 3)) (by decide)) ?_
  refine And.intro (k_lload (pc := 43) (by decide +kernel : decode cX6_put 43 = .ok (.lload 5, 2))) ?_
  refine And.intro (k_lstore (pc := 45) (by decide +kernel : decode cX6_put 45 = .ok (.lstore 7, 2))) ?_
  refine And.intro (k_aload_n (pc := 47) (by decide +kernel : decode cX6_put 47 = .ok (.aload_n 0, 1)) rfl) ?_
  refine And.intro (k_lload_n (pc := 48) (by decide +kernel : decode cX6_put 48 = .ok (.lload_n 1, 1)) rfl) ?_
  refine And.intro (k_lload (pc := 49) (by decide +kernel : decode cX6_put 49 = .ok (.lload 7, 2))) ?_
  refine And.intro (k_ldiv (pc := 51) (by decide +kernel : decode cX6_put 51 = .ok (.ldiv, 1))) ?_
  refine And.intro (k_pJ (pc := 52) rfl (by decide) rfl zin6 lk_X6_7 tyX6_ok nmX6 rfl (by decide +kernel) (by decide +kernel : decode cX6_put 52 = .ok (.putfield 7, 3))) ?_
  refine And.intro (k_aload_n (pc := 55) (by decide +kernel : decode cX6_put 55 = .ok (.aload_n 0, 1)) rfl) ?_
  refine And.intro (k_lload_n (pc := 56) (by decide +kernel : decode cX6_put 56 = .ok (.lload_n 3, 1)) rfl) ?_
  refine And.intro (k_lload (pc := 57) (by decide +kernel : decode cX6_put 57 = .ok (.lload 7, 2))) ?_
  refine And.intro (k_ldiv (pc := 59) (by decide +kernel : decode cX6_put 59 = .ok (.ldiv, 1))) ?_
  refine And.intro (k_pJ (pc := 60) rfl (by decide) rfl zin6 lk_X6_13 tyX6_ok nmX6 rfl (by decide +kernel) (by decide +kernel : decode cX6_put 60 = .ok (.putfield 13, 3))) ?_
  refine And.intro (k_return (pc := 63) rfl (by decide +kernel : decode cX6_put 63 = .ok (.return_, 1))) ?_
  exact trivial
theorem cdX6_put : Cond.code yX6_put cX6_put 9 none ∈ zWs := zWs_in 612 (by decide +kernel) rfl
noncomputable def pgX0_putTimes : zPg := [(0, o_al 0), (1, o_gR 0 1), (4, o_ll 2), (5, o_ll 4), (7, o_vv yX6_put 6 3), (10, o_il 1), (11, o_if_lt 53), (14, o_il 1), (15, o_ic (1)), (16, o_iadd), (17, o_al 0), (18, o_gR 0 0), (21, o_len), (22, o_ic_ge 53), (25, o_al 0), (26, o_gR 0 0), (29, o_il 1), (30, o_al 0), (31, o_gR 0 1), (34, o_gJ 6 0), (37, o_yJ), (38, o_al 0), (39, o_gR 0 0), (42, o_il 1), (43, o_ic (1)), (44, o_iadd), (45, o_al 0), (46, o_gR 0 1), (49, o_gJ 6 1), (52, o_yJ), (53, o_vr)]
set_option maxRecDepth 20000 in
theorem pkX0_putTimes {G : zG} (hG : zGok G) (Q : zRt) : zPOK G (zRm 3) RX0 cX0_putTimes 6 none (zF G Q 0 0) 0 0 (zCalls G 3) Q pgX0_putTimes := by
  refine And.intro (k_aload_n (pc := 0) (by decide +kernel : decode cX0_putTimes 0 = .ok (.aload_n 0, 1)) rfl) ?_
  refine And.intro (k_gR (pc := 1) rfl (by decide) rfl zin0 lk_X0_18 (by decide +kernel : decode cX0_putTimes 1 = .ok (.getfield 18, 3))) ?_
  refine And.intro (k_lload_n (pc := 4) (by decide +kernel : decode cX0_putTimes 4 = .ok (.lload_n 2, 1)) rfl) ?_
  refine And.intro (k_lload (pc := 5) (by decide +kernel : decode cX0_putTimes 5 = .ok (.lload 4, 2))) ?_
  refine And.intro (k_cvV (n := 2) (pc := 7) hG (zRoom_self 3) (tag := 6) rfl ini_X6 im_X6_put se_X6_put mk_X0_74 dy_X6_put (by decide +kernel : decode cX0_putTimes 7 = .ok (.invokevirtual 74, 3))) ?_
  refine And.intro (k_iload_n (pc := 10) (by decide +kernel : decode cX0_putTimes 10 = .ok (.iload_n 1, 1)) rfl) ?_
  refine And.intro (k_if_lt (pc := 11) (by decide +kernel : decode cX0_putTimes 11 = .ok (.ifCond .lt 42, 3)) (by decide)) ?_
  refine And.intro (k_iload_n (pc := 14) (by decide +kernel : decode cX0_putTimes 14 = .ok (.iload_n 1, 1)) rfl) ?_
  refine And.intro (k_iconst (pc := 15) (by decide +kernel : decode cX0_putTimes 15 = .ok (.iconst 1, 1)) (by decide)) ?_
  refine And.intro (k_iadd (pc := 16) (by decide +kernel : decode cX0_putTimes 16 = .ok (.iadd, 1))) ?_
  refine And.intro (k_aload_n (pc := 17) (by decide +kernel : decode cX0_putTimes 17 = .ok (.aload_n 0, 1)) rfl) ?_
  refine And.intro (k_gR (pc := 18) rfl (by decide) rfl zin0 lk_X0_9 (by decide +kernel : decode cX0_putTimes 18 = .ok (.getfield 9, 3))) ?_
  refine And.intro (k_alen (pc := 21) (by decide +kernel : decode cX0_putTimes 21 = .ok (.arraylength, 1))) ?_
  refine And.intro (k_icmp_ge (pc := 22) (by decide +kernel : decode cX0_putTimes 22 = .ok (.if_icmp .ge 31, 3)) (by decide)) ?_
  refine And.intro (k_aload_n (pc := 25) (by decide +kernel : decode cX0_putTimes 25 = .ok (.aload_n 0, 1)) rfl) ?_
  refine And.intro (k_gR (pc := 26) rfl (by decide) rfl zin0 lk_X0_9 (by decide +kernel : decode cX0_putTimes 26 = .ok (.getfield 9, 3))) ?_
  refine And.intro (k_iload_n (pc := 29) (by decide +kernel : decode cX0_putTimes 29 = .ok (.iload_n 1, 1)) rfl) ?_
  refine And.intro (k_aload_n (pc := 30) (by decide +kernel : decode cX0_putTimes 30 = .ok (.aload_n 0, 1)) rfl) ?_
  refine And.intro (k_gR (pc := 31) rfl (by decide) rfl zin0 lk_X0_18 (by decide +kernel : decode cX0_putTimes 31 = .ok (.getfield 18, 3))) ?_
  refine And.intro (k_gJ (pc := 34) rfl (by decide) rfl zin6 lk_X0_50 (by decide +kernel : decode cX0_putTimes 34 = .ok (.getfield 50, 3))) ?_
  refine And.intro (k_last (pc := 37) (by decide +kernel : decode cX0_putTimes 37 = .ok (.lastore, 1))) ?_
  refine And.intro (k_aload_n (pc := 38) (by decide +kernel : decode cX0_putTimes 38 = .ok (.aload_n 0, 1)) rfl) ?_
  refine And.intro (k_gR (pc := 39) rfl (by decide) rfl zin0 lk_X0_9 (by decide +kernel : decode cX0_putTimes 39 = .ok (.getfield 9, 3))) ?_
  refine And.intro (k_iload_n (pc := 42) (by decide +kernel : decode cX0_putTimes 42 = .ok (.iload_n 1, 1)) rfl) ?_
  refine And.intro (k_iconst (pc := 43) (by decide +kernel : decode cX0_putTimes 43 = .ok (.iconst 1, 1)) (by decide)) ?_
  refine And.intro (k_iadd (pc := 44) (by decide +kernel : decode cX0_putTimes 44 = .ok (.iadd, 1))) ?_
  refine And.intro (k_aload_n (pc := 45) (by decide +kernel : decode cX0_putTimes 45 = .ok (.aload_n 0, 1)) rfl) ?_
  refine And.intro (k_gR (pc := 46) rfl (by decide) rfl zin0 lk_X0_18 (by decide +kernel : decode cX0_putTimes 46 = .ok (.getfield 18, 3))) ?_
  refine And.intro (k_gJ (pc := 49) rfl (by decide) rfl zin6 lk_X0_54 (by decide +kernel : decode cX0_putTimes 49 = .ok (.getfield 54, 3))) ?_
  refine And.intro (k_last (pc := 52) (by decide +kernel : decode cX0_putTimes 52 = .ok (.lastore, 1))) ?_
  refine And.intro (k_return (pc := 53) rfl (by decide +kernel : decode cX0_putTimes 53 = .ok (.return_, 1))) ?_
  exact trivial
theorem cdX0_putTimes : Cond.code yX0_putTimes cX0_putTimes 6 none ∈ zWs := zWs_in 763 (by decide +kernel) rfl
noncomputable def pgX0_putProof : zPg := [(0, o_al 0), (1, o_gR 0 0), (4, o_ic (13)), (6, o_xJ), (7, o_l2i), (8, o_is 5), (10, o_al 0), (11, o_al 1), (12, o_al 2), (13, o_il 3), (14, o_il 4), (16, o_vr2 yX0_firstBounding 0 5), (19, o_is 6), (21, o_al 1), (22, o_il 6), (24, o_il 5), (26, o_vr2 yX5_part 5 3), (29, o_i2l), (30, o_ls 7), (32, o_al 1), (33, o_il 6), (35, o_ic (1)), (36, o_il 5), (38, o_isub), (39, o_vr2 yX5_part 5 3), (42, o_i2l), (43, o_ls 9), (45, o_il 5), (47, o_if_ne 59), (50, o_al 0), (51, o_gR 0 0), (54, o_ic (0)), (55, o_xJ), (56, o_go 65), (59, o_al 0), (60, o_gR 0 0), (63, o_ic (1)), (64, o_xJ), (65, o_ls 11), (67, o_il 5), (69, o_if_ne 81), (72, o_al 0), (73, o_gR 0 0), (76, o_ic (1)), (77, o_xJ), (78, o_go 87), (81, o_al 0), (82, o_gR 0 0), (85, o_ic (0)), (86, o_xJ), (87, o_ls 13), (89, o_il 4), (91, o_if_ne 98), (94, o_lc 1), (95, o_go 101), (98, o_lc (-1)), (101, o_ls 15), (103, o_al 0), (104, o_gR 0 0), (107, o_ic (3)), (108, o_il 4), (110, o_iadd), (111, o_il 6), (113, o_i2l), (114, o_yJ), (115, o_al 0), (116, o_il 4), (118, o_if_ne 125), (121, o_ic (5)), (122, o_go 127), (125, o_ic (9)), (127, o_ll 13), (129, o_ll 9), (131, o_vv yX0_putTimes 0 4), (134, o_al 0), (135, o_il 4), (137, o_if_ne 145), (140, o_ic (7)), (142, o_go 147), (145, o_ic (11)), (147, o_ll 15), (149, o_ll 11), (151, o_ll 9), (153, o_lmul), (154, o_ll 13), (156, o_ll 7), (158, o_lmul), (159, o_lsub), (160, o_lmul), (161, o_ll 9), (163, o_vv yX0_putTimes 0 4), (166, o_vr)]
set_option maxRecDepth 20000 in
theorem pkX0_putProof {G : zG} (hG : zGok G) (Q : zRt) : zPOK G (zRm 4) RX0 cX0_putProof 17 none (zF G Q 0 0) 0 0 (zCalls G 4) Q pgX0_putProof := by
  refine And.intro (k_aload_n (pc := 0) (by decide +kernel : decode cX0_putProof 0 = .ok (.aload_n 0, 1)) rfl) ?_
  refine And.intro (k_gR (pc := 1) rfl (by decide) rfl zin0 lk_X0_9 (by decide +kernel : decode cX0_putProof 1 = .ok (.getfield 9, 3))) ?_
  refine And.intro (k_bipush (pc := 4) (by decide +kernel : decode cX0_putProof 4 = .ok (.bipush 13, 2)) (by decide)) ?_
  refine And.intro (k_lald (pc := 6) (by decide +kernel : decode cX0_putProof 6 = .ok (.laload, 1))) ?_
  refine And.intro (k_l2i (pc := 7) (by decide +kernel : decode cX0_putProof 7 = .ok (.l2i, 1))) ?_
  refine And.intro (k_istore (pc := 8) (by decide +kernel : decode cX0_putProof 8 = .ok (.istore 5, 2))) ?_
  refine And.intro (k_aload_n (pc := 10) (by decide +kernel : decode cX0_putProof 10 = .ok (.aload_n 0, 1)) rfl) ?_
  refine And.intro (k_aload_n (pc := 11) (by decide +kernel : decode cX0_putProof 11 = .ok (.aload_n 1, 1)) rfl) ?_
  refine And.intro (k_aload_n (pc := 12) (by decide +kernel : decode cX0_putProof 12 = .ok (.aload_n 2, 1)) rfl) ?_
  refine And.intro (k_iload_n (pc := 13) (by decide +kernel : decode cX0_putProof 13 = .ok (.iload_n 3, 1)) rfl) ?_
  refine And.intro (k_iload (pc := 14) (by decide +kernel : decode cX0_putProof 14 = .ok (.iload 4, 2))) ?_
  refine And.intro (k_crV (n := 4) (pc := 16) hG (zRoom_self 4) (tag := 0) rfl ini_X0 im_X0_firstBounding se_X0_firstBounding mk_X0_60 dy_X0_firstBounding (by decide +kernel : decode cX0_putProof 16 = .ok (.invokevirtual 60, 3))) ?_
  refine And.intro (k_istore (pc := 19) (by decide +kernel : decode cX0_putProof 19 = .ok (.istore 6, 2))) ?_
  refine And.intro (k_aload_n (pc := 21) (by decide +kernel : decode cX0_putProof 21 = .ok (.aload_n 1, 1)) rfl) ?_
  refine And.intro (k_iload (pc := 22) (by decide +kernel : decode cX0_putProof 22 = .ok (.iload 6, 2))) ?_
  refine And.intro (k_iload (pc := 24) (by decide +kernel : decode cX0_putProof 24 = .ok (.iload 5, 2))) ?_
  refine And.intro (k_crV (n := 2) (pc := 26) hG (zRoom_self 4) (tag := 5) rfl ini_X5 im_X5_part se_X5_part mk_X0_64 dy_X5_part (by decide +kernel : decode cX0_putProof 26 = .ok (.invokevirtual 64, 3))) ?_
  refine And.intro (k_i2l (pc := 29) (by decide +kernel : decode cX0_putProof 29 = .ok (.i2l, 1))) ?_
  refine And.intro (k_lstore (pc := 30) (by decide +kernel : decode cX0_putProof 30 = .ok (.lstore 7, 2))) ?_
  refine And.intro (k_aload_n (pc := 32) (by decide +kernel : decode cX0_putProof 32 = .ok (.aload_n 1, 1)) rfl) ?_
  refine And.intro (k_iload (pc := 33) (by decide +kernel : decode cX0_putProof 33 = .ok (.iload 6, 2))) ?_
  refine And.intro (k_iconst (pc := 35) (by decide +kernel : decode cX0_putProof 35 = .ok (.iconst 1, 1)) (by decide)) ?_
  refine And.intro (k_iload (pc := 36) (by decide +kernel : decode cX0_putProof 36 = .ok (.iload 5, 2))) ?_
  refine And.intro (k_isub (pc := 38) (by decide +kernel : decode cX0_putProof 38 = .ok (.isub, 1))) ?_
  refine And.intro (k_crV (n := 2) (pc := 39) hG (zRoom_self 4) (tag := 5) rfl ini_X5 im_X5_part se_X5_part mk_X0_64 dy_X5_part (by decide +kernel : decode cX0_putProof 39 = .ok (.invokevirtual 64, 3))) ?_
  refine And.intro (k_i2l (pc := 42) (by decide +kernel : decode cX0_putProof 42 = .ok (.i2l, 1))) ?_
  refine And.intro (k_lstore (pc := 43) (by decide +kernel : decode cX0_putProof 43 = .ok (.lstore 9, 2))) ?_
  refine And.intro (k_iload (pc := 45) (by decide +kernel : decode cX0_putProof 45 = .ok (.iload 5, 2))) ?_
  refine And.intro (k_if_ne (pc := 47) (by decide +kernel : decode cX0_putProof 47 = .ok (.ifCond .ne 12, 3)) (by decide)) ?_
  refine And.intro (k_aload_n (pc := 50) (by decide +kernel : decode cX0_putProof 50 = .ok (.aload_n 0, 1)) rfl) ?_
  refine And.intro (k_gR (pc := 51) rfl (by decide) rfl zin0 lk_X0_9 (by decide +kernel : decode cX0_putProof 51 = .ok (.getfield 9, 3))) ?_
  refine And.intro (k_iconst (pc := 54) (by decide +kernel : decode cX0_putProof 54 = .ok (.iconst 0, 1)) (by decide)) ?_
  refine And.intro (k_lald (pc := 55) (by decide +kernel : decode cX0_putProof 55 = .ok (.laload, 1))) ?_
  refine And.intro (k_goto (pc := 56) (by decide +kernel : decode cX0_putProof 56 = .ok (.goto 9, 3)) (by decide)) ?_
  refine And.intro (k_aload_n (pc := 59) (by decide +kernel : decode cX0_putProof 59 = .ok (.aload_n 0, 1)) rfl) ?_
  refine And.intro (k_gR (pc := 60) rfl (by decide) rfl zin0 lk_X0_9 (by decide +kernel : decode cX0_putProof 60 = .ok (.getfield 9, 3))) ?_
  refine And.intro (k_iconst (pc := 63) (by decide +kernel : decode cX0_putProof 63 = .ok (.iconst 1, 1)) (by decide)) ?_
  refine And.intro (k_lald (pc := 64) (by decide +kernel : decode cX0_putProof 64 = .ok (.laload, 1))) ?_
  refine And.intro (k_lstore (pc := 65) (by decide +kernel : decode cX0_putProof 65 = .ok (.lstore 11, 2))) ?_
  refine And.intro (k_iload (pc := 67) (by decide +kernel : decode cX0_putProof 67 = .ok (.iload 5, 2))) ?_
  refine And.intro (k_if_ne (pc := 69) (by decide +kernel : decode cX0_putProof 69 = .ok (.ifCond .ne 12, 3)) (by decide)) ?_
  refine And.intro (k_aload_n (pc := 72) (by decide +kernel : decode cX0_putProof 72 = .ok (.aload_n 0, 1)) rfl) ?_
  refine And.intro (k_gR (pc := 73) rfl (by decide) rfl zin0 lk_X0_9 (by decide +kernel : decode cX0_putProof 73 = .ok (.getfield 9, 3))) ?_
  refine And.intro (k_iconst (pc := 76) (by decide +kernel : decode cX0_putProof 76 = .ok (.iconst 1, 1)) (by decide)) ?_
  refine And.intro (k_lald (pc := 77) (by decide +kernel : decode cX0_putProof 77 = .ok (.laload, 1))) ?_
  refine And.intro (k_goto (pc := 78) (by decide +kernel : decode cX0_putProof 78 = .ok (.goto 9, 3)) (by decide)) ?_
  refine And.intro (k_aload_n (pc := 81) (by decide +kernel : decode cX0_putProof 81 = .ok (.aload_n 0, 1)) rfl) ?_
  refine And.intro (k_gR (pc := 82) rfl (by decide) rfl zin0 lk_X0_9 (by decide +kernel : decode cX0_putProof 82 = .ok (.getfield 9, 3))) ?_
  refine And.intro (k_iconst (pc := 85) (by decide +kernel : decode cX0_putProof 85 = .ok (.iconst 0, 1)) (by decide)) ?_
  refine And.intro (k_lald (pc := 86) (by decide +kernel : decode cX0_putProof 86 = .ok (.laload, 1))) ?_
  refine And.intro (k_lstore (pc := 87) (by decide +kernel : decode cX0_putProof 87 = .ok (.lstore 13, 2))) ?_
  refine And.intro (k_iload (pc := 89) (by decide +kernel : decode cX0_putProof 89 = .ok (.iload 4, 2))) ?_
  refine And.intro (k_if_ne (pc := 91) (by decide +kernel : decode cX0_putProof 91 = .ok (.ifCond .ne 7, 3)) (by decide)) ?_
  refine And.intro (k_lconst (pc := 94) (by decide +kernel : decode cX0_putProof 94 = .ok (.lconst 1, 1)) (by decide)) ?_
  refine And.intro (k_goto (pc := 95) (by decide +kernel : decode cX0_putProof 95 = .ok (.goto 6, 3)) (by decide)) ?_
  refine And.intro (k_ldc2 (pc := 98) csl_X0_48 (by decide +kernel : decode cX0_putProof 98 = .ok (.ldc2_w 48, 3))) ?_
  refine And.intro (k_lstore (pc := 101) (by decide +kernel : decode cX0_putProof 101 = .ok (.lstore 15, 2))) ?_
  refine And.intro (k_aload_n (pc := 103) (by decide +kernel : decode cX0_putProof 103 = .ok (.aload_n 0, 1)) rfl) ?_
  refine And.intro (k_gR (pc := 104) rfl (by decide) rfl zin0 lk_X0_9 (by decide +kernel : decode cX0_putProof 104 = .ok (.getfield 9, 3))) ?_
  refine And.intro (k_iconst (pc := 107) (by decide +kernel : decode cX0_putProof 107 = .ok (.iconst 3, 1)) (by decide)) ?_
  refine And.intro (k_iload (pc := 108) (by decide +kernel : decode cX0_putProof 108 = .ok (.iload 4, 2))) ?_
  refine And.intro (k_iadd (pc := 110) (by decide +kernel : decode cX0_putProof 110 = .ok (.iadd, 1))) ?_
  refine And.intro (k_iload (pc := 111) (by decide +kernel : decode cX0_putProof 111 = .ok (.iload 6, 2))) ?_
  refine And.intro (k_i2l (pc := 113) (by decide +kernel : decode cX0_putProof 113 = .ok (.i2l, 1))) ?_
  refine And.intro (k_last (pc := 114) (by decide +kernel : decode cX0_putProof 114 = .ok (.lastore, 1))) ?_
  refine And.intro (k_aload_n (pc := 115) (by decide +kernel : decode cX0_putProof 115 = .ok (.aload_n 0, 1)) rfl) ?_
  refine And.intro (k_iload (pc := 116) (by decide +kernel : decode cX0_putProof 116 = .ok (.iload 4, 2))) ?_
  refine And.intro (k_if_ne (pc := 118) (by decide +kernel : decode cX0_putProof 118 = .ok (.ifCond .ne 7, 3)) (by decide)) ?_
  refine And.intro (k_iconst (pc := 121) (by decide +kernel : decode cX0_putProof 121 = .ok (.iconst 5, 1)) (by decide)) ?_
  refine And.intro (k_goto (pc := 122) (by decide +kernel : decode cX0_putProof 122 = .ok (.goto 5, 3)) (by decide)) ?_
  refine And.intro (k_bipush (pc := 125) (by decide +kernel : decode cX0_putProof 125 = .ok (.bipush 9, 2)) (by decide)) ?_
  refine And.intro (k_lload (pc := 127) (by decide +kernel : decode cX0_putProof 127 = .ok (.lload 13, 2))) ?_
  refine And.intro (k_lload (pc := 129) (by decide +kernel : decode cX0_putProof 129 = .ok (.lload 9, 2))) ?_
  refine And.intro (k_cvV (n := 3) (pc := 131) hG (zRoom_self 4) (tag := 0) rfl ini_X0 im_X0_putTimes se_X0_putTimes mk_X0_70 dy_X0_putTimes (by decide +kernel : decode cX0_putProof 131 = .ok (.invokevirtual 70, 3))) ?_
  refine And.intro (k_aload_n (pc := 134) (by decide +kernel : decode cX0_putProof 134 = .ok (.aload_n 0, 1)) rfl) ?_
  refine And.intro (k_iload (pc := 135) (by decide +kernel : decode cX0_putProof 135 = .ok (.iload 4, 2))) ?_
  refine And.intro (k_if_ne (pc := 137) (by decide +kernel : decode cX0_putProof 137 = .ok (.ifCond .ne 8, 3)) (by decide)) ?_
  refine And.intro (k_bipush (pc := 140) (by decide +kernel : decode cX0_putProof 140 = .ok (.bipush 7, 2)) (by decide)) ?_
  refine And.intro (k_goto (pc := 142) (by decide +kernel : decode cX0_putProof 142 = .ok (.goto 5, 3)) (by decide)) ?_
  refine And.intro (k_bipush (pc := 145) (by decide +kernel : decode cX0_putProof 145 = .ok (.bipush 11, 2)) (by decide)) ?_
  refine And.intro (k_lload (pc := 147) (by decide +kernel : decode cX0_putProof 147 = .ok (.lload 15, 2))) ?_
  refine And.intro (k_lload (pc := 149) (by decide +kernel : decode cX0_putProof 149 = .ok (.lload 11, 2))) ?_
  refine And.intro (k_lload (pc := 151) (by decide +kernel : decode cX0_putProof 151 = .ok (.lload 9, 2))) ?_
  refine And.intro (k_lmul (pc := 153) (by decide +kernel : decode cX0_putProof 153 = .ok (.lmul, 1))) ?_
  refine And.intro (k_lload (pc := 154) (by decide +kernel : decode cX0_putProof 154 = .ok (.lload 13, 2))) ?_
  refine And.intro (k_lload (pc := 156) (by decide +kernel : decode cX0_putProof 156 = .ok (.lload 7, 2))) ?_
  refine And.intro (k_lmul (pc := 158) (by decide +kernel : decode cX0_putProof 158 = .ok (.lmul, 1))) ?_
  refine And.intro (k_lsub (pc := 159) (by decide +kernel : decode cX0_putProof 159 = .ok (.lsub, 1))) ?_
  refine And.intro (k_lmul (pc := 160) (by decide +kernel : decode cX0_putProof 160 = .ok (.lmul, 1))) ?_
  refine And.intro (k_lload (pc := 161) (by decide +kernel : decode cX0_putProof 161 = .ok (.lload 9, 2))) ?_
  refine And.intro (k_cvV (n := 3) (pc := 163) hG (zRoom_self 4) (tag := 0) rfl ini_X0 im_X0_putTimes se_X0_putTimes mk_X0_70 dy_X0_putTimes (by decide +kernel : decode cX0_putProof 163 = .ok (.invokevirtual 70, 3))) ?_
  refine And.intro (k_return (pc := 166) rfl (by decide +kernel : decode cX0_putProof 166 = .ok (.return_, 1))) ?_
  exact trivial
theorem cdX0_putProof : Cond.code yX0_putProof cX0_putProof 17 none ∈ zWs := zWs_in 753 (by decide +kernel) rfl
noncomputable def pgJ9_floorMod_7cf53 : zPg := [(0, o_il 0), (1, o_il 1), (2, o_irem), (3, o_is 2), (4, o_il 0), (5, o_il 1), (6, o_ixor), (7, o_if_ge 18), (10, o_il 2), (11, o_if_eq 18), (14, o_il 2), (15, o_il 1), (16, o_iadd), (17, o_ir), (18, o_il 2), (19, o_ir)]
set_option maxRecDepth 20000 in
theorem pkJ9_floorMod_7cf53 {G : zG} (hG : zGok G) (Q : zRt) : zPOK G (zRm 0) RJ9 cJ9_floorMod_7cf53 3 (some .int) (zF G Q 0 0) 0 0 (zCalls G 0) Q pgJ9_floorMod_7cf53 := by
  refine And.intro (k_iload_n (pc := 0) (by decide +kernel : decode cJ9_floorMod_7cf53 0 = .ok (.iload_n 0, 1)) rfl) ?_
  refine And.intro (k_iload_n (pc := 1) (by decide +kernel : decode cJ9_floorMod_7cf53 1 = .ok (.iload_n 1, 1)) rfl) ?_
  refine And.intro (k_irem (pc := 2) (by decide +kernel : decode cJ9_floorMod_7cf53 2 = .ok (.irem, 1))) ?_
  refine And.intro (k_istore_n (pc := 3) (by decide +kernel : decode cJ9_floorMod_7cf53 3 = .ok (.istore_n 2, 1)) rfl) ?_
  refine And.intro (k_iload_n (pc := 4) (by decide +kernel : decode cJ9_floorMod_7cf53 4 = .ok (.iload_n 0, 1)) rfl) ?_
  refine And.intro (k_iload_n (pc := 5) (by decide +kernel : decode cJ9_floorMod_7cf53 5 = .ok (.iload_n 1, 1)) rfl) ?_
  refine And.intro (k_ixor (pc := 6) (by decide +kernel : decode cJ9_floorMod_7cf53 6 = .ok (.ixor, 1))) ?_
  refine And.intro (k_if_ge (pc := 7) (by decide +kernel : decode cJ9_floorMod_7cf53 7 = .ok (.ifCond .ge 11, 3)) (by decide)) ?_
  refine And.intro (k_iload_n (pc := 10) (by decide +kernel : decode cJ9_floorMod_7cf53 10 = .ok (.iload_n 2, 1)) rfl) ?_
  refine And.intro (k_if_eq (pc := 11) (by decide +kernel : decode cJ9_floorMod_7cf53 11 = .ok (.ifCond .eq 7, 3)) (by decide)) ?_
  refine And.intro (k_iload_n (pc := 14) (by decide +kernel : decode cJ9_floorMod_7cf53 14 = .ok (.iload_n 2, 1)) rfl) ?_
  refine And.intro (k_iload_n (pc := 15) (by decide +kernel : decode cJ9_floorMod_7cf53 15 = .ok (.iload_n 1, 1)) rfl) ?_
  refine And.intro (k_iadd (pc := 16) (by decide +kernel : decode cJ9_floorMod_7cf53 16 = .ok (.iadd, 1))) ?_
  refine And.intro (k_ireturn (pc := 17) rfl (by decide +kernel : decode cJ9_floorMod_7cf53 17 = .ok (.ireturn, 1))) ?_
  refine And.intro (k_iload_n (pc := 18) (by decide +kernel : decode cJ9_floorMod_7cf53 18 = .ok (.iload_n 2, 1)) rfl) ?_
  refine And.intro (k_ireturn (pc := 19) rfl (by decide +kernel : decode cJ9_floorMod_7cf53 19 = .ok (.ireturn, 1))) ?_
  exact trivial
theorem cdJ9_floorMod_7cf53 : Cond.code yJ9_floorMod_7cf53 cJ9_floorMod_7cf53 3 (some .int) ∈ zWs := zWs_in 549 (by decide +kernel) rfl
noncomputable def pgX0_find : zPg := [(0, o_al 2), (1, o_ic (0)), (2, o_il 3), (3, o_il 5), (5, o_vr2 yX7_at 7 4), (8, o_as 6), (10, o_al 2), (11, o_ic (0)), (12, o_il 3), (13, o_il 5), (15, o_ic (1)), (16, o_iadd), (17, o_vr2 yX7_at 7 4), (20, o_as 7), (22, o_al 6), (24, o_gI 9 0), (27, o_if_ne 38), (30, o_al 7), (32, o_gI 9 0), (35, o_if_eq 40), (38, o_ic (0)), (39, o_zr), (40, o_il 4), (42, o_if_ne 53), (45, o_al 6), (47, o_gR 9 2), (50, o_go 58), (53, o_al 6), (55, o_gR 9 1), (58, o_as 8), (60, o_il 4), (62, o_if_ne 73), (65, o_al 7), (67, o_gR 9 2), (70, o_go 78), (73, o_al 7), (75, o_gR 9 1), (78, o_as 9), (80, o_al 0), (81, o_gR 0 0), (84, o_ic (13)), (86, o_il 3), (87, o_i2l), (88, o_yJ), (89, o_al 0), (90, o_gR 0 0), (93, o_ic (14)), (95, o_il 5), (97, o_i2l), (98, o_yJ), (99, o_al 0), (100, o_al 8), (102, o_al 9), (104, o_il 4), (106, o_vv yX0_putLine 0 4), (109, o_al 0), (110, o_al 1), (111, o_al 8), (113, o_il 4), (115, o_ic (0)), (116, o_vv yX0_putProof 0 5), (119, o_al 0), (120, o_al 1), (121, o_al 9), (123, o_il 4), (125, o_ic (1)), (126, o_vv yX0_putProof 0 5), (129, o_ic (1)), (130, o_zr)]
set_option maxRecDepth 20000 in
theorem pkX0_find {G : zG} (hG : zGok G) (Q : zRt) : zPOK G (zRm 5) RX0 cX0_find 10 (some .boolean) (zF G Q 0 0) 0 0 (zCalls G 5) Q pgX0_find := by
  refine And.intro (k_aload_n (pc := 0) (by decide +kernel : decode cX0_find 0 = .ok (.aload_n 2, 1)) rfl) ?_
  refine And.intro (k_iconst (pc := 1) (by decide +kernel : decode cX0_find 1 = .ok (.iconst 0, 1)) (by decide)) ?_
  refine And.intro (k_iload_n (pc := 2) (by decide +kernel : decode cX0_find 2 = .ok (.iload_n 3, 1)) rfl) ?_
  refine And.intro (k_iload (pc := 3) (by decide +kernel : decode cX0_find 3 = .ok (.iload 5, 2))) ?_
  refine And.intro (k_crV (n := 3) (pc := 5) hG (zRoom_self 5) (tag := 7) rfl ini_X7 im_X7_at se_X7_at mk_X0_22 dy_X7_at (by decide +kernel : decode cX0_find 5 = .ok (.invokevirtual 22, 3))) ?_
  refine And.intro (k_astore (pc := 8) (by decide +kernel : decode cX0_find 8 = .ok (.astore 6, 2))) ?_
  refine And.intro (k_aload_n (pc := 10) (by decide +kernel : decode cX0_find 10 = .ok (.aload_n 2, 1)) rfl) ?_
  refine And.intro (k_iconst (pc := 11) (by decide +kernel : decode cX0_find 11 = .ok (.iconst 0, 1)) (by decide)) ?_
  refine And.intro (k_iload_n (pc := 12) (by decide +kernel : decode cX0_find 12 = .ok (.iload_n 3, 1)) rfl) ?_
  refine And.intro (k_iload (pc := 13) (by decide +kernel : decode cX0_find 13 = .ok (.iload 5, 2))) ?_
  refine And.intro (k_iconst (pc := 15) (by decide +kernel : decode cX0_find 15 = .ok (.iconst 1, 1)) (by decide)) ?_
  refine And.intro (k_iadd (pc := 16) (by decide +kernel : decode cX0_find 16 = .ok (.iadd, 1))) ?_
  refine And.intro (k_crV (n := 3) (pc := 17) hG (zRoom_self 5) (tag := 7) rfl ini_X7 im_X7_at se_X7_at mk_X0_22 dy_X7_at (by decide +kernel : decode cX0_find 17 = .ok (.invokevirtual 22, 3))) ?_
  refine And.intro (k_astore (pc := 20) (by decide +kernel : decode cX0_find 20 = .ok (.astore 7, 2))) ?_
  refine And.intro (k_aload (pc := 22) (by decide +kernel : decode cX0_find 22 = .ok (.aload 6, 2))) ?_
  refine And.intro (k_gZ (pc := 24) rfl (by decide) rfl zin9 lk_X0_28 (by decide +kernel : decode cX0_find 24 = .ok (.getfield 28, 3))) ?_
  refine And.intro (k_if_ne (pc := 27) (by decide +kernel : decode cX0_find 27 = .ok (.ifCond .ne 11, 3)) (by decide)) ?_
  refine And.intro (k_aload (pc := 30) (by decide +kernel : decode cX0_find 30 = .ok (.aload 7, 2))) ?_
  refine And.intro (k_gZ (pc := 32) rfl (by decide) rfl zin9 lk_X0_28 (by decide +kernel : decode cX0_find 32 = .ok (.getfield 28, 3))) ?_
  refine And.intro (k_if_eq (pc := 35) (by decide +kernel : decode cX0_find 35 = .ok (.ifCond .eq 5, 3)) (by decide)) ?_
  refine And.intro (k_iconst (pc := 38) (by decide +kernel : decode cX0_find 38 = .ok (.iconst 0, 1)) (by decide)) ?_
  refine And.intro (k_zreturn (pc := 39) rfl (by decide +kernel : decode cX0_find 39 = .ok (.ireturn, 1))) ?_
  refine And.intro (k_iload (pc := 40) (by decide +kernel : decode cX0_find 40 = .ok (.iload 4, 2))) ?_
  refine And.intro (k_if_ne (pc := 42) (by decide +kernel : decode cX0_find 42 = .ok (.ifCond .ne 11, 3)) (by decide)) ?_
  refine And.intro (k_aload (pc := 45) (by decide +kernel : decode cX0_find 45 = .ok (.aload 6, 2))) ?_
  refine And.intro (k_gR (pc := 47) rfl (by decide) rfl zin9 lk_X0_34 (by decide +kernel : decode cX0_find 47 = .ok (.getfield 34, 3))) ?_
  refine And.intro (k_goto (pc := 50) (by decide +kernel : decode cX0_find 50 = .ok (.goto 8, 3)) (by decide)) ?_
  refine And.intro (k_aload (pc := 53) (by decide +kernel : decode cX0_find 53 = .ok (.aload 6, 2))) ?_
  refine And.intro (k_gR (pc := 55) rfl (by decide) rfl zin9 lk_X0_37 (by decide +kernel : decode cX0_find 55 = .ok (.getfield 37, 3))) ?_
  refine And.intro (k_astore (pc := 58) (by decide +kernel : decode cX0_find 58 = .ok (.astore 8, 2))) ?_
  refine And.intro (k_iload (pc := 60) (by decide +kernel : decode cX0_find 60 = .ok (.iload 4, 2))) ?_
  refine And.intro (k_if_ne (pc := 62) (by decide +kernel : decode cX0_find 62 = .ok (.ifCond .ne 11, 3)) (by decide)) ?_
  refine And.intro (k_aload (pc := 65) (by decide +kernel : decode cX0_find 65 = .ok (.aload 7, 2))) ?_
  refine And.intro (k_gR (pc := 67) rfl (by decide) rfl zin9 lk_X0_34 (by decide +kernel : decode cX0_find 67 = .ok (.getfield 34, 3))) ?_
  refine And.intro (k_goto (pc := 70) (by decide +kernel : decode cX0_find 70 = .ok (.goto 8, 3)) (by decide)) ?_
  refine And.intro (k_aload (pc := 73) (by decide +kernel : decode cX0_find 73 = .ok (.aload 7, 2))) ?_
  refine And.intro (k_gR (pc := 75) rfl (by decide) rfl zin9 lk_X0_37 (by decide +kernel : decode cX0_find 75 = .ok (.getfield 37, 3))) ?_
  refine And.intro (k_astore (pc := 78) (by decide +kernel : decode cX0_find 78 = .ok (.astore 9, 2))) ?_
  refine And.intro (k_aload_n (pc := 80) (by decide +kernel : decode cX0_find 80 = .ok (.aload_n 0, 1)) rfl) ?_
  refine And.intro (k_gR (pc := 81) rfl (by decide) rfl zin0 lk_X0_9 (by decide +kernel : decode cX0_find 81 = .ok (.getfield 9, 3))) ?_
  refine And.intro (k_bipush (pc := 84) (by decide +kernel : decode cX0_find 84 = .ok (.bipush 13, 2)) (by decide)) ?_
  refine And.intro (k_iload_n (pc := 86) (by decide +kernel : decode cX0_find 86 = .ok (.iload_n 3, 1)) rfl) ?_
  refine And.intro (k_i2l (pc := 87) (by decide +kernel : decode cX0_find 87 = .ok (.i2l, 1))) ?_
  refine And.intro (k_last (pc := 88) (by decide +kernel : decode cX0_find 88 = .ok (.lastore, 1))) ?_
  refine And.intro (k_aload_n (pc := 89) (by decide +kernel : decode cX0_find 89 = .ok (.aload_n 0, 1)) rfl) ?_
  refine And.intro (k_gR (pc := 90) rfl (by decide) rfl zin0 lk_X0_9 (by decide +kernel : decode cX0_find 90 = .ok (.getfield 9, 3))) ?_
  refine And.intro (k_bipush (pc := 93) (by decide +kernel : decode cX0_find 93 = .ok (.bipush 14, 2)) (by decide)) ?_
  refine And.intro (k_iload (pc := 95) (by decide +kernel : decode cX0_find 95 = .ok (.iload 5, 2))) ?_
  refine And.intro (k_i2l (pc := 97) (by decide +kernel : decode cX0_find 97 = .ok (.i2l, 1))) ?_
  refine And.intro (k_last (pc := 98) (by decide +kernel : decode cX0_find 98 = .ok (.lastore, 1))) ?_
  refine And.intro (k_aload_n (pc := 99) (by decide +kernel : decode cX0_find 99 = .ok (.aload_n 0, 1)) rfl) ?_
  refine And.intro (k_aload (pc := 100) (by decide +kernel : decode cX0_find 100 = .ok (.aload 8, 2))) ?_
  refine And.intro (k_aload (pc := 102) (by decide +kernel : decode cX0_find 102 = .ok (.aload 9, 2))) ?_
  refine And.intro (k_iload (pc := 104) (by decide +kernel : decode cX0_find 104 = .ok (.iload 4, 2))) ?_
  refine And.intro (k_cvV (n := 3) (pc := 106) hG (zRoom_self 5) (tag := 0) rfl ini_X0 im_X0_putLine se_X0_putLine mk_X0_40 dy_X0_putLine (by decide +kernel : decode cX0_find 106 = .ok (.invokevirtual 40, 3))) ?_
  refine And.intro (k_aload_n (pc := 109) (by decide +kernel : decode cX0_find 109 = .ok (.aload_n 0, 1)) rfl) ?_
  refine And.intro (k_aload_n (pc := 110) (by decide +kernel : decode cX0_find 110 = .ok (.aload_n 1, 1)) rfl) ?_
  refine And.intro (k_aload (pc := 111) (by decide +kernel : decode cX0_find 111 = .ok (.aload 8, 2))) ?_
  refine And.intro (k_iload (pc := 113) (by decide +kernel : decode cX0_find 113 = .ok (.iload 4, 2))) ?_
  refine And.intro (k_iconst (pc := 115) (by decide +kernel : decode cX0_find 115 = .ok (.iconst 0, 1)) (by decide)) ?_
  refine And.intro (k_cvV (n := 4) (pc := 116) hG (zRoom_self 5) (tag := 0) rfl ini_X0 im_X0_putProof se_X0_putProof mk_X0_44 dy_X0_putProof (by decide +kernel : decode cX0_find 116 = .ok (.invokevirtual 44, 3))) ?_
  refine And.intro (k_aload_n (pc := 119) (by decide +kernel : decode cX0_find 119 = .ok (.aload_n 0, 1)) rfl) ?_
  refine And.intro (k_aload_n (pc := 120) (by decide +kernel : decode cX0_find 120 = .ok (.aload_n 1, 1)) rfl) ?_
  refine And.intro (k_aload (pc := 121) (by decide +kernel : decode cX0_find 121 = .ok (.aload 9, 2))) ?_
  refine And.intro (k_iload (pc := 123) (by decide +kernel : decode cX0_find 123 = .ok (.iload 4, 2))) ?_
  refine And.intro (k_iconst (pc := 125) (by decide +kernel : decode cX0_find 125 = .ok (.iconst 1, 1)) (by decide)) ?_
  refine And.intro (k_cvV (n := 4) (pc := 126) hG (zRoom_self 5) (tag := 0) rfl ini_X0 im_X0_putProof se_X0_putProof mk_X0_44 dy_X0_putProof (by decide +kernel : decode cX0_find 126 = .ok (.invokevirtual 44, 3))) ?_
  refine And.intro (k_iconst (pc := 129) (by decide +kernel : decode cX0_find 129 = .ok (.iconst 1, 1)) (by decide)) ?_
  refine And.intro (k_zreturn (pc := 130) rfl (by decide +kernel : decode cX0_find 130 = .ok (.ireturn, 1))) ?_
  exact trivial
theorem cdX0_find : Cond.code yX0_find cX0_find 10 (some .boolean) ∈ zWs := zWs_in 742 (by decide +kernel) rfl
noncomputable def pgX1_start : zPg := [(0, o_al 0), (1, o_il 1), (2, o_pI 1 0), (5, o_vr)]
set_option maxRecDepth 20000 in
theorem pkX1_start {G : zG} (hG : zGok G) (Q : zRt) : zPOK G (zRm 0) RX1 cX1_start 2 none (zF G Q 0 0) 0 0 (zCalls G 0) Q pgX1_start := by
  refine And.intro (k_aload_n (pc := 0) (by decide +kernel : decode cX1_start 0 = .ok (.aload_n 0, 1)) rfl) ?_
  refine And.intro (k_iload_n (pc := 1) (by decide +kernel : decode cX1_start 1 = .ok (.iload_n 1, 1)) rfl) ?_
  refine And.intro (k_pI (pc := 2) rfl (by decide) rfl zin1 lk_X1_7 tyX1_ok nmX1 rfl (by decide +kernel) (by decide +kernel : decode cX1_start 2 = .ok (.putfield 7, 3))) ?_
  refine And.intro (k_return (pc := 5) rfl (by decide +kernel : decode cX1_start 5 = .ok (.return_, 1))) ?_
  exact trivial
theorem cdX1_start : Cond.code yX1_start cX1_start 2 none ∈ zWs := zWs_in 976 (by decide +kernel) rfl
noncomputable def pgX1_next : zPg := [(0, o_al 0), (1, o_al 0), (2, o_gI 1 0), (5, o_ic (1103515245)), (7, o_imul), (8, o_ic (12345)), (11, o_iadd), (12, o_pI 1 0), (15, o_il 1), (16, o_ic (1)), (17, o_ic_ge 24), (20, o_ic (0)), (21, o_go 33), (24, o_al 0), (25, o_gI 1 0), (28, o_ic (16)), (30, o_iushr), (31, o_il 1), (32, o_irem), (33, o_ir)]
set_option maxRecDepth 20000 in
theorem pkX1_next {G : zG} (hG : zGok G) (Q : zRt) : zPOK G (zRm 0) RX1 cX1_next 2 (some .int) (zF G Q 0 0) 0 0 (zCalls G 0) Q pgX1_next := by
  refine And.intro (k_aload_n (pc := 0) (by decide +kernel : decode cX1_next 0 = .ok (.aload_n 0, 1)) rfl) ?_
  refine And.intro (k_aload_n (pc := 1) (by decide +kernel : decode cX1_next 1 = .ok (.aload_n 0, 1)) rfl) ?_
  refine And.intro (k_gI (pc := 2) rfl (by decide) rfl zin1 lk_X1_7 (by decide +kernel : decode cX1_next 2 = .ok (.getfield 7, 3))) ?_
  refine And.intro (k_ldc (pc := 5) cst_X1_13 (by decide +kernel : decode cX1_next 5 = .ok (.ldc 13, 2))) ?_
  refine And.intro (k_imul (pc := 7) (by decide +kernel : decode cX1_next 7 = .ok (.imul, 1))) ?_
  refine And.intro (k_sipush (pc := 8) (by decide +kernel : decode cX1_next 8 = .ok (.sipush 12345, 3)) (by decide)) ?_
  refine And.intro (k_iadd (pc := 11) (by decide +kernel : decode cX1_next 11 = .ok (.iadd, 1))) ?_
  refine And.intro (k_pI (pc := 12) rfl (by decide) rfl zin1 lk_X1_7 tyX1_ok nmX1 rfl (by decide +kernel) (by decide +kernel : decode cX1_next 12 = .ok (.putfield 7, 3))) ?_
  refine And.intro (k_iload_n (pc := 15) (by decide +kernel : decode cX1_next 15 = .ok (.iload_n 1, 1)) rfl) ?_
  refine And.intro (k_iconst (pc := 16) (by decide +kernel : decode cX1_next 16 = .ok (.iconst 1, 1)) (by decide)) ?_
  refine And.intro (k_icmp_ge (pc := 17) (by decide +kernel : decode cX1_next 17 = .ok (.if_icmp .ge 7, 3)) (by decide)) ?_
  refine And.intro (k_iconst (pc := 20) (by decide +kernel : decode cX1_next 20 = .ok (.iconst 0, 1)) (by decide)) ?_
  refine And.intro (k_goto (pc := 21) (by decide +kernel : decode cX1_next 21 = .ok (.goto 12, 3)) (by decide)) ?_
  refine And.intro (k_aload_n (pc := 24) (by decide +kernel : decode cX1_next 24 = .ok (.aload_n 0, 1)) rfl) ?_
  refine And.intro (k_gI (pc := 25) rfl (by decide) rfl zin1 lk_X1_7 (by decide +kernel : decode cX1_next 25 = .ok (.getfield 7, 3))) ?_
  refine And.intro (k_bipush (pc := 28) (by decide +kernel : decode cX1_next 28 = .ok (.bipush 16, 2)) (by decide)) ?_
  refine And.intro (k_iushr (pc := 30) (by decide +kernel : decode cX1_next 30 = .ok (.iushr, 1))) ?_
  refine And.intro (k_iload_n (pc := 31) (by decide +kernel : decode cX1_next 31 = .ok (.iload_n 1, 1)) rfl) ?_
  refine And.intro (k_irem (pc := 32) (by decide +kernel : decode cX1_next 32 = .ok (.irem, 1))) ?_
  refine And.intro (k_ireturn (pc := 33) rfl (by decide +kernel : decode cX1_next 33 = .ok (.ireturn, 1))) ?_
  exact trivial
theorem cdX1_next : Cond.code yX1_next cX1_next 2 (some .int) ∈ zWs := zWs_in 984 (by decide +kernel) rfl
noncomputable def pgX5_copyRows : zPg := [(0, o_al 0), (1, o_al 1), (2, o_gI 5 0), (5, o_pI 5 0), (8, o_al 1), (9, o_gR 5 2), (12, o_ic (0)), (13, o_al 0), (14, o_gR 5 2), (17, o_ic (0)), (18, o_al 0), (19, o_gR 5 2), (22, o_len), (23, o_cpI), (26, o_vr)]
set_option maxRecDepth 20000 in
theorem pkX5_copyRows {G : zG} (hG : zGok G) (Q : zRt) : zPOK G (zRm 1) RX5 cX5_copyRows 2 none (zF G Q 0 0) 0 0 (zCalls G 1) Q pgX5_copyRows := by
  refine And.intro (k_aload_n (pc := 0) (by decide +kernel : decode cX5_copyRows 0 = .ok (.aload_n 0, 1)) rfl) ?_
  refine And.intro (k_aload_n (pc := 1) (by decide +kernel : decode cX5_copyRows 1 = .ok (.aload_n 1, 1)) rfl) ?_
  refine And.intro (k_gI (pc := 2) rfl (by decide) rfl zin5 lk_X5_9 (by decide +kernel : decode cX5_copyRows 2 = .ok (.getfield 9, 3))) ?_
  refine And.intro (k_pI (pc := 5) rfl (by decide) rfl zin5 lk_X5_9 tyX5_ok nmX5 rfl (by decide +kernel) (by decide +kernel : decode cX5_copyRows 5 = .ok (.putfield 9, 3))) ?_
  refine And.intro (k_aload_n (pc := 8) (by decide +kernel : decode cX5_copyRows 8 = .ok (.aload_n 1, 1)) rfl) ?_
  refine And.intro (k_gR (pc := 9) rfl (by decide) rfl zin5 lk_X5_18 (by decide +kernel : decode cX5_copyRows 9 = .ok (.getfield 18, 3))) ?_
  refine And.intro (k_iconst (pc := 12) (by decide +kernel : decode cX5_copyRows 12 = .ok (.iconst 0, 1)) (by decide)) ?_
  refine And.intro (k_aload_n (pc := 13) (by decide +kernel : decode cX5_copyRows 13 = .ok (.aload_n 0, 1)) rfl) ?_
  refine And.intro (k_gR (pc := 14) rfl (by decide) rfl zin5 lk_X5_18 (by decide +kernel : decode cX5_copyRows 14 = .ok (.getfield 18, 3))) ?_
  refine And.intro (k_iconst (pc := 17) (by decide +kernel : decode cX5_copyRows 17 = .ok (.iconst 0, 1)) (by decide)) ?_
  refine And.intro (k_aload_n (pc := 18) (by decide +kernel : decode cX5_copyRows 18 = .ok (.aload_n 0, 1)) rfl) ?_
  refine And.intro (k_gR (pc := 19) rfl (by decide) rfl zin5 lk_X5_18 (by decide +kernel : decode cX5_copyRows 19 = .ok (.getfield 18, 3))) ?_
  refine And.intro (k_alen (pc := 22) (by decide +kernel : decode cX5_copyRows 22 = .ok (.arraylength, 1))) ?_
  refine And.intro (k_cpI (pc := 23) (by decide) (by decide) ac_X5_31 ac_nat ac_sta ac_ini (by decide +kernel : decode cX5_copyRows 23 = .ok (.invokestatic 31, 3))) ?_
  refine And.intro (k_return (pc := 26) rfl (by decide +kernel : decode cX5_copyRows 26 = .ok (.return_, 1))) ?_
  exact trivial
theorem cdX5_copyRows : Cond.code yX5_copyRows cX5_copyRows 2 none ∈ zWs := zWs_in 526 (by decide +kernel) rfl
noncomputable def pgX5_copy : zPg := [(0, o_al 0), (1, o_al 1), (2, o_vv yX5_copyRows 5 2), (5, o_al 0), (6, o_al 1), (7, o_gI 5 1), (10, o_pI 5 1), (13, o_ic (0)), (14, o_is 2), (15, o_il 2), (16, o_al 1), (17, o_gI 5 1), (20, o_ic_ge 54), (23, o_il 2), (24, o_ic (8)), (26, o_ic_ge 54), (29, o_al 1), (30, o_gR 5 3), (33, o_il 2), (34, o_xR 20), (35, o_ic (0)), (36, o_al 0), (37, o_gR 5 3), (40, o_il 2), (41, o_xR 20), (42, o_ic (0)), (43, o_ic (15)), (45, o_cpJ), (48, o_inc 2 (1)), (51, o_go 15), (54, o_vr)]
set_option maxRecDepth 20000 in
theorem pkX5_copy {G : zG} (hG : zGok G) (Q : zRt) : zPOK G (zRm 2) RX5 cX5_copy 3 none (zF G Q 0 0) 0 0 (zCalls G 2) Q pgX5_copy := by
  refine And.intro (k_aload_n (pc := 0) (by decide +kernel : decode cX5_copy 0 = .ok (.aload_n 0, 1)) rfl) ?_
  refine And.intro (k_aload_n (pc := 1) (by decide +kernel : decode cX5_copy 1 = .ok (.aload_n 1, 1)) rfl) ?_
  refine And.intro (k_cvV (n := 1) (pc := 2) hG (zRoom_self 2) (tag := 5) rfl ini_X5 im_X5_copyRows se_X5_copyRows mk_X5_27 dy_X5_copyRows (by decide +kernel : decode cX5_copy 2 = .ok (.invokevirtual 27, 3))) ?_
  refine And.intro (k_aload_n (pc := 5) (by decide +kernel : decode cX5_copy 5 = .ok (.aload_n 0, 1)) rfl) ?_
  refine And.intro (k_aload_n (pc := 6) (by decide +kernel : decode cX5_copy 6 = .ok (.aload_n 1, 1)) rfl) ?_
  refine And.intro (k_gI (pc := 7) rfl (by decide) rfl zin5 lk_X5_15 (by decide +kernel : decode cX5_copy 7 = .ok (.getfield 15, 3))) ?_
  refine And.intro (k_pI (pc := 10) rfl (by decide) rfl zin5 lk_X5_15 tyX5_ok nmX5 rfl (by decide +kernel) (by decide +kernel : decode cX5_copy 10 = .ok (.putfield 15, 3))) ?_
  refine And.intro (k_iconst (pc := 13) (by decide +kernel : decode cX5_copy 13 = .ok (.iconst 0, 1)) (by decide)) ?_
  refine And.intro (k_istore_n (pc := 14) (by decide +kernel : decode cX5_copy 14 = .ok (.istore_n 2, 1)) rfl) ?_
  refine And.intro (k_iload_n (pc := 15) (by decide +kernel : decode cX5_copy 15 = .ok (.iload_n 2, 1)) rfl) ?_
  refine And.intro (k_aload_n (pc := 16) (by decide +kernel : decode cX5_copy 16 = .ok (.aload_n 1, 1)) rfl) ?_
  refine And.intro (k_gI (pc := 17) rfl (by decide) rfl zin5 lk_X5_15 (by decide +kernel : decode cX5_copy 17 = .ok (.getfield 15, 3))) ?_
  refine And.intro (k_icmp_ge (pc := 20) (by decide +kernel : decode cX5_copy 20 = .ok (.if_icmp .ge 34, 3)) (by decide)) ?_
  refine And.intro (k_iload_n (pc := 23) (by decide +kernel : decode cX5_copy 23 = .ok (.iload_n 2, 1)) rfl) ?_
  refine And.intro (k_bipush (pc := 24) (by decide +kernel : decode cX5_copy 24 = .ok (.bipush 8, 2)) (by decide)) ?_
  refine And.intro (k_icmp_ge (pc := 26) (by decide +kernel : decode cX5_copy 26 = .ok (.if_icmp .ge 28, 3)) (by decide)) ?_
  refine And.intro (k_aload_n (pc := 29) (by decide +kernel : decode cX5_copy 29 = .ok (.aload_n 1, 1)) rfl) ?_
  refine And.intro (k_gR (pc := 30) rfl (by decide) rfl zin5 lk_X5_24 (by decide +kernel : decode cX5_copy 30 = .ok (.getfield 24, 3))) ?_
  refine And.intro (k_iload_n (pc := 33) (by decide +kernel : decode cX5_copy 33 = .ok (.iload_n 2, 1)) rfl) ?_
  refine And.intro (k_aald20 (pc := 34) (by decide +kernel : decode cX5_copy 34 = .ok (.aaload, 1))) ?_
  refine And.intro (k_iconst (pc := 35) (by decide +kernel : decode cX5_copy 35 = .ok (.iconst 0, 1)) (by decide)) ?_
  refine And.intro (k_aload_n (pc := 36) (by decide +kernel : decode cX5_copy 36 = .ok (.aload_n 0, 1)) rfl) ?_
  refine And.intro (k_gR (pc := 37) rfl (by decide) rfl zin5 lk_X5_24 (by decide +kernel : decode cX5_copy 37 = .ok (.getfield 24, 3))) ?_
  refine And.intro (k_iload_n (pc := 40) (by decide +kernel : decode cX5_copy 40 = .ok (.iload_n 2, 1)) rfl) ?_
  refine And.intro (k_aald20 (pc := 41) (by decide +kernel : decode cX5_copy 41 = .ok (.aaload, 1))) ?_
  refine And.intro (k_iconst (pc := 42) (by decide +kernel : decode cX5_copy 42 = .ok (.iconst 0, 1)) (by decide)) ?_
  refine And.intro (k_bipush (pc := 43) (by decide +kernel : decode cX5_copy 43 = .ok (.bipush 15, 2)) (by decide)) ?_
  refine And.intro (k_cpJ (pc := 45) (by decide) (by decide) ac_X5_31 ac_nat ac_sta ac_ini (by decide +kernel : decode cX5_copy 45 = .ok (.invokestatic 31, 3))) ?_
  refine And.intro (k_iinc (pc := 48) (by decide +kernel : decode cX5_copy 48 = .ok (.iinc 2 1, 3)) (by decide)) ?_
  refine And.intro (k_goto (pc := 51) (by decide +kernel : decode cX5_copy 51 = .ok (.goto (-36), 3)) (by decide)) ?_
  refine And.intro (k_return (pc := 54) rfl (by decide +kernel : decode cX5_copy 54 = .ok (.return_, 1))) ?_
  exact trivial
theorem cdX5_copy : Cond.code yX5_copy cX5_copy 3 none ∈ zWs := zWs_in 522 (by decide +kernel) rfl
noncomputable def pgX2_open : zPg := [(0, o_al 0), (1, o_gI 2 0), (4, o_if_lt 32), (7, o_al 0), (8, o_gI 2 0), (11, o_al 0), (12, o_gR 2 1), (15, o_len), (16, o_ic_ge 32), (19, o_al 0), (20, o_gR 2 1), (23, o_al 0), (24, o_gI 2 0), (27, o_xR 18), (28, o_al 1), (29, o_vv yX5_copy 5 2), (32, o_vr)]
set_option maxRecDepth 20000 in
theorem pkX2_open {G : zG} (hG : zGok G) (Q : zRt) : zPOK G (zRm 3) RX2 cX2_open 2 none (zF G Q 0 0) 0 0 (zCalls G 3) Q pgX2_open := by
  refine And.intro (k_aload_n (pc := 0) (by decide +kernel : decode cX2_open 0 = .ok (.aload_n 0, 1)) rfl) ?_
  refine And.intro (k_gI (pc := 1) rfl (by decide) rfl zin2 lk_X2_9 (by decide +kernel : decode cX2_open 1 = .ok (.getfield 9, 3))) ?_
  refine And.intro (k_if_lt (pc := 4) (by decide +kernel : decode cX2_open 4 = .ok (.ifCond .lt 28, 3)) (by decide)) ?_
  refine And.intro (k_aload_n (pc := 7) (by decide +kernel : decode cX2_open 7 = .ok (.aload_n 0, 1)) rfl) ?_
  refine And.intro (k_gI (pc := 8) rfl (by decide) rfl zin2 lk_X2_9 (by decide +kernel : decode cX2_open 8 = .ok (.getfield 9, 3))) ?_
  refine And.intro (k_aload_n (pc := 11) (by decide +kernel : decode cX2_open 11 = .ok (.aload_n 0, 1)) rfl) ?_
  refine And.intro (k_gR (pc := 12) rfl (by decide) rfl zin2 lk_X2_17 (by decide +kernel : decode cX2_open 12 = .ok (.getfield 17, 3))) ?_
  refine And.intro (k_alen (pc := 15) (by decide +kernel : decode cX2_open 15 = .ok (.arraylength, 1))) ?_
  refine And.intro (k_icmp_ge (pc := 16) (by decide +kernel : decode cX2_open 16 = .ok (.if_icmp .ge 16, 3)) (by decide)) ?_
  refine And.intro (k_aload_n (pc := 19) (by decide +kernel : decode cX2_open 19 = .ok (.aload_n 0, 1)) rfl) ?_
  refine And.intro (k_gR (pc := 20) rfl (by decide) rfl zin2 lk_X2_17 (by decide +kernel : decode cX2_open 20 = .ok (.getfield 17, 3))) ?_
  refine And.intro (k_aload_n (pc := 23) (by decide +kernel : decode cX2_open 23 = .ok (.aload_n 0, 1)) rfl) ?_
  refine And.intro (k_gI (pc := 24) rfl (by decide) rfl zin2 lk_X2_9 (by decide +kernel : decode cX2_open 24 = .ok (.getfield 9, 3))) ?_
  refine And.intro (k_aald18 (pc := 27) (by decide +kernel : decode cX2_open 27 = .ok (.aaload, 1))) ?_
  refine And.intro (k_aload_n (pc := 28) (by decide +kernel : decode cX2_open 28 = .ok (.aload_n 1, 1)) rfl) ?_
  refine And.intro (k_cvV (n := 1) (pc := 29) hG (zRoom_self 3) (tag := 5) rfl ini_X5 im_X5_copy se_X5_copy mk_X2_22 dy_X5_copy (by decide +kernel : decode cX2_open 29 = .ok (.invokevirtual 22, 3))) ?_
  refine And.intro (k_return (pc := 32) rfl (by decide +kernel : decode cX2_open 32 = .ok (.return_, 1))) ?_
  exact trivial
theorem cdX2_open : Cond.code yX2_open cX2_open 2 none ∈ zWs := zWs_in 518 (by decide +kernel) rfl
noncomputable def pgX2_close : zPg := [(0, o_al 0), (1, o_gI 2 0), (4, o_ic (8)), (6, o_ic_ge 20), (9, o_al 0), (10, o_dup), (11, o_gI 2 0), (14, o_ic (1)), (15, o_iadd), (16, o_pI 2 0), (19, o_vr), (20, o_al 0), (21, o_gR 2 1), (24, o_ic (0)), (25, o_xR 18), (26, o_as 1), (27, o_ic (0)), (28, o_is 2), (29, o_il 2), (30, o_ic (1)), (31, o_iadd), (32, o_al 0), (33, o_gR 2 1), (36, o_len), (37, o_ic_ge 60), (40, o_al 0), (41, o_gR 2 1), (44, o_il 2), (45, o_al 0), (46, o_gR 2 1), (49, o_il 2), (50, o_ic (1)), (51, o_iadd), (52, o_xR 18), (53, o_yR 18 5), (54, o_inc 2 (1)), (57, o_go 29), (60, o_al 0), (61, o_gR 2 1), (64, o_ic (8)), (66, o_al 1), (67, o_yR 18 5), (68, o_vr)]
set_option maxRecDepth 20000 in
theorem pkX2_close {G : zG} (hG : zGok G) (Q : zRt) : zPOK G (zRm 0) RX2 cX2_close 3 none (zF G Q 0 0) 0 0 (zCalls G 0) Q pgX2_close := by
  refine And.intro (k_aload_n (pc := 0) (by decide +kernel : decode cX2_close 0 = .ok (.aload_n 0, 1)) rfl) ?_
  refine And.intro (k_gI (pc := 1) rfl (by decide) rfl zin2 lk_X2_9 (by decide +kernel : decode cX2_close 1 = .ok (.getfield 9, 3))) ?_
  refine And.intro (k_bipush (pc := 4) (by decide +kernel : decode cX2_close 4 = .ok (.bipush 8, 2)) (by decide)) ?_
  refine And.intro (k_icmp_ge (pc := 6) (by decide +kernel : decode cX2_close 6 = .ok (.if_icmp .ge 14, 3)) (by decide)) ?_
  refine And.intro (k_aload_n (pc := 9) (by decide +kernel : decode cX2_close 9 = .ok (.aload_n 0, 1)) rfl) ?_
  refine And.intro (k_dup (pc := 10) (by decide +kernel : decode cX2_close 10 = .ok (.dup, 1))) ?_
  refine And.intro (k_gI (pc := 11) rfl (by decide) rfl zin2 lk_X2_9 (by decide +kernel : decode cX2_close 11 = .ok (.getfield 9, 3))) ?_
  refine And.intro (k_iconst (pc := 14) (by decide +kernel : decode cX2_close 14 = .ok (.iconst 1, 1)) (by decide)) ?_
  refine And.intro (k_iadd (pc := 15) (by decide +kernel : decode cX2_close 15 = .ok (.iadd, 1))) ?_
  refine And.intro (k_pI (pc := 16) rfl (by decide) rfl zin2 lk_X2_9 tyX2_ok nmX2 rfl (by decide +kernel) (by decide +kernel : decode cX2_close 16 = .ok (.putfield 9, 3))) ?_
  refine And.intro (k_return (pc := 19) rfl (by decide +kernel : decode cX2_close 19 = .ok (.return_, 1))) ?_
  refine And.intro (k_aload_n (pc := 20) (by decide +kernel : decode cX2_close 20 = .ok (.aload_n 0, 1)) rfl) ?_
  refine And.intro (k_gR (pc := 21) rfl (by decide) rfl zin2 lk_X2_17 (by decide +kernel : decode cX2_close 21 = .ok (.getfield 17, 3))) ?_
  refine And.intro (k_iconst (pc := 24) (by decide +kernel : decode cX2_close 24 = .ok (.iconst 0, 1)) (by decide)) ?_
  refine And.intro (k_aald18 (pc := 25) (by decide +kernel : decode cX2_close 25 = .ok (.aaload, 1))) ?_
  refine And.intro (k_astore_n (pc := 26) (by decide +kernel : decode cX2_close 26 = .ok (.astore_n 1, 1)) rfl) ?_
  refine And.intro (k_iconst (pc := 27) (by decide +kernel : decode cX2_close 27 = .ok (.iconst 0, 1)) (by decide)) ?_
  refine And.intro (k_istore_n (pc := 28) (by decide +kernel : decode cX2_close 28 = .ok (.istore_n 2, 1)) rfl) ?_
  refine And.intro (k_iload_n (pc := 29) (by decide +kernel : decode cX2_close 29 = .ok (.iload_n 2, 1)) rfl) ?_
  refine And.intro (k_iconst (pc := 30) (by decide +kernel : decode cX2_close 30 = .ok (.iconst 1, 1)) (by decide)) ?_
  refine And.intro (k_iadd (pc := 31) (by decide +kernel : decode cX2_close 31 = .ok (.iadd, 1))) ?_
  refine And.intro (k_aload_n (pc := 32) (by decide +kernel : decode cX2_close 32 = .ok (.aload_n 0, 1)) rfl) ?_
  refine And.intro (k_gR (pc := 33) rfl (by decide) rfl zin2 lk_X2_17 (by decide +kernel : decode cX2_close 33 = .ok (.getfield 17, 3))) ?_
  refine And.intro (k_alen (pc := 36) (by decide +kernel : decode cX2_close 36 = .ok (.arraylength, 1))) ?_
  refine And.intro (k_icmp_ge (pc := 37) (by decide +kernel : decode cX2_close 37 = .ok (.if_icmp .ge 23, 3)) (by decide)) ?_
  refine And.intro (k_aload_n (pc := 40) (by decide +kernel : decode cX2_close 40 = .ok (.aload_n 0, 1)) rfl) ?_
  refine And.intro (k_gR (pc := 41) rfl (by decide) rfl zin2 lk_X2_17 (by decide +kernel : decode cX2_close 41 = .ok (.getfield 17, 3))) ?_
  refine And.intro (k_iload_n (pc := 44) (by decide +kernel : decode cX2_close 44 = .ok (.iload_n 2, 1)) rfl) ?_
  refine And.intro (k_aload_n (pc := 45) (by decide +kernel : decode cX2_close 45 = .ok (.aload_n 0, 1)) rfl) ?_
  refine And.intro (k_gR (pc := 46) rfl (by decide) rfl zin2 lk_X2_17 (by decide +kernel : decode cX2_close 46 = .ok (.getfield 17, 3))) ?_
  refine And.intro (k_iload_n (pc := 49) (by decide +kernel : decode cX2_close 49 = .ok (.iload_n 2, 1)) rfl) ?_
  refine And.intro (k_iconst (pc := 50) (by decide +kernel : decode cX2_close 50 = .ok (.iconst 1, 1)) (by decide)) ?_
  refine And.intro (k_iadd (pc := 51) (by decide +kernel : decode cX2_close 51 = .ok (.iadd, 1))) ?_
  refine And.intro (k_aald18 (pc := 52) (by decide +kernel : decode cX2_close 52 = .ok (.aaload, 1))) ?_
  refine And.intro (k_aast (pc := 53) (by decide +kernel : decode cX2_close 53 = .ok (.aastore, 1))) ?_
  refine And.intro (k_iinc (pc := 54) (by decide +kernel : decode cX2_close 54 = .ok (.iinc 2 1, 3)) (by decide)) ?_
  refine And.intro (k_goto (pc := 57) (by decide +kernel : decode cX2_close 57 = .ok (.goto (-28), 3)) (by decide)) ?_
  refine And.intro (k_aload_n (pc := 60) (by decide +kernel : decode cX2_close 60 = .ok (.aload_n 0, 1)) rfl) ?_
  refine And.intro (k_gR (pc := 61) rfl (by decide) rfl zin2 lk_X2_17 (by decide +kernel : decode cX2_close 61 = .ok (.getfield 17, 3))) ?_
  refine And.intro (k_bipush (pc := 64) (by decide +kernel : decode cX2_close 64 = .ok (.bipush 8, 2)) (by decide)) ?_
  refine And.intro (k_aload_n (pc := 66) (by decide +kernel : decode cX2_close 66 = .ok (.aload_n 1, 1)) rfl) ?_
  refine And.intro (k_aast (pc := 67) (by decide +kernel : decode cX2_close 67 = .ok (.aastore, 1))) ?_
  refine And.intro (k_return (pc := 68) rfl (by decide +kernel : decode cX2_close 68 = .ok (.return_, 1))) ?_
  exact trivial
theorem cdX2_close : Cond.code yX2_close cX2_close 3 none ∈ zWs := zWs_in 538 (by decide +kernel) rfl
noncomputable def pgX2_back : zPg := [(0, o_al 0), (1, o_gI 2 0), (4, o_ic (1)), (5, o_ic_lt 20), (8, o_al 0), (9, o_gI 2 0), (12, o_al 0), (13, o_gR 2 1), (16, o_len), (17, o_ic_le 22), (20, o_ic (0)), (21, o_zr), (22, o_al 0), (23, o_dup), (24, o_gI 2 0), (27, o_ic (1)), (28, o_isub), (29, o_pI 2 0), (32, o_al 1), (33, o_al 0), (34, o_gR 2 1), (37, o_al 0), (38, o_gI 2 0), (41, o_xR 18), (42, o_vv yX5_copy 5 2), (45, o_ic (1)), (46, o_zr)]
set_option maxRecDepth 20000 in
theorem pkX2_back {G : zG} (hG : zGok G) (Q : zRt) : zPOK G (zRm 3) RX2 cX2_back 2 (some .boolean) (zF G Q 0 0) 0 0 (zCalls G 3) Q pgX2_back := by
  refine And.intro (k_aload_n (pc := 0) (by decide +kernel : decode cX2_back 0 = .ok (.aload_n 0, 1)) rfl) ?_
  refine And.intro (k_gI (pc := 1) rfl (by decide) rfl zin2 lk_X2_9 (by decide +kernel : decode cX2_back 1 = .ok (.getfield 9, 3))) ?_
  refine And.intro (k_iconst (pc := 4) (by decide +kernel : decode cX2_back 4 = .ok (.iconst 1, 1)) (by decide)) ?_
  refine And.intro (k_icmp_lt (pc := 5) (by decide +kernel : decode cX2_back 5 = .ok (.if_icmp .lt 15, 3)) (by decide)) ?_
  refine And.intro (k_aload_n (pc := 8) (by decide +kernel : decode cX2_back 8 = .ok (.aload_n 0, 1)) rfl) ?_
  refine And.intro (k_gI (pc := 9) rfl (by decide) rfl zin2 lk_X2_9 (by decide +kernel : decode cX2_back 9 = .ok (.getfield 9, 3))) ?_
  refine And.intro (k_aload_n (pc := 12) (by decide +kernel : decode cX2_back 12 = .ok (.aload_n 0, 1)) rfl) ?_
  refine And.intro (k_gR (pc := 13) rfl (by decide) rfl zin2 lk_X2_17 (by decide +kernel : decode cX2_back 13 = .ok (.getfield 17, 3))) ?_
  refine And.intro (k_alen (pc := 16) (by decide +kernel : decode cX2_back 16 = .ok (.arraylength, 1))) ?_
  refine And.intro (k_icmp_le (pc := 17) (by decide +kernel : decode cX2_back 17 = .ok (.if_icmp .le 5, 3)) (by decide)) ?_
  refine And.intro (k_iconst (pc := 20) (by decide +kernel : decode cX2_back 20 = .ok (.iconst 0, 1)) (by decide)) ?_
  refine And.intro (k_zreturn (pc := 21) rfl (by decide +kernel : decode cX2_back 21 = .ok (.ireturn, 1))) ?_
  refine And.intro (k_aload_n (pc := 22) (by decide +kernel : decode cX2_back 22 = .ok (.aload_n 0, 1)) rfl) ?_
  refine And.intro (k_dup (pc := 23) (by decide +kernel : decode cX2_back 23 = .ok (.dup, 1))) ?_
  refine And.intro (k_gI (pc := 24) rfl (by decide) rfl zin2 lk_X2_9 (by decide +kernel : decode cX2_back 24 = .ok (.getfield 9, 3))) ?_
  refine And.intro (k_iconst (pc := 27) (by decide +kernel : decode cX2_back 27 = .ok (.iconst 1, 1)) (by decide)) ?_
  refine And.intro (k_isub (pc := 28) (by decide +kernel : decode cX2_back 28 = .ok (.isub, 1))) ?_
  refine And.intro (k_pI (pc := 29) rfl (by decide) rfl zin2 lk_X2_9 tyX2_ok nmX2 rfl (by decide +kernel) (by decide +kernel : decode cX2_back 29 = .ok (.putfield 9, 3))) ?_
  refine And.intro (k_aload_n (pc := 32) (by decide +kernel : decode cX2_back 32 = .ok (.aload_n 1, 1)) rfl) ?_
  refine And.intro (k_aload_n (pc := 33) (by decide +kernel : decode cX2_back 33 = .ok (.aload_n 0, 1)) rfl) ?_
  refine And.intro (k_gR (pc := 34) rfl (by decide) rfl zin2 lk_X2_17 (by decide +kernel : decode cX2_back 34 = .ok (.getfield 17, 3))) ?_
  refine And.intro (k_aload_n (pc := 37) (by decide +kernel : decode cX2_back 37 = .ok (.aload_n 0, 1)) rfl) ?_
  refine And.intro (k_gI (pc := 38) rfl (by decide) rfl zin2 lk_X2_9 (by decide +kernel : decode cX2_back 38 = .ok (.getfield 9, 3))) ?_
  refine And.intro (k_aald18 (pc := 41) (by decide +kernel : decode cX2_back 41 = .ok (.aaload, 1))) ?_
  refine And.intro (k_cvV (n := 1) (pc := 42) hG (zRoom_self 3) (tag := 5) rfl ini_X5 im_X5_copy se_X5_copy mk_X2_22 dy_X5_copy (by decide +kernel : decode cX2_back 42 = .ok (.invokevirtual 22, 3))) ?_
  refine And.intro (k_iconst (pc := 45) (by decide +kernel : decode cX2_back 45 = .ok (.iconst 1, 1)) (by decide)) ?_
  refine And.intro (k_zreturn (pc := 46) rfl (by decide +kernel : decode cX2_back 46 = .ok (.ireturn, 1))) ?_
  exact trivial
theorem cdX2_back : Cond.code yX2_back cX2_back 2 (some .boolean) ∈ zWs := zWs_in 968 (by decide +kernel) rfl
noncomputable def pgX2_forget : zPg := [(0, o_al 0), (1, o_ic (0)), (2, o_pI 2 0), (5, o_vr)]
set_option maxRecDepth 20000 in
theorem pkX2_forget {G : zG} (hG : zGok G) (Q : zRt) : zPOK G (zRm 0) RX2 cX2_forget 1 none (zF G Q 0 0) 0 0 (zCalls G 0) Q pgX2_forget := by
  refine And.intro (k_aload_n (pc := 0) (by decide +kernel : decode cX2_forget 0 = .ok (.aload_n 0, 1)) rfl) ?_
  refine And.intro (k_iconst (pc := 1) (by decide +kernel : decode cX2_forget 1 = .ok (.iconst 0, 1)) (by decide)) ?_
  refine And.intro (k_pI (pc := 2) rfl (by decide) rfl zin2 lk_X2_9 tyX2_ok nmX2 rfl (by decide +kernel) (by decide +kernel : decode cX2_forget 2 = .ok (.putfield 9, 3))) ?_
  refine And.intro (k_return (pc := 5) rfl (by decide +kernel : decode cX2_forget 5 = .ok (.return_, 1))) ?_
  exact trivial
theorem cdX2_forget : Cond.code yX2_forget cX2_forget 1 none ∈ zWs := zWs_in 998 (by decide +kernel) rfl
noncomputable def pgX3_start : zPg := [(0, o_al 0), (1, o_il 1), (2, o_pI 3 0), (5, o_al 0), (6, o_il 2), (7, o_pI 3 1), (10, o_al 0), (11, o_ic (0)), (12, o_pZ 3 2), (15, o_vr)]
set_option maxRecDepth 20000 in
theorem pkX3_start {G : zG} (hG : zGok G) (Q : zRt) : zPOK G (zRm 0) RX3 cX3_start 3 none (zF G Q 0 0) 0 0 (zCalls G 0) Q pgX3_start := by
  refine And.intro (k_aload_n (pc := 0) (by decide +kernel : decode cX3_start 0 = .ok (.aload_n 0, 1)) rfl) ?_
  refine And.intro (k_iload_n (pc := 1) (by decide +kernel : decode cX3_start 1 = .ok (.iload_n 1, 1)) rfl) ?_
  refine And.intro (k_pI (pc := 2) rfl (by decide) rfl zin3 lk_X3_9 tyX3_ok nmX3 rfl (by decide +kernel) (by decide +kernel : decode cX3_start 2 = .ok (.putfield 9, 3))) ?_
  refine And.intro (k_aload_n (pc := 5) (by decide +kernel : decode cX3_start 5 = .ok (.aload_n 0, 1)) rfl) ?_
  refine And.intro (k_iload_n (pc := 6) (by decide +kernel : decode cX3_start 6 = .ok (.iload_n 2, 1)) rfl) ?_
  refine And.intro (k_pI (pc := 7) rfl (by decide) rfl zin3 lk_X3_15 tyX3_ok nmX3 rfl (by decide +kernel) (by decide +kernel : decode cX3_start 7 = .ok (.putfield 15, 3))) ?_
  refine And.intro (k_aload_n (pc := 10) (by decide +kernel : decode cX3_start 10 = .ok (.aload_n 0, 1)) rfl) ?_
  refine And.intro (k_iconst (pc := 11) (by decide +kernel : decode cX3_start 11 = .ok (.iconst 0, 1)) (by decide)) ?_
  refine And.intro (k_pZ (pc := 12) rfl (by decide) rfl zin3 lk_X3_18 tyX3_ok nmX3 rfl (by decide +kernel) (by decide +kernel : decode cX3_start 12 = .ok (.putfield 18, 3))) ?_
  refine And.intro (k_return (pc := 15) rfl (by decide +kernel : decode cX3_start 15 = .ok (.return_, 1))) ?_
  exact trivial
theorem cdX3_start : Cond.code yX3_start cX3_start 3 none ∈ zWs := zWs_in 885 (by decide +kernel) rfl
noncomputable def pgX6_copy : zPg := [(0, o_al 0), (1, o_al 1), (2, o_gJ 6 0), (5, o_pJ 6 0), (8, o_al 0), (9, o_al 1), (10, o_gJ 6 1), (13, o_pJ 6 1), (16, o_vr)]
set_option maxRecDepth 20000 in
theorem pkX6_copy {G : zG} (hG : zGok G) (Q : zRt) : zPOK G (zRm 0) RX6 cX6_copy 2 none (zF G Q 0 0) 0 0 (zCalls G 0) Q pgX6_copy := by
  refine And.intro (k_aload_n (pc := 0) (by decide +kernel : decode cX6_copy 0 = .ok (.aload_n 0, 1)) rfl) ?_
  refine And.intro (k_aload_n (pc := 1) (by decide +kernel : decode cX6_copy 1 = .ok (.aload_n 1, 1)) rfl) ?_
  refine And.intro (k_gJ (pc := 2) rfl (by decide) rfl zin6 lk_X6_7 (by decide +kernel : decode cX6_copy 2 = .ok (.getfield 7, 3))) ?_
  refine And.intro (k_pJ (pc := 5) rfl (by decide) rfl zin6 lk_X6_7 tyX6_ok nmX6 rfl (by decide +kernel) (by decide +kernel : decode cX6_copy 5 = .ok (.putfield 7, 3))) ?_
  refine And.intro (k_aload_n (pc := 8) (by decide +kernel : decode cX6_copy 8 = .ok (.aload_n 0, 1)) rfl) ?_
  refine And.intro (k_aload_n (pc := 9) (by decide +kernel : decode cX6_copy 9 = .ok (.aload_n 1, 1)) rfl) ?_
  refine And.intro (k_gJ (pc := 10) rfl (by decide) rfl zin6 lk_X6_13 (by decide +kernel : decode cX6_copy 10 = .ok (.getfield 13, 3))) ?_
  refine And.intro (k_pJ (pc := 13) rfl (by decide) rfl zin6 lk_X6_13 tyX6_ok nmX6 rfl (by decide +kernel) (by decide +kernel : decode cX6_copy 13 = .ok (.putfield 13, 3))) ?_
  refine And.intro (k_return (pc := 16) rfl (by decide +kernel : decode cX6_copy 16 = .ok (.return_, 1))) ?_
  exact trivial
theorem cdX6_copy : Cond.code yX6_copy cX6_copy 2 none ∈ zWs := zWs_in 650 (by decide +kernel) rfl
noncomputable def pgX6_isBelow : zPg := [(0, o_al 0), (1, o_gJ 6 0), (4, o_al 1), (5, o_gJ 6 1), (8, o_lmul), (9, o_al 1), (10, o_gJ 6 0), (13, o_al 0), (14, o_gJ 6 1), (17, o_lmul), (18, o_lc_ge 26), (22, o_ic (1)), (23, o_go 27), (26, o_ic (0)), (27, o_zr)]
set_option maxRecDepth 20000 in
theorem pkX6_isBelow {G : zG} (hG : zGok G) (Q : zRt) : zPOK G (zRm 0) RX6 cX6_isBelow 2 (some .boolean) (zF G Q 0 0) 0 0 (zCalls G 0) Q pgX6_isBelow := by
  refine And.intro (k_aload_n (pc := 0) (by decide +kernel : decode cX6_isBelow 0 = .ok (.aload_n 0, 1)) rfl) ?_
  refine And.intro (k_gJ (pc := 1) rfl (by decide) rfl zin6 lk_X6_7 (by decide +kernel : decode cX6_isBelow 1 = .ok (.getfield 7, 3))) ?_
  refine And.intro (k_aload_n (pc := 4) (by decide +kernel : decode cX6_isBelow 4 = .ok (.aload_n 1, 1)) rfl) ?_
  refine And.intro (k_gJ (pc := 5) rfl (by decide) rfl zin6 lk_X6_13 (by decide +kernel : decode cX6_isBelow 5 = .ok (.getfield 13, 3))) ?_
  refine And.intro (k_lmul (pc := 8) (by decide +kernel : decode cX6_isBelow 8 = .ok (.lmul, 1))) ?_
  refine And.intro (k_aload_n (pc := 9) (by decide +kernel : decode cX6_isBelow 9 = .ok (.aload_n 1, 1)) rfl) ?_
  refine And.intro (k_gJ (pc := 10) rfl (by decide) rfl zin6 lk_X6_7 (by decide +kernel : decode cX6_isBelow 10 = .ok (.getfield 7, 3))) ?_
  refine And.intro (k_aload_n (pc := 13) (by decide +kernel : decode cX6_isBelow 13 = .ok (.aload_n 0, 1)) rfl) ?_
  refine And.intro (k_gJ (pc := 14) rfl (by decide) rfl zin6 lk_X6_13 (by decide +kernel : decode cX6_isBelow 14 = .ok (.getfield 13, 3))) ?_
  refine And.intro (k_lmul (pc := 17) (by decide +kernel : decode cX6_isBelow 17 = .ok (.lmul, 1))) ?_
  refine And.intro (k_lcmp_ge (pc := 18) (by decide +kernel : decode cX6_isBelow 18 = .ok (.lcmp, 1)) (by decide +kernel : decode cX6_isBelow 19 = .ok (.ifCond .ge 7, 3)) (by decide)) ?_
  refine And.intro (k_iconst (pc := 22) (by decide +kernel : decode cX6_isBelow 22 = .ok (.iconst 1, 1)) (by decide)) ?_
  refine And.intro (k_goto (pc := 23) (by decide +kernel : decode cX6_isBelow 23 = .ok (.goto 4, 3)) (by decide)) ?_
  refine And.intro (k_iconst (pc := 26) (by decide +kernel : decode cX6_isBelow 26 = .ok (.iconst 0, 1)) (by decide)) ?_
  refine And.intro (k_zreturn (pc := 27) rfl (by decide +kernel : decode cX6_isBelow 27 = .ok (.ireturn, 1))) ?_
  exact trivial
theorem cdX6_isBelow : Cond.code yX6_isBelow cX6_isBelow 2 (some .boolean) ∈ zWs := zWs_in 633 (by decide +kernel) rfl
noncomputable def pgX3_offer : zPg := [(0, o_al 0), (1, o_gR 3 4), (4, o_ll 1), (5, o_ll 3), (6, o_vv yX6_put 6 3), (9, o_al 0), (10, o_gI 3 2), (13, o_if_eq 30), (16, o_al 0), (17, o_gR 3 3), (20, o_al 0), (21, o_gR 3 4), (24, o_vr2 yX6_isBelow 6 2), (27, o_if_eq 46), (30, o_al 0), (31, o_gR 3 3), (34, o_al 0), (35, o_gR 3 4), (38, o_vv yX6_copy 6 2), (41, o_al 0), (42, o_ic (1)), (43, o_pZ 3 2), (46, o_vr)]
set_option maxRecDepth 20000 in
theorem pkX3_offer {G : zG} (hG : zGok G) (Q : zRt) : zPOK G (zRm 3) RX3 cX3_offer 5 none (zF G Q 0 0) 0 0 (zCalls G 3) Q pgX3_offer := by
  refine And.intro (k_aload_n (pc := 0) (by decide +kernel : decode cX3_offer 0 = .ok (.aload_n 0, 1)) rfl) ?_
  refine And.intro (k_gR (pc := 1) rfl (by decide) rfl zin3 lk_X3_29 (by decide +kernel : decode cX3_offer 1 = .ok (.getfield 29, 3))) ?_
  refine And.intro (k_lload_n (pc := 4) (by decide +kernel : decode cX3_offer 4 = .ok (.lload_n 1, 1)) rfl) ?_
  refine And.intro (k_lload_n (pc := 5) (by decide +kernel : decode cX3_offer 5 = .ok (.lload_n 3, 1)) rfl) ?_
  refine And.intro (k_cvV (n := 2) (pc := 6) hG (zRoom_self 3) (tag := 6) rfl ini_X6 im_X6_put se_X6_put mk_X3_32 dy_X6_put (by decide +kernel : decode cX3_offer 6 = .ok (.invokevirtual 32, 3))) ?_
  refine And.intro (k_aload_n (pc := 9) (by decide +kernel : decode cX3_offer 9 = .ok (.aload_n 0, 1)) rfl) ?_
  refine And.intro (k_gZ (pc := 10) rfl (by decide) rfl zin3 lk_X3_18 (by decide +kernel : decode cX3_offer 10 = .ok (.getfield 18, 3))) ?_
  refine And.intro (k_if_eq (pc := 13) (by decide +kernel : decode cX3_offer 13 = .ok (.ifCond .eq 17, 3)) (by decide)) ?_
  refine And.intro (k_aload_n (pc := 16) (by decide +kernel : decode cX3_offer 16 = .ok (.aload_n 0, 1)) rfl) ?_
  refine And.intro (k_gR (pc := 17) rfl (by decide) rfl zin3 lk_X3_25 (by decide +kernel : decode cX3_offer 17 = .ok (.getfield 25, 3))) ?_
  refine And.intro (k_aload_n (pc := 20) (by decide +kernel : decode cX3_offer 20 = .ok (.aload_n 0, 1)) rfl) ?_
  refine And.intro (k_gR (pc := 21) rfl (by decide) rfl zin3 lk_X3_29 (by decide +kernel : decode cX3_offer 21 = .ok (.getfield 29, 3))) ?_
  refine And.intro (k_crV (n := 1) (pc := 24) hG (zRoom_self 3) (tag := 6) rfl ini_X6 im_X6_isBelow se_X6_isBelow mk_X3_36 dy_X6_isBelow (by decide +kernel : decode cX3_offer 24 = .ok (.invokevirtual 36, 3))) ?_
  refine And.intro (k_if_eq (pc := 27) (by decide +kernel : decode cX3_offer 27 = .ok (.ifCond .eq 19, 3)) (by decide)) ?_
  refine And.intro (k_aload_n (pc := 30) (by decide +kernel : decode cX3_offer 30 = .ok (.aload_n 0, 1)) rfl) ?_
  refine And.intro (k_gR (pc := 31) rfl (by decide) rfl zin3 lk_X3_25 (by decide +kernel : decode cX3_offer 31 = .ok (.getfield 25, 3))) ?_
  refine And.intro (k_aload_n (pc := 34) (by decide +kernel : decode cX3_offer 34 = .ok (.aload_n 0, 1)) rfl) ?_
  refine And.intro (k_gR (pc := 35) rfl (by decide) rfl zin3 lk_X3_29 (by decide +kernel : decode cX3_offer 35 = .ok (.getfield 29, 3))) ?_
  refine And.intro (k_cvV (n := 1) (pc := 38) hG (zRoom_self 3) (tag := 6) rfl ini_X6 im_X6_copy se_X6_copy mk_X3_40 dy_X6_copy (by decide +kernel : decode cX3_offer 38 = .ok (.invokevirtual 40, 3))) ?_
  refine And.intro (k_aload_n (pc := 41) (by decide +kernel : decode cX3_offer 41 = .ok (.aload_n 0, 1)) rfl) ?_
  refine And.intro (k_iconst (pc := 42) (by decide +kernel : decode cX3_offer 42 = .ok (.iconst 1, 1)) (by decide)) ?_
  refine And.intro (k_pZ (pc := 43) rfl (by decide) rfl zin3 lk_X3_18 tyX3_ok nmX3 rfl (by decide +kernel) (by decide +kernel : decode cX3_offer 43 = .ok (.putfield 18, 3))) ?_
  refine And.intro (k_return (pc := 46) rfl (by decide +kernel : decode cX3_offer 46 = .ok (.return_, 1))) ?_
  exact trivial
theorem cdX3_offer : Cond.code yX3_offer cX3_offer 5 none ∈ zWs := zWs_in 900 (by decide +kernel) rfl
noncomputable def pgX5_holds : zPg := [(0, o_ic (0)), (1, o_is 5), (3, o_il 5), (5, o_al 0), (6, o_vr2 yX5_allRows 5 1), (9, o_ic_ge 58), (12, o_il 5), (14, o_il 4), (16, o_ic_eq 52), (19, o_al 0), (20, o_il 5), (22, o_ic (0)), (23, o_vr2 yX5_part 5 3), (26, o_il 1), (27, o_imul), (28, o_al 0), (29, o_il 5), (31, o_ic (1)), (32, o_vr2 yX5_part 5 3), (35, o_il 2), (36, o_imul), (37, o_iadd), (38, o_al 0), (39, o_il 5), (41, o_ic (2)), (42, o_vr2 yX5_part 5 3), (45, o_il 3), (46, o_imul), (47, o_ic_le 52), (50, o_ic (0)), (51, o_zr), (52, o_inc 5 (1)), (55, o_go 3), (58, o_ic (1)), (59, o_zr)]
set_option maxRecDepth 20000 in
theorem pkX5_holds {G : zG} (hG : zGok G) (Q : zRt) : zPOK G (zRm 2) RX5 cX5_holds 6 (some .boolean) (zF G Q 0 0) 0 0 (zCalls G 2) Q pgX5_holds := by
  refine And.intro (k_iconst (pc := 0) (by decide +kernel : decode cX5_holds 0 = .ok (.iconst 0, 1)) (by decide)) ?_
  refine And.intro (k_istore (pc := 1) (by decide +kernel : decode cX5_holds 1 = .ok (.istore 5, 2))) ?_
  refine And.intro (k_iload (pc := 3) (by decide +kernel : decode cX5_holds 3 = .ok (.iload 5, 2))) ?_
  refine And.intro (k_aload_n (pc := 5) (by decide +kernel : decode cX5_holds 5 = .ok (.aload_n 0, 1)) rfl) ?_
  refine And.intro (k_crV (n := 0) (pc := 6) hG (zRoom_self 2) (tag := 5) rfl ini_X5 im_X5_allRows se_X5_allRows mk_X5_37 dy_X5_allRows (by decide +kernel : decode cX5_holds 6 = .ok (.invokevirtual 37, 3))) ?_
  refine And.intro (k_icmp_ge (pc := 9) (by decide +kernel : decode cX5_holds 9 = .ok (.if_icmp .ge 49, 3)) (by decide)) ?_
  refine And.intro (k_iload (pc := 12) (by decide +kernel : decode cX5_holds 12 = .ok (.iload 5, 2))) ?_
  refine And.intro (k_iload (pc := 14) (by decide +kernel : decode cX5_holds 14 = .ok (.iload 4, 2))) ?_
  refine And.intro (k_icmp_eq (pc := 16) (by decide +kernel : decode cX5_holds 16 = .ok (.if_icmp .eq 36, 3)) (by decide)) ?_
  refine And.intro (k_aload_n (pc := 19) (by decide +kernel : decode cX5_holds 19 = .ok (.aload_n 0, 1)) rfl) ?_
  refine And.intro (k_iload (pc := 20) (by decide +kernel : decode cX5_holds 20 = .ok (.iload 5, 2))) ?_
  refine And.intro (k_iconst (pc := 22) (by decide +kernel : decode cX5_holds 22 = .ok (.iconst 0, 1)) (by decide)) ?_
  refine And.intro (k_crV (n := 2) (pc := 23) hG (zRoom_self 2) (tag := 5) rfl ini_X5 im_X5_part se_X5_part mk_X5_48 dy_X5_part (by decide +kernel : decode cX5_holds 23 = .ok (.invokevirtual 48, 3))) ?_
  refine And.intro (k_iload_n (pc := 26) (by decide +kernel : decode cX5_holds 26 = .ok (.iload_n 1, 1)) rfl) ?_
  refine And.intro (k_imul (pc := 27) (by decide +kernel : decode cX5_holds 27 = .ok (.imul, 1))) ?_
  refine And.intro (k_aload_n (pc := 28) (by decide +kernel : decode cX5_holds 28 = .ok (.aload_n 0, 1)) rfl) ?_
  refine And.intro (k_iload (pc := 29) (by decide +kernel : decode cX5_holds 29 = .ok (.iload 5, 2))) ?_
  refine And.intro (k_iconst (pc := 31) (by decide +kernel : decode cX5_holds 31 = .ok (.iconst 1, 1)) (by decide)) ?_
  refine And.intro (k_crV (n := 2) (pc := 32) hG (zRoom_self 2) (tag := 5) rfl ini_X5 im_X5_part se_X5_part mk_X5_48 dy_X5_part (by decide +kernel : decode cX5_holds 32 = .ok (.invokevirtual 48, 3))) ?_
  refine And.intro (k_iload_n (pc := 35) (by decide +kernel : decode cX5_holds 35 = .ok (.iload_n 2, 1)) rfl) ?_
  refine And.intro (k_imul (pc := 36) (by decide +kernel : decode cX5_holds 36 = .ok (.imul, 1))) ?_
  refine And.intro (k_iadd (pc := 37) (by decide +kernel : decode cX5_holds 37 = .ok (.iadd, 1))) ?_
  refine And.intro (k_aload_n (pc := 38) (by decide +kernel : decode cX5_holds 38 = .ok (.aload_n 0, 1)) rfl) ?_
  refine And.intro (k_iload (pc := 39) (by decide +kernel : decode cX5_holds 39 = .ok (.iload 5, 2))) ?_
  refine And.intro (k_iconst (pc := 41) (by decide +kernel : decode cX5_holds 41 = .ok (.iconst 2, 1)) (by decide)) ?_
  refine And.intro (k_crV (n := 2) (pc := 42) hG (zRoom_self 2) (tag := 5) rfl ini_X5 im_X5_part se_X5_part mk_X5_48 dy_X5_part (by decide +kernel : decode cX5_holds 42 = .ok (.invokevirtual 48, 3))) ?_
  refine And.intro (k_iload_n (pc := 45) (by decide +kernel : decode cX5_holds 45 = .ok (.iload_n 3, 1)) rfl) ?_
  refine And.intro (k_imul (pc := 46) (by decide +kernel : decode cX5_holds 46 = .ok (.imul, 1))) ?_
  refine And.intro (k_icmp_le (pc := 47) (by decide +kernel : decode cX5_holds 47 = .ok (.if_icmp .le 5, 3)) (by decide)) ?_
  refine And.intro (k_iconst (pc := 50) (by decide +kernel : decode cX5_holds 50 = .ok (.iconst 0, 1)) (by decide)) ?_
  refine And.intro (k_zreturn (pc := 51) rfl (by decide +kernel : decode cX5_holds 51 = .ok (.ireturn, 1))) ?_
  refine And.intro (k_iinc (pc := 52) (by decide +kernel : decode cX5_holds 52 = .ok (.iinc 5 1, 3)) (by decide)) ?_
  refine And.intro (k_goto (pc := 55) (by decide +kernel : decode cX5_holds 55 = .ok (.goto (-52), 3)) (by decide)) ?_
  refine And.intro (k_iconst (pc := 58) (by decide +kernel : decode cX5_holds 58 = .ok (.iconst 1, 1)) (by decide)) ?_
  refine And.intro (k_zreturn (pc := 59) rfl (by decide +kernel : decode cX5_holds 59 = .ok (.ireturn, 1))) ?_
  exact trivial
theorem cdX5_holds : Cond.code yX5_holds cX5_holds 6 (some .boolean) ∈ zWs := zWs_in 692 (by decide +kernel) rfl
noncomputable def pgX3_offerCorner : zPg := [(0, o_al 1), (1, o_il 2), (2, o_ic (0)), (3, o_vr2 yX5_part 5 3), (6, o_al 1), (7, o_il 3), (8, o_ic (1)), (9, o_vr2 yX5_part 5 3), (12, o_imul), (13, o_al 1), (14, o_il 3), (15, o_ic (0)), (16, o_vr2 yX5_part 5 3), (19, o_al 1), (20, o_il 2), (21, o_ic (1)), (22, o_vr2 yX5_part 5 3), (25, o_imul), (26, o_isub), (27, o_is 4), (29, o_al 1), (30, o_il 2), (31, o_ic (2)), (32, o_vr2 yX5_part 5 3), (35, o_al 1), (36, o_il 3), (37, o_ic (1)), (38, o_vr2 yX5_part 5 3), (41, o_imul), (42, o_al 1), (43, o_il 3), (44, o_ic (2)), (45, o_vr2 yX5_part 5 3), (48, o_al 1), (49, o_il 2), (50, o_ic (1)), (51, o_vr2 yX5_part 5 3), (54, o_imul), (55, o_isub), (56, o_is 5), (58, o_al 1), (59, o_il 2), (60, o_ic (0)), (61, o_vr2 yX5_part 5 3), (64, o_al 1), (65, o_il 3), (66, o_ic (2)), (67, o_vr2 yX5_part 5 3), (70, o_imul), (71, o_al 1), (72, o_il 3), (73, o_ic (0)), (74, o_vr2 yX5_part 5 3), (77, o_al 1), (78, o_il 2), (79, o_ic (2)), (80, o_vr2 yX5_part 5 3), (83, o_imul), (84, o_isub), (85, o_is 6), (87, o_il 4), (89, o_if_ge 96), (92, o_ic (-1)), (93, o_go 97), (96, o_ic (1)), (97, o_is 7), (99, o_il 4), (101, o_if_eq 153), (104, o_al 1), (105, o_il 7), (107, o_il 5), (109, o_imul), (110, o_il 7), (112, o_il 6), (114, o_imul), (115, o_il 7), (117, o_il 4), (119, o_imul), (120, o_ic (-1)), (121, o_vr2 yX5_holds 5 5), (124, o_if_eq 153), (127, o_al 0), (128, o_al 0), (129, o_gI 3 0), (132, o_i2l), (133, o_il 5), (135, o_i2l), (136, o_lmul), (137, o_al 0), (138, o_gI 3 1), (141, o_i2l), (142, o_il 6), (144, o_i2l), (145, o_lmul), (146, o_ladd), (147, o_il 4), (149, o_i2l), (150, o_vv yX3_offer 3 3), (153, o_vr)]
set_option maxRecDepth 20000 in
theorem pkX3_offerCorner {G : zG} (hG : zGok G) (Q : zRt) : zPOK G (zRm 4) RX3 cX3_offerCorner 8 none (zF G Q 0 0) 0 0 (zCalls G 4) Q pgX3_offerCorner := by
  refine And.intro (k_aload_n (pc := 0) (by decide +kernel : decode cX3_offerCorner 0 = .ok (.aload_n 1, 1)) rfl) ?_
  refine And.intro (k_iload_n (pc := 1) (by decide +kernel : decode cX3_offerCorner 1 = .ok (.iload_n 2, 1)) rfl) ?_
  refine And.intro (k_iconst (pc := 2) (by decide +kernel : decode cX3_offerCorner 2 = .ok (.iconst 0, 1)) (by decide)) ?_
  refine And.intro (k_crV (n := 2) (pc := 3) hG (zRoom_self 4) (tag := 5) rfl ini_X5 im_X5_part se_X5_part mk_X3_54 dy_X5_part (by decide +kernel : decode cX3_offerCorner 3 = .ok (.invokevirtual 54, 3))) ?_
  refine And.intro (k_aload_n (pc := 6) (by decide +kernel : decode cX3_offerCorner 6 = .ok (.aload_n 1, 1)) rfl) ?_
  refine And.intro (k_iload_n (pc := 7) (by decide +kernel : decode cX3_offerCorner 7 = .ok (.iload_n 3, 1)) rfl) ?_
  refine And.intro (k_iconst (pc := 8) (by decide +kernel : decode cX3_offerCorner 8 = .ok (.iconst 1, 1)) (by decide)) ?_
  refine And.intro (k_crV (n := 2) (pc := 9) hG (zRoom_self 4) (tag := 5) rfl ini_X5 im_X5_part se_X5_part mk_X3_54 dy_X5_part (by decide +kernel : decode cX3_offerCorner 9 = .ok (.invokevirtual 54, 3))) ?_
  refine And.intro (k_imul (pc := 12) (by decide +kernel : decode cX3_offerCorner 12 = .ok (.imul, 1))) ?_
  refine And.intro (k_aload_n (pc := 13) (by decide +kernel : decode cX3_offerCorner 13 = .ok (.aload_n 1, 1)) rfl) ?_
  refine And.intro (k_iload_n (pc := 14) (by decide +kernel : decode cX3_offerCorner 14 = .ok (.iload_n 3, 1)) rfl) ?_
  refine And.intro (k_iconst (pc := 15) (by decide +kernel : decode cX3_offerCorner 15 = .ok (.iconst 0, 1)) (by decide)) ?_
  refine And.intro (k_crV (n := 2) (pc := 16) hG (zRoom_self 4) (tag := 5) rfl ini_X5 im_X5_part se_X5_part mk_X3_54 dy_X5_part (by decide +kernel : decode cX3_offerCorner 16 = .ok (.invokevirtual 54, 3))) ?_
  refine And.intro (k_aload_n (pc := 19) (by decide +kernel : decode cX3_offerCorner 19 = .ok (.aload_n 1, 1)) rfl) ?_
  refine And.intro (k_iload_n (pc := 20) (by decide +kernel : decode cX3_offerCorner 20 = .ok (.iload_n 2, 1)) rfl) ?_
  refine And.intro (k_iconst (pc := 21) (by decide +kernel : decode cX3_offerCorner 21 = .ok (.iconst 1, 1)) (by decide)) ?_
  refine And.intro (k_crV (n := 2) (pc := 22) hG (zRoom_self 4) (tag := 5) rfl ini_X5 im_X5_part se_X5_part mk_X3_54 dy_X5_part (by decide +kernel : decode cX3_offerCorner 22 = .ok (.invokevirtual 54, 3))) ?_
  refine And.intro (k_imul (pc := 25) (by decide +kernel : decode cX3_offerCorner 25 = .ok (.imul, 1))) ?_
  refine And.intro (k_isub (pc := 26) (by decide +kernel : decode cX3_offerCorner 26 = .ok (.isub, 1))) ?_
  refine And.intro (k_istore (pc := 27) (by decide +kernel : decode cX3_offerCorner 27 = .ok (.istore 4, 2))) ?_
  refine And.intro (k_aload_n (pc := 29) (by decide +kernel : decode cX3_offerCorner 29 = .ok (.aload_n 1, 1)) rfl) ?_
  refine And.intro (k_iload_n (pc := 30) (by decide +kernel : decode cX3_offerCorner 30 = .ok (.iload_n 2, 1)) rfl) ?_
  refine And.intro (k_iconst (pc := 31) (by decide +kernel : decode cX3_offerCorner 31 = .ok (.iconst 2, 1)) (by decide)) ?_
  refine And.intro (k_crV (n := 2) (pc := 32) hG (zRoom_self 4) (tag := 5) rfl ini_X5 im_X5_part se_X5_part mk_X3_54 dy_X5_part (by decide +kernel : decode cX3_offerCorner 32 = .ok (.invokevirtual 54, 3))) ?_
  refine And.intro (k_aload_n (pc := 35) (by decide +kernel : decode cX3_offerCorner 35 = .ok (.aload_n 1, 1)) rfl) ?_
  refine And.intro (k_iload_n (pc := 36) (by decide +kernel : decode cX3_offerCorner 36 = .ok (.iload_n 3, 1)) rfl) ?_
  refine And.intro (k_iconst (pc := 37) (by decide +kernel : decode cX3_offerCorner 37 = .ok (.iconst 1, 1)) (by decide)) ?_
  refine And.intro (k_crV (n := 2) (pc := 38) hG (zRoom_self 4) (tag := 5) rfl ini_X5 im_X5_part se_X5_part mk_X3_54 dy_X5_part (by decide +kernel : decode cX3_offerCorner 38 = .ok (.invokevirtual 54, 3))) ?_
  refine And.intro (k_imul (pc := 41) (by decide +kernel : decode cX3_offerCorner 41 = .ok (.imul, 1))) ?_
  refine And.intro (k_aload_n (pc := 42) (by decide +kernel : decode cX3_offerCorner 42 = .ok (.aload_n 1, 1)) rfl) ?_
  refine And.intro (k_iload_n (pc := 43) (by decide +kernel : decode cX3_offerCorner 43 = .ok (.iload_n 3, 1)) rfl) ?_
  refine And.intro (k_iconst (pc := 44) (by decide +kernel : decode cX3_offerCorner 44 = .ok (.iconst 2, 1)) (by decide)) ?_
  refine And.intro (k_crV (n := 2) (pc := 45) hG (zRoom_self 4) (tag := 5) rfl ini_X5 im_X5_part se_X5_part mk_X3_54 dy_X5_part (by decide +kernel : decode cX3_offerCorner 45 = .ok (.invokevirtual 54, 3))) ?_
  refine And.intro (k_aload_n (pc := 48) (by decide +kernel : decode cX3_offerCorner 48 = .ok (.aload_n 1, 1)) rfl) ?_
  refine And.intro (k_iload_n (pc := 49) (by decide +kernel : decode cX3_offerCorner 49 = .ok (.iload_n 2, 1)) rfl) ?_
  refine And.intro (k_iconst (pc := 50) (by decide +kernel : decode cX3_offerCorner 50 = .ok (.iconst 1, 1)) (by decide)) ?_
  refine And.intro (k_crV (n := 2) (pc := 51) hG (zRoom_self 4) (tag := 5) rfl ini_X5 im_X5_part se_X5_part mk_X3_54 dy_X5_part (by decide +kernel : decode cX3_offerCorner 51 = .ok (.invokevirtual 54, 3))) ?_
  refine And.intro (k_imul (pc := 54) (by decide +kernel : decode cX3_offerCorner 54 = .ok (.imul, 1))) ?_
  refine And.intro (k_isub (pc := 55) (by decide +kernel : decode cX3_offerCorner 55 = .ok (.isub, 1))) ?_
  refine And.intro (k_istore (pc := 56) (by decide +kernel : decode cX3_offerCorner 56 = .ok (.istore 5, 2))) ?_
  refine And.intro (k_aload_n (pc := 58) (by decide +kernel : decode cX3_offerCorner 58 = .ok (.aload_n 1, 1)) rfl) ?_
  refine And.intro (k_iload_n (pc := 59) (by decide +kernel : decode cX3_offerCorner 59 = .ok (.iload_n 2, 1)) rfl) ?_
  refine And.intro (k_iconst (pc := 60) (by decide +kernel : decode cX3_offerCorner 60 = .ok (.iconst 0, 1)) (by decide)) ?_
  refine And.intro (k_crV (n := 2) (pc := 61) hG (zRoom_self 4) (tag := 5) rfl ini_X5 im_X5_part se_X5_part mk_X3_54 dy_X5_part (by decide +kernel : decode cX3_offerCorner 61 = .ok (.invokevirtual 54, 3))) ?_
  refine And.intro (k_aload_n (pc := 64) (by decide +kernel : decode cX3_offerCorner 64 = .ok (.aload_n 1, 1)) rfl) ?_
  refine And.intro (k_iload_n (pc := 65) (by decide +kernel : decode cX3_offerCorner 65 = .ok (.iload_n 3, 1)) rfl) ?_
  refine And.intro (k_iconst (pc := 66) (by decide +kernel : decode cX3_offerCorner 66 = .ok (.iconst 2, 1)) (by decide)) ?_
  refine And.intro (k_crV (n := 2) (pc := 67) hG (zRoom_self 4) (tag := 5) rfl ini_X5 im_X5_part se_X5_part mk_X3_54 dy_X5_part (by decide +kernel : decode cX3_offerCorner 67 = .ok (.invokevirtual 54, 3))) ?_
  refine And.intro (k_imul (pc := 70) (by decide +kernel : decode cX3_offerCorner 70 = .ok (.imul, 1))) ?_
  refine And.intro (k_aload_n (pc := 71) (by decide +kernel : decode cX3_offerCorner 71 = .ok (.aload_n 1, 1)) rfl) ?_
  refine And.intro (k_iload_n (pc := 72) (by decide +kernel : decode cX3_offerCorner 72 = .ok (.iload_n 3, 1)) rfl) ?_
  refine And.intro (k_iconst (pc := 73) (by decide +kernel : decode cX3_offerCorner 73 = .ok (.iconst 0, 1)) (by decide)) ?_
  refine And.intro (k_crV (n := 2) (pc := 74) hG (zRoom_self 4) (tag := 5) rfl ini_X5 im_X5_part se_X5_part mk_X3_54 dy_X5_part (by decide +kernel : decode cX3_offerCorner 74 = .ok (.invokevirtual 54, 3))) ?_
  refine And.intro (k_aload_n (pc := 77) (by decide +kernel : decode cX3_offerCorner 77 = .ok (.aload_n 1, 1)) rfl) ?_
  refine And.intro (k_iload_n (pc := 78) (by decide +kernel : decode cX3_offerCorner 78 = .ok (.iload_n 2, 1)) rfl) ?_
  refine And.intro (k_iconst (pc := 79) (by decide +kernel : decode cX3_offerCorner 79 = .ok (.iconst 2, 1)) (by decide)) ?_
  refine And.intro (k_crV (n := 2) (pc := 80) hG (zRoom_self 4) (tag := 5) rfl ini_X5 im_X5_part se_X5_part mk_X3_54 dy_X5_part (by decide +kernel : decode cX3_offerCorner 80 = .ok (.invokevirtual 54, 3))) ?_
  refine And.intro (k_imul (pc := 83) (by decide +kernel : decode cX3_offerCorner 83 = .ok (.imul, 1))) ?_
  refine And.intro (k_isub (pc := 84) (by decide +kernel : decode cX3_offerCorner 84 = .ok (.isub, 1))) ?_
  refine And.intro (k_istore (pc := 85) (by decide +kernel : decode cX3_offerCorner 85 = .ok (.istore 6, 2))) ?_
  refine And.intro (k_iload (pc := 87) (by decide +kernel : decode cX3_offerCorner 87 = .ok (.iload 4, 2))) ?_
  refine And.intro (k_if_ge (pc := 89) (by decide +kernel : decode cX3_offerCorner 89 = .ok (.ifCond .ge 7, 3)) (by decide)) ?_
  refine And.intro (k_iconst (pc := 92) (by decide +kernel : decode cX3_offerCorner 92 = .ok (.iconst (-1), 1)) (by decide)) ?_
  refine And.intro (k_goto (pc := 93) (by decide +kernel : decode cX3_offerCorner 93 = .ok (.goto 4, 3)) (by decide)) ?_
  refine And.intro (k_iconst (pc := 96) (by decide +kernel : decode cX3_offerCorner 96 = .ok (.iconst 1, 1)) (by decide)) ?_
  refine And.intro (k_istore (pc := 97) (by decide +kernel : decode cX3_offerCorner 97 = .ok (.istore 7, 2))) ?_
  refine And.intro (k_iload (pc := 99) (by decide +kernel : decode cX3_offerCorner 99 = .ok (.iload 4, 2))) ?_
  refine And.intro (k_if_eq (pc := 101) (by decide +kernel : decode cX3_offerCorner 101 = .ok (.ifCond .eq 52, 3)) (by decide)) ?_
  refine And.intro (k_aload_n (pc := 104) (by decide +kernel : decode cX3_offerCorner 104 = .ok (.aload_n 1, 1)) rfl) ?_
  refine And.intro (k_iload (pc := 105) (by decide +kernel : decode cX3_offerCorner 105 = .ok (.iload 7, 2))) ?_
  refine And.intro (k_iload (pc := 107) (by decide +kernel : decode cX3_offerCorner 107 = .ok (.iload 5, 2))) ?_
  refine And.intro (k_imul (pc := 109) (by decide +kernel : decode cX3_offerCorner 109 = .ok (.imul, 1))) ?_
  refine And.intro (k_iload (pc := 110) (by decide +kernel : decode cX3_offerCorner 110 = .ok (.iload 7, 2))) ?_
  refine And.intro (k_iload (pc := 112) (by decide +kernel : decode cX3_offerCorner 112 = .ok (.iload 6, 2))) ?_
  refine And.intro (k_imul (pc := 114) (by decide +kernel : decode cX3_offerCorner 114 = .ok (.imul, 1))) ?_
  refine And.intro (k_iload (pc := 115) (by decide +kernel : decode cX3_offerCorner 115 = .ok (.iload 7, 2))) ?_
  refine And.intro (k_iload (pc := 117) (by decide +kernel : decode cX3_offerCorner 117 = .ok (.iload 4, 2))) ?_
  refine And.intro (k_imul (pc := 119) (by decide +kernel : decode cX3_offerCorner 119 = .ok (.imul, 1))) ?_
  refine And.intro (k_iconst (pc := 120) (by decide +kernel : decode cX3_offerCorner 120 = .ok (.iconst (-1), 1)) (by decide)) ?_
  refine And.intro (k_crV (n := 4) (pc := 121) hG (zRoom_self 4) (tag := 5) rfl ini_X5 im_X5_holds se_X5_holds mk_X3_58 dy_X5_holds (by decide +kernel : decode cX3_offerCorner 121 = .ok (.invokevirtual 58, 3))) ?_
  refine And.intro (k_if_eq (pc := 124) (by decide +kernel : decode cX3_offerCorner 124 = .ok (.ifCond .eq 29, 3)) (by decide)) ?_
  refine And.intro (k_aload_n (pc := 127) (by decide +kernel : decode cX3_offerCorner 127 = .ok (.aload_n 0, 1)) rfl) ?_
  refine And.intro (k_aload_n (pc := 128) (by decide +kernel : decode cX3_offerCorner 128 = .ok (.aload_n 0, 1)) rfl) ?_
  refine And.intro (k_gI (pc := 129) rfl (by decide) rfl zin3 lk_X3_9 (by decide +kernel : decode cX3_offerCorner 129 = .ok (.getfield 9, 3))) ?_
  refine And.intro (k_i2l (pc := 132) (by decide +kernel : decode cX3_offerCorner 132 = .ok (.i2l, 1))) ?_
  refine And.intro (k_iload (pc := 133) (by decide +kernel : decode cX3_offerCorner 133 = .ok (.iload 5, 2))) ?_
  refine And.intro (k_i2l (pc := 135) (by decide +kernel : decode cX3_offerCorner 135 = .ok (.i2l, 1))) ?_
  refine And.intro (k_lmul (pc := 136) (by decide +kernel : decode cX3_offerCorner 136 = .ok (.lmul, 1))) ?_
  refine And.intro (k_aload_n (pc := 137) (by decide +kernel : decode cX3_offerCorner 137 = .ok (.aload_n 0, 1)) rfl) ?_
  refine And.intro (k_gI (pc := 138) rfl (by decide) rfl zin3 lk_X3_15 (by decide +kernel : decode cX3_offerCorner 138 = .ok (.getfield 15, 3))) ?_
  refine And.intro (k_i2l (pc := 141) (by decide +kernel : decode cX3_offerCorner 141 = .ok (.i2l, 1))) ?_
  refine And.intro (k_iload (pc := 142) (by decide +kernel : decode cX3_offerCorner 142 = .ok (.iload 6, 2))) ?_
  refine And.intro (k_i2l (pc := 144) (by decide +kernel : decode cX3_offerCorner 144 = .ok (.i2l, 1))) ?_
  refine And.intro (k_lmul (pc := 145) (by decide +kernel : decode cX3_offerCorner 145 = .ok (.lmul, 1))) ?_
  refine And.intro (k_ladd (pc := 146) (by decide +kernel : decode cX3_offerCorner 146 = .ok (.ladd, 1))) ?_
  refine And.intro (k_iload (pc := 147) (by decide +kernel : decode cX3_offerCorner 147 = .ok (.iload 4, 2))) ?_
  refine And.intro (k_i2l (pc := 149) (by decide +kernel : decode cX3_offerCorner 149 = .ok (.i2l, 1))) ?_
  refine And.intro (k_cvV (n := 2) (pc := 150) hG (zRoom_self 4) (tag := 3) rfl ini_X3 im_X3_offer se_X3_offer mk_X3_62 dy_X3_offer (by decide +kernel : decode cX3_offerCorner 150 = .ok (.invokevirtual 62, 3))) ?_
  refine And.intro (k_return (pc := 153) rfl (by decide +kernel : decode cX3_offerCorner 153 = .ok (.return_, 1))) ?_
  exact trivial
theorem cdX3_offerCorner : Cond.code yX3_offerCorner cX3_offerCorner 8 none ∈ zWs := zWs_in 894 (by decide +kernel) rfl
noncomputable def pgX3_overCorners : zPg := [(0, o_ic (0)), (1, o_is 2), (2, o_il 2), (3, o_al 1), (4, o_vr2 yX5_allRows 5 1), (7, o_ic_ge 36), (10, o_ic (0)), (11, o_is 3), (12, o_il 3), (13, o_il 2), (14, o_ic_ge 30), (17, o_al 0), (18, o_al 1), (19, o_il 2), (20, o_il 3), (21, o_vv yX3_offerCorner 3 4), (24, o_inc 3 (1)), (27, o_go 12), (30, o_inc 2 (1)), (33, o_go 2), (36, o_vr)]
set_option maxRecDepth 20000 in
theorem pkX3_overCorners {G : zG} (hG : zGok G) (Q : zRt) : zPOK G (zRm 5) RX3 cX3_overCorners 4 none (zF G Q 0 0) 0 0 (zCalls G 5) Q pgX3_overCorners := by
  refine And.intro (k_iconst (pc := 0) (by decide +kernel : decode cX3_overCorners 0 = .ok (.iconst 0, 1)) (by decide)) ?_
  refine And.intro (k_istore_n (pc := 1) (by decide +kernel : decode cX3_overCorners 1 = .ok (.istore_n 2, 1)) rfl) ?_
  refine And.intro (k_iload_n (pc := 2) (by decide +kernel : decode cX3_overCorners 2 = .ok (.iload_n 2, 1)) rfl) ?_
  refine And.intro (k_aload_n (pc := 3) (by decide +kernel : decode cX3_overCorners 3 = .ok (.aload_n 1, 1)) rfl) ?_
  refine And.intro (k_crV (n := 0) (pc := 4) hG (zRoom_self 5) (tag := 5) rfl ini_X5 im_X5_allRows se_X5_allRows mk_X3_44 dy_X5_allRows (by decide +kernel : decode cX3_overCorners 4 = .ok (.invokevirtual 44, 3))) ?_
  refine And.intro (k_icmp_ge (pc := 7) (by decide +kernel : decode cX3_overCorners 7 = .ok (.if_icmp .ge 29, 3)) (by decide)) ?_
  refine And.intro (k_iconst (pc := 10) (by decide +kernel : decode cX3_overCorners 10 = .ok (.iconst 0, 1)) (by decide)) ?_
  refine And.intro (k_istore_n (pc := 11) (by decide +kernel : decode cX3_overCorners 11 = .ok (.istore_n 3, 1)) rfl) ?_
  refine And.intro (k_iload_n (pc := 12) (by decide +kernel : decode cX3_overCorners 12 = .ok (.iload_n 3, 1)) rfl) ?_
  refine And.intro (k_iload_n (pc := 13) (by decide +kernel : decode cX3_overCorners 13 = .ok (.iload_n 2, 1)) rfl) ?_
  refine And.intro (k_icmp_ge (pc := 14) (by decide +kernel : decode cX3_overCorners 14 = .ok (.if_icmp .ge 16, 3)) (by decide)) ?_
  refine And.intro (k_aload_n (pc := 17) (by decide +kernel : decode cX3_overCorners 17 = .ok (.aload_n 0, 1)) rfl) ?_
  refine And.intro (k_aload_n (pc := 18) (by decide +kernel : decode cX3_overCorners 18 = .ok (.aload_n 1, 1)) rfl) ?_
  refine And.intro (k_iload_n (pc := 19) (by decide +kernel : decode cX3_overCorners 19 = .ok (.iload_n 2, 1)) rfl) ?_
  refine And.intro (k_iload_n (pc := 20) (by decide +kernel : decode cX3_overCorners 20 = .ok (.iload_n 3, 1)) rfl) ?_
  refine And.intro (k_cvV (n := 3) (pc := 21) hG (zRoom_self 5) (tag := 3) rfl ini_X3 im_X3_offerCorner se_X3_offerCorner mk_X3_50 dy_X3_offerCorner (by decide +kernel : decode cX3_overCorners 21 = .ok (.invokevirtual 50, 3))) ?_
  refine And.intro (k_iinc (pc := 24) (by decide +kernel : decode cX3_overCorners 24 = .ok (.iinc 3 1, 3)) (by decide)) ?_
  refine And.intro (k_goto (pc := 27) (by decide +kernel : decode cX3_overCorners 27 = .ok (.goto (-15), 3)) (by decide)) ?_
  refine And.intro (k_iinc (pc := 30) (by decide +kernel : decode cX3_overCorners 30 = .ok (.iinc 2 1, 3)) (by decide)) ?_
  refine And.intro (k_goto (pc := 33) (by decide +kernel : decode cX3_overCorners 33 = .ok (.goto (-31), 3)) (by decide)) ?_
  refine And.intro (k_return (pc := 36) rfl (by decide +kernel : decode cX3_overCorners 36 = .ok (.return_, 1))) ?_
  exact trivial
theorem cdX3_overCorners : Cond.code yX3_overCorners cX3_overCorners 4 none ∈ zWs := zWs_in 889 (by decide +kernel) rfl
noncomputable def pgX3_offerEnd : zPg := [(0, o_il 2), (1, o_if_ne 12), (4, o_al 0), (5, o_gI 3 0), (8, o_i2l), (9, o_go 17), (12, o_al 0), (13, o_gI 3 1), (16, o_i2l), (17, o_ls 4), (19, o_il 2), (20, o_if_ne 31), (23, o_al 0), (24, o_gI 3 1), (27, o_i2l), (28, o_go 36), (31, o_al 0), (32, o_gI 3 0), (35, o_i2l), (36, o_ls 6), (38, o_al 0), (39, o_ll 4), (41, o_il 3), (42, o_i2l), (43, o_lmul), (44, o_al 1), (45, o_gJ 6 1), (48, o_lmul), (49, o_ll 6), (51, o_al 1), (52, o_gJ 6 0), (55, o_lmul), (56, o_ladd), (57, o_al 1), (58, o_gJ 6 1), (61, o_vv yX3_offer 3 3), (64, o_vr)]
set_option maxRecDepth 20000 in
theorem pkX3_offerEnd {G : zG} (hG : zGok G) (Q : zRt) : zPOK G (zRm 4) RX3 cX3_offerEnd 8 none (zF G Q 0 0) 0 0 (zCalls G 4) Q pgX3_offerEnd := by
  refine And.intro (k_iload_n (pc := 0) (by decide +kernel : decode cX3_offerEnd 0 = .ok (.iload_n 2, 1)) rfl) ?_
  refine And.intro (k_if_ne (pc := 1) (by decide +kernel : decode cX3_offerEnd 1 = .ok (.ifCond .ne 11, 3)) (by decide)) ?_
  refine And.intro (k_aload_n (pc := 4) (by decide +kernel : decode cX3_offerEnd 4 = .ok (.aload_n 0, 1)) rfl) ?_
  refine And.intro (k_gI (pc := 5) rfl (by decide) rfl zin3 lk_X3_9 (by decide +kernel : decode cX3_offerEnd 5 = .ok (.getfield 9, 3))) ?_
  refine And.intro (k_i2l (pc := 8) (by decide +kernel : decode cX3_offerEnd 8 = .ok (.i2l, 1))) ?_
  refine And.intro (k_goto (pc := 9) (by decide +kernel : decode cX3_offerEnd 9 = .ok (.goto 8, 3)) (by decide)) ?_
  refine And.intro (k_aload_n (pc := 12) (by decide +kernel : decode cX3_offerEnd 12 = .ok (.aload_n 0, 1)) rfl) ?_
  refine And.intro (k_gI (pc := 13) rfl (by decide) rfl zin3 lk_X3_15 (by decide +kernel : decode cX3_offerEnd 13 = .ok (.getfield 15, 3))) ?_
  refine And.intro (k_i2l (pc := 16) (by decide +kernel : decode cX3_offerEnd 16 = .ok (.i2l, 1))) ?_
  refine And.intro (k_lstore (pc := 17) (by decide +kernel : decode cX3_offerEnd 17 = .ok (.lstore 4, 2))) ?_
  refine And.intro (k_iload_n (pc := 19) (by decide +kernel : decode cX3_offerEnd 19 = .ok (.iload_n 2, 1)) rfl) ?_
  refine And.intro (k_if_ne (pc := 20) (by decide +kernel : decode cX3_offerEnd 20 = .ok (.ifCond .ne 11, 3)) (by decide)) ?_
  refine And.intro (k_aload_n (pc := 23) (by decide +kernel : decode cX3_offerEnd 23 = .ok (.aload_n 0, 1)) rfl) ?_
  refine And.intro (k_gI (pc := 24) rfl (by decide) rfl zin3 lk_X3_15 (by decide +kernel : decode cX3_offerEnd 24 = .ok (.getfield 15, 3))) ?_
  refine And.intro (k_i2l (pc := 27) (by decide +kernel : decode cX3_offerEnd 27 = .ok (.i2l, 1))) ?_
  refine And.intro (k_goto (pc := 28) (by decide +kernel : decode cX3_offerEnd 28 = .ok (.goto 8, 3)) (by decide)) ?_
  refine And.intro (k_aload_n (pc := 31) (by decide +kernel : decode cX3_offerEnd 31 = .ok (.aload_n 0, 1)) rfl) ?_
  refine And.intro (k_gI (pc := 32) rfl (by decide) rfl zin3 lk_X3_9 (by decide +kernel : decode cX3_offerEnd 32 = .ok (.getfield 9, 3))) ?_
  refine And.intro (k_i2l (pc := 35) (by decide +kernel : decode cX3_offerEnd 35 = .ok (.i2l, 1))) ?_
  refine And.intro (k_lstore (pc := 36) (by decide +kernel : decode cX3_offerEnd 36 = .ok (.lstore 6, 2))) ?_
  refine And.intro (k_aload_n (pc := 38) (by decide +kernel : decode cX3_offerEnd 38 = .ok (.aload_n 0, 1)) rfl) ?_
  refine And.intro (k_lload (pc := 39) (by decide +kernel : decode cX3_offerEnd 39 = .ok (.lload 4, 2))) ?_
  refine And.intro (k_iload_n (pc := 41) (by decide +kernel : decode cX3_offerEnd 41 = .ok (.iload_n 3, 1)) rfl) ?_
  refine And.intro (k_i2l (pc := 42) (by decide +kernel : decode cX3_offerEnd 42 = .ok (.i2l, 1))) ?_
  refine And.intro (k_lmul (pc := 43) (by decide +kernel : decode cX3_offerEnd 43 = .ok (.lmul, 1))) ?_
  refine And.intro (k_aload_n (pc := 44) (by decide +kernel : decode cX3_offerEnd 44 = .ok (.aload_n 1, 1)) rfl) ?_
  refine And.intro (k_gJ (pc := 45) rfl (by decide) rfl zin6 lk_X3_86 (by decide +kernel : decode cX3_offerEnd 45 = .ok (.getfield 86, 3))) ?_
  refine And.intro (k_lmul (pc := 48) (by decide +kernel : decode cX3_offerEnd 48 = .ok (.lmul, 1))) ?_
  refine And.intro (k_lload (pc := 49) (by decide +kernel : decode cX3_offerEnd 49 = .ok (.lload 6, 2))) ?_
  refine And.intro (k_aload_n (pc := 51) (by decide +kernel : decode cX3_offerEnd 51 = .ok (.aload_n 1, 1)) rfl) ?_
  refine And.intro (k_gJ (pc := 52) rfl (by decide) rfl zin6 lk_X3_89 (by decide +kernel : decode cX3_offerEnd 52 = .ok (.getfield 89, 3))) ?_
  refine And.intro (k_lmul (pc := 55) (by decide +kernel : decode cX3_offerEnd 55 = .ok (.lmul, 1))) ?_
  refine And.intro (k_ladd (pc := 56) (by decide +kernel : decode cX3_offerEnd 56 = .ok (.ladd, 1))) ?_
  refine And.intro (k_aload_n (pc := 57) (by decide +kernel : decode cX3_offerEnd 57 = .ok (.aload_n 1, 1)) rfl) ?_
  refine And.intro (k_gJ (pc := 58) rfl (by decide) rfl zin6 lk_X3_86 (by decide +kernel : decode cX3_offerEnd 58 = .ok (.getfield 86, 3))) ?_
  refine And.intro (k_cvV (n := 2) (pc := 61) hG (zRoom_self 4) (tag := 3) rfl ini_X3 im_X3_offer se_X3_offer mk_X3_62 dy_X3_offer (by decide +kernel : decode cX3_offerEnd 61 = .ok (.invokevirtual 62, 3))) ?_
  refine And.intro (k_return (pc := 64) rfl (by decide +kernel : decode cX3_offerEnd 64 = .ok (.return_, 1))) ?_
  exact trivial
theorem cdX3_offerEnd : Cond.code yX3_offerEnd cX3_offerEnd 8 none ∈ zWs := zWs_in 917 (by decide +kernel) rfl
noncomputable def pgX3_overSlices : zPg := [(0, o_ic (0)), (1, o_is 3), (2, o_il 3), (3, o_ic (7)), (5, o_ic_ge 53), (8, o_al 1), (9, o_ic (0)), (10, o_il 2), (11, o_il 3), (12, o_vr2 yX7_at 7 4), (15, o_as 4), (17, o_al 4), (19, o_gI 9 0), (22, o_if_ne 47), (25, o_al 0), (26, o_al 4), (28, o_gR 9 1), (31, o_il 2), (32, o_il 3), (33, o_vv yX3_offerEnd 3 4), (36, o_al 0), (37, o_al 4), (39, o_gR 9 2), (42, o_il 2), (43, o_il 3), (44, o_vv yX3_offerEnd 3 4), (47, o_inc 3 (1)), (50, o_go 2), (53, o_vr)]
set_option maxRecDepth 20000 in
theorem pkX3_overSlices {G : zG} (hG : zGok G) (Q : zRt) : zPOK G (zRm 5) RX3 cX3_overSlices 5 none (zF G Q 0 0) 0 0 (zCalls G 5) Q pgX3_overSlices := by
  refine And.intro (k_iconst (pc := 0) (by decide +kernel : decode cX3_overSlices 0 = .ok (.iconst 0, 1)) (by decide)) ?_
  refine And.intro (k_istore_n (pc := 1) (by decide +kernel : decode cX3_overSlices 1 = .ok (.istore_n 3, 1)) rfl) ?_
  refine And.intro (k_iload_n (pc := 2) (by decide +kernel : decode cX3_overSlices 2 = .ok (.iload_n 3, 1)) rfl) ?_
  refine And.intro (k_bipush (pc := 3) (by decide +kernel : decode cX3_overSlices 3 = .ok (.bipush 7, 2)) (by decide)) ?_
  refine And.intro (k_icmp_ge (pc := 5) (by decide +kernel : decode cX3_overSlices 5 = .ok (.if_icmp .ge 48, 3)) (by decide)) ?_
  refine And.intro (k_aload_n (pc := 8) (by decide +kernel : decode cX3_overSlices 8 = .ok (.aload_n 1, 1)) rfl) ?_
  refine And.intro (k_iconst (pc := 9) (by decide +kernel : decode cX3_overSlices 9 = .ok (.iconst 0, 1)) (by decide)) ?_
  refine And.intro (k_iload_n (pc := 10) (by decide +kernel : decode cX3_overSlices 10 = .ok (.iload_n 2, 1)) rfl) ?_
  refine And.intro (k_iload_n (pc := 11) (by decide +kernel : decode cX3_overSlices 11 = .ok (.iload_n 3, 1)) rfl) ?_
  refine And.intro (k_crV (n := 3) (pc := 12) hG (zRoom_self 5) (tag := 7) rfl ini_X7 im_X7_at se_X7_at mk_X3_65 dy_X7_at (by decide +kernel : decode cX3_overSlices 12 = .ok (.invokevirtual 65, 3))) ?_
  refine And.intro (k_astore (pc := 15) (by decide +kernel : decode cX3_overSlices 15 = .ok (.astore 4, 2))) ?_
  refine And.intro (k_aload (pc := 17) (by decide +kernel : decode cX3_overSlices 17 = .ok (.aload 4, 2))) ?_
  refine And.intro (k_gZ (pc := 19) rfl (by decide) rfl zin9 lk_X3_71 (by decide +kernel : decode cX3_overSlices 19 = .ok (.getfield 71, 3))) ?_
  refine And.intro (k_if_ne (pc := 22) (by decide +kernel : decode cX3_overSlices 22 = .ok (.ifCond .ne 25, 3)) (by decide)) ?_
  refine And.intro (k_aload_n (pc := 25) (by decide +kernel : decode cX3_overSlices 25 = .ok (.aload_n 0, 1)) rfl) ?_
  refine And.intro (k_aload (pc := 26) (by decide +kernel : decode cX3_overSlices 26 = .ok (.aload 4, 2))) ?_
  refine And.intro (k_gR (pc := 28) rfl (by decide) rfl zin9 lk_X3_76 (by decide +kernel : decode cX3_overSlices 28 = .ok (.getfield 76, 3))) ?_
  refine And.intro (k_iload_n (pc := 31) (by decide +kernel : decode cX3_overSlices 31 = .ok (.iload_n 2, 1)) rfl) ?_
  refine And.intro (k_iload_n (pc := 32) (by decide +kernel : decode cX3_overSlices 32 = .ok (.iload_n 3, 1)) rfl) ?_
  refine And.intro (k_cvV (n := 3) (pc := 33) hG (zRoom_self 5) (tag := 3) rfl ini_X3 im_X3_offerEnd se_X3_offerEnd mk_X3_79 dy_X3_offerEnd (by decide +kernel : decode cX3_overSlices 33 = .ok (.invokevirtual 79, 3))) ?_
  refine And.intro (k_aload_n (pc := 36) (by decide +kernel : decode cX3_overSlices 36 = .ok (.aload_n 0, 1)) rfl) ?_
  refine And.intro (k_aload (pc := 37) (by decide +kernel : decode cX3_overSlices 37 = .ok (.aload 4, 2))) ?_
  refine And.intro (k_gR (pc := 39) rfl (by decide) rfl zin9 lk_X3_83 (by decide +kernel : decode cX3_overSlices 39 = .ok (.getfield 83, 3))) ?_
  refine And.intro (k_iload_n (pc := 42) (by decide +kernel : decode cX3_overSlices 42 = .ok (.iload_n 2, 1)) rfl) ?_
  refine And.intro (k_iload_n (pc := 43) (by decide +kernel : decode cX3_overSlices 43 = .ok (.iload_n 3, 1)) rfl) ?_
  refine And.intro (k_cvV (n := 3) (pc := 44) hG (zRoom_self 5) (tag := 3) rfl ini_X3 im_X3_offerEnd se_X3_offerEnd mk_X3_79 dy_X3_offerEnd (by decide +kernel : decode cX3_overSlices 44 = .ok (.invokevirtual 79, 3))) ?_
  refine And.intro (k_iinc (pc := 47) (by decide +kernel : decode cX3_overSlices 47 = .ok (.iinc 3 1, 3)) (by decide)) ?_
  refine And.intro (k_goto (pc := 50) (by decide +kernel : decode cX3_overSlices 50 = .ok (.goto (-48), 3)) (by decide)) ?_
  refine And.intro (k_return (pc := 53) rfl (by decide +kernel : decode cX3_overSlices 53 = .ok (.return_, 1))) ?_
  exact trivial
theorem cdX3_overSlices : Cond.code yX3_overSlices cX3_overSlices 5 none ∈ zWs := zWs_in 912 (by decide +kernel) rfl
noncomputable def pgX3_overPoints : zPg := [(0, o_ic (0)), (1, o_is 2), (2, o_il 2), (3, o_al 1), (4, o_gI 10 0), (7, o_ic_ge 36), (10, o_al 0), (11, o_al 1), (12, o_il 2), (13, o_al 0), (14, o_gI 3 0), (17, o_i2l), (18, o_al 0), (19, o_gI 3 1), (22, o_i2l), (23, o_vr2 yX10_sum 10 4), (26, o_lc 1), (27, o_vv yX3_offer 3 3), (30, o_inc 2 (1)), (33, o_go 2), (36, o_vr)]
set_option maxRecDepth 20000 in
theorem pkX3_overPoints {G : zG} (hG : zGok G) (Q : zRt) : zPOK G (zRm 4) RX3 cX3_overPoints 3 none (zF G Q 0 0) 0 0 (zCalls G 4) Q pgX3_overPoints := by
  refine And.intro (k_iconst (pc := 0) (by decide +kernel : decode cX3_overPoints 0 = .ok (.iconst 0, 1)) (by decide)) ?_
  refine And.intro (k_istore_n (pc := 1) (by decide +kernel : decode cX3_overPoints 1 = .ok (.istore_n 2, 1)) rfl) ?_
  refine And.intro (k_iload_n (pc := 2) (by decide +kernel : decode cX3_overPoints 2 = .ok (.iload_n 2, 1)) rfl) ?_
  refine And.intro (k_aload_n (pc := 3) (by decide +kernel : decode cX3_overPoints 3 = .ok (.aload_n 1, 1)) rfl) ?_
  refine And.intro (k_gI (pc := 4) rfl (by decide) rfl zin10 lk_X3_92 (by decide +kernel : decode cX3_overPoints 4 = .ok (.getfield 92, 3))) ?_
  refine And.intro (k_icmp_ge (pc := 7) (by decide +kernel : decode cX3_overPoints 7 = .ok (.if_icmp .ge 29, 3)) (by decide)) ?_
  refine And.intro (k_aload_n (pc := 10) (by decide +kernel : decode cX3_overPoints 10 = .ok (.aload_n 0, 1)) rfl) ?_
  refine And.intro (k_aload_n (pc := 11) (by decide +kernel : decode cX3_overPoints 11 = .ok (.aload_n 1, 1)) rfl) ?_
  refine And.intro (k_iload_n (pc := 12) (by decide +kernel : decode cX3_overPoints 12 = .ok (.iload_n 2, 1)) rfl) ?_
  refine And.intro (k_aload_n (pc := 13) (by decide +kernel : decode cX3_overPoints 13 = .ok (.aload_n 0, 1)) rfl) ?_
  refine And.intro (k_gI (pc := 14) rfl (by decide) rfl zin3 lk_X3_9 (by decide +kernel : decode cX3_overPoints 14 = .ok (.getfield 9, 3))) ?_
  refine And.intro (k_i2l (pc := 17) (by decide +kernel : decode cX3_overPoints 17 = .ok (.i2l, 1))) ?_
  refine And.intro (k_aload_n (pc := 18) (by decide +kernel : decode cX3_overPoints 18 = .ok (.aload_n 0, 1)) rfl) ?_
  refine And.intro (k_gI (pc := 19) rfl (by decide) rfl zin3 lk_X3_15 (by decide +kernel : decode cX3_overPoints 19 = .ok (.getfield 15, 3))) ?_
  refine And.intro (k_i2l (pc := 22) (by decide +kernel : decode cX3_overPoints 22 = .ok (.i2l, 1))) ?_
  refine And.intro (k_crV (n := 3) (pc := 23) hG (zRoom_self 4) (tag := 10) rfl ini_X10 im_X10_sum se_X10_sum mk_X3_97 dy_X10_sum (by decide +kernel : decode cX3_overPoints 23 = .ok (.invokevirtual 97, 3))) ?_
  refine And.intro (k_lconst (pc := 26) (by decide +kernel : decode cX3_overPoints 26 = .ok (.lconst 1, 1)) (by decide)) ?_
  refine And.intro (k_cvV (n := 2) (pc := 27) hG (zRoom_self 4) (tag := 3) rfl ini_X3 im_X3_offer se_X3_offer mk_X3_62 dy_X3_offer (by decide +kernel : decode cX3_overPoints 27 = .ok (.invokevirtual 62, 3))) ?_
  refine And.intro (k_iinc (pc := 30) (by decide +kernel : decode cX3_overPoints 30 = .ok (.iinc 2 1, 3)) (by decide)) ?_
  refine And.intro (k_goto (pc := 33) (by decide +kernel : decode cX3_overPoints 33 = .ok (.goto (-31), 3)) (by decide)) ?_
  refine And.intro (k_return (pc := 36) rfl (by decide +kernel : decode cX3_overPoints 36 = .ok (.return_, 1))) ?_
  exact trivial
theorem cdX3_overPoints : Cond.code yX3_overPoints cX3_overPoints 3 none ∈ zWs := zWs_in 907 (by decide +kernel) rfl
noncomputable def pgX4_clear : zPg := [(0, o_al 0), (1, o_ic (0)), (2, o_pI 4 0), (5, o_vr)]
set_option maxRecDepth 20000 in
theorem pkX4_clear {G : zG} (hG : zGok G) (Q : zRt) : zPOK G (zRm 0) RX4 cX4_clear 1 none (zF G Q 0 0) 0 0 (zCalls G 0) Q pgX4_clear := by
  refine And.intro (k_aload_n (pc := 0) (by decide +kernel : decode cX4_clear 0 = .ok (.aload_n 0, 1)) rfl) ?_
  refine And.intro (k_iconst (pc := 1) (by decide +kernel : decode cX4_clear 1 = .ok (.iconst 0, 1)) (by decide)) ?_
  refine And.intro (k_pI (pc := 2) rfl (by decide) rfl zin4 lk_X4_9 tyX4_ok nmX4 rfl (by decide +kernel) (by decide +kernel : decode cX4_clear 2 = .ok (.putfield 9, 3))) ?_
  refine And.intro (k_return (pc := 5) rfl (by decide +kernel : decode cX4_clear 5 = .ok (.return_, 1))) ?_
  exact trivial
theorem cdX4_clear : Cond.code yX4_clear cX4_clear 1 none ∈ zWs := zWs_in 669 (by decide +kernel) rfl
noncomputable def pgX4_tell : zPg := [(0, o_al 0), (1, o_gI 4 0), (4, o_if_lt 39), (7, o_al 0), (8, o_gI 4 0), (11, o_al 0), (12, o_gR 4 1), (15, o_len), (16, o_ic_ge 39), (19, o_al 0), (20, o_gR 4 1), (23, o_al 0), (24, o_gI 4 0), (27, o_ll 1), (28, o_yJ), (29, o_al 0), (30, o_dup), (31, o_gI 4 0), (34, o_ic (1)), (35, o_iadd), (36, o_pI 4 0), (39, o_vr)]
set_option maxRecDepth 20000 in
theorem pkX4_tell {G : zG} (hG : zGok G) (Q : zRt) : zPOK G (zRm 0) RX4 cX4_tell 3 none (zF G Q 0 0) 0 0 (zCalls G 0) Q pgX4_tell := by
  refine And.intro (k_aload_n (pc := 0) (by decide +kernel : decode cX4_tell 0 = .ok (.aload_n 0, 1)) rfl) ?_
  refine And.intro (k_gI (pc := 1) rfl (by decide) rfl zin4 lk_X4_9 (by decide +kernel : decode cX4_tell 1 = .ok (.getfield 9, 3))) ?_
  refine And.intro (k_if_lt (pc := 4) (by decide +kernel : decode cX4_tell 4 = .ok (.ifCond .lt 35, 3)) (by decide)) ?_
  refine And.intro (k_aload_n (pc := 7) (by decide +kernel : decode cX4_tell 7 = .ok (.aload_n 0, 1)) rfl) ?_
  refine And.intro (k_gI (pc := 8) rfl (by decide) rfl zin4 lk_X4_9 (by decide +kernel : decode cX4_tell 8 = .ok (.getfield 9, 3))) ?_
  refine And.intro (k_aload_n (pc := 11) (by decide +kernel : decode cX4_tell 11 = .ok (.aload_n 0, 1)) rfl) ?_
  refine And.intro (k_gR (pc := 12) rfl (by decide) rfl zin4 lk_X4_15 (by decide +kernel : decode cX4_tell 12 = .ok (.getfield 15, 3))) ?_
  refine And.intro (k_alen (pc := 15) (by decide +kernel : decode cX4_tell 15 = .ok (.arraylength, 1))) ?_
  refine And.intro (k_icmp_ge (pc := 16) (by decide +kernel : decode cX4_tell 16 = .ok (.if_icmp .ge 23, 3)) (by decide)) ?_
  refine And.intro (k_aload_n (pc := 19) (by decide +kernel : decode cX4_tell 19 = .ok (.aload_n 0, 1)) rfl) ?_
  refine And.intro (k_gR (pc := 20) rfl (by decide) rfl zin4 lk_X4_15 (by decide +kernel : decode cX4_tell 20 = .ok (.getfield 15, 3))) ?_
  refine And.intro (k_aload_n (pc := 23) (by decide +kernel : decode cX4_tell 23 = .ok (.aload_n 0, 1)) rfl) ?_
  refine And.intro (k_gI (pc := 24) rfl (by decide) rfl zin4 lk_X4_9 (by decide +kernel : decode cX4_tell 24 = .ok (.getfield 9, 3))) ?_
  refine And.intro (k_lload_n (pc := 27) (by decide +kernel : decode cX4_tell 27 = .ok (.lload_n 1, 1)) rfl) ?_
  refine And.intro (k_last (pc := 28) (by decide +kernel : decode cX4_tell 28 = .ok (.lastore, 1))) ?_
  refine And.intro (k_aload_n (pc := 29) (by decide +kernel : decode cX4_tell 29 = .ok (.aload_n 0, 1)) rfl) ?_
  refine And.intro (k_dup (pc := 30) (by decide +kernel : decode cX4_tell 30 = .ok (.dup, 1))) ?_
  refine And.intro (k_gI (pc := 31) rfl (by decide) rfl zin4 lk_X4_9 (by decide +kernel : decode cX4_tell 31 = .ok (.getfield 9, 3))) ?_
  refine And.intro (k_iconst (pc := 34) (by decide +kernel : decode cX4_tell 34 = .ok (.iconst 1, 1)) (by decide)) ?_
  refine And.intro (k_iadd (pc := 35) (by decide +kernel : decode cX4_tell 35 = .ok (.iadd, 1))) ?_
  refine And.intro (k_pI (pc := 36) rfl (by decide) rfl zin4 lk_X4_9 tyX4_ok nmX4 rfl (by decide +kernel) (by decide +kernel : decode cX4_tell 36 = .ok (.putfield 9, 3))) ?_
  refine And.intro (k_return (pc := 39) rfl (by decide +kernel : decode cX4_tell 39 = .ok (.return_, 1))) ?_
  exact trivial
theorem cdX4_tell : Cond.code yX4_tell cX4_tell 3 none ∈ zWs := zWs_in 677 (by decide +kernel) rfl
noncomputable def pgX4_tellRatio : zPg := [(0, o_al 0), (1, o_al 1), (2, o_gJ 6 0), (5, o_vv yX4_tell 4 2), (8, o_al 0), (9, o_al 1), (10, o_gJ 6 1), (13, o_vv yX4_tell 4 2), (16, o_vr)]
set_option maxRecDepth 20000 in
theorem pkX4_tellRatio {G : zG} (hG : zGok G) (Q : zRt) : zPOK G (zRm 1) RX4 cX4_tellRatio 2 none (zF G Q 0 0) 0 0 (zCalls G 1) Q pgX4_tellRatio := by
  refine And.intro (k_aload_n (pc := 0) (by decide +kernel : decode cX4_tellRatio 0 = .ok (.aload_n 0, 1)) rfl) ?_
  refine And.intro (k_aload_n (pc := 1) (by decide +kernel : decode cX4_tellRatio 1 = .ok (.aload_n 1, 1)) rfl) ?_
  refine And.intro (k_gJ (pc := 2) rfl (by decide) rfl zin6 lk_X4_19 (by decide +kernel : decode cX4_tellRatio 2 = .ok (.getfield 19, 3))) ?_
  refine And.intro (k_cvV (n := 1) (pc := 5) hG (zRoom_self 1) (tag := 4) rfl ini_X4 im_X4_tell se_X4_tell mk_X4_25 dy_X4_tell (by decide +kernel : decode cX4_tellRatio 5 = .ok (.invokevirtual 25, 3))) ?_
  refine And.intro (k_aload_n (pc := 8) (by decide +kernel : decode cX4_tellRatio 8 = .ok (.aload_n 0, 1)) rfl) ?_
  refine And.intro (k_aload_n (pc := 9) (by decide +kernel : decode cX4_tellRatio 9 = .ok (.aload_n 1, 1)) rfl) ?_
  refine And.intro (k_gJ (pc := 10) rfl (by decide) rfl zin6 lk_X4_29 (by decide +kernel : decode cX4_tellRatio 10 = .ok (.getfield 29, 3))) ?_
  refine And.intro (k_cvV (n := 1) (pc := 13) hG (zRoom_self 1) (tag := 4) rfl ini_X4 im_X4_tell se_X4_tell mk_X4_25 dy_X4_tell (by decide +kernel : decode cX4_tellRatio 13 = .ok (.invokevirtual 25, 3))) ?_
  refine And.intro (k_return (pc := 16) rfl (by decide +kernel : decode cX4_tellRatio 16 = .ok (.return_, 1))) ?_
  exact trivial
theorem cdX4_tellRatio : Cond.code yX4_tellRatio cX4_tellRatio 2 none ∈ zWs := zWs_in 673 (by decide +kernel) rfl
noncomputable def pgX4_at : zPg := [(0, o_il 1), (1, o_if_lt 30), (4, o_il 1), (5, o_al 0), (6, o_gI 4 0), (9, o_ic_ge 30), (12, o_il 1), (13, o_al 0), (14, o_gR 4 1), (17, o_len), (18, o_ic_ge 30), (21, o_al 0), (22, o_gR 4 1), (25, o_il 1), (26, o_xJ), (27, o_go 31), (30, o_lc 0), (31, o_lr)]
set_option maxRecDepth 20000 in
theorem pkX4_at {G : zG} (hG : zGok G) (Q : zRt) : zPOK G (zRm 0) RX4 cX4_at 2 (some .long) (zF G Q 0 0) 0 0 (zCalls G 0) Q pgX4_at := by
  refine And.intro (k_iload_n (pc := 0) (by decide +kernel : decode cX4_at 0 = .ok (.iload_n 1, 1)) rfl) ?_
  refine And.intro (k_if_lt (pc := 1) (by decide +kernel : decode cX4_at 1 = .ok (.ifCond .lt 29, 3)) (by decide)) ?_
  refine And.intro (k_iload_n (pc := 4) (by decide +kernel : decode cX4_at 4 = .ok (.iload_n 1, 1)) rfl) ?_
  refine And.intro (k_aload_n (pc := 5) (by decide +kernel : decode cX4_at 5 = .ok (.aload_n 0, 1)) rfl) ?_
  refine And.intro (k_gI (pc := 6) rfl (by decide) rfl zin4 lk_X4_9 (by decide +kernel : decode cX4_at 6 = .ok (.getfield 9, 3))) ?_
  refine And.intro (k_icmp_ge (pc := 9) (by decide +kernel : decode cX4_at 9 = .ok (.if_icmp .ge 21, 3)) (by decide)) ?_
  refine And.intro (k_iload_n (pc := 12) (by decide +kernel : decode cX4_at 12 = .ok (.iload_n 1, 1)) rfl) ?_
  refine And.intro (k_aload_n (pc := 13) (by decide +kernel : decode cX4_at 13 = .ok (.aload_n 0, 1)) rfl) ?_
  refine And.intro (k_gR (pc := 14) rfl (by decide) rfl zin4 lk_X4_15 (by decide +kernel : decode cX4_at 14 = .ok (.getfield 15, 3))) ?_
  refine And.intro (k_alen (pc := 17) (by decide +kernel : decode cX4_at 17 = .ok (.arraylength, 1))) ?_
  refine And.intro (k_icmp_ge (pc := 18) (by decide +kernel : decode cX4_at 18 = .ok (.if_icmp .ge 12, 3)) (by decide)) ?_
  refine And.intro (k_aload_n (pc := 21) (by decide +kernel : decode cX4_at 21 = .ok (.aload_n 0, 1)) rfl) ?_
  refine And.intro (k_gR (pc := 22) rfl (by decide) rfl zin4 lk_X4_15 (by decide +kernel : decode cX4_at 22 = .ok (.getfield 15, 3))) ?_
  refine And.intro (k_iload_n (pc := 25) (by decide +kernel : decode cX4_at 25 = .ok (.iload_n 1, 1)) rfl) ?_
  refine And.intro (k_lald (pc := 26) (by decide +kernel : decode cX4_at 26 = .ok (.laload, 1))) ?_
  refine And.intro (k_goto (pc := 27) (by decide +kernel : decode cX4_at 27 = .ok (.goto 4, 3)) (by decide)) ?_
  refine And.intro (k_lconst (pc := 30) (by decide +kernel : decode cX4_at 30 = .ok (.lconst 0, 1)) (by decide)) ?_
  refine And.intro (k_lreturn (pc := 31) rfl (by decide +kernel : decode cX4_at 31 = .ok (.lreturn, 1))) ?_
  exact trivial
theorem cdX4_at : Cond.code yX4_at cX4_at 2 (some .long) ∈ zWs := zWs_in 1099 (by decide +kernel) rfl
noncomputable def pgX5_putBound : zPg := [(0, o_al 0), (1, o_il 1), (2, o_vr2 yX5_isTold 5 2), (5, o_if_eq 19), (8, o_al 0), (9, o_gR 5 2), (12, o_ic (3)), (13, o_il 1), (14, o_imul), (15, o_ic (2)), (16, o_iadd), (17, o_il 2), (18, o_yI), (19, o_vr)]
set_option maxRecDepth 20000 in
theorem pkX5_putBound {G : zG} (hG : zGok G) (Q : zRt) : zPOK G (zRm 1) RX5 cX5_putBound 3 none (zF G Q 0 0) 0 0 (zCalls G 1) Q pgX5_putBound := by
  refine And.intro (k_aload_n (pc := 0) (by decide +kernel : decode cX5_putBound 0 = .ok (.aload_n 0, 1)) rfl) ?_
  refine And.intro (k_iload_n (pc := 1) (by decide +kernel : decode cX5_putBound 1 = .ok (.iload_n 1, 1)) rfl) ?_
  refine And.intro (k_crV (n := 1) (pc := 2) hG (zRoom_self 1) (tag := 5) rfl ini_X5 im_X5_isTold se_X5_isTold mk_X5_41 dy_X5_isTold (by decide +kernel : decode cX5_putBound 2 = .ok (.invokevirtual 41, 3))) ?_
  refine And.intro (k_if_eq (pc := 5) (by decide +kernel : decode cX5_putBound 5 = .ok (.ifCond .eq 14, 3)) (by decide)) ?_
  refine And.intro (k_aload_n (pc := 8) (by decide +kernel : decode cX5_putBound 8 = .ok (.aload_n 0, 1)) rfl) ?_
  refine And.intro (k_gR (pc := 9) rfl (by decide) rfl zin5 lk_X5_18 (by decide +kernel : decode cX5_putBound 9 = .ok (.getfield 18, 3))) ?_
  refine And.intro (k_iconst (pc := 12) (by decide +kernel : decode cX5_putBound 12 = .ok (.iconst 3, 1)) (by decide)) ?_
  refine And.intro (k_iload_n (pc := 13) (by decide +kernel : decode cX5_putBound 13 = .ok (.iload_n 1, 1)) rfl) ?_
  refine And.intro (k_imul (pc := 14) (by decide +kernel : decode cX5_putBound 14 = .ok (.imul, 1))) ?_
  refine And.intro (k_iconst (pc := 15) (by decide +kernel : decode cX5_putBound 15 = .ok (.iconst 2, 1)) (by decide)) ?_
  refine And.intro (k_iadd (pc := 16) (by decide +kernel : decode cX5_putBound 16 = .ok (.iadd, 1))) ?_
  refine And.intro (k_iload_n (pc := 17) (by decide +kernel : decode cX5_putBound 17 = .ok (.iload_n 2, 1)) rfl) ?_
  refine And.intro (k_iast (pc := 18) (by decide +kernel : decode cX5_putBound 18 = .ok (.iastore, 1))) ?_
  refine And.intro (k_return (pc := 19) rfl (by decide +kernel : decode cX5_putBound 19 = .ok (.return_, 1))) ?_
  exact trivial
theorem cdX5_putBound : Cond.code yX5_putBound cX5_putBound 3 none ∈ zWs := zWs_in 553 (by decide +kernel) rfl
noncomputable def pgX5_append : zPg := [(0, o_al 0), (1, o_gI 5 0), (4, o_if_lt 66), (7, o_al 0), (8, o_gI 5 0), (11, o_ic (6)), (13, o_ic_ge 66), (16, o_al 0), (17, o_gR 5 2), (20, o_ic (3)), (21, o_al 0), (22, o_gI 5 0), (25, o_imul), (26, o_il 1), (27, o_yI), (28, o_al 0), (29, o_gR 5 2), (32, o_ic (3)), (33, o_al 0), (34, o_gI 5 0), (37, o_imul), (38, o_ic (1)), (39, o_iadd), (40, o_il 2), (41, o_yI), (42, o_al 0), (43, o_gR 5 2), (46, o_ic (3)), (47, o_al 0), (48, o_gI 5 0), (51, o_imul), (52, o_ic (2)), (53, o_iadd), (54, o_il 3), (55, o_yI), (56, o_al 0), (57, o_dup), (58, o_gI 5 0), (61, o_ic (1)), (62, o_iadd), (63, o_pI 5 0), (66, o_vr)]
set_option maxRecDepth 20000 in
theorem pkX5_append {G : zG} (hG : zGok G) (Q : zRt) : zPOK G (zRm 0) RX5 cX5_append 4 none (zF G Q 0 0) 0 0 (zCalls G 0) Q pgX5_append := by
  refine And.intro (k_aload_n (pc := 0) (by decide +kernel : decode cX5_append 0 = .ok (.aload_n 0, 1)) rfl) ?_
  refine And.intro (k_gI (pc := 1) rfl (by decide) rfl zin5 lk_X5_9 (by decide +kernel : decode cX5_append 1 = .ok (.getfield 9, 3))) ?_
  refine And.intro (k_if_lt (pc := 4) (by decide +kernel : decode cX5_append 4 = .ok (.ifCond .lt 62, 3)) (by decide)) ?_
  refine And.intro (k_aload_n (pc := 7) (by decide +kernel : decode cX5_append 7 = .ok (.aload_n 0, 1)) rfl) ?_
  refine And.intro (k_gI (pc := 8) rfl (by decide) rfl zin5 lk_X5_9 (by decide +kernel : decode cX5_append 8 = .ok (.getfield 9, 3))) ?_
  refine And.intro (k_bipush (pc := 11) (by decide +kernel : decode cX5_append 11 = .ok (.bipush 6, 2)) (by decide)) ?_
  refine And.intro (k_icmp_ge (pc := 13) (by decide +kernel : decode cX5_append 13 = .ok (.if_icmp .ge 53, 3)) (by decide)) ?_
  refine And.intro (k_aload_n (pc := 16) (by decide +kernel : decode cX5_append 16 = .ok (.aload_n 0, 1)) rfl) ?_
  refine And.intro (k_gR (pc := 17) rfl (by decide) rfl zin5 lk_X5_18 (by decide +kernel : decode cX5_append 17 = .ok (.getfield 18, 3))) ?_
  refine And.intro (k_iconst (pc := 20) (by decide +kernel : decode cX5_append 20 = .ok (.iconst 3, 1)) (by decide)) ?_
  refine And.intro (k_aload_n (pc := 21) (by decide +kernel : decode cX5_append 21 = .ok (.aload_n 0, 1)) rfl) ?_
  refine And.intro (k_gI (pc := 22) rfl (by decide) rfl zin5 lk_X5_9 (by decide +kernel : decode cX5_append 22 = .ok (.getfield 9, 3))) ?_
  refine And.intro (k_imul (pc := 25) (by decide +kernel : decode cX5_append 25 = .ok (.imul, 1))) ?_
  refine And.intro (k_iload_n (pc := 26) (by decide +kernel : decode cX5_append 26 = .ok (.iload_n 1, 1)) rfl) ?_
  refine And.intro (k_iast (pc := 27) (by decide +kernel : decode cX5_append 27 = .ok (.iastore, 1))) ?_
  refine And.intro (k_aload_n (pc := 28) (by decide +kernel : decode cX5_append 28 = .ok (.aload_n 0, 1)) rfl) ?_
  refine And.intro (k_gR (pc := 29) rfl (by decide) rfl zin5 lk_X5_18 (by decide +kernel : decode cX5_append 29 = .ok (.getfield 18, 3))) ?_
  refine And.intro (k_iconst (pc := 32) (by decide +kernel : decode cX5_append 32 = .ok (.iconst 3, 1)) (by decide)) ?_
  refine And.intro (k_aload_n (pc := 33) (by decide +kernel : decode cX5_append 33 = .ok (.aload_n 0, 1)) rfl) ?_
  refine And.intro (k_gI (pc := 34) rfl (by decide) rfl zin5 lk_X5_9 (by decide +kernel : decode cX5_append 34 = .ok (.getfield 9, 3))) ?_
  refine And.intro (k_imul (pc := 37) (by decide +kernel : decode cX5_append 37 = .ok (.imul, 1))) ?_
  refine And.intro (k_iconst (pc := 38) (by decide +kernel : decode cX5_append 38 = .ok (.iconst 1, 1)) (by decide)) ?_
  refine And.intro (k_iadd (pc := 39) (by decide +kernel : decode cX5_append 39 = .ok (.iadd, 1))) ?_
  refine And.intro (k_iload_n (pc := 40) (by decide +kernel : decode cX5_append 40 = .ok (.iload_n 2, 1)) rfl) ?_
  refine And.intro (k_iast (pc := 41) (by decide +kernel : decode cX5_append 41 = .ok (.iastore, 1))) ?_
  refine And.intro (k_aload_n (pc := 42) (by decide +kernel : decode cX5_append 42 = .ok (.aload_n 0, 1)) rfl) ?_
  refine And.intro (k_gR (pc := 43) rfl (by decide) rfl zin5 lk_X5_18 (by decide +kernel : decode cX5_append 43 = .ok (.getfield 18, 3))) ?_
  refine And.intro (k_iconst (pc := 46) (by decide +kernel : decode cX5_append 46 = .ok (.iconst 3, 1)) (by decide)) ?_
  refine And.intro (k_aload_n (pc := 47) (by decide +kernel : decode cX5_append 47 = .ok (.aload_n 0, 1)) rfl) ?_
  refine And.intro (k_gI (pc := 48) rfl (by decide) rfl zin5 lk_X5_9 (by decide +kernel : decode cX5_append 48 = .ok (.getfield 9, 3))) ?_
  refine And.intro (k_imul (pc := 51) (by decide +kernel : decode cX5_append 51 = .ok (.imul, 1))) ?_
  refine And.intro (k_iconst (pc := 52) (by decide +kernel : decode cX5_append 52 = .ok (.iconst 2, 1)) (by decide)) ?_
  refine And.intro (k_iadd (pc := 53) (by decide +kernel : decode cX5_append 53 = .ok (.iadd, 1))) ?_
  refine And.intro (k_iload_n (pc := 54) (by decide +kernel : decode cX5_append 54 = .ok (.iload_n 3, 1)) rfl) ?_
  refine And.intro (k_iast (pc := 55) (by decide +kernel : decode cX5_append 55 = .ok (.iastore, 1))) ?_
  refine And.intro (k_aload_n (pc := 56) (by decide +kernel : decode cX5_append 56 = .ok (.aload_n 0, 1)) rfl) ?_
  refine And.intro (k_dup (pc := 57) (by decide +kernel : decode cX5_append 57 = .ok (.dup, 1))) ?_
  refine And.intro (k_gI (pc := 58) rfl (by decide) rfl zin5 lk_X5_9 (by decide +kernel : decode cX5_append 58 = .ok (.getfield 9, 3))) ?_
  refine And.intro (k_iconst (pc := 61) (by decide +kernel : decode cX5_append 61 = .ok (.iconst 1, 1)) (by decide)) ?_
  refine And.intro (k_iadd (pc := 62) (by decide +kernel : decode cX5_append 62 = .ok (.iadd, 1))) ?_
  refine And.intro (k_pI (pc := 63) rfl (by decide) rfl zin5 lk_X5_9 tyX5_ok nmX5 rfl (by decide +kernel) (by decide +kernel : decode cX5_append 63 = .ok (.putfield 9, 3))) ?_
  refine And.intro (k_return (pc := 66) rfl (by decide +kernel : decode cX5_append 66 = .ok (.return_, 1))) ?_
  exact trivial
theorem cdX5_append : Cond.code yX5_append cX5_append 4 none ∈ zWs := zWs_in 490 (by decide +kernel) rfl
noncomputable def pgX5_firstWrongRow : zPg := [(0, o_ic (0)), (1, o_is 1), (2, o_il 1), (3, o_al 0), (4, o_gI 5 0), (7, o_ic_ge 42), (10, o_al 0), (11, o_il 1), (12, o_ic (0)), (13, o_vr2 yX5_part 5 3), (16, o_al 0), (17, o_il 1), (18, o_ic (1)), (19, o_vr2 yX5_part 5 3), (22, o_al 0), (23, o_il 1), (24, o_ic (2)), (25, o_vr2 yX5_part 5 3), (28, o_cr yX11_isRow 3), (31, o_if_ne 36), (34, o_il 1), (35, o_ir), (36, o_inc 1 (1)), (39, o_go 2), (42, o_ic (-1)), (43, o_ir)]
set_option maxRecDepth 20000 in
theorem pkX5_firstWrongRow {G : zG} (hG : zGok G) (Q : zRt) : zPOK G (zRm 2) RX5 cX5_firstWrongRow 2 (some .int) (zF G Q 0 0) 0 0 (zCalls G 2) Q pgX5_firstWrongRow := by
  refine And.intro (k_iconst (pc := 0) (by decide +kernel : decode cX5_firstWrongRow 0 = .ok (.iconst 0, 1)) (by decide)) ?_
  refine And.intro (k_istore_n (pc := 1) (by decide +kernel : decode cX5_firstWrongRow 1 = .ok (.istore_n 1, 1)) rfl) ?_
  refine And.intro (k_iload_n (pc := 2) (by decide +kernel : decode cX5_firstWrongRow 2 = .ok (.iload_n 1, 1)) rfl) ?_
  refine And.intro (k_aload_n (pc := 3) (by decide +kernel : decode cX5_firstWrongRow 3 = .ok (.aload_n 0, 1)) rfl) ?_
  refine And.intro (k_gI (pc := 4) rfl (by decide) rfl zin5 lk_X5_9 (by decide +kernel : decode cX5_firstWrongRow 4 = .ok (.getfield 9, 3))) ?_
  refine And.intro (k_icmp_ge (pc := 7) (by decide +kernel : decode cX5_firstWrongRow 7 = .ok (.if_icmp .ge 35, 3)) (by decide)) ?_
  refine And.intro (k_aload_n (pc := 10) (by decide +kernel : decode cX5_firstWrongRow 10 = .ok (.aload_n 0, 1)) rfl) ?_
  refine And.intro (k_iload_n (pc := 11) (by decide +kernel : decode cX5_firstWrongRow 11 = .ok (.iload_n 1, 1)) rfl) ?_
  refine And.intro (k_iconst (pc := 12) (by decide +kernel : decode cX5_firstWrongRow 12 = .ok (.iconst 0, 1)) (by decide)) ?_
  refine And.intro (k_crV (n := 2) (pc := 13) hG (zRoom_self 2) (tag := 5) rfl ini_X5 im_X5_part se_X5_part mk_X5_48 dy_X5_part (by decide +kernel : decode cX5_firstWrongRow 13 = .ok (.invokevirtual 48, 3))) ?_
  refine And.intro (k_aload_n (pc := 16) (by decide +kernel : decode cX5_firstWrongRow 16 = .ok (.aload_n 0, 1)) rfl) ?_
  refine And.intro (k_iload_n (pc := 17) (by decide +kernel : decode cX5_firstWrongRow 17 = .ok (.iload_n 1, 1)) rfl) ?_
  refine And.intro (k_iconst (pc := 18) (by decide +kernel : decode cX5_firstWrongRow 18 = .ok (.iconst 1, 1)) (by decide)) ?_
  refine And.intro (k_crV (n := 2) (pc := 19) hG (zRoom_self 2) (tag := 5) rfl ini_X5 im_X5_part se_X5_part mk_X5_48 dy_X5_part (by decide +kernel : decode cX5_firstWrongRow 19 = .ok (.invokevirtual 48, 3))) ?_
  refine And.intro (k_aload_n (pc := 22) (by decide +kernel : decode cX5_firstWrongRow 22 = .ok (.aload_n 0, 1)) rfl) ?_
  refine And.intro (k_iload_n (pc := 23) (by decide +kernel : decode cX5_firstWrongRow 23 = .ok (.iload_n 1, 1)) rfl) ?_
  refine And.intro (k_iconst (pc := 24) (by decide +kernel : decode cX5_firstWrongRow 24 = .ok (.iconst 2, 1)) (by decide)) ?_
  refine And.intro (k_crV (n := 2) (pc := 25) hG (zRoom_self 2) (tag := 5) rfl ini_X5 im_X5_part se_X5_part mk_X5_48 dy_X5_part (by decide +kernel : decode cX5_firstWrongRow 25 = .ok (.invokevirtual 48, 3))) ?_
  refine And.intro (k_crS (n := 3) (pc := 28) hG (zRoom_self 2) ini_X11 sta_X11_isRow mk_X5_52 dy_X11_isRow (by decide +kernel : decode cX5_firstWrongRow 28 = .ok (.invokestatic 52, 3))) ?_
  refine And.intro (k_if_ne (pc := 31) (by decide +kernel : decode cX5_firstWrongRow 31 = .ok (.ifCond .ne 5, 3)) (by decide)) ?_
  refine And.intro (k_iload_n (pc := 34) (by decide +kernel : decode cX5_firstWrongRow 34 = .ok (.iload_n 1, 1)) rfl) ?_
  refine And.intro (k_ireturn (pc := 35) rfl (by decide +kernel : decode cX5_firstWrongRow 35 = .ok (.ireturn, 1))) ?_
  refine And.intro (k_iinc (pc := 36) (by decide +kernel : decode cX5_firstWrongRow 36 = .ok (.iinc 1 1, 3)) (by decide)) ?_
  refine And.intro (k_goto (pc := 39) (by decide +kernel : decode cX5_firstWrongRow 39 = .ok (.goto (-37), 3)) (by decide)) ?_
  refine And.intro (k_iconst (pc := 42) (by decide +kernel : decode cX5_firstWrongRow 42 = .ok (.iconst (-1), 1)) (by decide)) ?_
  refine And.intro (k_ireturn (pc := 43) rfl (by decide +kernel : decode cX5_firstWrongRow 43 = .ok (.ireturn, 1))) ?_
  exact trivial
theorem cdX5_firstWrongRow : Cond.code yX5_firstWrongRow cX5_firstWrongRow 2 (some .int) ∈ zWs := zWs_in 494 (by decide +kernel) rfl
noncomputable def pgX5_changeBound : zPg := [(0, o_al 0), (1, o_il 1), (2, o_vr2 yX5_isTold 5 2), (5, o_if_eq 15), (8, o_il 2), (9, o_cr yX11_isBound 1), (12, o_if_ne 17), (15, o_ic (-1)), (16, o_ir), (17, o_al 0), (18, o_il 1), (19, o_ic (2)), (20, o_vr2 yX5_part 5 3), (23, o_is 3), (24, o_il 3), (25, o_il 2), (26, o_ic_ne 32), (29, o_ic (-2)), (31, o_ir), (32, o_al 0), (33, o_il 1), (34, o_il 2), (35, o_vv yX5_putBound 5 3), (38, o_ic (100)), (40, o_il 3), (41, o_iadd), (42, o_ir)]
set_option maxRecDepth 20000 in
theorem pkX5_changeBound {G : zG} (hG : zGok G) (Q : zRt) : zPOK G (zRm 2) RX5 cX5_changeBound 4 (some .int) (zF G Q 0 0) 0 0 (zCalls G 2) Q pgX5_changeBound := by
  refine And.intro (k_aload_n (pc := 0) (by decide +kernel : decode cX5_changeBound 0 = .ok (.aload_n 0, 1)) rfl) ?_
  refine And.intro (k_iload_n (pc := 1) (by decide +kernel : decode cX5_changeBound 1 = .ok (.iload_n 1, 1)) rfl) ?_
  refine And.intro (k_crV (n := 1) (pc := 2) hG (zRoom_self 2) (tag := 5) rfl ini_X5 im_X5_isTold se_X5_isTold mk_X5_41 dy_X5_isTold (by decide +kernel : decode cX5_changeBound 2 = .ok (.invokevirtual 41, 3))) ?_
  refine And.intro (k_if_eq (pc := 5) (by decide +kernel : decode cX5_changeBound 5 = .ok (.ifCond .eq 10, 3)) (by decide)) ?_
  refine And.intro (k_iload_n (pc := 8) (by decide +kernel : decode cX5_changeBound 8 = .ok (.iload_n 2, 1)) rfl) ?_
  refine And.intro (k_crS (n := 1) (pc := 9) hG (zRoom_self 2) ini_X11 sta_X11_isBound mk_X5_56 dy_X11_isBound (by decide +kernel : decode cX5_changeBound 9 = .ok (.invokestatic 56, 3))) ?_
  refine And.intro (k_if_ne (pc := 12) (by decide +kernel : decode cX5_changeBound 12 = .ok (.ifCond .ne 5, 3)) (by decide)) ?_
  refine And.intro (k_iconst (pc := 15) (by decide +kernel : decode cX5_changeBound 15 = .ok (.iconst (-1), 1)) (by decide)) ?_
  refine And.intro (k_ireturn (pc := 16) rfl (by decide +kernel : decode cX5_changeBound 16 = .ok (.ireturn, 1))) ?_
  refine And.intro (k_aload_n (pc := 17) (by decide +kernel : decode cX5_changeBound 17 = .ok (.aload_n 0, 1)) rfl) ?_
  refine And.intro (k_iload_n (pc := 18) (by decide +kernel : decode cX5_changeBound 18 = .ok (.iload_n 1, 1)) rfl) ?_
  refine And.intro (k_iconst (pc := 19) (by decide +kernel : decode cX5_changeBound 19 = .ok (.iconst 2, 1)) (by decide)) ?_
  refine And.intro (k_crV (n := 2) (pc := 20) hG (zRoom_self 2) (tag := 5) rfl ini_X5 im_X5_part se_X5_part mk_X5_48 dy_X5_part (by decide +kernel : decode cX5_changeBound 20 = .ok (.invokevirtual 48, 3))) ?_
  refine And.intro (k_istore_n (pc := 23) (by decide +kernel : decode cX5_changeBound 23 = .ok (.istore_n 3, 1)) rfl) ?_
  refine And.intro (k_iload_n (pc := 24) (by decide +kernel : decode cX5_changeBound 24 = .ok (.iload_n 3, 1)) rfl) ?_
  refine And.intro (k_iload_n (pc := 25) (by decide +kernel : decode cX5_changeBound 25 = .ok (.iload_n 2, 1)) rfl) ?_
  refine And.intro (k_icmp_ne (pc := 26) (by decide +kernel : decode cX5_changeBound 26 = .ok (.if_icmp .ne 6, 3)) (by decide)) ?_
  refine And.intro (k_bipush (pc := 29) (by decide +kernel : decode cX5_changeBound 29 = .ok (.bipush (-2), 2)) (by decide)) ?_
  refine And.intro (k_ireturn (pc := 31) rfl (by decide +kernel : decode cX5_changeBound 31 = .ok (.ireturn, 1))) ?_
  refine And.intro (k_aload_n (pc := 32) (by decide +kernel : decode cX5_changeBound 32 = .ok (.aload_n 0, 1)) rfl) ?_
  refine And.intro (k_iload_n (pc := 33) (by decide +kernel : decode cX5_changeBound 33 = .ok (.iload_n 1, 1)) rfl) ?_
  refine And.intro (k_iload_n (pc := 34) (by decide +kernel : decode cX5_changeBound 34 = .ok (.iload_n 2, 1)) rfl) ?_
  refine And.intro (k_cvV (n := 2) (pc := 35) hG (zRoom_self 2) (tag := 5) rfl ini_X5 im_X5_putBound se_X5_putBound mk_X5_59 dy_X5_putBound (by decide +kernel : decode cX5_changeBound 35 = .ok (.invokevirtual 59, 3))) ?_
  refine And.intro (k_bipush (pc := 38) (by decide +kernel : decode cX5_changeBound 38 = .ok (.bipush 100, 2)) (by decide)) ?_
  refine And.intro (k_iload_n (pc := 40) (by decide +kernel : decode cX5_changeBound 40 = .ok (.iload_n 3, 1)) rfl) ?_
  refine And.intro (k_iadd (pc := 41) (by decide +kernel : decode cX5_changeBound 41 = .ok (.iadd, 1))) ?_
  refine And.intro (k_ireturn (pc := 42) rfl (by decide +kernel : decode cX5_changeBound 42 = .ok (.ireturn, 1))) ?_
  exact trivial
theorem cdX5_changeBound : Cond.code yX5_changeBound cX5_changeBound 4 (some .int) ∈ zWs := zWs_in 561 (by decide +kernel) rfl
noncomputable def pgX5_addRow : zPg := [(0, o_il 1), (1, o_il 2), (2, o_il 3), (3, o_cr yX11_isRow 3), (6, o_if_ne 11), (9, o_ic (-1)), (10, o_ir), (11, o_al 0), (12, o_gI 5 0), (15, o_ic (6)), (17, o_ic_lt 23), (20, o_ic (-2)), (22, o_ir), (23, o_al 0), (24, o_il 1), (25, o_il 2), (26, o_il 3), (27, o_vv yX5_append 5 4), (30, o_al 0), (31, o_gI 5 0), (34, o_ir)]
set_option maxRecDepth 20000 in
theorem pkX5_addRow {G : zG} (hG : zGok G) (Q : zRt) : zPOK G (zRm 2) RX5 cX5_addRow 4 (some .int) (zF G Q 0 0) 0 0 (zCalls G 2) Q pgX5_addRow := by
  refine And.intro (k_iload_n (pc := 0) (by decide +kernel : decode cX5_addRow 0 = .ok (.iload_n 1, 1)) rfl) ?_
  refine And.intro (k_iload_n (pc := 1) (by decide +kernel : decode cX5_addRow 1 = .ok (.iload_n 2, 1)) rfl) ?_
  refine And.intro (k_iload_n (pc := 2) (by decide +kernel : decode cX5_addRow 2 = .ok (.iload_n 3, 1)) rfl) ?_
  refine And.intro (k_crS (n := 3) (pc := 3) hG (zRoom_self 2) ini_X11 sta_X11_isRow mk_X5_52 dy_X11_isRow (by decide +kernel : decode cX5_addRow 3 = .ok (.invokestatic 52, 3))) ?_
  refine And.intro (k_if_ne (pc := 6) (by decide +kernel : decode cX5_addRow 6 = .ok (.ifCond .ne 5, 3)) (by decide)) ?_
  refine And.intro (k_iconst (pc := 9) (by decide +kernel : decode cX5_addRow 9 = .ok (.iconst (-1), 1)) (by decide)) ?_
  refine And.intro (k_ireturn (pc := 10) rfl (by decide +kernel : decode cX5_addRow 10 = .ok (.ireturn, 1))) ?_
  refine And.intro (k_aload_n (pc := 11) (by decide +kernel : decode cX5_addRow 11 = .ok (.aload_n 0, 1)) rfl) ?_
  refine And.intro (k_gI (pc := 12) rfl (by decide) rfl zin5 lk_X5_9 (by decide +kernel : decode cX5_addRow 12 = .ok (.getfield 9, 3))) ?_
  refine And.intro (k_bipush (pc := 15) (by decide +kernel : decode cX5_addRow 15 = .ok (.bipush 6, 2)) (by decide)) ?_
  refine And.intro (k_icmp_lt (pc := 17) (by decide +kernel : decode cX5_addRow 17 = .ok (.if_icmp .lt 6, 3)) (by decide)) ?_
  refine And.intro (k_bipush (pc := 20) (by decide +kernel : decode cX5_addRow 20 = .ok (.bipush (-2), 2)) (by decide)) ?_
  refine And.intro (k_ireturn (pc := 22) rfl (by decide +kernel : decode cX5_addRow 22 = .ok (.ireturn, 1))) ?_
  refine And.intro (k_aload_n (pc := 23) (by decide +kernel : decode cX5_addRow 23 = .ok (.aload_n 0, 1)) rfl) ?_
  refine And.intro (k_iload_n (pc := 24) (by decide +kernel : decode cX5_addRow 24 = .ok (.iload_n 1, 1)) rfl) ?_
  refine And.intro (k_iload_n (pc := 25) (by decide +kernel : decode cX5_addRow 25 = .ok (.iload_n 2, 1)) rfl) ?_
  refine And.intro (k_iload_n (pc := 26) (by decide +kernel : decode cX5_addRow 26 = .ok (.iload_n 3, 1)) rfl) ?_
  refine And.intro (k_cvV (n := 3) (pc := 27) hG (zRoom_self 2) (tag := 5) rfl ini_X5 im_X5_append se_X5_append mk_X5_63 dy_X5_append (by decide +kernel : decode cX5_addRow 27 = .ok (.invokevirtual 63, 3))) ?_
  refine And.intro (k_aload_n (pc := 30) (by decide +kernel : decode cX5_addRow 30 = .ok (.aload_n 0, 1)) rfl) ?_
  refine And.intro (k_gI (pc := 31) rfl (by decide) rfl zin5 lk_X5_9 (by decide +kernel : decode cX5_addRow 31 = .ok (.getfield 9, 3))) ?_
  refine And.intro (k_ireturn (pc := 34) rfl (by decide +kernel : decode cX5_addRow 34 = .ok (.ireturn, 1))) ?_
  exact trivial
theorem cdX5_addRow : Cond.code yX5_addRow cX5_addRow 4 (some .int) ∈ zWs := zWs_in 571 (by decide +kernel) rfl
noncomputable def pgX5_dropRow : zPg := [(0, o_al 0), (1, o_il 1), (2, o_vr2 yX5_isTold 5 2), (5, o_if_ne 10), (8, o_ic (-1)), (9, o_ir), (10, o_ic (3)), (11, o_il 1), (12, o_imul), (13, o_is 2), (14, o_il 2), (15, o_ic (3)), (16, o_al 0), (17, o_gI 5 0), (20, o_ic (1)), (21, o_isub), (22, o_imul), (23, o_ic_ge 57), (26, o_il 2), (27, o_ic (3)), (28, o_iadd), (29, o_al 0), (30, o_gR 5 2), (33, o_len), (34, o_ic_ge 57), (37, o_al 0), (38, o_gR 5 2), (41, o_il 2), (42, o_al 0), (43, o_gR 5 2), (46, o_il 2), (47, o_ic (3)), (48, o_iadd), (49, o_xI 14), (50, o_yI), (51, o_inc 2 (1)), (54, o_go 14), (57, o_al 0), (58, o_dup), (59, o_gI 5 0), (62, o_ic (1)), (63, o_isub), (64, o_pI 5 0), (67, o_al 0), (68, o_gI 5 0), (71, o_ir)]
set_option maxRecDepth 20000 in
theorem pkX5_dropRow {G : zG} (hG : zGok G) (Q : zRt) : zPOK G (zRm 1) RX5 cX5_dropRow 3 (some .int) (zF G Q 0 0) 0 0 (zCalls G 1) Q pgX5_dropRow := by
  refine And.intro (k_aload_n (pc := 0) (by decide +kernel : decode cX5_dropRow 0 = .ok (.aload_n 0, 1)) rfl) ?_
  refine And.intro (k_iload_n (pc := 1) (by decide +kernel : decode cX5_dropRow 1 = .ok (.iload_n 1, 1)) rfl) ?_
  refine And.intro (k_crV (n := 1) (pc := 2) hG (zRoom_self 1) (tag := 5) rfl ini_X5 im_X5_isTold se_X5_isTold mk_X5_41 dy_X5_isTold (by decide +kernel : decode cX5_dropRow 2 = .ok (.invokevirtual 41, 3))) ?_
  refine And.intro (k_if_ne (pc := 5) (by decide +kernel : decode cX5_dropRow 5 = .ok (.ifCond .ne 5, 3)) (by decide)) ?_
  refine And.intro (k_iconst (pc := 8) (by decide +kernel : decode cX5_dropRow 8 = .ok (.iconst (-1), 1)) (by decide)) ?_
  refine And.intro (k_ireturn (pc := 9) rfl (by decide +kernel : decode cX5_dropRow 9 = .ok (.ireturn, 1))) ?_
  refine And.intro (k_iconst (pc := 10) (by decide +kernel : decode cX5_dropRow 10 = .ok (.iconst 3, 1)) (by decide)) ?_
  refine And.intro (k_iload_n (pc := 11) (by decide +kernel : decode cX5_dropRow 11 = .ok (.iload_n 1, 1)) rfl) ?_
  refine And.intro (k_imul (pc := 12) (by decide +kernel : decode cX5_dropRow 12 = .ok (.imul, 1))) ?_
  refine And.intro (k_istore_n (pc := 13) (by decide +kernel : decode cX5_dropRow 13 = .ok (.istore_n 2, 1)) rfl) ?_
  refine And.intro (k_iload_n (pc := 14) (by decide +kernel : decode cX5_dropRow 14 = .ok (.iload_n 2, 1)) rfl) ?_
  refine And.intro (k_iconst (pc := 15) (by decide +kernel : decode cX5_dropRow 15 = .ok (.iconst 3, 1)) (by decide)) ?_
  refine And.intro (k_aload_n (pc := 16) (by decide +kernel : decode cX5_dropRow 16 = .ok (.aload_n 0, 1)) rfl) ?_
  refine And.intro (k_gI (pc := 17) rfl (by decide) rfl zin5 lk_X5_9 (by decide +kernel : decode cX5_dropRow 17 = .ok (.getfield 9, 3))) ?_
  refine And.intro (k_iconst (pc := 20) (by decide +kernel : decode cX5_dropRow 20 = .ok (.iconst 1, 1)) (by decide)) ?_
  refine And.intro (k_isub (pc := 21) (by decide +kernel : decode cX5_dropRow 21 = .ok (.isub, 1))) ?_
  refine And.intro (k_imul (pc := 22) (by decide +kernel : decode cX5_dropRow 22 = .ok (.imul, 1))) ?_
  refine And.intro (k_icmp_ge (pc := 23) (by decide +kernel : decode cX5_dropRow 23 = .ok (.if_icmp .ge 34, 3)) (by decide)) ?_
  refine And.intro (k_iload_n (pc := 26) (by decide +kernel : decode cX5_dropRow 26 = .ok (.iload_n 2, 1)) rfl) ?_
  refine And.intro (k_iconst (pc := 27) (by decide +kernel : decode cX5_dropRow 27 = .ok (.iconst 3, 1)) (by decide)) ?_
  refine And.intro (k_iadd (pc := 28) (by decide +kernel : decode cX5_dropRow 28 = .ok (.iadd, 1))) ?_
  refine And.intro (k_aload_n (pc := 29) (by decide +kernel : decode cX5_dropRow 29 = .ok (.aload_n 0, 1)) rfl) ?_
  refine And.intro (k_gR (pc := 30) rfl (by decide) rfl zin5 lk_X5_18 (by decide +kernel : decode cX5_dropRow 30 = .ok (.getfield 18, 3))) ?_
  refine And.intro (k_alen (pc := 33) (by decide +kernel : decode cX5_dropRow 33 = .ok (.arraylength, 1))) ?_
  refine And.intro (k_icmp_ge (pc := 34) (by decide +kernel : decode cX5_dropRow 34 = .ok (.if_icmp .ge 23, 3)) (by decide)) ?_
  refine And.intro (k_aload_n (pc := 37) (by decide +kernel : decode cX5_dropRow 37 = .ok (.aload_n 0, 1)) rfl) ?_
  refine And.intro (k_gR (pc := 38) rfl (by decide) rfl zin5 lk_X5_18 (by decide +kernel : decode cX5_dropRow 38 = .ok (.getfield 18, 3))) ?_
  refine And.intro (k_iload_n (pc := 41) (by decide +kernel : decode cX5_dropRow 41 = .ok (.iload_n 2, 1)) rfl) ?_
  refine And.intro (k_aload_n (pc := 42) (by decide +kernel : decode cX5_dropRow 42 = .ok (.aload_n 0, 1)) rfl) ?_
  refine And.intro (k_gR (pc := 43) rfl (by decide) rfl zin5 lk_X5_18 (by decide +kernel : decode cX5_dropRow 43 = .ok (.getfield 18, 3))) ?_
  refine And.intro (k_iload_n (pc := 46) (by decide +kernel : decode cX5_dropRow 46 = .ok (.iload_n 2, 1)) rfl) ?_
  refine And.intro (k_iconst (pc := 47) (by decide +kernel : decode cX5_dropRow 47 = .ok (.iconst 3, 1)) (by decide)) ?_
  refine And.intro (k_iadd (pc := 48) (by decide +kernel : decode cX5_dropRow 48 = .ok (.iadd, 1))) ?_
  refine And.intro (k_iald (pc := 49) (by decide +kernel : decode cX5_dropRow 49 = .ok (.iaload, 1))) ?_
  refine And.intro (k_iast (pc := 50) (by decide +kernel : decode cX5_dropRow 50 = .ok (.iastore, 1))) ?_
  refine And.intro (k_iinc (pc := 51) (by decide +kernel : decode cX5_dropRow 51 = .ok (.iinc 2 1, 3)) (by decide)) ?_
  refine And.intro (k_goto (pc := 54) (by decide +kernel : decode cX5_dropRow 54 = .ok (.goto (-40), 3)) (by decide)) ?_
  refine And.intro (k_aload_n (pc := 57) (by decide +kernel : decode cX5_dropRow 57 = .ok (.aload_n 0, 1)) rfl) ?_
  refine And.intro (k_dup (pc := 58) (by decide +kernel : decode cX5_dropRow 58 = .ok (.dup, 1))) ?_
  refine And.intro (k_gI (pc := 59) rfl (by decide) rfl zin5 lk_X5_9 (by decide +kernel : decode cX5_dropRow 59 = .ok (.getfield 9, 3))) ?_
  refine And.intro (k_iconst (pc := 62) (by decide +kernel : decode cX5_dropRow 62 = .ok (.iconst 1, 1)) (by decide)) ?_
  refine And.intro (k_isub (pc := 63) (by decide +kernel : decode cX5_dropRow 63 = .ok (.isub, 1))) ?_
  refine And.intro (k_pI (pc := 64) rfl (by decide) rfl zin5 lk_X5_9 tyX5_ok nmX5 rfl (by decide +kernel) (by decide +kernel : decode cX5_dropRow 64 = .ok (.putfield 9, 3))) ?_
  refine And.intro (k_aload_n (pc := 67) (by decide +kernel : decode cX5_dropRow 67 = .ok (.aload_n 0, 1)) rfl) ?_
  refine And.intro (k_gI (pc := 68) rfl (by decide) rfl zin5 lk_X5_9 (by decide +kernel : decode cX5_dropRow 68 = .ok (.getfield 9, 3))) ?_
  refine And.intro (k_ireturn (pc := 71) rfl (by decide +kernel : decode cX5_dropRow 71 = .ok (.ireturn, 1))) ?_
  exact trivial
theorem cdX5_dropRow : Cond.code yX5_dropRow cX5_dropRow 3 (some .int) ∈ zWs := zWs_in 580 (by decide +kernel) rfl
noncomputable def pgX5_hasCut : zPg := [(0, o_il 1), (1, o_if_lt 22), (4, o_il 1), (5, o_al 0), (6, o_gI 5 1), (9, o_ic_ge 22), (12, o_il 1), (13, o_ic (8)), (15, o_ic_ge 22), (18, o_ic (1)), (19, o_go 23), (22, o_ic (0)), (23, o_zr)]
set_option maxRecDepth 20000 in
theorem pkX5_hasCut {G : zG} (hG : zGok G) (Q : zRt) : zPOK G (zRm 0) RX5 cX5_hasCut 2 (some .boolean) (zF G Q 0 0) 0 0 (zCalls G 0) Q pgX5_hasCut := by
  refine And.intro (k_iload_n (pc := 0) (by decide +kernel : decode cX5_hasCut 0 = .ok (.iload_n 1, 1)) rfl) ?_
  refine And.intro (k_if_lt (pc := 1) (by decide +kernel : decode cX5_hasCut 1 = .ok (.ifCond .lt 21, 3)) (by decide)) ?_
  refine And.intro (k_iload_n (pc := 4) (by decide +kernel : decode cX5_hasCut 4 = .ok (.iload_n 1, 1)) rfl) ?_
  refine And.intro (k_aload_n (pc := 5) (by decide +kernel : decode cX5_hasCut 5 = .ok (.aload_n 0, 1)) rfl) ?_
  refine And.intro (k_gI (pc := 6) rfl (by decide) rfl zin5 lk_X5_15 (by decide +kernel : decode cX5_hasCut 6 = .ok (.getfield 15, 3))) ?_
  refine And.intro (k_icmp_ge (pc := 9) (by decide +kernel : decode cX5_hasCut 9 = .ok (.if_icmp .ge 13, 3)) (by decide)) ?_
  refine And.intro (k_iload_n (pc := 12) (by decide +kernel : decode cX5_hasCut 12 = .ok (.iload_n 1, 1)) rfl) ?_
  refine And.intro (k_bipush (pc := 13) (by decide +kernel : decode cX5_hasCut 13 = .ok (.bipush 8, 2)) (by decide)) ?_
  refine And.intro (k_icmp_ge (pc := 15) (by decide +kernel : decode cX5_hasCut 15 = .ok (.if_icmp .ge 7, 3)) (by decide)) ?_
  refine And.intro (k_iconst (pc := 18) (by decide +kernel : decode cX5_hasCut 18 = .ok (.iconst 1, 1)) (by decide)) ?_
  refine And.intro (k_goto (pc := 19) (by decide +kernel : decode cX5_hasCut 19 = .ok (.goto 4, 3)) (by decide)) ?_
  refine And.intro (k_iconst (pc := 22) (by decide +kernel : decode cX5_hasCut 22 = .ok (.iconst 0, 1)) (by decide)) ?_
  refine And.intro (k_zreturn (pc := 23) rfl (by decide +kernel : decode cX5_hasCut 23 = .ok (.ireturn, 1))) ?_
  exact trivial
theorem cdX5_hasCut : Cond.code yX5_hasCut cX5_hasCut 2 (some .boolean) ∈ zWs := zWs_in 784 (by decide +kernel) rfl
noncomputable def pgX5_addCut : zPg := [(0, o_al 0), (1, o_gI 5 1), (4, o_if_lt 16), (7, o_al 0), (8, o_gI 5 1), (11, o_ic (8)), (13, o_ic_lt 19), (16, o_ic (-3)), (18, o_ir), (19, o_al 1), (20, o_ic (0)), (21, o_al 0), (22, o_gR 5 3), (25, o_al 0), (26, o_gI 5 1), (29, o_xR 20), (30, o_ic (0)), (31, o_ic (15)), (33, o_cpJ), (36, o_al 0), (37, o_dup), (38, o_gI 5 1), (41, o_ic (1)), (42, o_iadd), (43, o_pI 5 1), (46, o_al 0), (47, o_gI 5 1), (50, o_ir)]
set_option maxRecDepth 20000 in
theorem pkX5_addCut {G : zG} (hG : zGok G) (Q : zRt) : zPOK G (zRm 1) RX5 cX5_addCut 2 (some .int) (zF G Q 0 0) 0 0 (zCalls G 1) Q pgX5_addCut := by
  refine And.intro (k_aload_n (pc := 0) (by decide +kernel : decode cX5_addCut 0 = .ok (.aload_n 0, 1)) rfl) ?_
  refine And.intro (k_gI (pc := 1) rfl (by decide) rfl zin5 lk_X5_15 (by decide +kernel : decode cX5_addCut 1 = .ok (.getfield 15, 3))) ?_
  refine And.intro (k_if_lt (pc := 4) (by decide +kernel : decode cX5_addCut 4 = .ok (.ifCond .lt 12, 3)) (by decide)) ?_
  refine And.intro (k_aload_n (pc := 7) (by decide +kernel : decode cX5_addCut 7 = .ok (.aload_n 0, 1)) rfl) ?_
  refine And.intro (k_gI (pc := 8) rfl (by decide) rfl zin5 lk_X5_15 (by decide +kernel : decode cX5_addCut 8 = .ok (.getfield 15, 3))) ?_
  refine And.intro (k_bipush (pc := 11) (by decide +kernel : decode cX5_addCut 11 = .ok (.bipush 8, 2)) (by decide)) ?_
  refine And.intro (k_icmp_lt (pc := 13) (by decide +kernel : decode cX5_addCut 13 = .ok (.if_icmp .lt 6, 3)) (by decide)) ?_
  refine And.intro (k_bipush (pc := 16) (by decide +kernel : decode cX5_addCut 16 = .ok (.bipush (-3), 2)) (by decide)) ?_
  refine And.intro (k_ireturn (pc := 18) rfl (by decide +kernel : decode cX5_addCut 18 = .ok (.ireturn, 1))) ?_
  refine And.intro (k_aload_n (pc := 19) (by decide +kernel : decode cX5_addCut 19 = .ok (.aload_n 1, 1)) rfl) ?_
  refine And.intro (k_iconst (pc := 20) (by decide +kernel : decode cX5_addCut 20 = .ok (.iconst 0, 1)) (by decide)) ?_
  refine And.intro (k_aload_n (pc := 21) (by decide +kernel : decode cX5_addCut 21 = .ok (.aload_n 0, 1)) rfl) ?_
  refine And.intro (k_gR (pc := 22) rfl (by decide) rfl zin5 lk_X5_24 (by decide +kernel : decode cX5_addCut 22 = .ok (.getfield 24, 3))) ?_
  refine And.intro (k_aload_n (pc := 25) (by decide +kernel : decode cX5_addCut 25 = .ok (.aload_n 0, 1)) rfl) ?_
  refine And.intro (k_gI (pc := 26) rfl (by decide) rfl zin5 lk_X5_15 (by decide +kernel : decode cX5_addCut 26 = .ok (.getfield 15, 3))) ?_
  refine And.intro (k_aald20 (pc := 29) (by decide +kernel : decode cX5_addCut 29 = .ok (.aaload, 1))) ?_
  refine And.intro (k_iconst (pc := 30) (by decide +kernel : decode cX5_addCut 30 = .ok (.iconst 0, 1)) (by decide)) ?_
  refine And.intro (k_bipush (pc := 31) (by decide +kernel : decode cX5_addCut 31 = .ok (.bipush 15, 2)) (by decide)) ?_
  refine And.intro (k_cpJ (pc := 33) (by decide) (by decide) ac_X5_31 ac_nat ac_sta ac_ini (by decide +kernel : decode cX5_addCut 33 = .ok (.invokestatic 31, 3))) ?_
  refine And.intro (k_aload_n (pc := 36) (by decide +kernel : decode cX5_addCut 36 = .ok (.aload_n 0, 1)) rfl) ?_
  refine And.intro (k_dup (pc := 37) (by decide +kernel : decode cX5_addCut 37 = .ok (.dup, 1))) ?_
  refine And.intro (k_gI (pc := 38) rfl (by decide) rfl zin5 lk_X5_15 (by decide +kernel : decode cX5_addCut 38 = .ok (.getfield 15, 3))) ?_
  refine And.intro (k_iconst (pc := 41) (by decide +kernel : decode cX5_addCut 41 = .ok (.iconst 1, 1)) (by decide)) ?_
  refine And.intro (k_iadd (pc := 42) (by decide +kernel : decode cX5_addCut 42 = .ok (.iadd, 1))) ?_
  refine And.intro (k_pI (pc := 43) rfl (by decide) rfl zin5 lk_X5_15 tyX5_ok nmX5 rfl (by decide +kernel) (by decide +kernel : decode cX5_addCut 43 = .ok (.putfield 15, 3))) ?_
  refine And.intro (k_aload_n (pc := 46) (by decide +kernel : decode cX5_addCut 46 = .ok (.aload_n 0, 1)) rfl) ?_
  refine And.intro (k_gI (pc := 47) rfl (by decide) rfl zin5 lk_X5_15 (by decide +kernel : decode cX5_addCut 47 = .ok (.getfield 15, 3))) ?_
  refine And.intro (k_ireturn (pc := 50) rfl (by decide +kernel : decode cX5_addCut 50 = .ok (.ireturn, 1))) ?_
  exact trivial
theorem cdX5_addCut : Cond.code yX5_addCut cX5_addCut 2 (some .int) ∈ zWs := zWs_in 776 (by decide +kernel) rfl
noncomputable def pgX5_dropCuts : zPg := [(0, o_al 0), (1, o_gI 5 1), (4, o_is 1), (5, o_al 0), (6, o_ic (0)), (7, o_pI 5 1), (10, o_il 1), (11, o_ir)]
set_option maxRecDepth 20000 in
theorem pkX5_dropCuts {G : zG} (hG : zGok G) (Q : zRt) : zPOK G (zRm 0) RX5 cX5_dropCuts 2 (some .int) (zF G Q 0 0) 0 0 (zCalls G 0) Q pgX5_dropCuts := by
  refine And.intro (k_aload_n (pc := 0) (by decide +kernel : decode cX5_dropCuts 0 = .ok (.aload_n 0, 1)) rfl) ?_
  refine And.intro (k_gI (pc := 1) rfl (by decide) rfl zin5 lk_X5_15 (by decide +kernel : decode cX5_dropCuts 1 = .ok (.getfield 15, 3))) ?_
  refine And.intro (k_istore_n (pc := 4) (by decide +kernel : decode cX5_dropCuts 4 = .ok (.istore_n 1, 1)) rfl) ?_
  refine And.intro (k_aload_n (pc := 5) (by decide +kernel : decode cX5_dropCuts 5 = .ok (.aload_n 0, 1)) rfl) ?_
  refine And.intro (k_iconst (pc := 6) (by decide +kernel : decode cX5_dropCuts 6 = .ok (.iconst 0, 1)) (by decide)) ?_
  refine And.intro (k_pI (pc := 7) rfl (by decide) rfl zin5 lk_X5_15 tyX5_ok nmX5 rfl (by decide +kernel) (by decide +kernel : decode cX5_dropCuts 7 = .ok (.putfield 15, 3))) ?_
  refine And.intro (k_iload_n (pc := 10) (by decide +kernel : decode cX5_dropCuts 10 = .ok (.iload_n 1, 1)) rfl) ?_
  refine And.intro (k_ireturn (pc := 11) rfl (by decide +kernel : decode cX5_dropCuts 11 = .ok (.ireturn, 1))) ?_
  exact trivial
theorem cdX5_dropCuts : Cond.code yX5_dropCuts cX5_dropCuts 2 (some .int) ∈ zWs := zWs_in 827 (by decide +kernel) rfl
noncomputable def pgX5_cutExcess : zPg := [(0, o_al 0), (1, o_il 1), (2, o_vr2 yX5_hasCut 5 2), (5, o_if_eq 47), (8, o_al 0), (9, o_gR 5 3), (12, o_il 1), (13, o_xR 20), (14, o_ic (0)), (15, o_xJ), (16, o_il 2), (17, o_i2l), (18, o_lmul), (19, o_al 0), (20, o_gR 5 3), (23, o_il 1), (24, o_xR 20), (25, o_ic (1)), (26, o_xJ), (27, o_il 3), (28, o_i2l), (29, o_lmul), (30, o_ladd), (31, o_al 0), (32, o_gR 5 3), (35, o_il 1), (36, o_xR 20), (37, o_ic (2)), (38, o_xJ), (39, o_il 4), (41, o_i2l), (42, o_lmul), (43, o_lsub), (44, o_go 48), (47, o_lc 0), (48, o_lr)]
set_option maxRecDepth 20000 in
theorem pkX5_cutExcess {G : zG} (hG : zGok G) (Q : zRt) : zPOK G (zRm 1) RX5 cX5_cutExcess 5 (some .long) (zF G Q 0 0) 0 0 (zCalls G 1) Q pgX5_cutExcess := by
  refine And.intro (k_aload_n (pc := 0) (by decide +kernel : decode cX5_cutExcess 0 = .ok (.aload_n 0, 1)) rfl) ?_
  refine And.intro (k_iload_n (pc := 1) (by decide +kernel : decode cX5_cutExcess 1 = .ok (.iload_n 1, 1)) rfl) ?_
  refine And.intro (k_crV (n := 1) (pc := 2) hG (zRoom_self 1) (tag := 5) rfl ini_X5 im_X5_hasCut se_X5_hasCut mk_X5_67 dy_X5_hasCut (by decide +kernel : decode cX5_cutExcess 2 = .ok (.invokevirtual 67, 3))) ?_
  refine And.intro (k_if_eq (pc := 5) (by decide +kernel : decode cX5_cutExcess 5 = .ok (.ifCond .eq 42, 3)) (by decide)) ?_
  refine And.intro (k_aload_n (pc := 8) (by decide +kernel : decode cX5_cutExcess 8 = .ok (.aload_n 0, 1)) rfl) ?_
  refine And.intro (k_gR (pc := 9) rfl (by decide) rfl zin5 lk_X5_24 (by decide +kernel : decode cX5_cutExcess 9 = .ok (.getfield 24, 3))) ?_
  refine And.intro (k_iload_n (pc := 12) (by decide +kernel : decode cX5_cutExcess 12 = .ok (.iload_n 1, 1)) rfl) ?_
  refine And.intro (k_aald20 (pc := 13) (by decide +kernel : decode cX5_cutExcess 13 = .ok (.aaload, 1))) ?_
  refine And.intro (k_iconst (pc := 14) (by decide +kernel : decode cX5_cutExcess 14 = .ok (.iconst 0, 1)) (by decide)) ?_
  refine And.intro (k_lald (pc := 15) (by decide +kernel : decode cX5_cutExcess 15 = .ok (.laload, 1))) ?_
  refine And.intro (k_iload_n (pc := 16) (by decide +kernel : decode cX5_cutExcess 16 = .ok (.iload_n 2, 1)) rfl) ?_
  refine And.intro (k_i2l (pc := 17) (by decide +kernel : decode cX5_cutExcess 17 = .ok (.i2l, 1))) ?_
  refine And.intro (k_lmul (pc := 18) (by decide +kernel : decode cX5_cutExcess 18 = .ok (.lmul, 1))) ?_
  refine And.intro (k_aload_n (pc := 19) (by decide +kernel : decode cX5_cutExcess 19 = .ok (.aload_n 0, 1)) rfl) ?_
  refine And.intro (k_gR (pc := 20) rfl (by decide) rfl zin5 lk_X5_24 (by decide +kernel : decode cX5_cutExcess 20 = .ok (.getfield 24, 3))) ?_
  refine And.intro (k_iload_n (pc := 23) (by decide +kernel : decode cX5_cutExcess 23 = .ok (.iload_n 1, 1)) rfl) ?_
  refine And.intro (k_aald20 (pc := 24) (by decide +kernel : decode cX5_cutExcess 24 = .ok (.aaload, 1))) ?_
  refine And.intro (k_iconst (pc := 25) (by decide +kernel : decode cX5_cutExcess 25 = .ok (.iconst 1, 1)) (by decide)) ?_
  refine And.intro (k_lald (pc := 26) (by decide +kernel : decode cX5_cutExcess 26 = .ok (.laload, 1))) ?_
  refine And.intro (k_iload_n (pc := 27) (by decide +kernel : decode cX5_cutExcess 27 = .ok (.iload_n 3, 1)) rfl) ?_
  refine And.intro (k_i2l (pc := 28) (by decide +kernel : decode cX5_cutExcess 28 = .ok (.i2l, 1))) ?_
  refine And.intro (k_lmul (pc := 29) (by decide +kernel : decode cX5_cutExcess 29 = .ok (.lmul, 1))) ?_
  refine And.intro (k_ladd (pc := 30) (by decide +kernel : decode cX5_cutExcess 30 = .ok (.ladd, 1))) ?_
  refine And.intro (k_aload_n (pc := 31) (by decide +kernel : decode cX5_cutExcess 31 = .ok (.aload_n 0, 1)) rfl) ?_
  refine And.intro (k_gR (pc := 32) rfl (by decide) rfl zin5 lk_X5_24 (by decide +kernel : decode cX5_cutExcess 32 = .ok (.getfield 24, 3))) ?_
  refine And.intro (k_iload_n (pc := 35) (by decide +kernel : decode cX5_cutExcess 35 = .ok (.iload_n 1, 1)) rfl) ?_
  refine And.intro (k_aald20 (pc := 36) (by decide +kernel : decode cX5_cutExcess 36 = .ok (.aaload, 1))) ?_
  refine And.intro (k_iconst (pc := 37) (by decide +kernel : decode cX5_cutExcess 37 = .ok (.iconst 2, 1)) (by decide)) ?_
  refine And.intro (k_lald (pc := 38) (by decide +kernel : decode cX5_cutExcess 38 = .ok (.laload, 1))) ?_
  refine And.intro (k_iload (pc := 39) (by decide +kernel : decode cX5_cutExcess 39 = .ok (.iload 4, 2))) ?_
  refine And.intro (k_i2l (pc := 41) (by decide +kernel : decode cX5_cutExcess 41 = .ok (.i2l, 1))) ?_
  refine And.intro (k_lmul (pc := 42) (by decide +kernel : decode cX5_cutExcess 42 = .ok (.lmul, 1))) ?_
  refine And.intro (k_lsub (pc := 43) (by decide +kernel : decode cX5_cutExcess 43 = .ok (.lsub, 1))) ?_
  refine And.intro (k_goto (pc := 44) (by decide +kernel : decode cX5_cutExcess 44 = .ok (.goto 4, 3)) (by decide)) ?_
  refine And.intro (k_lconst (pc := 47) (by decide +kernel : decode cX5_cutExcess 47 = .ok (.lconst 0, 1)) (by decide)) ?_
  refine And.intro (k_lreturn (pc := 48) rfl (by decide +kernel : decode cX5_cutExcess 48 = .ok (.lreturn, 1))) ?_
  exact trivial
theorem cdX5_cutExcess : Cond.code yX5_cutExcess cX5_cutExcess 5 (some .long) ∈ zWs := zWs_in 835 (by decide +kernel) rfl
noncomputable def pgX5_halfChecks : zPg := [(0, o_al 1), (1, o_ic (3)), (2, o_il 2), (3, o_iadd), (4, o_xJ), (5, o_ls 3), (6, o_ll 3), (7, o_lc 0), (8, o_lc_lt 22), (12, o_ll 3), (13, o_al 0), (14, o_vr2 yX5_allRows 5 1), (17, o_i2l), (18, o_lc_lt 24), (22, o_ic (0)), (23, o_zr), (24, o_il 2), (25, o_if_ne 32), (28, o_ic (5)), (29, o_go 34), (32, o_ic (9)), (34, o_is 5), (36, o_il 2), (37, o_if_ne 45), (40, o_ic (7)), (42, o_go 47), (45, o_ic (11)), (47, o_is 6), (49, o_al 1), (50, o_il 5), (52, o_xJ), (53, o_al 1), (54, o_il 6), (56, o_ic (1)), (57, o_iadd), (58, o_xJ), (59, o_lmul), (60, o_ls 7), (62, o_al 1), (63, o_il 6), (65, o_xJ), (66, o_al 1), (67, o_il 5), (69, o_ic (1)), (70, o_iadd), (71, o_xJ), (72, o_lmul), (73, o_ls 9), (75, o_al 1), (76, o_il 5), (78, o_ic (1)), (79, o_iadd), (80, o_xJ), (81, o_al 1), (82, o_il 6), (84, o_ic (1)), (85, o_iadd), (86, o_xJ), (87, o_lmul), (88, o_ls 11), (90, o_il 2), (91, o_if_ne 98), (94, o_lc 1), (95, o_go 101), (98, o_lc (-1)), (101, o_ls 13), (103, o_al 1), (104, o_ic (13)), (106, o_xJ), (107, o_lc 0), (108, o_lc_ne 117), (112, o_ll 13), (114, o_go 118), (117, o_lc 0), (118, o_ls 15), (120, o_al 1), (121, o_ic (13)), (123, o_xJ), (124, o_lc 0), (125, o_lc_ne 133), (129, o_lc 0), (130, o_go 135), (133, o_ll 13), (135, o_ls 17), (137, o_ll 13), (139, o_al 1), (140, o_ic (14)), (142, o_xJ), (143, o_il 2), (144, o_i2l), (145, o_ladd), (146, o_lmul), (147, o_ls 19), (149, o_ll 7), (151, o_al 0), (152, o_ll 3), (153, o_l2i), (154, o_ic (0)), (155, o_vr2 yX5_part 5 3), (158, o_i2l), (159, o_lmul), (160, o_ll 9), (162, o_ll 15), (164, o_lmul), (165, o_ladd), (166, o_al 1), (167, o_ic (0)), (168, o_xJ), (169, o_ll 11), (171, o_lmul), (172, o_lc_ne 234), (176, o_ll 7), (178, o_al 0), (179, o_ll 3), (180, o_l2i), (181, o_ic (1)), (182, o_vr2 yX5_part 5 3), (185, o_i2l), (186, o_lmul), (187, o_ll 9), (189, o_ll 17), (191, o_lmul), (192, o_ladd), (193, o_al 1), (194, o_ic (1)), (195, o_xJ), (196, o_ll 11), (198, o_lmul), (199, o_lc_ne 234), (203, o_ll 7), (205, o_al 0), (206, o_ll 3), (207, o_l2i), (208, o_ic (2)), (209, o_vr2 yX5_part 5 3), (212, o_i2l), (213, o_lmul), (214, o_ll 9), (216, o_ll 19), (218, o_lmul), (219, o_ladd), (220, o_al 1), (221, o_ic (2)), (222, o_xJ), (223, o_ll 11), (225, o_lmul), (226, o_lc_gt 234), (230, o_ic (1)), (231, o_go 235), (234, o_ic (0)), (235, o_zr)]
set_option maxRecDepth 20000 in
theorem pkX5_halfChecks {G : zG} (hG : zGok G) (Q : zRt) : zPOK G (zRm 2) RX5 cX5_halfChecks 21 (some .boolean) (zF G Q 0 0) 0 0 (zCalls G 2) Q pgX5_halfChecks := by
  refine And.intro (k_aload_n (pc := 0) (by decide +kernel : decode cX5_halfChecks 0 = .ok (.aload_n 1, 1)) rfl) ?_
  refine And.intro (k_iconst (pc := 1) (by decide +kernel : decode cX5_halfChecks 1 = .ok (.iconst 3, 1)) (by decide)) ?_
  refine And.intro (k_iload_n (pc := 2) (by decide +kernel : decode cX5_halfChecks 2 = .ok (.iload_n 2, 1)) rfl) ?_
  refine And.intro (k_iadd (pc := 3) (by decide +kernel : decode cX5_halfChecks 3 = .ok (.iadd, 1))) ?_
  refine And.intro (k_lald (pc := 4) (by decide +kernel : decode cX5_halfChecks 4 = .ok (.laload, 1))) ?_
  refine And.intro (k_lstore_n (pc := 5) (by decide +kernel : decode cX5_halfChecks 5 = .ok (.lstore_n 3, 1)) rfl) ?_
  refine And.intro (k_lload_n (pc := 6) (by decide +kernel : decode cX5_halfChecks 6 = .ok (.lload_n 3, 1)) rfl) ?_
  refine And.intro (k_lconst (pc := 7) (by decide +kernel : decode cX5_halfChecks 7 = .ok (.lconst 0, 1)) (by decide)) ?_
  refine And.intro (k_lcmp_lt (pc := 8) (by decide +kernel : decode cX5_halfChecks 8 = .ok (.lcmp, 1)) (by decide +kernel : decode cX5_halfChecks 9 = .ok (.ifCond .lt 13, 3)) (by decide)) ?_
  refine And.intro (k_lload_n (pc := 12) (by decide +kernel : decode cX5_halfChecks 12 = .ok (.lload_n 3, 1)) rfl) ?_
  refine And.intro (k_aload_n (pc := 13) (by decide +kernel : decode cX5_halfChecks 13 = .ok (.aload_n 0, 1)) rfl) ?_
  refine And.intro (k_crV (n := 0) (pc := 14) hG (zRoom_self 2) (tag := 5) rfl ini_X5 im_X5_allRows se_X5_allRows mk_X5_37 dy_X5_allRows (by decide +kernel : decode cX5_halfChecks 14 = .ok (.invokevirtual 37, 3))) ?_
  refine And.intro (k_i2l (pc := 17) (by decide +kernel : decode cX5_halfChecks 17 = .ok (.i2l, 1))) ?_
  refine And.intro (k_lcmp_lt (pc := 18) (by decide +kernel : decode cX5_halfChecks 18 = .ok (.lcmp, 1)) (by decide +kernel : decode cX5_halfChecks 19 = .ok (.ifCond .lt 5, 3)) (by decide)) ?_
  refine And.intro (k_iconst (pc := 22) (by decide +kernel : decode cX5_halfChecks 22 = .ok (.iconst 0, 1)) (by decide)) ?_
  refine And.intro (k_zreturn (pc := 23) rfl (by decide +kernel : decode cX5_halfChecks 23 = .ok (.ireturn, 1))) ?_
  refine And.intro (k_iload_n (pc := 24) (by decide +kernel : decode cX5_halfChecks 24 = .ok (.iload_n 2, 1)) rfl) ?_
  refine And.intro (k_if_ne (pc := 25) (by decide +kernel : decode cX5_halfChecks 25 = .ok (.ifCond .ne 7, 3)) (by decide)) ?_
  refine And.intro (k_iconst (pc := 28) (by decide +kernel : decode cX5_halfChecks 28 = .ok (.iconst 5, 1)) (by decide)) ?_
  refine And.intro (k_goto (pc := 29) (by decide +kernel : decode cX5_halfChecks 29 = .ok (.goto 5, 3)) (by decide)) ?_
  refine And.intro (k_bipush (pc := 32) (by decide +kernel : decode cX5_halfChecks 32 = .ok (.bipush 9, 2)) (by decide)) ?_
  refine And.intro (k_istore (pc := 34) (by decide +kernel : decode cX5_halfChecks 34 = .ok (.istore 5, 2))) ?_
  refine And.intro (k_iload_n (pc := 36) (by decide +kernel : decode cX5_halfChecks 36 = .ok (.iload_n 2, 1)) rfl) ?_
  refine And.intro (k_if_ne (pc := 37) (by decide +kernel : decode cX5_halfChecks 37 = .ok (.ifCond .ne 8, 3)) (by decide)) ?_
  refine And.intro (k_bipush (pc := 40) (by decide +kernel : decode cX5_halfChecks 40 = .ok (.bipush 7, 2)) (by decide)) ?_
  refine And.intro (k_goto (pc := 42) (by decide +kernel : decode cX5_halfChecks 42 = .ok (.goto 5, 3)) (by decide)) ?_
  refine And.intro (k_bipush (pc := 45) (by decide +kernel : decode cX5_halfChecks 45 = .ok (.bipush 11, 2)) (by decide)) ?_
  refine And.intro (k_istore (pc := 47) (by decide +kernel : decode cX5_halfChecks 47 = .ok (.istore 6, 2))) ?_
  refine And.intro (k_aload_n (pc := 49) (by decide +kernel : decode cX5_halfChecks 49 = .ok (.aload_n 1, 1)) rfl) ?_
  refine And.intro (k_iload (pc := 50) (by decide +kernel : decode cX5_halfChecks 50 = .ok (.iload 5, 2))) ?_
  refine And.intro (k_lald (pc := 52) (by decide +kernel : decode cX5_halfChecks 52 = .ok (.laload, 1))) ?_
  refine And.intro (k_aload_n (pc := 53) (by decide +kernel : decode cX5_halfChecks 53 = .ok (.aload_n 1, 1)) rfl) ?_
  refine And.intro (k_iload (pc := 54) (by decide +kernel : decode cX5_halfChecks 54 = .ok (.iload 6, 2))) ?_
  refine And.intro (k_iconst (pc := 56) (by decide +kernel : decode cX5_halfChecks 56 = .ok (.iconst 1, 1)) (by decide)) ?_
  refine And.intro (k_iadd (pc := 57) (by decide +kernel : decode cX5_halfChecks 57 = .ok (.iadd, 1))) ?_
  refine And.intro (k_lald (pc := 58) (by decide +kernel : decode cX5_halfChecks 58 = .ok (.laload, 1))) ?_
  refine And.intro (k_lmul (pc := 59) (by decide +kernel : decode cX5_halfChecks 59 = .ok (.lmul, 1))) ?_
  refine And.intro (k_lstore (pc := 60) (by decide +kernel : decode cX5_halfChecks 60 = .ok (.lstore 7, 2))) ?_
  refine And.intro (k_aload_n (pc := 62) (by decide +kernel : decode cX5_halfChecks 62 = .ok (.aload_n 1, 1)) rfl) ?_
  refine And.intro (k_iload (pc := 63) (by decide +kernel : decode cX5_halfChecks 63 = .ok (.iload 6, 2))) ?_
  refine And.intro (k_lald (pc := 65) (by decide +kernel : decode cX5_halfChecks 65 = .ok (.laload, 1))) ?_
  refine And.intro (k_aload_n (pc := 66) (by decide +kernel : decode cX5_halfChecks 66 = .ok (.aload_n 1, 1)) rfl) ?_
  refine And.intro (k_iload (pc := 67) (by decide +kernel : decode cX5_halfChecks 67 = .ok (.iload 5, 2))) ?_
  refine And.intro (k_iconst (pc := 69) (by decide +kernel : decode cX5_halfChecks 69 = .ok (.iconst 1, 1)) (by decide)) ?_
  refine And.intro (k_iadd (pc := 70) (by decide +kernel : decode cX5_halfChecks 70 = .ok (.iadd, 1))) ?_
  refine And.intro (k_lald (pc := 71) (by decide +kernel : decode cX5_halfChecks 71 = .ok (.laload, 1))) ?_
  refine And.intro (k_lmul (pc := 72) (by decide +kernel : decode cX5_halfChecks 72 = .ok (.lmul, 1))) ?_
  refine And.intro (k_lstore (pc := 73) (by decide +kernel : decode cX5_halfChecks 73 = .ok (.lstore 9, 2))) ?_
  refine And.intro (k_aload_n (pc := 75) (by decide +kernel : decode cX5_halfChecks 75 = .ok (.aload_n 1, 1)) rfl) ?_
  refine And.intro (k_iload (pc := 76) (by decide +kernel : decode cX5_halfChecks 76 = .ok (.iload 5, 2))) ?_
  refine And.intro (k_iconst (pc := 78) (by decide +kernel : decode cX5_halfChecks 78 = .ok (.iconst 1, 1)) (by decide)) ?_
  refine And.intro (k_iadd (pc := 79) (by decide +kernel : decode cX5_halfChecks 79 = .ok (.iadd, 1))) ?_
  refine And.intro (k_lald (pc := 80) (by decide +kernel : decode cX5_halfChecks 80 = .ok (.laload, 1))) ?_
  refine And.intro (k_aload_n (pc := 81) (by decide +kernel : decode cX5_halfChecks 81 = .ok (.aload_n 1, 1)) rfl) ?_
  refine And.intro (k_iload (pc := 82) (by decide +kernel : decode cX5_halfChecks 82 = .ok (.iload 6, 2))) ?_
  refine And.intro (k_iconst (pc := 84) (by decide +kernel : decode cX5_halfChecks 84 = .ok (.iconst 1, 1)) (by decide)) ?_
  refine And.intro (k_iadd (pc := 85) (by decide +kernel : decode cX5_halfChecks 85 = .ok (.iadd, 1))) ?_
  refine And.intro (k_lald (pc := 86) (by decide +kernel : decode cX5_halfChecks 86 = .ok (.laload, 1))) ?_
  refine And.intro (k_lmul (pc := 87) (by decide +kernel : decode cX5_halfChecks 87 = .ok (.lmul, 1))) ?_
  refine And.intro (k_lstore (pc := 88) (by decide +kernel : decode cX5_halfChecks 88 = .ok (.lstore 11, 2))) ?_
  refine And.intro (k_iload_n (pc := 90) (by decide +kernel : decode cX5_halfChecks 90 = .ok (.iload_n 2, 1)) rfl) ?_
  refine And.intro (k_if_ne (pc := 91) (by decide +kernel : decode cX5_halfChecks 91 = .ok (.ifCond .ne 7, 3)) (by decide)) ?_
  refine And.intro (k_lconst (pc := 94) (by decide +kernel : decode cX5_halfChecks 94 = .ok (.lconst 1, 1)) (by decide)) ?_
  refine And.intro (k_goto (pc := 95) (by decide +kernel : decode cX5_halfChecks 95 = .ok (.goto 6, 3)) (by decide)) ?_
  refine And.intro (k_ldc2 (pc := 98) csl_X5_77 (by decide +kernel : decode cX5_halfChecks 98 = .ok (.ldc2_w 77, 3))) ?_
  refine And.intro (k_lstore (pc := 101) (by decide +kernel : decode cX5_halfChecks 101 = .ok (.lstore 13, 2))) ?_
  refine And.intro (k_aload_n (pc := 103) (by decide +kernel : decode cX5_halfChecks 103 = .ok (.aload_n 1, 1)) rfl) ?_
  refine And.intro (k_bipush (pc := 104) (by decide +kernel : decode cX5_halfChecks 104 = .ok (.bipush 13, 2)) (by decide)) ?_
  refine And.intro (k_lald (pc := 106) (by decide +kernel : decode cX5_halfChecks 106 = .ok (.laload, 1))) ?_
  refine And.intro (k_lconst (pc := 107) (by decide +kernel : decode cX5_halfChecks 107 = .ok (.lconst 0, 1)) (by decide)) ?_
  refine And.intro (k_lcmp_ne (pc := 108) (by decide +kernel : decode cX5_halfChecks 108 = .ok (.lcmp, 1)) (by decide +kernel : decode cX5_halfChecks 109 = .ok (.ifCond .ne 8, 3)) (by decide)) ?_
  refine And.intro (k_lload (pc := 112) (by decide +kernel : decode cX5_halfChecks 112 = .ok (.lload 13, 2))) ?_
  refine And.intro (k_goto (pc := 114) (by decide +kernel : decode cX5_halfChecks 114 = .ok (.goto 4, 3)) (by decide)) ?_
  refine And.intro (k_lconst (pc := 117) (by decide +kernel : decode cX5_halfChecks 117 = .ok (.lconst 0, 1)) (by decide)) ?_
  refine And.intro (k_lstore (pc := 118) (by decide +kernel : decode cX5_halfChecks 118 = .ok (.lstore 15, 2))) ?_
  refine And.intro (k_aload_n (pc := 120) (by decide +kernel : decode cX5_halfChecks 120 = .ok (.aload_n 1, 1)) rfl) ?_
  refine And.intro (k_bipush (pc := 121) (by decide +kernel : decode cX5_halfChecks 121 = .ok (.bipush 13, 2)) (by decide)) ?_
  refine And.intro (k_lald (pc := 123) (by decide +kernel : decode cX5_halfChecks 123 = .ok (.laload, 1))) ?_
  refine And.intro (k_lconst (pc := 124) (by decide +kernel : decode cX5_halfChecks 124 = .ok (.lconst 0, 1)) (by decide)) ?_
  refine And.intro (k_lcmp_ne (pc := 125) (by decide +kernel : decode cX5_halfChecks 125 = .ok (.lcmp, 1)) (by decide +kernel : decode cX5_halfChecks 126 = .ok (.ifCond .ne 7, 3)) (by decide)) ?_
  refine And.intro (k_lconst (pc := 129) (by decide +kernel : decode cX5_halfChecks 129 = .ok (.lconst 0, 1)) (by decide)) ?_
  refine And.intro (k_goto (pc := 130) (by decide +kernel : decode cX5_halfChecks 130 = .ok (.goto 5, 3)) (by decide)) ?_
  refine And.intro (k_lload (pc := 133) (by decide +kernel : decode cX5_halfChecks 133 = .ok (.lload 13, 2))) ?_
  refine And.intro (k_lstore (pc := 135) (by decide +kernel : decode cX5_halfChecks 135 = .ok (.lstore 17, 2))) ?_
  refine And.intro (k_lload (pc := 137) (by decide +kernel : decode cX5_halfChecks 137 = .ok (.lload 13, 2))) ?_
  refine And.intro (k_aload_n (pc := 139) (by decide +kernel : decode cX5_halfChecks 139 = .ok (.aload_n 1, 1)) rfl) ?_
  refine And.intro (k_bipush (pc := 140) (by decide +kernel : decode cX5_halfChecks 140 = .ok (.bipush 14, 2)) (by decide)) ?_
  refine And.intro (k_lald (pc := 142) (by decide +kernel : decode cX5_halfChecks 142 = .ok (.laload, 1))) ?_
  refine And.intro (k_iload_n (pc := 143) (by decide +kernel : decode cX5_halfChecks 143 = .ok (.iload_n 2, 1)) rfl) ?_
  refine And.intro (k_i2l (pc := 144) (by decide +kernel : decode cX5_halfChecks 144 = .ok (.i2l, 1))) ?_
  refine And.intro (k_ladd (pc := 145) (by decide +kernel : decode cX5_halfChecks 145 = .ok (.ladd, 1))) ?_
  refine And.intro (k_lmul (pc := 146) (by decide +kernel : decode cX5_halfChecks 146 = .ok (.lmul, 1))) ?_
  refine And.intro (k_lstore (pc := 147) (by decide +kernel : decode cX5_halfChecks 147 = .ok (.lstore 19, 2))) ?_
  refine And.intro (k_lload (pc := 149) (by decide +kernel : decode cX5_halfChecks 149 = .ok (.lload 7, 2))) ?_
  refine And.intro (k_aload_n (pc := 151) (by decide +kernel : decode cX5_halfChecks 151 = .ok (.aload_n 0, 1)) rfl) ?_
  refine And.intro (k_lload_n (pc := 152) (by decide +kernel : decode cX5_halfChecks 152 = .ok (.lload_n 3, 1)) rfl) ?_
  refine And.intro (k_l2i (pc := 153) (by decide +kernel : decode cX5_halfChecks 153 = .ok (.l2i, 1))) ?_
  refine And.intro (k_iconst (pc := 154) (by decide +kernel : decode cX5_halfChecks 154 = .ok (.iconst 0, 1)) (by decide)) ?_
  refine And.intro (k_crV (n := 2) (pc := 155) hG (zRoom_self 2) (tag := 5) rfl ini_X5 im_X5_part se_X5_part mk_X5_48 dy_X5_part (by decide +kernel : decode cX5_halfChecks 155 = .ok (.invokevirtual 48, 3))) ?_
  refine And.intro (k_i2l (pc := 158) (by decide +kernel : decode cX5_halfChecks 158 = .ok (.i2l, 1))) ?_
  refine And.intro (k_lmul (pc := 159) (by decide +kernel : decode cX5_halfChecks 159 = .ok (.lmul, 1))) ?_
  refine And.intro (k_lload (pc := 160) (by decide +kernel : decode cX5_halfChecks 160 = .ok (.lload 9, 2))) ?_
  refine And.intro (k_lload (pc := 162) (by decide +kernel : decode cX5_halfChecks 162 = .ok (.lload 15, 2))) ?_
  refine And.intro (k_lmul (pc := 164) (by decide +kernel : decode cX5_halfChecks 164 = .ok (.lmul, 1))) ?_
  refine And.intro (k_ladd (pc := 165) (by decide +kernel : decode cX5_halfChecks 165 = .ok (.ladd, 1))) ?_
  refine And.intro (k_aload_n (pc := 166) (by decide +kernel : decode cX5_halfChecks 166 = .ok (.aload_n 1, 1)) rfl) ?_
  refine And.intro (k_iconst (pc := 167) (by decide +kernel : decode cX5_halfChecks 167 = .ok (.iconst 0, 1)) (by decide)) ?_
  refine And.intro (k_lald (pc := 168) (by decide +kernel : decode cX5_halfChecks 168 = .ok (.laload, 1))) ?_
  refine And.intro (k_lload (pc := 169) (by decide +kernel : decode cX5_halfChecks 169 = .ok (.lload 11, 2))) ?_
  refine And.intro (k_lmul (pc := 171) (by decide +kernel : decode cX5_halfChecks 171 = .ok (.lmul, 1))) ?_
  refine And.intro (k_lcmp_ne (pc := 172) (by decide +kernel : decode cX5_halfChecks 172 = .ok (.lcmp, 1)) (by decide +kernel : decode cX5_halfChecks 173 = .ok (.ifCond .ne 61, 3)) (by decide)) ?_
  refine And.intro (k_lload (pc := 176) (by decide +kernel : decode cX5_halfChecks 176 = .ok (.lload 7, 2))) ?_
  refine And.intro (k_aload_n (pc := 178) (by decide +kernel : decode cX5_halfChecks 178 = .ok (.aload_n 0, 1)) rfl) ?_
  refine And.intro (k_lload_n (pc := 179) (by decide +kernel : decode cX5_halfChecks 179 = .ok (.lload_n 3, 1)) rfl) ?_
  refine And.intro (k_l2i (pc := 180) (by decide +kernel : decode cX5_halfChecks 180 = .ok (.l2i, 1))) ?_
  refine And.intro (k_iconst (pc := 181) (by decide +kernel : decode cX5_halfChecks 181 = .ok (.iconst 1, 1)) (by decide)) ?_
  refine And.intro (k_crV (n := 2) (pc := 182) hG (zRoom_self 2) (tag := 5) rfl ini_X5 im_X5_part se_X5_part mk_X5_48 dy_X5_part (by decide +kernel : decode cX5_halfChecks 182 = .ok (.invokevirtual 48, 3))) ?_
  refine And.intro (k_i2l (pc := 185) (by decide +kernel : decode cX5_halfChecks 185 = .ok (.i2l, 1))) ?_
  refine And.intro (k_lmul (pc := 186) (by decide +kernel : decode cX5_halfChecks 186 = .ok (.lmul, 1))) ?_
  refine And.intro (k_lload (pc := 187) (by decide +kernel : decode cX5_halfChecks 187 = .ok (.lload 9, 2))) ?_
  refine And.intro (k_lload (pc := 189) (by decide +kernel : decode cX5_halfChecks 189 = .ok (.lload 17, 2))) ?_
  refine And.intro (k_lmul (pc := 191) (by decide +kernel : decode cX5_halfChecks 191 = .ok (.lmul, 1))) ?_
  refine And.intro (k_ladd (pc := 192) (by decide +kernel : decode cX5_halfChecks 192 = .ok (.ladd, 1))) ?_
  refine And.intro (k_aload_n (pc := 193) (by decide +kernel : decode cX5_halfChecks 193 = .ok (.aload_n 1, 1)) rfl) ?_
  refine And.intro (k_iconst (pc := 194) (by decide +kernel : decode cX5_halfChecks 194 = .ok (.iconst 1, 1)) (by decide)) ?_
  refine And.intro (k_lald (pc := 195) (by decide +kernel : decode cX5_halfChecks 195 = .ok (.laload, 1))) ?_
  refine And.intro (k_lload (pc := 196) (by decide +kernel : decode cX5_halfChecks 196 = .ok (.lload 11, 2))) ?_
  refine And.intro (k_lmul (pc := 198) (by decide +kernel : decode cX5_halfChecks 198 = .ok (.lmul, 1))) ?_
  refine And.intro (k_lcmp_ne (pc := 199) (by decide +kernel : decode cX5_halfChecks 199 = .ok (.lcmp, 1)) (by decide +kernel : decode cX5_halfChecks 200 = .ok (.ifCond .ne 34, 3)) (by decide)) ?_
  refine And.intro (k_lload (pc := 203) (by decide +kernel : decode cX5_halfChecks 203 = .ok (.lload 7, 2))) ?_
  refine And.intro (k_aload_n (pc := 205) (by decide +kernel : decode cX5_halfChecks 205 = .ok (.aload_n 0, 1)) rfl) ?_
  refine And.intro (k_lload_n (pc := 206) (by decide +kernel : decode cX5_halfChecks 206 = .ok (.lload_n 3, 1)) rfl) ?_
  refine And.intro (k_l2i (pc := 207) (by decide +kernel : decode cX5_halfChecks 207 = .ok (.l2i, 1))) ?_
  refine And.intro (k_iconst (pc := 208) (by decide +kernel : decode cX5_halfChecks 208 = .ok (.iconst 2, 1)) (by decide)) ?_
  refine And.intro (k_crV (n := 2) (pc := 209) hG (zRoom_self 2) (tag := 5) rfl ini_X5 im_X5_part se_X5_part mk_X5_48 dy_X5_part (by decide +kernel : decode cX5_halfChecks 209 = .ok (.invokevirtual 48, 3))) ?_
  refine And.intro (k_i2l (pc := 212) (by decide +kernel : decode cX5_halfChecks 212 = .ok (.i2l, 1))) ?_
  refine And.intro (k_lmul (pc := 213) (by decide +kernel : decode cX5_halfChecks 213 = .ok (.lmul, 1))) ?_
  refine And.intro (k_lload (pc := 214) (by decide +kernel : decode cX5_halfChecks 214 = .ok (.lload 9, 2))) ?_
  refine And.intro (k_lload (pc := 216) (by decide +kernel : decode cX5_halfChecks 216 = .ok (.lload 19, 2))) ?_
  refine And.intro (k_lmul (pc := 218) (by decide +kernel : decode cX5_halfChecks 218 = .ok (.lmul, 1))) ?_
  refine And.intro (k_ladd (pc := 219) (by decide +kernel : decode cX5_halfChecks 219 = .ok (.ladd, 1))) ?_
  refine And.intro (k_aload_n (pc := 220) (by decide +kernel : decode cX5_halfChecks 220 = .ok (.aload_n 1, 1)) rfl) ?_
  refine And.intro (k_iconst (pc := 221) (by decide +kernel : decode cX5_halfChecks 221 = .ok (.iconst 2, 1)) (by decide)) ?_
  refine And.intro (k_lald (pc := 222) (by decide +kernel : decode cX5_halfChecks 222 = .ok (.laload, 1))) ?_
  refine And.intro (k_lload (pc := 223) (by decide +kernel : decode cX5_halfChecks 223 = .ok (.lload 11, 2))) ?_
  refine And.intro (k_lmul (pc := 225) (by decide +kernel : decode cX5_halfChecks 225 = .ok (.lmul, 1))) ?_
  refine And.intro (k_lcmp_gt (pc := 226) (by decide +kernel : decode cX5_halfChecks 226 = .ok (.lcmp, 1)) (by decide +kernel : decode cX5_halfChecks 227 = .ok (.ifCond .gt 7, 3)) (by decide)) ?_
  refine And.intro (k_iconst (pc := 230) (by decide +kernel : decode cX5_halfChecks 230 = .ok (.iconst 1, 1)) (by decide)) ?_
  refine And.intro (k_goto (pc := 231) (by decide +kernel : decode cX5_halfChecks 231 = .ok (.goto 4, 3)) (by decide)) ?_
  refine And.intro (k_iconst (pc := 234) (by decide +kernel : decode cX5_halfChecks 234 = .ok (.iconst 0, 1)) (by decide)) ?_
  refine And.intro (k_zreturn (pc := 235) rfl (by decide +kernel : decode cX5_halfChecks 235 = .ok (.ireturn, 1))) ?_
  exact trivial
theorem cdX5_halfChecks : Cond.code yX5_halfChecks cX5_halfChecks 21 (some .boolean) ∈ zWs := zWs_in 793 (by decide +kernel) rfl
noncomputable def pgX5_proofChecks : zPg := [(0, o_al 0), (1, o_il 1), (2, o_vr2 yX5_hasCut 5 2), (5, o_if_eq 40), (8, o_al 0), (9, o_al 0), (10, o_gR 5 3), (13, o_il 1), (14, o_xR 20), (15, o_ic (0)), (16, o_vr2 yX5_halfChecks 5 3), (19, o_if_eq 40), (22, o_al 0), (23, o_al 0), (24, o_gR 5 3), (27, o_il 1), (28, o_xR 20), (29, o_ic (1)), (30, o_vr2 yX5_halfChecks 5 3), (33, o_if_eq 40), (36, o_ic (1)), (37, o_go 41), (40, o_ic (0)), (41, o_zr)]
set_option maxRecDepth 20000 in
theorem pkX5_proofChecks {G : zG} (hG : zGok G) (Q : zRt) : zPOK G (zRm 3) RX5 cX5_proofChecks 2 (some .boolean) (zF G Q 0 0) 0 0 (zCalls G 3) Q pgX5_proofChecks := by
  refine And.intro (k_aload_n (pc := 0) (by decide +kernel : decode cX5_proofChecks 0 = .ok (.aload_n 0, 1)) rfl) ?_
  refine And.intro (k_iload_n (pc := 1) (by decide +kernel : decode cX5_proofChecks 1 = .ok (.iload_n 1, 1)) rfl) ?_
  refine And.intro (k_crV (n := 1) (pc := 2) hG (zRoom_self 3) (tag := 5) rfl ini_X5 im_X5_hasCut se_X5_hasCut mk_X5_67 dy_X5_hasCut (by decide +kernel : decode cX5_proofChecks 2 = .ok (.invokevirtual 67, 3))) ?_
  refine And.intro (k_if_eq (pc := 5) (by decide +kernel : decode cX5_proofChecks 5 = .ok (.ifCond .eq 35, 3)) (by decide)) ?_
  refine And.intro (k_aload_n (pc := 8) (by decide +kernel : decode cX5_proofChecks 8 = .ok (.aload_n 0, 1)) rfl) ?_
  refine And.intro (k_aload_n (pc := 9) (by decide +kernel : decode cX5_proofChecks 9 = .ok (.aload_n 0, 1)) rfl) ?_
  refine And.intro (k_gR (pc := 10) rfl (by decide) rfl zin5 lk_X5_24 (by decide +kernel : decode cX5_proofChecks 10 = .ok (.getfield 24, 3))) ?_
  refine And.intro (k_iload_n (pc := 13) (by decide +kernel : decode cX5_proofChecks 13 = .ok (.iload_n 1, 1)) rfl) ?_
  refine And.intro (k_aald20 (pc := 14) (by decide +kernel : decode cX5_proofChecks 14 = .ok (.aaload, 1))) ?_
  refine And.intro (k_iconst (pc := 15) (by decide +kernel : decode cX5_proofChecks 15 = .ok (.iconst 0, 1)) (by decide)) ?_
  refine And.intro (k_crV (n := 2) (pc := 16) hG (zRoom_self 3) (tag := 5) rfl ini_X5 im_X5_halfChecks se_X5_halfChecks mk_X5_73 dy_X5_halfChecks (by decide +kernel : decode cX5_proofChecks 16 = .ok (.invokevirtual 73, 3))) ?_
  refine And.intro (k_if_eq (pc := 19) (by decide +kernel : decode cX5_proofChecks 19 = .ok (.ifCond .eq 21, 3)) (by decide)) ?_
  refine And.intro (k_aload_n (pc := 22) (by decide +kernel : decode cX5_proofChecks 22 = .ok (.aload_n 0, 1)) rfl) ?_
  refine And.intro (k_aload_n (pc := 23) (by decide +kernel : decode cX5_proofChecks 23 = .ok (.aload_n 0, 1)) rfl) ?_
  refine And.intro (k_gR (pc := 24) rfl (by decide) rfl zin5 lk_X5_24 (by decide +kernel : decode cX5_proofChecks 24 = .ok (.getfield 24, 3))) ?_
  refine And.intro (k_iload_n (pc := 27) (by decide +kernel : decode cX5_proofChecks 27 = .ok (.iload_n 1, 1)) rfl) ?_
  refine And.intro (k_aald20 (pc := 28) (by decide +kernel : decode cX5_proofChecks 28 = .ok (.aaload, 1))) ?_
  refine And.intro (k_iconst (pc := 29) (by decide +kernel : decode cX5_proofChecks 29 = .ok (.iconst 1, 1)) (by decide)) ?_
  refine And.intro (k_crV (n := 2) (pc := 30) hG (zRoom_self 3) (tag := 5) rfl ini_X5 im_X5_halfChecks se_X5_halfChecks mk_X5_73 dy_X5_halfChecks (by decide +kernel : decode cX5_proofChecks 30 = .ok (.invokevirtual 73, 3))) ?_
  refine And.intro (k_if_eq (pc := 33) (by decide +kernel : decode cX5_proofChecks 33 = .ok (.ifCond .eq 7, 3)) (by decide)) ?_
  refine And.intro (k_iconst (pc := 36) (by decide +kernel : decode cX5_proofChecks 36 = .ok (.iconst 1, 1)) (by decide)) ?_
  refine And.intro (k_goto (pc := 37) (by decide +kernel : decode cX5_proofChecks 37 = .ok (.goto 4, 3)) (by decide)) ?_
  refine And.intro (k_iconst (pc := 40) (by decide +kernel : decode cX5_proofChecks 40 = .ok (.iconst 0, 1)) (by decide)) ?_
  refine And.intro (k_zreturn (pc := 41) rfl (by decide +kernel : decode cX5_proofChecks 41 = .ok (.ireturn, 1))) ?_
  exact trivial
theorem cdX5_proofChecks : Cond.code yX5_proofChecks cX5_proofChecks 2 (some .boolean) ∈ zWs := zWs_in 788 (by decide +kernel) rfl
noncomputable def pgX5_checkedCuts : zPg := [(0, o_ic (0)), (1, o_is 1), (2, o_ic (0)), (3, o_is 2), (4, o_il 2), (5, o_al 0), (6, o_gI 5 1), (9, o_ic_ge 29), (12, o_al 0), (13, o_il 2), (14, o_vr2 yX5_proofChecks 5 2), (17, o_if_eq 23), (20, o_inc 1 (1)), (23, o_inc 2 (1)), (26, o_go 4), (29, o_il 1), (30, o_ir)]
set_option maxRecDepth 20000 in
theorem pkX5_checkedCuts {G : zG} (hG : zGok G) (Q : zRt) : zPOK G (zRm 4) RX5 cX5_checkedCuts 3 (some .int) (zF G Q 0 0) 0 0 (zCalls G 4) Q pgX5_checkedCuts := by
  refine And.intro (k_iconst (pc := 0) (by decide +kernel : decode cX5_checkedCuts 0 = .ok (.iconst 0, 1)) (by decide)) ?_
  refine And.intro (k_istore_n (pc := 1) (by decide +kernel : decode cX5_checkedCuts 1 = .ok (.istore_n 1, 1)) rfl) ?_
  refine And.intro (k_iconst (pc := 2) (by decide +kernel : decode cX5_checkedCuts 2 = .ok (.iconst 0, 1)) (by decide)) ?_
  refine And.intro (k_istore_n (pc := 3) (by decide +kernel : decode cX5_checkedCuts 3 = .ok (.istore_n 2, 1)) rfl) ?_
  refine And.intro (k_iload_n (pc := 4) (by decide +kernel : decode cX5_checkedCuts 4 = .ok (.iload_n 2, 1)) rfl) ?_
  refine And.intro (k_aload_n (pc := 5) (by decide +kernel : decode cX5_checkedCuts 5 = .ok (.aload_n 0, 1)) rfl) ?_
  refine And.intro (k_gI (pc := 6) rfl (by decide) rfl zin5 lk_X5_15 (by decide +kernel : decode cX5_checkedCuts 6 = .ok (.getfield 15, 3))) ?_
  refine And.intro (k_icmp_ge (pc := 9) (by decide +kernel : decode cX5_checkedCuts 9 = .ok (.if_icmp .ge 20, 3)) (by decide)) ?_
  refine And.intro (k_aload_n (pc := 12) (by decide +kernel : decode cX5_checkedCuts 12 = .ok (.aload_n 0, 1)) rfl) ?_
  refine And.intro (k_iload_n (pc := 13) (by decide +kernel : decode cX5_checkedCuts 13 = .ok (.iload_n 2, 1)) rfl) ?_
  refine And.intro (k_crV (n := 1) (pc := 14) hG (zRoom_self 4) (tag := 5) rfl ini_X5 im_X5_proofChecks se_X5_proofChecks mk_X5_70 dy_X5_proofChecks (by decide +kernel : decode cX5_checkedCuts 14 = .ok (.invokevirtual 70, 3))) ?_
  refine And.intro (k_if_eq (pc := 17) (by decide +kernel : decode cX5_checkedCuts 17 = .ok (.ifCond .eq 6, 3)) (by decide)) ?_
  refine And.intro (k_iinc (pc := 20) (by decide +kernel : decode cX5_checkedCuts 20 = .ok (.iinc 1 1, 3)) (by decide)) ?_
  refine And.intro (k_iinc (pc := 23) (by decide +kernel : decode cX5_checkedCuts 23 = .ok (.iinc 2 1, 3)) (by decide)) ?_
  refine And.intro (k_goto (pc := 26) (by decide +kernel : decode cX5_checkedCuts 26 = .ok (.goto (-22), 3)) (by decide)) ?_
  refine And.intro (k_iload_n (pc := 29) (by decide +kernel : decode cX5_checkedCuts 29 = .ok (.iload_n 1, 1)) rfl) ?_
  refine And.intro (k_ireturn (pc := 30) rfl (by decide +kernel : decode cX5_checkedCuts 30 = .ok (.ireturn, 1))) ?_
  exact trivial
theorem cdX5_checkedCuts : Cond.code yX5_checkedCuts cX5_checkedCuts 3 (some .int) ∈ zWs := zWs_in 1006 (by decide +kernel) rfl
noncomputable def pgX6_putDifference : zPg := [(0, o_al 0), (1, o_al 1), (2, o_gJ 6 0), (5, o_al 2), (6, o_gJ 6 1), (9, o_lmul), (10, o_al 2), (11, o_gJ 6 0), (14, o_al 1), (15, o_gJ 6 1), (18, o_lmul), (19, o_lsub), (20, o_al 1), (21, o_gJ 6 1), (24, o_al 2), (25, o_gJ 6 1), (28, o_lmul), (29, o_vv yX6_put 6 3), (32, o_vr)]
set_option maxRecDepth 20000 in
theorem pkX6_putDifference {G : zG} (hG : zGok G) (Q : zRt) : zPOK G (zRm 3) RX6 cX6_putDifference 3 none (zF G Q 0 0) 0 0 (zCalls G 3) Q pgX6_putDifference := by
  refine And.intro (k_aload_n (pc := 0) (by decide +kernel : decode cX6_putDifference 0 = .ok (.aload_n 0, 1)) rfl) ?_
  refine And.intro (k_aload_n (pc := 1) (by decide +kernel : decode cX6_putDifference 1 = .ok (.aload_n 1, 1)) rfl) ?_
  refine And.intro (k_gJ (pc := 2) rfl (by decide) rfl zin6 lk_X6_7 (by decide +kernel : decode cX6_putDifference 2 = .ok (.getfield 7, 3))) ?_
  refine And.intro (k_aload_n (pc := 5) (by decide +kernel : decode cX6_putDifference 5 = .ok (.aload_n 2, 1)) rfl) ?_
  refine And.intro (k_gJ (pc := 6) rfl (by decide) rfl zin6 lk_X6_13 (by decide +kernel : decode cX6_putDifference 6 = .ok (.getfield 13, 3))) ?_
  refine And.intro (k_lmul (pc := 9) (by decide +kernel : decode cX6_putDifference 9 = .ok (.lmul, 1))) ?_
  refine And.intro (k_aload_n (pc := 10) (by decide +kernel : decode cX6_putDifference 10 = .ok (.aload_n 2, 1)) rfl) ?_
  refine And.intro (k_gJ (pc := 11) rfl (by decide) rfl zin6 lk_X6_7 (by decide +kernel : decode cX6_putDifference 11 = .ok (.getfield 7, 3))) ?_
  refine And.intro (k_aload_n (pc := 14) (by decide +kernel : decode cX6_putDifference 14 = .ok (.aload_n 1, 1)) rfl) ?_
  refine And.intro (k_gJ (pc := 15) rfl (by decide) rfl zin6 lk_X6_13 (by decide +kernel : decode cX6_putDifference 15 = .ok (.getfield 13, 3))) ?_
  refine And.intro (k_lmul (pc := 18) (by decide +kernel : decode cX6_putDifference 18 = .ok (.lmul, 1))) ?_
  refine And.intro (k_lsub (pc := 19) (by decide +kernel : decode cX6_putDifference 19 = .ok (.lsub, 1))) ?_
  refine And.intro (k_aload_n (pc := 20) (by decide +kernel : decode cX6_putDifference 20 = .ok (.aload_n 1, 1)) rfl) ?_
  refine And.intro (k_gJ (pc := 21) rfl (by decide) rfl zin6 lk_X6_13 (by decide +kernel : decode cX6_putDifference 21 = .ok (.getfield 13, 3))) ?_
  refine And.intro (k_aload_n (pc := 24) (by decide +kernel : decode cX6_putDifference 24 = .ok (.aload_n 2, 1)) rfl) ?_
  refine And.intro (k_gJ (pc := 25) rfl (by decide) rfl zin6 lk_X6_13 (by decide +kernel : decode cX6_putDifference 25 = .ok (.getfield 13, 3))) ?_
  refine And.intro (k_lmul (pc := 28) (by decide +kernel : decode cX6_putDifference 28 = .ok (.lmul, 1))) ?_
  refine And.intro (k_cvV (n := 2) (pc := 29) hG (zRoom_self 3) (tag := 6) rfl ini_X6 im_X6_put se_X6_put mk_X6_22 dy_X6_put (by decide +kernel : decode cX6_putDifference 29 = .ok (.invokevirtual 22, 3))) ?_
  refine And.intro (k_return (pc := 32) rfl (by decide +kernel : decode cX6_putDifference 32 = .ok (.return_, 1))) ?_
  exact trivial
theorem cdX6_putDifference : Cond.code yX6_putDifference cX6_putDifference 3 none ∈ zWs := zWs_in 728 (by decide +kernel) rfl
noncomputable def pgJ13_compare_74951 : zPg := [(0, o_ll 0), (1, o_ll 2), (2, o_lc_ge 10), (6, o_ic (-1)), (7, o_go 21), (10, o_ll 0), (11, o_ll 2), (12, o_lc_ne 20), (16, o_ic (0)), (17, o_go 21), (20, o_ic (1)), (21, o_ir)]
set_option maxRecDepth 20000 in
theorem pkJ13_compare_74951 {G : zG} (hG : zGok G) (Q : zRt) : zPOK G (zRm 0) RJ13 cJ13_compare_74951 4 (some .int) (zF G Q 0 0) 0 0 (zCalls G 0) Q pgJ13_compare_74951 := by
  refine And.intro (k_lload_n (pc := 0) (by decide +kernel : decode cJ13_compare_74951 0 = .ok (.lload_n 0, 1)) rfl) ?_
  refine And.intro (k_lload_n (pc := 1) (by decide +kernel : decode cJ13_compare_74951 1 = .ok (.lload_n 2, 1)) rfl) ?_
  refine And.intro (k_lcmp_ge (pc := 2) (by decide +kernel : decode cJ13_compare_74951 2 = .ok (.lcmp, 1)) (by decide +kernel : decode cJ13_compare_74951 3 = .ok (.ifCond .ge 7, 3)) (by decide)) ?_
  refine And.intro (k_iconst (pc := 6) (by decide +kernel : decode cJ13_compare_74951 6 = .ok (.iconst (-1), 1)) (by decide)) ?_
  refine And.intro (k_goto (pc := 7) (by decide +kernel : decode cJ13_compare_74951 7 = .ok (.goto 14, 3)) (by decide)) ?_
  refine And.intro (k_lload_n (pc := 10) (by decide +kernel : decode cJ13_compare_74951 10 = .ok (.lload_n 0, 1)) rfl) ?_
  refine And.intro (k_lload_n (pc := 11) (by decide +kernel : decode cJ13_compare_74951 11 = .ok (.lload_n 2, 1)) rfl) ?_
  refine And.intro (k_lcmp_ne (pc := 12) (by decide +kernel : decode cJ13_compare_74951 12 = .ok (.lcmp, 1)) (by decide +kernel : decode cJ13_compare_74951 13 = .ok (.ifCond .ne 7, 3)) (by decide)) ?_
  refine And.intro (k_iconst (pc := 16) (by decide +kernel : decode cJ13_compare_74951 16 = .ok (.iconst 0, 1)) (by decide)) ?_
  refine And.intro (k_goto (pc := 17) (by decide +kernel : decode cJ13_compare_74951 17 = .ok (.goto 4, 3)) (by decide)) ?_
  refine And.intro (k_iconst (pc := 20) (by decide +kernel : decode cJ13_compare_74951 20 = .ok (.iconst 1, 1)) (by decide)) ?_
  refine And.intro (k_ireturn (pc := 21) rfl (by decide +kernel : decode cJ13_compare_74951 21 = .ok (.ireturn, 1))) ?_
  exact trivial
theorem cdJ13_compare_74951 : Cond.code yJ13_compare_74951 cJ13_compare_74951 4 (some .int) ∈ zWs := zWs_in 702 (by decide +kernel) rfl
noncomputable def pgJ2_length_9d52b : zPg := [(0, o_al 0), (1, o_len), (2, o_ic (1)), (3, o_ishr), (4, o_ir)]
set_option maxRecDepth 20000 in
theorem pkJ2_length_9d52b {G : zG} (hG : zGok G) (Q : zRt) : zPOK G (zRm 0) RJ2 cJ2_length_9d52b 1 (some .int) (zF G Q 0 0) 0 0 (zCalls G 0) Q pgJ2_length_9d52b := by
  refine And.intro (k_aload_n (pc := 0) (by decide +kernel : decode cJ2_length_9d52b 0 = .ok (.aload_n 0, 1)) rfl) ?_
  refine And.intro (k_alen (pc := 1) (by decide +kernel : decode cJ2_length_9d52b 1 = .ok (.arraylength, 1))) ?_
  refine And.intro (k_iconst (pc := 2) (by decide +kernel : decode cJ2_length_9d52b 2 = .ok (.iconst 1, 1)) (by decide)) ?_
  refine And.intro (k_ishr (pc := 3) (by decide +kernel : decode cJ2_length_9d52b 3 = .ok (.ishr, 1))) ?_
  refine And.intro (k_ireturn (pc := 4) rfl (by decide +kernel : decode cJ2_length_9d52b 4 = .ok (.ireturn, 1))) ?_
  exact trivial
theorem cdJ2_length_9d52b : Cond.code yJ2_length_9d52b cJ2_length_9d52b 1 (some .int) ∈ zWs := zWs_in 456 (by decide +kernel) rfl
noncomputable def pgJ2_checkIndex_2214a : zPg := [(0, o_il 0), (1, o_al 1), (2, o_cr yJ2_length_9d52b 1), (5, o_cv yJ0_checkIndex_df160 2), (8, o_vr)]
set_option maxRecDepth 20000 in
theorem pkJ2_checkIndex_2214a {G : zG} (hG : zGok G) (Q : zRt) : zPOK G (zRm 3) RJ2 cJ2_checkIndex_2214a 2 none (zF G Q 0 0) 0 0 (zCalls G 3) Q pgJ2_checkIndex_2214a := by
  refine And.intro (k_iload_n (pc := 0) (by decide +kernel : decode cJ2_checkIndex_2214a 0 = .ok (.iload_n 0, 1)) rfl) ?_
  refine And.intro (k_aload_n (pc := 1) (by decide +kernel : decode cJ2_checkIndex_2214a 1 = .ok (.aload_n 1, 1)) rfl) ?_
  refine And.intro (k_crS (n := 1) (pc := 2) hG (zRoom_self 3) ini_J2 sta_J2_length_9d52b mk_J2_48 dy_J2_length_9d52b (by decide +kernel : decode cJ2_checkIndex_2214a 2 = .ok (.invokestatic 48, 3))) ?_
  refine And.intro (k_cvS (n := 2) (pc := 5) hG (zRoom_self 3) ini_J0 sta_J0_checkIndex_df160 mk_J2_414 dy_J0_checkIndex_df160 (by decide +kernel : decode cJ2_checkIndex_2214a 5 = .ok (.invokestatic 414, 3))) ?_
  refine And.intro (k_return (pc := 8) rfl (by decide +kernel : decode cJ2_checkIndex_2214a 8 = .ok (.return_, 1))) ?_
  exact trivial
theorem cdJ2_checkIndex_2214a : Cond.code yJ2_checkIndex_2214a cJ2_checkIndex_2214a 2 none ∈ zWs := zWs_in 453 (by decide +kernel) rfl
noncomputable def pgJ9_floorDiv_f86c9 : zPg := [(0, o_ll 0), (1, o_ll 2), (2, o_ldiv), (3, o_ls 4), (5, o_ll 0), (6, o_ll 2), (7, o_lxor), (8, o_lc 0), (9, o_lc_ge 27), (13, o_ll 4), (15, o_ll 2), (16, o_lmul), (17, o_ll 0), (18, o_lc_eq 27), (22, o_ll 4), (24, o_lc 1), (25, o_lsub), (26, o_lr), (27, o_ll 4), (29, o_lr)]
set_option maxRecDepth 20000 in
theorem pkJ9_floorDiv_f86c9 {G : zG} (hG : zGok G) (Q : zRt) : zPOK G (zRm 0) RJ9 cJ9_floorDiv_f86c9 6 (some .long) (zF G Q 0 0) 0 0 (zCalls G 0) Q pgJ9_floorDiv_f86c9 := by
  refine And.intro (k_lload_n (pc := 0) (by decide +kernel : decode cJ9_floorDiv_f86c9 0 = .ok (.lload_n 0, 1)) rfl) ?_
  refine And.intro (k_lload_n (pc := 1) (by decide +kernel : decode cJ9_floorDiv_f86c9 1 = .ok (.lload_n 2, 1)) rfl) ?_
  refine And.intro (k_ldiv (pc := 2) (by decide +kernel : decode cJ9_floorDiv_f86c9 2 = .ok (.ldiv, 1))) ?_
  refine And.intro (k_lstore (pc := 3) (by decide +kernel : decode cJ9_floorDiv_f86c9 3 = .ok (.lstore 4, 2))) ?_
  refine And.intro (k_lload_n (pc := 5) (by decide +kernel : decode cJ9_floorDiv_f86c9 5 = .ok (.lload_n 0, 1)) rfl) ?_
  refine And.intro (k_lload_n (pc := 6) (by decide +kernel : decode cJ9_floorDiv_f86c9 6 = .ok (.lload_n 2, 1)) rfl) ?_
  refine And.intro (k_lxor (pc := 7) (by decide +kernel : decode cJ9_floorDiv_f86c9 7 = .ok (.lxor, 1))) ?_
  refine And.intro (k_lconst (pc := 8) (by decide +kernel : decode cJ9_floorDiv_f86c9 8 = .ok (.lconst 0, 1)) (by decide)) ?_
  refine And.intro (k_lcmp_ge (pc := 9) (by decide +kernel : decode cJ9_floorDiv_f86c9 9 = .ok (.lcmp, 1)) (by decide +kernel : decode cJ9_floorDiv_f86c9 10 = .ok (.ifCond .ge 17, 3)) (by decide)) ?_
  refine And.intro (k_lload (pc := 13) (by decide +kernel : decode cJ9_floorDiv_f86c9 13 = .ok (.lload 4, 2))) ?_
  refine And.intro (k_lload_n (pc := 15) (by decide +kernel : decode cJ9_floorDiv_f86c9 15 = .ok (.lload_n 2, 1)) rfl) ?_
  refine And.intro (k_lmul (pc := 16) (by decide +kernel : decode cJ9_floorDiv_f86c9 16 = .ok (.lmul, 1))) ?_
  refine And.intro (k_lload_n (pc := 17) (by decide +kernel : decode cJ9_floorDiv_f86c9 17 = .ok (.lload_n 0, 1)) rfl) ?_
  refine And.intro (k_lcmp_eq (pc := 18) (by decide +kernel : decode cJ9_floorDiv_f86c9 18 = .ok (.lcmp, 1)) (by decide +kernel : decode cJ9_floorDiv_f86c9 19 = .ok (.ifCond .eq 8, 3)) (by decide)) ?_
  refine And.intro (k_lload (pc := 22) (by decide +kernel : decode cJ9_floorDiv_f86c9 22 = .ok (.lload 4, 2))) ?_
  refine And.intro (k_lconst (pc := 24) (by decide +kernel : decode cJ9_floorDiv_f86c9 24 = .ok (.lconst 1, 1)) (by decide)) ?_
  refine And.intro (k_lsub (pc := 25) (by decide +kernel : decode cJ9_floorDiv_f86c9 25 = .ok (.lsub, 1))) ?_
  refine And.intro (k_lreturn (pc := 26) rfl (by decide +kernel : decode cJ9_floorDiv_f86c9 26 = .ok (.lreturn, 1))) ?_
  refine And.intro (k_lload (pc := 27) (by decide +kernel : decode cJ9_floorDiv_f86c9 27 = .ok (.lload 4, 2))) ?_
  refine And.intro (k_lreturn (pc := 29) rfl (by decide +kernel : decode cJ9_floorDiv_f86c9 29 = .ok (.lreturn, 1))) ?_
  exact trivial
theorem cdJ9_floorDiv_f86c9 : Cond.code yJ9_floorDiv_f86c9 cJ9_floorDiv_f86c9 6 (some .long) ∈ zWs := zWs_in 802 (by decide +kernel) rfl
