noncomputable def pgL_row_a : zPg := [(0, o_al 3), (1, o_ic (0)), (2, o_al 0), (3, o_il 1), (4, o_il 2), (5, o_no)]
theorem pkL_row_a {G : zG} (Q : zRt) : zPOK G zRl RL cL_row 5 (some .int) (zFl G yL_row Q) 0 0 (zCalls G 6) Q pgL_row_a := by
  refine And.intro (k_aload_n (pc := 0) (by decide +kernel : decode cL_row 0 = .ok (.aload_n 3, 1)) rfl) ?_
  refine And.intro (k_iconst (pc := 1) (by decide +kernel : decode cL_row 1 = .ok (.iconst 0, 1)) (by decide)) ?_
  refine And.intro (k_aload_n (pc := 2) (by decide +kernel : decode cL_row 2 = .ok (.aload_n 0, 1)) rfl) ?_
  refine And.intro (k_iload_n (pc := 3) (by decide +kernel : decode cL_row 3 = .ok (.iload_n 1, 1)) rfl) ?_
  refine And.intro (k_iload_n (pc := 4) (by decide +kernel : decode cL_row 4 = .ok (.iload_n 2, 1)) rfl) ?_
  refine And.intro (k_no) ?_
  exact trivial
noncomputable def pgL_row_b : zPg := [(8, o_i2l), (9, o_yJ), (10, o_go 17), (17, o_ic (0)), (18, o_ir)]
theorem pkL_row_b {G : zG} (Q : zRt) : zPOK G zRl RL cL_row 5 (some .int) (zFl G yL_row Q) 1 6 (zCalls G 6) Q pgL_row_b := by
  refine And.intro (k_i2l (pc := 8) (by decide +kernel : decode cL_row 8 = .ok (.i2l, 1))) ?_
  refine And.intro (k_last (pc := 9) (by decide +kernel : decode cL_row 9 = .ok (.lastore, 1))) ?_
  refine And.intro (k_goto (pc := 10) (by decide +kernel : decode cL_row 10 = .ok (.goto 7, 3)) (by decide)) ?_
  refine And.intro (k_iconst (pc := 17) (by decide +kernel : decode cL_row 17 = .ok (.iconst 0, 1)) (by decide)) ?_
  refine And.intro (k_iretL (pc := 18) rfl (by decide +kernel : decode cL_row 18 = .ok (.ireturn, 1))) ?_
  exact trivial
noncomputable def pgL_told_a : zPg := [(0, o_al 2), (1, o_ic (0)), (2, o_al 0), (3, o_il 1), (4, o_no)]
theorem pkL_told_a {G : zG} (Q : zRt) : zPOK G zRl RL cL_told 4 (some .int) (zFl G yL_told Q) 0 0 (zCalls G 6) Q pgL_told_a := by
  refine And.intro (k_aload_n (pc := 0) (by decide +kernel : decode cL_told 0 = .ok (.aload_n 2, 1)) rfl) ?_
  refine And.intro (k_iconst (pc := 1) (by decide +kernel : decode cL_told 1 = .ok (.iconst 0, 1)) (by decide)) ?_
  refine And.intro (k_aload_n (pc := 2) (by decide +kernel : decode cL_told 2 = .ok (.aload_n 0, 1)) rfl) ?_
  refine And.intro (k_iload_n (pc := 3) (by decide +kernel : decode cL_told 3 = .ok (.iload_n 1, 1)) rfl) ?_
  refine And.intro (k_no) ?_
  exact trivial
noncomputable def pgL_told_b : zPg := [(7, o_yJ), (8, o_go 14), (14, o_ic (0)), (15, o_ir)]
theorem pkL_told_b {G : zG} (Q : zRt) : zPOK G zRl RL cL_told 4 (some .int) (zFl G yL_told Q) 1 6 (zCalls G 6) Q pgL_told_b := by
  refine And.intro (k_last (pc := 7) (by decide +kernel : decode cL_told 7 = .ok (.lastore, 1))) ?_
  refine And.intro (k_goto (pc := 8) (by decide +kernel : decode cL_told 8 = .ok (.goto 6, 3)) (by decide)) ?_
  refine And.intro (k_iconst (pc := 14) (by decide +kernel : decode cL_told 14 = .ok (.iconst 0, 1)) (by decide)) ?_
  refine And.intro (k_iretL (pc := 15) rfl (by decide +kernel : decode cL_told 15 = .ok (.ireturn, 1))) ?_
  exact trivial
