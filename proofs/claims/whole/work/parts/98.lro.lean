-- ===== the law's row and told =====
theorem lw_row : Cond.codeWith yL_row cL_row 5 (some .int) [(0, 10, 13, 13)] ∈ zWs := List.mem_filter.mpr ⟨by decide +kernel, rfl⟩
theorem lw_told : Cond.codeWith yL_told cL_told 4 (some .int) [(0, 8, 11, 13)] ∈ zWs := List.mem_filter.mpr ⟨by decide +kernel, rfl⟩
theorem lw_cl : Cond.classLink RL 13 zNSE ∈ zWs := List.mem_filter.mpr ⟨by decide +kernel, rfl⟩
theorem lw_ml1 : Cond.methodLink RL 7 yX11_row ∈ zWs := List.mem_filter.mpr ⟨by decide +kernel, rfl⟩
theorem lw_ml2 : Cond.methodLink RL 15 yX11_told ∈ zWs := List.mem_filter.mpr ⟨by decide +kernel, rfl⟩
theorem lw_i11 : Cond.initialized yX11_row.cls ∈ zWs := List.mem_filter.mpr ⟨by decide +kernel, rfl⟩
theorem lw_im1 : Cond.instanceMethod yX11_row ∈ zWs := List.mem_filter.mpr ⟨by decide +kernel, rfl⟩
theorem lw_im2 : Cond.instanceMethod yX11_told ∈ zWs := List.mem_filter.mpr ⟨by decide +kernel, rfl⟩
theorem lw_se1 : Cond.selects yX11_row.cls yX11_row yX11_row ∈ zWs := List.mem_filter.mpr ⟨by decide +kernel, rfl⟩
theorem lw_se2 : Cond.selects yX11_told.cls yX11_told yX11_told ∈ zWs := List.mem_filter.mpr ⟨by decide +kernel, rfl⟩
theorem zXB_c : Cond.castable zNSE zNSE ∈ zXB := List.mem_of_getElem? (i := 3) rfl
theorem l_row {G : zG} (hT : zTok G) (hG : zGok G) {I : Nat → Nat → Int32} {J : Nat → Nat → Int64} {past : Nat → Nat} {S : zS} (hS : cSt I J past S) (hv : vS S) (k w : Int32) {Q : zRt} (h1 : bRo S.1 k w = true → Q (some (.int 0)) (zK0, I, z_upJ J 320 0 (pR S.1 k.toNatClampNeg w.toNatClampNeg).toInt64, zR0 past)) (h0 : bRo S.1 k w = false → Q (some (.int 1)) (zK0, I, J, zR0 past)) : Met (zgL G) yL_row (Cond.codeWith yL_row cL_row 5 (some .int) [(0, 10, 13, 13)] :: zWs) zRl (zPre G [.ref 0, .int k, .int w, .ref 320] (zK0, I, J, zR0 past)) (zQc G Q) 1 6 (zA G) := by
  refine zMethodL (by decide +kernel) _ rfl (Nat.le_of_ble_eq_true rfl) ?_
  refine zStep (pkL_row_a Q) [5] 40 0 ?_
  intro p e s m args below meth c hE H locs lsR hw hS2 hl
  refine zTab lw_row hE (fun htab => ?_)
  refine zcallX (zrunX (y := yX11_row) hG (by decide) (by decide) (as := [.int k, .int w]) (rest := [.int 0, .ref (zAd G 320)]) (tag := 11) (b := 0) (n := 2) (maxL := 3) (by decide) hE hw hS2 hl rfl rfl lw_i11 lw_im1 lw_se1 lw_ml1 cdX11_row (by decide +kernel) rfl (Nat.le_of_ble_eq_true rfl) (by decide +kernel : decode cL_row 5 = .ok (.invokevirtual 7, 3)) (c_rowX hT hG hS hv k w)) hS2 (fun q ce σ H1 locs1 hq hw1 hS1 e1 e2 e3 => ?_) (fun r σ H1 locs1 hr hw1 hS1 => ?_)
  · obtain ⟨hb, rfl⟩ := hq
    have hcast := ((hT.2 s s.heap hE.2.2.2.2.2.2.2.2.2.2.2.2).1 _ zXB_c).use (A := args) rfl
    refine vx_catch (name := zNSE) hE.2.2.2.2.2.1 [] ⟨0, 10, 13, 13⟩ [] (by rw [htab]; rfl) (fun z hz => nomatch hz) (by decide) (by decide) (hE.2.2.2.2.2.2.1 _ lw_cl) hcast e1 e2 e3 ?_
    refine lv_astore hE.1 hE.2.1 (by decide +kernel : decode cL_row 13 = .ok (.astore 4, 2)) (zLo_has hl) (by decide) rfl (fun ls3 h3 => ?_)
    refine lv_iconst hE.1 hE.2.1 (by decide +kernel : decode cL_row 15 = .ok (.iconst 1, 1)) (v := 1) (by decide) ?_
    exact zFl_of (W.iret hE.1 hE.2.1 hE.2.2.2.1 (zqc_of (h0 hb) hw1 hS1 args) hS1.2.2 (by decide +kernel : decode cL_row 16 = .ok (.ireturn, 1)) hE.2.2.2.2.1)
  · obtain ⟨hb, rfl, rfl⟩ := hr
    have kk : zAt G zRl RL cL_row 5 (some .int) (zFl G yL_row Q) 1 6 8 [some (.ref 0), some (.int k), some (.int w), some (.ref 320), none] [.int (pR S.1 k.toNatClampNeg w.toNatClampNeg), .int 0, .ref 320] (zK0, I, J, zR0 past) := by
      refine zStep (pkL_row_b Q) [] 40 8 ?_
      refine And.intro (vp_in_nI (n := 0) (N := 1) (by decide) (by decide)) ?_
      exact h1 hb
    exact kk p e s m args below meth c hE H1 locs1 lsR hw1 hS1 hl
theorem l_told {G : zG} (hT : zTok G) (hG : zGok G) {I : Nat → Nat → Int32} {J : Nat → Nat → Int64} {past : Nat → Nat} {S : zS} (hS : cSt I J past S) (hv : vS S) (i : Int32) {Q : zRt} (h1 : bTo S.2.2.2.2.1 i = true → Q (some (.int 0)) (zK0, I, z_upJ J 320 0 (S.2.2.2.2.2 i.toNatClampNeg), zR0 past)) (h0 : bTo S.2.2.2.2.1 i = false → Q (some (.int 1)) (zK0, I, J, zR0 past)) : Met (zgL G) yL_told (Cond.codeWith yL_told cL_told 4 (some .int) [(0, 8, 11, 13)] :: zWs) zRl (zPre G [.ref 0, .int i, .ref 320] (zK0, I, J, zR0 past)) (zQc G Q) 1 6 (zA G) := by
  refine zMethodL (by decide +kernel) _ rfl (Nat.le_of_ble_eq_true rfl) ?_
  refine zStep (pkL_told_a Q) [4] 40 0 ?_
  intro p e s m args below meth c hE H locs lsR hw hS2 hl
  refine zTab lw_told hE (fun htab => ?_)
  refine zcallX (zrunX (y := yX11_told) hG (by decide) (by decide) (as := [.int i]) (rest := [.int 0, .ref (zAd G 320)]) (tag := 11) (b := 0) (n := 1) (maxL := 2) (by decide) hE hw hS2 hl rfl rfl lw_i11 lw_im2 lw_se2 lw_ml2 cdX11_told (by decide +kernel) rfl (Nat.le_of_ble_eq_true rfl) (by decide +kernel : decode cL_told 4 = .ok (.invokevirtual 15, 3)) (c_toldX hT hG hS hv i)) hS2 (fun q ce σ H1 locs1 hq hw1 hS1 e1 e2 e3 => ?_) (fun r σ H1 locs1 hr hw1 hS1 => ?_)
  · obtain ⟨hb, rfl⟩ := hq
    have hcast := ((hT.2 s s.heap hE.2.2.2.2.2.2.2.2.2.2.2.2).1 _ zXB_c).use (A := args) rfl
    refine vx_catch (name := zNSE) hE.2.2.2.2.2.1 [] ⟨0, 8, 11, 13⟩ [] (by rw [htab]; rfl) (fun z hz => nomatch hz) (by decide) (by decide) (hE.2.2.2.2.2.2.1 _ lw_cl) hcast e1 e2 e3 ?_
    refine lv_astore_n hE.1 hE.2.1 (by decide +kernel : decode cL_told 11 = .ok (.astore_n 3, 1)) rfl (zLo_has hl) (by decide) rfl (fun ls3 h3 => ?_)
    refine lv_iconst hE.1 hE.2.1 (by decide +kernel : decode cL_told 12 = .ok (.iconst 1, 1)) (v := 1) (by decide) ?_
    exact zFl_of (W.iret hE.1 hE.2.1 hE.2.2.2.1 (zqc_of (h0 hb) hw1 hS1 args) hS1.2.2 (by decide +kernel : decode cL_told 13 = .ok (.ireturn, 1)) hE.2.2.2.2.1)
  · obtain ⟨hb, rfl, rfl⟩ := hr
    have kk : zAt G zRl RL cL_told 4 (some .int) (zFl G yL_told Q) 1 6 7 [some (.ref 0), some (.int i), some (.ref 320), none] [.long (S.2.2.2.2.2 i.toNatClampNeg), .int 0, .ref 320] (zK0, I, J, zR0 past) := by
      refine zStep (pkL_told_b Q) [] 40 7 ?_
      refine And.intro (vp_in_nI (n := 0) (N := 1) (by decide) (by decide)) ?_
      exact h1 hb
    exact kk p e s m args below meth c hE H1 locs1 lsR hw1 hS1 hl
