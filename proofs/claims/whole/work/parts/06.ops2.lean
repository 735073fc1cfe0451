section ZO2
variable {G : zG} {R : Room} {own : String} {cc : ByteArray} {nL : Nat} {ret : Option FieldType} {F : List Frame → Array Value → State → State → Prop} {cs sl : Nat} {C : zCl} {Rt : zRt} {pc : Nat}
theorem k_istore_n {k : Fin 4} {i : Nat} (hd : decode cc pc = .ok (.istore_n k, 1)) (hi : (k : Nat) = i) : zOK G R own cc nL ret F cs sl C Rt pc (pc + 1) (o_is i) := by
  intro nx jp hn hj ls st σ h
  simp only [o_is] at h
  split at h
  · obtain ⟨ls2, h, hq, ho⟩ := zS1_out h
    intro p e s m args below meth c hE H locs lsR hw hS hl
    refine lv_istore_n hE.1 hE.2.1 hd hi (zLo_has hl) (Nat.lt_of_lt_of_le hq.2 hl.2.2.1) rfl (fun ls3 h3 => ?_)
    exact hn _ _ _ h p e s m args below meth c hE H locs ls3 hw hS (zLo_1 (lsR := lsR) (by rw [hq.1]; exact hl.2.2.1) ho h3)
  · exact h.elim

theorem k_istore {i : Nat} (hd : decode cc pc = .ok (.istore i, 2)) : zOK G R own cc nL ret F cs sl C Rt pc (pc + 2) (o_is i) := by
  intro nx jp hn hj ls st σ h
  simp only [o_is] at h
  split at h
  · obtain ⟨ls2, h, hq, ho⟩ := zS1_out h
    intro p e s m args below meth c hE H locs lsR hw hS hl
    refine lv_istore hE.1 hE.2.1 hd (zLo_has hl) (Nat.lt_of_lt_of_le hq.2 hl.2.2.1) rfl (fun ls3 h3 => ?_)
    exact hn _ _ _ h p e s m args below meth c hE H locs ls3 hw hS (zLo_1 (lsR := lsR) (by rw [hq.1]; exact hl.2.2.1) ho h3)
  · exact h.elim

theorem k_astore_n {k : Fin 4} {i : Nat} (hd : decode cc pc = .ok (.astore_n k, 1)) (hi : (k : Nat) = i) : zOK G R own cc nL ret F cs sl C Rt pc (pc + 1) (o_as i) := by
  intro nx jp hn hj ls st σ h
  simp only [o_as] at h
  split at h
  · obtain ⟨ls2, h, hq, ho⟩ := zS1_out h
    intro p e s m args below meth c hE H locs lsR hw hS hl
    refine lv_astore_n hE.1 hE.2.1 hd hi (zLo_has hl) (Nat.lt_of_lt_of_le hq.2 hl.2.2.1) rfl (fun ls3 h3 => ?_)
    exact hn _ _ _ h p e s m args below meth c hE H locs ls3 hw hS (zLo_1 (lsR := lsR) (by rw [hq.1]; exact hl.2.2.1) ho h3)
  · exact h.elim

theorem k_astore {i : Nat} (hd : decode cc pc = .ok (.astore i, 2)) : zOK G R own cc nL ret F cs sl C Rt pc (pc + 2) (o_as i) := by
  intro nx jp hn hj ls st σ h
  simp only [o_as] at h
  split at h
  · obtain ⟨ls2, h, hq, ho⟩ := zS1_out h
    intro p e s m args below meth c hE H locs lsR hw hS hl
    refine lv_astore hE.1 hE.2.1 hd (zLo_has hl) (Nat.lt_of_lt_of_le hq.2 hl.2.2.1) rfl (fun ls3 h3 => ?_)
    exact hn _ _ _ h p e s m args below meth c hE H locs ls3 hw hS (zLo_1 (lsR := lsR) (by rw [hq.1]; exact hl.2.2.1) ho h3)
  · exact h.elim

theorem k_lstore_n {k : Fin 4} {i : Nat} (hd : decode cc pc = .ok (.lstore_n k, 1)) (hi : (k : Nat) = i) : zOK G R own cc nL ret F cs sl C Rt pc (pc + 1) (o_ls i) := by
  intro nx jp hn hj ls st σ h
  simp only [o_ls] at h
  split at h
  · obtain ⟨ls2, h, hq, ho⟩ := zS2_out h
    intro p e s m args below meth c hE H locs lsR hw hS hl
    refine lv_lstore_n hE.1 hE.2.1 hd hi (zLo_has hl) (Nat.lt_of_lt_of_le hq.2 hl.2.2.1) rfl (fun ls3 h3 => ?_)
    exact hn _ _ _ h p e s m args below meth c hE H locs ls3 hw hS (zLo_2 (lsR := lsR) (by rw [hq.1]; exact hl.2.2.1) ho h3)
  · exact h.elim

theorem k_lstore {i : Nat} (hd : decode cc pc = .ok (.lstore i, 2)) : zOK G R own cc nL ret F cs sl C Rt pc (pc + 2) (o_ls i) := by
  intro nx jp hn hj ls st σ h
  simp only [o_ls] at h
  split at h
  · obtain ⟨ls2, h, hq, ho⟩ := zS2_out h
    intro p e s m args below meth c hE H locs lsR hw hS hl
    refine lv_lstore hE.1 hE.2.1 hd (zLo_has hl) (Nat.lt_of_lt_of_le hq.2 hl.2.2.1) rfl (fun ls3 h3 => ?_)
    exact hn _ _ _ h p e s m args below meth c hE H locs ls3 hw hS (zLo_2 (lsR := lsR) (by rw [hq.1]; exact hl.2.2.1) ho h3)
  · exact h.elim

theorem k_iinc {i : Nat} {n : Int} {v0 : Int32} (hd : decode cc pc = .ok (.iinc i n, 3)) (hv0 : Int32.ofInt n = v0) : zOK G R own cc nL ret F cs sl C Rt pc (pc + 3) (o_inc i v0) := by
  intro nx jp hn hj ls st σ h
  obtain ⟨v, hv, h⟩ := zLd_out h
  split at h
  · rename_i x
    obtain ⟨ls2, h, hq, ho⟩ := zS1_out h
    intro p e s m args below meth c hE H locs lsR hw hS hl
    have hm := zPr_mem (G := G) (i := 0) hv
    rw [Nat.zero_add] at hm
    obtain ⟨k, hk⟩ := List.getElem?_of_mem hm
    refine lv_iinc (x := x) (v := x + v0) hE.1 hE.2.1 hd (zLo_has hl) hk (by rw [hv0]) (Nat.lt_of_lt_of_le hq.2 hl.2.2.1) rfl (fun ls3 h3 => ?_)
    exact hn _ _ _ h p e s m args below meth c hE H locs ls3 hw hS (zLo_1 (lsR := lsR) (by rw [hq.1]; exact hl.2.2.1) ho h3)
  · exact h.elim

theorem k_iadd (hd : decode cc pc = .ok (.iadd, 1)) : zOK G R own cc nL ret F cs sl C Rt pc (pc + 1) (o_iadd) := by
  intro nx jp hn hj ls st σ h
  simp only [o_iadd] at h
  split at h
  · intro p e s m args below meth c hE H locs lsR hw hS hl
    exact lv_iadd hE.1 hE.2.1 hd (hn _ _ _ h p e s m args below meth c hE H locs lsR hw hS hl)
  · exact h.elim

theorem k_isub (hd : decode cc pc = .ok (.isub, 1)) : zOK G R own cc nL ret F cs sl C Rt pc (pc + 1) (o_isub) := by
  intro nx jp hn hj ls st σ h
  simp only [o_isub] at h
  split at h
  · intro p e s m args below meth c hE H locs lsR hw hS hl
    exact lv_isub hE.1 hE.2.1 hd (hn _ _ _ h p e s m args below meth c hE H locs lsR hw hS hl)
  · exact h.elim

theorem k_imul (hd : decode cc pc = .ok (.imul, 1)) : zOK G R own cc nL ret F cs sl C Rt pc (pc + 1) (o_imul) := by
  intro nx jp hn hj ls st σ h
  simp only [o_imul] at h
  split at h
  · intro p e s m args below meth c hE H locs lsR hw hS hl
    exact lv_imul hE.1 hE.2.1 hd (hn _ _ _ h p e s m args below meth c hE H locs lsR hw hS hl)
  · exact h.elim

theorem k_iand (hd : decode cc pc = .ok (.iand, 1)) : zOK G R own cc nL ret F cs sl C Rt pc (pc + 1) (o_iand) := by
  intro nx jp hn hj ls st σ h
  simp only [o_iand] at h
  split at h
  · intro p e s m args below meth c hE H locs lsR hw hS hl
    exact lv_iand hE.1 hE.2.1 hd (hn _ _ _ h p e s m args below meth c hE H locs lsR hw hS hl)
  · exact h.elim

theorem k_ior (hd : decode cc pc = .ok (.ior, 1)) : zOK G R own cc nL ret F cs sl C Rt pc (pc + 1) (o_ior) := by
  intro nx jp hn hj ls st σ h
  simp only [o_ior] at h
  split at h
  · intro p e s m args below meth c hE H locs lsR hw hS hl
    exact lv_ior hE.1 hE.2.1 hd (hn _ _ _ h p e s m args below meth c hE H locs lsR hw hS hl)
  · exact h.elim

theorem k_ixor (hd : decode cc pc = .ok (.ixor, 1)) : zOK G R own cc nL ret F cs sl C Rt pc (pc + 1) (o_ixor) := by
  intro nx jp hn hj ls st σ h
  simp only [o_ixor] at h
  split at h
  · intro p e s m args below meth c hE H locs lsR hw hS hl
    exact lv_ixor hE.1 hE.2.1 hd (hn _ _ _ h p e s m args below meth c hE H locs lsR hw hS hl)
  · exact h.elim

theorem k_ishl (hd : decode cc pc = .ok (.ishl, 1)) : zOK G R own cc nL ret F cs sl C Rt pc (pc + 1) (o_ishl) := by
  intro nx jp hn hj ls st σ h
  simp only [o_ishl] at h
  split at h
  · intro p e s m args below meth c hE H locs lsR hw hS hl
    exact lv_ishl hE.1 hE.2.1 hd (hn _ _ _ h p e s m args below meth c hE H locs lsR hw hS hl)
  · exact h.elim

theorem k_ishr (hd : decode cc pc = .ok (.ishr, 1)) : zOK G R own cc nL ret F cs sl C Rt pc (pc + 1) (o_ishr) := by
  intro nx jp hn hj ls st σ h
  simp only [o_ishr] at h
  split at h
  · intro p e s m args below meth c hE H locs lsR hw hS hl
    exact lv_ishr hE.1 hE.2.1 hd (hn _ _ _ h p e s m args below meth c hE H locs lsR hw hS hl)
  · exact h.elim

theorem k_ladd (hd : decode cc pc = .ok (.ladd, 1)) : zOK G R own cc nL ret F cs sl C Rt pc (pc + 1) (o_ladd) := by
  intro nx jp hn hj ls st σ h
  simp only [o_ladd] at h
  split at h
  · intro p e s m args below meth c hE H locs lsR hw hS hl
    exact lv_ladd hE.1 hE.2.1 hd (hn _ _ _ h p e s m args below meth c hE H locs lsR hw hS hl)
  · exact h.elim

theorem k_lsub (hd : decode cc pc = .ok (.lsub, 1)) : zOK G R own cc nL ret F cs sl C Rt pc (pc + 1) (o_lsub) := by
  intro nx jp hn hj ls st σ h
  simp only [o_lsub] at h
  split at h
  · intro p e s m args below meth c hE H locs lsR hw hS hl
    exact lv_lsub hE.1 hE.2.1 hd (hn _ _ _ h p e s m args below meth c hE H locs lsR hw hS hl)
  · exact h.elim

theorem k_lmul (hd : decode cc pc = .ok (.lmul, 1)) : zOK G R own cc nL ret F cs sl C Rt pc (pc + 1) (o_lmul) := by
  intro nx jp hn hj ls st σ h
  simp only [o_lmul] at h
  split at h
  · intro p e s m args below meth c hE H locs lsR hw hS hl
    exact lv_lmul hE.1 hE.2.1 hd (hn _ _ _ h p e s m args below meth c hE H locs lsR hw hS hl)
  · exact h.elim

theorem k_lxor (hd : decode cc pc = .ok (.lxor, 1)) : zOK G R own cc nL ret F cs sl C Rt pc (pc + 1) (o_lxor) := by
  intro nx jp hn hj ls st σ h
  simp only [o_lxor] at h
  split at h
  · intro p e s m args below meth c hE H locs lsR hw hS hl
    exact lv_lxor hE.1 hE.2.1 hd (hn _ _ _ h p e s m args below meth c hE H locs lsR hw hS hl)
  · exact h.elim

theorem k_ineg (hd : decode cc pc = .ok (.ineg, 1)) : zOK G R own cc nL ret F cs sl C Rt pc (pc + 1) (o_ineg) := by
  intro nx jp hn hj ls st σ h
  simp only [o_ineg] at h
  split at h
  · intro p e s m args below meth c hE H locs lsR hw hS hl
    exact lv_ineg hE.1 hE.2.1 hd (hn _ _ _ h p e s m args below meth c hE H locs lsR hw hS hl)
  · exact h.elim

theorem k_lneg (hd : decode cc pc = .ok (.lneg, 1)) : zOK G R own cc nL ret F cs sl C Rt pc (pc + 1) (o_lneg) := by
  intro nx jp hn hj ls st σ h
  simp only [o_lneg] at h
  split at h
  · intro p e s m args below meth c hE H locs lsR hw hS hl
    exact lv_lneg hE.1 hE.2.1 hd (hn _ _ _ h p e s m args below meth c hE H locs lsR hw hS hl)
  · exact h.elim

theorem k_iushr (hd : decode cc pc = .ok (.iushr, 1)) : zOK G R own cc nL ret F cs sl C Rt pc (pc + 1) (o_iushr) := by
  intro nx jp hn hj ls st σ h
  simp only [o_iushr] at h
  split at h
  · intro p e s m args below meth c hE H locs lsR hw hS hl
    exact lv_iushr hE.1 hE.2.1 hd rfl (hn _ _ _ h p e s m args below meth c hE H locs lsR hw hS hl)
  · exact h.elim

theorem k_i2l (hd : decode cc pc = .ok (.i2l, 1)) : zOK G R own cc nL ret F cs sl C Rt pc (pc + 1) (o_i2l) := by
  intro nx jp hn hj ls st σ h
  simp only [o_i2l] at h
  split at h
  · intro p e s m args below meth c hE H locs lsR hw hS hl
    exact lv_i2l hE.1 hE.2.1 hd rfl (hn _ _ _ h p e s m args below meth c hE H locs lsR hw hS hl)
  · exact h.elim

theorem k_l2i (hd : decode cc pc = .ok (.l2i, 1)) : zOK G R own cc nL ret F cs sl C Rt pc (pc + 1) (o_l2i) := by
  intro nx jp hn hj ls st σ h
  simp only [o_l2i] at h
  split at h
  · intro p e s m args below meth c hE H locs lsR hw hS hl
    exact lv_l2i hE.1 hE.2.1 hd rfl (hn _ _ _ h p e s m args below meth c hE H locs lsR hw hS hl)
  · exact h.elim

theorem k_i2b (hd : decode cc pc = .ok (.i2b, 1)) : zOK G R own cc nL ret F cs sl C Rt pc (pc + 1) (o_i2b) := by
  intro nx jp hn hj ls st σ h
  simp only [o_i2b] at h
  split at h
  · intro p e s m args below meth c hE H locs lsR hw hS hl
    exact lv_i2b hE.1 hE.2.1 hd rfl (hn _ _ _ h p e s m args below meth c hE H locs lsR hw hS hl)
  · exact h.elim

theorem k_i2s (hd : decode cc pc = .ok (.i2s, 1)) : zOK G R own cc nL ret F cs sl C Rt pc (pc + 1) (o_i2s) := by
  intro nx jp hn hj ls st σ h
  simp only [o_i2s] at h
  split at h
  · intro p e s m args below meth c hE H locs lsR hw hS hl
    exact lv_i2s hE.1 hE.2.1 hd rfl (hn _ _ _ h p e s m args below meth c hE H locs lsR hw hS hl)
  · exact h.elim

theorem k_i2c (hd : decode cc pc = .ok (.i2c, 1)) : zOK G R own cc nL ret F cs sl C Rt pc (pc + 1) (o_i2c) := by
  intro nx jp hn hj ls st σ h
  simp only [o_i2c] at h
  split at h
  · intro p e s m args below meth c hE H locs lsR hw hS hl
    exact lv_i2c hE.1 hE.2.1 hd rfl (hn _ _ _ h p e s m args below meth c hE H locs lsR hw hS hl)
  · exact h.elim

theorem k_idiv (hd : decode cc pc = .ok (.idiv, 1)) : zOK G R own cc nL ret F cs sl C Rt pc (pc + 1) (o_idiv) := by
  intro nx jp hn hj ls st σ h
  simp only [o_idiv] at h
  split at h
  · intro p e s m args below meth c hE H locs lsR hw hS hl
    exact lv_idiv hE.1 hE.2.1 hd h.1 (hn _ _ _ h.2 p e s m args below meth c hE H locs lsR hw hS hl)
  · exact h.elim

theorem k_irem (hd : decode cc pc = .ok (.irem, 1)) : zOK G R own cc nL ret F cs sl C Rt pc (pc + 1) (o_irem) := by
  intro nx jp hn hj ls st σ h
  simp only [o_irem] at h
  split at h
  · intro p e s m args below meth c hE H locs lsR hw hS hl
    exact lv_irem hE.1 hE.2.1 hd h.1 (hn _ _ _ h.2 p e s m args below meth c hE H locs lsR hw hS hl)
  · exact h.elim

theorem k_ldiv (hd : decode cc pc = .ok (.ldiv, 1)) : zOK G R own cc nL ret F cs sl C Rt pc (pc + 1) (o_ldiv) := by
  intro nx jp hn hj ls st σ h
  simp only [o_ldiv] at h
  split at h
  · intro p e s m args below meth c hE H locs lsR hw hS hl
    exact lv_ldiv hE.1 hE.2.1 hd h.1 (hn _ _ _ h.2 p e s m args below meth c hE H locs lsR hw hS hl)
  · exact h.elim

theorem k_lrem (hd : decode cc pc = .ok (.lrem, 1)) : zOK G R own cc nL ret F cs sl C Rt pc (pc + 1) (o_lrem) := by
  intro nx jp hn hj ls st σ h
  simp only [o_lrem] at h
  split at h
  · intro p e s m args below meth c hE H locs lsR hw hS hl
    exact lv_lrem hE.1 hE.2.1 hd h.1 (hn _ _ _ h.2 p e s m args below meth c hE H locs lsR hw hS hl)
  · exact h.elim

theorem k_dup (hd : decode cc pc = .ok (.dup, 1)) : zOK G R own cc nL ret F cs sl C Rt pc (pc + 1) (o_dup) := by
  intro nx jp hn hj ls st σ h
  simp only [o_dup] at h
  split at h
  · intro p e s m args below meth c hE H locs lsR hw hS hl
    exact lv_dup hE.1 hE.2.1 hd rfl (hn _ _ _ h p e s m args below meth c hE H locs lsR hw hS hl)
  · intro p e s m args below meth c hE H locs lsR hw hS hl
    exact lv_dup hE.1 hE.2.1 hd rfl (hn _ _ _ h p e s m args below meth c hE H locs lsR hw hS hl)
  · exact h.elim

theorem k_pop (hd : decode cc pc = .ok (.pop, 1)) : zOK G R own cc nL ret F cs sl C Rt pc (pc + 1) (o_pop) := by
  intro nx jp hn hj ls st σ h
  simp only [o_pop] at h
  split at h
  · intro p e s m args below meth c hE H locs lsR hw hS hl
    exact lv_pop hE.1 hE.2.1 hd rfl (hn _ _ _ h p e s m args below meth c hE H locs lsR hw hS hl)
  · intro p e s m args below meth c hE H locs lsR hw hS hl
    exact lv_pop hE.1 hE.2.1 hd rfl (hn _ _ _ h p e s m args below meth c hE H locs lsR hw hS hl)
  · exact h.elim

theorem k_dup2 (hd : decode cc pc = .ok (.dup2, 1)) : zOK G R own cc nL ret F cs sl C Rt pc (pc + 1) (o_dup2) := by
  intro nx jp hn hj ls st σ h
  simp only [o_dup2] at h
  split at h
  · intro p e s m args below meth c hE H locs lsR hw hS hl
    exact lv_dup2_11 hE.1 hE.2.1 hd rfl rfl (hn _ _ _ h p e s m args below meth c hE H locs lsR hw hS hl)
  · exact h.elim

theorem k_dup_x1 (hd : decode cc pc = .ok (.dup_x1, 1)) : zOK G R own cc nL ret F cs sl C Rt pc (pc + 1) (o_dup_x1) := by
  intro nx jp hn hj ls st σ h
  simp only [o_dup_x1] at h
  split at h
  · intro p e s m args below meth c hE H locs lsR hw hS hl
    exact lv_dup_x1 hE.1 hE.2.1 hd rfl rfl (hn _ _ _ h p e s m args below meth c hE H locs lsR hw hS hl)
  · exact h.elim

theorem k_if_eq {off : Int} {t : Nat} (hd : decode cc pc = .ok (.ifCond .eq off, 3)) (ht : (pc : Int) + off = (t : Int)) : zOK G R own cc nL ret F cs sl C Rt pc (pc + 3) (o_if_eq t) := by
  intro nx jp hn hj ls st σ h
  simp only [o_if_eq] at h
  split at h
  · intro p e s m args below meth c hE H locs lsR hw hS hl
    exact lv_if_eq hE.1 hE.2.1 hd ht (fun q => hj _ _ _ _ (h.1 q) p e s m args below meth c hE H locs lsR hw hS hl) (fun q => hn _ _ _ (h.2 q) p e s m args below meth c hE H locs lsR hw hS hl)
  · exact h.elim

theorem k_icmp_eq {off : Int} {t : Nat} (hd : decode cc pc = .ok (.if_icmp .eq off, 3)) (ht : (pc : Int) + off = (t : Int)) : zOK G R own cc nL ret F cs sl C Rt pc (pc + 3) (o_ic_eq t) := by
  intro nx jp hn hj ls st σ h
  simp only [o_ic_eq] at h
  split at h
  · intro p e s m args below meth c hE H locs lsR hw hS hl
    exact lv_icmp_eq hE.1 hE.2.1 hd ht (fun q => hj _ _ _ _ (h.1 q) p e s m args below meth c hE H locs lsR hw hS hl) (fun q => hn _ _ _ (h.2 q) p e s m args below meth c hE H locs lsR hw hS hl)
  · exact h.elim

theorem k_if_ne {off : Int} {t : Nat} (hd : decode cc pc = .ok (.ifCond .ne off, 3)) (ht : (pc : Int) + off = (t : Int)) : zOK G R own cc nL ret F cs sl C Rt pc (pc + 3) (o_if_ne t) := by
  intro nx jp hn hj ls st σ h
  simp only [o_if_ne] at h
  split at h
  · intro p e s m args below meth c hE H locs lsR hw hS hl
    exact lv_if_ne hE.1 hE.2.1 hd ht (fun q => hj _ _ _ _ (h.1 q) p e s m args below meth c hE H locs lsR hw hS hl) (fun q => hn _ _ _ (h.2 q) p e s m args below meth c hE H locs lsR hw hS hl)
  · exact h.elim

theorem k_icmp_ne {off : Int} {t : Nat} (hd : decode cc pc = .ok (.if_icmp .ne off, 3)) (ht : (pc : Int) + off = (t : Int)) : zOK G R own cc nL ret F cs sl C Rt pc (pc + 3) (o_ic_ne t) := by
  intro nx jp hn hj ls st σ h
  simp only [o_ic_ne] at h
  split at h
  · intro p e s m args below meth c hE H locs lsR hw hS hl
    exact lv_icmp_ne hE.1 hE.2.1 hd ht (fun q => hj _ _ _ _ (h.1 q) p e s m args below meth c hE H locs lsR hw hS hl) (fun q => hn _ _ _ (h.2 q) p e s m args below meth c hE H locs lsR hw hS hl)
  · exact h.elim

theorem k_if_lt {off : Int} {t : Nat} (hd : decode cc pc = .ok (.ifCond .lt off, 3)) (ht : (pc : Int) + off = (t : Int)) : zOK G R own cc nL ret F cs sl C Rt pc (pc + 3) (o_if_lt t) := by
  intro nx jp hn hj ls st σ h
  simp only [o_if_lt] at h
  split at h
  · intro p e s m args below meth c hE H locs lsR hw hS hl
    exact lv_if_lt hE.1 hE.2.1 hd ht (fun q => hj _ _ _ _ (h.1 q) p e s m args below meth c hE H locs lsR hw hS hl) (fun q => hn _ _ _ (h.2 q) p e s m args below meth c hE H locs lsR hw hS hl)
  · exact h.elim

theorem k_icmp_lt {off : Int} {t : Nat} (hd : decode cc pc = .ok (.if_icmp .lt off, 3)) (ht : (pc : Int) + off = (t : Int)) : zOK G R own cc nL ret F cs sl C Rt pc (pc + 3) (o_ic_lt t) := by
  intro nx jp hn hj ls st σ h
  simp only [o_ic_lt] at h
  split at h
  · intro p e s m args below meth c hE H locs lsR hw hS hl
    exact lv_icmp_lt hE.1 hE.2.1 hd ht (fun q => hj _ _ _ _ (h.1 q) p e s m args below meth c hE H locs lsR hw hS hl) (fun q => hn _ _ _ (h.2 q) p e s m args below meth c hE H locs lsR hw hS hl)
  · exact h.elim

theorem k_if_ge {off : Int} {t : Nat} (hd : decode cc pc = .ok (.ifCond .ge off, 3)) (ht : (pc : Int) + off = (t : Int)) : zOK G R own cc nL ret F cs sl C Rt pc (pc + 3) (o_if_ge t) := by
  intro nx jp hn hj ls st σ h
  simp only [o_if_ge] at h
  split at h
  · intro p e s m args below meth c hE H locs lsR hw hS hl
    exact lv_if_ge hE.1 hE.2.1 hd ht (fun q => hj _ _ _ _ (h.1 q) p e s m args below meth c hE H locs lsR hw hS hl) (fun q => hn _ _ _ (h.2 q) p e s m args below meth c hE H locs lsR hw hS hl)
  · exact h.elim

theorem k_icmp_ge {off : Int} {t : Nat} (hd : decode cc pc = .ok (.if_icmp .ge off, 3)) (ht : (pc : Int) + off = (t : Int)) : zOK G R own cc nL ret F cs sl C Rt pc (pc + 3) (o_ic_ge t) := by
  intro nx jp hn hj ls st σ h
  simp only [o_ic_ge] at h
  split at h
  · intro p e s m args below meth c hE H locs lsR hw hS hl
    exact lv_icmp_ge hE.1 hE.2.1 hd ht (fun q => hj _ _ _ _ (h.1 q) p e s m args below meth c hE H locs lsR hw hS hl) (fun q => hn _ _ _ (h.2 q) p e s m args below meth c hE H locs lsR hw hS hl)
  · exact h.elim

theorem k_if_gt {off : Int} {t : Nat} (hd : decode cc pc = .ok (.ifCond .gt off, 3)) (ht : (pc : Int) + off = (t : Int)) : zOK G R own cc nL ret F cs sl C Rt pc (pc + 3) (o_if_gt t) := by
  intro nx jp hn hj ls st σ h
  simp only [o_if_gt] at h
  split at h
  · intro p e s m args below meth c hE H locs lsR hw hS hl
    exact lv_if_gt hE.1 hE.2.1 hd ht (fun q => hj _ _ _ _ (h.1 q) p e s m args below meth c hE H locs lsR hw hS hl) (fun q => hn _ _ _ (h.2 q) p e s m args below meth c hE H locs lsR hw hS hl)
  · exact h.elim

theorem k_icmp_gt {off : Int} {t : Nat} (hd : decode cc pc = .ok (.if_icmp .gt off, 3)) (ht : (pc : Int) + off = (t : Int)) : zOK G R own cc nL ret F cs sl C Rt pc (pc + 3) (o_ic_gt t) := by
  intro nx jp hn hj ls st σ h
  simp only [o_ic_gt] at h
  split at h
  · intro p e s m args below meth c hE H locs lsR hw hS hl
    exact lv_icmp_gt hE.1 hE.2.1 hd ht (fun q => hj _ _ _ _ (h.1 q) p e s m args below meth c hE H locs lsR hw hS hl) (fun q => hn _ _ _ (h.2 q) p e s m args below meth c hE H locs lsR hw hS hl)
  · exact h.elim

theorem k_if_le {off : Int} {t : Nat} (hd : decode cc pc = .ok (.ifCond .le off, 3)) (ht : (pc : Int) + off = (t : Int)) : zOK G R own cc nL ret F cs sl C Rt pc (pc + 3) (o_if_le t) := by
  intro nx jp hn hj ls st σ h
  simp only [o_if_le] at h
  split at h
  · intro p e s m args below meth c hE H locs lsR hw hS hl
    exact lv_if_le hE.1 hE.2.1 hd ht (fun q => hj _ _ _ _ (h.1 q) p e s m args below meth c hE H locs lsR hw hS hl) (fun q => hn _ _ _ (h.2 q) p e s m args below meth c hE H locs lsR hw hS hl)
  · exact h.elim

theorem k_icmp_le {off : Int} {t : Nat} (hd : decode cc pc = .ok (.if_icmp .le off, 3)) (ht : (pc : Int) + off = (t : Int)) : zOK G R own cc nL ret F cs sl C Rt pc (pc + 3) (o_ic_le t) := by
  intro nx jp hn hj ls st σ h
  simp only [o_ic_le] at h
  split at h
  · intro p e s m args below meth c hE H locs lsR hw hS hl
    exact lv_icmp_le hE.1 hE.2.1 hd ht (fun q => hj _ _ _ _ (h.1 q) p e s m args below meth c hE H locs lsR hw hS hl) (fun q => hn _ _ _ (h.2 q) p e s m args below meth c hE H locs lsR hw hS hl)
  · exact h.elim

theorem zcmp_eq (x y : Int64) : lg_cmp x y = 0 ↔ x = y := by
  unfold lg_cmp
  split
  · rename_i h
    constructor
    · intro q; exact absurd q (by decide)
    · intro q; subst q; exact absurd h (by simp [Int64.lt_iff_toInt_lt])
  · split
    · rename_i h; exact ⟨fun _ => h, fun _ => rfl⟩
    · rename_i h; exact ⟨fun q => absurd q (by decide), fun q => absurd q h⟩
theorem zcmp_lt (x y : Int64) : lg_cmp x y < 0 ↔ x < y := by
  unfold lg_cmp
  split
  · rename_i h
    simp only [gt_iff_lt, Int64.lt_iff_toInt_lt] at *
    constructor
    · intro q; exact absurd q (by decide)
    · intro q; omega
  · rename_i h
    split
    · rename_i h2; subst h2; simp only [Int64.lt_iff_toInt_lt]
      constructor
      · intro q; exact absurd q (by decide)
      · intro q; omega
    · rename_i h2
      simp only [gt_iff_lt, Int64.lt_iff_toInt_lt, ← Int64.toInt_inj] at *
      constructor
      · intro _; omega
      · intro _; decide
theorem zcmp_gt (x y : Int64) : 0 < lg_cmp x y ↔ y < x := by
  unfold lg_cmp
  split
  · rename_i h; exact ⟨fun _ => h, fun _ => by decide⟩
  · rename_i h
    split
    · exact ⟨fun q => absurd q (by decide), fun q => absurd q h⟩
    · exact ⟨fun q => absurd q (by decide), fun q => absurd q h⟩
theorem zcmp_ge (x y : Int64) : 0 ≤ lg_cmp x y ↔ y ≤ x := lg_cmp_ge x y
theorem zcmp_le (x y : Int64) : lg_cmp x y ≤ 0 ↔ x ≤ y := by
  rw [← Int32.not_lt, zcmp_gt, Int64.not_lt]
theorem zcmp_ne (x y : Int64) : ¬ lg_cmp x y = 0 ↔ ¬ x = y := not_congr (zcmp_eq x y)
theorem k_lcmp_eq {off : Int} {t : Nat} (hd0 : decode cc pc = .ok (.lcmp, 1)) (hd : decode cc (pc + 1) = .ok (.ifCond .eq off, 3)) (ht : ((pc + 1 : Nat) : Int) + off = (t : Int)) : zOK G R own cc nL ret F cs sl C Rt pc (pc + 4) (o_lc_eq t) := by
  intro nx jp hn hj ls st σ h
  simp only [o_lc_eq] at h
  split at h
  · intro p e s m args below meth c hE H locs lsR hw hS hl
    exact W.lcmp hE.1 hE.2.1 hd0 (lv_if_eq hE.1 hE.2.1 hd ht (fun q => hj _ _ _ _ (h.1 ((zcmp_eq _ _).mp q)) p e s m args below meth c hE H locs lsR hw hS hl) (fun q => hn _ _ _ (h.2 (fun z => q ((zcmp_eq _ _).mpr z))) p e s m args below meth c hE H locs lsR hw hS hl))
  · exact h.elim

theorem k_lcmp_ne {off : Int} {t : Nat} (hd0 : decode cc pc = .ok (.lcmp, 1)) (hd : decode cc (pc + 1) = .ok (.ifCond .ne off, 3)) (ht : ((pc + 1 : Nat) : Int) + off = (t : Int)) : zOK G R own cc nL ret F cs sl C Rt pc (pc + 4) (o_lc_ne t) := by
  intro nx jp hn hj ls st σ h
  simp only [o_lc_ne] at h
  split at h
  · intro p e s m args below meth c hE H locs lsR hw hS hl
    exact W.lcmp hE.1 hE.2.1 hd0 (lv_if_ne hE.1 hE.2.1 hd ht (fun q => hj _ _ _ _ (h.1 ((zcmp_ne _ _).mp q)) p e s m args below meth c hE H locs lsR hw hS hl) (fun q => hn _ _ _ (h.2 ((zcmp_eq _ _).mp q)) p e s m args below meth c hE H locs lsR hw hS hl))
  · exact h.elim

theorem k_lcmp_lt {off : Int} {t : Nat} (hd0 : decode cc pc = .ok (.lcmp, 1)) (hd : decode cc (pc + 1) = .ok (.ifCond .lt off, 3)) (ht : ((pc + 1 : Nat) : Int) + off = (t : Int)) : zOK G R own cc nL ret F cs sl C Rt pc (pc + 4) (o_lc_lt t) := by
  intro nx jp hn hj ls st σ h
  simp only [o_lc_lt] at h
  split at h
  · intro p e s m args below meth c hE H locs lsR hw hS hl
    exact W.lcmp hE.1 hE.2.1 hd0 (lv_if_lt hE.1 hE.2.1 hd ht (fun q => hj _ _ _ _ (h.1 ((zcmp_lt _ _).mp q)) p e s m args below meth c hE H locs lsR hw hS hl) (fun q => hn _ _ _ (h.2 (fun z => q ((zcmp_lt _ _).mpr z))) p e s m args below meth c hE H locs lsR hw hS hl))
  · exact h.elim

theorem k_lcmp_ge {off : Int} {t : Nat} (hd0 : decode cc pc = .ok (.lcmp, 1)) (hd : decode cc (pc + 1) = .ok (.ifCond .ge off, 3)) (ht : ((pc + 1 : Nat) : Int) + off = (t : Int)) : zOK G R own cc nL ret F cs sl C Rt pc (pc + 4) (o_lc_ge t) := by
  intro nx jp hn hj ls st σ h
  simp only [o_lc_ge] at h
  split at h
  · intro p e s m args below meth c hE H locs lsR hw hS hl
    exact W.lcmp hE.1 hE.2.1 hd0 (lv_if_ge hE.1 hE.2.1 hd ht (fun q => hj _ _ _ _ (h.1 ((zcmp_ge _ _).mp q)) p e s m args below meth c hE H locs lsR hw hS hl) (fun q => hn _ _ _ (h.2 (fun z => q ((zcmp_ge _ _).mpr z))) p e s m args below meth c hE H locs lsR hw hS hl))
  · exact h.elim

theorem k_lcmp_gt {off : Int} {t : Nat} (hd0 : decode cc pc = .ok (.lcmp, 1)) (hd : decode cc (pc + 1) = .ok (.ifCond .gt off, 3)) (ht : ((pc + 1 : Nat) : Int) + off = (t : Int)) : zOK G R own cc nL ret F cs sl C Rt pc (pc + 4) (o_lc_gt t) := by
  intro nx jp hn hj ls st σ h
  simp only [o_lc_gt] at h
  split at h
  · intro p e s m args below meth c hE H locs lsR hw hS hl
    exact W.lcmp hE.1 hE.2.1 hd0 (lv_if_gt hE.1 hE.2.1 hd ht (fun q => hj _ _ _ _ (h.1 ((zcmp_gt _ _).mp q)) p e s m args below meth c hE H locs lsR hw hS hl) (fun q => hn _ _ _ (h.2 (fun z => q ((zcmp_gt _ _).mpr z))) p e s m args below meth c hE H locs lsR hw hS hl))
  · exact h.elim

theorem k_lcmp_le {off : Int} {t : Nat} (hd0 : decode cc pc = .ok (.lcmp, 1)) (hd : decode cc (pc + 1) = .ok (.ifCond .le off, 3)) (ht : ((pc + 1 : Nat) : Int) + off = (t : Int)) : zOK G R own cc nL ret F cs sl C Rt pc (pc + 4) (o_lc_le t) := by
  intro nx jp hn hj ls st σ h
  simp only [o_lc_le] at h
  split at h
  · intro p e s m args below meth c hE H locs lsR hw hS hl
    exact W.lcmp hE.1 hE.2.1 hd0 (lv_if_le hE.1 hE.2.1 hd ht (fun q => hj _ _ _ _ (h.1 ((zcmp_le _ _).mp q)) p e s m args below meth c hE H locs lsR hw hS hl) (fun q => hn _ _ _ (h.2 (fun z => q ((zcmp_le _ _).mpr z))) p e s m args below meth c hE H locs lsR hw hS hl))
  · exact h.elim

theorem k_goto {off : Int} {t nxt : Nat} (hd : decode cc pc = .ok (.goto off, 3)) (ht : (pc : Int) + off = (t : Int)) : zOK G R own cc nL ret F cs sl C Rt pc nxt (o_go t) := by
  intro nx jp hn hj ls st σ h
  intro p e s m args below meth c hE H locs lsR hw hS hl
  exact lv_goto hE.1 hE.2.1 hd ht (hj _ _ _ _ h p e s m args below meth c hE H locs lsR hw hS hl)

end ZO2
