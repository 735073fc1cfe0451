section ZH2
variable {G : zG} {R : Room} {own : String} {cc : ByteArray} {nL : Nat} {ret : Option FieldType} {F : List Frame → Array Value → State → State → Prop} {cs sl : Nat} {C : zCl} {Rt : zRt} {pc : Nat}
theorem k_gI {tag k N idx : Nat} {Cn : String} {T : u_T} (hc : vwCl[tag]? = some (Cn, T, N)) (hk : k < N) (ht : (zFT tag)[k]? = some 0) (hin : ∀ w ∈ u_ws Cn T N, w ∈ zWs) (hlk : zLk own idx (T k).1 (T k).2.1 (T k).2.2.1) (hd : decode cc pc = .ok (.getfield idx, 3)) : zOK G R own cc nL ret F cs sl C Rt pc (pc + 3) (o_gI tag k) := by
  intro nx jp hn hj ls st σ h
  obtain ⟨K, I, J, Q⟩ := σ
  simp only [o_gI] at h
  split at h
  · obtain ⟨hb, h⟩ := zB_out h
    intro p e s m args below meth c hE H locs lsR hw hS hl
    exact zgetf hE hw hc hk ht hin hlk hd hb (hn _ _ _ h p e s m args below meth c hE H locs lsR hw hS hl)
  · exact h.elim

theorem k_gZ {tag k N idx : Nat} {Cn : String} {T : u_T} (hc : vwCl[tag]? = some (Cn, T, N)) (hk : k < N) (ht : (zFT tag)[k]? = some 3) (hin : ∀ w ∈ u_ws Cn T N, w ∈ zWs) (hlk : zLk own idx (T k).1 (T k).2.1 (T k).2.2.1) (hd : decode cc pc = .ok (.getfield idx, 3)) : zOK G R own cc nL ret F cs sl C Rt pc (pc + 3) (o_gI tag k) := by
  intro nx jp hn hj ls st σ h
  obtain ⟨K, I, J, Q⟩ := σ
  simp only [o_gI] at h
  split at h
  · obtain ⟨hb, h⟩ := zB_out h
    intro p e s m args below meth c hE H locs lsR hw hS hl
    exact zgetf hE hw hc hk ht hin hlk hd hb (hn _ _ _ h p e s m args below meth c hE H locs lsR hw hS hl)
  · exact h.elim

theorem k_gJ {tag k N idx : Nat} {Cn : String} {T : u_T} (hc : vwCl[tag]? = some (Cn, T, N)) (hk : k < N) (ht : (zFT tag)[k]? = some 1) (hin : ∀ w ∈ u_ws Cn T N, w ∈ zWs) (hlk : zLk own idx (T k).1 (T k).2.1 (T k).2.2.1) (hd : decode cc pc = .ok (.getfield idx, 3)) : zOK G R own cc nL ret F cs sl C Rt pc (pc + 3) (o_gJ tag k) := by
  intro nx jp hn hj ls st σ h
  obtain ⟨K, I, J, Q⟩ := σ
  simp only [o_gJ] at h
  split at h
  · obtain ⟨hb, h⟩ := zB_out h
    intro p e s m args below meth c hE H locs lsR hw hS hl
    exact zgetf hE hw hc hk ht hin hlk hd hb (hn _ _ _ h p e s m args below meth c hE H locs lsR hw hS hl)
  · exact h.elim

theorem k_gR {tag k N idx : Nat} {Cn : String} {T : u_T} (hc : vwCl[tag]? = some (Cn, T, N)) (hk : k < N) (ht : (zFT tag)[k]? = some 2) (hin : ∀ w ∈ u_ws Cn T N, w ∈ zWs) (hlk : zLk own idx (T k).1 (T k).2.1 (T k).2.2.1) (hd : decode cc pc = .ok (.getfield idx, 3)) : zOK G R own cc nL ret F cs sl C Rt pc (pc + 3) (o_gR tag k) := by
  intro nx jp hn hj ls st σ h
  obtain ⟨K, I, J, Q⟩ := σ
  simp only [o_gR] at h
  split at h
  · rename_i q r
    obtain ⟨hb, h⟩ := zB_out h
    intro p e s m args below meth c hE H locs lsR hw hS hl
    refine zgetf hE hw hc hk ht hin hlk hd hb ?_
    cases hq : Q q k with
    | some a =>
      rw [hq] at h
      show W p (zgL G) e R s m args below meth c H locs cs sl (F below args s) (F0 m (pc + 3) lsR (va_rf ((Q q k).map (zAd G)) :: r.map (zV G)))
      rw [hq]
      exact hn _ _ _ h p e s m args below meth c hE H locs lsR hw hS hl
    | none =>
      rw [hq] at h
      show W p (zgL G) e R s m args below meth c H locs cs sl (F below args s) (F0 m (pc + 3) lsR (va_rf ((Q q k).map (zAd G)) :: r.map (zV G)))
      rw [hq]
      exact hn _ _ _ h p e s m args below meth c hE H locs lsR hw hS hl
  · exact h.elim

theorem zVal_upI {σ : zSt} {q k i ty : Nat} {v : Int32} (h : i ≠ k) : zVal G (σ.1, z_upI σ.2.1 q k v, σ.2.2.1, σ.2.2.2) q ty i = zVal G σ q ty i := by
  unfold zVal
  split
  · rfl
  · rfl
  · show Value.int (z_upI σ.2.1 q k v q i) = _
    rw [z_upI_self, pk_un h]
theorem zVal_upJ {σ : zSt} {q k i ty : Nat} {v : Int64} (h : i ≠ k) : zVal G (σ.1, σ.2.1, z_upJ σ.2.2.1 q k v, σ.2.2.2) q ty i = zVal G σ q ty i := by
  unfold zVal
  split
  · show Value.long (z_upJ σ.2.2.1 q k v q i) = _
    rw [z_upJ_self, pk_uLn h]
  · rfl
  · rfl
theorem z_nb {v : Int32} (h : v = 0 ∨ v = 1) : narrow .boolean (.int v) = .int v ∧ fits .boolean (.int v) = true := by
  rcases h with rfl | rfl <;> exact ⟨by decide, by decide⟩
theorem k_pI {tag k N idx : Nat} {Cn : String} {T : u_T} (hc : vwCl[tag]? = some (Cn, T, N)) (hk : k < N) (ht : (zFT tag)[k]? = some 0) (hin : ∀ w ∈ u_ws Cn T N, w ∈ zWs) (hlk : zLk own idx (T k).1 (T k).2.1 (T k).2.2.1) {ty0 : Nat → FieldType} (hty : ∀ k, k < N → parseFieldDescriptor (T k).2.2.1 = some (ty0 k)) (hnm : ∀ a, a < N → ∀ b, b < N → a ≠ b → (T a).2.1 ≠ (T b).2.1) (hfin : (T k).2.2.2 = false) (hfd : parseFieldDescriptor (T k).2.2.1 = some .int) (hd : decode cc pc = .ok (.putfield idx, 3)) : zOK G R own cc nL ret F cs sl C Rt pc (pc + 3) (o_pI tag k) := by
  intro nx jp hn hj ls st σ h
  obtain ⟨K, I, J, Q⟩ := σ
  simp only [o_pI] at h
  split at h
  · rename_i v q r
    obtain ⟨hb, h⟩ := zB_out h
    intro p e s m args below meth c hE H locs lsR hw hS hl
    refine zputf (σ' := (K, z_upI I q k v, J, Q)) hE hw hS hc hk ht hin hty hnm hlk hfin hfd (vp_nar_int _) rfl hd hb rfl ?_ (fun i ty hi => zVal_upI (σ := (K, I, J, Q)) hi) (fun x hx => ⟨z_upI_ne hx, rfl, rfl⟩) (fun H1 locs1 hw1 hS1 => hn _ _ _ h p e s m args below meth c hE H1 locs1 lsR hw1 hS1 hl)
    show Value.int (z_upI I q k v q k) = .int v
    rw [z_upI_self, pk_us]
  · exact h.elim

theorem k_pZ {tag k N idx : Nat} {Cn : String} {T : u_T} (hc : vwCl[tag]? = some (Cn, T, N)) (hk : k < N) (ht : (zFT tag)[k]? = some 3) (hin : ∀ w ∈ u_ws Cn T N, w ∈ zWs) (hlk : zLk own idx (T k).1 (T k).2.1 (T k).2.2.1) {ty0 : Nat → FieldType} (hty : ∀ k, k < N → parseFieldDescriptor (T k).2.2.1 = some (ty0 k)) (hnm : ∀ a, a < N → ∀ b, b < N → a ≠ b → (T a).2.1 ≠ (T b).2.1) (hfin : (T k).2.2.2 = false) (hfd : parseFieldDescriptor (T k).2.2.1 = some .boolean) (hd : decode cc pc = .ok (.putfield idx, 3)) : zOK G R own cc nL ret F cs sl C Rt pc (pc + 3) (o_pZ tag k) := by
  intro nx jp hn hj ls st σ h
  obtain ⟨K, I, J, Q⟩ := σ
  simp only [o_pZ] at h
  split at h
  · rename_i v q r
    obtain ⟨hb, h⟩ := zB_out h
    intro p e s m args below meth c hE H locs lsR hw hS hl
    refine zputf (σ' := (K, z_upI I q k v, J, Q)) hE hw hS hc hk ht hin hty hnm hlk hfin hfd (z_nb h.1).1 (z_nb h.1).2 hd hb rfl ?_ (fun i ty hi => zVal_upI (σ := (K, I, J, Q)) hi) (fun x hx => ⟨z_upI_ne hx, rfl, rfl⟩) (fun H1 locs1 hw1 hS1 => hn _ _ _ h.2 p e s m args below meth c hE H1 locs1 lsR hw1 hS1 hl)
    show Value.int (z_upI I q k v q k) = .int v
    rw [z_upI_self, pk_us]
  · exact h.elim

theorem k_pJ {tag k N idx : Nat} {Cn : String} {T : u_T} (hc : vwCl[tag]? = some (Cn, T, N)) (hk : k < N) (ht : (zFT tag)[k]? = some 1) (hin : ∀ w ∈ u_ws Cn T N, w ∈ zWs) (hlk : zLk own idx (T k).1 (T k).2.1 (T k).2.2.1) {ty0 : Nat → FieldType} (hty : ∀ k, k < N → parseFieldDescriptor (T k).2.2.1 = some (ty0 k)) (hnm : ∀ a, a < N → ∀ b, b < N → a ≠ b → (T a).2.1 ≠ (T b).2.1) (hfin : (T k).2.2.2 = false) (hfd : parseFieldDescriptor (T k).2.2.1 = some .long) (hd : decode cc pc = .ok (.putfield idx, 3)) : zOK G R own cc nL ret F cs sl C Rt pc (pc + 3) (o_pJ tag k) := by
  intro nx jp hn hj ls st σ h
  obtain ⟨K, I, J, Q⟩ := σ
  simp only [o_pJ] at h
  split at h
  · rename_i v q r
    obtain ⟨hb, h⟩ := zB_out h
    intro p e s m args below meth c hE H locs lsR hw hS hl
    refine zputf (σ' := (K, I, z_upJ J q k v, Q)) hE hw hS hc hk ht hin hty hnm hlk hfin hfd rfl rfl hd hb rfl ?_ (fun i ty hi => zVal_upJ (σ := (K, I, J, Q)) hi) (fun x hx => ⟨rfl, z_upJ_ne hx, rfl⟩) (fun H1 locs1 hw1 hS1 => hn _ _ _ h p e s m args below meth c hE H1 locs1 lsR hw1 hS1 hl)
    show Value.long (z_upJ J q k v q k) = .long v
    rw [z_upJ_self, pk_uLs]
  · exact h.elim

theorem k_iald (hd : decode cc pc = .ok (.iaload, 1)) : zOK G R own cc nL ret F cs sl C Rt pc (pc + 1) (o_xI 14) := by
  intro nx jp hn hj ls st σ h
  obtain ⟨K, I, J, Q⟩ := σ
  simp only [o_xI] at h
  split at h
  · rename_i i q r
    rcases hk : zKd K q with ⟨t2, n⟩
    rw [hk] at h
    obtain ⟨hb, h⟩ := zB_out h
    have hb := Nat.eq_of_beq_eq_true hb
    subst hb
    have hg := zW_arr (G := G) (σ := (K, I, J, Q)) (p := q) hk (by decide) (by decide)
    intro p e s m args below meth c hE H locs lsR hw hS hl
    exact va_iald hE.1 hE.2.1 hE.2.2.2.2.2.2.2.1 hw.2 q 1 hg rfl h.1 hd (hn _ _ _ h.2 p e s m args below meth c hE H locs lsR hw hS hl)
  · exact h.elim

theorem k_bald (hd : decode cc pc = .ok (.baload, 1)) : zOK G R own cc nL ret F cs sl C Rt pc (pc + 1) (o_xI 13) := by
  intro nx jp hn hj ls st σ h
  obtain ⟨K, I, J, Q⟩ := σ
  simp only [o_xI] at h
  split at h
  · rename_i i q r
    rcases hk : zKd K q with ⟨t2, n⟩
    rw [hk] at h
    obtain ⟨hb, h⟩ := zB_out h
    have hb := Nat.eq_of_beq_eq_true hb
    subst hb
    have hg := zW_arr (G := G) (σ := (K, I, J, Q)) (p := q) hk (by decide) (by decide)
    intro p e s m args below meth c hE H locs lsR hw hS hl
    exact va_bald hE.1 hE.2.1 hE.2.2.2.2.2.2.2.1 hw.2 q 0 hg rfl h.1 hd (hn _ _ _ h.2 p e s m args below meth c hE H locs lsR hw hS hl)
  · exact h.elim

theorem k_zald (hd : decode cc pc = .ok (.baload, 1)) : zOK G R own cc nL ret F cs sl C Rt pc (pc + 1) (o_xI 16) := by
  intro nx jp hn hj ls st σ h
  obtain ⟨K, I, J, Q⟩ := σ
  simp only [o_xI] at h
  split at h
  · rename_i i q r
    rcases hk : zKd K q with ⟨t2, n⟩
    rw [hk] at h
    obtain ⟨hb, h⟩ := zB_out h
    have hb := Nat.eq_of_beq_eq_true hb
    subst hb
    have hg := zW_arr (G := G) (σ := (K, I, J, Q)) (p := q) hk (by decide) (by decide)
    intro p e s m args below meth c hE H locs lsR hw hS hl
    exact va_zald hE.1 hE.2.1 hE.2.2.2.2.2.2.2.1 hw.2 q 3 hg rfl h.1 hd (hn _ _ _ h.2 p e s m args below meth c hE H locs lsR hw hS hl)
  · exact h.elim

theorem k_lald (hd : decode cc pc = .ok (.laload, 1)) : zOK G R own cc nL ret F cs sl C Rt pc (pc + 1) (o_xJ) := by
  intro nx jp hn hj ls st σ h
  obtain ⟨K, I, J, Q⟩ := σ
  simp only [o_xJ] at h
  split at h
  · rename_i i q r
    rcases hk : zKd K q with ⟨t2, n⟩
    rw [hk] at h
    obtain ⟨hb, h⟩ := zB_out h
    have hb := Nat.eq_of_beq_eq_true hb
    subst hb
    have hg := zW_arr (G := G) (σ := (K, I, J, Q)) (p := q) hk (by decide) (by decide)
    intro p e s m args below meth c hE H locs lsR hw hS hl
    exact va_lald hE.1 hE.2.1 hE.2.2.2.2.2.2.2.1 hw.2 q 2 hg rfl h.1 hd (hn _ _ _ h.2 p e s m args below meth c hE H locs lsR hw hS hl)
  · exact h.elim

theorem zaldq {p : Program} {l : Launch} {e : Env} {s : State} {m : MethodId} {args : Array Value} {below : List Frame} {meth : Method} {c : Code} {H : Heap} {locs : List Loc} {ls : Array Slot} {rest : List Value} {Q : State → Prop} {D : va_G} {cl : List vw_C} {tys : List (ClassId × FieldType)} {ws : va_W} {a : Nat} (hexec : p.tables.exec = Jvm.exec) (hb : c.code = cc) (hK : va_K D cl tys s) (hP : va_P D cl ws H) (q0 t0 : Nat) {cA : ClassId} {ty : FieldType} {n : Nat} {f : Nat → Option Nat} (hr : ty.isReference = true) (ha : ws[q0]? = some (a, .inl (cA, n, .inr (.inr (.inr (.inr f)))))) (ht : tys[t0]? = some (cA, ty)) {i : Int32} (hin : vp_in i n) (hdg : decode cc pc = .ok (.aaload, 1))
    (kk : W p l e R s m args below meth c H locs cs sl Q (F0 m (pc + 1) ls (va_rf (f i.toNatClampNeg) :: rest))) : W p l e R s m args below meth c H locs cs sl Q (F0 m pc ls (.int i :: .ref a :: rest)) := by
  have hlt : i.toNatClampNeg < n := Nat.not_le.mp fun q => hin (Or.inr q)
  exact W.aald (v := va_rf (f i.toNatClampNeg)) (ty := ty) hexec hb (hP q0 _ ha) ((hK.2 t0 _ ht).1 n (fun j => va_rf (f j))) hr (fun q => by cases q) (by show ¬ (i < 0 ∨ (arrV _ _ _).slots.size ≤ _); rw [arrV_size]; exact hin) (by show (arrV _ _ _).slots[_]? = _; rw [arrV_read _ _ hlt]) rfl rfl hdg kk
theorem k_aald17 (hd : decode cc pc = .ok (.aaload, 1)) : zOK G R own cc nL ret F cs sl C Rt pc (pc + 1) (o_xR 17) := by
  intro nx jp hn hj ls st σ h
  obtain ⟨K, I, J, Q⟩ := σ
  simp only [o_xR] at h
  split at h
  · rename_i i q r
    rcases hk : zKd K q with ⟨t2, n⟩
    rw [hk] at h
    obtain ⟨hb, h⟩ := zB_out h
    have hb := Nat.eq_of_beq_eq_true hb
    subst hb
    have hg := zW_arr (G := G) (σ := (K, I, J, Q)) (p := q) hk (by decide) (by decide)
    intro p e s m args below meth c hE H locs lsR hw hS hl
    obtain ⟨h1, a, ha, h2⟩ := h
    refine zaldq hE.1 hE.2.1 hE.2.2.2.2.2.2.2.1 hw.2 q 4 rfl hg rfl h1 hd ?_
    show W p (zgL G) e R s m args below meth c H locs cs sl (F below args s) (F0 m (pc + 1) lsR (va_rf ((Q q i.toNatClampNeg).map (zAd G)) :: r.map (zV G)))
    rw [ha]
    exact hn _ _ _ h2 p e s m args below meth c hE H locs lsR hw hS hl
  · exact h.elim

theorem k_aald18 (hd : decode cc pc = .ok (.aaload, 1)) : zOK G R own cc nL ret F cs sl C Rt pc (pc + 1) (o_xR 18) := by
  intro nx jp hn hj ls st σ h
  obtain ⟨K, I, J, Q⟩ := σ
  simp only [o_xR] at h
  split at h
  · rename_i i q r
    rcases hk : zKd K q with ⟨t2, n⟩
    rw [hk] at h
    obtain ⟨hb, h⟩ := zB_out h
    have hb := Nat.eq_of_beq_eq_true hb
    subst hb
    have hg := zW_arr (G := G) (σ := (K, I, J, Q)) (p := q) hk (by decide) (by decide)
    intro p e s m args below meth c hE H locs lsR hw hS hl
    obtain ⟨h1, a, ha, h2⟩ := h
    refine zaldq hE.1 hE.2.1 hE.2.2.2.2.2.2.2.1 hw.2 q 5 rfl hg rfl h1 hd ?_
    show W p (zgL G) e R s m args below meth c H locs cs sl (F below args s) (F0 m (pc + 1) lsR (va_rf ((Q q i.toNatClampNeg).map (zAd G)) :: r.map (zV G)))
    rw [ha]
    exact hn _ _ _ h2 p e s m args below meth c hE H locs lsR hw hS hl
  · exact h.elim

theorem k_aald19 (hd : decode cc pc = .ok (.aaload, 1)) : zOK G R own cc nL ret F cs sl C Rt pc (pc + 1) (o_xR 19) := by
  intro nx jp hn hj ls st σ h
  obtain ⟨K, I, J, Q⟩ := σ
  simp only [o_xR] at h
  split at h
  · rename_i i q r
    rcases hk : zKd K q with ⟨t2, n⟩
    rw [hk] at h
    obtain ⟨hb, h⟩ := zB_out h
    have hb := Nat.eq_of_beq_eq_true hb
    subst hb
    have hg := zW_arr (G := G) (σ := (K, I, J, Q)) (p := q) hk (by decide) (by decide)
    intro p e s m args below meth c hE H locs lsR hw hS hl
    obtain ⟨h1, a, ha, h2⟩ := h
    refine zaldq hE.1 hE.2.1 hE.2.2.2.2.2.2.2.1 hw.2 q 6 rfl hg rfl h1 hd ?_
    show W p (zgL G) e R s m args below meth c H locs cs sl (F below args s) (F0 m (pc + 1) lsR (va_rf ((Q q i.toNatClampNeg).map (zAd G)) :: r.map (zV G)))
    rw [ha]
    exact hn _ _ _ h2 p e s m args below meth c hE H locs lsR hw hS hl
  · exact h.elim

theorem k_aald20 (hd : decode cc pc = .ok (.aaload, 1)) : zOK G R own cc nL ret F cs sl C Rt pc (pc + 1) (o_xR 20) := by
  intro nx jp hn hj ls st σ h
  obtain ⟨K, I, J, Q⟩ := σ
  simp only [o_xR] at h
  split at h
  · rename_i i q r
    rcases hk : zKd K q with ⟨t2, n⟩
    rw [hk] at h
    obtain ⟨hb, h⟩ := zB_out h
    have hb := Nat.eq_of_beq_eq_true hb
    subst hb
    have hg := zW_arr (G := G) (σ := (K, I, J, Q)) (p := q) hk (by decide) (by decide)
    intro p e s m args below meth c hE H locs lsR hw hS hl
    obtain ⟨h1, a, ha, h2⟩ := h
    refine zaldq hE.1 hE.2.1 hE.2.2.2.2.2.2.2.1 hw.2 q 7 rfl hg rfl h1 hd ?_
    show W p (zgL G) e R s m args below meth c H locs cs sl (F below args s) (F0 m (pc + 1) lsR (va_rf ((Q q i.toNatClampNeg).map (zAd G)) :: r.map (zV G)))
    rw [ha]
    exact hn _ _ _ h2 p e s m args below meth c hE H locs lsR hw hS hl
  · exact h.elim

theorem k_iast (hd : decode cc pc = .ok (.iastore, 1)) : zOK G R own cc nL ret F cs sl C Rt pc (pc + 1) (o_yI) := by
  intro nx jp hn hj ls st σ h
  obtain ⟨K, I, J, Q⟩ := σ
  simp only [o_yI] at h
  split at h
  · rename_i v i q r
    rcases hk : zKd K q with ⟨t2, n⟩
    rw [hk] at h
    obtain ⟨hb, h⟩ := zB_out h
    have hb := Nat.eq_of_beq_eq_true hb
    subst hb
    have hg := zW_arr (G := G) (σ := (K, I, J, Q)) (p := q) hk (by decide) (by decide)
    intro p e s m args below meth c hE H locs lsR hw hS hl
    refine va_iast hE.1 hE.2.1 hE.2.2.2.2.2.2.2.1 hw.2 (zW_D hw.1) hS q 1 hg rfl h.1 hd (fun H1 locs1 hP1 _ hS1 => ?_)
    have hset := zW_set (G := G) (σ := (K, I, J, Q)) (σ' := (K, z_upI I q i.toNatClampNeg v, J, Q)) (p := q) (e := .inl (zgY G 14, n, .inl (upd (I q) i.toNatClampNeg v))) rfl (fun x hx => ⟨z_upI_ne hx, rfl, rfl⟩) (by rw [show zKd (K, I, J, Q).1 q = (14, n) from hk]; show _ = Sum.inl (zgY G 14, n, Sum.inl (z_upI I q _ _ q)); rw [z_upI_self])
    have hP1 := hset ▸ hP1
    exact hn _ _ _ h.2 p e s m args below meth c hE H1 locs1 lsR ⟨hw.1, hP1⟩ hS1 hl
  · exact h.elim

theorem k_bast (hd : decode cc pc = .ok (.bastore, 1)) : zOK G R own cc nL ret F cs sl C Rt pc (pc + 1) (o_yB) := by
  intro nx jp hn hj ls st σ h
  obtain ⟨K, I, J, Q⟩ := σ
  simp only [o_yB] at h
  split at h
  · rename_i v i q r
    rcases hk : zKd K q with ⟨t2, n⟩
    rw [hk] at h
    obtain ⟨hb, h⟩ := zB_out h
    have hb := Nat.eq_of_beq_eq_true hb
    subst hb
    have hg := zW_arr (G := G) (σ := (K, I, J, Q)) (p := q) hk (by decide) (by decide)
    intro p e s m args below meth c hE H locs lsR hw hS hl
    refine va_bast hE.1 hE.2.1 hE.2.2.2.2.2.2.2.1 hw.2 (zW_D hw.1) hS q 0 hg rfl h.1 hd (fun H1 locs1 hP1 _ hS1 => ?_)
    have hset := zW_set (G := G) (σ := (K, I, J, Q)) (σ' := (K, z_upI I q i.toNatClampNeg (vp_nar .byte v), J, Q)) (p := q) (e := .inl (zgY G 13, n, .inl (upd (I q) i.toNatClampNeg (vp_nar .byte v)))) rfl (fun x hx => ⟨z_upI_ne hx, rfl, rfl⟩) (by rw [show zKd (K, I, J, Q).1 q = (13, n) from hk]; show _ = Sum.inl (zgY G 13, n, Sum.inl (z_upI I q _ _ q)); rw [z_upI_self])
    have hP1 := hset ▸ hP1
    exact hn _ _ _ h.2 p e s m args below meth c hE H1 locs1 lsR ⟨hw.1, hP1⟩ hS1 hl
  · exact h.elim

theorem k_zast (hd : decode cc pc = .ok (.bastore, 1)) : zOK G R own cc nL ret F cs sl C Rt pc (pc + 1) (o_yZ) := by
  intro nx jp hn hj ls st σ h
  obtain ⟨K, I, J, Q⟩ := σ
  simp only [o_yZ] at h
  split at h
  · rename_i v i q r
    rcases hk : zKd K q with ⟨t2, n⟩
    rw [hk] at h
    obtain ⟨hb, h⟩ := zB_out h
    have hb := Nat.eq_of_beq_eq_true hb
    subst hb
    have hg := zW_arr (G := G) (σ := (K, I, J, Q)) (p := q) hk (by decide) (by decide)
    intro p e s m args below meth c hE H locs lsR hw hS hl
    refine va_zast hE.1 hE.2.1 hE.2.2.2.2.2.2.2.1 hw.2 (zW_D hw.1) hS q 3 hg rfl h.1 hd (fun H1 locs1 hP1 _ hS1 => ?_)
    have hset := zW_set (G := G) (σ := (K, I, J, Q)) (σ' := (K, z_upI I q i.toNatClampNeg (vp_nar .boolean v), J, Q)) (p := q) (e := .inl (zgY G 16, n, .inl (upd (I q) i.toNatClampNeg (vp_nar .boolean v)))) rfl (fun x hx => ⟨z_upI_ne hx, rfl, rfl⟩) (by rw [show zKd (K, I, J, Q).1 q = (16, n) from hk]; show _ = Sum.inl (zgY G 16, n, Sum.inl (z_upI I q _ _ q)); rw [z_upI_self])
    have hP1 := hset ▸ hP1
    exact hn _ _ _ h.2 p e s m args below meth c hE H1 locs1 lsR ⟨hw.1, hP1⟩ hS1 hl
  · exact h.elim

theorem k_last (hd : decode cc pc = .ok (.lastore, 1)) : zOK G R own cc nL ret F cs sl C Rt pc (pc + 1) (o_yJ) := by
  intro nx jp hn hj ls st σ h
  obtain ⟨K, I, J, Q⟩ := σ
  simp only [o_yJ] at h
  split at h
  · rename_i v i q r
    rcases hk : zKd K q with ⟨t2, n⟩
    rw [hk] at h
    obtain ⟨hb, h⟩ := zB_out h
    have hb := Nat.eq_of_beq_eq_true hb
    subst hb
    have hg := zW_arr (G := G) (σ := (K, I, J, Q)) (p := q) hk (by decide) (by decide)
    intro p e s m args below meth c hE H locs lsR hw hS hl
    refine va_last hE.1 hE.2.1 hE.2.2.2.2.2.2.2.1 hw.2 (zW_D hw.1) hS q 2 hg rfl h.1 hd (fun H1 locs1 hP1 _ hS1 => ?_)
    have hset := zW_set (G := G) (σ := (K, I, J, Q)) (σ' := (K, I, z_upJ J q i.toNatClampNeg v, Q)) (p := q) (e := .inl (zgY G 15, n, .inr (.inl (vp_updL (J q) i.toNatClampNeg v)))) rfl (fun x hx => ⟨rfl, z_upJ_ne hx, rfl⟩) (by rw [show zKd (K, I, J, Q).1 q = (15, n) from hk]; show _ = Sum.inl (zgY G 15, n, Sum.inr (Sum.inl (z_upJ J q _ _ q))); rw [z_upJ_self])
    have hP1 := hset ▸ hP1
    exact hn _ _ _ h.2 p e s m args below meth c hE H1 locs1 lsR ⟨hw.1, hP1⟩ hS1 hl
  · exact h.elim

theorem k_aast (hd : decode cc pc = .ok (.aastore, 1)) : zOK G R own cc nL ret F cs sl C Rt pc (pc + 1) (o_yR 18 5) := by
  intro nx jp hn hj ls st σ h
  obtain ⟨K, I, J, Q⟩ := σ
  simp only [o_yR] at h
  split at h
  · rename_i v i q r
    rcases hk : zKd K q with ⟨t2, n⟩
    rw [hk] at h
    obtain ⟨hb, h⟩ := zB_out h
    have hb := Nat.eq_of_beq_eq_true hb
    subst hb
    obtain ⟨hv, h⟩ := zB_out h
    have hg := zW_arr (G := G) (σ := (K, I, J, Q)) (p := q) hk (by decide) (by decide)
    intro p e s m args below meth c hE H locs lsR hw hS hl
    refine va_astq (r := (RX5, TX5, 4)) hE.1 hE.2.1 hE.2.2.2.2.2.2.2.1 hw.2 (zW_D hw.1) hS q 5 v 5 hg rfl (zW_obj (G := G) (σ := (K, I, J, Q)) (by decide) hv).1 rfl h.1 hd (fun H1 locs1 hP1 _ hS1 => ?_)
    have hset := zW_set (G := G) (σ := (K, I, J, Q)) (σ' := (K, I, J, z_upR Q q i.toNatClampNeg (some v))) (p := q) (e := .inl (zgY G 18, n, .inr (.inr (.inr (.inr (va_up (fun k => (Q q k).map (zAd G)) i.toNatClampNeg (some (zAd G v)))))))) rfl (fun x hx => ⟨rfl, rfl, z_upR_ne hx⟩) (by
      rw [show zKd (K, I, J, Q).1 q = (18, n) from hk]
      show _ = Sum.inl (zgY G 18, n, Sum.inr (Sum.inr (Sum.inr (Sum.inr (fun k => (z_upR Q q i.toNatClampNeg (some v) q k).map (zAd G))))))
      rw [z_upR_self]
      congr 7
      funext k
      by_cases hx : k = i.toNatClampNeg
      · subst hx; rw [va_up_self, va_up_self]; rfl
      · rw [va_up_ne _ _ hx, va_up_ne _ _ hx])
    have hP1 := hset ▸ hP1
    exact hn _ _ _ h.2 p e s m args below meth c hE H1 locs1 lsR ⟨hw.1, hP1⟩ hS1 hl
  · exact h.elim

theorem k_alen (hd : decode cc pc = .ok (.arraylength, 1)) : zOK G R own cc nL ret F cs sl C Rt pc (pc + 1) (o_len) := by
  intro nx jp hn hj ls st σ h
  obtain ⟨K, I, J, Q⟩ := σ
  simp only [o_len] at h
  split at h
  · rename_i q r
    rcases hk : zKd K q with ⟨t2, n⟩
    rw [hk] at h
    obtain ⟨hb1, h⟩ := zB_out h
    obtain ⟨hb2, h⟩ := zB_out h
    have hb1 := Nat.le_of_ble_eq_true hb1
    have hb2 := Nat.le_of_ble_eq_true hb2
    have hg := zW_arr (G := G) (σ := (K, I, J, Q)) (p := q) hk hb1 hb2
    intro p e s m args below meth c hE H locs lsR hw hS hl
    have hx : (zArr G (K, I, J, Q) q t2 n).1 = n := by unfold zArr; split <;> (try split) <;> rfl
    have htt : ∃ ty, (zTy G)[t2 - 13]? = some (zgY G t2, ty) := by
      rcases (show t2 = 13 ∨ t2 = 14 ∨ t2 = 15 ∨ t2 = 16 ∨ t2 = 17 ∨ t2 = 18 ∨ t2 = 19 ∨ t2 = 20 by omega) with rfl | rfl | rfl | rfl | rfl | rfl | rfl | rfl <;> exact ⟨_, rfl⟩
    obtain ⟨ty, htt⟩ := htt
    exact va_alen hE.1 hE.2.1 hE.2.2.2.2.2.2.2.1 hw.2 q (t2 - 13) hg htt (by rw [hx]) hd (hn _ _ _ h p e s m args below meth c hE H locs lsR hw hS hl)
  · exact h.elim

theorem k_gs0 {idx : Nat} {host : String} (hlk : Cond.fieldLinkNest own idx RX11 "BOX" "[I" host ∈ zNs) (hd : decode cc pc = .ok (.getstatic idx, 3)) : zOK G R own cc nL ret F cs sl C Rt pc (pc + 3) (o_gs 0) := by
  intro nx jp hn hj ls st σ h
  intro p e s m args below meth c hE H locs lsR hw hS hl
  have e0 : Value.ref (zgS G 0) = zV G (.ref (1000000 + 0)) := by show _ = Value.ref (zAd G 1000000); rfl
  refine va_getsN (C := RX11) (ref := RX11) hE.1 hE.2.1 hE.2.2.2.2.2.2.2.2.2.2.1 hS hE.2.2.2.2.2.1 (va_Nw.use rfl (hE.2.2.2.2.2.2.2.2.1 _ hlk)) (fun _ h9 => h9) hd ?_
  rw [e0]
  exact hn _ _ _ h p e s m args below meth c hE H locs lsR hw hS hl

theorem k_gs1 {idx : Nat} (hlk : Cond.fieldLink own idx RX12 "ALWAYS" "[I" ∈ zWs) (hd : decode cc pc = .ok (.getstatic idx, 3)) : zOK G R own cc nL ret F cs sl C Rt pc (pc + 3) (o_gs 1) := by
  intro nx jp hn hj ls st σ h
  intro p e s m args below meth c hE H locs lsR hw hS hl
  have e0 : Value.ref (zgS G 1) = zV G (.ref (1000000 + 1)) := by show _ = Value.ref (zAd G 1000001); rfl
  refine va_gets (C := RX12) (ref := RX12) hE.1 hE.2.1 hE.2.2.2.2.2.2.2.2.2.2.2.1 hS hE.2.2.2.2.2.1 (hE.2.2.2.2.2.2.1 _ hlk) (fun _ h9 => h9) hd ?_
  rw [e0]
  exact hn _ _ _ h p e s m args below meth c hE H locs lsR hw hS hl

theorem k_xs {t n : Nat} {f : Nat → Int32} (ht : t < 3) (hN : zSL G t = n) (hf : zSV G t = f) (hd : decode cc pc = .ok (.iaload, 1)) : zOK G R own cc nL ret F cs sl C Rt pc (pc + 1) (o_xs t n f) := by
  intro nx jp hn hj ls st σ h
  simp only [o_xs] at h
  split at h
  · rename_i i q r
    obtain ⟨hb, h2⟩ := zB_out h
    have hb := Nat.eq_of_beq_eq_true hb
    clear h
    subst hb
    intro p e_1 s m args below meth c hE H locs lsR hw hS hl
    have e : zV G (.ref (1000000 + t)) = Value.ref (zgS G t) := by show Value.ref (zAd G (1000000 + t)) = _; unfold zAd; rw [if_neg (by omega), Nat.add_sub_cancel_left]
    show W p (zgL G) e_1 R s m args below meth c H locs cs sl (F below args s) (F0 m pc lsR (.int i :: zV G (.ref (1000000 + t)) :: r.map (zV G)))
    rw [e]
    exact va_ti hE.1 hE.2.1 (hE.2.2.2.2.2.2.2.2.2.1 t ht) hS (by rw [hN]; exact h2.1) (by rw [hf]; rfl) hd (hn _ _ _ h2.2 p e_1 s m args below meth c hE H locs lsR hw hS hl)
  · exact h.elim

theorem k_sl {t n : Nat} (ht : t < 3) (hN : zSL G t = n) (hd : decode cc pc = .ok (.arraylength, 1)) : zOK G R own cc nL ret F cs sl C Rt pc (pc + 1) (o_sl t n) := by
  intro nx jp hn hj ls st σ h
  simp only [o_sl] at h
  split at h
  · rename_i q r
    obtain ⟨hb, h2⟩ := zB_out h
    have hb := Nat.eq_of_beq_eq_true hb
    clear h
    subst hb
    intro p e_1 s m args below meth c hE H locs lsR hw hS hl
    have e : zV G (.ref (1000000 + t)) = Value.ref (zgS G t) := by show Value.ref (zAd G (1000000 + t)) = _; unfold zAd; rw [if_neg (by omega), Nat.add_sub_cancel_left]
    show W p (zgL G) e_1 R s m args below meth c H locs cs sl (F below args s) (F0 m pc lsR (zV G (.ref (1000000 + t)) :: r.map (zV G)))
    rw [e]
    exact va_tlen hE.1 hE.2.1 (hE.2.2.2.2.2.2.2.2.2.1 t ht) hS (by rw [hN]) hd (hn _ _ _ h2 p e_1 s m args below meth c hE H locs lsR hw hS hl)
  · exact h.elim

end ZH2
