-- ===== a method that throws =====
def zNSE : String := "java/util/NoSuchElementException"
def zSx : ByteArray := ⟨#[0x2a, 0x2b, 0xb7, 0x00, 0x0d, 0xb1]⟩
def zxA : List Cond := zxAt RX11 131 zNSE "java/lang/RuntimeException" 13 zSx ["java/lang/Exception"]
def zXB : List Cond := [.declares (Bundle.initS "java/lang/RuntimeException"), .declares (Bundle.initS "java/lang/Exception"), .declares (Bundle.initS Bundle.tN), .castable zNSE zNSE]
def zThr (G : zG) (U : State) (H : Heap) : Prop := (∀ w ∈ zXB, va_Nw w U) ∧ (∃ a, vk_R RX11 129 "no such row, or no such part of it" a U) ∧ (∃ a, vk_R RX11 383 "no such number" a U) ∧ vx_Zq Bundle.tN "UNASSIGNED_STACK" Bundle.steD (zA G) U H ∧ vx_Zq Bundle.tN "SUPPRESSED_SENTINEL" Bundle.listD (zA G) U H
theorem zXB_t : ∀ w ∈ zXB, w.onTables = true ∧ w.faceAtom = true := by
  intro w hw
  have h : zXB.all (fun w => w.onTables && w.faceAtom) = true := by decide +kernel
  have := List.all_eq_true.mp h w hw
  rwa [Bool.and_eq_true] at this
theorem zXB_warm {w : Cond} (hw : w ∈ zXB) {s U : State} (hW : s.WarmedH U.vm) (h : va_Nw w s) : va_Nw w U := va_tabs (zXB_t w hw).1 (rfl : (s.setVm U.vm).vm = U.vm) (Cond.faceAtom_setVm hW.alike w (zXB_t w hw).2 h)
theorem zThr_warm {G : zG} {s U : State} {H : Heap} (hW : s.WarmedH U.vm) (h : zThr G s H) : zThr G U H := by
  obtain ⟨h1, ⟨a, h2⟩, ⟨b, h3⟩, h4, h5⟩ := h
  exact ⟨fun w hw => zXB_warm hw hW (h1 w hw), ⟨a, h2.warm hW⟩, ⟨b, h3.warm hW⟩, vx_Zq.moved hW.alike h4, vx_Zq.moved hW.alike h5⟩
theorem zThr_kept {G : zG} {U : State} {H H1 : Heap} (hq : ∀ a : Nat, a < H.size → ¬ zA G a → H1[a]? = H[a]?) (h : zThr G U H) : zThr G U H1 := by
  obtain ⟨h1, h2, h3, h4, h5⟩ := h
  exact ⟨h1, h2, h3, h4.kept hq, h5.kept hq⟩
/-- what the context owes to the throws -/
def zTok (G : zG) : Prop := (zgL G).stackTraces = false ∧ ∀ U H, zgP G U H → zThr G U H
theorem zWd_kept {G : zG} {σ : zSt} {H H1 : Heap} (h : zWd G σ H) (hq : ∀ q : Nat, q < H.size → H1[q]? = H[q]?) : zWd G σ H1 := ⟨h.1, h.2.kept (fun k q hk => hq _ (vx_lt h.2 hk))⟩
def zRx : Room := { frames := 6, cells := 1, slots := 6, locals := 300 }
theorem zRoom_x : zRoom zRx 6 0 0 := ⟨Nat.le_refl _, Nat.le_refl _, Nat.zero_le _, Nat.zero_le _⟩
def zXC (G : zG) (Qx : zSt → Prop) : String → State → State → Prop := fun E st t => E = zNSE ∧ (∃ σ, Qx σ ∧ zWd G σ t.heap) ∧ va_F (zA G) st t
def zNm (y : MethodName) (below : List Frame) (args : Array Value) (s : State) : Prop := ∀ m, s.frames = .invoking m args :: below → s.methodNamed? y = some m
def zFx (G : zG) (y : MethodName) (Q : zRt) (Qx : zSt → Prop) : List Frame → Array Value → State → State → Prop := fun below args s t => zNm y below args s → vx_MQ below (zQc G Q) (zXC G Qx) args s 1 6 (zA G) t
def o_thr (Qx : zSt → Prop) : zOp := fun _ _ _ _ _ st σ => match st with | [] => Qx σ | _ => False
theorem zat_q1 : (zxA.filter goodWord).all (fun w => decide (w ∈ lw_tbl)) = true := by decide +kernel
theorem zat_g : ∀ w ∈ zxA.filter goodWord, w ∈ zWs := by
  intro w hw
  exact List.mem_filter.mpr ⟨of_decide_eq_true (List.all_eq_true.mp zat_q1 w hw), (List.mem_filter.mp hw).2⟩
theorem zat_n : ∀ w ∈ zxA.filter (fun w => !goodWord w), w ∈ zXB := by decide +kernel
theorem zat_t : ∀ w ∈ Cond.classLink RX11 127 zNSE :: Cond.initialized zNSE :: zxA, vx_ot w = true := by decide +kernel
theorem zat_k : Cond.classLink RX11 127 zNSE ∈ zWs := by
  refine List.mem_filter.mpr ⟨?_, rfl⟩
  decide +kernel
theorem zat_i : Cond.initialized zNSE ∈ zWs := by
  refine List.mem_filter.mpr ⟨?_, rfl⟩
  decide +kernel
section ZX
variable {G : zG} {cc : ByteArray} {nL : Nat} {ret : Option FieldType} {C : zCl} {Rt : zRt} {Qx : zSt → Prop} {pc nxt : Nat} {y : MethodName}
theorem zFx_of {p : Program} {l : Launch} {e : Env} {R : Room} {s : State} {m : MethodId} {args : Array Value} {below : List Frame} {meth : Method} {c : Code} {H : Heap} {locs : List Loc} {g : JFrame} (k : W p l e R s m args below meth c H locs 0 0 (MQ below (zQc G Rt) args s 0 0 (zA G)) g) : W p l e R s m args below meth c H locs 0 0 (zFx G y Rt Qx below args s) g := by
  intro T hT X
  obtain ⟨t, a1, o, b1, b2, b3, L, b4, b5⟩ := k T hT X
  refine ⟨t, a1, fun _ => ⟨o, b1, b2, Or.inl ⟨b3, L, ?_, b5⟩⟩⟩
  obtain ⟨c1, c2, c3⟩ := b4
  exact ⟨c1, c2, c3.mono (Nat.zero_le _) (Nat.zero_le _)⟩
theorem k_iretX {own : String} (hr : ret = some .int) (hd : decode cc pc = .ok (.ireturn, 1)) : zOK G zRx own cc nL ret (zFx G y Rt Qx) 0 0 C Rt pc nxt o_ir := by
  intro nx jp hn hj ls st σ h
  simp only [o_ir] at h
  split at h
  · intro p e s m args below meth c hE H locs lsR hw hS hl
    exact zFx_of (W.iret hE.1 hE.2.1 (hE.2.2.2.1.trans hr) (zqc_of h hw hS args) hS.2.2 hd hE.2.2.2.2.1)
  · exact h.elim
theorem k_lretX {own : String} (hr : ret = some .long) (hd : decode cc pc = .ok (.lreturn, 1)) : zOK G zRx own cc nL ret (zFx G y Rt Qx) 0 0 C Rt pc nxt o_lr := by
  intro nx jp hn hj ls st σ h
  simp only [o_lr] at h
  split at h
  · intro p e s m args below meth c hE H locs lsR hw hS hl
    exact zFx_of (W.lret hE.1 hE.2.1 (hE.2.2.2.1.trans hr) (zqc_of h hw hS args) hS.2.2 hd hE.2.2.2.2.1)
  · exact h.elim
theorem zthr (hT : zTok G) (hcd : Cond.code y cc nL ret ∈ zWs) {σ : zSt} (hq : Qx σ) {p : Program} {e : Env} {s : State} {m : MethodId} {args : Array Value} {below : List Frame} {meth : Method} {c : Code} {H : Heap} {locs : List Loc} {lsR : Array Slot} (hE : zEnv G RX11 cc nL ret p s m args meth c) (hw : zWd G σ H) (hS : va_S (zA G) s.heap H locs) (hsz : lsR.size = nL)
    (body : (∀ x ∈ c.exceptionTable.toList, False) → W p (zgL G) e zRx s m args below meth c H locs 0 0 (vx_MQ below (zQc G Rt) (zXC G Qx) args s 1 6 (zA G)) (F0 m pc lsR [])) : W p (zgL G) e zRx s m args below meth c H locs 0 0 (zFx G y Rt Qx below args s) (F0 m pc lsR []) := by
  intro T hT2 X
  by_cases hn : zNm y below args s
  · have hnm := hn m X.frames
    have hcb := hE.2.2.2.2.2.2.1 _ hcd
    obtain ⟨meth9, c9, h1, h2, -, -, -, -, h7, -⟩ := Cond.code_spec hnm hcb
    cases Option.some.inj (h1.symm.trans X.method)
    cases Option.some.inj (h2.symm.trans X.code)
    obtain ⟨t, a1, b1⟩ := body (fun x hx => by rw [Array.isEmpty_iff.mp h7] at hx; cases hx) T hT2 X
    exact ⟨t, a1, fun _ => b1⟩
  · exact ⟨_, Steps.refl _, fun q => absurd q hn⟩
theorem zthr_x {σ : zSt} (hq : Qx σ) {s : State} {H : Heap} {locs : List Loc} (hw : zWd G σ H) (hS : va_S (zA G) s.heap H locs) : ∀ t : State, s.vm.Alike t.vm → H.size ≤ t.heap.size → (∀ q : Nat, q < H.size → t.heap[q]? = H[q]?) → zXC G Qx zNSE s t := fun t _ hz hk =>
  ⟨rfl, ⟨σ, hq, zWd_kept hw hk⟩, Nat.le_trans hS.1 hz, fun q h1 h2 => (hk q (Nat.lt_of_lt_of_le h1 hS.1)).trans (hS.2.1 q h1 h2)⟩
theorem k_thrS (hT : zTok G) (hcd : Cond.code y cc nL ret ∈ zWs) (d0 : decode cc pc = .ok (.new 127, 3)) (d3 : decode cc (pc + 3) = .ok (.dup, 1)) (d4 : decode cc (pc + 4) = .ok (.ldc 129, 2)) (d6 : decode cc (pc + 6) = .ok (.invokespecial 131, 3)) (d9 : decode cc (pc + 9) = .ok (.athrow, 1)) : zOK G zRx RX11 cc nL ret (zFx G y Rt Qx) 0 0 C Rt pc nxt (o_thr Qx) := by
  intro nx jp hn hj ls st σ h
  simp only [o_thr] at h
  split at h
  · intro p e s m args below meth c hE H locs lsR hw hS hl
    obtain ⟨t1, ⟨a, t2⟩, t3, t4, t5⟩ := hT.2 s s.heap hE.2.2.2.2.2.2.2.2.2.2.2.2
    refine zthr hT hcd h hE hw hS hl.1 (fun he => ?_)
    exact zx_makeS (ix := 13) (rx := zSx) (Yy := "java/lang/RuntimeException") (names := ["java/lang/Exception"]) hE.1 hE.2.1 hT.1 (by decide +kernel) (by decide +kernel) (by decide +kernel) (by decide +kernel) (by decide +kernel) hE.2.2.2.2.2.1 (by decide +kernel) (by decide +kernel) (hE.2.2.2.2.2.2.1 _ zat_k) (hE.2.2.2.2.2.2.1 _ zat_i) t2 (vx_hat (fun w hw => hE.2.2.2.2.2.2.1 _ (zat_g w hw)) zat_n (fun w hw => (t1 w hw).use (zXB_t w hw).1)) zat_t t4 t5 hS (hl.1.trans hE.2.2.1.symm) d0 d3 d4 d6 (by decide) (by decide) (by decide) (by decide)
      (fun q H1 ce e1 e2 e3 e4 e5 => vx_athrow hE.1 hE.2.1 d9 (vx_out (fun x hx => (he x hx).elim) hE.2.2.2.2.1 e1 e2 e3 (fun t ht ha => zthr_x h hw hS t ha (by rw [ht]; exact e4) (by rw [ht]; exact e5)) hS.2.2 (by decide) (by decide)))
  · exact h.elim
theorem k_thrW (hT : zTok G) (hcd : Cond.code y cc nL ret ∈ zWs) (d0 : decode cc pc = .ok (.new 127, 3)) (d3 : decode cc (pc + 3) = .ok (.dup, 1)) (d4 : decode cc (pc + 4) = .ok (.ldc_w 383, 3)) (d7 : decode cc (pc + 7) = .ok (.invokespecial 131, 3)) (d10 : decode cc (pc + 10) = .ok (.athrow, 1)) : zOK G zRx RX11 cc nL ret (zFx G y Rt Qx) 0 0 C Rt pc nxt (o_thr Qx) := by
  intro nx jp hn hj ls st σ h
  simp only [o_thr] at h
  split at h
  · intro p e s m args below meth c hE H locs lsR hw hS hl
    obtain ⟨t1, t2, ⟨a, t3⟩, t4, t5⟩ := hT.2 s s.heap hE.2.2.2.2.2.2.2.2.2.2.2.2
    refine zthr hT hcd h hE hw hS hl.1 (fun he => ?_)
    exact zx_makeW (ix := 13) (rx := zSx) (Yy := "java/lang/RuntimeException") (names := ["java/lang/Exception"]) hE.1 hE.2.1 hT.1 (by decide +kernel) (by decide +kernel) (by decide +kernel) (by decide +kernel) (by decide +kernel) hE.2.2.2.2.2.1 (by decide +kernel) (by decide +kernel) (hE.2.2.2.2.2.2.1 _ zat_k) (hE.2.2.2.2.2.2.1 _ zat_i) t3 (vx_hat (fun w hw => hE.2.2.2.2.2.2.1 _ (zat_g w hw)) zat_n (fun w hw => (t1 w hw).use (zXB_t w hw).1)) zat_t t4 t5 hS (hl.1.trans hE.2.2.1.symm) d0 d3 d4 d7 (by decide) (by decide) (by decide) (by decide)
      (fun q H1 ce e1 e2 e3 e4 e5 => vx_athrow hE.1 hE.2.1 d10 (vx_out (fun x hx => (he x hx).elim) hE.2.2.2.2.1 e1 e2 e3 (fun t ht ha => zthr_x h hw hS t ha (by rw [ht]; exact e4) (by rw [ht]; exact e5)) hS.2.2 (by decide) (by decide)))
  · exact h.elim
/-- the contract of a method that returns or throws, out of its walk -/
theorem zMethodX {as : List Value} {σ : zSt} {Q : zRt} (hpl : plainName y.cls = true) (hcd : Cond.code y cc nL ret ∈ zWs) (ls : zLs) (hls : zIn as ++ List.replicate (nL - (zIn as).length) none = ls) (hln : (zIn as).length ≤ nL)
    (h : zAt G zRx y.cls cc nL ret (zFx G y Q Qx) 0 0 0 ls [] σ) : vx_Met (zgL G) y (Cond.code y cc nL ret :: zWs) zRx (zPre G as σ) (zQc G Q) (zXC G Qx) 1 6 (zA G) := by
  refine vx_ofW (cc := cc) (maxL := nL) (ret := ret) hpl rfl ?_
  intro p e s m args below meth c s₁ B hml _ hv
  obtain ⟨rfl, hw, hK, hPm⟩ := hv
  have hts := atoms_spec (ws := Cond.code y cc nL ret :: zWs) B.pre
  have hown : s.vm.findClass y.cls = some m.cls := findClass_of_methodNamed B.named
  have hE : zEnv G y.cls cc nL ret p s m (as.map (zV G)).toArray meth c := ⟨B.exec, B.bytes, hml, B.returns, B.notSynchronized, hown, fun w hw => hts w (List.mem_cons_of_mem _ hw), hK, hPm⟩
  have hle := lv_entry (as.map (zV G)) (n := nL) (by rw [zIn_len]; exact hln)
  rw [lg_entry_eq]
  have k := h p e s m _ below meth c hE s.heap [] _ hw va_S.rf ⟨hle.1, hle.2.1, by rw [← hls, List.length_append, List.length_replicate]; omega, fun i v hi => by
    rw [← hls] at hi
    rcases Nat.lt_or_ge i (zIn as).length with q | q
    · rw [List.getElem?_append_left q] at hi
      have h2 := zIn_args (G := G) (i := 0) hi
      rw [Nat.zero_add] at h2
      exact hle.2.2 _ h2
    · rw [List.getElem?_append_right q] at hi
      have h3 := List.mem_of_getElem? hi
      rw [List.mem_replicate] at h3
      exact absurd h3.2 (by simp)⟩
  intro T hT X
  obtain ⟨t, a1, b1⟩ := k T hT X
  exact ⟨t, a1, b1 (fun m9 h9 => by
    have := h9.symm.trans X.frames
    cases this
    exact B.named)⟩
end ZX
