-- ===== a method that catches =====
def zRl : Room := { frames := 7, cells := 1, slots := 6, locals := 350 }
def zFl (G : zG) (y : MethodName) (Q : zRt) : List Frame → Array Value → State → State → Prop := fun below args s t => zNm y below args s → MQ below (zQc G Q) args s 1 6 (zA G) t
section ZL
variable {G : zG} {cc : ByteArray} {nL : Nat} {ret : Option FieldType} {C : zCl} {Rt : zRt} {pc nxt : Nat} {y : MethodName}
theorem zFl_of {p : Program} {l : Launch} {e : Env} {R : Room} {s : State} {m : MethodId} {args : Array Value} {below : List Frame} {meth : Method} {c : Code} {H : Heap} {locs : List Loc} {g : JFrame} {cs sl : Nat} (k : W p l e R s m args below meth c H locs cs sl (MQ below (zQc G Rt) args s 1 6 (zA G)) g) : W p l e R s m args below meth c H locs cs sl (zFl G y Rt below args s) g := by
  intro T hT X
  obtain ⟨t, a1, b1⟩ := k T hT X
  exact ⟨t, a1, fun _ => b1⟩
theorem k_iretL {own : String} (hr : ret = some .int) (hd : decode cc pc = .ok (.ireturn, 1)) : zOK G zRl own cc nL ret (zFl G y Rt) 1 6 C Rt pc nxt o_ir := by
  intro nx jp hn hj ls st σ h
  simp only [o_ir] at h
  split at h
  · intro p e s m args below meth c hE H locs lsR hw hS hl
    exact zFl_of (W.iret hE.1 hE.2.1 (hE.2.2.2.1.trans hr) (zqc_of h hw hS args) hS.2.2 hd hE.2.2.2.2.1)
  · exact h.elim
/-- the method's table -/
theorem zTab {hh : List (Nat × Nat × Nat × Nat)} (hcd : Cond.codeWith y cc nL ret hh ∈ zWs) {own : String} {p : Program} {e : Env} {R : Room} {s : State} {m : MethodId} {args : Array Value} {below : List Frame} {meth : Method} {c : Code} {H : Heap} {locs : List Loc} {g : JFrame} {cs sl : Nat} (hE : zEnv G own cc nL ret p s m args meth c)
    (body : c.exceptionTable.toList = tableOf hh → W p (zgL G) e R s m args below meth c H locs cs sl (zFl G y Rt below args s) g) : W p (zgL G) e R s m args below meth c H locs cs sl (zFl G y Rt below args s) g := by
  intro T hT2 X
  by_cases hn : zNm y below args s
  · have hnm := hn m X.frames
    obtain ⟨m9, meth9, c9, hn9, h1, h2, -, -, h6, -⟩ := Cond.codeWith_spec (hE.2.2.2.2.2.2.1 _ hcd)
    cases Option.some.inj (hn9.symm.trans hnm)
    cases Option.some.inj (h1.symm.trans X.method)
    cases Option.some.inj (h2.symm.trans X.code)
    exact body (by rw [← h6, table_eq]) T hT2 X
  · exact ⟨_, Steps.refl _, fun q => absurd q hn⟩
/-- a call that returns or throws -/
theorem zcallX {p : Program} {l : Launch} {e : Env} {R : Room} {s : State} {m : MethodId} {args : Array Value} {below : List Frame} {meth : Method} {c : Code} {H : Heap} {locs : List Loc} {Q : State → Prop} {ls : Array Slot} {rest st0 : List Value} {a : Array Value} {K : zRt} {Qx : zSt → Prop} {cs sl mc ms : Nat} (hr : vx_Run p l e R s m args below meth c H locs cs sl mc ms (F0 m pc ls st0) rest (zQc G K a) (zXC G Qx) (zA G)) (hS : va_S (zA G) s.heap H locs)
    (kx : ∀ (q9 : Addr) (ce : Cell) (σ : zSt) (H1 : Heap) (locs1 : List Loc), Qx σ → zWd G σ H1 → va_S (zA G) s.heap H1 locs1 → H1[q9]? = some ce → ce.vm = .none → s.vm.findClass zNSE = some ce.cls → vx_W p l e R s m args below meth c H1 locs1 (cs + mc) (sl + ms) Q (F0 m pc ls rest) q9)
    (kk : ∀ (r : Option Value) (σ : zSt) (H1 : Heap) (locs1 : List Loc), K r σ → zWd G σ H1 → va_S (zA G) s.heap H1 locs1 → W p l e R s m args below meth c H1 locs1 (cs + mc) (sl + ms) Q (F0 m (pc + 3) ls ((r.map (zV G)).toList ++ rest))) : W p l e R s m args below meth c H locs cs sl Q (F0 m pc ls st0) := by
  intro T hT X
  rcases hr T hT X with ⟨v, st₀, t, T', L, h0, X', hL, e1, e2, ⟨⟨r, σ, hv, hp, hw⟩, hF⟩, st⟩ | ⟨q, st₀, t, T', L, E, ce, h0, X', hL, e1, e2, ⟨hE, ⟨σ, hp, hw⟩, hF⟩, hce, hcv, hcl, st⟩
  · cases hv
    obtain ⟨k1, k2, k3⟩ := vx_keep h0 e1 hS (fun _ _ h => h) (fun _ h => h) hL hF
    obtain ⟨t2, a1, b1⟩ := kk r σ T'.heap (locs ++ L) hp (by rw [e1]; exact hw) k3 T' rfl X'
    exact ⟨t2, st t2 a1, b1⟩
  · subst hE
    obtain ⟨k1, k2, k3⟩ := vx_keep h0 e1 hS (fun _ _ h => h) (fun _ h => h) hL hF
    obtain ⟨t2, a1, b1⟩ := kx q ce σ T'.heap (locs ++ L) hp (by rw [e1]; exact hw) k3 (by rw [e1]; exact hce) hcv hcl T' rfl X'
    exact ⟨t2, st.trans a1, b1⟩
theorem zrunX (hG : zGok G) {R : Room} {own : String} (hR : zRx.frames + 1 ≤ R.frames ∧ 8 + (31 + 11) + zRx.locals ≤ R.locals) {cs sl : Nat} (hcs : cs + 1 ≤ R.cells ∧ sl + 6 ≤ R.slots) {p : Program} {e : Env} {s : State} {m : MethodId} {args : Array Value} {below : List Frame} {meth : Method} {c : Code} {H : Heap} {locs : List Loc} {lsR : Array Slot} {σ : zSt} {as rest : List Value} {K : zRt} {Qx : zSt → Prop} {ls : zLs} {idx' n b tag N maxL : Nat} {T : u_T} {bytes : ByteArray} {rt : Option FieldType} (hm : maxL ≤ 31) (hE : zEnv G own cc nL ret p s m args meth c) (hw : zWd G σ H) (hS : va_S (zA G) s.heap H locs) (hl : zLo G nL lsR ls)
    (hc : vwCl[tag]? = some (y.cls, T, N)) (hb : Nat.beq (zKd σ.1 b).1 tag = true) (hi : Cond.initialized y.cls ∈ zWs) (him : Cond.instanceMethod y ∈ zWs) (hse : Cond.selects y.cls y y ∈ zWs) (hlk : Cond.methodLink own idx' y ∈ zWs) (hcd : Cond.code y bytes maxL rt ∈ zWs) (hdy : y.cls ≠ "java/lang/invoke/MethodHandle" ∧ y.cls ≠ "java/lang/invoke/VarHandle" ∧ (parseMethodDescriptor y.desc).map (fun d => d.parameters.length) = some n) (hn : as.length = n) (h8 : (rest.map fun v => v.category).sum ≤ 8) (hd : decode cc pc = .ok (.invokevirtual idx', 3)) (h : vx_Met (zgL G) y (Cond.code y bytes maxL rt :: zWs) zRx (zPre G (.ref b :: as) σ) (zQc G K) (zXC G Qx) 1 6 (zA G)) :
    vx_Run p (zgL G) e R s m args below meth c H locs cs sl 1 6 (F0 m pc lsR ((as.map (zV G)).reverse ++ .ref (zAd G b) :: rest)) rest (zQc G K (Value.ref (zAd G b) :: as.map (zV G)).toArray) (zXC G Qx) (zA G) := by
  have h13 : tag < 13 := by have := (List.getElem?_eq_some_iff.mp hc).1; simpa using this
  have hp : PreV s H y.cls (zAd G b) (zPre G (.ref b :: as) σ) (as.map (zV G)) := ⟨zPre_blind hG, va_recv (q := (y.cls, T, N)) hE.2.2.2.2.2.2.2.1 hw.2 hc (zW_obj h13 hb).1, zpre_at hG hE hw hS⟩
  have cb : CallB R s args own idx' y bytes maxL rt (Cond.code y bytes maxL rt :: zWs) zRx 1 6 n := callB_of n hE.2.2.2.2.2.2.1 (zGood zWs (fun w hw => (List.mem_cons.mp hw).elim (fun e => e ▸ hcd) id) (fun w h => h)) rfl rfl rfl (hE.2.2.2.2.2.2.1 _ hi) (hE.2.2.2.2.2.2.1 _ hlk) hdy ⟨hR.1, by have := hR.2; omega⟩
  exact vx_runV (Ts := zWs) (C := y.cls) ⟨hE.1, hE.2.1, hE.2.2.1, hE.2.2.2.2.2.1, hE.2.2.2.2.2.2.1⟩ h ⟨cb, hE.2.2.2.2.2.2.1 _ him, hE.2.2.2.2.2.2.1 _ hse⟩ hp rfl (by rw [List.length_map]; exact hn) hl.1 rfl (lv_room h8) hd hcs
/-- the contract of a method with a table, out of its walk -/
theorem zMethodL {as : List Value} {σ : zSt} {Q : zRt} {hh : List (Nat × Nat × Nat × Nat)} (hpl : plainName y.cls = true) (ls : zLs) (hls : zIn as ++ List.replicate (nL - (zIn as).length) none = ls) (hln : (zIn as).length ≤ nL)
    (h : zAt G zRl y.cls cc nL ret (zFl G y Q) 0 0 0 ls [] σ) : Met (zgL G) y (Cond.codeWith y cc nL ret hh :: zWs) zRl (zPre G as σ) (zQc G Q) 1 6 (zA G) := by
  refine MetFree.of_bodyS (code := cc) (maxLocals := nL) (ret := ret) hpl ?_ ?_
  · intro args s m h hn
    obtain ⟨m9, meth, c, hn9, h1, h2, h3, h4, -, h5, h6, -⟩ := Cond.codeWith_spec (atoms_spec (ws := Cond.codeWith y cc nL ret hh :: zWs) h _ List.mem_cons_self)
    cases hn.symm.trans hn9
    exact ⟨meth, c, h1, h2, h3, h4, h5, h6⟩
  · intro p e s m args below meth c s₁ B hml hv _
    have hh0 : s₁.heap = s.heap := by rw [B.state]; rfl
    obtain ⟨rfl, hw, hK, hPm⟩ := hv
    have hts := atoms_spec (ws := Cond.codeWith y cc nL ret hh :: zWs) B.pre
    have hown : s.vm.findClass y.cls = some m.cls := findClass_of_methodNamed B.named
    have hE : zEnv G y.cls cc nL ret p s m (as.map (zV G)).toArray meth c := ⟨B.exec, B.bytes, hml, B.returns, B.notSynchronized, hown, fun w hw => hts w (List.mem_cons_of_mem _ hw), hK, hPm⟩
    have hle := lv_entry (as.map (zV G)) (n := nL) (by rw [zIn_len]; exact hln)
    have k := h p e s m _ below meth c hE s.heap [] _ hw va_S.rf ⟨hle.1, hle.2.1, by rw [← hls, List.length_append, List.length_replicate]; omega, fun i v hi => by
      rw [← hls] at hi
      rcases Nat.lt_or_ge i (zIn as).length with q | q
      · rw [List.getElem?_append_left q] at hi
        have h2 := zIn_args (G := G) (i := 0) hi
        rw [Nat.zero_add] at h2
        exact hle.2.2 _ h2
      · rw [List.getElem?_append_right q] at hi
        have h3 := List.mem_of_getElem? hi
        rw [List.mem_replicate] at h3
        exact absurd h3.2 (by simp)⟩
    have X := Stand.of_body B
    rw [List.map_nil, ← lg_entry_eq] at k
    obtain ⟨t, a1, b1⟩ := k s₁ hh0 X
    obtain ⟨o, c1, c2, c3⟩ := b1 (fun m9 h9 => by
      have := h9.symm.trans X.frames
      cases this
      exact B.named)
    exact ⟨t, o, a1, c1, c2, c3⟩
end ZL
