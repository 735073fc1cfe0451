-- ===== calls =====
noncomputable def o_cv (y : MethodName) (n : Nat) : zOp := fun C _ nx _ ls st σ => zPop n st [] (fun as r => zB (Nat.ble (zWd8 r) 8) (C y as σ (fun v σ' => match v with | none => nx ls r σ' | some _ => False)))
noncomputable def o_cr (y : MethodName) (n : Nat) : zOp := fun C _ nx _ ls st σ => zPop n st [] (fun as r => zB (Nat.ble (zWd8 r) 8) (C y as σ (fun v σ' => match v with | some v => nx ls (v :: r) σ' | none => False)))
noncomputable def o_vv (y : MethodName) (tag n : Nat) : zOp := fun C _ nx _ ls st σ => zPop n st [] (fun as r => match as with | .ref b :: as => zB (Nat.beq (zKd σ.1 b).1 tag) (zB (Nat.ble (zWd8 r) 8) (C y (.ref b :: as) σ (fun v σ' => match v with | none => nx ls r σ' | some _ => False))) | _ => False)
noncomputable def o_vr2 (y : MethodName) (tag n : Nat) : zOp := fun C _ nx _ ls st σ => zPop n st [] (fun as r => match as with | .ref b :: as => zB (Nat.beq (zKd σ.1 b).1 tag) (zB (Nat.ble (zWd8 r) 8) (C y (.ref b :: as) σ (fun v σ' => match v with | some v => nx ls (v :: r) σ' | none => False))) | _ => False)
def o_ir : zOp := fun _ Rt _ _ _ st σ => match st with | [.int x] => Rt (some (.int x)) σ | _ => False
def o_zr : zOp := fun _ Rt _ _ _ st σ => match st with | [.int x] => (x = 0 ∨ x = 1) ∧ Rt (some (.int x)) σ | _ => False
def o_lr : zOp := fun _ Rt _ _ _ st σ => match st with | [.long x] => Rt (some (.long x)) σ | _ => False
def o_ar : zOp := fun _ Rt _ _ _ st σ => match st with | [.ref x] => Rt (some (.ref x)) σ | _ => False
def o_vr : zOp := fun _ Rt _ _ _ st σ => match st with | [] => Rt none σ | _ => False
noncomputable def o_cpI : zOp := fun _ _ nx _ ls st σ => match st with
  | .int n :: .int dp :: .ref a :: .int sp :: .ref a0 :: r => (match σ with | (K, I, J, Q) => match zKd K a0 with | (t0, n0) => match zKd K a with | (t1, n1) => zB (Nat.beq t0 14) (zB (Nat.beq t1 14) (zB (Nat.ble (zWd8 r) 8)
      ((¬ sp < 0 ∧ ¬ dp < 0 ∧ ¬ n < 0 ∧ sp.toNatClampNeg + n.toNatClampNeg ≤ n0 ∧ dp.toNatClampNeg + n.toNatClampNeg ≤ n1) ∧ nx ls r (K, va_up I a (va_cpy (I a0) (I a) sp.toNatClampNeg dp.toNatClampNeg n.toNatClampNeg), J, Q)))))
  | _ => False
noncomputable def o_cpJ : zOp := fun _ _ nx _ ls st σ => match st with
  | .int n :: .int dp :: .ref a :: .int sp :: .ref a0 :: r => (match σ with | (K, I, J, Q) => match zKd K a0 with | (t0, n0) => match zKd K a with | (t1, n1) => zB (Nat.beq t0 15) (zB (Nat.beq t1 15) (zB (Nat.ble (zWd8 r) 8)
      ((¬ sp < 0 ∧ ¬ dp < 0 ∧ ¬ n < 0 ∧ sp.toNatClampNeg + n.toNatClampNeg ≤ n0 ∧ dp.toNatClampNeg + n.toNatClampNeg ≤ n1) ∧ nx ls r (K, I, va_up J a (va_cpy (J a0) (J a) sp.toNatClampNeg dp.toNatClampNeg n.toNatClampNeg), Q)))))
  | _ => False
def zPre (G : zG) (as : List Value) (σ : zSt) : Array Value → State → Prop := va_Pc (as.map (zV G)) (fun U => zWd G σ U.heap ∧ va_K (zgD G) vwCl (zTy G) U ∧ zPm G U U.heap)
def zRm (k : Nat) : Room := { frames := k, cells := 0, slots := 0, locals := 50 * k }
def zCalls (G : zG) (k' : Nat) : zCl := fun y as σ Q => ∃ (cc : ByteArray) (maxL : Nat) (ret : Option FieldType) (k : Nat), k + 1 ≤ k' ∧ maxL ≤ 31 ∧ Cond.code y cc maxL ret ∈ zWs ∧ Met (zgL G) y (Cond.code y cc maxL ret :: zWs) (zRm k) (zPre G as σ) (zQc G Q) 0 0 (zA G)
theorem zPre_blind {G : zG} (hG : zGok G) {as : List Value} {σ : zSt} : FrameBlind (zPre G as σ) := by
  intro a U g mk q
  obtain ⟨q0, q1, q2, q3⟩ := q
  exact ⟨q0, q1, va_K.moved (u := U) (U := U.calling g mk a) (Vm.Alike.refl U.vm) q2, zPm_warm hG (s := U) (U := U.calling g mk a) (State.WarmedH.refl U) q3⟩
theorem zQc_mono {G : zG} {Q Q' : zRt} (h : ∀ r σ, Q r σ → Q' r σ) {a : Array Value} {st t : State} {o : Outcome} (k : zQc G Q a st o t) : zQc G Q' a st o t := by
  obtain ⟨⟨r, σ, h1, h2, h3⟩, h4⟩ := k
  exact ⟨⟨r, σ, h1, h _ _ h2, h3⟩, h4⟩
theorem zCalls_mono {G : zG} {k' : Nat} {y : MethodName} {as : List Value} {σ : zSt} {Q Q' : zRt} (h : zCalls G k' y as σ Q) (hq : ∀ r σ, Q r σ → Q' r σ) : zCalls G k' y as σ Q' := by
  obtain ⟨cc, maxL, ret, k, h1, h2, h3, h4⟩ := h
  refine ⟨cc, maxL, ret, k, h1, h2, h3, ?_⟩
  intro p e ha hc hk s m args below hf hfit hP hX
  obtain ⟨n, o, a1, a2, a3, a4, a5⟩ := h4 p e ha hc hk s m args below hf hfit hP hX
  exact ⟨n, o, a1, a2, a3, zQc_mono hq a4, a5⟩
section ZC
variable {G : zG} {R : Room} {own : String} {cc : ByteArray} {nL : Nat} {ret : Option FieldType} {F : List Frame → Array Value → State → State → Prop} {cs sl : Nat} {C : zCl} {Rt : zRt} {pc : Nat} {k' : Nat}
theorem zcall {p : Program} {l : Launch} {e : Env} {s : State} {m : MethodId} {args : Array Value} {below : List Frame} {meth : Method} {c : Code} {H : Heap} {locs : List Loc} {Q : State → Prop} {ls : Array Slot} {rest st0 : List Value} {a : Array Value} {K : zRt} (hr : va_Run p l e R s m args below meth c H locs cs sl 0 0 (F0 m pc ls st0) rest (zQc G K a) (zA G)) (hS : va_S (zA G) s.heap H locs)
    (kk : ∀ (r : Option Value) (σ : zSt) (H1 : Heap) (locs1 : List Loc), K r σ → zWd G σ H1 → va_S (zA G) s.heap H1 locs1 → W p l e R s m args below meth c H1 locs1 cs sl Q (F0 m (pc + 3) ls ((r.map (zV G)).toList ++ rest))) : W p l e R s m args below meth c H locs cs sl Q (F0 m pc ls st0) := by
  intro T hT X
  obtain ⟨v, st₀, t, T', L, h0, X', hL, e1, e2, ⟨⟨r, σ, hv, hp, hw⟩, hz, hk⟩, st⟩ := hr T hT X
  cases hv
  rw [h0] at hz hk
  obtain ⟨t2, a1, b1⟩ := kk r σ T'.heap (locs ++ L) hp (by rw [e1]; exact hw)
    ⟨Nat.le_trans hS.1 (by rw [e1]; exact hz), fun q h1 h2 => by rw [e1, hk q (Nat.lt_of_lt_of_le h1 hS.1) h2]; exact hS.2.1 q h1 h2, fun q hq => by
      rcases List.mem_append.mp hq with h | h
      · exact hS.2.2 q h
      · exact hL q h⟩ T' rfl X'
  exact ⟨t2, st t2 a1, b1⟩
/-- how a call site names its method: by a word of the tables, or as a nest mate -/
def zMk (own : String) (idx : Nat) (y : MethodName) : Prop := Cond.methodLink own idx y ∈ zWs ∨ ∃ host, Cond.methodLinkNest own idx y host ∈ zNs
theorem zpre_at (hG : zGok G) {p : Program} {s : State} {m : MethodId} {args : Array Value} {meth : Method} {c : Code} {H : Heap} {locs : List Loc} {σ : zSt} {as : List Value} (hE : zEnv G own cc nL ret p s m args meth c) (hw : zWd G σ H) (hS : va_S (zA G) s.heap H locs) : ∀ U : State, U.heap = H → s.WarmedH U.vm → zPre G as σ (as.map (zV G)).toArray U := by
  intro U hU hW
  refine ⟨rfl, by rw [hU]; exact hw, va_K.moved hW.alike hE.2.2.2.2.2.2.2.1, ?_⟩
  rw [hU]
  exact zPm_warm hG hW (zPm_kept hG hS.2.1 hE.2.2.2.2.2.2.2.2)
theorem zcallB {s : State} {args : Array Value} {idx n maxL k : Nat} {y : MethodName} {bytes : ByteArray} {rt : Option FieldType} (hts : ∀ w ∈ zWs, w.before args s = true) (hc : Cond.code y bytes maxL rt ∈ zWs) (hi : Cond.initialized y.cls ∈ zWs) (hl : Cond.methodLink own idx y ∈ zWs)
    (hd : y.cls ≠ "java/lang/invoke/MethodHandle" ∧ y.cls ≠ "java/lang/invoke/VarHandle" ∧ (parseMethodDescriptor y.desc).map (fun d => d.parameters.length) = some n) (hR : k + 1 ≤ R.frames ∧ 8 + (maxL + 11) + 50 * k ≤ R.locals) : CallB R s args own idx y bytes maxL rt (Cond.code y bytes maxL rt :: zWs) (zRm k) 0 0 n :=
  callB_of n hts (zGood zWs (fun w hw => (List.mem_cons.mp hw).elim (fun e => e ▸ hc) id) (fun w h => h)) rfl rfl rfl (hts _ hi) (hts _ hl) hd hR
theorem zcallN {s : State} {args : Array Value} {idx n maxL k : Nat} {y : MethodName} {bytes : ByteArray} {rt : Option FieldType} {host : String} (hts : ∀ w ∈ zWs, w.before args s = true) (hc : Cond.code y bytes maxL rt ∈ zWs) (hi : Cond.initialized y.cls ∈ zWs) (hl : va_Nw (.methodLinkNest own idx y host) s)
    (hd : y.cls ≠ "java/lang/invoke/MethodHandle" ∧ y.cls ≠ "java/lang/invoke/VarHandle" ∧ (parseMethodDescriptor y.desc).map (fun d => d.parameters.length) = some n) (hR : k + 1 ≤ R.frames ∧ 8 + (maxL + 11) + 50 * k ≤ R.locals) : va_CN R s args own idx y host bytes maxL rt (Cond.code y bytes maxL rt :: zWs) (zRm k) 0 0 n :=
  va_cnB n hts (zGood zWs (fun w hw => (List.mem_cons.mp hw).elim (fun e => e ▸ hc) id) (fun w h => h)) rfl rfl rfl hl (hts _ hi) hd hR
/-- what every call site owes: room -/
def zRoom (R : Room) (k' cs sl : Nat) : Prop := k' ≤ R.frames ∧ 50 * k' ≤ R.locals ∧ cs ≤ R.cells ∧ sl ≤ R.slots
theorem zRoom_fit {k maxL : Nat} (h : zRoom R k' cs sl) (hk : k + 1 ≤ k') (hm : maxL ≤ 31) : (k + 1 ≤ R.frames ∧ 8 + (maxL + 11) + 50 * k ≤ R.locals) ∧ cs + 0 ≤ R.cells ∧ sl + 0 ≤ R.slots := by
  obtain ⟨h1, h2, h3, h4⟩ := h
  exact ⟨⟨by omega, by omega⟩, by omega, by omega⟩
/-- a static call -/
theorem zrunS (hG : zGok G) (hR : zRoom R k' cs sl) {p : Program} {e : Env} {s : State} {m : MethodId} {args : Array Value} {below : List Frame} {meth : Method} {c : Code} {H : Heap} {locs : List Loc} {lsR : Array Slot} {σ : zSt} {as rest : List Value} {y : MethodName} {K : zRt} {ls : zLs} {idx n : Nat} (hE : zEnv G own cc nL ret p s m args meth c) (hw : zWd G σ H) (hS : va_S (zA G) s.heap H locs) (hl : zLo G nL lsR ls)
    (hi : Cond.initialized y.cls ∈ zWs) (hst : Cond.static y ∈ zWs) (hlk : zMk own idx y) (hdy : y.cls ≠ "java/lang/invoke/MethodHandle" ∧ y.cls ≠ "java/lang/invoke/VarHandle" ∧ (parseMethodDescriptor y.desc).map (fun d => d.parameters.length) = some n) (hn : as.length = n) (h8 : (rest.map fun v => v.category).sum ≤ 8) (hd : decode cc pc = .ok (.invokestatic idx, 3)) (h : zCalls G k' y as σ K) :
    va_Run p (zgL G) e R s m args below meth c H locs cs sl 0 0 (F0 m pc lsR ((as.map (zV G)).reverse ++ rest)) rest (zQc G K (as.map (zV G)).toArray) (zA G) := by
  obtain ⟨bytes, maxL, rt, k, h1, h2, h3, h4⟩ := h
  obtain ⟨hr1, hr2⟩ := zRoom_fit hR h1 h2
  have hp : PreS s H (zPre G as σ) (as.map (zV G)) := ⟨zPre_blind hG, zpre_at hG hE hw hS⟩
  rcases hlk with hlk | ⟨host, hlk⟩
  · exact va_runS (Ts := zWs) ⟨hE.1, hE.2.1, hE.2.2.1, hE.2.2.2.2.2.1, hE.2.2.2.2.2.2.1⟩ h4 ⟨zcallB hE.2.2.2.2.2.2.1 h3 hi hlk hdy hr1, hE.2.2.2.2.2.2.1 _ hst⟩ hp rfl (by rw [List.length_map]; exact hn) hl.1 rfl (lv_room h8) hd hr2
  · exact va_runSN (Ts := zWs) (host := host) ⟨hE.1, hE.2.1, hE.2.2.1, hE.2.2.2.2.2.1, hE.2.2.2.2.2.2.1⟩ h4 ⟨zcallN hE.2.2.2.2.2.2.1 h3 hi (hE.2.2.2.2.2.2.2.2.1 _ hlk) hdy hr1, hE.2.2.2.2.2.2.1 _ hst, trivial⟩ hp rfl (by rw [List.length_map]; exact hn) hl.1 rfl (lv_room h8) hd hr2
/-- a call on an object of the world -/
theorem zrunV (hG : zGok G) (hR : zRoom R k' cs sl) {p : Program} {e : Env} {s : State} {m : MethodId} {args : Array Value} {below : List Frame} {meth : Method} {c : Code} {H : Heap} {locs : List Loc} {lsR : Array Slot} {σ : zSt} {as rest : List Value} {y : MethodName} {K : zRt} {ls : zLs} {idx n b tag N : Nat} {T : u_T} (hE : zEnv G own cc nL ret p s m args meth c) (hw : zWd G σ H) (hS : va_S (zA G) s.heap H locs) (hl : zLo G nL lsR ls)
    (hc : vwCl[tag]? = some (y.cls, T, N)) (hb : Nat.beq (zKd σ.1 b).1 tag = true) (hi : Cond.initialized y.cls ∈ zWs) (him : Cond.instanceMethod y ∈ zWs) (hse : Cond.selects y.cls y y ∈ zWs) (hlk : zMk own idx y) (hdy : y.cls ≠ "java/lang/invoke/MethodHandle" ∧ y.cls ≠ "java/lang/invoke/VarHandle" ∧ (parseMethodDescriptor y.desc).map (fun d => d.parameters.length) = some n) (hn : as.length = n) (h8 : (rest.map fun v => v.category).sum ≤ 8) (hd : decode cc pc = .ok (.invokevirtual idx, 3)) (h : zCalls G k' y (.ref b :: as) σ K) :
    va_Run p (zgL G) e R s m args below meth c H locs cs sl 0 0 (F0 m pc lsR ((as.map (zV G)).reverse ++ .ref (zAd G b) :: rest)) rest (zQc G K (Value.ref (zAd G b) :: as.map (zV G)).toArray) (zA G) := by
  obtain ⟨bytes, maxL, rt, k, h1, h2, h3, h4⟩ := h
  obtain ⟨hr1, hr2⟩ := zRoom_fit hR h1 h2
  have h13 : tag < 13 := by have := (List.getElem?_eq_some_iff.mp hc).1; simpa using this
  have hp : PreV s H y.cls (zAd G b) (zPre G (.ref b :: as) σ) (as.map (zV G)) := ⟨zPre_blind hG, va_recv (q := (y.cls, T, N)) hE.2.2.2.2.2.2.2.1 hw.2 hc (zW_obj h13 hb).1, zpre_at hG hE hw hS⟩
  rcases hlk with hlk | ⟨host, hlk⟩
  · exact va_runV (Ts := zWs) (C := y.cls) ⟨hE.1, hE.2.1, hE.2.2.1, hE.2.2.2.2.2.1, hE.2.2.2.2.2.2.1⟩ h4 ⟨zcallB hE.2.2.2.2.2.2.1 h3 hi hlk hdy hr1, hE.2.2.2.2.2.2.1 _ him, hE.2.2.2.2.2.2.1 _ hse⟩ hp rfl (by rw [List.length_map]; exact hn) hl.1 rfl (lv_room h8) hd hr2
  · exact va_runVN (Ts := zWs) (host := host) (C := y.cls) ⟨hE.1, hE.2.1, hE.2.2.1, hE.2.2.2.2.2.1, hE.2.2.2.2.2.2.1⟩ h4 ⟨zcallN hE.2.2.2.2.2.2.1 h3 hi (hE.2.2.2.2.2.2.2.2.1 _ hlk) hdy hr1, hE.2.2.2.2.2.2.1 _ him, hE.2.2.2.2.2.2.1 _ hse⟩ hp rfl (by rw [List.length_map]; exact hn) hl.1 rfl (lv_room h8) hd hr2
theorem zwd_map (r : List Value) : ((r.map (zV G)).map fun v => v.category).sum = zWd8 r := by
  rw [zWd8_eq, List.map_map]
  congr 1
  apply List.map_congr_left
  intro v _
  exact zV_cat G v
theorem k_cvS (hG : zGok G) (hR : zRoom R k' cs sl) {y : MethodName} {idx n : Nat} (hi : Cond.initialized y.cls ∈ zWs) (hst : Cond.static y ∈ zWs) (hlk : zMk own idx y) (hdy : y.cls ≠ "java/lang/invoke/MethodHandle" ∧ y.cls ≠ "java/lang/invoke/VarHandle" ∧ (parseMethodDescriptor y.desc).map (fun d => d.parameters.length) = some n) (hd : decode cc pc = .ok (.invokestatic idx, 3)) : zOK G R own cc nL ret F cs sl (zCalls G k') Rt pc (pc + 3) (o_cv y n) := by
  intro nx jp hn hj ls st σ h
  obtain ⟨as, r, e1, e2, h⟩ := zPop_out h
  obtain ⟨h8, h⟩ := zB_out h
  rw [List.append_nil] at h
  intro p e s m args below meth c hE H locs lsR hw hS hl
  have e3 : st.map (zV G) = (as.map (zV G)).reverse ++ r.map (zV G) := by
    rw [e1, List.map_append, List.map_reverse]
  rw [e3]
  refine zcall (zrunS hG hR hE hw hS hl hi hst hlk hdy e2 (by rw [zwd_map]; exact Nat.le_of_ble_eq_true h8) hd h) hS (fun v σ2 H1 locs1 hk hw1 hS1 => ?_)
  cases v with
  | none => exact hn _ _ _ hk p e s m args below meth c hE H1 locs1 lsR hw1 hS1 hl
  | some v => exact hk.elim
theorem k_crS (hG : zGok G) (hR : zRoom R k' cs sl) {y : MethodName} {idx n : Nat} (hi : Cond.initialized y.cls ∈ zWs) (hst : Cond.static y ∈ zWs) (hlk : zMk own idx y) (hdy : y.cls ≠ "java/lang/invoke/MethodHandle" ∧ y.cls ≠ "java/lang/invoke/VarHandle" ∧ (parseMethodDescriptor y.desc).map (fun d => d.parameters.length) = some n) (hd : decode cc pc = .ok (.invokestatic idx, 3)) : zOK G R own cc nL ret F cs sl (zCalls G k') Rt pc (pc + 3) (o_cr y n) := by
  intro nx jp hn hj ls st σ h
  obtain ⟨as, r, e1, e2, h⟩ := zPop_out h
  obtain ⟨h8, h⟩ := zB_out h
  rw [List.append_nil] at h
  intro p e s m args below meth c hE H locs lsR hw hS hl
  have e3 : st.map (zV G) = (as.map (zV G)).reverse ++ r.map (zV G) := by
    rw [e1, List.map_append, List.map_reverse]
  rw [e3]
  refine zcall (zrunS hG hR hE hw hS hl hi hst hlk hdy e2 (by rw [zwd_map]; exact Nat.le_of_ble_eq_true h8) hd h) hS (fun v σ2 H1 locs1 hk hw1 hS1 => ?_)
  cases v with
  | some v => exact hn _ _ _ hk p e s m args below meth c hE H1 locs1 lsR hw1 hS1 hl
  | none => exact hk.elim
theorem k_cvV (hG : zGok G) (hR : zRoom R k' cs sl) {y : MethodName} {idx n tag N : Nat} {T : u_T} (hc : vwCl[tag]? = some (y.cls, T, N)) (hi : Cond.initialized y.cls ∈ zWs) (him : Cond.instanceMethod y ∈ zWs) (hse : Cond.selects y.cls y y ∈ zWs) (hlk : zMk own idx y) (hdy : y.cls ≠ "java/lang/invoke/MethodHandle" ∧ y.cls ≠ "java/lang/invoke/VarHandle" ∧ (parseMethodDescriptor y.desc).map (fun d => d.parameters.length) = some n) (hd : decode cc pc = .ok (.invokevirtual idx, 3)) : zOK G R own cc nL ret F cs sl (zCalls G k') Rt pc (pc + 3) (o_vv y tag (n + 1)) := by
  intro nx jp hn hj ls st σ h
  obtain ⟨as, r, e1, e2, h⟩ := zPop_out h
  rw [List.append_nil] at h
  split at h
  · rename_i b as
    obtain ⟨hb, h⟩ := zB_out h
    obtain ⟨h8, h⟩ := zB_out h
    intro p e s m args below meth c hE H locs lsR hw hS hl
    have e3 : st.map (zV G) = (as.map (zV G)).reverse ++ .ref (zAd G b) :: r.map (zV G) := by
      rw [e1, List.map_append, List.map_reverse, List.map_cons, List.reverse_cons, List.append_assoc]; rfl
    rw [e3]
    refine zcall (zrunV hG hR hE hw hS hl hc hb hi him hse hlk hdy (by simpa using e2) (by rw [zwd_map]; exact Nat.le_of_ble_eq_true h8) hd h) hS (fun v σ2 H1 locs1 hk hw1 hS1 => ?_)
    cases v with
    | none => exact hn _ _ _ hk p e s m args below meth c hE H1 locs1 lsR hw1 hS1 hl
    | some v => exact hk.elim
  · exact h.elim
theorem k_crV (hG : zGok G) (hR : zRoom R k' cs sl) {y : MethodName} {idx n tag N : Nat} {T : u_T} (hc : vwCl[tag]? = some (y.cls, T, N)) (hi : Cond.initialized y.cls ∈ zWs) (him : Cond.instanceMethod y ∈ zWs) (hse : Cond.selects y.cls y y ∈ zWs) (hlk : zMk own idx y) (hdy : y.cls ≠ "java/lang/invoke/MethodHandle" ∧ y.cls ≠ "java/lang/invoke/VarHandle" ∧ (parseMethodDescriptor y.desc).map (fun d => d.parameters.length) = some n) (hd : decode cc pc = .ok (.invokevirtual idx, 3)) : zOK G R own cc nL ret F cs sl (zCalls G k') Rt pc (pc + 3) (o_vr2 y tag (n + 1)) := by
  intro nx jp hn hj ls st σ h
  obtain ⟨as, r, e1, e2, h⟩ := zPop_out h
  rw [List.append_nil] at h
  split at h
  · rename_i b as
    obtain ⟨hb, h⟩ := zB_out h
    obtain ⟨h8, h⟩ := zB_out h
    intro p e s m args below meth c hE H locs lsR hw hS hl
    have e3 : st.map (zV G) = (as.map (zV G)).reverse ++ .ref (zAd G b) :: r.map (zV G) := by
      rw [e1, List.map_append, List.map_reverse, List.map_cons, List.reverse_cons, List.append_assoc]; rfl
    rw [e3]
    refine zcall (zrunV hG hR hE hw hS hl hc hb hi him hse hlk hdy (by simpa using e2) (by rw [zwd_map]; exact Nat.le_of_ble_eq_true h8) hd h) hS (fun v σ2 H1 locs1 hk hw1 hS1 => ?_)
    cases v with
    | some v => exact hn _ _ _ hk p e s m args below meth c hE H1 locs1 lsR hw1 hS1 hl
    | none => exact hk.elim
  · exact h.elim
end ZC
section ZR
variable {G : zG} {R : Room} {own : String} {cc : ByteArray} {nL : Nat} {ret : Option FieldType} {cs sl : Nat} {C : zCl} {Rt : zRt} {pc nxt : Nat}
theorem zqc_of {r : Option Value} {σ : zSt} {s : State} {H : Heap} {locs : List Loc} (h : Rt r σ) (hw : zWd G σ H) (hS : va_S (zA G) s.heap H locs) (a : Array Value) : ∀ t : State, t.heap = H → s.WarmedH t.vm → zQc G Rt a s (.returned (r.map (zV G))) t :=
  fun t ht _ => ⟨⟨r, σ, rfl, h, by rw [ht]; exact hw⟩, hS.F ht⟩
theorem k_ireturn (hr : ret = some .int) (hd : decode cc pc = .ok (.ireturn, 1)) : zOK G R own cc nL ret (zF G Rt cs sl) cs sl C Rt pc nxt o_ir := by
  intro nx jp hn hj ls st σ h
  simp only [o_ir] at h
  split at h
  · intro p e s m args below meth c hE H locs lsR hw hS hl
    exact W.iret hE.1 hE.2.1 (hE.2.2.2.1.trans hr) (zqc_of h hw hS args) hS.2.2 hd hE.2.2.2.2.1
  · exact h.elim
theorem k_zreturn (hr : ret = some .boolean) (hd : decode cc pc = .ok (.ireturn, 1)) : zOK G R own cc nL ret (zF G Rt cs sl) cs sl C Rt pc nxt o_zr := by
  intro nx jp hn hj ls st σ h
  simp only [o_zr] at h
  split at h
  · intro p e s m args below meth c hE H locs lsR hw hS hl
    exact W.zret hE.1 hE.2.1 (hE.2.2.2.1.trans hr) (z_nb h.1).1 (zqc_of h.2 hw hS args) hS.2.2 hd hE.2.2.2.2.1
  · exact h.elim
theorem k_lreturn (hr : ret = some .long) (hd : decode cc pc = .ok (.lreturn, 1)) : zOK G R own cc nL ret (zF G Rt cs sl) cs sl C Rt pc nxt o_lr := by
  intro nx jp hn hj ls st σ h
  simp only [o_lr] at h
  split at h
  · intro p e s m args below meth c hE H locs lsR hw hS hl
    exact W.lret hE.1 hE.2.1 (hE.2.2.2.1.trans hr) (zqc_of h hw hS args) hS.2.2 hd hE.2.2.2.2.1
  · exact h.elim
theorem k_areturn {rt : FieldType} (hrt : (∃ n, rt = .object n) ∨ ∃ t, rt = .array t) (hr : ret = some rt) (hd : decode cc pc = .ok (.areturn, 1)) : zOK G R own cc nL ret (zF G Rt cs sl) cs sl C Rt pc nxt o_ar := by
  intro nx jp hn hj ls st σ h
  simp only [o_ar] at h
  split at h
  · intro p e s m args below meth c hE H locs lsR hw hS hl
    exact W.aret hE.1 hE.2.1 (hE.2.2.2.1.trans hr) hrt (Or.inr ⟨_, rfl⟩) (zqc_of h hw hS args) hS.2.2 hd hE.2.2.2.2.1
  · exact h.elim
theorem k_return (hr : ret = none) (hd : decode cc pc = .ok (.return_, 1)) : zOK G R own cc nL ret (zF G Rt cs sl) cs sl C Rt pc nxt o_vr := by
  intro nx jp hn hj ls st σ h
  simp only [o_vr] at h
  split at h
  · intro p e s m args below meth c hE H locs lsR hw hS hl
    exact W.vret hE.1 hE.2.1 (hE.2.2.2.1.trans hr) (zqc_of h hw hS args) hS.2.2 hd hE.2.2.2.2.1
  · exact h.elim
end ZR
