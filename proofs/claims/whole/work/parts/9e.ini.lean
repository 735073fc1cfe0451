-- ===== constructors =====
def zRk (k mc ms : Nat) : Room := { frames := k, cells := mc, slots := ms, locals := 50 * k }
def zFk (G : zG) (y : MethodName) (n0 : Nat) (Q : zRt) (mc ms : Nat) : List Frame → Array Value → State → State → Prop := fun below args s t => zNm y below args s → s.heap.size = zgB G + n0 → MQ below (zQc G Q) args s mc ms (zA G) t
theorem zFk_v {G : zG} {y : MethodName} {n0 : Nat} {Q : zRt} {mc ms : Nat} : zVac G n0 (zFk G y n0 Q mc ms) := fun _ _ _ _ h _ q => absurd q h
def zVacN (y : MethodName) (F : List Frame → Array Value → State → State → Prop) : Prop := ∀ below args s t, ¬ zNm y below args s → F below args s t
theorem zFk_n {G : zG} {y : MethodName} {n0 : Nat} {Q : zRt} {mc ms : Nat} : zVacN y (zFk G y n0 Q mc ms) := fun _ _ _ _ h q => absurd q h
def zPreK (G : zG) (as : List Value) (σ : zSt) : Array Value → State → Prop := fun a U => zPre G as σ a U ∧ U.heap.size = zgB G + σ.1.length
def zCallK (G : zG) (k' mc ms : Nat) (y : MethodName) (as : List Value) (σ : zSt) (Q : zRt) : Prop := ∃ (cc : ByteArray) (maxL : Nat) (k : Nat), k + 1 ≤ k' ∧ maxL ≤ 31 ∧ Cond.code y cc maxL none ∈ zWs ∧ Met (zgL G) y (Cond.code y cc maxL none :: zWs) (zRk k mc ms) (zPreK G as σ) (zQc G Q) mc ms (zA G)
theorem zPreK_blind {G : zG} (hG : zGok G) {as : List Value} {σ : zSt} : FrameBlind (zPreK G as σ) := fun a U g mk q => ⟨zPre_blind hG a U g mk q.1, q.2⟩
theorem zw_oi : Cond.instanceMethod objectInit ∈ zWs := List.mem_filter.mpr ⟨by decide +kernel, rfl⟩
theorem zw_oc : Cond.code objectInit ⟨#[0xb1]⟩ 1 none ∈ zWs := List.mem_filter.mpr ⟨by decide +kernel, rfl⟩
section ZI
variable {G : zG} {R : Room} {own : String} {cc : ByteArray} {nL : Nat} {ret : Option FieldType} {F : List Frame → Array Value → State → State → Prop} {cs sl n0 pc : Nat}
theorem at_obj {idx : Nat} (hlk : Cond.methodLink own idx objectInit ∈ zWs) (hd : decode cc pc = .ok (.invokespecial idx, 3)) (hf : 1 ≤ R.frames) (hlo : 12 ≤ R.locals) {b : Nat} {ls : zLs} {σ : zSt} (k : zAt G R own cc nL ret F cs sl (pc + 3) ls [] σ) : zAt G R own cc nL ret F cs sl pc ls [.ref b] σ := by
  intro p e s m args below meth c hE H locs lsR hw hS hl
  refine W.objInit hE.1 hE.2.1 hE.2.2.2.2.2.1 (hE.2.2.2.2.2.2.1 _ hlk) (hE.2.2.2.2.2.2.1 _ zw_oi) (hE.2.2.2.2.2.2.1 _ zw_oc) rfl (by rw [hE.2.2.1]; exact hl.1) rfl hd hf hlo ?_
  exact k p e s m args below meth c hE H locs lsR hw hS hl
theorem zSize {p : Program} {e : Env} {s : State} {m : MethodId} {args : Array Value} {below : List Frame} {meth : Method} {c : Code} (hF : zVac G n0 F) {σ : zSt} {H : Heap} {locs : List Loc} {g : JFrame} (hlen : σ.1.length = n0 + cs) (hw : zWd G σ H) (hS : va_S (zA G) s.heap H locs)
    (k : H.size = zgB G + σ.1.length → W p (zgL G) e R s m args below meth c H locs cs sl (F below args s) g) : W p (zgL G) e R s m args below meth c H locs cs sl (F below args s) g := by
  intro T hT X
  by_cases hs : s.heap.size = zgB G + n0
  · refine k ?_ T hT X
    have a2 := X.heapSize
    rw [hT] at a2
    have a3 := hS.1
    rcases Nat.eq_zero_or_pos σ.1.length with z | z
    · omega
    · have hg := zW_get (G := G) (σ := σ) (p := σ.1.length - 1) (by omega)
      have a4 := vx_lt hw.2 hg
      have a4 : zAd G (σ.1.length - 1) < H.size := a4
      rw [zAd_lt (by have := hw.1; omega)] at a4
      omega
  · exact ⟨_, Steps.refl _, hF _ _ _ _ hs⟩
/-- a constructor's call -/
theorem at_init (hG : zGok G) (hF : zVac G n0 F) {k' mc ms idx b : Nat} {y : MethodName} (hR : k' ≤ R.frames ∧ 50 * k' ≤ R.locals ∧ cs + mc ≤ R.cells ∧ sl + ms ≤ R.slots) (hi : Cond.initialized y.cls ∈ zWs) (him : Cond.instanceMethod y ∈ zWs) (hy : y.name = "<init>") (hlk : zMk own idx y) (hdy : y.cls ≠ "java/lang/invoke/MethodHandle" ∧ y.cls ≠ "java/lang/invoke/VarHandle" ∧ (parseMethodDescriptor y.desc).map (fun d => d.parameters.length) = some 0) (hd : decode cc pc = .ok (.invokespecial idx, 3)) {σ : zSt} (hlen : σ.1.length = n0 + cs) {ls : zLs} {st : List Value} (h8 : Nat.ble (zWd8 st) 8 = true)
    (h : zCallK G k' mc ms y [.ref b] σ (fun r σ' => r = none ∧ zAt G R own cc nL ret F (cs + mc) (sl + ms) (pc + 3) ls st σ')) : zAt G R own cc nL ret F cs sl pc ls (.ref b :: st) σ := by
  intro p e s m args below meth c hE H locs lsR hw hS hl
  obtain ⟨bytes, maxL, k, h1, h2, h3, h4⟩ := h
  refine zSize hF hlen hw hS (fun hsz => ?_)
  have hp : PreS s H (zPreK G [.ref b] σ) [Value.ref (zAd G b)] := ⟨zPreK_blind hG, fun U hU hW => ⟨zpre_at hG (as := [.ref b]) hE hw hS U hU hW, by rw [hU]; exact hsz⟩⟩
  have hr1 : (zRk k mc ms).frames + 1 ≤ R.frames ∧ 8 + (maxL + 11) + (zRk k mc ms).locals ≤ R.locals := ⟨by show k + 1 ≤ R.frames; omega, by show 8 + (maxL + 11) + 50 * k ≤ R.locals; omega⟩
  have h8' : ((st.map (zV G)).map fun v => v.category).sum ≤ 8 := by rw [zwd_map]; exact Nat.le_of_ble_eq_true h8
  have hgd := zGood (ys := Cond.code y bytes maxL none :: zWs) zWs (fun w hw => (List.mem_cons.mp hw).elim (fun e => e ▸ h3) id) (fun w h => h)
  have kk : ∀ (r : Option Value) (σ2 : zSt) (H1 : Heap) (locs1 : List Loc), (r = none ∧ zAt G R own cc nL ret F (cs + mc) (sl + ms) (pc + 3) ls st σ2) → zWd G σ2 H1 → va_S (zA G) s.heap H1 locs1 → W p (zgL G) e R s m args below meth c H1 locs1 (cs + mc) (sl + ms) (F below args s) (F0 m (pc + 3) lsR ((r.map (zV G)).toList ++ st.map (zV G))) := by
    intro r σ2 H1 locs1 hr hw1 hS1
    obtain ⟨rfl, hr⟩ := hr
    exact hr p e s m args below meth c hE H1 locs1 lsR hw1 hS1 hl
  rcases hlk with hlk | ⟨host, hlk⟩
  · exact zcallM (va_runI (Ts := zWs) (As := []) (rest := st.map (zV G)) ⟨hE.1, hE.2.1, hE.2.2.1, hE.2.2.2.2.2.1, hE.2.2.2.2.2.2.1⟩ h4 ⟨callB_of 0 hE.2.2.2.2.2.2.1 hgd rfl rfl rfl (hE.2.2.2.2.2.2.1 _ hi) (hE.2.2.2.2.2.2.1 _ hlk) hdy hr1, hy, hE.2.2.2.2.2.2.1 _ him⟩ hp rfl rfl hl.1 rfl (lv_room h8') hd hR.2.2) hS kk
  · exact zcallM (va_runIN (Ts := zWs) (As := []) (host := host) (rest := st.map (zV G)) ⟨hE.1, hE.2.1, hE.2.2.1, hE.2.2.2.2.2.1, hE.2.2.2.2.2.2.1⟩ h4 ⟨va_cnB 0 hE.2.2.2.2.2.2.1 hgd rfl rfl rfl (hE.2.2.2.2.2.2.2.2.1 _ hlk) (hE.2.2.2.2.2.2.1 _ hi) hdy hr1, hy, hE.2.2.2.2.2.2.1 _ him⟩ hp rfl rfl hl.1 rfl (lv_room h8') hd hR.2.2) hS kk
theorem k_retK {y : MethodName} {mc ms : Nat} {C : zCl} {Rt : zRt} {nxt : Nat} (hr : ret = none) (hd : decode cc pc = .ok (.return_, 1)) : zOK G R own cc nL ret (zFk G y n0 Rt mc ms) mc ms C Rt pc nxt o_vr := by
  intro nx jp hn hj ls st σ h
  simp only [o_vr] at h
  split at h
  · intro p e s m args below meth c hE H locs lsR hw hS hl T hT X
    obtain ⟨t, a1, b1⟩ := W.vret hE.1 hE.2.1 (hE.2.2.2.1.trans hr) (zqc_of h hw hS args) hS.2.2 hd hE.2.2.2.2.1 T hT X
    exact ⟨t, a1, fun _ _ => b1⟩
  · exact h.elim
theorem zMethodK {y : MethodName} {k k' mc ms : Nat} {as : List Value} {σ : zSt} {Q : zRt} (hk : k + 1 ≤ k') (hm : nL ≤ 31) (hpl : plainName y.cls = true) (hcd : Cond.code y cc nL none ∈ zWs) (ls : zLs) (hls : zIn as ++ List.replicate (nL - (zIn as).length) none = ls) (hln : (zIn as).length ≤ nL)
    (h : zAt G (zRk k mc ms) y.cls cc nL none (zFk G y σ.1.length Q mc ms) 0 0 0 ls [] σ) : zCallK G k' mc ms y as σ Q := by
  refine ⟨cc, nL, k, hk, hm, hcd, ?_⟩
  refine Met.ofW (cc := cc) (maxL := nL) (ret := none) hpl rfl ?_
  intro p e s m args below meth c s₁ B hml hv
  obtain ⟨⟨rfl, hw, hK, hPm⟩, hsz⟩ := hv
  have hts := atoms_spec (ws := Cond.code y cc nL none :: zWs) B.pre
  have hown : s.vm.findClass y.cls = some m.cls := findClass_of_methodNamed B.named
  have hE : zEnv G y.cls cc nL none p s m (as.map (zV G)).toArray meth c := ⟨B.exec, B.bytes, hml, B.returns, B.notSynchronized, hown, fun w hw => hts w (List.mem_cons_of_mem _ hw), hK, hPm⟩
  have hle := lv_entry (as.map (zV G)) (n := nL) (by rw [zIn_len]; exact hln)
  rw [lg_entry_eq]
  have kk := h p e s m _ below meth c hE s.heap [] _ hw va_S.rf ⟨hle.1, hle.2.1, by rw [← hls, List.length_append, List.length_replicate]; omega, fun i v hi => by
    rw [← hls] at hi
    rcases Nat.lt_or_ge i (zIn as).length with q | q
    · rw [List.getElem?_append_left q] at hi
      have h2 := zIn_args (G := G) (i := 0) hi
      rw [Nat.zero_add] at h2
      exact hle.2.2 _ h2
    · rw [List.getElem?_append_right q] at hi
      have h3 := List.mem_of_getElem? hi
      rw [List.mem_replicate] at h3
      exact absurd h3.2 (by simp)⟩
  intro T hT X
  obtain ⟨t, a1, b1⟩ := kk T hT X
  exact ⟨t, a1, b1 (fun m9 h9 => by
    have := h9.symm.trans X.frames
    cases this
    exact B.named) hsz⟩
/-- putfield, a final reference, in a constructor -/
theorem at_pR {y : MethodName} (hF : zVacN y F) (hy : y.name = "<init>") {tag k N idx q b : Nat} {Cn : String} {T : u_T} {ty0 : Nat → FieldType} {fty : FieldType} (hc : vwCl[tag]? = some (Cn, T, N)) (hk : k < N) (ht : (zFT tag)[k]? = some 2) (hin : ∀ w ∈ u_ws Cn T N, w ∈ zWs) (hty : ∀ k, k < N → parseFieldDescriptor (T k).2.2.1 = some (ty0 k)) (hnm : ∀ a, a < N → ∀ b, b < N → a ≠ b → (T a).2.1 ≠ (T b).2.1) (hlk : Cond.fieldLink own idx (T k).1 (T k).2.1 (T k).2.2.1 ∈ zWs) (hfin : (T k).2.2.2 = true) (hdecl : (T k).1 = own) (hfd : parseFieldDescriptor (T k).2.2.1 = some fty) (hfit : ∀ a : Nat, narrow fty (.ref a) = .ref a ∧ fits fty (.ref a) = true) (hd : decode cc pc = .ok (.putfield idx, 3)) {σ : zSt} (hb : Nat.beq (zKd σ.1 q).1 tag = true) {ls : zLs} {st : List Value}
    (kk : zAt G R own cc nL ret F cs sl (pc + 3) ls st (σ.1, σ.2.1, σ.2.2.1, z_upR σ.2.2.2 q k (some b))) : zAt G R own cc nL ret F cs sl pc ls (.ref b :: .ref q :: st) σ := by
  intro p e s m args below meth c hE H locs lsR hw hS hl T9 hT X
  by_cases hn : zNm y below args s
  · have hnm9 := hn m X.frames
    have hin2 : meth.name = "<init>" := (name_of_methodNamed hnm9 X.method).1.trans hy
    have h13 : tag < 13 := by have := (List.getElem?_eq_some_iff.mp hc).1; simpa using this
    have hlen : k < (zFs G σ q tag).length := by rw [zFs_len]; exact (List.getElem?_eq_some_iff.mp ht).1
    have hset : (zW G σ).set q (zAd G q, .inr (tag, (zFs G σ q tag).set k (.ref (zAd G b)))) = zW G (σ.1, σ.2.1, σ.2.2.1, z_upR σ.2.2.2 q k (some b)) := by
      refine zW_set rfl (fun x hx => ⟨rfl, rfl, z_upR_ne hx⟩) ?_
      have e1 := Nat.eq_of_beq_eq_true hb
      unfold zCell
      rw [e1, if_pos h13, zFs_set (σ := σ) (σ' := (σ.1, σ.2.1, σ.2.2.1, z_upR σ.2.2.2 q k (some b))) ht]
      · show va_rf ((z_upR σ.2.2.2 q k (some b) q k).map (zAd G)) = _
        rw [z_upR_self, va_up_self]
        rfl
      · intro i ty hi
        unfold zVal
        split
        · rfl
        · show va_rf ((z_upR σ.2.2.2 q k (some b) q i).map (zAd G)) = _
          rw [z_upR_self, va_up_ne _ _ hi]
        · rfl
    refine va_putF (ref := (T k).1) (v := .ref (zAd G b)) hE.1 hE.2.1 hE.2.2.2.2.2.2.1 hin ty0 hty hnm hE.2.2.2.2.2.1 hE.2.2.2.2.2.2.2.1 hw.2 (zW_D hw.1) hS q (zW_obj h13 hb).1 hc k hk (hE.2.2.2.2.2.2.1 _ hlk) (fun _ h9 => h9) hfin hin2 hdecl hfd (hfit _).1 (hfit _).2 hlen hd (fun H1 locs1 hP1 _ hS1 => ?_) T9 hT X
    rw [hset] at hP1
    exact kk p e s m args below meth c hE H1 locs1 lsR ⟨hw.1, hP1⟩ hS1 hl
  · exact ⟨_, Steps.refl _, hF _ _ _ _ hn⟩
theorem at_ret {y : MethodName} {mc ms : Nat} {Q : zRt} (hd : decode cc pc = .ok (.return_, 1)) {ls : zLs} {σ : zSt} (h : Q none σ) : zAt G R own cc nL none (zFk G y n0 Q mc ms) mc ms pc ls [] σ := k_retK (C := fun _ _ _ _ => False) (nxt := 0) rfl hd (fun _ _ _ => False) (fun _ _ _ _ => False) (fun _ _ _ h => h.elim) (fun _ _ _ _ h => h.elim) ls [] σ h
end ZI
