-- ===== instructions of the heap: what they do =====
noncomputable def o_gI (tag k : Nat) : zOp := fun _ _ nx _ ls st σ => match st with | .ref p :: r => (match σ with | (K, I, J, Q) => zB (Nat.beq (zKd K p).1 tag) (nx ls (.int (I p k) :: r) (K, I, J, Q))) | _ => False
noncomputable def o_gJ (tag k : Nat) : zOp := fun _ _ nx _ ls st σ => match st with | .ref p :: r => (match σ with | (K, I, J, Q) => zB (Nat.beq (zKd K p).1 tag) (nx ls (.long (J p k) :: r) (K, I, J, Q))) | _ => False
noncomputable def o_gR (tag k : Nat) : zOp := fun _ _ nx _ ls st σ => match st with | .ref p :: r => (match σ with | (K, I, J, Q) => zB (Nat.beq (zKd K p).1 tag) (match Q p k with | some q => nx ls (.ref q :: r) (K, I, J, Q) | none => nx ls (.null :: r) (K, I, J, Q))) | _ => False
noncomputable def o_pI (tag k : Nat) : zOp := fun _ _ nx _ ls st σ => match st with | .int v :: .ref p :: r => (match σ with | (K, I, J, Q) => zB (Nat.beq (zKd K p).1 tag) (nx ls r (K, z_upI I p k v, J, Q))) | _ => False
noncomputable def o_pZ (tag k : Nat) : zOp := fun _ _ nx _ ls st σ => match st with | .int v :: .ref p :: r => (match σ with | (K, I, J, Q) => zB (Nat.beq (zKd K p).1 tag) ((v = 0 ∨ v = 1) ∧ nx ls r (K, z_upI I p k v, J, Q))) | _ => False
noncomputable def o_pJ (tag k : Nat) : zOp := fun _ _ nx _ ls st σ => match st with | .long v :: .ref p :: r => (match σ with | (K, I, J, Q) => zB (Nat.beq (zKd K p).1 tag) (nx ls r (K, I, z_upJ J p k v, Q))) | _ => False
noncomputable def o_xI (t : Nat) : zOp := fun _ _ nx _ ls st σ => match st with | .int i :: .ref p :: r => (match σ with | (K, I, J, Q) => match zKd K p with | (t2, n) => zB (Nat.beq t2 t) (vp_in i n ∧ nx ls (.int (I p i.toNatClampNeg) :: r) (K, I, J, Q))) | _ => False
noncomputable def o_xJ : zOp := fun _ _ nx _ ls st σ => match st with | .int i :: .ref p :: r => (match σ with | (K, I, J, Q) => match zKd K p with | (t2, n) => zB (Nat.beq t2 15) (vp_in i n ∧ nx ls (.long (J p i.toNatClampNeg) :: r) (K, I, J, Q))) | _ => False
noncomputable def o_xR (t : Nat) : zOp := fun _ _ nx _ ls st σ => match st with | .int i :: .ref p :: r => (match σ with | (K, I, J, Q) => match zKd K p with | (t2, n) => zB (Nat.beq t2 t) (vp_in i n ∧ ∃ q, Q p i.toNatClampNeg = some q ∧ nx ls (.ref q :: r) (K, I, J, Q))) | _ => False
noncomputable def o_yI : zOp := fun _ _ nx _ ls st σ => match st with | .int v :: .int i :: .ref p :: r => (match σ with | (K, I, J, Q) => match zKd K p with | (t2, n) => zB (Nat.beq t2 14) (vp_in i n ∧ nx ls r (K, z_upI I p i.toNatClampNeg v, J, Q))) | _ => False
noncomputable def o_yB : zOp := fun _ _ nx _ ls st σ => match st with | .int v :: .int i :: .ref p :: r => (match σ with | (K, I, J, Q) => match zKd K p with | (t2, n) => zB (Nat.beq t2 13) (vp_in i n ∧ nx ls r (K, z_upI I p i.toNatClampNeg (vp_nar .byte v), J, Q))) | _ => False
noncomputable def o_yZ : zOp := fun _ _ nx _ ls st σ => match st with | .int v :: .int i :: .ref p :: r => (match σ with | (K, I, J, Q) => match zKd K p with | (t2, n) => zB (Nat.beq t2 16) (vp_in i n ∧ nx ls r (K, z_upI I p i.toNatClampNeg (vp_nar .boolean v), J, Q))) | _ => False
noncomputable def o_yJ : zOp := fun _ _ nx _ ls st σ => match st with | .long v :: .int i :: .ref p :: r => (match σ with | (K, I, J, Q) => match zKd K p with | (t2, n) => zB (Nat.beq t2 15) (vp_in i n ∧ nx ls r (K, I, z_upJ J p i.toNatClampNeg v, Q))) | _ => False
noncomputable def o_yR (t e : Nat) : zOp := fun _ _ nx _ ls st σ => match st with | .ref v :: .int i :: .ref p :: r => (match σ with | (K, I, J, Q) => match zKd K p with | (t2, n) => zB (Nat.beq t2 t) (zB (Nat.beq (zKd K v).1 e) (vp_in i n ∧ nx ls r (K, I, J, z_upR Q p i.toNatClampNeg (some v))))) | _ => False
noncomputable def o_len : zOp := fun _ _ nx _ ls st σ => match st with | .ref p :: r => (match σ with | (K, I, J, Q) => match zKd K p with | (t2, n) => zB (Nat.ble 13 t2) (zB (Nat.ble t2 20) (nx ls (.int (Int32.ofNat n) :: r) (K, I, J, Q)))) | _ => False
def o_gs (t : Nat) : zOp := fun _ _ nx _ ls st σ => nx ls (.ref (1000000 + t) :: st) σ
noncomputable def o_xs (t n : Nat) (f : Nat → Int32) : zOp := fun _ _ nx _ ls st σ => match st with | .int i :: .ref p :: r => zB (Nat.beq p (1000000 + t)) (vp_in i n ∧ nx ls (.int (f i.toNatClampNeg) :: r) σ) | _ => False
noncomputable def o_sl (t n : Nat) : zOp := fun _ _ nx _ ls st σ => match st with | .ref p :: r => zB (Nat.beq p (1000000 + t)) (nx ls (.int (Int32.ofNat n) :: r) σ) | _ => False
-- ===== facts of the world =====
theorem zFs_get {G : zG} {σ : zSt} {p tag k ty : Nat} (h : (zFT tag)[k]? = some ty) : (zFs G σ p tag)[k]? = some (zVal G σ p ty k) := by
  have hl : k < (zFT tag).length := (List.getElem?_eq_some_iff.mp h).1
  have e : (zFT tag).getD k 0 = ty := by rw [List.getD_eq_getElem?_getD, h]; rfl
  simp [zFs, hl, List.getElem?_range, -List.getD_eq_getElem?_getD, e]
theorem zFs_len {G : zG} {σ : zSt} {p tag : Nat} : (zFs G σ p tag).length = (zFT tag).length := by simp [zFs]
theorem zFs_set {G : zG} {σ σ' : zSt} {p tag k ty : Nat} {v : Value} (h : (zFT tag)[k]? = some ty) (hk : zVal G σ' p ty k = v) (ho : ∀ i ty, i ≠ k → zVal G σ' p ty i = zVal G σ p ty i) : zFs G σ' p tag = (zFs G σ p tag).set k v := by
  apply List.ext_getElem?
  intro i
  rw [List.getElem?_set]
  by_cases hi : k = i
  · subst hi
    rw [if_pos rfl, if_pos (by rw [zFs_len]; exact (List.getElem?_eq_some_iff.mp h).1), zFs_get h, hk]
  · rw [if_neg hi]
    cases hg : (zFT tag)[i]? with
    | some t2 => rw [zFs_get hg, zFs_get hg, ho i t2 (fun q => hi q.symm)]
    | none =>
      have h1 : (zFs G σ' p tag)[i]? = none := List.getElem?_eq_none (by rw [zFs_len]; exact List.getElem?_eq_none_iff.mp hg)
      have h2 : (zFs G σ p tag)[i]? = none := List.getElem?_eq_none (by rw [zFs_len]; exact List.getElem?_eq_none_iff.mp hg)
      rw [h1, h2]
theorem zW_obj {G : zG} {σ : zSt} {p tag : Nat} (ht : tag < 13) (h : Nat.beq (zKd σ.1 p).1 tag = true) : (zW G σ)[p]? = some (zAd G p, .inr (tag, zFs G σ p tag)) ∧ zCell G σ p (zKd σ.1 p) = .inr (tag, zFs G σ p tag) := by
  have h := Nat.eq_of_beq_eq_true h
  have e : zCell G σ p (zKd σ.1 p) = .inr (tag, zFs G σ p tag) := by
    unfold zCell
    rw [h, if_pos ht]
  exact ⟨by rw [zW_get (zKd_lt (t := (zKd σ.1 p).1) (n := (zKd σ.1 p).2) rfl (by omega)), e], e⟩
theorem zW_arr {G : zG} {σ : zSt} {p t n : Nat} (h : zKd σ.1 p = (t, n)) (h1 : 13 ≤ t) (h2 : t ≤ 20) : (zW G σ)[p]? = some (zAd G p, .inl (zgY G t, zArr G σ p t n)) := by
  rw [zW_get (zKd_lt h (by omega)), h]
  unfold zCell
  rw [if_neg (by omega)]
theorem z_upI_ne {f : Nat → Nat → Int32} {p k q : Nat} {v : Int32} (h : q ≠ p) : z_upI f p k v q = f q := va_up_ne _ _ h
theorem z_upI_self {f : Nat → Nat → Int32} {p k : Nat} {v : Int32} : z_upI f p k v p = upd (f p) k v := va_up_self _ _ _
theorem z_upJ_ne {f : Nat → Nat → Int64} {p k q : Nat} {v : Int64} (h : q ≠ p) : z_upJ f p k v q = f q := va_up_ne _ _ h
theorem z_upJ_self {f : Nat → Nat → Int64} {p k : Nat} {v : Int64} : z_upJ f p k v p = vp_updL (f p) k v := va_up_self _ _ _
theorem z_upR_ne {f : Nat → Nat → Option Nat} {p k q : Nat} {v : Option Nat} (h : q ≠ p) : z_upR f p k v q = f q := va_up_ne _ _ h
theorem z_upR_self {f : Nat → Nat → Option Nat} {p k : Nat} {v : Option Nat} : z_upR f p k v p = va_up (f p) k v := va_up_self _ _ _
def zLk (own : String) (idx : Nat) (ref n d : String) : Prop := Cond.fieldLink own idx ref n d ∈ zWs ∨ ∃ host, Cond.fieldLinkNest own idx ref n d host ∈ zNs
section ZH
variable {G : zG} {R : Room} {own : String} {cc : ByteArray} {nL : Nat} {ret : Option FieldType} {F : List Frame → Array Value → State → State → Prop} {cs sl : Nat} {C : zCl} {Rt : zRt} {pc : Nat}
theorem zgetf {p : Program} {e : Env} {s : State} {m : MethodId} {args : Array Value} {below : List Frame} {meth : Method} {c : Code} {H : Heap} {locs : List Loc} {lsR : Array Slot} {rest : List Value} {Q : State → Prop} {σ : zSt} {tag k N idx q ty : Nat} {Cn : String} {T : u_T} (hE : zEnv G own cc nL ret p s m args meth c) (hw : zWd G σ H)
    (hc : vwCl[tag]? = some (Cn, T, N)) (hk : k < N) (ht : (zFT tag)[k]? = some ty) (hin : ∀ w ∈ u_ws Cn T N, w ∈ zWs) (hlk : zLk own idx (T k).1 (T k).2.1 (T k).2.2.1) (hd : decode cc pc = .ok (.getfield idx, 3)) (hb : Nat.beq (zKd σ.1 q).1 tag = true)
    (kk : W p (zgL G) e R s m args below meth c H locs cs sl Q (F0 m (pc + 3) lsR (zVal G σ q ty k :: rest))) : W p (zgL G) e R s m args below meth c H locs cs sl Q (F0 m pc lsR (.ref (zAd G q) :: rest)) := by
  have h13 : tag < 13 := by have := (List.getElem?_eq_some_iff.mp hc).1; simpa using this
  rcases hlk with hlk | ⟨host, hlk⟩
  · exact va_get (ref := (T k).1) hE.1 hE.2.1 hE.2.2.2.2.2.2.1 hin hE.2.2.2.2.2.1 hE.2.2.2.2.2.2.2.1 hw.2 q (zW_obj h13 hb).1 hc k hk (hE.2.2.2.2.2.2.1 _ hlk) (fun _ h9 => h9) (zFs_get ht) hd kk
  · exact va_getN (ref := (T k).1) (host := host) hE.1 hE.2.1 hE.2.2.2.2.2.2.1 hin hE.2.2.2.2.2.1 hE.2.2.2.2.2.2.2.1 hw.2 q (zW_obj h13 hb).1 hc k hk (va_Nw.use rfl (hE.2.2.2.2.2.2.2.2.1 _ hlk)) (fun _ h9 => h9) (zFs_get ht) hd kk
theorem zputf {p : Program} {e : Env} {s : State} {m : MethodId} {args : Array Value} {below : List Frame} {meth : Method} {c : Code} {H : Heap} {locs : List Loc} {lsR : Array Slot} {rest : List Value} {Q : State → Prop} {σ σ' : zSt} {tag k N idx q ty : Nat} {Cn : String} {T : u_T} {ty0 : Nat → FieldType} {v : Value} {fty : FieldType} (hE : zEnv G own cc nL ret p s m args meth c) (hw : zWd G σ H) (hS : va_S (zA G) s.heap H locs)
    (hc : vwCl[tag]? = some (Cn, T, N)) (hk : k < N) (ht : (zFT tag)[k]? = some ty) (hin : ∀ w ∈ u_ws Cn T N, w ∈ zWs) (hty : ∀ k, k < N → parseFieldDescriptor (T k).2.2.1 = some (ty0 k)) (hnm : ∀ a, a < N → ∀ b, b < N → a ≠ b → (T a).2.1 ≠ (T b).2.1) (hlk : zLk own idx (T k).1 (T k).2.1 (T k).2.2.1) (hfin : (T k).2.2.2 = false) (hfd : parseFieldDescriptor (T k).2.2.1 = some fty) (hn : narrow fty v = v) (hfit : fits fty v = true) (hd : decode cc pc = .ok (.putfield idx, 3)) (hb : Nat.beq (zKd σ.1 q).1 tag = true)
    (hK : σ'.1 = σ.1) (hv : zVal G σ' q ty k = v) (ho : ∀ i ty, i ≠ k → zVal G σ' q ty i = zVal G σ q ty i) (hq : ∀ x, x ≠ q → σ'.2.1 x = σ.2.1 x ∧ σ'.2.2.1 x = σ.2.2.1 x ∧ σ'.2.2.2 x = σ.2.2.2 x)
    (kk : ∀ (H1 : Heap) (locs1 : List Loc), zWd G σ' H1 → va_S (zA G) s.heap H1 locs1 → W p (zgL G) e R s m args below meth c H1 locs1 cs sl Q (F0 m (pc + 3) lsR rest)) : W p (zgL G) e R s m args below meth c H locs cs sl Q (F0 m pc lsR (v :: .ref (zAd G q) :: rest)) := by
  have h13 : tag < 13 := by have := (List.getElem?_eq_some_iff.mp hc).1; simpa using this
  have hlen : k < (zFs G σ q tag).length := by rw [zFs_len]; exact (List.getElem?_eq_some_iff.mp ht).1
  have hset : (zW G σ).set q (zAd G q, .inr (tag, (zFs G σ q tag).set k v)) = zW G σ' := by
    refine zW_set hK hq ?_
    have e1 := Nat.eq_of_beq_eq_true hb
    unfold zCell
    rw [e1, if_pos h13, zFs_set ht hv ho]
  have fin : ∀ (H1 : Heap) (locs1 : List Loc), va_P (zgD G) vwCl ((zW G σ).set q (zAd G q, .inr (tag, (zFs G σ q tag).set k v))) H1 → va_D (zA G) ((zW G σ).set q (zAd G q, .inr (tag, (zFs G σ q tag).set k v))) → va_S (zA G) s.heap H1 locs1 → W p (zgL G) e R s m args below meth c H1 locs1 cs sl Q (F0 m (pc + 3) lsR rest) := by
    intro H1 locs1 hP1 _ hS1
    rw [hset] at hP1
    exact kk H1 locs1 ⟨by rw [hK]; exact hw.1, hP1⟩ hS1
  rcases hlk with hlk | ⟨host, hlk⟩
  · exact va_put (ref := (T k).1) hE.1 hE.2.1 hE.2.2.2.2.2.2.1 hin ty0 hty hnm hE.2.2.2.2.2.1 hE.2.2.2.2.2.2.2.1 hw.2 (zW_D hw.1) hS q (zW_obj h13 hb).1 hc k hk (hE.2.2.2.2.2.2.1 _ hlk) (fun _ h9 => h9) hfin hfd hn hfit hlen hd fin
  · exact va_putN (ref := (T k).1) (host := host) hE.1 hE.2.1 hE.2.2.2.2.2.2.1 hin ty0 hty hnm hE.2.2.2.2.2.1 hE.2.2.2.2.2.2.2.1 hw.2 (zW_D hw.1) hS q (zW_obj h13 hb).1 hc k hk (va_Nw.use rfl (hE.2.2.2.2.2.2.2.2.1 _ hlk)) (fun _ h9 => h9) hfin hfd hn hfit hlen hd fin
end ZH
