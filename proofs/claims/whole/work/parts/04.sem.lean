/-- the fields of a class: 0 an int, 1 a long, 2 a reference, 3 a boolean -/
def zFT : Nat → List Nat := fun t => match t with
  | 0 => [2, 2]
  | 1 => [0]
  | 2 => [0, 2]
  | 3 => [0, 0, 3, 2, 2]
  | 4 => [0, 2]
  | 5 => [0, 0, 2, 2]
  | 6 => [1, 1]
  | 7 => [2, 2, 2, 2]
  | 8 => [0, 2]
  | 9 => [3, 2, 2]
  | 10 => [0, 0, 2, 2, 2]
  | 11 => [2, 2, 2, 2, 2, 2, 2, 2, 2, 2, 2, 2, 2]
  | 12 => [2, 2, 0, 2, 0, 0, 1, 1, 0, 0, 0, 2, 2, 0, 2, 2, 2, 2, 1, 1, 1, 1, 3, 1, 1, 1, 1, 2, 2, 0, 3, 1, 1, 2, 0, 2, 2]
  | _ => []
-- ===== the world =====
abbrev zG : Type := Launch × va_G × (Nat → ClassId) × Nat × (Nat → Nat) × (Nat × (Nat → Int32)) × (State → Heap → Prop)
abbrev zgL (G : zG) : Launch := G.1
abbrev zgD (G : zG) : va_G := G.2.1
abbrev zgY (G : zG) : Nat → ClassId := G.2.2.1
abbrev zgB (G : zG) : Nat := G.2.2.2.1
abbrev zgS (G : zG) : Nat → Nat := G.2.2.2.2.1
abbrev zgN (G : zG) : Nat := G.2.2.2.2.2.1.1
abbrev zgX (G : zG) : Nat → Int32 := G.2.2.2.2.2.1.2
abbrev zgP (G : zG) : State → Heap → Prop := G.2.2.2.2.2.2
def zAd (G : zG) (p : Nat) : Nat := if p < 1000000 then zgB G + p else zgS G (p - 1000000)
def zV (G : zG) (v : Value) : Value := match v with
  | .ref p => .ref (zAd G p)
  | v => v
def zA (G : zG) : Nat → Prop := fun q => zgB G ≤ q
def zVal (G : zG) (σ : zSt) (p ty k : Nat) : Value := match ty with
  | 1 => .long (σ.2.2.1 p k)
  | 2 => va_rf ((σ.2.2.2 p k).map (zAd G))
  | _ => .int (σ.2.1 p k)
def zFs (G : zG) (σ : zSt) (p tag : Nat) : List Value := (List.range (zFT tag).length).map (fun k => zVal G σ p ((zFT tag).getD k 0) k)
def zArr (G : zG) (σ : zSt) (p tag n : Nat) : vp_A := if tag = 15 then (n, .inr (.inl (σ.2.2.1 p))) else if 17 ≤ tag then (n, .inr (.inr (.inr (.inr (fun k => (σ.2.2.2 p k).map (zAd G)))))) else (n, .inl (σ.2.1 p))
def zCell (G : zG) (σ : zSt) (p : Nat) (kd : Nat × Nat) : va_E := if kd.1 < 13 then .inr (kd.1, zFs G σ p kd.1) else .inl (zgY G kd.1, zArr G σ p kd.1 kd.2)
noncomputable def zW (G : zG) (σ : zSt) : va_W := (List.range σ.1.length).map (fun p => (zAd G p, zCell G σ p (zKd σ.1 p)))
theorem zW_get {G : zG} {σ : zSt} {p : Nat} (h : p < σ.1.length) : (zW G σ)[p]? = some (zAd G p, zCell G σ p (zKd σ.1 p)) := by
  simp [zW, h]
theorem zCell_congr {G : zG} {σ σ' : zSt} {p : Nat} {kd : Nat × Nat} (h1 : σ'.2.1 p = σ.2.1 p) (h2 : σ'.2.2.1 p = σ.2.2.1 p) (h3 : σ'.2.2.2 p = σ.2.2.2 p) : zCell G σ' p kd = zCell G σ p kd := by
  have e : ∀ ty k, zVal G σ' p ty k = zVal G σ p ty k := by
    intro ty k
    unfold zVal
    rw [h1, h2, h3]
  unfold zCell zFs zArr
  simp only [e, h1, h2, h3]
theorem zW_set {G : zG} {σ σ' : zSt} {p : Nat} {e : va_E} (hK : σ'.1 = σ.1) (ho : ∀ q, q ≠ p → σ'.2.1 q = σ.2.1 q ∧ σ'.2.2.1 q = σ.2.2.1 q ∧ σ'.2.2.2 q = σ.2.2.2 q) (he : e = zCell G σ' p (zKd σ.1 p)) : (zW G σ).set p (zAd G p, e) = zW G σ' := by
  apply List.ext_getElem?
  intro i
  rw [List.getElem?_set]
  by_cases hi : p = i
  · subst hi
    rw [if_pos rfl]
    by_cases hl : p < σ.1.length
    · rw [if_pos (by simp [zW, hl]), zW_get (by rw [hK]; exact hl), hK, he]
    · rw [if_neg (by simp [zW, hl])]
      simp [zW, hK, hl]
  · rw [if_neg hi]
    by_cases hl : i < σ.1.length
    · obtain ⟨h1, h2, h3⟩ := ho i (fun q => hi q.symm)
      rw [zW_get hl, zW_get (by rw [hK]; exact hl), hK, zCell_congr h1 h2 h3]
    · simp [zW, hK, hl]
def zWd (G : zG) (σ : zSt) (H : Heap) : Prop := σ.1.length ≤ 1000000 ∧ va_P (zgD G) vwCl (zW G σ) H
theorem zAd_lt {G : zG} {p : Nat} (h : p < 1000000) : zAd G p = zgB G + p := if_pos h
theorem zW_D {G : zG} {σ : zSt} (h : σ.1.length ≤ 1000000) : va_D (zA G) (zW G σ) := by
  have e : ∀ (i : Nat) (q : Nat × va_E), (zW G σ)[i]? = some q → q.1 = zgB G + i := by
    intro i q hq
    have hl : i < σ.1.length := by
      have := (List.getElem?_eq_some_iff.mp hq).1
      simpa [zW] using this
    rw [zW_get hl] at hq
    cases hq
    exact zAd_lt (by omega)
  refine ⟨fun i j p q hp hq hpq => ?_, fun k q hq => ?_⟩
  · have h1 := e i p hp
    have h2 := e j q hq
    omega
  · have h1 := e k q hq
    show zgB G ≤ q.1
    omega
def zTy (G : zG) : List (ClassId × FieldType) := [(zgY G 13, .byte), (zgY G 14, .int), (zgY G 15, .long), (zgY G 16, .boolean), (zgY G 17, .object RX3), (zgY G 18, .object RX5), (zgY G 19, .object RX9), (zgY G 20, .array .long)]
def zBx (j : Nat) : Int32 := [(-1 : Int32), 0, 0, 1, 0, 6, 0, -1, 0, 0, 1, 6].getD j 0
def zSL (G : zG) (t : Nat) : Nat := match t with
  | 2 => zgN G
  | _ => 12
def zSV (G : zG) (t : Nat) : Nat → Int32 := match t with
  | 2 => zgX G
  | _ => zBx
def zPm (G : zG) (U : State) (H : Heap) : Prop := (∀ w ∈ zNs, va_Nw w U) ∧ (∀ t, t < 3 → va_T .int (zgS G t) (zSL G t) (fun j => .int (zSV G t j)) (zA G) U H) ∧ va_Z RX11 "BOX" "[I" (.ref (zgS G 0)) (zA G) U H ∧ va_Z RX12 "ALWAYS" "[I" (.ref (zgS G 1)) (zA G) U H ∧ zgP G U H
def zGok (G : zG) : Prop := (∀ (s U : State) (H : Heap), s.WarmedH U.vm → zgP G s H → zgP G U H) ∧ (∀ (U : State) (H H1 : Heap), (∀ a : Nat, a < H.size → ¬ zA G a → H1[a]? = H[a]?) → zgP G U H → zgP G U H1)
theorem zNw_warm {w : Cond} (hw : w ∈ zNs) {s U : State} (hW : s.WarmedH U.vm) (h : va_Nw w s) : va_Nw w U := by
  have hg := (List.mem_filter.mp hw).2
  cases w <;> first | exact va_Nw.warmF hW h | exact va_Nw.warmM hW h | exact absurd hg (by simp [zIsN])
theorem zPm_warm {G : zG} (hG : zGok G) {s U : State} {H : Heap} (hW : s.WarmedH U.vm) (h : zPm G s H) : zPm G U H :=
  ⟨fun w hw => zNw_warm hw hW (h.1 w hw), fun t ht => va_T.moved hW.alike (h.2.1 t ht), va_Z.moved hW.alike h.2.2.1, va_Z.moved hW.alike h.2.2.2.1, hG.1 s U H hW h.2.2.2.2⟩
theorem zPm_kept {G : zG} (hG : zGok G) {U : State} {H H1 : Heap} (hq : ∀ a : Nat, a < H.size → ¬ zA G a → H1[a]? = H[a]?) (h : zPm G U H) : zPm G U H1 :=
  ⟨h.1, fun t ht => va_T.kept (h.2.1 t ht) hq, va_Z.kept h.2.2.1 hq, va_Z.kept h.2.2.2.1 hq, hG.2 U H H1 hq h.2.2.2.2⟩
-- ===== a point of a method =====
def zEnv (G : zG) (own : String) (cc : ByteArray) (nL : Nat) (ret : Option FieldType) (p : Program) (s : State) (m : MethodId) (args : Array Value) (meth : Method) (c : Code) : Prop :=
  p.tables.exec = Jvm.exec ∧ c.code = cc ∧ c.maxLocals = nL ∧ meth.sig.returnType = ret ∧ meth.locks = false ∧ s.vm.findClass own = some m.cls ∧ (∀ w ∈ zWs, w.before args s = true) ∧ va_K (zgD G) vwCl (zTy G) s ∧ zPm G s s.heap
def zLo (G : zG) (nL : Nat) (lsR : Array Slot) (ls : zLs) : Prop := lsR.size = nL ∧ lv_wf lsR ∧ ls.length ≤ nL ∧ ∀ (i : Nat) (v : Value), ls[i]? = some (some v) → lsR[i]? = some (.val (zV G v))
def zAt (G : zG) (R : Room) (own : String) (cc : ByteArray) (nL : Nat) (ret : Option FieldType) (F : List Frame → Array Value → State → State → Prop) (cs sl : Nat) (pc : Nat) : zKn := fun ls st σ =>
  ∀ (p : Program) (e : Env) (s : State) (m : MethodId) (args : Array Value) (below : List Frame) (meth : Method) (c : Code), zEnv G own cc nL ret p s m args meth c → ∀ (H : Heap) (locs : List Loc) (lsR : Array Slot), zWd G σ H → va_S (zA G) s.heap H locs → zLo G nL lsR ls →
    W p (zgL G) e R s m args below meth c H locs cs sl (F below args s) (F0 m pc lsR (st.map (zV G)))
/-- the world behind a call -/
def zQc (G : zG) (Q : zRt) : Array Value → State → Outcome → State → Prop := fun _ st oc t => (∃ (r : Option Value) (σ : zSt), oc = .returned (r.map (zV G)) ∧ Q r σ ∧ zWd G σ t.heap) ∧ va_F (zA G) st t
def zF (G : zG) (Q : zRt) (cs sl : Nat) : List Frame → Array Value → State → State → Prop := fun below args s => MQ below (zQc G Q) args s cs sl (zA G)
def zOK (G : zG) (R : Room) (own : String) (cc : ByteArray) (nL : Nat) (ret : Option FieldType) (F : List Frame → Array Value → State → State → Prop) (cs sl : Nat) (C : zCl) (Rt : zRt) (pc nxt : Nat) (op : zOp) : Prop :=
  ∀ (nx : zKn) (jp : Nat → zKn), (∀ ls st σ, nx ls st σ → zAt G R own cc nL ret F cs sl nxt ls st σ) → (∀ t ls st σ, jp t ls st σ → zAt G R own cc nL ret F cs sl t ls st σ) → ∀ ls st σ, op C Rt nx jp ls st σ → zAt G R own cc nL ret F cs sl pc ls st σ
def zPOK (G : zG) (R : Room) (own : String) (cc : ByteArray) (nL : Nat) (ret : Option FieldType) (F : List Frame → Array Value → State → State → Prop) (cs sl : Nat) (C : zCl) (Rt : zRt) : zPg → Prop
  | [] => True
  | e :: r => zOK G R own cc nL ret F cs sl C Rt e.1 (zPc r) e.2 ∧ zPOK G R own cc nL ret F cs sl C Rt r
section ZM
variable {G : zG} {R : Room} {own : String} {cc : ByteArray} {nL : Nat} {ret : Option FieldType} {F : List Frame → Array Value → State → State → Prop} {cs sl : Nat} {C : zCl} {Rt : zRt}
theorem zPOK_drop : ∀ {pg : zPg} (t : Nat), zPOK G R own cc nL ret F cs sl C Rt pg → zPOK G R own cc nL ret F cs sl C Rt (zDrop t pg) ∧ (zDrop t pg = [] ∨ zPc (zDrop t pg) = t)
  | [], _, _ => ⟨trivial, Or.inl rfl⟩
  | e :: r, t, h => by
    have e0 : zDrop t (e :: r) = Bool.rec (zDrop t r) (e :: r) (Nat.beq e.1 t) := rfl
    cases hb : Nat.beq e.1 t with
    | true =>
      rw [e0, hb]
      exact ⟨h, Or.inr (Nat.eq_of_beq_eq_true hb)⟩
    | false =>
      rw [e0, hb]
      exact zPOK_drop t h.2
/-- some steps at once -/
theorem zM_sound {pg : zPg} (hp : zPOK G R own cc nL ret F cs sl C Rt pg) (stops : List Nat) : ∀ (n : Nat) (r : zPg), zPOK G R own cc nL ret F cs sl C Rt r → ∀ ls st σ, zM C Rt (zAt G R own cc nL ret F cs sl) stops pg n r ls st σ → zAt G R own cc nL ret F cs sl (zPc r) ls st σ
  | 0, [], _, _, _, _, h => h.elim
  | 0, _ :: _, _, _, _, _, h => h
  | _ + 1, [], _, _, _, _, h => h.elim
  | n + 1, e :: r, hr, ls, st, σ, h => by
    have ih := zM_sound hp stops n
    refine hr.1 _ _ (fun ls st σ k => ?_) (fun t ls st σ k => ?_) ls st σ h
    · cases hb : zElem (zPc r) stops with
      | true => rw [hb] at k; exact k
      | false => rw [hb] at k; exact ih r hr.2 ls st σ k
    · cases hb : zElem t stops with
      | true => rw [hb] at k; exact k
      | false =>
        rw [hb] at k
        obtain ⟨h1, h2⟩ := zPOK_drop t hp
        rcases h2 with h2 | h2
        · rw [h2] at k
          cases n with
          | zero => exact k.elim
          | succ n => exact k.elim
        · have k2 := ih _ h1 ls st σ k
          rw [h2] at k2
          exact k2
end ZM
