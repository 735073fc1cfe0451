-- ===== a method's contract out of its walk =====
def zIn : List Value → zLs
  | [] => []
  | .long x :: r => some (.long x) :: none :: zIn r
  | .double x :: r => some (.double x) :: none :: zIn r
  | .int x :: r => some (.int x) :: zIn r
  | .float x :: r => some (.float x) :: zIn r
  | .null :: r => some .null :: zIn r
  | .ref x :: r => some (.ref x) :: zIn r
  | .retAddr x :: r => some (.retAddr x) :: zIn r
theorem zIn_args {G : zG} : ∀ {as : List Value} {i j : Nat} {v : Value}, (zIn as)[j]? = some (some v) → (i + j, zV G v) ∈ lv_args i (as.map (zV G)) := by
  intro as
  induction as with
  | nil => intro i j v h; simp [zIn] at h
  | cons a r ih =>
    intro i j v h
    have one : ∀ (hc : a.category = 1) (he : zIn (a :: r) = some a :: zIn r), (i + j, zV G v) ∈ lv_args i ((a :: r).map (zV G)) := by
      intro hc he
      rw [he] at h
      show _ ∈ (i, zV G a) :: lv_args (if (zV G a).category = 2 then i + 2 else i + 1) (r.map (zV G))
      rw [zV_cat, hc, if_neg (by decide)]
      cases j with
      | zero => cases h; exact List.mem_cons_self
      | succ j =>
        have h2 := ih (i := i + 1) (j := j) (v := v) h
        rw [show i + (j + 1) = i + 1 + j by omega]
        exact List.mem_cons_of_mem _ h2
    have two : ∀ (hc : a.category = 2) (he : zIn (a :: r) = some a :: none :: zIn r), (i + j, zV G v) ∈ lv_args i ((a :: r).map (zV G)) := by
      intro hc he
      rw [he] at h
      show _ ∈ (i, zV G a) :: lv_args (if (zV G a).category = 2 then i + 2 else i + 1) (r.map (zV G))
      rw [zV_cat, hc, if_pos rfl]
      match j, h with
      | 0, h => cases h; exact List.mem_cons_self
      | 1, h => cases h
      | j + 2, h =>
        have h2 := ih (i := i + 2) (j := j) (v := v) h
        rw [show i + (j + 2) = i + 2 + j by omega]
        exact List.mem_cons_of_mem _ h2
    cases a <;> first | exact one rfl rfl | exact two rfl rfl
theorem zIn_len {G : zG} : ∀ as : List Value, (lg_sl (as.map (zV G))).length = (zIn as).length := by
  intro as
  induction as with
  | nil => rfl
  | cons a r ih =>
    have e : lg_sl ((a :: r).map (zV G)) = (if (zV G a).category = 2 then [Slot.val (zV G a), .second] else [.val (zV G a)]) ++ lg_sl (r.map (zV G)) := by
      unfold lg_sl
      rw [List.map_cons, List.flatMap_cons]
    rw [e, List.length_append, ih, zV_cat]
    cases a <;> simp [zIn, Value.category] <;> omega
section ZMT
variable {G : zG} {cc : ByteArray} {nL : Nat} {ret : Option FieldType}
theorem zMethod (hG : zGok G) {y : MethodName} {k k' : Nat} {as : List Value} {σ : zSt} {Q : zRt} (hk : k + 1 ≤ k') (hm : nL ≤ 31) (hpl : plainName y.cls = true) (hcd : Cond.code y cc nL ret ∈ zWs) (ls : zLs) (hls : zIn as ++ List.replicate (nL - (zIn as).length) none = ls) (hln : (zIn as).length ≤ nL)
    (h : zAt G (zRm k) y.cls cc nL ret (zF G Q 0 0) 0 0 0 ls [] σ) : zCalls G k' y as σ Q := by
  refine ⟨cc, nL, ret, k, hk, hm, hcd, ?_⟩
  refine Met.ofW (cc := cc) (maxL := nL) (ret := ret) hpl rfl ?_
  intro p e s m args below meth c s₁ B hml hv
  obtain ⟨rfl, hw, hK, hPm⟩ := hv
  have hts := atoms_spec (ws := Cond.code y cc nL ret :: zWs) B.pre
  have hown : s.vm.findClass y.cls = some m.cls := findClass_of_methodNamed B.named
  have hE : zEnv G y.cls cc nL ret p s m (as.map (zV G)).toArray meth c := ⟨B.exec, B.bytes, hml, B.returns, B.notSynchronized, hown, fun w hw => hts w (List.mem_cons_of_mem _ hw), hK, hPm⟩
  have hle := lv_entry (as.map (zV G)) (n := nL) (by rw [zIn_len]; exact hln)
  rw [lg_entry_eq]
  refine h p e s m _ below meth c hE s.heap [] _ hw va_S.rf ⟨hle.1, hle.2.1, ?_, fun i v hi => ?_⟩
  · rw [← hls, List.length_append, List.length_replicate]; omega
  · rw [← hls] at hi
    rcases Nat.lt_or_ge i (zIn as).length with q | q
    · rw [List.getElem?_append_left q] at hi
      have h2 := zIn_args (G := G) (i := 0) hi
      rw [Nat.zero_add] at h2
      exact hle.2.2 _ h2
    · rw [List.getElem?_append_right q] at hi
      have h3 := List.mem_of_getElem? hi
      rw [List.mem_replicate] at h3
      exact absurd h3.2 (by simp)
/-- weaker knowledge of the locals -/
theorem zAt_forget {R : Room} {own : String} {F : List Frame → Array Value → State → State → Prop} {cs sl pc : Nat} {ls ls' : zLs} {st : List Value} {σ : zSt} (h : ∀ (i : Nat) (v : Value), ls'[i]? = some (some v) → ls[i]? = some (some v)) (hlen : ls'.length ≤ ls.length) (k : zAt G R own cc nL ret F cs sl pc ls' st σ) : zAt G R own cc nL ret F cs sl pc ls st σ := by
  intro p e s m args below meth c hE H locs lsR hw hS hl
  exact k p e s m args below meth c hE H locs lsR hw hS ⟨hl.1, hl.2.1, Nat.le_trans hlen hl.2.2.1, fun i v hi => hl.2.2.2 i v (h i v hi)⟩
end ZMT
section ZCP
variable {G : zG} {R : Room} {own : String} {cc : ByteArray} {nL : Nat} {ret : Option FieldType} {F : List Frame → Array Value → State → State → Prop} {cs sl : Nat} {C : zCl} {Rt : zRt} {pc : Nat}
theorem k_cpI {idx : Nat} (hf : 1 ≤ R.frames) (hl2 : 30 ≤ R.locals) (hlk : Cond.methodLink own idx arraycopyName ∈ zWs) (hna : Cond.native arraycopyName ∈ zWs) (hst : Cond.static arraycopyName ∈ zWs) (hi : Cond.initialized "java/lang/System" ∈ zWs) (hd : decode cc pc = .ok (.invokestatic idx, 3)) : zOK G R own cc nL ret F cs sl C Rt pc (pc + 3) o_cpI := by
  intro nx jp hn hj ls st σ h
  obtain ⟨K, I, J, Q⟩ := σ
  simp only [o_cpI] at h
  split at h
  · rename_i n dp a sp a0 r
    rcases hk0 : zKd K a0 with ⟨t0, n0⟩
    rcases hk1 : zKd K a with ⟨t1, n1⟩
    rw [hk0, hk1] at h
    obtain ⟨hb0, h⟩ := zB_out h
    obtain ⟨hb1, h⟩ := zB_out h
    obtain ⟨h8, h⟩ := zB_out h
    have hb0 := Nat.eq_of_beq_eq_true hb0
    have hb1 := Nat.eq_of_beq_eq_true hb1
    subst hb0
    subst hb1
    have hg0 := zW_arr (G := G) (σ := (K, I, J, Q)) (p := a0) hk0 (by decide) (by decide)
    have hg1 := zW_arr (G := G) (σ := (K, I, J, Q)) (p := a) hk1 (by decide) (by decide)
    intro p e s m args below meth c hE H locs lsR hw hS hl
    obtain ⟨⟨g1, g2, g3, g4, g5⟩, h⟩ := h
    refine va_copyi hE.1 hE.2.1 (hE.2.2.1.trans hl.1.symm) hE.2.2.2.2.2.1 (hE.2.2.2.2.2.2.1 _ hlk) (hE.2.2.2.2.2.2.1 _ hna) (hE.2.2.2.2.2.2.1 _ hst) (hE.2.2.2.2.2.2.1 _ hi) hE.2.2.2.2.2.2.2.1 hw.2 (zW_D hw.1) hS a0 a 1 1 hg0 hg1 rfl rfl rfl g1 g2 g3 g4 g5 (fun _ _ => rfl) hf (by rw [zwd_map, show nativeFrameWords "java/lang/System" "arraycopy" 5 = 7 from by decide]; have := Nat.le_of_ble_eq_true h8; omega) hd (fun H1 locs1 hP1 _ hS1 => ?_)
    have hset := zW_set (G := G) (σ := (K, I, J, Q)) (σ' := (K, va_up I a (va_cpy (I a0) (I a) sp.toNatClampNeg dp.toNatClampNeg n.toNatClampNeg), J, Q)) (p := a) (e := .inl (zgY G 14, n1, .inl (va_cpy (I a0) (I a) sp.toNatClampNeg dp.toNatClampNeg n.toNatClampNeg))) rfl (fun x hx => ⟨va_up_ne _ _ hx, rfl, rfl⟩) (by rw [show zKd (K, I, J, Q).1 a = (14, n1) from hk1]; show _ = Sum.inl (zgY G 14, n1, Sum.inl (va_up I a _ a)); rw [va_up_self])
    have hP1 := hset ▸ hP1
    exact hn _ _ _ h p e s m args below meth c hE H1 locs1 lsR ⟨hw.1, hP1⟩ hS1 hl
  · exact h.elim
theorem k_cpJ {idx : Nat} (hf : 1 ≤ R.frames) (hl2 : 30 ≤ R.locals) (hlk : Cond.methodLink own idx arraycopyName ∈ zWs) (hna : Cond.native arraycopyName ∈ zWs) (hst : Cond.static arraycopyName ∈ zWs) (hi : Cond.initialized "java/lang/System" ∈ zWs) (hd : decode cc pc = .ok (.invokestatic idx, 3)) : zOK G R own cc nL ret F cs sl C Rt pc (pc + 3) o_cpJ := by
  intro nx jp hn hj ls st σ h
  obtain ⟨K, I, J, Q⟩ := σ
  simp only [o_cpJ] at h
  split at h
  · rename_i n dp a sp a0 r
    rcases hk0 : zKd K a0 with ⟨t0, n0⟩
    rcases hk1 : zKd K a with ⟨t1, n1⟩
    rw [hk0, hk1] at h
    obtain ⟨hb0, h⟩ := zB_out h
    obtain ⟨hb1, h⟩ := zB_out h
    obtain ⟨h8, h⟩ := zB_out h
    have hb0 := Nat.eq_of_beq_eq_true hb0
    have hb1 := Nat.eq_of_beq_eq_true hb1
    subst hb0
    subst hb1
    have hg0 := zW_arr (G := G) (σ := (K, I, J, Q)) (p := a0) hk0 (by decide) (by decide)
    have hg1 := zW_arr (G := G) (σ := (K, I, J, Q)) (p := a) hk1 (by decide) (by decide)
    intro p e s m args below meth c hE H locs lsR hw hS hl
    obtain ⟨⟨g1, g2, g3, g4, g5⟩, h⟩ := h
    refine va_copyl hE.1 hE.2.1 (hE.2.2.1.trans hl.1.symm) hE.2.2.2.2.2.1 (hE.2.2.2.2.2.2.1 _ hlk) (hE.2.2.2.2.2.2.1 _ hna) (hE.2.2.2.2.2.2.1 _ hst) (hE.2.2.2.2.2.2.1 _ hi) hE.2.2.2.2.2.2.2.1 hw.2 (zW_D hw.1) hS a0 a 2 2 hg0 hg1 rfl rfl rfl g1 g2 g3 g4 g5 (fun _ _ => rfl) hf (by rw [zwd_map, show nativeFrameWords "java/lang/System" "arraycopy" 5 = 7 from by decide]; have := Nat.le_of_ble_eq_true h8; omega) hd (fun H1 locs1 hP1 _ hS1 => ?_)
    have hset := zW_set (G := G) (σ := (K, I, J, Q)) (σ' := (K, I, va_up J a (va_cpy (J a0) (J a) sp.toNatClampNeg dp.toNatClampNeg n.toNatClampNeg), Q)) (p := a) (e := .inl (zgY G 15, n1, .inr (.inl (va_cpy (J a0) (J a) sp.toNatClampNeg dp.toNatClampNeg n.toNatClampNeg)))) rfl (fun x hx => ⟨rfl, va_up_ne _ _ hx, rfl⟩) (by rw [show zKd (K, I, J, Q).1 a = (15, n1) from hk1]; show _ = Sum.inl (zgY G 15, n1, Sum.inr (Sum.inl (va_up J a _ a))); rw [va_up_self])
    have hP1 := hset ▸ hP1
    exact hn _ _ _ h p e s m args below meth c hE H1 locs1 lsR ⟨hw.1, hP1⟩ hS1 hl
  · exact h.elim
theorem zSw_out {jp : Nat → Prop} {d : Nat} {x : Int32} : ∀ {cs : List (Int32 × Nat)}, zSw jp d x cs → (∃ q ∈ cs, x = q.1 ∧ jp q.2) ∨ ((∀ q ∈ cs, ¬ x = q.1) ∧ jp d)
  | [], h => Or.inr ⟨fun q hq => absurd hq List.not_mem_nil, h⟩
  | q :: r, h => by
    by_cases hx : x = q.1
    · exact Or.inl ⟨q, List.mem_cons_self, hx, h.1 hx⟩
    · rcases zSw_out (h.2 hx) with ⟨q2, h1, h2⟩ | ⟨h1, h2⟩
      · exact Or.inl ⟨q2, List.mem_cons_of_mem _ h1, h2⟩
      · exact Or.inr ⟨fun q2 hq2 => (List.mem_cons.mp hq2).elim (fun e => e ▸ hx) (h1 q2), h2⟩
/-- lookupswitch, by its pairs -/
theorem k_lsw {dflt : Int} {ps : Array (Int × Int)} {len d nxt : Nat} {qs : List (Int32 × Nat)} (hd : decode cc pc = .ok (.lookupswitch dflt ps, len)) (hp : (ps.toList.zip (ps.toList.drop 1)).all (fun (a, next) => a.1 < next.1) = true)
    (hc : ∀ q ∈ qs, ∃ off, Op.lookupswitch.offset ps.toList dflt q.1.toInt = off ∧ (pc : Int) + off = (q.2 : Int)) (ho : ∀ x : Int32, (∀ q ∈ qs, ¬ x = q.1) → ∃ off, Op.lookupswitch.offset ps.toList dflt x.toInt = off ∧ (pc : Int) + off = (d : Int)) : zOK G R own cc nL ret F cs sl C Rt pc nxt (o_sw qs d) := by
  intro nx jp hn hj ls st σ h
  simp only [o_sw] at h
  split at h
  · rename_i x r
    intro p e s m args below meth c hE H locs lsR hw hS hl
    rcases zSw_out h with ⟨q, h1, h2, h3⟩ | ⟨h1, h2⟩
    · obtain ⟨off, h4, h5⟩ := hc q h1
      subst h2
      exact lv_lookup hE.1 hE.2.1 hd hp h4 h5 (hj _ _ _ _ h3 p e s m args below meth c hE H locs lsR hw hS hl)
    · obtain ⟨off, h4, h5⟩ := ho x h1
      exact lv_lookup hE.1 hE.2.1 hd hp h4 h5 (hj _ _ _ _ h2 p e s m args below meth c hE H locs lsR hw hS hl)
  · exact h.elim
/-- tableswitch -/
theorem k_tsw {dflt lo hi : Int} {offs : Array Int} {len d nxt : Nat} {qs : List (Int32 × Nat)} (hd : decode cc pc = .ok (.tableswitch dflt lo hi offs, len))
    (hc : ∀ q ∈ qs, ∃ off, ¬ q.1.toInt < lo ∧ ¬ hi < q.1.toInt ∧ offs[(q.1.toInt - lo).toNat]? = some off ∧ (pc : Int) + off = (q.2 : Int)) (ho : ∀ x : Int32, (∀ q ∈ qs, ¬ x = q.1) → x.toInt < lo ∨ hi < x.toInt) (hdf : (pc : Int) + dflt = (d : Int)) : zOK G R own cc nL ret F cs sl C Rt pc nxt (o_sw qs d) := by
  intro nx jp hn hj ls st σ h
  simp only [o_sw] at h
  split at h
  · rename_i x r
    intro p e s m args below meth c hE H locs lsR hw hS hl
    rcases zSw_out h with ⟨q, h1, h2, h3⟩ | ⟨h1, h2⟩
    · obtain ⟨off, h4, h5, h6, h7⟩ := hc q h1
      subst h2
      exact lv_tableIn hE.1 hE.2.1 hd h4 h5 h6 h7 (hj _ _ _ _ h3 p e s m args below meth c hE H locs lsR hw hS hl)
    · exact lv_tableOut hE.1 hE.2.1 hd (ho x h1) hdf (hj _ _ _ _ h2 p e s m args below meth c hE H locs lsR hw hS hl)
  · exact h.elim
end ZCP
