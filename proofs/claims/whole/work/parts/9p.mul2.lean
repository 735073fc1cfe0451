-- ===== multianewarray, two deep =====
theorem at_multi {G : zG} {R : Room} {own : String} {cc : ByteArray} {nL : Nat} {ret : Option FieldType} {F : List Frame → Array Value → State → State → Prop} {cs sl n0 pc : Nat} (hF : zVac G n0 F) (hA : zMA G) {idx : Nat} (hlk : Cond.classLink own idx "[[J" ∈ zWs) (hd : decode cc pc = .ok (.multianewarray idx 2, 4)) {σ : zSt} {v w : Int32} (hv0 : ¬ v < 0) (hv : v.toNatClampNeg = 15) (hw0 : ¬ w < 0) (hw8 : w.toNatClampNeg = 8) (hlen : σ.1.length = n0 + cs) (h1 : σ.1.length < 900000) (hcs : cs + 9 ≤ R.cells) (hsl : sl + 128 ≤ R.slots) {ls : zLs} {st : List Value}
    (k : zAt G R own cc nL ret F (cs + 9) (sl + 128) (pc + 4) ls (.ref σ.1.length :: st) (mnS σ 8)) : zAt G R own cc nL ret F cs sl pc ls (.int v :: .int w :: st) σ := by
  intro p e s m args below meth c hE H locs lsR hw hS hl
  refine zSize hF hlen hw hS (fun hsz => ?_)
  refine zBeg hF (fun hP => ?_)
  intro T hT X
  have hpl : e.platform.magicAccessors = ({} : Platform).magicAccessors := by rw [X.admits.platform]
  obtain ⟨kA, hkA, hdA⟩ := hA s hE.2.2.2.2.2.2.2.2.2.2.2.2
  obtain ⟨-, kC, hkC, c2, hdC⟩ := (hE.2.2.2.2.2.2.2.1.2 2 _ rfl).1 15 (fun _ => .long 0)
  have hkC : s.vm.classes[zgY G 15]? = some kC := hkC
  have hnm : s.vm.findClass "[[J" = some (zgY G 20) := (hE.2.2.2.2.2.2.2.1.2 7 _ rfl).2
  obtain ⟨c0, hf0, hcl⟩ := Cond.classLink_spec hE.2.2.2.2.2.1 (hE.2.2.2.2.2.2.1 _ hlk) e.platform hpl
  cases hnm.symm.trans hf0
  obtain ⟨hg1, hw1, hr1⟩ := State.classEntry (e := e) X.warmed hcl
  generalize T.vm.noted m.cls idx (.cls (zgY G 20)) = vm1 at hg1 hw1 hr1
  have hal := hw1.alike
  obtain ⟨kA1, hkA1, eA⟩ := hal.2.2 _ _ hkA
  obtain ⟨kC1, hkC1, eC⟩ := hal.2.2 _ _ hkC
  have dA1 : kA1.kind = .array (zgY G 15) (.array .long) := by rw [eA]; exact hdA
  have dC1 : kC1.kind = .array c2 .long := by rw [eC]; exact hdC
  have X1 := X.noted hw1
  obtain ⟨hm1, hm2⟩ := X1.roomAbove hcs hsl
  have lim : ∀ n : Nat, n ≤ 15 → ¬ n > e.platform.arrayLengthLimit := fun n hn => by rw [Launch.admits_arrayLengthLimit X.admits]; omega
  have byt : ∀ (n : Nat) (t : FieldType), n * componentBytes t ≤ 536870912 → ¬ n * componentBytes t > e.platform.maxHeapBytes := fun n t hn => by rw [Launch.admits_maxHeapBytes X.admits]; omega
  let g1 : JFrame := { F0 m pc lsR (.int v :: .int w :: st.map (zV G)) with stack := st.map (zV G) }
  let V : Nat → State → Prop := fun i S => ∃ (S0 : State) (locs1 : List Loc), S = S0.setTop g1 ∧ S0.vm = vm1 ∧ S0.heap.size = zgB G + (mnS σ i).1.length ∧ zWd G (mnS σ i) S0.heap ∧ va_S (zA G) s.heap S0.heap locs1 ∧ Stand p (zgL G) e R s m args below meth c S0 locs1 (cs + 1 + i) (sl + 8 + 15 * i)
  refine zInstr (c := c) (f := F0 m pc lsR (.int v :: .int w :: st.map (zV G))) X.here (by rw [hE.2.1]; exact hd) ?_
  rw [hE.1]
  show wp (multianewarray.sem idx 2) _ _ e false [] (T.setTop _)
  simp only [multianewarray.sem, wp_bind']
  rw [W.resolveClassAt_links (t := T.setTop (F0 m pc lsR (.int v :: .int w :: st.map (zV G)))) (mm := m) (State.method?_setTop (F0 m pc lsR (.int v :: .int w :: st.map (zV G))) X.here.top) hg1]
  rw [wp_bind', W.popN, if_neg (by decide)]
  refine ⟨_, State.topJava?_setTop' (s := T.setVm vm1) _ X.here.top, [.int w, .int v], st.map (zV G), rfl, rfl, ?_⟩
  simp only [List.mapM_cons, List.mapM_nil, wp_bind', wp_pure']
  have eS : (((T.setTop (F0 m pc lsR (.int v :: .int w :: st.map (zV G)))).setVm vm1).setTop g1) = (T.setVm vm1).setTop g1 := by
    show ((T.setVm vm1).setTop _).setTop _ = _
    rw [State.setTop_setTop]
  show wp (multianewarray.make (zgY G 20) [w, v]) _ _ e _ _ (((T.setTop (F0 m pc lsR (.int v :: .int w :: st.map (zV G)))).setVm vm1).setTop g1)
  rw [eS, multianewarray.make]
  have hz1 : (T.setVm vm1).heap.size = zgB G + σ.1.length := by show T.heap.size = _; rw [hT]; exact hsz
  have hm1 : (T.setVm vm1).heap.size + 9 ≤ e.platform.maxCells := hm1
  have hm2 : (T.setVm vm1).slotsUsed + 128 ≤ e.platform.maxSlots := hm2
  have hkA2 : ((T.setVm vm1).setTop g1).vm.classes[zgY G 20]? = some kA1 := hkA1
  simp only [wp_bind', W.ite, hw0, if_false, wp_pure', W.theClass, hkA2, dA1, Option.some.injEq, exists_eq_left']
  refine W.newArray_of hkA2 dA1 (by rw [hw8]; exact lim 8 (by decide)) (by rw [hw8]; exact byt 8 _ (by decide)) (by show (T.setVm vm1).heap.size < _; omega) (by rw [hw8]; show (T.setVm vm1).slotsUsed + 8 ≤ _; omega) rfl (fun acts1 => ?_)
  have hw9 : (w == 0) = false := by
    cases hq : w == 0 with
    | false => rfl
    | true =>
      have e0 : w = 0 := by simpa using hq
      rw [e0] at hw8
      exact absurd hw8 (by decide)
  simp only [hw9, Bool.false_eq_true, if_false, wp_bind', wp_pure']
  rw [Std.Legacy.Range.forIn_eq_forIn_range', show ([:w.toNatClampNeg] : Std.Legacy.Range).size = 8 by simp [Std.Legacy.Range.size, hw8]]
  refine mn_loop (V := V) 8 ?_ 8 0 rfl _ _ _ _ ?_ ?_
  · rintro i S d acts Q hi ⟨S0, locs1, rfl, hvm, hz0, hw0', hS0, X0⟩ hn
    have hkC2 : (S0.setTop g1).vm.classes[zgY G 15]? = some kC1 := by show S0.vm.classes[zgY G 15]? = _; rw [hvm]; exact hkC1
    have hln := mnS_len σ i
    obtain ⟨hr1, hr2⟩ := X0.roomAbove (a := 1) (b := 15) (by omega) (by omega)
    simp only [wp_bind', wp_pure']
    rw [multianewarray.make]
    simp only [wp_bind', W.ite, hv0, if_false, wp_pure', W.theClass, hkC2, dC1, Option.some.injEq, exists_eq_left']
    refine W.newArray_of hkC2 dC1 (by rw [hv]; exact lim 15 (by decide)) (by rw [hv]; exact byt 15 _ (by decide)) (by show S0.heap.size < _; omega) (by rw [hv]; show S0.slotsUsed + 15 ≤ _; omega) rfl (fun acts2 => ?_)
    rw [hv]
    have hc1 : ({ cls := zgY G 15, slots := Array.replicate 15 (defaultValue .long), vm := .none } : Cell) = vp_cell (zgY G 15) (zArr G (zNw (mnS σ i) (15, 15)) (mnS σ i).1.length 15 15) := by
      rw [arrV_new]
      unfold zArr
      rw [if_pos rfl]
      show _ = arrV _ 15 (fun j => .long (va_up (mnS σ i).2.2.1 (mnS σ i).1.length (fun _ => 0) (mnS σ i).1.length j))
      rw [va_up_self]
      rfl
    have hw2 := zWd_push (tag := 15) (n := 15) (by decide) (by omega) hw0' hz0 hc1
    have hko : zKd (zNw (mnS σ i) (15, 15)).1 σ.1.length = (20, 8) := by
      show zKd ((mnS σ i).1 ++ [_]) _ = _
      rw [zKd_l (by omega)]
      exact mnS_kd σ i
    have hg2 : (S0.pushCell ({ cls := zgY G 15, slots := Array.replicate 15 (defaultValue .long), vm := .none } : Cell)).heap[zAd G σ.1.length]? = some (vp_cell (zgY G 20) (zArr G (zNw (mnS σ i) (15, 15)) σ.1.length 20 8)) := hw2.2 σ.1.length _ (zW_arr (G := G) (σ := zNw (mnS σ i) (15, 15)) hko (by decide) (by decide))
    simp only [wp_bind', wp_pure', W.writeLoc]
    have eT : ((T.setVm vm1).setTop g1).heap.size = zAd G σ.1.length := by rw [zAd_lt (by omega)]; exact hz1
    have eR : (S0.setTop g1).heap.size = zAd G (mnS σ i).1.length := by rw [zAd_lt (by omega)]; exact hz0
    rw [eT, eR]
    have hvc : vp_cell (zgY G 20) (zArr G (zNw (mnS σ i) (15, 15)) σ.1.length 20 8) = arrV (zgY G 20) 8 (fun j => va_rf (((zNw (mnS σ i) (15, 15)).2.2.2 σ.1.length j).map (zAd G))) := by
      unfold zArr
      rw [if_neg (by decide), if_pos (by decide), vp_cell_q]
    have hv1 : (vp_cell (zgY G 20) (zArr G (zNw (mnS σ i) (15, 15)) σ.1.length 20 8)).cls = zgY G 20 := by rw [hvc]; rfl
    have hv2 : (vp_cell (zgY G 20) (zArr G (zNw (mnS σ i) (15, 15)) σ.1.length 20 8)).vm = .none := by rw [hvc]; rfl
    have hv3 : (vp_cell (zgY G 20) (zArr G (zNw (mnS σ i) (15, 15)) σ.1.length 20 8)).slots.size = 8 := by rw [hvc, arrV_size]
    refine ⟨_, hg2, (by rw [hv2]; exact (fun h => VmData.noConfusion h)), (by rw [hv3]; exact hi), ?_, ?_⟩
    · have hkA3 : S0.vm.classes[zgY G 20]? = some kA1 := by rw [hvm]; exact hkA1
      rw [hv1, hv2]
      unfold State.fitsSlot State.slotType?
      simp only [State.vm_pushCell, State.vm_setTop, hkA3, Option.bind_eq_bind, Option.bind_some, dA1]
      rfl
    · generalize hcl9 : ({ cls := zgY G 15, slots := Array.replicate 15 (defaultValue .long), vm := .none } : Cell) = cl9 at *
      have hs9 : cl9.slots.size = 15 := by rw [← hcl9]; exact Array.size_replicate
      have X2 := (X0.pushed cl9).stored hg2 i (.ref (zAd G (mnS σ i).1.length))
      rw [hs9] at X2
      have w2 := zWd_row (H1 := ((S0.pushCell cl9).setCell (zAd G σ.1.length) ((vp_cell (zgY G 20) (zArr G (zNw (mnS σ i) (15, 15)) σ.1.length 20 8)).setSlot i (.ref (zAd G (mnS σ i).1.length)))).heap) (v := (mnS σ i).1.length) (i := i) hko hw2 (State.heap_setCell_self hg2) (fun x hx => State.heap_setCell_other (fun q => hx q.symm))
      generalize (vp_cell (zgY G 20) (zArr G (zNw (mnS σ i) (15, 15)) σ.1.length 20 8)).setSlot i (.ref (zAd G (mnS σ i).1.length)) = co9 at *
      have z2 : ((S0.pushCell cl9).setCell (zAd G σ.1.length) co9).heap.size = S0.heap.size + 1 := by
        show ((S0.heap.push cl9).setIfInBounds _ _).size = _
        rw [Array.size_setIfInBounds, Array.size_push]
      have o2 : ∀ x : Nat, x ≠ zAd G σ.1.length → ((S0.pushCell cl9).setCell (zAd G σ.1.length) co9).heap[x]? = (S0.heap.push cl9)[x]? := fun x hx => State.heap_setCell_other (s := S0.pushCell cl9) (fun q => hx q.symm)
      have s1 : va_S (zA G) s.heap (S0.heap.push cl9) locs1 := ⟨by rw [Array.size_push]; exact Nat.le_succ_of_le hS0.1, fun q a b => by
        rw [Array.getElem?_push, if_neg (by have := hS0.1; omega)]
        exact hS0.2.1 q a b, hS0.2.2⟩
      have s2 := va_S.put (k := i) s1 (by rw [z2, Array.size_push]) o2 (show zgB G ≤ zAd G σ.1.length by rw [zAd_lt (by omega)]; omega)
      refine hn _ _ _ ⟨(S0.pushCell cl9).setCell (zAd G σ.1.length) co9, _, rfl, hvm, ?_, w2, s2, X2⟩
      rw [z2, mnS_len, hz0, mnS_len]
      omega
  · refine ⟨(T.setVm vm1).pushCell ({ cls := zgY G 20, slots := Array.replicate 8 .null, vm := .none } : Cell), locs, by rw [hw8]; rfl, rfl, ?_, ?_, ?_, ?_⟩
    · rw [mnS_len]
      show ((T.setVm vm1).heap.push _).size = _
      rw [Array.size_push, hz1]
      omega
    · have hc0 : ({ cls := zgY G 20, slots := Array.replicate 8 .null, vm := .none } : Cell) = vp_cell (zgY G 20) (zArr G (zNw σ (20, 8)) σ.1.length 20 8) := by
        rw [arrV_new]
        unfold zArr
        rw [if_neg (by decide), if_pos (by decide), vp_cell_q, show (zNw σ (20, 8)).2.2.2 σ.1.length = fun _ => none from va_up_self _ _ _]
        rfl
      refine zWd_push (tag := 20) (n := 8) (by decide) (by omega) (H := T.heap) (by rw [hT]; exact hw) hz1 hc0
    · have hS' : va_S (zA G) s.heap T.heap locs := by rw [hT]; exact hS
      refine ⟨?_, fun q a b => ?_, hS'.2.2⟩
      · show s.heap.size ≤ (T.heap.push _).size
        rw [Array.size_push]; exact Nat.le_succ_of_le hS'.1
      · show (T.heap.push _)[q]? = _
        rw [Array.getElem?_push, if_neg (by have := hS'.1; omega)]
        exact hS'.2.1 q a b
    · exact X1.pushed _
  · rintro S' d' acts' ⟨S0, locs1, rfl, hvm, hz0, hw0', hS0, X0⟩
    simp only [wp_bind', wp_pure', W.mark, W.pushRef, State.topJava?_setTop' _ X0.here.top, Option.some.injEq, exists_eq_left', State.setTop_setTop]
    intro acts2
    rw [afterInstr_ok]
    have kk := k p e s m args below meth c hE S0.heap locs1 lsR hw0' hS0 hl S0 rfl X0
    rw [show ((T.setVm vm1).setTop g1).heap.size = zAd G σ.1.length by rw [zAd_lt (by omega)]; exact hz1]
    exact kk
