-- ===== what makes a new place =====
theorem zKd_l {kd : List (Nat × Nat)} : ∀ {K : List (Nat × Nat)} {p : Nat}, p < K.length → zKd (K ++ kd) p = zKd K p
  | [], p, h => absurd h (Nat.not_lt_zero p)
  | _ :: _, 0, _ => rfl
  | _ :: K, p + 1, h => zKd_l (K := K) (p := p) (Nat.lt_of_succ_lt_succ h)
theorem zKd_r {kd : Nat × Nat} {L : List (Nat × Nat)} : ∀ {K : List (Nat × Nat)}, zKd (K ++ kd :: L) K.length = kd
  | [] => rfl
  | _ :: K => zKd_r (K := K)
def zNw (σ : zSt) (kd : Nat × Nat) : zSt := (σ.1 ++ [kd], va_up σ.2.1 σ.1.length (fun _ => 0), va_up σ.2.2.1 σ.1.length (fun _ => 0), va_up σ.2.2.2 σ.1.length (fun _ => none))
theorem zW_nw {G : zG} {σ : zSt} {kd : Nat × Nat} : zW G (zNw σ kd) = zW G σ ++ [(zAd G σ.1.length, zCell G (zNw σ kd) σ.1.length kd)] := by
  unfold zW
  rw [show (zNw σ kd).1.length = σ.1.length + 1 by show (σ.1 ++ [kd]).length = _; rw [List.length_append]; rfl, List.range_succ, List.map_append]
  congr 1
  · apply List.map_congr_left
    intro p hp
    have hp : p < σ.1.length := List.mem_range.mp hp
    rw [show zKd (zNw σ kd).1 p = zKd σ.1 p from zKd_l hp, zCell_congr (va_up_ne _ _ (by omega)) (va_up_ne _ _ (by omega)) (va_up_ne _ _ (by omega))]
  · show [(zAd G σ.1.length, zCell G (zNw σ kd) σ.1.length (zKd (zNw σ kd).1 σ.1.length))] = _
    rw [show zKd (zNw σ kd).1 σ.1.length = kd from zKd_r]
/-- an end that owes nothing where the method began elsewhere -/
def zVac (G : zG) (n0 : Nat) (F : List Frame → Array Value → State → State → Prop) : Prop := ∀ below args s t, ¬ s.heap.size = zgB G + n0 → F below args s t
section ZN
variable {G : zG} {R : Room} {own : String} {cc : ByteArray} {nL : Nat} {ret : Option FieldType} {F : List Frame → Array Value → State → State → Prop} {cs sl n0 pc : Nat}
variable {p : Program} {e : Env} {s : State} {m : MethodId} {args : Array Value} {below : List Frame} {meth : Method} {c : Code}
theorem zPin (hF : zVac G n0 F) {σ : zSt} {q : Nat} {x : va_E} {H : Heap} {locs : List Loc} {g : JFrame} {cs1 sl1 : Nat} (hlen : σ.1.length + 1 = n0 + cs1) (h1 : σ.1.length < 1000000) (hP : va_P (zgD G) vwCl (zW G σ ++ [(q, x)]) H) (hD : va_D (zA G) (zW G σ ++ [(q, x)]))
    (k : q = zAd G σ.1.length → W p (zgL G) e R s m args below meth c H locs cs1 sl1 (F below args s) g) : W p (zgL G) e R s m args below meth c H locs cs1 sl1 (F below args s) g := by
  intro T hT X
  by_cases hs : s.heap.size = zgB G + n0
  · refine k ?_ T hT X
    have hl : (zW G σ).length = σ.1.length := by unfold zW; rw [List.length_map, List.length_range]
    have hq : (zW G σ ++ [(q, x)])[σ.1.length]? = some (q, x) := by rw [List.getElem?_append_right (by omega), hl, Nat.sub_self]; rfl
    have a1 := vx_lt hP hq
    have a2 := X.heapSize
    rw [hT] at a2
    have a3 : zgB G ≤ q := hD.2 _ _ hq
    rw [zAd_lt h1]
    have a1 : q < H.size := a1
    rcases Nat.lt_or_ge q (zgB G + σ.1.length) with y | y
    · exfalso
      have hi : q - zgB G < σ.1.length := by omega
      have hw : (zW G σ ++ [(q, x)])[q - zgB G]? = some (zAd G (q - zgB G), zCell G σ (q - zgB G) (zKd σ.1 (q - zgB G))) := by rw [List.getElem?_append_left (by omega)]; exact zW_get hi
      have := hD.1 _ _ _ _ hw hq (by show zAd G (q - zgB G) = q; rw [zAd_lt (by omega)]; omega)
      omega
    · omega
  · exact ⟨_, Steps.refl _, hF _ _ _ _ hs⟩
/-- where a method begins at n0, what is new lies in the pool -/
theorem zBeg (hF : zVac G n0 F) {H : Heap} {locs : List Loc} {g : JFrame} {cs1 sl1 : Nat} (k : (∀ q, s.heap.size ≤ q → zA G q) → W p (zgL G) e R s m args below meth c H locs cs1 sl1 (F below args s) g) : W p (zgL G) e R s m args below meth c H locs cs1 sl1 (F below args s) g := by
  by_cases hs : s.heap.size = zgB G + n0
  · exact k (fun q hq => by show zgB G ≤ q; omega)
  · exact fun T _ _ => ⟨_, Steps.refl _, hF _ _ _ _ hs⟩
/-- new, an object -/
theorem at_new (hF : zVac G n0 F) {tag N idx : Nat} {Cn : String} {T : u_T} {ty0 : Nat → FieldType} (hc : vwCl[tag]? = some (Cn, T, N)) (h13 : tag < 13) (hin : ∀ w ∈ u_ws Cn T N, w ∈ zWs) (hty : ∀ k, k < N → parseFieldDescriptor (T k).2.2.1 = some (ty0 k)) (hlk : Cond.classLink own idx Cn ∈ zWs) (hins : Cond.instantiable Cn N ∈ zWs) (hini : Cond.initialized Cn ∈ zWs) (hd : decode cc pc = .ok (.new idx, 3)) {σ : zSt} {n : Nat} (hfs : ∀ j, j < N → defaultValue (ty0 j) = vp_V (zFs G (zNw σ (tag, n)) σ.1.length tag) j) (hlen : σ.1.length = n0 + cs) (h1 : σ.1.length < 1000000) (hcs : cs + 1 ≤ R.cells) (hsl : sl + N ≤ R.slots) {ls : zLs} {st : List Value}
    (k : zAt G R own cc nL ret F (cs + 1) (sl + N) (pc + 3) ls (.ref σ.1.length :: st) (zNw σ (tag, n))) : zAt G R own cc nL ret F cs sl pc ls st σ := by
  intro p e s m args below meth c hE H locs lsR hw hS hl
  refine zBeg hF (fun hA => ?_)
  refine va_new hE.1 hE.2.1 hE.2.2.2.2.2.2.1 hin ty0 hty hE.2.2.2.2.2.1 (hE.2.2.2.2.2.2.1 _ hlk) (hE.2.2.2.2.2.2.1 _ hins) (hE.2.2.2.2.2.2.1 _ hini) hE.2.2.2.2.2.2.2.1 hw.2 (zW_D hw.1) hS hA hc hfs hcs hsl hd (fun q H1 hP1 hD1 hS1 => ?_)
  refine zPin hF (by omega) h1 hP1 hD1 (fun eq => ?_)
  subst eq
  refine k p e s m args below meth c hE H1 locs lsR ⟨by show (σ.1 ++ [(tag, n)]).length ≤ 1000000; rw [List.length_append]; exact h1, ?_⟩ hS1 hl
  rw [zW_nw, show zCell G (zNw σ (tag, n)) σ.1.length (tag, n) = Sum.inr (tag, zFs G (zNw σ (tag, n)) σ.1.length tag) from if_pos h13]
  exact hP1
/-- newarray -/
theorem at_newa (hF : zVac G n0 F) {atype : ArrayType} {ty : FieldType} {tag t0 : Nat} (hty : newarray.typeOf atype = ty) (ht : (zTy G)[t0]? = some (zgY G tag, ty)) (hra : ∀ (U : State) (a b : ClassId), va_RA U a ty → va_RA U b ty → a = b) (h13 : ¬ tag < 13) (hac : Cond.arrayClass ty ∈ zWs) (hd : decode cc pc = .ok (.newarray atype, 2)) {σ : zSt} {N : Nat} {v : Int32} (hv : ¬ v < 0) (hN : v.toNatClampNeg = N) (hb : N * componentBytes ty ≤ 536870912) (ha : ∀ cA : ClassId, vp_cell cA (zArr G (zNw σ (tag, N)) σ.1.length tag N) = arrV cA N (fun _ => defaultValue ty)) (hlen : σ.1.length = n0 + cs) (h1 : σ.1.length < 1000000) (hcs : cs + 1 ≤ R.cells) (hsl : sl + N ≤ R.slots) {ls : zLs} {st : List Value}
    (k : zAt G R own cc nL ret F (cs + 1) (sl + N) (pc + 2) ls (.ref σ.1.length :: st) (zNw σ (tag, N))) : zAt G R own cc nL ret F cs sl pc ls (.int v :: st) σ := by
  intro p e s m args below meth c hE H locs lsR hw hS hl
  refine zBeg hF (fun hA => ?_)
  refine va_newa hE.1 hE.2.1 (by rw [hty]; exact hE.2.2.2.2.2.2.1 _ hac) hty hE.2.2.2.2.2.2.2.1 hw.2 (zW_D hw.1) hS hA ha hv hN hb hcs hsl hd (fun q cA H1 hK1 hP1 hD1 hS1 => ?_)
  have e8 : cA = zgY G tag := hra s cA (zgY G tag) (hK1.2 8 (cA, ty) rfl).2 (hE.2.2.2.2.2.2.2.1.2 t0 _ ht).2
  subst e8
  refine zPin hF (by omega) h1 hP1 hD1 (fun eq => ?_)
  subst eq
  refine k p e s m args below meth c hE H1 locs lsR ⟨by show (σ.1 ++ [(tag, N)]).length ≤ 1000000; rw [List.length_append]; exact h1, ?_⟩ hS1 hl
  rw [zW_nw, show zCell G (zNw σ (tag, N)) σ.1.length (tag, N) = Sum.inl (zgY G tag, zArr G (zNw σ (tag, N)) σ.1.length tag N) from if_neg h13]
  exact hP1
theorem va_RA_p {U : State} {a b : ClassId} {ty : FieldType} (hp : ty = .int ∨ ty = .long ∨ ty = .byte ∨ ty = .boolean) (h1 : va_RA U a ty) (h2 : va_RA U b ty) : a = b := by
  rcases hp with rfl | rfl | rfl | rfl <;> exact Option.some.inj (h1.symm.trans h2)
theorem zac_i : Cond.arrayClass .int ∈ zWs := List.mem_filter.mpr ⟨by decide +kernel, rfl⟩
theorem zac_l : Cond.arrayClass .long ∈ zWs := List.mem_filter.mpr ⟨by decide +kernel, rfl⟩
theorem zac_b : Cond.arrayClass .byte ∈ zWs := List.mem_filter.mpr ⟨by decide +kernel, rfl⟩
theorem zac_z : Cond.arrayClass .boolean ∈ zWs := List.mem_filter.mpr ⟨by decide +kernel, rfl⟩
theorem at_newI (hF : zVac G n0 F) (hd : decode cc pc = .ok (.newarray .int, 2)) {σ : zSt} {N : Nat} {v : Int32} (hv : ¬ v < 0) (hN : v.toNatClampNeg = N) (hb : N ≤ 100000) (hlen : σ.1.length = n0 + cs) (h1 : σ.1.length < 1000000) (hcs : cs + 1 ≤ R.cells) (hsl : sl + N ≤ R.slots) {ls : zLs} {st : List Value} (k : zAt G R own cc nL ret F (cs + 1) (sl + N) (pc + 2) ls (.ref σ.1.length :: st) (zNw σ (14, N))) : zAt G R own cc nL ret F cs sl pc ls (.int v :: st) σ :=
  at_newa hF (ty := .int) (tag := 14) (t0 := 1) rfl rfl (fun U a b => va_RA_p (Or.inl rfl)) (by decide) zac_i hd hv hN (by show N * 4 ≤ _; omega) (fun cA => by unfold zArr; rw [if_neg (by decide), if_neg (by decide)]; show arrV cA N (fun j => .int (va_up σ.2.1 σ.1.length (fun _ => 0) σ.1.length j)) = _; rw [va_up_self]; rfl) hlen h1 hcs hsl k
theorem at_newB (hF : zVac G n0 F) (hd : decode cc pc = .ok (.newarray .byte, 2)) {σ : zSt} {N : Nat} {v : Int32} (hv : ¬ v < 0) (hN : v.toNatClampNeg = N) (hb : N ≤ 100000) (hlen : σ.1.length = n0 + cs) (h1 : σ.1.length < 1000000) (hcs : cs + 1 ≤ R.cells) (hsl : sl + N ≤ R.slots) {ls : zLs} {st : List Value} (k : zAt G R own cc nL ret F (cs + 1) (sl + N) (pc + 2) ls (.ref σ.1.length :: st) (zNw σ (13, N))) : zAt G R own cc nL ret F cs sl pc ls (.int v :: st) σ :=
  at_newa hF (ty := .byte) (tag := 13) (t0 := 0) rfl rfl (fun U a b => va_RA_p (Or.inr (Or.inr (Or.inl rfl)))) (by decide) zac_b hd hv hN (by show N * 1 ≤ _; omega) (fun cA => by unfold zArr; rw [if_neg (by decide), if_neg (by decide)]; show arrV cA N (fun j => .int (va_up σ.2.1 σ.1.length (fun _ => 0) σ.1.length j)) = _; rw [va_up_self]; rfl) hlen h1 hcs hsl k
theorem at_newZ (hF : zVac G n0 F) (hd : decode cc pc = .ok (.newarray .boolean, 2)) {σ : zSt} {N : Nat} {v : Int32} (hv : ¬ v < 0) (hN : v.toNatClampNeg = N) (hb : N ≤ 100000) (hlen : σ.1.length = n0 + cs) (h1 : σ.1.length < 1000000) (hcs : cs + 1 ≤ R.cells) (hsl : sl + N ≤ R.slots) {ls : zLs} {st : List Value} (k : zAt G R own cc nL ret F (cs + 1) (sl + N) (pc + 2) ls (.ref σ.1.length :: st) (zNw σ (16, N))) : zAt G R own cc nL ret F cs sl pc ls (.int v :: st) σ :=
  at_newa hF (ty := .boolean) (tag := 16) (t0 := 3) rfl rfl (fun U a b => va_RA_p (Or.inr (Or.inr (Or.inr rfl)))) (by decide) zac_z hd hv hN (by show N * 1 ≤ _; omega) (fun cA => by unfold zArr; rw [if_neg (by decide), if_neg (by decide)]; show arrV cA N (fun j => .int (va_up σ.2.1 σ.1.length (fun _ => 0) σ.1.length j)) = _; rw [va_up_self]; rfl) hlen h1 hcs hsl k
theorem at_newJ (hF : zVac G n0 F) (hd : decode cc pc = .ok (.newarray .long, 2)) {σ : zSt} {N : Nat} {v : Int32} (hv : ¬ v < 0) (hN : v.toNatClampNeg = N) (hb : N ≤ 100000) (hlen : σ.1.length = n0 + cs) (h1 : σ.1.length < 1000000) (hcs : cs + 1 ≤ R.cells) (hsl : sl + N ≤ R.slots) {ls : zLs} {st : List Value} (k : zAt G R own cc nL ret F (cs + 1) (sl + N) (pc + 2) ls (.ref σ.1.length :: st) (zNw σ (15, N))) : zAt G R own cc nL ret F cs sl pc ls (.int v :: st) σ :=
  at_newa hF (ty := .long) (tag := 15) (t0 := 2) rfl rfl (fun U a b => va_RA_p (Or.inr (Or.inl rfl))) (by decide) zac_l hd hv hN (by show N * 8 ≤ _; omega) (fun cA => by unfold zArr; rw [if_pos rfl]; show arrV cA N (fun j => .long (va_up σ.2.2.1 σ.1.length (fun _ => 0) σ.1.length j)) = _; rw [va_up_self]; rfl) hlen h1 hcs hsl k
/-- anewarray -/
theorem at_anew (hF : zVac G n0 F) {Cn : String} {tag t0 idx : Nat} (ht : (zTy G)[t0]? = some (zgY G tag, .object Cn)) (h17 : 17 ≤ tag) (hao : ∀ s : State, zgP G s s.heap → va_AO Cn s) (hlk : Cond.classLink own idx Cn ∈ zWs) (hd : decode cc pc = .ok (.anewarray idx, 3)) {σ : zSt} {N : Nat} {v : Int32} (hv : ¬ v < 0) (hN : v.toNatClampNeg = N) (hb : N ≤ 100000) (hlen : σ.1.length = n0 + cs) (h1 : σ.1.length < 1000000) (hcs : cs + 1 ≤ R.cells) (hsl : sl + N ≤ R.slots) {ls : zLs} {st : List Value}
    (k : zAt G R own cc nL ret F (cs + 1) (sl + N) (pc + 3) ls (.ref σ.1.length :: st) (zNw σ (tag, N))) : zAt G R own cc nL ret F cs sl pc ls (.int v :: st) σ := by
  intro p e s m args below meth c hE H locs lsR hw hS hl
  refine zBeg hF (fun hA => ?_)
  refine va_newq hE.1 hE.2.1 hE.2.2.2.2.2.1 (hE.2.2.2.2.2.2.1 _ hlk) (hao s hE.2.2.2.2.2.2.2.2.2.2.2.2) hE.2.2.2.2.2.2.2.1 hw.2 (zW_D hw.1) hS hA hv hN (by omega) hcs hsl hd (fun q cA H1 hK1 hP1 hD1 hS1 => ?_)
  have e8 : cA = zgY G tag := by
    obtain ⟨_, _, _, _, _, f1⟩ := (hK1.2 8 (cA, .object Cn) rfl).2
    obtain ⟨_, _, _, _, _, f2⟩ := (hE.2.2.2.2.2.2.2.1.2 t0 _ ht).2
    exact Option.some.inj (f1.symm.trans f2)
  subst e8
  refine zPin hF (by omega) h1 hP1 hD1 (fun eq => ?_)
  subst eq
  refine k p e s m args below meth c hE H1 locs lsR ⟨by show (σ.1 ++ [(tag, N)]).length ≤ 1000000; rw [List.length_append]; exact h1, ?_⟩ hS1 hl
  rw [zW_nw, show zCell G (zNw σ (tag, N)) σ.1.length (tag, N) = Sum.inl (zgY G tag, zArr G (zNw σ (tag, N)) σ.1.length tag N) from if_neg (by show ¬ tag < 13; omega), show zArr G (zNw σ (tag, N)) σ.1.length tag N = (N, .inr (.inr (.inr (.inr (fun _ => none))))) by
    unfold zArr
    rw [if_neg (by omega), if_pos h17, show (zNw σ (tag, N)).2.2.2 σ.1.length = fun _ => none from va_up_self _ _ _]
    rfl]
  exact hP1
end ZN
