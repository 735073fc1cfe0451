-- ===== the constructor of Regions =====
def zAO (G : zG) : Prop := ∀ s : State, zgP G s s.heap → va_AO RX3 s ∧ va_AO RX5 s ∧ va_AO RX9 s
theorem fs_9 {G : zG} {σ : zSt} {n : Nat} : ∀ j, j < 3 → defaultValue (tyX9 j) = vp_V (zFs G (zNw σ (9, n)) σ.1.length 9) j := fun j hj => by
  rw [zfs_new hj]
  match j, hj with
  | 0, _ => rfl
  | 1, _ => rfl
  | 2, _ => rfl
def sl3 : Nat → List (Nat × Nat)
  | 0 => []
  | i + 1 => sl3 i ++ [(9, 3), (6, 2), (6, 2)]
theorem sl3_len : ∀ i, (sl3 i).length = 3 * i
  | 0 => rfl
  | i + 1 => by
    show (sl3 i ++ _).length = _
    rw [List.length_append, sl3_len i]
    show 3 * i + 3 = 3 * (i + 1)
    omega
def kd7 (i : Nat) : List (Nat × Nat) := [(19, 42), (6, 2), (6, 2), (6, 2)] ++ sl3 i
theorem kd7_len (i : Nat) : (kd7 i).length = 4 + 3 * i := by
  show ([_, _, _, _] ++ sl3 i).length = _
  rw [List.length_append, sl3_len]; rfl
/-- i of the slices are there -/
def rl7 (i : Nat) : Nat → Nat → Option Nat := fun x k => if x = 0 then (if k < 4 then some (k + 1) else none) else if x = 1 then (if k < i then some (5 + 3 * k) else none) else if x < 5 then none else if 5 + 3 * i ≤ x then none else if (x - 5) % 3 = 0 then (if k = 1 then some (x + 1) else if k = 2 then some (x + 2) else none) else none
theorem at_gR {G : zG} {R : Room} {own : String} {cc : ByteArray} {nL : Nat} {ret : Option FieldType} {F : List Frame → Array Value → State → State → Prop} {cs sl pc tag k N idx o q : Nat} {Cn : String} {T : u_T} (hc : vwCl[tag]? = some (Cn, T, N)) (hk : k < N) (ht : (zFT tag)[k]? = some 2) (hin : ∀ w ∈ u_ws Cn T N, w ∈ zWs) (hlk : zLk own idx (T k).1 (T k).2.1 (T k).2.2.1) (hd : decode cc pc = .ok (.getfield idx, 3)) {ls : zLs} {st : List Value} {σ : zSt} (hb : Nat.beq (zKd σ.1 o).1 tag = true) (hr : σ.2.2.2 o k = some q) (kk : zAt G R own cc nL ret F cs sl (pc + 3) ls (.ref q :: st) σ) : zAt G R own cc nL ret F cs sl pc ls (.ref o :: st) σ := by
  obtain ⟨K, I, J, P⟩ := σ
  refine (k_gR (C := zCalls G 0) (Rt := fun _ _ => False) hc hk ht hin hlk hd) (fun ls st σ9 => zAt G R own cc nL ret F cs sl (pc + 3) ls st σ9) (fun _ _ _ _ => False) (fun _ _ _ h => h) (fun _ _ _ _ h => h.elim) _ _ _ ?_
  simp only [o_gR]
  exact zB_in hb (op_in hr kk)
theorem at_len {G : zG} {R : Room} {own : String} {cc : ByteArray} {nL : Nat} {ret : Option FieldType} {F : List Frame → Array Value → State → State → Prop} {cs sl pc q t n : Nat} (hd : decode cc pc = .ok (.arraylength, 1)) {ls : zLs} {st : List Value} {σ : zSt} (hk : zKd σ.1 q = (t, n)) (h13 : Nat.ble 13 t = true) (h20 : Nat.ble t 20 = true) (kk : zAt G R own cc nL ret F cs sl (pc + 1) ls (.int (Int32.ofNat n) :: st) σ) : zAt G R own cc nL ret F cs sl pc ls (.ref q :: st) σ := by
  obtain ⟨K, I, J, P⟩ := σ
  have hk : zKd K q = (t, n) := hk
  refine (k_alen (C := zCalls G 0) (Rt := fun _ _ => False) hd) (fun ls st σ9 => zAt G R own cc nL ret F cs sl (pc + 1) ls st σ9) (fun _ _ _ _ => False) (fun _ _ _ h => h) (fun _ _ _ _ h => h.elim) _ _ _ ?_
  simp only [o_len]
  rw [hk]
  exact zB_in h13 (zB_in h20 kk)
theorem r7_ext {i x k : Nat} (hx : x < 8 + 3 * i) : rl7 (i + 1) x k = rPutA (rSub (rl7 i) (4 + 3 * i + 1) (rPut (rSub (rPut (rSub rN 1 (fun _ _ => none)) 1 1) 2 (fun _ _ => none)) 2 2)) 1 i (5 + 3 * i) x k := by
  unfold rPutA rSub
  by_cases a : x < 4 + 3 * i + 1
  · rw [if_pos a]
    unfold rl7
    repeat' split
    all_goals first | rfl | (exfalso; omega) | (congr 1; omega)
  · rw [if_neg a, if_neg (by omega : ¬ (x = 1 ∧ k = i))]
    unfold rl7
    rw [if_neg (by omega), if_neg (by omega), if_neg (by omega), if_neg (by omega)]
    have e : x = 5 + 3 * i ∨ x = 5 + 3 * i + 1 ∨ x = 5 + 3 * i + 2 := by omega
    rcases e with rfl | rfl | rfl
    · rw [if_pos (by omega), show 5 + 3 * i - (4 + 3 * i + 1) = 0 by omega]
      by_cases d : k = 1
      · subst d
        rw [if_pos rfl]
        show some _ = some (1 + (4 + 3 * i + 1))
        congr 1; omega
      · rw [if_neg d]
        by_cases f : k = 2
        · subst f
          rw [if_pos rfl]
          show some _ = some (2 + (4 + 3 * i + 1))
          congr 1; omega
        · rw [if_neg f]
          simp [rPut, rSub, rN, d, f]
    · rw [if_neg (by omega), show 5 + 3 * i + 1 - (4 + 3 * i + 1) = 1 by omega]
      rfl
    · rw [if_neg (by omega), show 5 + 3 * i + 2 - (4 + 3 * i + 1) = 2 by omega]
      rfl
theorem at_hide {G : zG} {R : Room} {own : String} {cc : ByteArray} {nL : Nat} {ret : Option FieldType} {F : List Frame → Array Value → State → State → Prop} {cs sl pc : Nat} {ls : zLs} {st : List Value} {kd : List (Nat × Nat)} {rel : Nat → Nat → Option Nat} {o : Nat} {σ x : zSt} (hx : zBu kd rel o σ x) (h : ∀ y, zBu kd rel o σ y → zAt G R own cc nL ret F cs sl pc ls st y) : zAt G R own cc nL ret F cs sl pc ls st x := h x hx
theorem dyi9 : yX9_init.cls ≠ "java/lang/invoke/MethodHandle" ∧ yX9_init.cls ≠ "java/lang/invoke/VarHandle" ∧ (parseMethodDescriptor yX9_init.desc).map (fun d => d.parameters.length) = some 0 := by decide +kernel
theorem l_7 {G : zG} (hG : zGok G) {Q : zRt} {o : Nat} (ho : o < 500) {σ : zSt} (h1 : σ.1.length = o + 1) (h3 : Nat.beq (zKd σ.1 o).1 7 = true) (h : ∀ σ', zBu (kd7 42) (rl7 42) o σ σ' → Q none σ') : ∀ (r i : Nat) (v : Int32) (σ1 : zSt), v = nI i → i + r = 42 → zBu (kd7 i) (rl7 i) o σ σ1 → zAt G (zRk 3 130 342) RX7 cX7_init 2 none (zFk G yX7_init σ.1.length Q 130 342) (4 + 3 * i) (48 + 7 * i) 48 [some (.ref o), some (.int v)] [] σ1 := by
  intro r
  induction r with
  | zero =>
    intro i v σ1 ev hi c1
    have e : i = 42 := by omega
    subst ev
    subst e
    have c1' := c1
    have l1 := bu_len h1 c1
    rw [kd7_len] at l1
    have r0 : σ1.2.2.2 o 0 = some (o + 1) := by
      have q := (c1.2.2 o (Nat.le_refl o) (by omega) 0).1
      rw [Nat.sub_self] at q
      rw [show σ1.2.2.2 o 0 = some (1 + o) from q, Nat.add_comm]
    have k0 : zKd σ1.1 (o + 1) = (19, 42) := by
      rw [c1.1, ← h1]
      exact zKd_r
    refine zStep (pkX7_init (C := zCalls G 0) (Rt := Q)) [50] 10 48 ?_
    refine at_gR (tag := 7) (k := 0) rfl (by decide) rfl zin7 lk_X7_11 (by decide +kernel) (bu_kd h1 h3 c1) r0 ?_
    refine at_len (by decide +kernel) k0 rfl rfl ?_
    refine zStep (pkX7_init (C := zCalls G 0) (Rt := Q)) [76] 10 54 ?_
    refine And.intro (fun _ => ?_) (fun c => absurd (by decide) c)
    exact at_ret (by decide +kernel) (h _ c1)
  | succ r ih =>
    intro i v σ1 ev hi c1
    subst ev
    have c1' := c1
    have l1 := bu_len h1 c1
    rw [kd7_len] at l1
    have r0 : σ1.2.2.2 o 0 = some (o + 1) := by
      have q := (c1.2.2 o (Nat.le_refl o) (by omega) 0).1
      rw [Nat.sub_self] at q
      rw [show σ1.2.2.2 o 0 = some (1 + o) from q, Nat.add_comm]
    have k0 : zKd σ1.1 (o + 1) = (19, 42) := by
      rw [c1.1, ← h1]
      exact zKd_r
    refine zStep (pkX7_init (C := zCalls G 0) (Rt := Q)) [50] 10 48 ?_
    refine at_gR (tag := 7) (k := 0) rfl (by decide) rfl zin7 lk_X7_11 (by decide +kernel) (bu_kd h1 h3 c1) r0 ?_
    refine at_len (by decide +kernel) k0 rfl rfl ?_
    refine zStep (pkX7_init (C := zCalls G 0) (Rt := Q)) [58] 10 54 ?_
    refine And.intro (fun c => absurd c (by rw [show Int32.ofNat 42 = nI 42 from rfl, nI_leI (by omega) (by omega)]; omega)) (fun _ => ?_)
    refine at_gR (tag := 7) (k := 0) rfl (by decide) rfl zin7 lk_X7_11 (by decide +kernel) (bu_kd h1 h3 c1) r0 ?_
    refine zStep (pkX7_init (C := zCalls G 0) (Rt := Q)) [62] 10 61 ?_
    refine at_new zFk_v (tag := 9) (n := 3) rfl (by decide) zin9 tyX9_ok cl_X7_9 nw_X9 ini_X9 (by decide +kernel) fs_9 (l1.trans (by rw [h1])) (by omega) (by show 4 + 3 * i + 1 ≤ 130; omega) (by show 48 + 7 * i + 3 ≤ 342; omega) ?_
    refine zStep (pkX7_init (C := zCalls G 0) (Rt := Q)) [66] 10 65 ?_
    have f1 := bu_fo (t := 9) (n := 3) h1 c1 (by rw [kd7_len]; omega)
    refine at_init hG zFk_v (k' := 3) (mc := 2) (ms := 4) ⟨by decide, by decide, by show 4 + 3 * i + 1 + 2 ≤ 130; omega, by show 48 + 7 * i + 3 + 4 ≤ 342; omega⟩ ini_X9 imX9_init rfl mk_X7_30 dyi9 (by decide +kernel) (f1.1.trans (by rw [l1, h1]; omega)) rfl ?_
    refine i_9 hG (by decide) (by rw [l1]; omega) f1 (fun σ2 hb2 => ⟨rfl, ?_⟩)
    have b2 := bu_sub h1 c1 hb2
    have k2 : zKd σ2.1 (o + 1) = (19, 42) := by
      rw [b2.1, ← h1]
      exact zKd_r
    have kv : Nat.beq (zKd σ2.1 σ1.1.length).1 9 = true := by
      rw [b2.1, ← List.append_assoc, ← c1.1, zKd_r]
      rfl
    refine at_as19 (by decide +kernel) k2 kv (vp_in_nI (by omega) (by decide)) ?_
    rw [nI_clamp (by omega)]
    have c2 := bu_putA (k := i) b2 1 (5 + 3 * i) rfl (l1.trans (by omega))
    have e7 : kd7 i ++ (9, 3) :: [(6, 2), (6, 2)] = kd7 (i + 1) := by
      show ([_, _, _, _] ++ sl3 i) ++ _ = [_, _, _, _] ++ (sl3 i ++ _)
      rw [List.append_assoc]
    rw [e7, kd7_len] at c2
    have c3 := bu_ext c2 (rel2 := rl7 (i + 1)) (fun x k hx => r7_ext (by rw [kd7_len] at hx; omega))
    refine at_hide c3 (fun σ3 c4 => ?_)
    refine zStep (pkX7_init (C := zCalls G 0) (Rt := Q)) [48] 10 70 ?_
    exact ih (i + 1) _ σ3 (by rw [nI_1]) (by omega) c4
theorem i_7 {G : zG} (hA : zAO G) (hG : zGok G) {k' : Nat} (hk : 4 ≤ k') {o : Nat} (ho : o < 500) {σ : zSt} {Q : zRt} (hf : zFo 7 o σ) (h : ∀ σ', zBu (kd7 42) (rl7 42) o σ σ' → Q none σ') : zCallK G k' 130 342 yX7_init [.ref o] σ Q := by
  have c0 := bu_0 hf
  have h1 := hf.1
  have h3 := hf.2.2.1
  refine zMethodK (k := 3) hk (by decide) (by decide +kernel) cdX7_init _ rfl (Nat.le_of_ble_eq_true rfl) ?_
  refine zStep (pkX7_init (C := zCalls G 0) (Rt := Q)) [1] 10 0 ?_
  refine at_obj ol_X7_3 (by decide +kernel) (by decide) (by decide) ?_
  refine zStep (pkX7_init (C := zCalls G 0) (Rt := Q)) [7] 10 4 ?_
  have b1 := bu_new (d := (19, 42)) h1 c0 (fun k => rfl)
  refine at_anew zFk_v (tag := 19) (t0 := 6) (N := 42) rfl (by decide) (fun s q => (hA s q).2.2) cl_X7_9 (by decide +kernel) (by decide) (by decide) (by decide) rfl (by omega) (by decide) (by decide) ?_
  refine at_pR zFk_n rfl (tag := 7) (k := 0) rfl (by decide) rfl zin7 tyX7_ok nmX7 fl_X7_11 rfl rfl rfl (fun a => ⟨rfl, rfl⟩) (by decide +kernel) (bu_kd h1 h3 b1) ?_
  refine at_hide (bu_put (k := 0) b1 1 h1) (fun σ1 c1 => ?_)
  have l1 : σ1.1.length = o + 1 + 1 := bu_len h1 c1
  refine zStep (pkX7_init (C := zCalls G 0) (Rt := Q)) [14] 10 13 ?_
  refine at_new zFk_v (tag := 6) (n := 2) rfl (by decide) zin6 tyX6_ok cl_X7_17 nw_X6 ini_X6 (by decide +kernel) fs_6 (l1.trans (by rw [h1])) (by omega) (by decide) (by decide) ?_
  refine zStep (pkX7_init (C := zCalls G 0) (Rt := Q)) [18] 10 17 ?_
  have f1 := bu_fo (t := 6) (n := 2) h1 c1 (by show o + 1 + 1 < 900000; omega)
  refine at_init hG zFk_v (k' := 2) (mc := 0) (ms := 0) (by decide) ini_X6 imX6_init rfl mk_X7_19 dyi (by decide +kernel) (f1.1.trans (by rw [l1, h1])) rfl ?_
  refine i_6 (by decide) f1 (fun τ1 hb1 => ⟨rfl, ?_⟩)
  have d1 := bu_sub h1 c1 hb1
  refine at_pR zFk_n rfl (tag := 7) (k := 1) rfl (by decide) rfl zin7 tyX7_ok nmX7 fl_X7_20 rfl rfl rfl (fun a => ⟨rfl, rfl⟩) (by decide +kernel) (bu_kd h1 h3 d1) ?_
  refine at_hide (bu_put (k := 1) d1 2 l1) (fun σ2 c2 => ?_)
  have l2 : σ2.1.length = o + 1 + 2 := bu_len h1 c2
  refine zStep (pkX7_init (C := zCalls G 0) (Rt := Q)) [25] 10 24 ?_
  refine at_new zFk_v (tag := 6) (n := 2) rfl (by decide) zin6 tyX6_ok cl_X7_17 nw_X6 ini_X6 (by decide +kernel) fs_6 (l2.trans (by rw [h1])) (by omega) (by decide) (by decide) ?_
  refine zStep (pkX7_init (C := zCalls G 0) (Rt := Q)) [29] 10 28 ?_
  have f2 := bu_fo (t := 6) (n := 2) h1 c2 (by show o + 1 + 2 < 900000; omega)
  refine at_init hG zFk_v (k' := 2) (mc := 0) (ms := 0) (by decide) ini_X6 imX6_init rfl mk_X7_19 dyi (by decide +kernel) (f2.1.trans (by rw [l2, h1])) rfl ?_
  refine i_6 (by decide) f2 (fun τ2 hb2 => ⟨rfl, ?_⟩)
  have d2 := bu_sub h1 c2 hb2
  refine at_pR zFk_n rfl (tag := 7) (k := 2) rfl (by decide) rfl zin7 tyX7_ok nmX7 fl_X7_24 rfl rfl rfl (fun a => ⟨rfl, rfl⟩) (by decide +kernel) (bu_kd h1 h3 d2) ?_
  refine at_hide (bu_put (k := 2) d2 3 l2) (fun σ3 c3 => ?_)
  have l3 : σ3.1.length = o + 1 + 3 := bu_len h1 c3
  refine zStep (pkX7_init (C := zCalls G 0) (Rt := Q)) [36] 10 35 ?_
  refine at_new zFk_v (tag := 6) (n := 2) rfl (by decide) zin6 tyX6_ok cl_X7_17 nw_X6 ini_X6 (by decide +kernel) fs_6 (l3.trans (by rw [h1])) (by omega) (by decide) (by decide) ?_
  refine zStep (pkX7_init (C := zCalls G 0) (Rt := Q)) [40] 10 39 ?_
  have f3 := bu_fo (t := 6) (n := 2) h1 c3 (by show o + 1 + 3 < 900000; omega)
  refine at_init hG zFk_v (k' := 2) (mc := 0) (ms := 0) (by decide) ini_X6 imX6_init rfl mk_X7_19 dyi (by decide +kernel) (f3.1.trans (by rw [l3, h1])) rfl ?_
  refine i_6 (by decide) f3 (fun τ3 hb3 => ⟨rfl, ?_⟩)
  have d3 := bu_sub h1 c3 hb3
  refine at_pR zFk_n rfl (tag := 7) (k := 3) rfl (by decide) rfl zin7 tyX7_ok nmX7 fl_X7_27 rfl rfl rfl (fun a => ⟨rfl, rfl⟩) (by decide +kernel) (bu_kd h1 h3 d3) ?_
  refine at_hide (bu_put (k := 3) d3 4 l3) (fun σ4 c4 => ?_)
  refine zStep (pkX7_init (C := zCalls G 0) (Rt := Q)) [48] 10 46 ?_
  refine l_7 hG ho h1 h3 h 42 0 _ σ4 rfl rfl ?_
  refine bu_ext (kd := kd7 0) c4 (fun x k hx => ?_)
  have hx : x < 1 + 4 := hx
  have e : x = 0 ∨ x = 1 ∨ x = 2 ∨ x = 3 ∨ x = 4 := by omega
  rcases e with rfl | rfl | rfl | rfl | rfl
  · match k with
    | 0 => rfl
    | 1 => rfl
    | 2 => rfl
    | 3 => rfl
    | k + 4 =>
      simp [rl7, rPut, rSub, rN]
  · rfl
  · rfl
  · rfl
  · rfl
