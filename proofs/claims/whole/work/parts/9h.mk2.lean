-- ===== the small constructors =====
def zDv : Nat → Value := fun t => match t with
  | 1 => .long 0
  | 2 => .null
  | _ => .int 0
theorem zfs_new {G : zG} {σ : zSt} {kd : Nat × Nat} {tag j : Nat} (hj : j < (zFT tag).length) : vp_V (zFs G (zNw σ kd) σ.1.length tag) j = zDv ((zFT tag).getD j 0) := by
  unfold vp_V zFs
  rw [List.getD_eq_getElem?_getD, List.getElem?_map, List.getElem?_range hj]
  show zVal G (zNw σ kd) σ.1.length ((zFT tag).getD j 0) j = _
  generalize (zFT tag).getD j 0 = ty
  match ty with
  | 0 =>
    show Value.int (va_up σ.2.1 σ.1.length (fun _ => 0) σ.1.length j) = Value.int 0
    rw [va_up_self]
  | 1 =>
    show Value.long (va_up σ.2.2.1 σ.1.length (fun _ => 0) σ.1.length j) = Value.long 0
    rw [va_up_self]
  | 2 =>
    show va_rf ((va_up σ.2.2.2 σ.1.length (fun _ => none) σ.1.length j).map (zAd G)) = Value.null
    rw [va_up_self]; rfl
  | _ + 3 =>
    show Value.int (va_up σ.2.1 σ.1.length (fun _ => 0) σ.1.length j) = Value.int 0
    rw [va_up_self]
theorem fs_6 {G : zG} {σ : zSt} {n : Nat} : ∀ j, j < 2 → defaultValue (tyX6 j) = vp_V (zFs G (zNw σ (6, n)) σ.1.length 6) j := fun j hj => by
  rw [zfs_new hj]
  match j, hj with
  | 0, _ => rfl
  | 1, _ => rfl
theorem bu_Z {kd : List (Nat × Nat)} {rel : Nat → Nat → Option Nat} {o : Nat} {σ : zSt} {K : List (Nat × Nat)} {I : Nat → Nat → Int32} {J : Nat → Nat → Int64} {P : Nat → Nat → Option Nat} {j : Nat} {v : Int32} (hk : Nat.beq (zKd K o).1 9 = true) (h : zBu kd rel o σ (K, I, J, P)) : zBu kd rel o σ (K, z_upI I o j v, J, P) := by
  obtain ⟨h1, h2, h3⟩ := h
  refine ⟨h1, fun x hx => ⟨(z_upI_ne (by omega)).trans (h2 x hx).1, (h2 x hx).2⟩, fun x a b k => ⟨(h3 x a b k).1, fun q => ?_⟩⟩
  have e := (h3 x a b k).2 q
  show z_upI I o j v x k = 0
  by_cases c : x = o
  · subst c
    exact absurd (Nat.eq_of_beq_eq_true hk) q
  · rw [z_upI_ne c]; exact e
theorem i_1 {G : zG} {k' : Nat} (hk : 2 ≤ k') {o : Nat} {σ : zSt} {Q : zRt} (hf : zFo 1 o σ) (h : ∀ σ', zBu [] rN o σ σ' → Q none σ') : zCallK G k' 0 0 yX1_init [.ref o] σ Q := by
  obtain ⟨K, I, J, P⟩ := σ
  have b0 := bu_0 hf
  obtain ⟨h1, h2, h3, h4⟩ := hf
  refine zMethodK (k := 1) hk (by decide) (by decide +kernel) cdX1_init _ rfl (Nat.le_of_ble_eq_true rfl) ?_
  refine zStep (pkX1_init (C := zCalls G 0) (Rt := Q)) [1] 10 0 ?_
  refine at_obj ol_X1_1 (by decide +kernel) (by decide) (by decide) ?_
  refine zStep (pkX1_init (C := zCalls G 0) (Rt := Q)) [9] 20 4 ?_
  refine zB_in h3 ?_
  refine at_ret (by decide +kernel) ?_
  exact h _ (bu_I b0)
theorem i_4 {G : zG} {k' : Nat} (hk : 2 ≤ k') {o : Nat} {σ : zSt} {Q : zRt} (hf : zFo 4 o σ) (h : ∀ σ', zBu [(15, 98)] (rPut rN 1 1) o σ σ' → Q none σ') : zCallK G k' 1 98 yX4_init [.ref o] σ Q := by
  obtain ⟨K, I, J, P⟩ := σ
  have b0 := bu_0 hf
  obtain ⟨h1, h2, h3, h4⟩ := hf
  refine zMethodK (k := 1) hk (by decide) (by decide +kernel) cdX4_init _ rfl (Nat.le_of_ble_eq_true rfl) ?_
  refine zStep (pkX4_init (C := zCalls G 0) (Rt := Q)) [1] 10 0 ?_
  refine at_obj ol_X4_3 (by decide +kernel) (by decide) (by decide) ?_
  refine zStep (pkX4_init (C := zCalls G 0) (Rt := Q)) [12] 20 4 ?_
  refine zB_in h3 ?_
  have b1 := bu_new (d := (15, 98)) h1 (bu_I (j := 0) b0) (fun k => rfl)
  have hL := bu_len h1 (bu_I (j := 0) b0)
  refine at_newJ zFk_v (N := 98) (by decide +kernel) (by decide) (by decide) (by decide) rfl (by rw [hL]; show o + 1 + 0 < 1000000; omega) (by decide) (by decide) ?_
  refine at_pR zFk_n rfl (tag := 4) (k := 1) rfl (by decide) rfl zin4 tyX4_ok nmX4 fl_X4_15 rfl rfl rfl (fun a => ⟨rfl, rfl⟩) (by decide +kernel) (bu_kd h1 h3 b1) ?_
  refine at_ret (by decide +kernel) ?_
  exact h _ (bu_put b1 1 (by rw [hL]; rfl))
theorem i_8 {G : zG} {k' : Nat} (hk : 2 ≤ k') {o : Nat} {σ : zSt} {Q : zRt} (hf : zFo 8 o σ) (h : ∀ σ', zBu [(14, 80)] (rPut rN 1 1) o σ σ' → Q none σ') : zCallK G k' 1 80 yX8_init [.ref o] σ Q := by
  obtain ⟨K, I, J, P⟩ := σ
  have b0 := bu_0 hf
  obtain ⟨h1, h2, h3, h4⟩ := hf
  refine zMethodK (k := 1) hk (by decide) (by decide +kernel) cdX8_init _ rfl (Nat.le_of_ble_eq_true rfl) ?_
  refine zStep (pkX8_init (C := zCalls G 0) (Rt := Q)) [1] 10 0 ?_
  refine at_obj ol_X8_3 (by decide +kernel) (by decide) (by decide) ?_
  refine zStep (pkX8_init (C := zCalls G 0) (Rt := Q)) [12] 20 4 ?_
  refine zB_in h3 ?_
  have b1 := bu_new (d := (14, 80)) h1 (bu_I (j := 0) b0) (fun k => rfl)
  have hL := bu_len h1 (bu_I (j := 0) b0)
  refine at_newI zFk_v (N := 80) (by decide +kernel) (by decide) (by decide) (by decide) rfl (by rw [hL]; show o + 1 + 0 < 1000000; omega) (by decide) (by decide) ?_
  refine at_pR zFk_n rfl (tag := 8) (k := 1) rfl (by decide) rfl zin8 tyX8_ok nmX8 fl_X8_15 rfl rfl rfl (fun a => ⟨rfl, rfl⟩) (by decide +kernel) (bu_kd h1 h3 b1) ?_
  refine at_ret (by decide +kernel) ?_
  exact h _ (bu_put b1 1 (by rw [hL]; rfl))
theorem i_10 {G : zG} {k' : Nat} (hk : 2 ≤ k') {o : Nat} {σ : zSt} {Q : zRt} (hf : zFo 10 o σ) (h : ∀ σ', zBu [(14, 49), (14, 49), (14, 98)] (rPut (rPut (rPut rN 2 1) 3 2) 4 3) o σ σ' → Q none σ') : zCallK G k' 3 196 yX10_init [.ref o] σ Q := by
  obtain ⟨K, I, J, P⟩ := σ
  have b0 := bu_0 hf
  obtain ⟨h1, h2, h3, h4⟩ := hf
  have hK : K.length = o + 1 := h1
  refine zMethodK (k := 1) hk (by decide) (by decide +kernel) cdX10_init _ rfl (Nat.le_of_ble_eq_true rfl) ?_
  refine zStep (pkX10_init (C := zCalls G 0) (Rt := Q)) [1] 10 0 ?_
  refine at_obj ol_X10_3 (by decide +kernel) (by decide) (by decide) ?_
  refine zStep (pkX10_init (C := zCalls G 0) (Rt := Q)) [17] 20 4 ?_
  refine zB_in h3 ?_
  refine zB_in h3 ?_
  have c0 := bu_I (j := 1) (bu_I (j := 0) b0)
  have b1 := bu_new (d := (14, 49)) h1 c0 (fun k => rfl)
  have l0 := bu_len h1 c0
  refine at_newI zFk_v (N := 49) (by decide +kernel) (by decide) (by decide) (by decide) rfl (by rw [l0]; show o + 1 + 0 < 1000000; omega) (by decide) (by decide) ?_
  refine at_pR zFk_n rfl (tag := 10) (k := 2) rfl (by decide) rfl zin10 tyX10_ok nmX10 fl_X10_18 rfl rfl rfl (fun a => ⟨rfl, rfl⟩) (by decide +kernel) (bu_kd h1 h3 b1) ?_
  have c1 := bu_put (k := 2) b1 1 (show K.length = o + 1 from h1)
  refine zStep (pkX10_init (C := zCalls G 0) (Rt := Q)) [25] 20 22 ?_
  have b2 := bu_new (d := (14, 49)) h1 c1 (fun k => rfl)
  have l1 := bu_len h1 c1
  refine at_newI zFk_v (N := 49) (by decide +kernel) (by decide) (by decide) (by decide) (l1.trans (by show o + 1 + 1 = K.length + 1; omega)) (by rw [l1]; show o + 1 + 1 < 1000000; omega) (by decide) (by decide) ?_
  refine at_pR zFk_n rfl (tag := 10) (k := 3) rfl (by decide) rfl zin10 tyX10_ok nmX10 fl_X10_22 rfl rfl rfl (fun a => ⟨rfl, rfl⟩) (by decide +kernel) (bu_kd h1 h3 b2) ?_
  have c2 := bu_put (k := 3) b2 2 l1
  refine zStep (pkX10_init (C := zCalls G 0) (Rt := Q)) [33] 20 30 ?_
  have b3 := bu_new (d := (14, 98)) h1 c2 (fun k => rfl)
  have l2 := bu_len h1 c2
  refine at_newI zFk_v (N := 98) (by decide +kernel) (by decide) (by decide) (by decide) (l2.trans (by show o + 1 + 2 = K.length + 2; omega)) (by rw [l2]; show o + 1 + 2 < 1000000; omega) (by decide) (by decide) ?_
  refine at_pR zFk_n rfl (tag := 10) (k := 4) rfl (by decide) rfl zin10 tyX10_ok nmX10 fl_X10_25 rfl rfl rfl (fun a => ⟨rfl, rfl⟩) (by decide +kernel) (bu_kd h1 h3 b3) ?_
  refine at_ret (by decide +kernel) ?_
  exact h _ (bu_put b3 3 l2)
theorem dyi : yX6_init.cls ≠ "java/lang/invoke/MethodHandle" ∧ yX6_init.cls ≠ "java/lang/invoke/VarHandle" ∧ (parseMethodDescriptor yX6_init.desc).map (fun d => d.parameters.length) = some 0 := by decide +kernel
theorem i_0 {G : zG} (hG : zGok G) {k' : Nat} (hk : 3 ≤ k') {o : Nat} (ho : o < 1000) {σ : zSt} {Q : zRt} (hf : zFo 0 o σ) (h : ∀ σ', zBu [(15, 15), (6, 2)] (rPut (rSub (rPut rN 0 1) 2 rN) 1 2) o σ σ' → Q none σ') : zCallK G k' 2 17 yX0_init [.ref o] σ Q := by
  obtain ⟨K, I, J, P⟩ := σ
  have b0 := bu_0 hf
  obtain ⟨h1, h2, h3, h4⟩ := hf
  have hK : K.length = o + 1 := h1
  refine zMethodK (k := 2) hk (by decide) (by decide +kernel) cdX0_init _ rfl (Nat.le_of_ble_eq_true rfl) ?_
  refine zStep (pkX0_init (C := zCalls G 0) (Rt := Q)) [1] 10 0 ?_
  refine at_obj ol_X0_3 (by decide +kernel) (by decide) (by decide) ?_
  refine zStep (pkX0_init (C := zCalls G 0) (Rt := Q)) [7] 20 4 ?_
  have b1 := bu_new (d := (15, 15)) h1 b0 (fun k => rfl)
  refine at_newJ zFk_v (N := 15) (by decide +kernel) (by decide) (by decide) (by decide) rfl (by show K.length < 1000000; have h1 : K.length = o + 1 := h1; omega) (by decide) (by decide) ?_
  refine at_pR zFk_n rfl (tag := 0) (k := 0) rfl (by decide) rfl zin0 tyX0_ok nmX0 fl_X0_9 rfl rfl rfl (fun a => ⟨rfl, rfl⟩) (by decide +kernel) (bu_kd h1 h3 b1) ?_
  have c1 := bu_put (k := 0) b1 1 (show K.length = o + 1 from h1)
  have l1 := bu_len h1 c1
  refine zStep (pkX0_init (C := zCalls G 0) (Rt := Q)) [13] 20 12 ?_
  refine at_new zFk_v (tag := 6) (n := 2) rfl (by decide) zin6 tyX6_ok cl_X0_15 nw_X6 ini_X6 (by decide +kernel) fs_6 (l1.trans (by show o + 1 + 1 = K.length + 1; have h1 : K.length = o + 1 := h1; omega)) (by rw [l1]; show o + 1 + 1 < 1000000; omega) (by decide) (by decide) ?_
  refine zStep (pkX0_init (C := zCalls G 0) (Rt := Q)) [17] 20 16 ?_
  have f1 := bu_fo (t := 6) (n := 2) h1 c1 (by show o + 1 + 1 < 900000; omega)
  refine at_init hG zFk_v (k' := 2) (mc := 0) (ms := 0) (by decide) ini_X6 imX6_init rfl mk_X0_17 dyi (by decide +kernel) (f1.1.trans (by rw [l1]; show o + 1 + 1 + 1 = K.length + 2; have h1 : K.length = o + 1 := h1; omega)) rfl ?_
  refine i_6 (by decide) f1 (fun σ2 hb2 => ⟨rfl, ?_⟩)
  have b2 := bu_sub h1 c1 hb2
  refine at_pR zFk_n rfl (tag := 0) (k := 1) rfl (by decide) rfl zin0 tyX0_ok nmX0 fl_X0_18 rfl rfl rfl (fun a => ⟨rfl, rfl⟩) (by decide +kernel) (bu_kd h1 h3 b2) ?_
  refine at_ret (by decide +kernel) ?_
  exact h _ (bu_put b2 2 l1)
theorem i_9 {G : zG} (hG : zGok G) {k' : Nat} (hk : 3 ≤ k') {o : Nat} (ho : o < 1000) {σ : zSt} {Q : zRt} (hf : zFo 9 o σ) (h : ∀ σ', zBu [(6, 2), (6, 2)] (rPut (rSub (rPut (rSub rN 1 (fun _ _ => none)) 1 1) 2 (fun _ _ => none)) 2 2) o σ σ' → Q none σ') : zCallK G k' 2 4 yX9_init [.ref o] σ Q := by
  obtain ⟨K, I, J, P⟩ := σ
  have b0 := bu_0 hf
  obtain ⟨h1, h2, h3, h4⟩ := hf
  have hK : K.length = o + 1 := h1
  refine zMethodK (k := 2) hk (by decide) (by decide +kernel) cdX9_init _ rfl (Nat.le_of_ble_eq_true rfl) ?_
  refine zStep (pkX9_init (C := zCalls G 0) (Rt := Q)) [1] 10 0 ?_
  refine at_obj ol_X9_3 (by decide +kernel) (by decide) (by decide) ?_
  refine zStep (pkX9_init (C := zCalls G 0) (Rt := Q)) [10] 20 4 ?_
  refine zB_in h3 (And.intro (Or.inr rfl) ?_)
  have c1 := bu_Z (j := 0) (v := 1) h3 b0
  have l1 := bu_len h1 c1
  refine at_new zFk_v (tag := 6) (n := 2) rfl (by decide) zin6 tyX6_ok cl_X9_15 nw_X6 ini_X6 (by decide +kernel) fs_6 rfl (by rw [l1]; show o + 1 + 0 < 1000000; omega) (by decide) (by decide) ?_
  refine zStep (pkX9_init (C := zCalls G 0) (Rt := Q)) [14] 20 13 ?_
  have f1 := bu_fo (t := 6) (n := 2) h1 c1 (by show o + 1 + 0 < 900000; omega)
  refine at_init hG zFk_v (k' := 2) (mc := 0) (ms := 0) (by decide) ini_X6 imX6_init rfl mk_X9_17 dyi (by decide +kernel) (f1.1.trans rfl) rfl ?_
  refine i_6 (by decide) f1 (fun σ2 hb2 => ⟨rfl, ?_⟩)
  have b2 := bu_sub h1 c1 hb2
  refine at_pR zFk_n rfl (tag := 9) (k := 1) rfl (by decide) rfl zin9 tyX9_ok nmX9 fl_X9_18 rfl rfl rfl (fun a => ⟨rfl, rfl⟩) (by decide +kernel) (bu_kd h1 h3 b2) ?_
  have c2 := bu_put (k := 1) b2 1 l1
  have l2 := bu_len h1 c2
  refine zStep (pkX9_init (C := zCalls G 0) (Rt := Q)) [21] 20 20 ?_
  refine at_new zFk_v (tag := 6) (n := 2) rfl (by decide) zin6 tyX6_ok cl_X9_15 nw_X6 ini_X6 (by decide +kernel) fs_6 (l2.trans (by show o + 1 + 1 = K.length + 1; omega)) (by rw [l2]; show o + 1 + 1 < 1000000; omega) (by decide) (by decide) ?_
  refine zStep (pkX9_init (C := zCalls G 0) (Rt := Q)) [25] 20 24 ?_
  have f2 := bu_fo (t := 6) (n := 2) h1 c2 (by show o + 1 + 1 < 900000; omega)
  refine at_init hG zFk_v (k' := 2) (mc := 0) (ms := 0) (by decide) ini_X6 imX6_init rfl mk_X9_17 dyi (by decide +kernel) (f2.1.trans (by rw [l2]; show o + 1 + 1 + 1 = K.length + 2; omega)) rfl ?_
  refine i_6 (by decide) f2 (fun σ3 hb3 => ⟨rfl, ?_⟩)
  have b3 := bu_sub h1 c2 hb3
  refine at_pR zFk_n rfl (tag := 9) (k := 2) rfl (by decide) rfl zin9 tyX9_ok nmX9 fl_X9_22 rfl rfl rfl (fun a => ⟨rfl, rfl⟩) (by decide +kernel) (bu_kd h1 h3 b3) ?_
  refine at_ret (by decide +kernel) ?_
  exact h _ (bu_put b3 2 l2)
theorem i_3 {G : zG} (hG : zGok G) {k' : Nat} (hk : 3 ≤ k') {o : Nat} (ho : o < 1000) {σ : zSt} {Q : zRt} (hf : zFo 3 o σ) (h : ∀ σ', zBu [(6, 2), (6, 2)] (rPut (rSub (rPut (rSub rN 1 (fun _ _ => none)) 3 1) 2 (fun _ _ => none)) 4 2) o σ σ' → Q none σ') : zCallK G k' 2 4 yX3_init [.ref o] σ Q := by
  obtain ⟨K, I, J, P⟩ := σ
  have b0 := bu_0 hf
  obtain ⟨h1, h2, h3, h4⟩ := hf
  have hK : K.length = o + 1 := h1
  refine zMethodK (k := 2) hk (by decide) (by decide +kernel) cdX3_init _ rfl (Nat.le_of_ble_eq_true rfl) ?_
  refine zStep (pkX3_init (C := zCalls G 0) (Rt := Q)) [1] 10 0 ?_
  refine at_obj ol_X3_3 (by decide +kernel) (by decide) (by decide) ?_
  refine zStep (pkX3_init (C := zCalls G 0) (Rt := Q)) [20] 20 4 ?_
  refine zB_in h3 ?_
  refine zB_in h3 ?_
  refine zB_in h3 (And.intro (Or.inl rfl) ?_)
  have c1 := bu_I (j := 2) (bu_I (j := 1) (bu_I (j := 0) b0))
  have l1 := bu_len h1 c1
  refine at_new zFk_v (tag := 6) (n := 2) rfl (by decide) zin6 tyX6_ok cl_X3_22 nw_X6 ini_X6 (by decide +kernel) fs_6 rfl (by rw [l1]; show o + 1 + 0 < 1000000; omega) (by decide) (by decide) ?_
  refine zStep (pkX3_init (C := zCalls G 0) (Rt := Q)) [24] 20 23 ?_
  have f1 := bu_fo (t := 6) (n := 2) h1 c1 (by show o + 1 + 0 < 900000; omega)
  refine at_init hG zFk_v (k' := 2) (mc := 0) (ms := 0) (by decide) ini_X6 imX6_init rfl mk_X3_24 dyi (by decide +kernel) (f1.1.trans rfl) rfl ?_
  refine i_6 (by decide) f1 (fun σ2 hb2 => ⟨rfl, ?_⟩)
  have b2 := bu_sub h1 c1 hb2
  refine at_pR zFk_n rfl (tag := 3) (k := 3) rfl (by decide) rfl zin3 tyX3_ok nmX3 fl_X3_25 rfl rfl rfl (fun a => ⟨rfl, rfl⟩) (by decide +kernel) (bu_kd h1 h3 b2) ?_
  have c2 := bu_put (k := 3) b2 1 l1
  have l2 := bu_len h1 c2
  refine zStep (pkX3_init (C := zCalls G 0) (Rt := Q)) [31] 20 30 ?_
  refine at_new zFk_v (tag := 6) (n := 2) rfl (by decide) zin6 tyX6_ok cl_X3_22 nw_X6 ini_X6 (by decide +kernel) fs_6 (l2.trans (by show o + 1 + 1 = K.length + 1; omega)) (by rw [l2]; show o + 1 + 1 < 1000000; omega) (by decide) (by decide) ?_
  refine zStep (pkX3_init (C := zCalls G 0) (Rt := Q)) [35] 20 34 ?_
  have f2 := bu_fo (t := 6) (n := 2) h1 c2 (by show o + 1 + 1 < 900000; omega)
  refine at_init hG zFk_v (k' := 2) (mc := 0) (ms := 0) (by decide) ini_X6 imX6_init rfl mk_X3_24 dyi (by decide +kernel) (f2.1.trans (by rw [l2]; show o + 1 + 1 + 1 = K.length + 2; omega)) rfl ?_
  refine i_6 (by decide) f2 (fun σ3 hb3 => ⟨rfl, ?_⟩)
  have b3 := bu_sub h1 c2 hb3
  refine at_pR zFk_n rfl (tag := 3) (k := 4) rfl (by decide) rfl zin3 tyX3_ok nmX3 fl_X3_29 rfl rfl rfl (fun a => ⟨rfl, rfl⟩) (by decide +kernel) (bu_kd h1 h3 b3) ?_
  refine at_ret (by decide +kernel) ?_
  exact h _ (bu_put b3 2 l2)
