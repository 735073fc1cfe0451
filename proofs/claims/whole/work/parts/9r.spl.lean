-- ===== the constructor of SplitSlices =====
theorem fs_0 {G : zG} {σ : zSt} {n : Nat} : ∀ j, j < 2 → defaultValue (tyX0 j) = vp_V (zFs G (zNw σ (0, n)) σ.1.length 0) j := fun j hj => by
  rw [zfs_new hj]
  match j, hj with
  | 0, _ => rfl
  | 1, _ => rfl
theorem fs_1 {G : zG} {σ : zSt} {n : Nat} : ∀ j, j < 1 → defaultValue (tyX1 j) = vp_V (zFs G (zNw σ (1, n)) σ.1.length 1) j := fun j hj => by
  rw [zfs_new hj]
  match j, hj with
  | 0, _ => rfl
theorem fs_2 {G : zG} {σ : zSt} {n : Nat} : ∀ j, j < 2 → defaultValue (tyX2 j) = vp_V (zFs G (zNw σ (2, n)) σ.1.length 2) j := fun j hj => by
  rw [zfs_new hj]
  match j, hj with
  | 0, _ => rfl
  | 1, _ => rfl
theorem fs_3 {G : zG} {σ : zSt} {n : Nat} : ∀ j, j < 5 → defaultValue (tyX3 j) = vp_V (zFs G (zNw σ (3, n)) σ.1.length 3) j := fun j hj => by
  rw [zfs_new hj]
  match j, hj with
  | 0, _ => rfl
  | 1, _ => rfl
  | 2, _ => rfl
  | 3, _ => rfl
  | 4, _ => rfl
theorem fs_4 {G : zG} {σ : zSt} {n : Nat} : ∀ j, j < 2 → defaultValue (tyX4 j) = vp_V (zFs G (zNw σ (4, n)) σ.1.length 4) j := fun j hj => by
  rw [zfs_new hj]
  match j, hj with
  | 0, _ => rfl
  | 1, _ => rfl
theorem fs_7 {G : zG} {σ : zSt} {n : Nat} : ∀ j, j < 4 → defaultValue (tyX7 j) = vp_V (zFs G (zNw σ (7, n)) σ.1.length 7) j := fun j hj => by
  rw [zfs_new hj]
  match j, hj with
  | 0, _ => rfl
  | 1, _ => rfl
  | 2, _ => rfl
  | 3, _ => rfl
theorem fs_8 {G : zG} {σ : zSt} {n : Nat} : ∀ j, j < 2 → defaultValue (tyX8 j) = vp_V (zFs G (zNw σ (8, n)) σ.1.length 8) j := fun j hj => by
  rw [zfs_new hj]
  match j, hj with
  | 0, _ => rfl
  | 1, _ => rfl
theorem fs_10 {G : zG} {σ : zSt} {n : Nat} : ∀ j, j < 5 → defaultValue (tyX10 j) = vp_V (zFs G (zNw σ (10, n)) σ.1.length 10) j := fun j hj => by
  rw [zfs_new hj]
  match j, hj with
  | 0, _ => rfl
  | 1, _ => rfl
  | 2, _ => rfl
  | 3, _ => rfl
  | 4, _ => rfl
theorem dyi0 : yX0_init.cls ≠ "java/lang/invoke/MethodHandle" ∧ yX0_init.cls ≠ "java/lang/invoke/VarHandle" ∧ (parseMethodDescriptor yX0_init.desc).map (fun d => d.parameters.length) = some 0 := by decide +kernel
theorem dyi1 : yX1_init.cls ≠ "java/lang/invoke/MethodHandle" ∧ yX1_init.cls ≠ "java/lang/invoke/VarHandle" ∧ (parseMethodDescriptor yX1_init.desc).map (fun d => d.parameters.length) = some 0 := by decide +kernel
theorem dyi2 : yX2_init.cls ≠ "java/lang/invoke/MethodHandle" ∧ yX2_init.cls ≠ "java/lang/invoke/VarHandle" ∧ (parseMethodDescriptor yX2_init.desc).map (fun d => d.parameters.length) = some 0 := by decide +kernel
theorem dyi3 : yX3_init.cls ≠ "java/lang/invoke/MethodHandle" ∧ yX3_init.cls ≠ "java/lang/invoke/VarHandle" ∧ (parseMethodDescriptor yX3_init.desc).map (fun d => d.parameters.length) = some 0 := by decide +kernel
theorem dyi4 : yX4_init.cls ≠ "java/lang/invoke/MethodHandle" ∧ yX4_init.cls ≠ "java/lang/invoke/VarHandle" ∧ (parseMethodDescriptor yX4_init.desc).map (fun d => d.parameters.length) = some 0 := by decide +kernel
theorem dyi7 : yX7_init.cls ≠ "java/lang/invoke/MethodHandle" ∧ yX7_init.cls ≠ "java/lang/invoke/VarHandle" ∧ (parseMethodDescriptor yX7_init.desc).map (fun d => d.parameters.length) = some 0 := by decide +kernel
theorem dyi8 : yX8_init.cls ≠ "java/lang/invoke/MethodHandle" ∧ yX8_init.cls ≠ "java/lang/invoke/VarHandle" ∧ (parseMethodDescriptor yX8_init.desc).map (fun d => d.parameters.length) = some 0 := by decide +kernel
theorem dyi10 : yX10_init.cls ≠ "java/lang/invoke/MethodHandle" ∧ yX10_init.cls ≠ "java/lang/invoke/VarHandle" ∧ (parseMethodDescriptor yX10_init.desc).map (fun d => d.parameters.length) = some 0 := by decide +kernel
theorem zKd_app {L : List (Nat × Nat)} {j : Nat} : ∀ {K : List (Nat × Nat)}, zKd (K ++ L) (K.length + j) = zKd L j
  | [] => by rw [show ([] : List (Nat × Nat)).length + j = j from Nat.zero_add j]; rfl
  | _ :: K => by
    rw [show (_ :: K : List (Nat × Nat)).length + j = (K.length + j) + 1 by rw [List.length_cons]; omega]
    exact zKd_app (K := K)
/-- nothing leads on from behind the end -/
def zOut (kd : List (Nat × Nat)) (rel : Nat → Nat → Option Nat) : Prop := ∀ x k, kd.length + 1 ≤ x → rel x k = none
theorem out_put {kd : List (Nat × Nat)} {rel : Nat → Nat → Option Nat} {i j : Nat} (h : zOut kd rel) : zOut kd (rPut rel i j) := fun x k hx => by
  unfold rPut
  rw [if_neg (by omega)]
  exact h x k hx
theorem out_new {kd : List (Nat × Nat)} {rel : Nat → Nat → Option Nat} {d : Nat × Nat} (h : zOut kd rel) : zOut (kd ++ [d]) rel := fun x k hx => by
  rw [List.length_append] at hx
  exact h x k (by omega)
theorem out_sub {kd kd2 : List (Nat × Nat)} {rel rel2 : Nat → Nat → Option Nat} {d : Nat × Nat} (h2 : zOut kd2 rel2) : zOut (kd ++ d :: kd2) (rSub rel (kd.length + 1) rel2) := fun x k hx => by
  rw [List.length_append, List.length_cons] at hx
  unfold rSub
  rw [if_neg (by omega), h2 _ _ (by omega)]
  rfl
theorem out_N {kd : List (Nat × Nat)} : zOut kd rN := fun _ _ _ => rfl
theorem out_f {kd : List (Nat × Nat)} : zOut kd (fun _ _ => none) := fun _ _ _ => rfl
theorem out_5 : zOut kd5 rl5 := fun x k hx => by
  have hx : 11 ≤ x := hx
  unfold rl5
  rw [if_neg (by omega), if_neg (by omega)]
theorem out_2 : zOut (kd2 9) (rl2 9) := fun x k hx => by
  rw [kd2_len] at hx
  unfold rl2
  rw [if_neg (by omega), if_neg (by omega), if_pos (by omega)]
theorem out_7 : zOut (kd7 42) (rl7 42) := fun x k hx => by
  rw [kd7_len] at hx
  unfold rl7
  rw [if_neg (by omega), if_neg (by omega), if_neg (by omega), if_pos (by omega)]
theorem s11_0 {G : zG} (h5 : zI5 G) (hA : zAO G) (hG : zGok G) {Q : zRt} {o : Nat} (ho : o < 100) {σ : zSt} (h1 : σ.1.length = o + 1) (h3 : Nat.beq (zKd σ.1 o).1 11 = true) {kd : List (Nat × Nat)} {rel : Nat → Nat → Option Nat} {σ1 : zSt} (c : zBu kd rel o σ σ1) (hn : kd.length = 0) (kk : ∀ σ2, zBu (kd ++ (5, 4) :: kd5) (rPut (rSub rel (kd.length + 1) rl5) 0 1) o σ σ2 → zAt G (zRk 4 304 2756) RX11 cX11_init 2 none (zFk G yX11_init σ.1.length Q 304 2756) 11 150 15 [some (.ref o), none] [] σ2) : zAt G (zRk 4 304 2756) RX11 cX11_init 2 none (zFk G yX11_init σ.1.length Q 304 2756) 0 0 4 [some (.ref o), none] [] σ1 := by
  have l : σ1.1.length = o + 1 + 0 := (bu_len h1 c).trans (by rw [hn])
  refine zStep (pkX11_init (C := zCalls G 0) (Rt := Q)) [5] 20 4 ?_
  refine at_new zFk_v (tag := 5) (n := 4) rfl (by decide) zin5 tyX5_ok cl_X11_7 nw_X5 ini_X5 (by decide +kernel) fs_5 (l.trans (by rw [h1])) (by omega) (by decide) (by decide) ?_
  refine zStep (pkX11_init (C := zCalls G 0) (Rt := Q)) [9] 20 8 ?_
  have f := bu_fo (t := 5) (n := 4) h1 c (by rw [hn]; omega)
  refine at_init hG zFk_v (k' := 2) (mc := 10) (ms := 146) (by decide) ini_X5 imX5_init rfl mk_X11_9 dyi5 (by decide +kernel) (f.1.trans (by rw [l, h1])) rfl ?_
  refine h5 2 _ _ _ (by decide) (by omega) f (fun τ hb => ⟨rfl, ?_⟩)
  have b := bu_sub h1 c hb
  refine at_pR zFk_n rfl (tag := 11) (k := 0) rfl (by decide) rfl zin11 tyX11_ok nmX11 fl_X11_10 rfl rfl rfl (fun a => ⟨rfl, rfl⟩) (by decide +kernel) (bu_kd h1 h3 b) ?_
  exact kk _ (bu_put (k := 0) b 1 (l.trans (by omega)))
theorem s11_1 {G : zG} (h5 : zI5 G) (hA : zAO G) (hG : zGok G) {Q : zRt} {o : Nat} (ho : o < 100) {σ : zSt} (h1 : σ.1.length = o + 1) (h3 : Nat.beq (zKd σ.1 o).1 11 = true) {kd : List (Nat × Nat)} {rel : Nat → Nat → Option Nat} {σ1 : zSt} (c : zBu kd rel o σ σ1) (hn : kd.length = 11) (kk : ∀ σ2, zBu (kd ++ (5, 4) :: kd5) (rPut (rSub rel (kd.length + 1) rl5) 1 12) o σ σ2 → zAt G (zRk 4 304 2756) RX11 cX11_init 2 none (zFk G yX11_init σ.1.length Q 304 2756) 22 300 26 [some (.ref o), none] [] σ2) : zAt G (zRk 4 304 2756) RX11 cX11_init 2 none (zFk G yX11_init σ.1.length Q 304 2756) 11 150 15 [some (.ref o), none] [] σ1 := by
  have l : σ1.1.length = o + 1 + 11 := (bu_len h1 c).trans (by rw [hn])
  refine zStep (pkX11_init (C := zCalls G 0) (Rt := Q)) [16] 20 15 ?_
  refine at_new zFk_v (tag := 5) (n := 4) rfl (by decide) zin5 tyX5_ok cl_X11_7 nw_X5 ini_X5 (by decide +kernel) fs_5 (l.trans (by rw [h1])) (by omega) (by decide) (by decide) ?_
  refine zStep (pkX11_init (C := zCalls G 0) (Rt := Q)) [20] 20 19 ?_
  have f := bu_fo (t := 5) (n := 4) h1 c (by rw [hn]; omega)
  refine at_init hG zFk_v (k' := 2) (mc := 10) (ms := 146) (by decide) ini_X5 imX5_init rfl mk_X11_9 dyi5 (by decide +kernel) (f.1.trans (by rw [l, h1])) rfl ?_
  refine h5 2 _ _ _ (by decide) (by omega) f (fun τ hb => ⟨rfl, ?_⟩)
  have b := bu_sub h1 c hb
  refine at_pR zFk_n rfl (tag := 11) (k := 1) rfl (by decide) rfl zin11 tyX11_ok nmX11 fl_X11_16 rfl rfl rfl (fun a => ⟨rfl, rfl⟩) (by decide +kernel) (bu_kd h1 h3 b) ?_
  exact kk _ (bu_put (k := 1) b 12 (l.trans (by omega)))
theorem s11_2 {G : zG} (h5 : zI5 G) (hA : zAO G) (hG : zGok G) {Q : zRt} {o : Nat} (ho : o < 100) {σ : zSt} (h1 : σ.1.length = o + 1) (h3 : Nat.beq (zKd σ.1 o).1 11 = true) {kd : List (Nat × Nat)} {rel : Nat → Nat → Option Nat} {σ1 : zSt} (c : zBu kd rel o σ σ1) (hn : kd.length = 22) (hr : zOut kd rel) (kk : ∀ σ2, zBu (kd ++ [(18, 2)]) (rPut rel 2 23) o σ σ2 → zAt G (zRk 4 304 2756) RX11 cX11_init 2 none (zFk G yX11_init σ.1.length Q 304 2756) 23 302 34 [some (.ref o), none] [] σ2) : zAt G (zRk 4 304 2756) RX11 cX11_init 2 none (zFk G yX11_init σ.1.length Q 304 2756) 22 300 26 [some (.ref o), none] [] σ1 := by
  have l : σ1.1.length = o + 1 + 22 := (bu_len h1 c).trans (by rw [hn])
  refine zStep (pkX11_init (C := zCalls G 0) (Rt := Q)) [28] 20 26 ?_
  have b := bu_new (d := (18, 2)) h1 c (fun k => hr _ k (Nat.le_refl _))
  refine at_anew zFk_v (tag := 18) (t0 := 5) (N := 2) rfl (by decide) (fun s q => (hA s q).2.1) cl_X11_7 (by decide +kernel) (by decide) (by decide) (by decide) (l.trans (by rw [h1])) (by omega) (by decide) (by decide) ?_
  refine at_pR zFk_n rfl (tag := 11) (k := 2) rfl (by decide) rfl zin11 tyX11_ok nmX11 fl_X11_19 rfl rfl rfl (fun a => ⟨rfl, rfl⟩) (by decide +kernel) (bu_kd h1 h3 b) ?_
  exact kk _ (bu_put (k := 2) b 23 (l.trans (by omega)))
theorem s11_3 {G : zG} (h5 : zI5 G) (hA : zAO G) (hG : zGok G) {Q : zRt} {o : Nat} (ho : o < 100) {σ : zSt} (h1 : σ.1.length = o + 1) (h3 : Nat.beq (zKd σ.1 o).1 11 = true) {kd : List (Nat × Nat)} {rel : Nat → Nat → Option Nat} {σ1 : zSt} (c : zBu kd rel o σ σ1) (hn : kd.length = 23) (hr : zOut kd rel) (kk : ∀ σ2, zBu (kd ++ [(16, 2)]) (rPut rel 3 24) o σ σ2 → zAt G (zRk 4 304 2756) RX11 cX11_init 2 none (zFk G yX11_init σ.1.length Q 304 2756) 24 304 41 [some (.ref o), none] [] σ2) : zAt G (zRk 4 304 2756) RX11 cX11_init 2 none (zFk G yX11_init σ.1.length Q 304 2756) 23 302 34 [some (.ref o), none] [] σ1 := by
  have l : σ1.1.length = o + 1 + 23 := (bu_len h1 c).trans (by rw [hn])
  refine zStep (pkX11_init (C := zCalls G 0) (Rt := Q)) [36] 20 34 ?_
  have b := bu_new (d := (16, 2)) h1 c (fun k => hr _ k (Nat.le_refl _))
  refine at_newZ zFk_v (N := 2) (by decide +kernel) (by decide) (by decide) (by decide) (l.trans (by rw [h1])) (by omega) (by decide) (by decide) ?_
  refine at_pR zFk_n rfl (tag := 11) (k := 3) rfl (by decide) rfl zin11 tyX11_ok nmX11 fl_X11_23 rfl rfl rfl (fun a => ⟨rfl, rfl⟩) (by decide +kernel) (bu_kd h1 h3 b) ?_
  exact kk _ (bu_put (k := 3) b 24 (l.trans (by omega)))
theorem s11_4 {G : zG} (h5 : zI5 G) (hA : zAO G) (hG : zGok G) {Q : zRt} {o : Nat} (ho : o < 100) {σ : zSt} (h1 : σ.1.length = o + 1) (h3 : Nat.beq (zKd σ.1 o).1 11 = true) {kd : List (Nat × Nat)} {rel : Nat → Nat → Option Nat} {σ1 : zSt} (c : zBu kd rel o σ σ1) (hn : kd.length = 24) (kk : ∀ σ2, zBu (kd ++ (2, 2) :: kd2 9) (rPut (rSub rel (kd.length + 1) (rl2 9)) 4 25) o σ σ2 → zAt G (zRk 4 304 2756) RX11 cX11_init 2 none (zFk G yX11_init σ.1.length Q 304 2756) 125 1665 52 [some (.ref o), none] [] σ2) : zAt G (zRk 4 304 2756) RX11 cX11_init 2 none (zFk G yX11_init σ.1.length Q 304 2756) 24 304 41 [some (.ref o), none] [] σ1 := by
  have l : σ1.1.length = o + 1 + 24 := (bu_len h1 c).trans (by rw [hn])
  refine zStep (pkX11_init (C := zCalls G 0) (Rt := Q)) [42] 20 41 ?_
  refine at_new zFk_v (tag := 2) (n := 2) rfl (by decide) zin2 tyX2_ok cl_X11_27 nw_X2 ini_X2 (by decide +kernel) fs_2 (l.trans (by rw [h1])) (by omega) (by decide) (by decide) ?_
  refine zStep (pkX11_init (C := zCalls G 0) (Rt := Q)) [46] 20 45 ?_
  have f := bu_fo (t := 2) (n := 2) h1 c (by rw [hn]; omega)
  refine at_init hG zFk_v (k' := 3) (mc := 100) (ms := 1359) (by decide) ini_X2 imX2_init rfl mk_X11_29 dyi2 (by decide +kernel) (f.1.trans (by rw [l, h1])) rfl ?_
  refine i_2 h5 hA hG (by decide) (by omega) f (fun τ hb => ⟨rfl, ?_⟩)
  have b := bu_sub h1 c hb
  refine at_pR zFk_n rfl (tag := 11) (k := 4) rfl (by decide) rfl zin11 tyX11_ok nmX11 fl_X11_30 rfl rfl rfl (fun a => ⟨rfl, rfl⟩) (by decide +kernel) (bu_kd h1 h3 b) ?_
  exact kk _ (bu_put (k := 4) b 25 (l.trans (by omega)))
theorem s11_5 {G : zG} (h5 : zI5 G) (hA : zAO G) (hG : zGok G) {Q : zRt} {o : Nat} (ho : o < 100) {σ : zSt} (h1 : σ.1.length = o + 1) (h3 : Nat.beq (zKd σ.1 o).1 11 = true) {kd : List (Nat × Nat)} {rel : Nat → Nat → Option Nat} {σ1 : zSt} (c : zBu kd rel o σ σ1) (hn : kd.length = 125) (kk : ∀ σ2, zBu (kd ++ (8, 2) :: [(14, 80)]) (rPut (rSub rel (kd.length + 1) (rPut rN 1 1)) 5 126) o σ σ2 → zAt G (zRk 4 304 2756) RX11 cX11_init 2 none (zFk G yX11_init σ.1.length Q 304 2756) 127 1747 63 [some (.ref o), none] [] σ2) : zAt G (zRk 4 304 2756) RX11 cX11_init 2 none (zFk G yX11_init σ.1.length Q 304 2756) 125 1665 52 [some (.ref o), none] [] σ1 := by
  have l : σ1.1.length = o + 1 + 125 := (bu_len h1 c).trans (by rw [hn])
  refine zStep (pkX11_init (C := zCalls G 0) (Rt := Q)) [53] 20 52 ?_
  refine at_new zFk_v (tag := 8) (n := 2) rfl (by decide) zin8 tyX8_ok cl_X11_34 nw_X8 ini_X8 (by decide +kernel) fs_8 (l.trans (by rw [h1])) (by omega) (by decide) (by decide) ?_
  refine zStep (pkX11_init (C := zCalls G 0) (Rt := Q)) [57] 20 56 ?_
  have f := bu_fo (t := 8) (n := 2) h1 c (by rw [hn]; omega)
  refine at_init hG zFk_v (k' := 2) (mc := 1) (ms := 80) (by decide) ini_X8 imX8_init rfl mk_X11_36 dyi8 (by decide +kernel) (f.1.trans (by rw [l, h1])) rfl ?_
  refine i_8 (by decide) f (fun τ hb => ⟨rfl, ?_⟩)
  have b := bu_sub h1 c hb
  refine at_pR zFk_n rfl (tag := 11) (k := 5) rfl (by decide) rfl zin11 tyX11_ok nmX11 fl_X11_37 rfl rfl rfl (fun a => ⟨rfl, rfl⟩) (by decide +kernel) (bu_kd h1 h3 b) ?_
  exact kk _ (bu_put (k := 5) b 126 (l.trans (by omega)))
theorem s11_6 {G : zG} (h5 : zI5 G) (hA : zAO G) (hG : zGok G) {Q : zRt} {o : Nat} (ho : o < 100) {σ : zSt} (h1 : σ.1.length = o + 1) (h3 : Nat.beq (zKd σ.1 o).1 11 = true) {kd : List (Nat × Nat)} {rel : Nat → Nat → Option Nat} {σ1 : zSt} (c : zBu kd rel o σ σ1) (hn : kd.length = 127) (kk : ∀ σ2, zBu (kd ++ (4, 2) :: [(15, 98)]) (rPut (rSub rel (kd.length + 1) (rPut rN 1 1)) 6 128) o σ σ2 → zAt G (zRk 4 304 2756) RX11 cX11_init 2 none (zFk G yX11_init σ.1.length Q 304 2756) 129 1847 74 [some (.ref o), none] [] σ2) : zAt G (zRk 4 304 2756) RX11 cX11_init 2 none (zFk G yX11_init σ.1.length Q 304 2756) 127 1747 63 [some (.ref o), none] [] σ1 := by
  have l : σ1.1.length = o + 1 + 127 := (bu_len h1 c).trans (by rw [hn])
  refine zStep (pkX11_init (C := zCalls G 0) (Rt := Q)) [64] 20 63 ?_
  refine at_new zFk_v (tag := 4) (n := 2) rfl (by decide) zin4 tyX4_ok cl_X11_41 nw_X4 ini_X4 (by decide +kernel) fs_4 (l.trans (by rw [h1])) (by omega) (by decide) (by decide) ?_
  refine zStep (pkX11_init (C := zCalls G 0) (Rt := Q)) [68] 20 67 ?_
  have f := bu_fo (t := 4) (n := 2) h1 c (by rw [hn]; omega)
  refine at_init hG zFk_v (k' := 2) (mc := 1) (ms := 98) (by decide) ini_X4 imX4_init rfl mk_X11_43 dyi4 (by decide +kernel) (f.1.trans (by rw [l, h1])) rfl ?_
  refine i_4 (by decide) f (fun τ hb => ⟨rfl, ?_⟩)
  have b := bu_sub h1 c hb
  refine at_pR zFk_n rfl (tag := 11) (k := 6) rfl (by decide) rfl zin11 tyX11_ok nmX11 fl_X11_44 rfl rfl rfl (fun a => ⟨rfl, rfl⟩) (by decide +kernel) (bu_kd h1 h3 b) ?_
  exact kk _ (bu_put (k := 6) b 128 (l.trans (by omega)))
theorem s11_7 {G : zG} (h5 : zI5 G) (hA : zAO G) (hG : zGok G) {Q : zRt} {o : Nat} (ho : o < 100) {σ : zSt} (h1 : σ.1.length = o + 1) (h3 : Nat.beq (zKd σ.1 o).1 11 = true) {kd : List (Nat × Nat)} {rel : Nat → Nat → Option Nat} {σ1 : zSt} (c : zBu kd rel o σ σ1) (hn : kd.length = 129) (kk : ∀ σ2, zBu (kd ++ (7, 4) :: kd7 42) (rPut (rSub rel (kd.length + 1) (rl7 42)) 7 130) o σ σ2 → zAt G (zRk 4 304 2756) RX11 cX11_init 2 none (zFk G yX11_init σ.1.length Q 304 2756) 260 2193 85 [some (.ref o), none] [] σ2) : zAt G (zRk 4 304 2756) RX11 cX11_init 2 none (zFk G yX11_init σ.1.length Q 304 2756) 129 1847 74 [some (.ref o), none] [] σ1 := by
  have l : σ1.1.length = o + 1 + 129 := (bu_len h1 c).trans (by rw [hn])
  refine zStep (pkX11_init (C := zCalls G 0) (Rt := Q)) [75] 20 74 ?_
  refine at_new zFk_v (tag := 7) (n := 4) rfl (by decide) zin7 tyX7_ok cl_X11_48 nw_X7 ini_X7 (by decide +kernel) fs_7 (l.trans (by rw [h1])) (by omega) (by decide) (by decide) ?_
  refine zStep (pkX11_init (C := zCalls G 0) (Rt := Q)) [79] 20 78 ?_
  have f := bu_fo (t := 7) (n := 4) h1 c (by rw [hn]; omega)
  refine at_init hG zFk_v (k' := 4) (mc := 130) (ms := 342) (by decide) ini_X7 imX7_init rfl mk_X11_50 dyi7 (by decide +kernel) (f.1.trans (by rw [l, h1])) rfl ?_
  refine i_7 hA hG (by decide) (by omega) f (fun τ hb => ⟨rfl, ?_⟩)
  have b := bu_sub h1 c hb
  refine at_pR zFk_n rfl (tag := 11) (k := 7) rfl (by decide) rfl zin11 tyX11_ok nmX11 fl_X11_51 rfl rfl rfl (fun a => ⟨rfl, rfl⟩) (by decide +kernel) (bu_kd h1 h3 b) ?_
  exact kk _ (bu_put (k := 7) b 130 (l.trans (by omega)))
theorem s11_8 {G : zG} (h5 : zI5 G) (hA : zAO G) (hG : zGok G) {Q : zRt} {o : Nat} (ho : o < 100) {σ : zSt} (h1 : σ.1.length = o + 1) (h3 : Nat.beq (zKd σ.1 o).1 11 = true) {kd : List (Nat × Nat)} {rel : Nat → Nat → Option Nat} {σ1 : zSt} (c : zBu kd rel o σ σ1) (hn : kd.length = 260) (kk : ∀ σ2, zBu (kd ++ (0, 2) :: [(15, 15), (6, 2)]) (rPut (rSub rel (kd.length + 1) (rPut (rSub (rPut rN 0 1) 2 rN) 1 2)) 8 261) o σ σ2 → zAt G (zRk 4 304 2756) RX11 cX11_init 2 none (zFk G yX11_init σ.1.length Q 304 2756) 263 2212 96 [some (.ref o), none] [] σ2) : zAt G (zRk 4 304 2756) RX11 cX11_init 2 none (zFk G yX11_init σ.1.length Q 304 2756) 260 2193 85 [some (.ref o), none] [] σ1 := by
  have l : σ1.1.length = o + 1 + 260 := (bu_len h1 c).trans (by rw [hn])
  refine zStep (pkX11_init (C := zCalls G 0) (Rt := Q)) [86] 20 85 ?_
  refine at_new zFk_v (tag := 0) (n := 2) rfl (by decide) zin0 tyX0_ok cl_X11_55 nw_X0 ini_X0 (by decide +kernel) fs_0 (l.trans (by rw [h1])) (by omega) (by decide) (by decide) ?_
  refine zStep (pkX11_init (C := zCalls G 0) (Rt := Q)) [90] 20 89 ?_
  have f := bu_fo (t := 0) (n := 2) h1 c (by rw [hn]; omega)
  refine at_init hG zFk_v (k' := 3) (mc := 2) (ms := 17) (by decide) ini_X0 imX0_init rfl mk_X11_57 dyi0 (by decide +kernel) (f.1.trans (by rw [l, h1])) rfl ?_
  refine i_0 hG (by decide) (by omega) f (fun τ hb => ⟨rfl, ?_⟩)
  have b := bu_sub h1 c hb
  refine at_pR zFk_n rfl (tag := 11) (k := 8) rfl (by decide) rfl zin11 tyX11_ok nmX11 fl_X11_58 rfl rfl rfl (fun a => ⟨rfl, rfl⟩) (by decide +kernel) (bu_kd h1 h3 b) ?_
  exact kk _ (bu_put (k := 8) b 261 (l.trans (by omega)))
theorem s11_9 {G : zG} (h5 : zI5 G) (hA : zAO G) (hG : zGok G) {Q : zRt} {o : Nat} (ho : o < 100) {σ : zSt} (h1 : σ.1.length = o + 1) (h3 : Nat.beq (zKd σ.1 o).1 11 = true) {kd : List (Nat × Nat)} {rel : Nat → Nat → Option Nat} {σ1 : zSt} (c : zBu kd rel o σ σ1) (hn : kd.length = 263) (kk : ∀ σ2, zBu (kd ++ (10, 5) :: [(14, 49), (14, 49), (14, 98)]) (rPut (rSub rel (kd.length + 1) (rPut (rPut (rPut rN 2 1) 3 2) 4 3)) 9 264) o σ σ2 → zAt G (zRk 4 304 2756) RX11 cX11_init 2 none (zFk G yX11_init σ.1.length Q 304 2756) 267 2413 107 [some (.ref o), none] [] σ2) : zAt G (zRk 4 304 2756) RX11 cX11_init 2 none (zFk G yX11_init σ.1.length Q 304 2756) 263 2212 96 [some (.ref o), none] [] σ1 := by
  have l : σ1.1.length = o + 1 + 263 := (bu_len h1 c).trans (by rw [hn])
  refine zStep (pkX11_init (C := zCalls G 0) (Rt := Q)) [97] 20 96 ?_
  refine at_new zFk_v (tag := 10) (n := 5) rfl (by decide) zin10 tyX10_ok cl_X11_62 nw_X10 ini_X10 (by decide +kernel) fs_10 (l.trans (by rw [h1])) (by omega) (by decide) (by decide) ?_
  refine zStep (pkX11_init (C := zCalls G 0) (Rt := Q)) [101] 20 100 ?_
  have f := bu_fo (t := 10) (n := 5) h1 c (by rw [hn]; omega)
  refine at_init hG zFk_v (k' := 2) (mc := 3) (ms := 196) (by decide) ini_X10 imX10_init rfl mk_X11_64 dyi10 (by decide +kernel) (f.1.trans (by rw [l, h1])) rfl ?_
  refine i_10 (by decide) f (fun τ hb => ⟨rfl, ?_⟩)
  have b := bu_sub h1 c hb
  refine at_pR zFk_n rfl (tag := 11) (k := 9) rfl (by decide) rfl zin11 tyX11_ok nmX11 fl_X11_65 rfl rfl rfl (fun a => ⟨rfl, rfl⟩) (by decide +kernel) (bu_kd h1 h3 b) ?_
  exact kk _ (bu_put (k := 9) b 264 (l.trans (by omega)))
theorem s11_10 {G : zG} (h5 : zI5 G) (hA : zAO G) (hG : zGok G) {Q : zRt} {o : Nat} (ho : o < 100) {σ : zSt} (h1 : σ.1.length = o + 1) (h3 : Nat.beq (zKd σ.1 o).1 11 = true) {kd : List (Nat × Nat)} {rel : Nat → Nat → Option Nat} {σ1 : zSt} (c : zBu kd rel o σ σ1) (hn : kd.length = 267) (hr : zOut kd rel) (kk : ∀ σ2, zBu (kd ++ [(17, 4)]) (rPut rel 10 268) o σ σ2 → zAt G (zRk 4 304 2756) RX11 cX11_init 2 none (zFk G yX11_init σ.1.length Q 304 2756) 268 2417 115 [some (.ref o), none] [] σ2) : zAt G (zRk 4 304 2756) RX11 cX11_init 2 none (zFk G yX11_init σ.1.length Q 304 2756) 267 2413 107 [some (.ref o), none] [] σ1 := by
  have l : σ1.1.length = o + 1 + 267 := (bu_len h1 c).trans (by rw [hn])
  refine zStep (pkX11_init (C := zCalls G 0) (Rt := Q)) [109] 20 107 ?_
  have b := bu_new (d := (17, 4)) h1 c (fun k => hr _ k (Nat.le_refl _))
  refine at_anew zFk_v (tag := 17) (t0 := 4) (N := 4) rfl (by decide) (fun s q => (hA s q).1) cl_X11_69 (by decide +kernel) (by decide) (by decide) (by decide) (l.trans (by rw [h1])) (by omega) (by decide) (by decide) ?_
  refine at_pR zFk_n rfl (tag := 11) (k := 10) rfl (by decide) rfl zin11 tyX11_ok nmX11 fl_X11_71 rfl rfl rfl (fun a => ⟨rfl, rfl⟩) (by decide +kernel) (bu_kd h1 h3 b) ?_
  exact kk _ (bu_put (k := 10) b 268 (l.trans (by omega)))
theorem s11_11 {G : zG} (h5 : zI5 G) (hA : zAO G) (hG : zGok G) {Q : zRt} {o : Nat} (ho : o < 100) {σ : zSt} (h1 : σ.1.length = o + 1) (h3 : Nat.beq (zKd σ.1 o).1 11 = true) {kd : List (Nat × Nat)} {rel : Nat → Nat → Option Nat} {σ1 : zSt} (c : zBu kd rel o σ σ1) (hn : kd.length = 268) (kk : ∀ σ2, zBu (kd ++ (6, 2) :: []) (rPut (rSub rel (kd.length + 1) (fun _ _ => none)) 11 269) o σ σ2 → zAt G (zRk 4 304 2756) RX11 cX11_init 2 none (zFk G yX11_init σ.1.length Q 304 2756) 269 2419 126 [some (.ref o), none] [] σ2) : zAt G (zRk 4 304 2756) RX11 cX11_init 2 none (zFk G yX11_init σ.1.length Q 304 2756) 268 2417 115 [some (.ref o), none] [] σ1 := by
  have l : σ1.1.length = o + 1 + 268 := (bu_len h1 c).trans (by rw [hn])
  refine zStep (pkX11_init (C := zCalls G 0) (Rt := Q)) [116] 20 115 ?_
  refine at_new zFk_v (tag := 6) (n := 2) rfl (by decide) zin6 tyX6_ok cl_X11_75 nw_X6 ini_X6 (by decide +kernel) fs_6 (l.trans (by rw [h1])) (by omega) (by decide) (by decide) ?_
  refine zStep (pkX11_init (C := zCalls G 0) (Rt := Q)) [120] 20 119 ?_
  have f := bu_fo (t := 6) (n := 2) h1 c (by rw [hn]; omega)
  refine at_init hG zFk_v (k' := 2) (mc := 0) (ms := 0) (by decide) ini_X6 imX6_init rfl mk_X11_77 dyi (by decide +kernel) (f.1.trans (by rw [l, h1])) rfl ?_
  refine i_6 (by decide) f (fun τ hb => ⟨rfl, ?_⟩)
  have b := bu_sub h1 c hb
  refine at_pR zFk_n rfl (tag := 11) (k := 11) rfl (by decide) rfl zin11 tyX11_ok nmX11 fl_X11_78 rfl rfl rfl (fun a => ⟨rfl, rfl⟩) (by decide +kernel) (bu_kd h1 h3 b) ?_
  exact kk _ (bu_put (k := 11) b 269 (l.trans (by omega)))
theorem s11_12 {G : zG} (h5 : zI5 G) (hA : zAO G) (hG : zGok G) {Q : zRt} {o : Nat} (ho : o < 100) {σ : zSt} (h1 : σ.1.length = o + 1) (h3 : Nat.beq (zKd σ.1 o).1 11 = true) {kd : List (Nat × Nat)} {rel : Nat → Nat → Option Nat} {σ1 : zSt} (c : zBu kd rel o σ σ1) (hn : kd.length = 269) (kk : ∀ σ2, zBu (kd ++ (1, 1) :: []) (rPut (rSub rel (kd.length + 1) rN) 12 270) o σ σ2 → zAt G (zRk 4 304 2756) RX11 cX11_init 2 none (zFk G yX11_init σ.1.length Q 304 2756) 270 2420 137 [some (.ref o), none] [] σ2) : zAt G (zRk 4 304 2756) RX11 cX11_init 2 none (zFk G yX11_init σ.1.length Q 304 2756) 269 2419 126 [some (.ref o), none] [] σ1 := by
  have l : σ1.1.length = o + 1 + 269 := (bu_len h1 c).trans (by rw [hn])
  refine zStep (pkX11_init (C := zCalls G 0) (Rt := Q)) [127] 20 126 ?_
  refine at_new zFk_v (tag := 1) (n := 1) rfl (by decide) zin1 tyX1_ok cl_X11_82 nw_X1 ini_X1 (by decide +kernel) fs_1 (l.trans (by rw [h1])) (by omega) (by decide) (by decide) ?_
  refine zStep (pkX11_init (C := zCalls G 0) (Rt := Q)) [131] 20 130 ?_
  have f := bu_fo (t := 1) (n := 1) h1 c (by rw [hn]; omega)
  refine at_init hG zFk_v (k' := 2) (mc := 0) (ms := 0) (by decide) ini_X1 imX1_init rfl mk_X11_84 dyi1 (by decide +kernel) (f.1.trans (by rw [l, h1])) rfl ?_
  refine i_1 (by decide) f (fun τ hb => ⟨rfl, ?_⟩)
  have b := bu_sub h1 c hb
  refine at_pR zFk_n rfl (tag := 11) (k := 12) rfl (by decide) rfl zin11 tyX11_ok nmX11 fl_X11_85 rfl rfl rfl (fun a => ⟨rfl, rfl⟩) (by decide +kernel) (bu_kd h1 h3 b) ?_
  exact kk _ (bu_put (k := 12) b 270 (l.trans (by omega)))
theorem t11_13 {G : zG} (h5 : zI5 G) (hA : zAO G) (hG : zGok G) {Q : zRt} {o : Nat} (ho : o < 100) {σ : zSt} (h1 : σ.1.length = o + 1) (h3 : Nat.beq (zKd σ.1 o).1 11 = true) {kd : List (Nat × Nat)} {rel : Nat → Nat → Option Nat} {σ1 : zSt} (c : zBu kd rel o σ σ1) (hn : kd.length = 270) (hr : rel 0 2 = some 23) (hkk : zKd kd 22 = (18, 2)) (kk : ∀ σ2, zBu (kd ++ (5, 4) :: kd5) (rPutA (rSub rel (kd.length + 1) rl5) 23 0 271) o σ σ2 → zAt G (zRk 4 304 2756) RX11 cX11_init 2 none (zFk G yX11_init σ.1.length Q 304 2756) 281 2570 139 [some (.ref o), some (.int 1)] [] σ2) : zAt G (zRk 4 304 2756) RX11 cX11_init 2 none (zFk G yX11_init σ.1.length Q 304 2756) 270 2420 139 [some (.ref o), some (.int 0)] [] σ1 := by
  have l : σ1.1.length = o + 1 + 270 := (bu_len h1 c).trans (by rw [hn])
  have r0 : σ1.2.2.2 o 2 = some (o + 23) := by
    have q := (c.2.2 o (Nat.le_refl o) (by omega) 2).1
    rw [Nat.sub_self, hr] at q
    rw [q, Nat.add_comm o]; rfl
  have k0 : zKd σ1.1 (o + 23) = (18, 2) := by
    rw [c.1, show o + 23 = σ.1.length + 22 by omega, zKd_app]
    exact hkk
  refine zStep (pkX11_init (C := zCalls G 0) (Rt := Q)) [141] 10 139 ?_
  refine at_gR (tag := 11) (k := 2) rfl (by decide) rfl zin11 lk_X11_19 (by decide +kernel) (bu_kd h1 h3 c) r0 ?_
  refine at_len (by decide +kernel) k0 rfl rfl ?_
  refine zStep (pkX11_init (C := zCalls G 0) (Rt := Q)) [149] 10 145 ?_
  refine And.intro (fun c => absurd c (by decide)) (fun _ => ?_)
  refine at_gR (tag := 11) (k := 2) rfl (by decide) rfl zin11 lk_X11_19 (by decide +kernel) (bu_kd h1 h3 c) r0 ?_
  refine zStep (pkX11_init (C := zCalls G 0) (Rt := Q)) [153] 10 152 ?_
  refine at_new zFk_v (tag := 5) (n := 4) rfl (by decide) zin5 tyX5_ok cl_X11_7 nw_X5 ini_X5 (by decide +kernel) fs_5 (l.trans (by rw [h1])) (by omega) (by decide) (by decide) ?_
  refine zStep (pkX11_init (C := zCalls G 0) (Rt := Q)) [157] 20 156 ?_
  have f := bu_fo (t := 5) (n := 4) h1 c (by rw [hn]; omega)
  refine at_init hG zFk_v (k' := 2) (mc := 10) (ms := 146) (by decide) ini_X5 imX5_init rfl mk_X11_9 dyi5 (by decide +kernel) (f.1.trans (by rw [l, h1])) rfl ?_
  refine h5 2 _ _ _ (by decide) (by omega) f (fun τ hb => ⟨rfl, ?_⟩)
  have b := bu_sub h1 c hb
  have y : zKd τ.1 (o + 23) = (18, 2) := by
    rw [b.1, show o + 23 = σ.1.length + 22 by omega, zKd_app, zKd_l (by omega)]
    exact hkk
  have v : Nat.beq (zKd τ.1 σ1.1.length).1 5 = true := by
    rw [b.1, ← List.append_assoc, ← c.1, zKd_r]
    rfl
  refine at_as18 (by decide +kernel) y v (by unfold vp_in; decide) ?_
  refine at_hide (bu_putA (k := 0) b 23 271 rfl (l.trans (by omega))) (fun σ2 c2 => ?_)
  refine zStep (pkX11_init (C := zCalls G 0) (Rt := Q)) [139] 10 161 ?_
  exact kk σ2 c2
theorem t11_14 {G : zG} (h5 : zI5 G) (hA : zAO G) (hG : zGok G) {Q : zRt} {o : Nat} (ho : o < 100) {σ : zSt} (h1 : σ.1.length = o + 1) (h3 : Nat.beq (zKd σ.1 o).1 11 = true) {kd : List (Nat × Nat)} {rel : Nat → Nat → Option Nat} {σ1 : zSt} (c : zBu kd rel o σ σ1) (hn : kd.length = 281) (hr : rel 0 2 = some 23) (hkk : zKd kd 22 = (18, 2)) (kk : ∀ σ2, zBu (kd ++ (5, 4) :: kd5) (rPutA (rSub rel (kd.length + 1) rl5) 23 1 282) o σ σ2 → zAt G (zRk 4 304 2756) RX11 cX11_init 2 none (zFk G yX11_init σ.1.length Q 304 2756) 292 2720 139 [some (.ref o), some (.int 2)] [] σ2) : zAt G (zRk 4 304 2756) RX11 cX11_init 2 none (zFk G yX11_init σ.1.length Q 304 2756) 281 2570 139 [some (.ref o), some (.int 1)] [] σ1 := by
  have l : σ1.1.length = o + 1 + 281 := (bu_len h1 c).trans (by rw [hn])
  have r0 : σ1.2.2.2 o 2 = some (o + 23) := by
    have q := (c.2.2 o (Nat.le_refl o) (by omega) 2).1
    rw [Nat.sub_self, hr] at q
    rw [q, Nat.add_comm o]; rfl
  have k0 : zKd σ1.1 (o + 23) = (18, 2) := by
    rw [c.1, show o + 23 = σ.1.length + 22 by omega, zKd_app]
    exact hkk
  refine zStep (pkX11_init (C := zCalls G 0) (Rt := Q)) [141] 10 139 ?_
  refine at_gR (tag := 11) (k := 2) rfl (by decide) rfl zin11 lk_X11_19 (by decide +kernel) (bu_kd h1 h3 c) r0 ?_
  refine at_len (by decide +kernel) k0 rfl rfl ?_
  refine zStep (pkX11_init (C := zCalls G 0) (Rt := Q)) [149] 10 145 ?_
  refine And.intro (fun c => absurd c (by decide)) (fun _ => ?_)
  refine at_gR (tag := 11) (k := 2) rfl (by decide) rfl zin11 lk_X11_19 (by decide +kernel) (bu_kd h1 h3 c) r0 ?_
  refine zStep (pkX11_init (C := zCalls G 0) (Rt := Q)) [153] 10 152 ?_
  refine at_new zFk_v (tag := 5) (n := 4) rfl (by decide) zin5 tyX5_ok cl_X11_7 nw_X5 ini_X5 (by decide +kernel) fs_5 (l.trans (by rw [h1])) (by omega) (by decide) (by decide) ?_
  refine zStep (pkX11_init (C := zCalls G 0) (Rt := Q)) [157] 20 156 ?_
  have f := bu_fo (t := 5) (n := 4) h1 c (by rw [hn]; omega)
  refine at_init hG zFk_v (k' := 2) (mc := 10) (ms := 146) (by decide) ini_X5 imX5_init rfl mk_X11_9 dyi5 (by decide +kernel) (f.1.trans (by rw [l, h1])) rfl ?_
  refine h5 2 _ _ _ (by decide) (by omega) f (fun τ hb => ⟨rfl, ?_⟩)
  have b := bu_sub h1 c hb
  have y : zKd τ.1 (o + 23) = (18, 2) := by
    rw [b.1, show o + 23 = σ.1.length + 22 by omega, zKd_app, zKd_l (by omega)]
    exact hkk
  have v : Nat.beq (zKd τ.1 σ1.1.length).1 5 = true := by
    rw [b.1, ← List.append_assoc, ← c.1, zKd_r]
    rfl
  refine at_as18 (by decide +kernel) y v (by unfold vp_in; decide) ?_
  refine at_hide (bu_putA (k := 1) b 23 282 rfl (l.trans (by omega))) (fun σ2 c2 => ?_)
  refine zStep (pkX11_init (C := zCalls G 0) (Rt := Q)) [139] 10 161 ?_
  exact kk σ2 c2
theorem t11_e {G : zG} (h5 : zI5 G) (hA : zAO G) (hG : zGok G) {Q : zRt} {o : Nat} (ho : o < 100) {σ : zSt} (h1 : σ.1.length = o + 1) (h3 : Nat.beq (zKd σ.1 o).1 11 = true) {kd : List (Nat × Nat)} {rel : Nat → Nat → Option Nat} {σ1 : zSt} (c : zBu kd rel o σ σ1) (hn : kd.length = 292) (hr : rel 0 2 = some 23) (hkk : zKd kd 22 = (18, 2)) (kk : zAt G (zRk 4 304 2756) RX11 cX11_init 2 none (zFk G yX11_init σ.1.length Q 304 2756) 292 2720 167 [some (.ref o), some (.int 2)] [] σ1) : zAt G (zRk 4 304 2756) RX11 cX11_init 2 none (zFk G yX11_init σ.1.length Q 304 2756) 292 2720 139 [some (.ref o), some (.int 2)] [] σ1 := by
  have l : σ1.1.length = o + 1 + 292 := (bu_len h1 c).trans (by rw [hn])
  have r0 : σ1.2.2.2 o 2 = some (o + 23) := by
    have q := (c.2.2 o (Nat.le_refl o) (by omega) 2).1
    rw [Nat.sub_self, hr] at q
    rw [q, Nat.add_comm o]; rfl
  have k0 : zKd σ1.1 (o + 23) = (18, 2) := by
    rw [c.1, show o + 23 = σ.1.length + 22 by omega, zKd_app]
    exact hkk
  refine zStep (pkX11_init (C := zCalls G 0) (Rt := Q)) [141] 10 139 ?_
  refine at_gR (tag := 11) (k := 2) rfl (by decide) rfl zin11 lk_X11_19 (by decide +kernel) (bu_kd h1 h3 c) r0 ?_
  refine at_len (by decide +kernel) k0 rfl rfl ?_
  refine zStep (pkX11_init (C := zCalls G 0) (Rt := Q)) [167] 10 145 ?_
  exact And.intro (fun _ => kk) (fun c => absurd (by decide) c)
theorem t11_15 {G : zG} (h5 : zI5 G) (hA : zAO G) (hG : zGok G) {Q : zRt} {o : Nat} (ho : o < 100) {σ : zSt} (h1 : σ.1.length = o + 1) (h3 : Nat.beq (zKd σ.1 o).1 11 = true) {kd : List (Nat × Nat)} {rel : Nat → Nat → Option Nat} {σ1 : zSt} (c : zBu kd rel o σ σ1) (hn : kd.length = 292) (hr : rel 0 10 = some 268) (hkk : zKd kd 267 = (17, 4)) (kk : ∀ σ2, zBu (kd ++ (3, 5) :: [(6, 2), (6, 2)]) (rPutA (rSub rel (kd.length + 1) (rPut (rSub (rPut (rSub rN 1 (fun _ _ => none)) 3 1) 2 (fun _ _ => none)) 4 2)) 268 0 293) o σ σ2 → zAt G (zRk 4 304 2756) RX11 cX11_init 2 none (zFk G yX11_init σ.1.length Q 304 2756) 295 2729 169 [some (.ref o), some (.int 1)] [] σ2) : zAt G (zRk 4 304 2756) RX11 cX11_init 2 none (zFk G yX11_init σ.1.length Q 304 2756) 292 2720 169 [some (.ref o), some (.int 0)] [] σ1 := by
  have l : σ1.1.length = o + 1 + 292 := (bu_len h1 c).trans (by rw [hn])
  have r0 : σ1.2.2.2 o 10 = some (o + 268) := by
    have q := (c.2.2 o (Nat.le_refl o) (by omega) 10).1
    rw [Nat.sub_self, hr] at q
    rw [q, Nat.add_comm o]; rfl
  have k0 : zKd σ1.1 (o + 268) = (17, 4) := by
    rw [c.1, show o + 268 = σ.1.length + 267 by omega, zKd_app]
    exact hkk
  refine zStep (pkX11_init (C := zCalls G 0) (Rt := Q)) [171] 10 169 ?_
  refine at_gR (tag := 11) (k := 10) rfl (by decide) rfl zin11 lk_X11_71 (by decide +kernel) (bu_kd h1 h3 c) r0 ?_
  refine at_len (by decide +kernel) k0 rfl rfl ?_
  refine zStep (pkX11_init (C := zCalls G 0) (Rt := Q)) [179] 10 175 ?_
  refine And.intro (fun c => absurd c (by decide)) (fun _ => ?_)
  refine at_gR (tag := 11) (k := 10) rfl (by decide) rfl zin11 lk_X11_71 (by decide +kernel) (bu_kd h1 h3 c) r0 ?_
  refine zStep (pkX11_init (C := zCalls G 0) (Rt := Q)) [183] 10 182 ?_
  refine at_new zFk_v (tag := 3) (n := 5) rfl (by decide) zin3 tyX3_ok cl_X11_69 nw_X3 ini_X3 (by decide +kernel) fs_3 (l.trans (by rw [h1])) (by omega) (by decide) (by decide) ?_
  refine zStep (pkX11_init (C := zCalls G 0) (Rt := Q)) [187] 20 186 ?_
  have f := bu_fo (t := 3) (n := 5) h1 c (by rw [hn]; omega)
  refine at_init hG zFk_v (k' := 3) (mc := 2) (ms := 4) (by decide) ini_X3 imX3_init rfl mk_X11_89 dyi3 (by decide +kernel) (f.1.trans (by rw [l, h1])) rfl ?_
  refine i_3 hG (by decide) (by omega) f (fun τ hb => ⟨rfl, ?_⟩)
  have b := bu_sub h1 c hb
  have y : zKd τ.1 (o + 268) = (17, 4) := by
    rw [b.1, show o + 268 = σ.1.length + 267 by omega, zKd_app, zKd_l (by omega)]
    exact hkk
  have v : Nat.beq (zKd τ.1 σ1.1.length).1 3 = true := by
    rw [b.1, ← List.append_assoc, ← c.1, zKd_r]
    rfl
  refine at_as17 (by decide +kernel) y v (by unfold vp_in; decide) ?_
  refine at_hide (bu_putA (k := 0) b 268 293 rfl (l.trans (by omega))) (fun σ2 c2 => ?_)
  refine zStep (pkX11_init (C := zCalls G 0) (Rt := Q)) [169] 10 191 ?_
  exact kk σ2 c2
theorem t11_16 {G : zG} (h5 : zI5 G) (hA : zAO G) (hG : zGok G) {Q : zRt} {o : Nat} (ho : o < 100) {σ : zSt} (h1 : σ.1.length = o + 1) (h3 : Nat.beq (zKd σ.1 o).1 11 = true) {kd : List (Nat × Nat)} {rel : Nat → Nat → Option Nat} {σ1 : zSt} (c : zBu kd rel o σ σ1) (hn : kd.length = 295) (hr : rel 0 10 = some 268) (hkk : zKd kd 267 = (17, 4)) (kk : ∀ σ2, zBu (kd ++ (3, 5) :: [(6, 2), (6, 2)]) (rPutA (rSub rel (kd.length + 1) (rPut (rSub (rPut (rSub rN 1 (fun _ _ => none)) 3 1) 2 (fun _ _ => none)) 4 2)) 268 1 296) o σ σ2 → zAt G (zRk 4 304 2756) RX11 cX11_init 2 none (zFk G yX11_init σ.1.length Q 304 2756) 298 2738 169 [some (.ref o), some (.int 2)] [] σ2) : zAt G (zRk 4 304 2756) RX11 cX11_init 2 none (zFk G yX11_init σ.1.length Q 304 2756) 295 2729 169 [some (.ref o), some (.int 1)] [] σ1 := by
  have l : σ1.1.length = o + 1 + 295 := (bu_len h1 c).trans (by rw [hn])
  have r0 : σ1.2.2.2 o 10 = some (o + 268) := by
    have q := (c.2.2 o (Nat.le_refl o) (by omega) 10).1
    rw [Nat.sub_self, hr] at q
    rw [q, Nat.add_comm o]; rfl
  have k0 : zKd σ1.1 (o + 268) = (17, 4) := by
    rw [c.1, show o + 268 = σ.1.length + 267 by omega, zKd_app]
    exact hkk
  refine zStep (pkX11_init (C := zCalls G 0) (Rt := Q)) [171] 10 169 ?_
  refine at_gR (tag := 11) (k := 10) rfl (by decide) rfl zin11 lk_X11_71 (by decide +kernel) (bu_kd h1 h3 c) r0 ?_
  refine at_len (by decide +kernel) k0 rfl rfl ?_
  refine zStep (pkX11_init (C := zCalls G 0) (Rt := Q)) [179] 10 175 ?_
  refine And.intro (fun c => absurd c (by decide)) (fun _ => ?_)
  refine at_gR (tag := 11) (k := 10) rfl (by decide) rfl zin11 lk_X11_71 (by decide +kernel) (bu_kd h1 h3 c) r0 ?_
  refine zStep (pkX11_init (C := zCalls G 0) (Rt := Q)) [183] 10 182 ?_
  refine at_new zFk_v (tag := 3) (n := 5) rfl (by decide) zin3 tyX3_ok cl_X11_69 nw_X3 ini_X3 (by decide +kernel) fs_3 (l.trans (by rw [h1])) (by omega) (by decide) (by decide) ?_
  refine zStep (pkX11_init (C := zCalls G 0) (Rt := Q)) [187] 20 186 ?_
  have f := bu_fo (t := 3) (n := 5) h1 c (by rw [hn]; omega)
  refine at_init hG zFk_v (k' := 3) (mc := 2) (ms := 4) (by decide) ini_X3 imX3_init rfl mk_X11_89 dyi3 (by decide +kernel) (f.1.trans (by rw [l, h1])) rfl ?_
  refine i_3 hG (by decide) (by omega) f (fun τ hb => ⟨rfl, ?_⟩)
  have b := bu_sub h1 c hb
  have y : zKd τ.1 (o + 268) = (17, 4) := by
    rw [b.1, show o + 268 = σ.1.length + 267 by omega, zKd_app, zKd_l (by omega)]
    exact hkk
  have v : Nat.beq (zKd τ.1 σ1.1.length).1 3 = true := by
    rw [b.1, ← List.append_assoc, ← c.1, zKd_r]
    rfl
  refine at_as17 (by decide +kernel) y v (by unfold vp_in; decide) ?_
  refine at_hide (bu_putA (k := 1) b 268 296 rfl (l.trans (by omega))) (fun σ2 c2 => ?_)
  refine zStep (pkX11_init (C := zCalls G 0) (Rt := Q)) [169] 10 191 ?_
  exact kk σ2 c2
theorem t11_17 {G : zG} (h5 : zI5 G) (hA : zAO G) (hG : zGok G) {Q : zRt} {o : Nat} (ho : o < 100) {σ : zSt} (h1 : σ.1.length = o + 1) (h3 : Nat.beq (zKd σ.1 o).1 11 = true) {kd : List (Nat × Nat)} {rel : Nat → Nat → Option Nat} {σ1 : zSt} (c : zBu kd rel o σ σ1) (hn : kd.length = 298) (hr : rel 0 10 = some 268) (hkk : zKd kd 267 = (17, 4)) (kk : ∀ σ2, zBu (kd ++ (3, 5) :: [(6, 2), (6, 2)]) (rPutA (rSub rel (kd.length + 1) (rPut (rSub (rPut (rSub rN 1 (fun _ _ => none)) 3 1) 2 (fun _ _ => none)) 4 2)) 268 2 299) o σ σ2 → zAt G (zRk 4 304 2756) RX11 cX11_init 2 none (zFk G yX11_init σ.1.length Q 304 2756) 301 2747 169 [some (.ref o), some (.int 3)] [] σ2) : zAt G (zRk 4 304 2756) RX11 cX11_init 2 none (zFk G yX11_init σ.1.length Q 304 2756) 298 2738 169 [some (.ref o), some (.int 2)] [] σ1 := by
  have l : σ1.1.length = o + 1 + 298 := (bu_len h1 c).trans (by rw [hn])
  have r0 : σ1.2.2.2 o 10 = some (o + 268) := by
    have q := (c.2.2 o (Nat.le_refl o) (by omega) 10).1
    rw [Nat.sub_self, hr] at q
    rw [q, Nat.add_comm o]; rfl
  have k0 : zKd σ1.1 (o + 268) = (17, 4) := by
    rw [c.1, show o + 268 = σ.1.length + 267 by omega, zKd_app]
    exact hkk
  refine zStep (pkX11_init (C := zCalls G 0) (Rt := Q)) [171] 10 169 ?_
  refine at_gR (tag := 11) (k := 10) rfl (by decide) rfl zin11 lk_X11_71 (by decide +kernel) (bu_kd h1 h3 c) r0 ?_
  refine at_len (by decide +kernel) k0 rfl rfl ?_
  refine zStep (pkX11_init (C := zCalls G 0) (Rt := Q)) [179] 10 175 ?_
  refine And.intro (fun c => absurd c (by decide)) (fun _ => ?_)
  refine at_gR (tag := 11) (k := 10) rfl (by decide) rfl zin11 lk_X11_71 (by decide +kernel) (bu_kd h1 h3 c) r0 ?_
  refine zStep (pkX11_init (C := zCalls G 0) (Rt := Q)) [183] 10 182 ?_
  refine at_new zFk_v (tag := 3) (n := 5) rfl (by decide) zin3 tyX3_ok cl_X11_69 nw_X3 ini_X3 (by decide +kernel) fs_3 (l.trans (by rw [h1])) (by omega) (by decide) (by decide) ?_
  refine zStep (pkX11_init (C := zCalls G 0) (Rt := Q)) [187] 20 186 ?_
  have f := bu_fo (t := 3) (n := 5) h1 c (by rw [hn]; omega)
  refine at_init hG zFk_v (k' := 3) (mc := 2) (ms := 4) (by decide) ini_X3 imX3_init rfl mk_X11_89 dyi3 (by decide +kernel) (f.1.trans (by rw [l, h1])) rfl ?_
  refine i_3 hG (by decide) (by omega) f (fun τ hb => ⟨rfl, ?_⟩)
  have b := bu_sub h1 c hb
  have y : zKd τ.1 (o + 268) = (17, 4) := by
    rw [b.1, show o + 268 = σ.1.length + 267 by omega, zKd_app, zKd_l (by omega)]
    exact hkk
  have v : Nat.beq (zKd τ.1 σ1.1.length).1 3 = true := by
    rw [b.1, ← List.append_assoc, ← c.1, zKd_r]
    rfl
  refine at_as17 (by decide +kernel) y v (by unfold vp_in; decide) ?_
  refine at_hide (bu_putA (k := 2) b 268 299 rfl (l.trans (by omega))) (fun σ2 c2 => ?_)
  refine zStep (pkX11_init (C := zCalls G 0) (Rt := Q)) [169] 10 191 ?_
  exact kk σ2 c2
theorem t11_18 {G : zG} (h5 : zI5 G) (hA : zAO G) (hG : zGok G) {Q : zRt} {o : Nat} (ho : o < 100) {σ : zSt} (h1 : σ.1.length = o + 1) (h3 : Nat.beq (zKd σ.1 o).1 11 = true) {kd : List (Nat × Nat)} {rel : Nat → Nat → Option Nat} {σ1 : zSt} (c : zBu kd rel o σ σ1) (hn : kd.length = 301) (hr : rel 0 10 = some 268) (hkk : zKd kd 267 = (17, 4)) (kk : ∀ σ2, zBu (kd ++ (3, 5) :: [(6, 2), (6, 2)]) (rPutA (rSub rel (kd.length + 1) (rPut (rSub (rPut (rSub rN 1 (fun _ _ => none)) 3 1) 2 (fun _ _ => none)) 4 2)) 268 3 302) o σ σ2 → zAt G (zRk 4 304 2756) RX11 cX11_init 2 none (zFk G yX11_init σ.1.length Q 304 2756) 304 2756 169 [some (.ref o), some (.int 4)] [] σ2) : zAt G (zRk 4 304 2756) RX11 cX11_init 2 none (zFk G yX11_init σ.1.length Q 304 2756) 301 2747 169 [some (.ref o), some (.int 3)] [] σ1 := by
  have l : σ1.1.length = o + 1 + 301 := (bu_len h1 c).trans (by rw [hn])
  have r0 : σ1.2.2.2 o 10 = some (o + 268) := by
    have q := (c.2.2 o (Nat.le_refl o) (by omega) 10).1
    rw [Nat.sub_self, hr] at q
    rw [q, Nat.add_comm o]; rfl
  have k0 : zKd σ1.1 (o + 268) = (17, 4) := by
    rw [c.1, show o + 268 = σ.1.length + 267 by omega, zKd_app]
    exact hkk
  refine zStep (pkX11_init (C := zCalls G 0) (Rt := Q)) [171] 10 169 ?_
  refine at_gR (tag := 11) (k := 10) rfl (by decide) rfl zin11 lk_X11_71 (by decide +kernel) (bu_kd h1 h3 c) r0 ?_
  refine at_len (by decide +kernel) k0 rfl rfl ?_
  refine zStep (pkX11_init (C := zCalls G 0) (Rt := Q)) [179] 10 175 ?_
  refine And.intro (fun c => absurd c (by decide)) (fun _ => ?_)
  refine at_gR (tag := 11) (k := 10) rfl (by decide) rfl zin11 lk_X11_71 (by decide +kernel) (bu_kd h1 h3 c) r0 ?_
  refine zStep (pkX11_init (C := zCalls G 0) (Rt := Q)) [183] 10 182 ?_
  refine at_new zFk_v (tag := 3) (n := 5) rfl (by decide) zin3 tyX3_ok cl_X11_69 nw_X3 ini_X3 (by decide +kernel) fs_3 (l.trans (by rw [h1])) (by omega) (by decide) (by decide) ?_
  refine zStep (pkX11_init (C := zCalls G 0) (Rt := Q)) [187] 20 186 ?_
  have f := bu_fo (t := 3) (n := 5) h1 c (by rw [hn]; omega)
  refine at_init hG zFk_v (k' := 3) (mc := 2) (ms := 4) (by decide) ini_X3 imX3_init rfl mk_X11_89 dyi3 (by decide +kernel) (f.1.trans (by rw [l, h1])) rfl ?_
  refine i_3 hG (by decide) (by omega) f (fun τ hb => ⟨rfl, ?_⟩)
  have b := bu_sub h1 c hb
  have y : zKd τ.1 (o + 268) = (17, 4) := by
    rw [b.1, show o + 268 = σ.1.length + 267 by omega, zKd_app, zKd_l (by omega)]
    exact hkk
  have v : Nat.beq (zKd τ.1 σ1.1.length).1 3 = true := by
    rw [b.1, ← List.append_assoc, ← c.1, zKd_r]
    rfl
  refine at_as17 (by decide +kernel) y v (by unfold vp_in; decide) ?_
  refine at_hide (bu_putA (k := 3) b 268 302 rfl (l.trans (by omega))) (fun σ2 c2 => ?_)
  refine zStep (pkX11_init (C := zCalls G 0) (Rt := Q)) [169] 10 191 ?_
  exact kk σ2 c2
theorem t11_19 {G : zG} (h5 : zI5 G) (hA : zAO G) (hG : zGok G) {Q : zRt} {o : Nat} (ho : o < 100) {σ : zSt} (h1 : σ.1.length = o + 1) (h3 : Nat.beq (zKd σ.1 o).1 11 = true) {kd : List (Nat × Nat)} {rel : Nat → Nat → Option Nat} {σ1 : zSt} (c : zBu kd rel o σ σ1) (hn : kd.length = 304) (hr : rel 0 10 = some 268) (hkk : zKd kd 267 = (17, 4)) (kk : zAt G (zRk 4 304 2756) RX11 cX11_init 2 none (zFk G yX11_init σ.1.length Q 304 2756) 304 2756 197 [some (.ref o), some (.int 4)] [] σ1) : zAt G (zRk 4 304 2756) RX11 cX11_init 2 none (zFk G yX11_init σ.1.length Q 304 2756) 304 2756 169 [some (.ref o), some (.int 4)] [] σ1 := by
  have l : σ1.1.length = o + 1 + 304 := (bu_len h1 c).trans (by rw [hn])
  have r0 : σ1.2.2.2 o 10 = some (o + 268) := by
    have q := (c.2.2 o (Nat.le_refl o) (by omega) 10).1
    rw [Nat.sub_self, hr] at q
    rw [q, Nat.add_comm o]; rfl
  have k0 : zKd σ1.1 (o + 268) = (17, 4) := by
    rw [c.1, show o + 268 = σ.1.length + 267 by omega, zKd_app]
    exact hkk
  refine zStep (pkX11_init (C := zCalls G 0) (Rt := Q)) [171] 10 169 ?_
  refine at_gR (tag := 11) (k := 10) rfl (by decide) rfl zin11 lk_X11_71 (by decide +kernel) (bu_kd h1 h3 c) r0 ?_
  refine at_len (by decide +kernel) k0 rfl rfl ?_
  refine zStep (pkX11_init (C := zCalls G 0) (Rt := Q)) [197] 10 175 ?_
  exact And.intro (fun _ => kk) (fun c => absurd (by decide) c)
