-- ===== the constructor of History, from that of Plan =====
def kd5 : List (Nat × Nat) := [(14, 18), (20, 8), (15, 15), (15, 15), (15, 15), (15, 15), (15, 15), (15, 15), (15, 15), (15, 15)]
def rl5 : Nat → Nat → Option Nat := fun x k => if x = 0 then (if k = 2 then some 1 else if k = 3 then some 2 else none) else if x = 2 then (if k < 8 then some (3 + k) else none) else none
/-- what the constructor of Plan owes (i_5) -/
def zI5 (G : zG) : Prop := ∀ (k' o : Nat) (σ : zSt) (Q : zRt), 2 ≤ k' → o < 1000 → zFo 5 o σ → (∀ σ', zBu kd5 rl5 o σ σ' → Q none σ') → zCallK G k' 10 146 yX5_init [.ref o] σ Q
theorem fs_5 {G : zG} {σ : zSt} {n : Nat} : ∀ j, j < 4 → defaultValue (tyX5 j) = vp_V (zFs G (zNw σ (5, n)) σ.1.length 5) j := fun j hj => by
  rw [zfs_new hj]
  match j, hj with
  | 0, _ => rfl
  | 1, _ => rfl
  | 2, _ => rfl
  | 3, _ => rfl
theorem dyi5 : yX5_init.cls ≠ "java/lang/invoke/MethodHandle" ∧ yX5_init.cls ≠ "java/lang/invoke/VarHandle" ∧ (parseMethodDescriptor yX5_init.desc).map (fun d => d.parameters.length) = some 0 := by decide +kernel
def pl11 : Nat → List (Nat × Nat)
  | 0 => []
  | i + 1 => pl11 i ++ (5, 4) :: kd5
theorem pl11_len : ∀ i, (pl11 i).length = 11 * i
  | 0 => rfl
  | i + 1 => by
    show (pl11 i ++ _).length = _
    rw [List.length_append, pl11_len i]
    show 11 * i + 11 = 11 * (i + 1)
    omega
def kd2 (i : Nat) : List (Nat × Nat) := [(18, 9)] ++ pl11 i
theorem kd2_len (i : Nat) : (kd2 i).length = 1 + 11 * i := by
  show ([_] ++ pl11 i).length = _
  rw [List.length_append, pl11_len]; rfl
def rl2 (i : Nat) : Nat → Nat → Option Nat := fun x k => if x = 0 then (if k = 1 then some 1 else none) else if x = 1 then (if k < i then some (2 + 11 * k) else none) else if 2 + 11 * i ≤ x then none else (rl5 ((x - 2) % 11) k).map (· + (2 + 11 * ((x - 2) / 11)))
theorem r2_ext {i x k : Nat} (hx : x < 13 + 11 * i) : rl2 (i + 1) x k = rPutA (rSub (rl2 i) (1 + 11 * i + 1) rl5) 1 i (2 + 11 * i) x k := by
  unfold rPutA rSub
  by_cases a : x < 1 + 11 * i + 1
  · rw [if_pos a]
    unfold rl2
    repeat' split
    all_goals first | rfl | (exfalso; omega) | (congr 1; omega)
  · rw [if_neg a, if_neg (by omega : ¬ (x = 1 ∧ k = i))]
    unfold rl2
    rw [if_neg (by omega), if_neg (by omega), if_neg (by omega), show (x - 2) / 11 = i by omega, show (x - 2) % 11 = x - (1 + 11 * i + 1) by omega, show 2 + 11 * i = 1 + 11 * i + 1 by omega]
theorem l_2 {G : zG} (h5 : zI5 G) (hG : zGok G) {Q : zRt} {o : Nat} (ho : o < 500) {σ : zSt} (h1 : σ.1.length = o + 1) (h3 : Nat.beq (zKd σ.1 o).1 2 = true) (h : ∀ σ', zBu (kd2 9) (rl2 9) o σ σ' → Q none σ') : ∀ (r i : Nat) (v : Int32) (σ1 : zSt), v = nI i → i + r = 9 → zBu (kd2 i) (rl2 i) o σ σ1 → zAt G (zRk 2 100 1359) RX2 cX2_init 2 none (zFk G yX2_init σ.1.length Q 100 1359) (1 + 11 * i) (9 + 150 * i) 20 [some (.ref o), some (.int v)] [] σ1 := by
  intro r
  induction r with
  | zero =>
    intro i v σ1 ev hi c1
    have e : i = 9 := by omega
    subst ev
    subst e
    have l1 := bu_len h1 c1
    rw [kd2_len] at l1
    have r0 : σ1.2.2.2 o 1 = some (o + 1) := by
      have q := (c1.2.2 o (Nat.le_refl o) (by omega) 1).1
      rw [Nat.sub_self] at q
      rw [show σ1.2.2.2 o 1 = some (1 + o) from q, Nat.add_comm]
    have k0 : zKd σ1.1 (o + 1) = (18, 9) := by
      rw [c1.1, ← h1]
      exact zKd_r
    refine zStep (pkX2_init (C := zCalls G 0) (Rt := Q)) [22] 10 20 ?_
    refine at_gR (tag := 2) (k := 1) rfl (by decide) rfl zin2 lk_X2_17 (by decide +kernel) (bu_kd h1 h3 c1) r0 ?_
    refine at_len (by decide +kernel) k0 rfl rfl ?_
    refine zStep (pkX2_init (C := zCalls G 0) (Rt := Q)) [48] 10 26 ?_
    refine And.intro (fun _ => ?_) (fun c => absurd (by decide) c)
    exact at_ret (by decide +kernel) (h _ c1)
  | succ r ih =>
    intro i v σ1 ev hi c1
    subst ev
    have l1 := bu_len h1 c1
    rw [kd2_len] at l1
    have r0 : σ1.2.2.2 o 1 = some (o + 1) := by
      have q := (c1.2.2 o (Nat.le_refl o) (by omega) 1).1
      rw [Nat.sub_self] at q
      rw [show σ1.2.2.2 o 1 = some (1 + o) from q, Nat.add_comm]
    have k0 : zKd σ1.1 (o + 1) = (18, 9) := by
      rw [c1.1, ← h1]
      exact zKd_r
    refine zStep (pkX2_init (C := zCalls G 0) (Rt := Q)) [22] 10 20 ?_
    refine at_gR (tag := 2) (k := 1) rfl (by decide) rfl zin2 lk_X2_17 (by decide +kernel) (bu_kd h1 h3 c1) r0 ?_
    refine at_len (by decide +kernel) k0 rfl rfl ?_
    refine zStep (pkX2_init (C := zCalls G 0) (Rt := Q)) [30] 10 26 ?_
    refine And.intro (fun c => absurd c (by rw [show Int32.ofNat 9 = nI 9 from rfl, nI_leI (by omega) (by omega)]; omega)) (fun _ => ?_)
    refine at_gR (tag := 2) (k := 1) rfl (by decide) rfl zin2 lk_X2_17 (by decide +kernel) (bu_kd h1 h3 c1) r0 ?_
    refine zStep (pkX2_init (C := zCalls G 0) (Rt := Q)) [34] 10 33 ?_
    refine at_new zFk_v (tag := 5) (n := 4) rfl (by decide) zin5 tyX5_ok cl_X2_15 nw_X5 ini_X5 (by decide +kernel) fs_5 (l1.trans (by rw [h1])) (by omega) (by show 1 + 11 * i + 1 ≤ 100; omega) (by show 9 + 150 * i + 4 ≤ 1359; omega) ?_
    refine zStep (pkX2_init (C := zCalls G 0) (Rt := Q)) [38] 10 37 ?_
    have f1 := bu_fo (t := 5) (n := 4) h1 c1 (by rw [kd2_len]; omega)
    refine at_init hG zFk_v (k' := 2) (mc := 10) (ms := 146) ⟨by decide, by decide, by show 1 + 11 * i + 1 + 10 ≤ 100; omega, by show 9 + 150 * i + 4 + 146 ≤ 1359; omega⟩ ini_X5 imX5_init rfl mk_X2_21 dyi5 (by decide +kernel) (f1.1.trans (by rw [l1, h1]; omega)) rfl ?_
    refine h5 2 _ _ _ (by decide) (by rw [l1]; omega) f1 (fun σ2 hb2 => ⟨rfl, ?_⟩)
    have b2 := bu_sub h1 c1 hb2
    have k2 : zKd σ2.1 (o + 1) = (18, 9) := by
      rw [b2.1, ← h1]
      exact zKd_r
    have kv : Nat.beq (zKd σ2.1 σ1.1.length).1 5 = true := by
      rw [b2.1, ← List.append_assoc, ← c1.1, zKd_r]
      rfl
    refine at_as18 (by decide +kernel) k2 kv (vp_in_nI (by omega) (by decide)) ?_
    rw [nI_clamp (by omega)]
    have c2 := bu_putA (k := i) b2 1 (2 + 11 * i) rfl (l1.trans (by omega))
    have e7 : kd2 i ++ (5, 4) :: kd5 = kd2 (i + 1) := by
      show ([_] ++ pl11 i) ++ _ = [_] ++ (pl11 i ++ _)
      rw [List.append_assoc]
    rw [e7, kd2_len] at c2
    have c3 := bu_ext c2 (rel2 := rl2 (i + 1)) (fun x k hx => r2_ext (by rw [kd2_len] at hx; omega))
    refine at_hide c3 (fun σ3 c4 => ?_)
    refine zStep (pkX2_init (C := zCalls G 0) (Rt := Q)) [20] 10 42 ?_
    exact ih (i + 1) _ σ3 (by rw [nI_1]) (by omega) c4
theorem i_2 {G : zG} (h5 : zI5 G) (hA : zAO G) (hG : zGok G) {k' : Nat} (hk : 3 ≤ k') {o : Nat} (ho : o < 500) {σ : zSt} {Q : zRt} (hf : zFo 2 o σ) (h : ∀ σ', zBu (kd2 9) (rl2 9) o σ σ' → Q none σ') : zCallK G k' 100 1359 yX2_init [.ref o] σ Q := by
  obtain ⟨K, I, J, P⟩ := σ
  have b0 := bu_0 hf
  have h1 := hf.1
  have h3 := hf.2.2.1
  refine zMethodK (k := 2) hk (by decide) (by decide +kernel) cdX2_init _ rfl (Nat.le_of_ble_eq_true rfl) ?_
  refine zStep (pkX2_init (C := zCalls G 0) (Rt := Q)) [1] 10 0 ?_
  refine at_obj ol_X2_3 (by decide +kernel) (by decide) (by decide) ?_
  refine zStep (pkX2_init (C := zCalls G 0) (Rt := Q)) [12] 10 4 ?_
  refine zB_in h3 ?_
  have c0 := bu_I (j := 0) b0
  have hK : K.length = o + 1 := h1
  have b1 := bu_new (d := (18, 9)) h1 c0 (fun k => rfl)
  refine at_anew zFk_v (tag := 18) (t0 := 5) (N := 9) rfl (by decide) (fun s q => (hA s q).2.1) cl_X2_15 (by decide +kernel) (by decide) (by decide) (by decide) rfl (by show K.length < 1000000; omega) (by decide) (by decide) ?_
  refine at_pR zFk_n rfl (tag := 2) (k := 1) rfl (by decide) rfl zin2 tyX2_ok nmX2 fl_X2_17 rfl rfl rfl (fun a => ⟨rfl, rfl⟩) (by decide +kernel) (bu_kd h1 h3 b1) ?_
  refine at_hide (bu_put (k := 1) b1 1 h1) (fun σ1 c1 => ?_)
  refine zStep (pkX2_init (C := zCalls G 0) (Rt := Q)) [20] 10 18 ?_
  refine l_2 h5 hG ho h1 h3 h 9 0 _ σ1 rfl rfl ?_
  refine bu_ext (kd := kd2 0) c1 (fun x k hx => ?_)
  have hx : x < 1 + 1 := hx
  have e : x = 0 ∨ x = 1 := by omega
  rcases e with rfl | rfl
  · show (if k = 1 then some 1 else none) = if 0 = 0 ∧ k = 1 then some 1 else none
    by_cases d : k = 1
    · rw [if_pos d, if_pos ⟨rfl, d⟩]
    · rw [if_neg d, if_neg (fun q => d q.2)]
  · rfl
