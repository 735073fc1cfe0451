-- ===== the model's constructor =====
def kd12 : List (Nat × Nat) := (((((((((((((([] ++ [(14, 140)]) ++ [(13, 80)]) ++ [(15, 40)]) ++ [(14, 21)]) ++ [(14, 1120)]) ++ [(14, 140)]) ++ [(16, 42)]) ++ [(15, 84)]) ++ [(15, 84)]) ++ [(14, 15)]) ++ [(14, 98)]) ++ [(14, 320)]) ++ [(14, 280)]) ++ [(16, 2)])
def rl12 : Nat → Nat → Option Nat := rPut (rPut (rPut (rPut (rPut (rPut (rPut (rPut (rPut (rPut (rPut (rPut (rPut (rPut (rN) 0 1) 1 2) 3 3) 11 4) 12 5) 14 6) 15 7) 16 8) 17 9) 27 10) 28 11) 33 12) 35 13) 36 14
def rZ (rel : Nat → Nat → Option Nat) : Prop := ∀ x k, rel (x + 1) k = none
theorem rZ_N : rZ rN := fun _ _ => rfl
theorem rZ_put {rel : Nat → Nat → Option Nat} {f j : Nat} (h : rZ rel) : rZ (rPut rel f j) := fun x k => by
  unfold rPut
  rw [if_neg (fun q => absurd q.1 (Nat.succ_ne_zero x))]
  exact h x k
theorem bu_Ix {kd : List (Nat × Nat)} {rel : Nat → Nat → Option Nat} {o y : Nat} {σ : zSt} {K : List (Nat × Nat)} {I : Nat → Nat → Int32} {J : Nat → Nat → Int64} {P : Nat → Nat → Option Nat} {j : Nat} (hy : o ≤ y) (h : zBu kd rel o σ (K, I, J, P)) : zBu kd rel o σ (K, z_upI I y j 0, J, P) := by
  obtain ⟨h1, h2, h3⟩ := h
  refine ⟨h1, fun x hx => ⟨(z_upI_ne (by omega)).trans (h2 x hx).1, (h2 x hx).2⟩, fun x a b k => ⟨(h3 x a b k).1, fun q => ?_⟩⟩
  have e := (h3 x a b k).2 q
  show z_upI I y j 0 x k = 0
  by_cases c : x = y
  · subst c
    by_cases d : k = j
    · subst d; exact uI_s
    · rw [uI_k d]; exact e
  · rw [z_upI_ne c]; exact e
/-- one array of the model's -/
theorem s12I {G : zG} {Q : zRt} {mc ms cs sl np idx f N o n : Nat} {v : Int32} {σ σ1 : zSt} {kd : List (Nat × Nat)} {rel : Nat → Nat → Option Nat} (hf : f < 37) (ho : o < 1000) (h1 : σ.1.length = o + 1) (h3 : Nat.beq (zKd σ.1 o).1 12 = true) (c1 : zBu kd rel o σ σ1) (hz : rZ rel) (hn : kd.length = n) (hn2 : n < 100) (hcn : cs = n) (d1 : decode cX12_init np = .ok (.newarray .int, 2)) (hv : ¬ v < 0) (hN : v.toNatClampNeg = N) (hb : N ≤ 100000) (hcs : cs + 1 ≤ mc) (hsl : sl + N ≤ ms) (ht : (zFT 12)[f]? = some 2) (hlk : Cond.fieldLink RX12 idx (TX12 f).1 (TX12 f).2.1 (TX12 f).2.2.1 ∈ zWs) (hfi : (TX12 f).2.2.2 = true) (hde : (TX12 f).1 = RX12) (hfd : parseFieldDescriptor (TX12 f).2.2.1 = some (.array .int)) (d2 : decode cX12_init (np + 2) = .ok (.putfield idx, 3)) {ls : zLs}
    (k : ∀ (σ2 : zSt) (kd2 : List (Nat × Nat)) (rel2 : Nat → Nat → Option Nat), kd2 = kd ++ [(14, N)] → rel2 = rPut rel f (n + 1) → zBu kd2 rel2 o σ σ2 → rZ rel2 → kd2.length = n + 1 → zAt G (zRk 1 mc ms) RX12 cX12_init 1 none (zFk G yX12_init σ.1.length Q mc ms) (cs + 1) (sl + N) (np + 2 + 3) ls [] σ2) : zAt G (zRk 1 mc ms) RX12 cX12_init 1 none (zFk G yX12_init σ.1.length Q mc ms) cs sl np ls [.int v, .ref o] σ1 := by
  have l0 := bu_len h1 c1
  have b := bu_new (d := (14, N)) h1 c1 (fun k => hz _ k)
  refine at_newI zFk_v (N := N) d1 hv hN hb (by omega) (by omega) hcs hsl ?_
  refine at_pR zFk_n rfl (tag := 12) (k := f) rfl hf ht zin12 tyX12_ok nmX12 hlk hfi hde (fty := .array .int) hfd (fun a => ⟨rfl, rfl⟩) d2 (bu_kd h1 h3 b) ?_
  exact k _ _ _ rfl rfl (bu_put b (n + 1) (by omega)) (rZ_put hz) (by rw [List.length_append, hn]; rfl)
theorem s12J {G : zG} {Q : zRt} {mc ms cs sl np idx f N o n : Nat} {v : Int32} {σ σ1 : zSt} {kd : List (Nat × Nat)} {rel : Nat → Nat → Option Nat} (hf : f < 37) (ho : o < 1000) (h1 : σ.1.length = o + 1) (h3 : Nat.beq (zKd σ.1 o).1 12 = true) (c1 : zBu kd rel o σ σ1) (hz : rZ rel) (hn : kd.length = n) (hn2 : n < 100) (hcn : cs = n) (d1 : decode cX12_init np = .ok (.newarray .long, 2)) (hv : ¬ v < 0) (hN : v.toNatClampNeg = N) (hb : N ≤ 100000) (hcs : cs + 1 ≤ mc) (hsl : sl + N ≤ ms) (ht : (zFT 12)[f]? = some 2) (hlk : Cond.fieldLink RX12 idx (TX12 f).1 (TX12 f).2.1 (TX12 f).2.2.1 ∈ zWs) (hfi : (TX12 f).2.2.2 = true) (hde : (TX12 f).1 = RX12) (hfd : parseFieldDescriptor (TX12 f).2.2.1 = some (.array .long)) (d2 : decode cX12_init (np + 2) = .ok (.putfield idx, 3)) {ls : zLs}
    (k : ∀ (σ2 : zSt) (kd2 : List (Nat × Nat)) (rel2 : Nat → Nat → Option Nat), kd2 = kd ++ [(15, N)] → rel2 = rPut rel f (n + 1) → zBu kd2 rel2 o σ σ2 → rZ rel2 → kd2.length = n + 1 → zAt G (zRk 1 mc ms) RX12 cX12_init 1 none (zFk G yX12_init σ.1.length Q mc ms) (cs + 1) (sl + N) (np + 2 + 3) ls [] σ2) : zAt G (zRk 1 mc ms) RX12 cX12_init 1 none (zFk G yX12_init σ.1.length Q mc ms) cs sl np ls [.int v, .ref o] σ1 := by
  have l0 := bu_len h1 c1
  have b := bu_new (d := (15, N)) h1 c1 (fun k => hz _ k)
  refine at_newJ zFk_v (N := N) d1 hv hN hb (by omega) (by omega) hcs hsl ?_
  refine at_pR zFk_n rfl (tag := 12) (k := f) rfl hf ht zin12 tyX12_ok nmX12 hlk hfi hde (fty := .array .long) hfd (fun a => ⟨rfl, rfl⟩) d2 (bu_kd h1 h3 b) ?_
  exact k _ _ _ rfl rfl (bu_put b (n + 1) (by omega)) (rZ_put hz) (by rw [List.length_append, hn]; rfl)
theorem s12B {G : zG} {Q : zRt} {mc ms cs sl np idx f N o n : Nat} {v : Int32} {σ σ1 : zSt} {kd : List (Nat × Nat)} {rel : Nat → Nat → Option Nat} (hf : f < 37) (ho : o < 1000) (h1 : σ.1.length = o + 1) (h3 : Nat.beq (zKd σ.1 o).1 12 = true) (c1 : zBu kd rel o σ σ1) (hz : rZ rel) (hn : kd.length = n) (hn2 : n < 100) (hcn : cs = n) (d1 : decode cX12_init np = .ok (.newarray .byte, 2)) (hv : ¬ v < 0) (hN : v.toNatClampNeg = N) (hb : N ≤ 100000) (hcs : cs + 1 ≤ mc) (hsl : sl + N ≤ ms) (ht : (zFT 12)[f]? = some 2) (hlk : Cond.fieldLink RX12 idx (TX12 f).1 (TX12 f).2.1 (TX12 f).2.2.1 ∈ zWs) (hfi : (TX12 f).2.2.2 = true) (hde : (TX12 f).1 = RX12) (hfd : parseFieldDescriptor (TX12 f).2.2.1 = some (.array .byte)) (d2 : decode cX12_init (np + 2) = .ok (.putfield idx, 3)) {ls : zLs}
    (k : ∀ (σ2 : zSt) (kd2 : List (Nat × Nat)) (rel2 : Nat → Nat → Option Nat), kd2 = kd ++ [(13, N)] → rel2 = rPut rel f (n + 1) → zBu kd2 rel2 o σ σ2 → rZ rel2 → kd2.length = n + 1 → zAt G (zRk 1 mc ms) RX12 cX12_init 1 none (zFk G yX12_init σ.1.length Q mc ms) (cs + 1) (sl + N) (np + 2 + 3) ls [] σ2) : zAt G (zRk 1 mc ms) RX12 cX12_init 1 none (zFk G yX12_init σ.1.length Q mc ms) cs sl np ls [.int v, .ref o] σ1 := by
  have l0 := bu_len h1 c1
  have b := bu_new (d := (13, N)) h1 c1 (fun k => hz _ k)
  refine at_newB zFk_v (N := N) d1 hv hN hb (by omega) (by omega) hcs hsl ?_
  refine at_pR zFk_n rfl (tag := 12) (k := f) rfl hf ht zin12 tyX12_ok nmX12 hlk hfi hde (fty := .array .byte) hfd (fun a => ⟨rfl, rfl⟩) d2 (bu_kd h1 h3 b) ?_
  exact k _ _ _ rfl rfl (bu_put b (n + 1) (by omega)) (rZ_put hz) (by rw [List.length_append, hn]; rfl)
theorem s12Z {G : zG} {Q : zRt} {mc ms cs sl np idx f N o n : Nat} {v : Int32} {σ σ1 : zSt} {kd : List (Nat × Nat)} {rel : Nat → Nat → Option Nat} (hf : f < 37) (ho : o < 1000) (h1 : σ.1.length = o + 1) (h3 : Nat.beq (zKd σ.1 o).1 12 = true) (c1 : zBu kd rel o σ σ1) (hz : rZ rel) (hn : kd.length = n) (hn2 : n < 100) (hcn : cs = n) (d1 : decode cX12_init np = .ok (.newarray .boolean, 2)) (hv : ¬ v < 0) (hN : v.toNatClampNeg = N) (hb : N ≤ 100000) (hcs : cs + 1 ≤ mc) (hsl : sl + N ≤ ms) (ht : (zFT 12)[f]? = some 2) (hlk : Cond.fieldLink RX12 idx (TX12 f).1 (TX12 f).2.1 (TX12 f).2.2.1 ∈ zWs) (hfi : (TX12 f).2.2.2 = true) (hde : (TX12 f).1 = RX12) (hfd : parseFieldDescriptor (TX12 f).2.2.1 = some (.array .boolean)) (d2 : decode cX12_init (np + 2) = .ok (.putfield idx, 3)) {ls : zLs}
    (k : ∀ (σ2 : zSt) (kd2 : List (Nat × Nat)) (rel2 : Nat → Nat → Option Nat), kd2 = kd ++ [(16, N)] → rel2 = rPut rel f (n + 1) → zBu kd2 rel2 o σ σ2 → rZ rel2 → kd2.length = n + 1 → zAt G (zRk 1 mc ms) RX12 cX12_init 1 none (zFk G yX12_init σ.1.length Q mc ms) (cs + 1) (sl + N) (np + 2 + 3) ls [] σ2) : zAt G (zRk 1 mc ms) RX12 cX12_init 1 none (zFk G yX12_init σ.1.length Q mc ms) cs sl np ls [.int v, .ref o] σ1 := by
  have l0 := bu_len h1 c1
  have b := bu_new (d := (16, N)) h1 c1 (fun k => hz _ k)
  refine at_newZ zFk_v (N := N) d1 hv hN hb (by omega) (by omega) hcs hsl ?_
  refine at_pR zFk_n rfl (tag := 12) (k := f) rfl hf ht zin12 tyX12_ok nmX12 hlk hfi hde (fty := .array .boolean) hfd (fun a => ⟨rfl, rfl⟩) d2 (bu_kd h1 h3 b) ?_
  exact k _ _ _ rfl rfl (bu_put b (n + 1) (by omega)) (rZ_put hz) (by rw [List.length_append, hn]; rfl)
theorem i_12 {G : zG} {k' : Nat} (hk : 2 ≤ k') {o : Nat} (ho : o < 1000) {σ : zSt} {Q : zRt} (hf : zFo 12 o σ) (h : ∀ σ', zBu kd12 rl12 o σ σ' → Q none σ') : zCallK G k' 14 2466 yX12_init [.ref o] σ Q := by
  have c0 := bu_0 hf
  have h1 := hf.1
  have h3 := hf.2.2.1
  refine zMethodK (k := 1) hk (by decide) (by decide +kernel) cdX12_init _ rfl (Nat.le_of_ble_eq_true rfl) ?_
  refine zStep (pkX12_init (C := zCalls G 0) (Rt := Q)) [1] 10 0 ?_
  refine at_obj ol_X12_3 (by decide +kernel) (by decide) (by decide) ?_
  refine zStep (pkX12_init (C := zCalls G 0) (Rt := Q)) [8] 20 4 ?_
  refine s12I (N := 140) (idx := 9) (f := 0) (by decide) ho h1 h3 c0 rZ_N (n := 0) rfl (by decide) rfl (by decide +kernel) (by decide) (by decide) (by decide) (by decide) (by decide) rfl fl_X12_9 rfl rfl (by decide +kernel) (by decide +kernel) (fun σ1 kd1 rel1 ek1 er1 c1 z1 n1 => ?_)
  refine zStep (pkX12_init (C := zCalls G 0) (Rt := Q)) [16] 20 13 ?_
  refine s12B (N := 80) (idx := 13) (f := 1) (by decide) ho h1 h3 c1 z1 n1 (by decide) rfl (by decide +kernel) (by decide) (by decide) (by decide) (by decide) (by decide) rfl fl_X12_13 rfl rfl (by decide +kernel) (by decide +kernel) (fun σ2 kd2 rel2 ek2 er2 c2 z2 n2 => ?_)
  refine zStep (pkX12_init (C := zCalls G 0) (Rt := Q)) [24] 20 21 ?_
  refine s12J (N := 40) (idx := 17) (f := 3) (by decide) ho h1 h3 c2 z2 n2 (by decide) rfl (by decide +kernel) (by decide) (by decide) (by decide) (by decide) (by decide) rfl fl_X12_17 rfl rfl (by decide +kernel) (by decide +kernel) (fun σ3 kd3 rel3 ek3 er3 c3 z3 n3 => ?_)
  refine zStep (pkX12_init (C := zCalls G 0) (Rt := Q)) [32] 20 29 ?_
  refine s12I (N := 21) (idx := 21) (f := 11) (by decide) ho h1 h3 c3 z3 n3 (by decide) rfl (by decide +kernel) (by decide) (by decide) (by decide) (by decide) (by decide) rfl fl_X12_21 rfl rfl (by decide +kernel) (by decide +kernel) (fun σ4 kd4 rel4 ek4 er4 c4 z4 n4 => ?_)
  refine zStep (pkX12_init (C := zCalls G 0) (Rt := Q)) [41] 20 37 ?_
  refine s12I (N := 1120) (idx := 24) (f := 12) (by decide) ho h1 h3 c4 z4 n4 (by decide) rfl (by decide +kernel) (by decide) (by decide) (by decide) (by decide) (by decide) rfl fl_X12_24 rfl rfl (by decide +kernel) (by decide +kernel) (fun σ5 kd5 rel5 ek5 er5 c5 z5 n5 => ?_)
  refine zStep (pkX12_init (C := zCalls G 0) (Rt := Q)) [50] 20 46 ?_
  refine s12I (N := 140) (idx := 27) (f := 14) (by decide) ho h1 h3 c5 z5 n5 (by decide) rfl (by decide +kernel) (by decide) (by decide) (by decide) (by decide) (by decide) rfl fl_X12_27 rfl rfl (by decide +kernel) (by decide +kernel) (fun σ6 kd6 rel6 ek6 er6 c6 z6 n6 => ?_)
  refine zStep (pkX12_init (C := zCalls G 0) (Rt := Q)) [58] 20 55 ?_
  refine s12Z (N := 42) (idx := 30) (f := 15) (by decide) ho h1 h3 c6 z6 n6 (by decide) rfl (by decide +kernel) (by decide) (by decide) (by decide) (by decide) (by decide) rfl fl_X12_30 rfl rfl (by decide +kernel) (by decide +kernel) (fun σ7 kd7 rel7 ek7 er7 c7 z7 n7 => ?_)
  refine zStep (pkX12_init (C := zCalls G 0) (Rt := Q)) [66] 20 63 ?_
  refine s12J (N := 84) (idx := 34) (f := 16) (by decide) ho h1 h3 c7 z7 n7 (by decide) rfl (by decide +kernel) (by decide) (by decide) (by decide) (by decide) (by decide) rfl fl_X12_34 rfl rfl (by decide +kernel) (by decide +kernel) (fun σ8 kd8 rel8 ek8 er8 c8 z8 n8 => ?_)
  refine zStep (pkX12_init (C := zCalls G 0) (Rt := Q)) [74] 20 71 ?_
  refine s12J (N := 84) (idx := 37) (f := 17) (by decide) ho h1 h3 c8 z8 n8 (by decide) rfl (by decide +kernel) (by decide) (by decide) (by decide) (by decide) (by decide) rfl fl_X12_37 rfl rfl (by decide +kernel) (by decide +kernel) (fun σ9 kd9 rel9 ek9 er9 c9 z9 n9 => ?_)
  refine zStep (pkX12_init (C := zCalls G 0) (Rt := Q)) [82] 20 79 ?_
  refine s12I (N := 15) (idx := 40) (f := 27) (by decide) ho h1 h3 c9 z9 n9 (by decide) rfl (by decide +kernel) (by decide) (by decide) (by decide) (by decide) (by decide) rfl fl_X12_40 rfl rfl (by decide +kernel) (by decide +kernel) (fun σ10 kd10 rel10 ek10 er10 c10 z10 n10 => ?_)
  refine zStep (pkX12_init (C := zCalls G 0) (Rt := Q)) [90] 20 87 ?_
  refine s12I (N := 98) (idx := 43) (f := 28) (by decide) ho h1 h3 c10 z10 n10 (by decide) rfl (by decide +kernel) (by decide) (by decide) (by decide) (by decide) (by decide) rfl fl_X12_43 rfl rfl (by decide +kernel) (by decide +kernel) (fun σ11 kd11 rel11 ek11 er11 c11 z11 n11 => ?_)
  refine zStep (pkX12_init (C := zCalls G 0) (Rt := Q)) [99] 20 95 ?_
  refine s12I (N := 320) (idx := 46) (f := 33) (by decide) ho h1 h3 c11 z11 n11 (by decide) rfl (by decide +kernel) (by decide) (by decide) (by decide) (by decide) (by decide) rfl fl_X12_46 rfl rfl (by decide +kernel) (by decide +kernel) (fun σ12 kd12 rel12 ek12 er12 c12 z12 n12 => ?_)
  refine zStep (pkX12_init (C := zCalls G 0) (Rt := Q)) [108] 20 104 ?_
  refine s12I (N := 280) (idx := 49) (f := 35) (by decide) ho h1 h3 c12 z12 n12 (by decide) rfl (by decide +kernel) (by decide) (by decide) (by decide) (by decide) (by decide) rfl fl_X12_49 rfl rfl (by decide +kernel) (by decide +kernel) (fun σ13 kd13 rel13 ek13 er13 c13 z13 n13 => ?_)
  refine zStep (pkX12_init (C := zCalls G 0) (Rt := Q)) [115] 20 113 ?_
  refine s12Z (N := 2) (idx := 52) (f := 36) (by decide) ho h1 h3 c13 z13 n13 (by decide) rfl (by decide +kernel) (by decide) (by decide) (by decide) (by decide) (by decide) rfl fl_X12_52 rfl rfl (by decide +kernel) (by decide +kernel) (fun σ14 kd14 rel14 ek14 er14 c14 z14 n14 => ?_)
  refine zStep (pkX12_init (C := zCalls G 0) (Rt := Q)) [126] 20 120 ?_
  subst ek1 er1 ek2 er2 ek3 er3 ek4 er4 ek5 er5 ek6 er6 ek7 er7 ek8 er8 ek9 er9 ek10 er10 ek11 er11 ek12 er12 ek13 er13 ek14 er14
  obtain ⟨K, I, J, P⟩ := σ14
  have r0 : P o 0 = some (o + 1) := by
    have q := (c14.2.2 o (Nat.le_refl o) (by rw [n14]; omega) 0).1
    rw [Nat.sub_self] at q
    rw [show P o 0 = some (1 + o) from q, Nat.add_comm]
  have k0 : zKd K (o + 1) = (14, 140) := by
    rw [show K = σ.1 ++ _ from c14.1, ← h1]
    exact zKd_r
  refine zB_in (bu_kd h1 h3 c14) (op_in r0 ?_)
  refine (k_iast (C := zCalls G 0) (Rt := Q) (pc := 126) (by decide +kernel : decode cX12_init 126 = .ok (.iastore, 1))) (fun ls st σ9 => zAt G (zRk 1 14 2466) RX12 cX12_init 1 none (zFk G yX12_init σ.1.length Q 14 2466) 14 2466 127 ls st σ9) (fun _ _ _ _ => False) (fun _ _ _ h => h) (fun _ _ _ _ h => h.elim) _ _ _ ?_
  simp only [o_yI]
  rw [k0]
  refine zB_in rfl (And.intro (vp_in_nI (n := 0) (N := 140) (by decide) (by decide)) ?_)
  refine at_ret (by decide +kernel) ?_
  exact h _ (bu_Ix (by omega) c14)
