-- ===== SplitSlices, made =====
def ka0 : List (Nat × Nat) := []
def ra0 : Nat → Nat → Option Nat := rN
theorem ka0_len : ka0.length = 0 := rfl
theorem ra0_o : zOut ka0 ra0 := out_N
def ka1 : List (Nat × Nat) := ka0 ++ (5, 4) :: kd5
def ra1 : Nat → Nat → Option Nat := rPut (rSub ra0 (ka0.length + 1) rl5) 0 1
theorem ka1_len : ka1.length = 11 := by decide +kernel
theorem ra1_o : zOut ka1 ra1 := out_put (out_sub out_5)
def ka2 : List (Nat × Nat) := ka1 ++ (5, 4) :: kd5
def ra2 : Nat → Nat → Option Nat := rPut (rSub ra1 (ka1.length + 1) rl5) 1 12
theorem ka2_len : ka2.length = 22 := by decide +kernel
theorem ra2_o : zOut ka2 ra2 := out_put (out_sub out_5)
def ka3 : List (Nat × Nat) := ka2 ++ [(18, 2)]
def ra3 : Nat → Nat → Option Nat := rPut ra2 2 23
theorem ka3_len : ka3.length = 23 := by decide +kernel
theorem ra3_o : zOut ka3 ra3 := out_put (out_new ra2_o)
def ka4 : List (Nat × Nat) := ka3 ++ [(16, 2)]
def ra4 : Nat → Nat → Option Nat := rPut ra3 3 24
theorem ka4_len : ka4.length = 24 := by decide +kernel
theorem ra4_o : zOut ka4 ra4 := out_put (out_new ra3_o)
def ka5 : List (Nat × Nat) := ka4 ++ (2, 2) :: kd2 9
def ra5 : Nat → Nat → Option Nat := rPut (rSub ra4 (ka4.length + 1) (rl2 9)) 4 25
theorem ka5_len : ka5.length = 125 := by decide +kernel
theorem ra5_o : zOut ka5 ra5 := out_put (out_sub out_2)
def ka6 : List (Nat × Nat) := ka5 ++ (8, 2) :: [(14, 80)]
def ra6 : Nat → Nat → Option Nat := rPut (rSub ra5 (ka5.length + 1) (rPut rN 1 1)) 5 126
theorem ka6_len : ka6.length = 127 := by decide +kernel
theorem ra6_o : zOut ka6 ra6 := out_put (out_sub (out_put out_N))
def ka7 : List (Nat × Nat) := ka6 ++ (4, 2) :: [(15, 98)]
def ra7 : Nat → Nat → Option Nat := rPut (rSub ra6 (ka6.length + 1) (rPut rN 1 1)) 6 128
theorem ka7_len : ka7.length = 129 := by decide +kernel
theorem ra7_o : zOut ka7 ra7 := out_put (out_sub (out_put out_N))
def ka8 : List (Nat × Nat) := ka7 ++ (7, 4) :: kd7 42
def ra8 : Nat → Nat → Option Nat := rPut (rSub ra7 (ka7.length + 1) (rl7 42)) 7 130
theorem ka8_len : ka8.length = 260 := by decide +kernel
theorem ra8_o : zOut ka8 ra8 := out_put (out_sub out_7)
def ka9 : List (Nat × Nat) := ka8 ++ (0, 2) :: [(15, 15), (6, 2)]
def ra9 : Nat → Nat → Option Nat := rPut (rSub ra8 (ka8.length + 1) (rPut (rSub (rPut rN 0 1) 2 rN) 1 2)) 8 261
theorem ka9_len : ka9.length = 263 := by decide +kernel
def ka10 : List (Nat × Nat) := ka9 ++ (10, 5) :: [(14, 49), (14, 49), (14, 98)]
def ra10 : Nat → Nat → Option Nat := rPut (rSub ra9 (ka9.length + 1) (rPut (rPut (rPut rN 2 1) 3 2) 4 3)) 9 264
theorem ka10_len : ka10.length = 267 := by decide +kernel
theorem ra10_o : zOut ka10 ra10 := out_put (out_sub (out_put (out_put (out_put out_N))))
def ka11 : List (Nat × Nat) := ka10 ++ [(17, 4)]
def ra11 : Nat → Nat → Option Nat := rPut ra10 10 268
theorem ka11_len : ka11.length = 268 := by decide +kernel
theorem ra11_o : zOut ka11 ra11 := out_put (out_new ra10_o)
def ka12 : List (Nat × Nat) := ka11 ++ (6, 2) :: []
def ra12 : Nat → Nat → Option Nat := rPut (rSub ra11 (ka11.length + 1) (fun _ _ => none)) 11 269
theorem ka12_len : ka12.length = 269 := by decide +kernel
def ka13 : List (Nat × Nat) := ka12 ++ (1, 1) :: []
def ra13 : Nat → Nat → Option Nat := rPut (rSub ra12 (ka12.length + 1) rN) 12 270
theorem ka13_len : ka13.length = 270 := by decide +kernel
def ka14 : List (Nat × Nat) := ka13 ++ (5, 4) :: kd5
def ra14 : Nat → Nat → Option Nat := rPutA (rSub ra13 (ka13.length + 1) rl5) 23 0 271
theorem ka14_len : ka14.length = 281 := by decide +kernel
def ka15 : List (Nat × Nat) := ka14 ++ (5, 4) :: kd5
def ra15 : Nat → Nat → Option Nat := rPutA (rSub ra14 (ka14.length + 1) rl5) 23 1 282
theorem ka15_len : ka15.length = 292 := by decide +kernel
def ka16 : List (Nat × Nat) := ka15 ++ (3, 5) :: [(6, 2), (6, 2)]
def ra16 : Nat → Nat → Option Nat := rPutA (rSub ra15 (ka15.length + 1) (rPut (rSub (rPut (rSub rN 1 (fun _ _ => none)) 3 1) 2 (fun _ _ => none)) 4 2)) 268 0 293
theorem ka16_len : ka16.length = 295 := by decide +kernel
def ka17 : List (Nat × Nat) := ka16 ++ (3, 5) :: [(6, 2), (6, 2)]
def ra17 : Nat → Nat → Option Nat := rPutA (rSub ra16 (ka16.length + 1) (rPut (rSub (rPut (rSub rN 1 (fun _ _ => none)) 3 1) 2 (fun _ _ => none)) 4 2)) 268 1 296
theorem ka17_len : ka17.length = 298 := by decide +kernel
def ka18 : List (Nat × Nat) := ka17 ++ (3, 5) :: [(6, 2), (6, 2)]
def ra18 : Nat → Nat → Option Nat := rPutA (rSub ra17 (ka17.length + 1) (rPut (rSub (rPut (rSub rN 1 (fun _ _ => none)) 3 1) 2 (fun _ _ => none)) 4 2)) 268 2 299
theorem ka18_len : ka18.length = 301 := by decide +kernel
def ka19 : List (Nat × Nat) := ka18 ++ (3, 5) :: [(6, 2), (6, 2)]
def ra19 : Nat → Nat → Option Nat := rPutA (rSub ra18 (ka18.length + 1) (rPut (rSub (rPut (rSub rN 1 (fun _ _ => none)) 3 1) 2 (fun _ _ => none)) 4 2)) 268 3 302
theorem ka19_len : ka19.length = 304 := by decide +kernel
theorem i_11 {G : zG} (h5 : zI5 G) (hA : zAO G) (hG : zGok G) {k' : Nat} (hk : 5 ≤ k') {o : Nat} (ho : o < 100) {σ : zSt} {Q : zRt} (hf : zFo 11 o σ) (h : ∀ σ', zBu ka19 ra19 o σ σ' → Q none σ') : zCallK G k' 304 2756 yX11_init [.ref o] σ Q := by
  have c0 : zBu ka0 ra0 o σ σ := bu_0 hf
  obtain ⟨h1, h2, h3, h4⟩ := hf
  refine zMethodK (k := 4) hk (by decide) (by decide +kernel) cdX11_init _ rfl (Nat.le_of_ble_eq_true rfl) ?_
  refine zStep (pkX11_init (C := zCalls G 0) (Rt := Q)) [1] 10 0 ?_
  refine at_obj ol_X11_1 (by decide +kernel) (by decide) (by decide) ?_
  refine s11_0 h5 hA hG ho h1 h3 c0 ka0_len (fun σ1 x1 => ?_)
  have c1 : zBu ka1 ra1 o σ σ1 := x1
  refine s11_1 h5 hA hG ho h1 h3 c1 ka1_len (fun σ2 x2 => ?_)
  have c2 : zBu ka2 ra2 o σ σ2 := x2
  refine s11_2 h5 hA hG ho h1 h3 c2 ka2_len ra2_o (fun σ3 x3 => ?_)
  have c3 : zBu ka3 ra3 o σ σ3 := x3
  refine s11_3 h5 hA hG ho h1 h3 c3 ka3_len ra3_o (fun σ4 x4 => ?_)
  have c4 : zBu ka4 ra4 o σ σ4 := x4
  refine s11_4 h5 hA hG ho h1 h3 c4 ka4_len (fun σ5 x5 => ?_)
  have c5 : zBu ka5 ra5 o σ σ5 := x5
  refine s11_5 h5 hA hG ho h1 h3 c5 ka5_len (fun σ6 x6 => ?_)
  have c6 : zBu ka6 ra6 o σ σ6 := x6
  refine s11_6 h5 hA hG ho h1 h3 c6 ka6_len (fun σ7 x7 => ?_)
  have c7 : zBu ka7 ra7 o σ σ7 := x7
  refine s11_7 h5 hA hG ho h1 h3 c7 ka7_len (fun σ8 x8 => ?_)
  have c8 : zBu ka8 ra8 o σ σ8 := x8
  refine s11_8 h5 hA hG ho h1 h3 c8 ka8_len (fun σ9 x9 => ?_)
  have c9 : zBu ka9 ra9 o σ σ9 := x9
  refine s11_9 h5 hA hG ho h1 h3 c9 ka9_len (fun σ10 x10 => ?_)
  have c10 : zBu ka10 ra10 o σ σ10 := x10
  refine s11_10 h5 hA hG ho h1 h3 c10 ka10_len ra10_o (fun σ11 x11 => ?_)
  have c11 : zBu ka11 ra11 o σ σ11 := x11
  refine s11_11 h5 hA hG ho h1 h3 c11 ka11_len (fun σ12 x12 => ?_)
  have c12 : zBu ka12 ra12 o σ σ12 := x12
  refine s11_12 h5 hA hG ho h1 h3 c12 ka12_len (fun σ13 x13 => ?_)
  have c13 : zBu ka13 ra13 o σ σ13 := x13
  refine zStep (pkX11_init (C := zCalls G 0) (Rt := Q)) [139] 10 137 ?_
  refine t11_13 h5 hA hG ho h1 h3 c13 ka13_len (by decide +kernel) (by decide +kernel) (fun σ14 x14 => ?_)
  have c14 : zBu ka14 ra14 o σ σ14 := x14
  refine t11_14 h5 hA hG ho h1 h3 c14 ka14_len (by decide +kernel) (by decide +kernel) (fun σ15 x15 => ?_)
  have c15 : zBu ka15 ra15 o σ σ15 := x15
  refine t11_e h5 hA hG ho h1 h3 c15 ka15_len (by decide +kernel) (by decide +kernel) ?_
  refine zStep (pkX11_init (C := zCalls G 0) (Rt := Q)) [169] 10 167 ?_
  refine t11_15 h5 hA hG ho h1 h3 c15 ka15_len (by decide +kernel) (by decide +kernel) (fun σ16 x16 => ?_)
  have c16 : zBu ka16 ra16 o σ σ16 := x16
  refine t11_16 h5 hA hG ho h1 h3 c16 ka16_len (by decide +kernel) (by decide +kernel) (fun σ17 x17 => ?_)
  have c17 : zBu ka17 ra17 o σ σ17 := x17
  refine t11_17 h5 hA hG ho h1 h3 c17 ka17_len (by decide +kernel) (by decide +kernel) (fun σ18 x18 => ?_)
  have c18 : zBu ka18 ra18 o σ σ18 := x18
  refine t11_18 h5 hA hG ho h1 h3 c18 ka18_len (by decide +kernel) (by decide +kernel) (fun σ19 x19 => ?_)
  have c19 : zBu ka19 ra19 o σ σ19 := x19
  refine t11_19 h5 hA hG ho h1 h3 c19 ka19_len (by decide +kernel) (by decide +kernel) ?_
  refine at_ret (by decide +kernel) ?_
  exact h _ c19
