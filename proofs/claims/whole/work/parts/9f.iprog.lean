theorem cdX0_init : Cond.code yX0_init cX0_init 1 none ∈ zWs := zWs_in 269 (by decide +kernel) rfl
theorem imX0_init : Cond.instanceMethod yX0_init ∈ zWs := zWs_in 268 (by decide +kernel) rfl
theorem ol_X0_3 : Cond.methodLink RX0 3 objectInit ∈ zWs := zWs_in 270 (by decide +kernel) rfl
theorem fl_X0_9 : Cond.fieldLink RX0 9 "SplitSlices$CutFinder" "found" "[J" ∈ zWs := zWs_in 273 (by decide +kernel) rfl
theorem cl_X0_15 : Cond.classLink RX0 15 RX6 ∈ zWs := List.mem_filter.mpr ⟨by decide +kernel, rfl⟩
theorem fl_X0_18 : Cond.fieldLink RX0 18 "SplitSlices$CutFinder" "times" "LSplitSlices$Ratio;" ∈ zWs := zWs_in 275 (by decide +kernel) rfl
theorem cdX1_init : Cond.code yX1_init cX1_init 1 none ∈ zWs := zWs_in 315 (by decide +kernel) rfl
theorem imX1_init : Cond.instanceMethod yX1_init ∈ zWs := zWs_in 314 (by decide +kernel) rfl
theorem ol_X1_1 : Cond.methodLink RX1 1 objectInit ∈ zWs := zWs_in 316 (by decide +kernel) rfl
theorem cdX2_init : Cond.code yX2_init cX2_init 2 none ∈ zWs := zWs_in 152 (by decide +kernel) rfl
theorem imX2_init : Cond.instanceMethod yX2_init ∈ zWs := zWs_in 151 (by decide +kernel) rfl
theorem ol_X2_3 : Cond.methodLink RX2 3 objectInit ∈ zWs := zWs_in 153 (by decide +kernel) rfl
theorem cl_X2_15 : Cond.classLink RX2 15 RX5 ∈ zWs := List.mem_filter.mpr ⟨by decide +kernel, rfl⟩
theorem fl_X2_17 : Cond.fieldLink RX2 17 "SplitSlices$History" "past" "[LSplitSlices$Plan;" ∈ zWs := zWs_in 158 (by decide +kernel) rfl
theorem cdX3_init : Cond.code yX3_init cX3_init 1 none ∈ zWs := zWs_in 324 (by decide +kernel) rfl
theorem imX3_init : Cond.instanceMethod yX3_init ∈ zWs := zWs_in 323 (by decide +kernel) rfl
theorem ol_X3_3 : Cond.methodLink RX3 3 objectInit ∈ zWs := zWs_in 325 (by decide +kernel) rfl
theorem cl_X3_22 : Cond.classLink RX3 22 RX6 ∈ zWs := List.mem_filter.mpr ⟨by decide +kernel, rfl⟩
theorem fl_X3_25 : Cond.fieldLink RX3 25 "SplitSlices$Most" "best" "LSplitSlices$Ratio;" ∈ zWs := zWs_in 332 (by decide +kernel) rfl
theorem fl_X3_29 : Cond.fieldLink RX3 29 "SplitSlices$Most" "value" "LSplitSlices$Ratio;" ∈ zWs := zWs_in 334 (by decide +kernel) rfl
theorem cdX4_init : Cond.code yX4_init cX4_init 1 none ∈ zWs := zWs_in 182 (by decide +kernel) rfl
theorem imX4_init : Cond.instanceMethod yX4_init ∈ zWs := zWs_in 181 (by decide +kernel) rfl
theorem ol_X4_3 : Cond.methodLink RX4 3 objectInit ∈ zWs := zWs_in 183 (by decide +kernel) rfl
theorem fl_X4_15 : Cond.fieldLink RX4 15 "SplitSlices$Numbers" "numbers" "[J" ∈ zWs := zWs_in 186 (by decide +kernel) rfl
theorem cdX5_init : Cond.code yX5_init cX5_init 1 none ∈ zWs := zWs_in 123 (by decide +kernel) rfl
theorem imX5_init : Cond.instanceMethod yX5_init ∈ zWs := zWs_in 122 (by decide +kernel) rfl
theorem ol_X5_3 : Cond.methodLink RX5 3 objectInit ∈ zWs := zWs_in 124 (by decide +kernel) rfl
theorem fl_X5_18 : Cond.fieldLink RX5 18 "SplitSlices$Plan" "parts" "[I" ∈ zWs := zWs_in 133 (by decide +kernel) rfl
theorem fl_X5_24 : Cond.fieldLink RX5 24 "SplitSlices$Plan" "cuts" "[[J" ∈ zWs := zWs_in 134 (by decide +kernel) rfl
theorem cdX6_init : Cond.code yX6_init cX6_init 1 none ∈ zWs := zWs_in 204 (by decide +kernel) rfl
theorem imX6_init : Cond.instanceMethod yX6_init ∈ zWs := zWs_in 203 (by decide +kernel) rfl
theorem ol_X6_1 : Cond.methodLink RX6 1 objectInit ∈ zWs := zWs_in 205 (by decide +kernel) rfl
theorem cdX7_init : Cond.code yX7_init cX7_init 2 none ∈ zWs := zWs_in 196 (by decide +kernel) rfl
theorem imX7_init : Cond.instanceMethod yX7_init ∈ zWs := zWs_in 195 (by decide +kernel) rfl
theorem ol_X7_3 : Cond.methodLink RX7 3 objectInit ∈ zWs := zWs_in 197 (by decide +kernel) rfl
theorem cl_X7_9 : Cond.classLink RX7 9 RX9 ∈ zWs := List.mem_filter.mpr ⟨by decide +kernel, rfl⟩
theorem fl_X7_11 : Cond.fieldLink RX7 11 "SplitSlices$Regions" "slices" "[LSplitSlices$Slice;" ∈ zWs := zWs_in 252 (by decide +kernel) rfl
theorem cl_X7_17 : Cond.classLink RX7 17 RX6 ∈ zWs := List.mem_filter.mpr ⟨by decide +kernel, rfl⟩
theorem fl_X7_20 : Cond.fieldLink RX7 20 "SplitSlices$Regions" "from" "LSplitSlices$Ratio;" ∈ zWs := zWs_in 253 (by decide +kernel) rfl
theorem fl_X7_24 : Cond.fieldLink RX7 24 "SplitSlices$Regions" "to" "LSplitSlices$Ratio;" ∈ zWs := zWs_in 254 (by decide +kernel) rfl
theorem fl_X7_27 : Cond.fieldLink RX7 27 "SplitSlices$Regions" "crossing" "LSplitSlices$Ratio;" ∈ zWs := zWs_in 255 (by decide +kernel) rfl
theorem cdX8_init : Cond.code yX8_init cX8_init 1 none ∈ zWs := zWs_in 169 (by decide +kernel) rfl
theorem imX8_init : Cond.instanceMethod yX8_init ∈ zWs := zWs_in 168 (by decide +kernel) rfl
theorem ol_X8_3 : Cond.methodLink RX8 3 objectInit ∈ zWs := zWs_in 170 (by decide +kernel) rfl
theorem fl_X8_15 : Cond.fieldLink RX8 15 "SplitSlices$Signs" "signs" "[I" ∈ zWs := zWs_in 172 (by decide +kernel) rfl
theorem cdX9_init : Cond.code yX9_init cX9_init 1 none ∈ zWs := zWs_in 226 (by decide +kernel) rfl
theorem imX9_init : Cond.instanceMethod yX9_init ∈ zWs := zWs_in 225 (by decide +kernel) rfl
theorem ol_X9_3 : Cond.methodLink RX9 3 objectInit ∈ zWs := zWs_in 227 (by decide +kernel) rfl
theorem cl_X9_15 : Cond.classLink RX9 15 RX6 ∈ zWs := List.mem_filter.mpr ⟨by decide +kernel, rfl⟩
theorem fl_X9_18 : Cond.fieldLink RX9 18 "SplitSlices$Slice" "low" "LSplitSlices$Ratio;" ∈ zWs := zWs_in 235 (by decide +kernel) rfl
theorem fl_X9_22 : Cond.fieldLink RX9 22 "SplitSlices$Slice" "high" "LSplitSlices$Ratio;" ∈ zWs := zWs_in 240 (by decide +kernel) rfl
theorem cdX10_init : Cond.code yX10_init cX10_init 1 none ∈ zWs := zWs_in 285 (by decide +kernel) rfl
theorem imX10_init : Cond.instanceMethod yX10_init ∈ zWs := zWs_in 284 (by decide +kernel) rfl
theorem ol_X10_3 : Cond.methodLink RX10 3 objectInit ∈ zWs := zWs_in 286 (by decide +kernel) rfl
theorem fl_X10_18 : Cond.fieldLink RX10 18 "SplitSlices$WholePoints" "xs" "[I" ∈ zWs := zWs_in 292 (by decide +kernel) rfl
theorem fl_X10_22 : Cond.fieldLink RX10 22 "SplitSlices$WholePoints" "ys" "[I" ∈ zWs := zWs_in 293 (by decide +kernel) rfl
theorem fl_X10_25 : Cond.fieldLink RX10 25 "SplitSlices$WholePoints" "chain" "[I" ∈ zWs := zWs_in 294 (by decide +kernel) rfl
theorem cdX11_init : Cond.code yX11_init cX11_init 2 none ∈ zWs := zWs_in 115 (by decide +kernel) rfl
theorem imX11_init : Cond.instanceMethod yX11_init ∈ zWs := zWs_in 114 (by decide +kernel) rfl
theorem ol_X11_1 : Cond.methodLink RX11 1 objectInit ∈ zWs := zWs_in 116 (by decide +kernel) rfl
theorem cl_X11_7 : Cond.classLink RX11 7 RX5 ∈ zWs := List.mem_filter.mpr ⟨by decide +kernel, rfl⟩
theorem fl_X11_10 : Cond.fieldLink RX11 10 "SplitSlices" "now" "LSplitSlices$Plan;" ∈ zWs := zWs_in 346 (by decide +kernel) rfl
theorem fl_X11_16 : Cond.fieldLink RX11 16 "SplitSlices" "trial" "LSplitSlices$Plan;" ∈ zWs := zWs_in 347 (by decide +kernel) rfl
theorem fl_X11_19 : Cond.fieldLink RX11 19 "SplitSlices" "kept" "[LSplitSlices$Plan;" ∈ zWs := zWs_in 348 (by decide +kernel) rfl
theorem fl_X11_23 : Cond.fieldLink RX11 23 "SplitSlices" "isKept" "[Z" ∈ zWs := zWs_in 349 (by decide +kernel) rfl
theorem cl_X11_27 : Cond.classLink RX11 27 RX2 ∈ zWs := List.mem_filter.mpr ⟨by decide +kernel, rfl⟩
theorem fl_X11_30 : Cond.fieldLink RX11 30 "SplitSlices" "history" "LSplitSlices$History;" ∈ zWs := zWs_in 350 (by decide +kernel) rfl
theorem cl_X11_34 : Cond.classLink RX11 34 RX8 ∈ zWs := List.mem_filter.mpr ⟨by decide +kernel, rfl⟩
theorem fl_X11_37 : Cond.fieldLink RX11 37 "SplitSlices" "text" "LSplitSlices$Signs;" ∈ zWs := zWs_in 351 (by decide +kernel) rfl
theorem cl_X11_41 : Cond.classLink RX11 41 RX4 ∈ zWs := List.mem_filter.mpr ⟨by decide +kernel, rfl⟩
theorem fl_X11_44 : Cond.fieldLink RX11 44 "SplitSlices" "numbers" "LSplitSlices$Numbers;" ∈ zWs := zWs_in 352 (by decide +kernel) rfl
theorem cl_X11_48 : Cond.classLink RX11 48 RX7 ∈ zWs := List.mem_filter.mpr ⟨by decide +kernel, rfl⟩
theorem fl_X11_51 : Cond.fieldLink RX11 51 "SplitSlices" "regions" "LSplitSlices$Regions;" ∈ zWs := zWs_in 353 (by decide +kernel) rfl
theorem cl_X11_55 : Cond.classLink RX11 55 RX0 ∈ zWs := List.mem_filter.mpr ⟨by decide +kernel, rfl⟩
theorem fl_X11_58 : Cond.fieldLink RX11 58 "SplitSlices" "finder" "LSplitSlices$CutFinder;" ∈ zWs := zWs_in 354 (by decide +kernel) rfl
theorem cl_X11_62 : Cond.classLink RX11 62 RX10 ∈ zWs := List.mem_filter.mpr ⟨by decide +kernel, rfl⟩
theorem fl_X11_65 : Cond.fieldLink RX11 65 "SplitSlices" "points" "LSplitSlices$WholePoints;" ∈ zWs := zWs_in 355 (by decide +kernel) rfl
theorem cl_X11_69 : Cond.classLink RX11 69 RX3 ∈ zWs := List.mem_filter.mpr ⟨by decide +kernel, rfl⟩
theorem fl_X11_71 : Cond.fieldLink RX11 71 "SplitSlices" "mosts" "[LSplitSlices$Most;" ∈ zWs := zWs_in 356 (by decide +kernel) rfl
theorem cl_X11_75 : Cond.classLink RX11 75 RX6 ∈ zWs := List.mem_filter.mpr ⟨by decide +kernel, rfl⟩
theorem fl_X11_78 : Cond.fieldLink RX11 78 "SplitSlices" "ratio" "LSplitSlices$Ratio;" ∈ zWs := zWs_in 357 (by decide +kernel) rfl
theorem cl_X11_82 : Cond.classLink RX11 82 RX1 ∈ zWs := List.mem_filter.mpr ⟨by decide +kernel, rfl⟩
theorem fl_X11_85 : Cond.fieldLink RX11 85 "SplitSlices" "draws" "LSplitSlices$Draws;" ∈ zWs := zWs_in 358 (by decide +kernel) rfl
theorem cdX12_init : Cond.code yX12_init cX12_init 1 none ∈ zWs := zWs_in 1104 (by decide +kernel) rfl
theorem imX12_init : Cond.instanceMethod yX12_init ∈ zWs := zWs_in 1103 (by decide +kernel) rfl
theorem ol_X12_3 : Cond.methodLink RX12 3 objectInit ∈ zWs := zWs_in 1105 (by decide +kernel) rfl
theorem fl_X12_9 : Cond.fieldLink RX12 9 "SplitSlicesModel" "now" "[I" ∈ zWs := zWs_in 1106 (by decide +kernel) rfl
theorem fl_X12_13 : Cond.fieldLink RX12 13 "SplitSlicesModel" "text" "[B" ∈ zWs := zWs_in 1107 (by decide +kernel) rfl
theorem fl_X12_17 : Cond.fieldLink RX12 17 "SplitSlicesModel" "row" "[J" ∈ zWs := zWs_in 1109 (by decide +kernel) rfl
theorem fl_X12_21 : Cond.fieldLink RX12 21 "SplitSlicesModel" "read" "[I" ∈ zWs := zWs_in 1117 (by decide +kernel) rfl
theorem fl_X12_24 : Cond.fieldLink RX12 24 "SplitSlicesModel" "undos" "[I" ∈ zWs := zWs_in 1118 (by decide +kernel) rfl
theorem fl_X12_27 : Cond.fieldLink RX12 27 "SplitSlicesModel" "then" "[I" ∈ zWs := zWs_in 1120 (by decide +kernel) rfl
theorem fl_X12_30 : Cond.fieldLink RX12 30 "SplitSlicesModel" "is" "[Z" ∈ zWs := zWs_in 1121 (by decide +kernel) rfl
theorem fl_X12_34 : Cond.fieldLink RX12 34 "SplitSlicesModel" "low" "[J" ∈ zWs := zWs_in 1122 (by decide +kernel) rfl
theorem fl_X12_37 : Cond.fieldLink RX12 37 "SplitSlicesModel" "high" "[J" ∈ zWs := zWs_in 1123 (by decide +kernel) rfl
theorem fl_X12_40 : Cond.fieldLink RX12 40 "SplitSlicesModel" "cut" "[I" ∈ zWs := zWs_in 1133 (by decide +kernel) rfl
theorem fl_X12_43 : Cond.fieldLink RX12 43 "SplitSlicesModel" "points" "[I" ∈ zWs := zWs_in 1134 (by decide +kernel) rfl
theorem fl_X12_46 : Cond.fieldLink RX12 46 "SplitSlicesModel" "acts" "[I" ∈ zWs := zWs_in 1139 (by decide +kernel) rfl
theorem fl_X12_49 : Cond.fieldLink RX12 49 "SplitSlicesModel" "kept" "[I" ∈ zWs := zWs_in 1141 (by decide +kernel) rfl
theorem fl_X12_52 : Cond.fieldLink RX12 52 "SplitSlicesModel" "isKept" "[Z" ∈ zWs := zWs_in 1142 (by decide +kernel) rfl
theorem nw_X0 : Cond.instantiable RX0 2 ∈ zWs := List.mem_filter.mpr ⟨by decide +kernel, rfl⟩
theorem nw_X1 : Cond.instantiable RX1 1 ∈ zWs := List.mem_filter.mpr ⟨by decide +kernel, rfl⟩
theorem nw_X2 : Cond.instantiable RX2 2 ∈ zWs := List.mem_filter.mpr ⟨by decide +kernel, rfl⟩
theorem nw_X3 : Cond.instantiable RX3 5 ∈ zWs := List.mem_filter.mpr ⟨by decide +kernel, rfl⟩
theorem nw_X4 : Cond.instantiable RX4 2 ∈ zWs := List.mem_filter.mpr ⟨by decide +kernel, rfl⟩
theorem nw_X5 : Cond.instantiable RX5 4 ∈ zWs := List.mem_filter.mpr ⟨by decide +kernel, rfl⟩
theorem nw_X6 : Cond.instantiable RX6 2 ∈ zWs := List.mem_filter.mpr ⟨by decide +kernel, rfl⟩
theorem nw_X7 : Cond.instantiable RX7 4 ∈ zWs := List.mem_filter.mpr ⟨by decide +kernel, rfl⟩
theorem nw_X8 : Cond.instantiable RX8 2 ∈ zWs := List.mem_filter.mpr ⟨by decide +kernel, rfl⟩
theorem nw_X9 : Cond.instantiable RX9 3 ∈ zWs := List.mem_filter.mpr ⟨by decide +kernel, rfl⟩
theorem nw_X10 : Cond.instantiable RX10 5 ∈ zWs := List.mem_filter.mpr ⟨by decide +kernel, rfl⟩
theorem nw_X11 : Cond.instantiable RX11 13 ∈ zWs := List.mem_filter.mpr ⟨by decide +kernel, rfl⟩
theorem nw_X12 : Cond.instantiable RX12 37 ∈ zWs := List.mem_filter.mpr ⟨by decide +kernel, rfl⟩
theorem mk_X0_17 : zMk RX0 17 yX6_init := Or.inr ⟨"SplitSlices", zNs_in 272 (by decide +kernel) rfl⟩
theorem mk_X2_21 : zMk RX2 21 yX5_init := Or.inr ⟨"SplitSlices", zNs_in 155 (by decide +kernel) rfl⟩
theorem mk_X3_24 : zMk RX3 24 yX6_init := Or.inr ⟨"SplitSlices", zNs_in 327 (by decide +kernel) rfl⟩
theorem mk_X7_19 : zMk RX7 19 yX6_init := Or.inr ⟨"SplitSlices", zNs_in 202 (by decide +kernel) rfl⟩
theorem mk_X7_30 : zMk RX7 30 yX9_init := Or.inr ⟨"SplitSlices", zNs_in 224 (by decide +kernel) rfl⟩
theorem mk_X9_17 : zMk RX9 17 yX6_init := Or.inr ⟨"SplitSlices", zNs_in 229 (by decide +kernel) rfl⟩
theorem mk_X11_9 : zMk RX11 9 yX5_init := Or.inr ⟨"SplitSlices", zNs_in 121 (by decide +kernel) rfl⟩
theorem mk_X11_29 : zMk RX11 29 yX2_init := Or.inl (zWs_in 150 (by decide +kernel) rfl)
theorem mk_X11_36 : zMk RX11 36 yX8_init := Or.inr ⟨"SplitSlices", zNs_in 167 (by decide +kernel) rfl⟩
theorem mk_X11_43 : zMk RX11 43 yX4_init := Or.inr ⟨"SplitSlices", zNs_in 180 (by decide +kernel) rfl⟩
theorem mk_X11_50 : zMk RX11 50 yX7_init := Or.inl (zWs_in 194 (by decide +kernel) rfl)
theorem mk_X11_57 : zMk RX11 57 yX0_init := Or.inr ⟨"SplitSlices", zNs_in 267 (by decide +kernel) rfl⟩
theorem mk_X11_64 : zMk RX11 64 yX10_init := Or.inr ⟨"SplitSlices", zNs_in 283 (by decide +kernel) rfl⟩
theorem mk_X11_77 : zMk RX11 77 yX6_init := Or.inr ⟨"SplitSlices", zNs_in 310 (by decide +kernel) rfl⟩
theorem mk_X11_84 : zMk RX11 84 yX1_init := Or.inr ⟨"SplitSlices", zNs_in 313 (by decide +kernel) rfl⟩
theorem mk_X11_89 : zMk RX11 89 yX3_init := Or.inr ⟨"SplitSlices", zNs_in 322 (by decide +kernel) rfl⟩
noncomputable def pgX0_init : zPg := [(0, o_al 0), (1, o_no), (4, o_al 0), (5, o_ic (15)), (7, o_no), (9, o_no), (12, o_al 0), (13, o_no), (16, o_dup), (17, o_no), (20, o_no), (23, o_no)]
theorem pkX0_init {G : zG} {R : Room} {F : List Frame → Array Value → State → State → Prop} {cs sl : Nat} {C : zCl} {Rt : zRt} : zPOK G R RX0 cX0_init 1 none F cs sl C Rt pgX0_init := by
  refine And.intro (k_aload_n (pc := 0) (by decide +kernel : decode cX0_init 0 = .ok (.aload_n 0, 1)) rfl) ?_
  refine And.intro (k_no) ?_
  refine And.intro (k_aload_n (pc := 4) (by decide +kernel : decode cX0_init 4 = .ok (.aload_n 0, 1)) rfl) ?_
  refine And.intro (k_bipush (pc := 5) (by decide +kernel : decode cX0_init 5 = .ok (.bipush 15, 2)) (by decide)) ?_
  refine And.intro (k_no) ?_
  refine And.intro (k_no) ?_
  refine And.intro (k_aload_n (pc := 12) (by decide +kernel : decode cX0_init 12 = .ok (.aload_n 0, 1)) rfl) ?_
  refine And.intro (k_no) ?_
  refine And.intro (k_dup (pc := 16) (by decide +kernel : decode cX0_init 16 = .ok (.dup, 1))) ?_
  refine And.intro (k_no) ?_
  refine And.intro (k_no) ?_
  refine And.intro (k_no) ?_
  exact trivial
noncomputable def pgX1_init : zPg := [(0, o_al 0), (1, o_no), (4, o_al 0), (5, o_ic (0)), (6, o_pI 1 0), (9, o_no)]
theorem pkX1_init {G : zG} {R : Room} {F : List Frame → Array Value → State → State → Prop} {cs sl : Nat} {C : zCl} {Rt : zRt} : zPOK G R RX1 cX1_init 1 none F cs sl C Rt pgX1_init := by
  refine And.intro (k_aload_n (pc := 0) (by decide +kernel : decode cX1_init 0 = .ok (.aload_n 0, 1)) rfl) ?_
  refine And.intro (k_no) ?_
  refine And.intro (k_aload_n (pc := 4) (by decide +kernel : decode cX1_init 4 = .ok (.aload_n 0, 1)) rfl) ?_
  refine And.intro (k_iconst (pc := 5) (by decide +kernel : decode cX1_init 5 = .ok (.iconst 0, 1)) (by decide)) ?_
  refine And.intro (k_pI (pc := 6) rfl (by decide) rfl zin1 lk_X1_7 tyX1_ok nmX1 rfl (by decide +kernel) (by decide +kernel : decode cX1_init 6 = .ok (.putfield 7, 3))) ?_
  refine And.intro (k_no) ?_
  exact trivial
noncomputable def pgX2_init : zPg := [(0, o_al 0), (1, o_no), (4, o_al 0), (5, o_ic (0)), (6, o_pI 2 0), (9, o_al 0), (10, o_ic (9)), (12, o_no), (15, o_no), (18, o_ic (0)), (19, o_is 1), (20, o_il 1), (21, o_al 0), (22, o_gR 2 1), (25, o_len), (26, o_ic_ge 48), (29, o_al 0), (30, o_gR 2 1), (33, o_il 1), (34, o_no), (37, o_dup), (38, o_no), (41, o_yR 18 5), (42, o_inc 1 (1)), (45, o_go 20), (48, o_no)]
theorem pkX2_init {G : zG} {R : Room} {F : List Frame → Array Value → State → State → Prop} {cs sl : Nat} {C : zCl} {Rt : zRt} : zPOK G R RX2 cX2_init 2 none F cs sl C Rt pgX2_init := by
  refine And.intro (k_aload_n (pc := 0) (by decide +kernel : decode cX2_init 0 = .ok (.aload_n 0, 1)) rfl) ?_
  refine And.intro (k_no) ?_
  refine And.intro (k_aload_n (pc := 4) (by decide +kernel : decode cX2_init 4 = .ok (.aload_n 0, 1)) rfl) ?_
  refine And.intro (k_iconst (pc := 5) (by decide +kernel : decode cX2_init 5 = .ok (.iconst 0, 1)) (by decide)) ?_
  refine And.intro (k_pI (pc := 6) rfl (by decide) rfl zin2 lk_X2_9 tyX2_ok nmX2 rfl (by decide +kernel) (by decide +kernel : decode cX2_init 6 = .ok (.putfield 9, 3))) ?_
  refine And.intro (k_aload_n (pc := 9) (by decide +kernel : decode cX2_init 9 = .ok (.aload_n 0, 1)) rfl) ?_
  refine And.intro (k_bipush (pc := 10) (by decide +kernel : decode cX2_init 10 = .ok (.bipush 9, 2)) (by decide)) ?_
  refine And.intro (k_no) ?_
  refine And.intro (k_no) ?_
  refine And.intro (k_iconst (pc := 18) (by decide +kernel : decode cX2_init 18 = .ok (.iconst 0, 1)) (by decide)) ?_
  refine And.intro (k_istore_n (pc := 19) (by decide +kernel : decode cX2_init 19 = .ok (.istore_n 1, 1)) rfl) ?_
  refine And.intro (k_iload_n (pc := 20) (by decide +kernel : decode cX2_init 20 = .ok (.iload_n 1, 1)) rfl) ?_
  refine And.intro (k_aload_n (pc := 21) (by decide +kernel : decode cX2_init 21 = .ok (.aload_n 0, 1)) rfl) ?_
  refine And.intro (k_gR (pc := 22) rfl (by decide) rfl zin2 lk_X2_17 (by decide +kernel : decode cX2_init 22 = .ok (.getfield 17, 3))) ?_
  refine And.intro (k_alen (pc := 25) (by decide +kernel : decode cX2_init 25 = .ok (.arraylength, 1))) ?_
  refine And.intro (k_icmp_ge (pc := 26) (by decide +kernel : decode cX2_init 26 = .ok (.if_icmp .ge 22, 3)) (by decide)) ?_
  refine And.intro (k_aload_n (pc := 29) (by decide +kernel : decode cX2_init 29 = .ok (.aload_n 0, 1)) rfl) ?_
  refine And.intro (k_gR (pc := 30) rfl (by decide) rfl zin2 lk_X2_17 (by decide +kernel : decode cX2_init 30 = .ok (.getfield 17, 3))) ?_
  refine And.intro (k_iload_n (pc := 33) (by decide +kernel : decode cX2_init 33 = .ok (.iload_n 1, 1)) rfl) ?_
  refine And.intro (k_no) ?_
  refine And.intro (k_dup (pc := 37) (by decide +kernel : decode cX2_init 37 = .ok (.dup, 1))) ?_
  refine And.intro (k_no) ?_
  refine And.intro (k_aast (pc := 41) (by decide +kernel : decode cX2_init 41 = .ok (.aastore, 1))) ?_
  refine And.intro (k_iinc (pc := 42) (by decide +kernel : decode cX2_init 42 = .ok (.iinc 1 1, 3)) (by decide)) ?_
  refine And.intro (k_goto (pc := 45) (by decide +kernel : decode cX2_init 45 = .ok (.goto (-25), 3)) (by decide)) ?_
  refine And.intro (k_no) ?_
  exact trivial
noncomputable def pgX3_init : zPg := [(0, o_al 0), (1, o_no), (4, o_al 0), (5, o_ic (0)), (6, o_pI 3 0), (9, o_al 0), (10, o_ic (0)), (11, o_pI 3 1), (14, o_al 0), (15, o_ic (0)), (16, o_pZ 3 2), (19, o_al 0), (20, o_no), (23, o_dup), (24, o_no), (27, o_no), (30, o_al 0), (31, o_no), (34, o_dup), (35, o_no), (38, o_no), (41, o_no)]
theorem pkX3_init {G : zG} {R : Room} {F : List Frame → Array Value → State → State → Prop} {cs sl : Nat} {C : zCl} {Rt : zRt} : zPOK G R RX3 cX3_init 1 none F cs sl C Rt pgX3_init := by
  refine And.intro (k_aload_n (pc := 0) (by decide +kernel : decode cX3_init 0 = .ok (.aload_n 0, 1)) rfl) ?_
  refine And.intro (k_no) ?_
  refine And.intro (k_aload_n (pc := 4) (by decide +kernel : decode cX3_init 4 = .ok (.aload_n 0, 1)) rfl) ?_
  refine And.intro (k_iconst (pc := 5) (by decide +kernel : decode cX3_init 5 = .ok (.iconst 0, 1)) (by decide)) ?_
  refine And.intro (k_pI (pc := 6) rfl (by decide) rfl zin3 lk_X3_9 tyX3_ok nmX3 rfl (by decide +kernel) (by decide +kernel : decode cX3_init 6 = .ok (.putfield 9, 3))) ?_
  refine And.intro (k_aload_n (pc := 9) (by decide +kernel : decode cX3_init 9 = .ok (.aload_n 0, 1)) rfl) ?_
  refine And.intro (k_iconst (pc := 10) (by decide +kernel : decode cX3_init 10 = .ok (.iconst 0, 1)) (by decide)) ?_
  refine And.intro (k_pI (pc := 11) rfl (by decide) rfl zin3 lk_X3_15 tyX3_ok nmX3 rfl (by decide +kernel) (by decide +kernel : decode cX3_init 11 = .ok (.putfield 15, 3))) ?_
  refine And.intro (k_aload_n (pc := 14) (by decide +kernel : decode cX3_init 14 = .ok (.aload_n 0, 1)) rfl) ?_
  refine And.intro (k_iconst (pc := 15) (by decide +kernel : decode cX3_init 15 = .ok (.iconst 0, 1)) (by decide)) ?_
  refine And.intro (k_pZ (pc := 16) rfl (by decide) rfl zin3 lk_X3_18 tyX3_ok nmX3 rfl (by decide +kernel) (by decide +kernel : decode cX3_init 16 = .ok (.putfield 18, 3))) ?_
  refine And.intro (k_aload_n (pc := 19) (by decide +kernel : decode cX3_init 19 = .ok (.aload_n 0, 1)) rfl) ?_
  refine And.intro (k_no) ?_
  refine And.intro (k_dup (pc := 23) (by decide +kernel : decode cX3_init 23 = .ok (.dup, 1))) ?_
  refine And.intro (k_no) ?_
  refine And.intro (k_no) ?_
  refine And.intro (k_aload_n (pc := 30) (by decide +kernel : decode cX3_init 30 = .ok (.aload_n 0, 1)) rfl) ?_
  refine And.intro (k_no) ?_
  refine And.intro (k_dup (pc := 34) (by decide +kernel : decode cX3_init 34 = .ok (.dup, 1))) ?_
  refine And.intro (k_no) ?_
  refine And.intro (k_no) ?_
  refine And.intro (k_no) ?_
  exact trivial
noncomputable def pgX4_init : zPg := [(0, o_al 0), (1, o_no), (4, o_al 0), (5, o_ic (0)), (6, o_pI 4 0), (9, o_al 0), (10, o_ic (98)), (12, o_no), (14, o_no), (17, o_no)]
theorem pkX4_init {G : zG} {R : Room} {F : List Frame → Array Value → State → State → Prop} {cs sl : Nat} {C : zCl} {Rt : zRt} : zPOK G R RX4 cX4_init 1 none F cs sl C Rt pgX4_init := by
  refine And.intro (k_aload_n (pc := 0) (by decide +kernel : decode cX4_init 0 = .ok (.aload_n 0, 1)) rfl) ?_
  refine And.intro (k_no) ?_
  refine And.intro (k_aload_n (pc := 4) (by decide +kernel : decode cX4_init 4 = .ok (.aload_n 0, 1)) rfl) ?_
  refine And.intro (k_iconst (pc := 5) (by decide +kernel : decode cX4_init 5 = .ok (.iconst 0, 1)) (by decide)) ?_
  refine And.intro (k_pI (pc := 6) rfl (by decide) rfl zin4 lk_X4_9 tyX4_ok nmX4 rfl (by decide +kernel) (by decide +kernel : decode cX4_init 6 = .ok (.putfield 9, 3))) ?_
  refine And.intro (k_aload_n (pc := 9) (by decide +kernel : decode cX4_init 9 = .ok (.aload_n 0, 1)) rfl) ?_
  refine And.intro (k_bipush (pc := 10) (by decide +kernel : decode cX4_init 10 = .ok (.bipush 98, 2)) (by decide)) ?_
  refine And.intro (k_no) ?_
  refine And.intro (k_no) ?_
  refine And.intro (k_no) ?_
  exact trivial
noncomputable def pgX5_init : zPg := [(0, o_al 0), (1, o_no), (4, o_al 0), (5, o_ic (0)), (6, o_pI 5 0), (9, o_al 0), (10, o_ic (0)), (11, o_pI 5 1), (14, o_al 0), (15, o_ic (18)), (17, o_no), (19, o_no), (22, o_al 0), (23, o_ic (8)), (25, o_ic (15)), (27, o_no), (31, o_no), (34, o_no)]
theorem pkX5_init {G : zG} {R : Room} {F : List Frame → Array Value → State → State → Prop} {cs sl : Nat} {C : zCl} {Rt : zRt} : zPOK G R RX5 cX5_init 1 none F cs sl C Rt pgX5_init := by
  refine And.intro (k_aload_n (pc := 0) (by decide +kernel : decode cX5_init 0 = .ok (.aload_n 0, 1)) rfl) ?_
  refine And.intro (k_no) ?_
  refine And.intro (k_aload_n (pc := 4) (by decide +kernel : decode cX5_init 4 = .ok (.aload_n 0, 1)) rfl) ?_
  refine And.intro (k_iconst (pc := 5) (by decide +kernel : decode cX5_init 5 = .ok (.iconst 0, 1)) (by decide)) ?_
  refine And.intro (k_pI (pc := 6) rfl (by decide) rfl zin5 lk_X5_9 tyX5_ok nmX5 rfl (by decide +kernel) (by decide +kernel : decode cX5_init 6 = .ok (.putfield 9, 3))) ?_
  refine And.intro (k_aload_n (pc := 9) (by decide +kernel : decode cX5_init 9 = .ok (.aload_n 0, 1)) rfl) ?_
  refine And.intro (k_iconst (pc := 10) (by decide +kernel : decode cX5_init 10 = .ok (.iconst 0, 1)) (by decide)) ?_
  refine And.intro (k_pI (pc := 11) rfl (by decide) rfl zin5 lk_X5_15 tyX5_ok nmX5 rfl (by decide +kernel) (by decide +kernel : decode cX5_init 11 = .ok (.putfield 15, 3))) ?_
  refine And.intro (k_aload_n (pc := 14) (by decide +kernel : decode cX5_init 14 = .ok (.aload_n 0, 1)) rfl) ?_
  refine And.intro (k_bipush (pc := 15) (by decide +kernel : decode cX5_init 15 = .ok (.bipush 18, 2)) (by decide)) ?_
  refine And.intro (k_no) ?_
  refine And.intro (k_no) ?_
  refine And.intro (k_aload_n (pc := 22) (by decide +kernel : decode cX5_init 22 = .ok (.aload_n 0, 1)) rfl) ?_
  refine And.intro (k_bipush (pc := 23) (by decide +kernel : decode cX5_init 23 = .ok (.bipush 8, 2)) (by decide)) ?_
  refine And.intro (k_bipush (pc := 25) (by decide +kernel : decode cX5_init 25 = .ok (.bipush 15, 2)) (by decide)) ?_
  refine And.intro (k_no) ?_
  refine And.intro (k_no) ?_
  refine And.intro (k_no) ?_
  exact trivial
noncomputable def pgX6_init : zPg := [(0, o_al 0), (1, o_no), (4, o_al 0), (5, o_lc 0), (6, o_pJ 6 0), (9, o_al 0), (10, o_lc 1), (11, o_pJ 6 1), (14, o_no)]
theorem pkX6_init {G : zG} {R : Room} {F : List Frame → Array Value → State → State → Prop} {cs sl : Nat} {C : zCl} {Rt : zRt} : zPOK G R RX6 cX6_init 1 none F cs sl C Rt pgX6_init := by
  refine And.intro (k_aload_n (pc := 0) (by decide +kernel : decode cX6_init 0 = .ok (.aload_n 0, 1)) rfl) ?_
  refine And.intro (k_no) ?_
  refine And.intro (k_aload_n (pc := 4) (by decide +kernel : decode cX6_init 4 = .ok (.aload_n 0, 1)) rfl) ?_
  refine And.intro (k_lconst (pc := 5) (by decide +kernel : decode cX6_init 5 = .ok (.lconst 0, 1)) (by decide)) ?_
  refine And.intro (k_pJ (pc := 6) rfl (by decide) rfl zin6 lk_X6_7 tyX6_ok nmX6 rfl (by decide +kernel) (by decide +kernel : decode cX6_init 6 = .ok (.putfield 7, 3))) ?_
  refine And.intro (k_aload_n (pc := 9) (by decide +kernel : decode cX6_init 9 = .ok (.aload_n 0, 1)) rfl) ?_
  refine And.intro (k_lconst (pc := 10) (by decide +kernel : decode cX6_init 10 = .ok (.lconst 1, 1)) (by decide)) ?_
  refine And.intro (k_pJ (pc := 11) rfl (by decide) rfl zin6 lk_X6_13 tyX6_ok nmX6 rfl (by decide +kernel) (by decide +kernel : decode cX6_init 11 = .ok (.putfield 13, 3))) ?_
  refine And.intro (k_no) ?_
  exact trivial
noncomputable def pgX7_init : zPg := [(0, o_al 0), (1, o_no), (4, o_al 0), (5, o_ic (42)), (7, o_no), (10, o_no), (13, o_al 0), (14, o_no), (17, o_dup), (18, o_no), (21, o_no), (24, o_al 0), (25, o_no), (28, o_dup), (29, o_no), (32, o_no), (35, o_al 0), (36, o_no), (39, o_dup), (40, o_no), (43, o_no), (46, o_ic (0)), (47, o_is 1), (48, o_il 1), (49, o_al 0), (50, o_gR 7 0), (53, o_len), (54, o_ic_ge 76), (57, o_al 0), (58, o_gR 7 0), (61, o_il 1), (62, o_no), (65, o_dup), (66, o_no), (69, o_no), (70, o_inc 1 (1)), (73, o_go 48), (76, o_no)]
theorem pkX7_init {G : zG} {R : Room} {F : List Frame → Array Value → State → State → Prop} {cs sl : Nat} {C : zCl} {Rt : zRt} : zPOK G R RX7 cX7_init 2 none F cs sl C Rt pgX7_init := by
  refine And.intro (k_aload_n (pc := 0) (by decide +kernel : decode cX7_init 0 = .ok (.aload_n 0, 1)) rfl) ?_
  refine And.intro (k_no) ?_
  refine And.intro (k_aload_n (pc := 4) (by decide +kernel : decode cX7_init 4 = .ok (.aload_n 0, 1)) rfl) ?_
  refine And.intro (k_bipush (pc := 5) (by decide +kernel : decode cX7_init 5 = .ok (.bipush 42, 2)) (by decide)) ?_
  refine And.intro (k_no) ?_
  refine And.intro (k_no) ?_
  refine And.intro (k_aload_n (pc := 13) (by decide +kernel : decode cX7_init 13 = .ok (.aload_n 0, 1)) rfl) ?_
  refine And.intro (k_no) ?_
  refine And.intro (k_dup (pc := 17) (by decide +kernel : decode cX7_init 17 = .ok (.dup, 1))) ?_
  refine And.intro (k_no) ?_
  refine And.intro (k_no) ?_
  refine And.intro (k_aload_n (pc := 24) (by decide +kernel : decode cX7_init 24 = .ok (.aload_n 0, 1)) rfl) ?_
  refine And.intro (k_no) ?_
  refine And.intro (k_dup (pc := 28) (by decide +kernel : decode cX7_init 28 = .ok (.dup, 1))) ?_
  refine And.intro (k_no) ?_
  refine And.intro (k_no) ?_
  refine And.intro (k_aload_n (pc := 35) (by decide +kernel : decode cX7_init 35 = .ok (.aload_n 0, 1)) rfl) ?_
  refine And.intro (k_no) ?_
  refine And.intro (k_dup (pc := 39) (by decide +kernel : decode cX7_init 39 = .ok (.dup, 1))) ?_
  refine And.intro (k_no) ?_
  refine And.intro (k_no) ?_
  refine And.intro (k_iconst (pc := 46) (by decide +kernel : decode cX7_init 46 = .ok (.iconst 0, 1)) (by decide)) ?_
  refine And.intro (k_istore_n (pc := 47) (by decide +kernel : decode cX7_init 47 = .ok (.istore_n 1, 1)) rfl) ?_
  refine And.intro (k_iload_n (pc := 48) (by decide +kernel : decode cX7_init 48 = .ok (.iload_n 1, 1)) rfl) ?_
  refine And.intro (k_aload_n (pc := 49) (by decide +kernel : decode cX7_init 49 = .ok (.aload_n 0, 1)) rfl) ?_
  refine And.intro (k_gR (pc := 50) rfl (by decide) rfl zin7 lk_X7_11 (by decide +kernel : decode cX7_init 50 = .ok (.getfield 11, 3))) ?_
  refine And.intro (k_alen (pc := 53) (by decide +kernel : decode cX7_init 53 = .ok (.arraylength, 1))) ?_
  refine And.intro (k_icmp_ge (pc := 54) (by decide +kernel : decode cX7_init 54 = .ok (.if_icmp .ge 22, 3)) (by decide)) ?_
  refine And.intro (k_aload_n (pc := 57) (by decide +kernel : decode cX7_init 57 = .ok (.aload_n 0, 1)) rfl) ?_
  refine And.intro (k_gR (pc := 58) rfl (by decide) rfl zin7 lk_X7_11 (by decide +kernel : decode cX7_init 58 = .ok (.getfield 11, 3))) ?_
  refine And.intro (k_iload_n (pc := 61) (by decide +kernel : decode cX7_init 61 = .ok (.iload_n 1, 1)) rfl) ?_
  refine And.intro (k_no) ?_
  refine And.intro (k_dup (pc := 65) (by decide +kernel : decode cX7_init 65 = .ok (.dup, 1))) ?_
  refine And.intro (k_no) ?_
  refine And.intro (k_no) ?_
  refine And.intro (k_iinc (pc := 70) (by decide +kernel : decode cX7_init 70 = .ok (.iinc 1 1, 3)) (by decide)) ?_
  refine And.intro (k_goto (pc := 73) (by decide +kernel : decode cX7_init 73 = .ok (.goto (-25), 3)) (by decide)) ?_
  refine And.intro (k_no) ?_
  exact trivial
noncomputable def pgX8_init : zPg := [(0, o_al 0), (1, o_no), (4, o_al 0), (5, o_ic (0)), (6, o_pI 8 0), (9, o_al 0), (10, o_ic (80)), (12, o_no), (14, o_no), (17, o_no)]
theorem pkX8_init {G : zG} {R : Room} {F : List Frame → Array Value → State → State → Prop} {cs sl : Nat} {C : zCl} {Rt : zRt} : zPOK G R RX8 cX8_init 1 none F cs sl C Rt pgX8_init := by
  refine And.intro (k_aload_n (pc := 0) (by decide +kernel : decode cX8_init 0 = .ok (.aload_n 0, 1)) rfl) ?_
  refine And.intro (k_no) ?_
  refine And.intro (k_aload_n (pc := 4) (by decide +kernel : decode cX8_init 4 = .ok (.aload_n 0, 1)) rfl) ?_
  refine And.intro (k_iconst (pc := 5) (by decide +kernel : decode cX8_init 5 = .ok (.iconst 0, 1)) (by decide)) ?_
  refine And.intro (k_pI (pc := 6) rfl (by decide) rfl zin8 lk_X8_9 tyX8_ok nmX8 rfl (by decide +kernel) (by decide +kernel : decode cX8_init 6 = .ok (.putfield 9, 3))) ?_
  refine And.intro (k_aload_n (pc := 9) (by decide +kernel : decode cX8_init 9 = .ok (.aload_n 0, 1)) rfl) ?_
  refine And.intro (k_bipush (pc := 10) (by decide +kernel : decode cX8_init 10 = .ok (.bipush 80, 2)) (by decide)) ?_
  refine And.intro (k_no) ?_
  refine And.intro (k_no) ?_
  refine And.intro (k_no) ?_
  exact trivial
noncomputable def pgX9_init : zPg := [(0, o_al 0), (1, o_no), (4, o_al 0), (5, o_ic (1)), (6, o_pZ 9 0), (9, o_al 0), (10, o_no), (13, o_dup), (14, o_no), (17, o_no), (20, o_al 0), (21, o_no), (24, o_dup), (25, o_no), (28, o_no), (31, o_no)]
theorem pkX9_init {G : zG} {R : Room} {F : List Frame → Array Value → State → State → Prop} {cs sl : Nat} {C : zCl} {Rt : zRt} : zPOK G R RX9 cX9_init 1 none F cs sl C Rt pgX9_init := by
  refine And.intro (k_aload_n (pc := 0) (by decide +kernel : decode cX9_init 0 = .ok (.aload_n 0, 1)) rfl) ?_
  refine And.intro (k_no) ?_
  refine And.intro (k_aload_n (pc := 4) (by decide +kernel : decode cX9_init 4 = .ok (.aload_n 0, 1)) rfl) ?_
  refine And.intro (k_iconst (pc := 5) (by decide +kernel : decode cX9_init 5 = .ok (.iconst 1, 1)) (by decide)) ?_
  refine And.intro (k_pZ (pc := 6) rfl (by decide) rfl zin9 lk_X9_9 tyX9_ok nmX9 rfl (by decide +kernel) (by decide +kernel : decode cX9_init 6 = .ok (.putfield 9, 3))) ?_
  refine And.intro (k_aload_n (pc := 9) (by decide +kernel : decode cX9_init 9 = .ok (.aload_n 0, 1)) rfl) ?_
  refine And.intro (k_no) ?_
  refine And.intro (k_dup (pc := 13) (by decide +kernel : decode cX9_init 13 = .ok (.dup, 1))) ?_
  refine And.intro (k_no) ?_
  refine And.intro (k_no) ?_
  refine And.intro (k_aload_n (pc := 20) (by decide +kernel : decode cX9_init 20 = .ok (.aload_n 0, 1)) rfl) ?_
  refine And.intro (k_no) ?_
  refine And.intro (k_dup (pc := 24) (by decide +kernel : decode cX9_init 24 = .ok (.dup, 1))) ?_
  refine And.intro (k_no) ?_
  refine And.intro (k_no) ?_
  refine And.intro (k_no) ?_
  exact trivial
noncomputable def pgX10_init : zPg := [(0, o_al 0), (1, o_no), (4, o_al 0), (5, o_ic (0)), (6, o_pI 10 0), (9, o_al 0), (10, o_ic (0)), (11, o_pI 10 1), (14, o_al 0), (15, o_ic (49)), (17, o_no), (19, o_no), (22, o_al 0), (23, o_ic (49)), (25, o_no), (27, o_no), (30, o_al 0), (31, o_ic (98)), (33, o_no), (35, o_no), (38, o_no)]
theorem pkX10_init {G : zG} {R : Room} {F : List Frame → Array Value → State → State → Prop} {cs sl : Nat} {C : zCl} {Rt : zRt} : zPOK G R RX10 cX10_init 1 none F cs sl C Rt pgX10_init := by
  refine And.intro (k_aload_n (pc := 0) (by decide +kernel : decode cX10_init 0 = .ok (.aload_n 0, 1)) rfl) ?_
  refine And.intro (k_no) ?_
  refine And.intro (k_aload_n (pc := 4) (by decide +kernel : decode cX10_init 4 = .ok (.aload_n 0, 1)) rfl) ?_
  refine And.intro (k_iconst (pc := 5) (by decide +kernel : decode cX10_init 5 = .ok (.iconst 0, 1)) (by decide)) ?_
  refine And.intro (k_pI (pc := 6) rfl (by decide) rfl zin10 lk_X10_9 tyX10_ok nmX10 rfl (by decide +kernel) (by decide +kernel : decode cX10_init 6 = .ok (.putfield 9, 3))) ?_
  refine And.intro (k_aload_n (pc := 9) (by decide +kernel : decode cX10_init 9 = .ok (.aload_n 0, 1)) rfl) ?_
  refine And.intro (k_iconst (pc := 10) (by decide +kernel : decode cX10_init 10 = .ok (.iconst 0, 1)) (by decide)) ?_
  refine And.intro (k_pI (pc := 11) rfl (by decide) rfl zin10 lk_X10_15 tyX10_ok nmX10 rfl (by decide +kernel) (by decide +kernel : decode cX10_init 11 = .ok (.putfield 15, 3))) ?_
  refine And.intro (k_aload_n (pc := 14) (by decide +kernel : decode cX10_init 14 = .ok (.aload_n 0, 1)) rfl) ?_
  refine And.intro (k_bipush (pc := 15) (by decide +kernel : decode cX10_init 15 = .ok (.bipush 49, 2)) (by decide)) ?_
  refine And.intro (k_no) ?_
  refine And.intro (k_no) ?_
  refine And.intro (k_aload_n (pc := 22) (by decide +kernel : decode cX10_init 22 = .ok (.aload_n 0, 1)) rfl) ?_
  refine And.intro (k_bipush (pc := 23) (by decide +kernel : decode cX10_init 23 = .ok (.bipush 49, 2)) (by decide)) ?_
  refine And.intro (k_no) ?_
  refine And.intro (k_no) ?_
  refine And.intro (k_aload_n (pc := 30) (by decide +kernel : decode cX10_init 30 = .ok (.aload_n 0, 1)) rfl) ?_
  refine And.intro (k_bipush (pc := 31) (by decide +kernel : decode cX10_init 31 = .ok (.bipush 98, 2)) (by decide)) ?_
  refine And.intro (k_no) ?_
  refine And.intro (k_no) ?_
  refine And.intro (k_no) ?_
  exact trivial
noncomputable def pgX11_init : zPg := [(0, o_al 0), (1, o_no), (4, o_al 0), (5, o_no), (8, o_dup), (9, o_no), (12, o_no), (15, o_al 0), (16, o_no), (19, o_dup), (20, o_no), (23, o_no), (26, o_al 0), (27, o_ic (2)), (28, o_no), (31, o_no), (34, o_al 0), (35, o_ic (2)), (36, o_no), (38, o_no), (41, o_al 0), (42, o_no), (45, o_dup), (46, o_no), (49, o_no), (52, o_al 0), (53, o_no), (56, o_dup), (57, o_no), (60, o_no), (63, o_al 0), (64, o_no), (67, o_dup), (68, o_no), (71, o_no), (74, o_al 0), (75, o_no), (78, o_dup), (79, o_no), (82, o_no), (85, o_al 0), (86, o_no), (89, o_dup), (90, o_no), (93, o_no), (96, o_al 0), (97, o_no), (100, o_dup), (101, o_no), (104, o_no), (107, o_al 0), (108, o_ic (4)), (109, o_no), (112, o_no), (115, o_al 0), (116, o_no), (119, o_dup), (120, o_no), (123, o_no), (126, o_al 0), (127, o_no), (130, o_dup), (131, o_no), (134, o_no), (137, o_ic (0)), (138, o_is 1), (139, o_il 1), (140, o_al 0), (141, o_gR 11 2), (144, o_len), (145, o_ic_ge 167), (148, o_al 0), (149, o_gR 11 2), (152, o_il 1), (153, o_no), (156, o_dup), (157, o_no), (160, o_yR 18 5), (161, o_inc 1 (1)), (164, o_go 139), (167, o_ic (0)), (168, o_is 1), (169, o_il 1), (170, o_al 0), (171, o_gR 11 10), (174, o_len), (175, o_ic_ge 197), (178, o_al 0), (179, o_gR 11 10), (182, o_il 1), (183, o_no), (186, o_dup), (187, o_no), (190, o_no), (191, o_inc 1 (1)), (194, o_go 169), (197, o_no)]
theorem pkX11_init {G : zG} {R : Room} {F : List Frame → Array Value → State → State → Prop} {cs sl : Nat} {C : zCl} {Rt : zRt} : zPOK G R RX11 cX11_init 2 none F cs sl C Rt pgX11_init := by
  refine And.intro (k_aload_n (pc := 0) (by decide +kernel : decode cX11_init 0 = .ok (.aload_n 0, 1)) rfl) ?_
  refine And.intro (k_no) ?_
  refine And.intro (k_aload_n (pc := 4) (by decide +kernel : decode cX11_init 4 = .ok (.aload_n 0, 1)) rfl) ?_
  refine And.intro (k_no) ?_
  refine And.intro (k_dup (pc := 8) (by decide +kernel : decode cX11_init 8 = .ok (.dup, 1))) ?_
  refine And.intro (k_no) ?_
  refine And.intro (k_no) ?_
  refine And.intro (k_aload_n (pc := 15) (by decide +kernel : decode cX11_init 15 = .ok (.aload_n 0, 1)) rfl) ?_
  refine And.intro (k_no) ?_
  refine And.intro (k_dup (pc := 19) (by decide +kernel : decode cX11_init 19 = .ok (.dup, 1))) ?_
  refine And.intro (k_no) ?_
  refine And.intro (k_no) ?_
  refine And.intro (k_aload_n (pc := 26) (by decide +kernel : decode cX11_init 26 = .ok (.aload_n 0, 1)) rfl) ?_
  refine And.intro (k_iconst (pc := 27) (by decide +kernel : decode cX11_init 27 = .ok (.iconst 2, 1)) (by decide)) ?_
  refine And.intro (k_no) ?_
  refine And.intro (k_no) ?_
  refine And.intro (k_aload_n (pc := 34) (by decide +kernel : decode cX11_init 34 = .ok (.aload_n 0, 1)) rfl) ?_
  refine And.intro (k_iconst (pc := 35) (by decide +kernel : decode cX11_init 35 = .ok (.iconst 2, 1)) (by decide)) ?_
  refine And.intro (k_no) ?_
  refine And.intro (k_no) ?_
  refine And.intro (k_aload_n (pc := 41) (by decide +kernel : decode cX11_init 41 = .ok (.aload_n 0, 1)) rfl) ?_
  refine And.intro (k_no) ?_
  refine And.intro (k_dup (pc := 45) (by decide +kernel : decode cX11_init 45 = .ok (.dup, 1))) ?_
  refine And.intro (k_no) ?_
  refine And.intro (k_no) ?_
  refine And.intro (k_aload_n (pc := 52) (by decide +kernel : decode cX11_init 52 = .ok (.aload_n 0, 1)) rfl) ?_
  refine And.intro (k_no) ?_
  refine And.intro (k_dup (pc := 56) (by decide +kernel : decode cX11_init 56 = .ok (.dup, 1))) ?_
  refine And.intro (k_no) ?_
  refine And.intro (k_no) ?_
  refine And.intro (k_aload_n (pc := 63) (by decide +kernel : decode cX11_init 63 = .ok (.aload_n 0, 1)) rfl) ?_
  refine And.intro (k_no) ?_
  refine And.intro (k_dup (pc := 67) (by decide +kernel : decode cX11_init 67 = .ok (.dup, 1))) ?_
  refine And.intro (k_no) ?_
  refine And.intro (k_no) ?_
  refine And.intro (k_aload_n (pc := 74) (by decide +kernel : decode cX11_init 74 = .ok (.aload_n 0, 1)) rfl) ?_
  refine And.intro (k_no) ?_
  refine And.intro (k_dup (pc := 78) (by decide +kernel : decode cX11_init 78 = .ok (.dup, 1))) ?_
  refine And.intro (k_no) ?_
  refine And.intro (k_no) ?_
  refine And.intro (k_aload_n (pc := 85) (by decide +kernel : decode cX11_init 85 = .ok (.aload_n 0, 1)) rfl) ?_
  refine And.intro (k_no) ?_
  refine And.intro (k_dup (pc := 89) (by decide +kernel : decode cX11_init 89 = .ok (.dup, 1))) ?_
  refine And.intro (k_no) ?_
  refine And.intro (k_no) ?_
  refine And.intro (k_aload_n (pc := 96) (by decide +kernel : decode cX11_init 96 = .ok (.aload_n 0, 1)) rfl) ?_
  refine And.intro (k_no) ?_
  refine And.intro (k_dup (pc := 100) (by decide +kernel : decode cX11_init 100 = .ok (.dup, 1))) ?_
  refine And.intro (k_no) ?_
  refine And.intro (k_no) ?_
  refine And.intro (k_aload_n (pc := 107) (by decide +kernel : decode cX11_init 107 = .ok (.aload_n 0, 1)) rfl) ?_
  refine And.intro (k_iconst (pc := 108) (by decide +kernel : decode cX11_init 108 = .ok (.iconst 4, 1)) (by decide)) ?_
  refine And.intro (k_no) ?_
  refine And.intro (k_no) ?_
  refine And.intro (k_aload_n (pc := 115) (by decide +kernel : decode cX11_init 115 = .ok (.aload_n 0, 1)) rfl) ?_
  refine And.intro (k_no) ?_
  refine And.intro (k_dup (pc := 119) (by decide +kernel : decode cX11_init 119 = .ok (.dup, 1))) ?_
  refine And.intro (k_no) ?_
  refine And.intro (k_no) ?_
  refine And.intro (k_aload_n (pc := 126) (by decide +kernel : decode cX11_init 126 = .ok (.aload_n 0, 1)) rfl) ?_
  refine And.intro (k_no) ?_
  refine And.intro (k_dup (pc := 130) (by decide +kernel : decode cX11_init 130 = .ok (.dup, 1))) ?_
  refine And.intro (k_no) ?_
  refine And.intro (k_no) ?_
  refine And.intro (k_iconst (pc := 137) (by decide +kernel : decode cX11_init 137 = .ok (.iconst 0, 1)) (by decide)) ?_
  refine And.intro (k_istore_n (pc := 138) (by decide +kernel : decode cX11_init 138 = .ok (.istore_n 1, 1)) rfl) ?_
  refine And.intro (k_iload_n (pc := 139) (by decide +kernel : decode cX11_init 139 = .ok (.iload_n 1, 1)) rfl) ?_
  refine And.intro (k_aload_n (pc := 140) (by decide +kernel : decode cX11_init 140 = .ok (.aload_n 0, 1)) rfl) ?_
  refine And.intro (k_gR (pc := 141) rfl (by decide) rfl zin11 lk_X11_19 (by decide +kernel : decode cX11_init 141 = .ok (.getfield 19, 3))) ?_
  refine And.intro (k_alen (pc := 144) (by decide +kernel : decode cX11_init 144 = .ok (.arraylength, 1))) ?_
  refine And.intro (k_icmp_ge (pc := 145) (by decide +kernel : decode cX11_init 145 = .ok (.if_icmp .ge 22, 3)) (by decide)) ?_
  refine And.intro (k_aload_n (pc := 148) (by decide +kernel : decode cX11_init 148 = .ok (.aload_n 0, 1)) rfl) ?_
  refine And.intro (k_gR (pc := 149) rfl (by decide) rfl zin11 lk_X11_19 (by decide +kernel : decode cX11_init 149 = .ok (.getfield 19, 3))) ?_
  refine And.intro (k_iload_n (pc := 152) (by decide +kernel : decode cX11_init 152 = .ok (.iload_n 1, 1)) rfl) ?_
  refine And.intro (k_no) ?_
  refine And.intro (k_dup (pc := 156) (by decide +kernel : decode cX11_init 156 = .ok (.dup, 1))) ?_
  refine And.intro (k_no) ?_
  refine And.intro (k_aast (pc := 160) (by decide +kernel : decode cX11_init 160 = .ok (.aastore, 1))) ?_
  refine And.intro (k_iinc (pc := 161) (by decide +kernel : decode cX11_init 161 = .ok (.iinc 1 1, 3)) (by decide)) ?_
  refine And.intro (k_goto (pc := 164) (by decide +kernel : decode cX11_init 164 = .ok (.goto (-25), 3)) (by decide)) ?_
  refine And.intro (k_iconst (pc := 167) (by decide +kernel : decode cX11_init 167 = .ok (.iconst 0, 1)) (by decide)) ?_
  refine And.intro (k_istore_n (pc := 168) (by decide +kernel : decode cX11_init 168 = .ok (.istore_n 1, 1)) rfl) ?_
  refine And.intro (k_iload_n (pc := 169) (by decide +kernel : decode cX11_init 169 = .ok (.iload_n 1, 1)) rfl) ?_
  refine And.intro (k_aload_n (pc := 170) (by decide +kernel : decode cX11_init 170 = .ok (.aload_n 0, 1)) rfl) ?_
  refine And.intro (k_gR (pc := 171) rfl (by decide) rfl zin11 lk_X11_71 (by decide +kernel : decode cX11_init 171 = .ok (.getfield 71, 3))) ?_
  refine And.intro (k_alen (pc := 174) (by decide +kernel : decode cX11_init 174 = .ok (.arraylength, 1))) ?_
  refine And.intro (k_icmp_ge (pc := 175) (by decide +kernel : decode cX11_init 175 = .ok (.if_icmp .ge 22, 3)) (by decide)) ?_
  refine And.intro (k_aload_n (pc := 178) (by decide +kernel : decode cX11_init 178 = .ok (.aload_n 0, 1)) rfl) ?_
  refine And.intro (k_gR (pc := 179) rfl (by decide) rfl zin11 lk_X11_71 (by decide +kernel : decode cX11_init 179 = .ok (.getfield 71, 3))) ?_
  refine And.intro (k_iload_n (pc := 182) (by decide +kernel : decode cX11_init 182 = .ok (.iload_n 1, 1)) rfl) ?_
  refine And.intro (k_no) ?_
  refine And.intro (k_dup (pc := 186) (by decide +kernel : decode cX11_init 186 = .ok (.dup, 1))) ?_
  refine And.intro (k_no) ?_
  refine And.intro (k_no) ?_
  refine And.intro (k_iinc (pc := 191) (by decide +kernel : decode cX11_init 191 = .ok (.iinc 1 1, 3)) (by decide)) ?_
  refine And.intro (k_goto (pc := 194) (by decide +kernel : decode cX11_init 194 = .ok (.goto (-25), 3)) (by decide)) ?_
  refine And.intro (k_no) ?_
  exact trivial
noncomputable def pgX12_init : zPg := [(0, o_al 0), (1, o_no), (4, o_al 0), (5, o_ic (140)), (8, o_no), (10, o_no), (13, o_al 0), (14, o_ic (80)), (16, o_no), (18, o_no), (21, o_al 0), (22, o_ic (40)), (24, o_no), (26, o_no), (29, o_al 0), (30, o_ic (21)), (32, o_no), (34, o_no), (37, o_al 0), (38, o_ic (1120)), (41, o_no), (43, o_no), (46, o_al 0), (47, o_ic (140)), (50, o_no), (52, o_no), (55, o_al 0), (56, o_ic (42)), (58, o_no), (60, o_no), (63, o_al 0), (64, o_ic (84)), (66, o_no), (68, o_no), (71, o_al 0), (72, o_ic (84)), (74, o_no), (76, o_no), (79, o_al 0), (80, o_ic (15)), (82, o_no), (84, o_no), (87, o_al 0), (88, o_ic (98)), (90, o_no), (92, o_no), (95, o_al 0), (96, o_ic (320)), (99, o_no), (101, o_no), (104, o_al 0), (105, o_ic (280)), (108, o_no), (110, o_no), (113, o_al 0), (114, o_ic (2)), (115, o_no), (117, o_no), (120, o_al 0), (121, o_gR 12 0), (124, o_ic (0)), (125, o_ic (0)), (126, o_yI), (127, o_no)]
theorem pkX12_init {G : zG} {R : Room} {F : List Frame → Array Value → State → State → Prop} {cs sl : Nat} {C : zCl} {Rt : zRt} : zPOK G R RX12 cX12_init 1 none F cs sl C Rt pgX12_init := by
  refine And.intro (k_aload_n (pc := 0) (by decide +kernel : decode cX12_init 0 = .ok (.aload_n 0, 1)) rfl) ?_
  refine And.intro (k_no) ?_
  refine And.intro (k_aload_n (pc := 4) (by decide +kernel : decode cX12_init 4 = .ok (.aload_n 0, 1)) rfl) ?_
  refine And.intro (k_sipush (pc := 5) (by decide +kernel : decode cX12_init 5 = .ok (.sipush 140, 3)) (by decide)) ?_
  refine And.intro (k_no) ?_
  refine And.intro (k_no) ?_
  refine And.intro (k_aload_n (pc := 13) (by decide +kernel : decode cX12_init 13 = .ok (.aload_n 0, 1)) rfl) ?_
  refine And.intro (k_bipush (pc := 14) (by decide +kernel : decode cX12_init 14 = .ok (.bipush 80, 2)) (by decide)) ?_
  refine And.intro (k_no) ?_
  refine And.intro (k_no) ?_
  refine And.intro (k_aload_n (pc := 21) (by decide +kernel : decode cX12_init 21 = .ok (.aload_n 0, 1)) rfl) ?_
  refine And.intro (k_bipush (pc := 22) (by decide +kernel : decode cX12_init 22 = .ok (.bipush 40, 2)) (by decide)) ?_
  refine And.intro (k_no) ?_
  refine And.intro (k_no) ?_
  refine And.intro (k_aload_n (pc := 29) (by decide +kernel : decode cX12_init 29 = .ok (.aload_n 0, 1)) rfl) ?_
  refine And.intro (k_bipush (pc := 30) (by decide +kernel : decode cX12_init 30 = .ok (.bipush 21, 2)) (by decide)) ?_
  refine And.intro (k_no) ?_
  refine And.intro (k_no) ?_
  refine And.intro (k_aload_n (pc := 37) (by decide +kernel : decode cX12_init 37 = .ok (.aload_n 0, 1)) rfl) ?_
  refine And.intro (k_sipush (pc := 38) (by decide +kernel : decode cX12_init 38 = .ok (.sipush 1120, 3)) (by decide)) ?_
  refine And.intro (k_no) ?_
  refine And.intro (k_no) ?_
  refine And.intro (k_aload_n (pc := 46) (by decide +kernel : decode cX12_init 46 = .ok (.aload_n 0, 1)) rfl) ?_
  refine And.intro (k_sipush (pc := 47) (by decide +kernel : decode cX12_init 47 = .ok (.sipush 140, 3)) (by decide)) ?_
  refine And.intro (k_no) ?_
  refine And.intro (k_no) ?_
  refine And.intro (k_aload_n (pc := 55) (by decide +kernel : decode cX12_init 55 = .ok (.aload_n 0, 1)) rfl) ?_
  refine And.intro (k_bipush (pc := 56) (by decide +kernel : decode cX12_init 56 = .ok (.bipush 42, 2)) (by decide)) ?_
  refine And.intro (k_no) ?_
  refine And.intro (k_no) ?_
  refine And.intro (k_aload_n (pc := 63) (by decide +kernel : decode cX12_init 63 = .ok (.aload_n 0, 1)) rfl) ?_
  refine And.intro (k_bipush (pc := 64) (by decide +kernel : decode cX12_init 64 = .ok (.bipush 84, 2)) (by decide)) ?_
  refine And.intro (k_no) ?_
  refine And.intro (k_no) ?_
  refine And.intro (k_aload_n (pc := 71) (by decide +kernel : decode cX12_init 71 = .ok (.aload_n 0, 1)) rfl) ?_
  refine And.intro (k_bipush (pc := 72) (by decide +kernel : decode cX12_init 72 = .ok (.bipush 84, 2)) (by decide)) ?_
  refine And.intro (k_no) ?_
  refine And.intro (k_no) ?_
  refine And.intro (k_aload_n (pc := 79) (by decide +kernel : decode cX12_init 79 = .ok (.aload_n 0, 1)) rfl) ?_
  refine And.intro (k_bipush (pc := 80) (by decide +kernel : decode cX12_init 80 = .ok (.bipush 15, 2)) (by decide)) ?_
  refine And.intro (k_no) ?_
  refine And.intro (k_no) ?_
  refine And.intro (k_aload_n (pc := 87) (by decide +kernel : decode cX12_init 87 = .ok (.aload_n 0, 1)) rfl) ?_
  refine And.intro (k_bipush (pc := 88) (by decide +kernel : decode cX12_init 88 = .ok (.bipush 98, 2)) (by decide)) ?_
  refine And.intro (k_no) ?_
  refine And.intro (k_no) ?_
  refine And.intro (k_aload_n (pc := 95) (by decide +kernel : decode cX12_init 95 = .ok (.aload_n 0, 1)) rfl) ?_
  refine And.intro (k_sipush (pc := 96) (by decide +kernel : decode cX12_init 96 = .ok (.sipush 320, 3)) (by decide)) ?_
  refine And.intro (k_no) ?_
  refine And.intro (k_no) ?_
  refine And.intro (k_aload_n (pc := 104) (by decide +kernel : decode cX12_init 104 = .ok (.aload_n 0, 1)) rfl) ?_
  refine And.intro (k_sipush (pc := 105) (by decide +kernel : decode cX12_init 105 = .ok (.sipush 280, 3)) (by decide)) ?_
  refine And.intro (k_no) ?_
  refine And.intro (k_no) ?_
  refine And.intro (k_aload_n (pc := 113) (by decide +kernel : decode cX12_init 113 = .ok (.aload_n 0, 1)) rfl) ?_
  refine And.intro (k_iconst (pc := 114) (by decide +kernel : decode cX12_init 114 = .ok (.iconst 2, 1)) (by decide)) ?_
  refine And.intro (k_no) ?_
  refine And.intro (k_no) ?_
  refine And.intro (k_aload_n (pc := 120) (by decide +kernel : decode cX12_init 120 = .ok (.aload_n 0, 1)) rfl) ?_
  refine And.intro (k_gR (pc := 121) rfl (by decide) rfl zin12 lk_X12_9 (by decide +kernel : decode cX12_init 121 = .ok (.getfield 9, 3))) ?_
  refine And.intro (k_iconst (pc := 124) (by decide +kernel : decode cX12_init 124 = .ok (.iconst 0, 1)) (by decide)) ?_
  refine And.intro (k_iconst (pc := 125) (by decide +kernel : decode cX12_init 125 = .ok (.iconst 0, 1)) (by decide)) ?_
  refine And.intro (k_iast (pc := 126) (by decide +kernel : decode cX12_init 126 = .ok (.iastore, 1))) ?_
  refine And.intro (k_no) ?_
  exact trivial
