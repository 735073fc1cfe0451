theorem zRoom_self (k : Nat) : zRoom (zRm k) k 0 0 := ⟨Nat.le_refl _, Nat.le_refl _, Nat.le_refl _, Nat.le_refl _⟩
theorem zin0 : ∀ w ∈ u_ws RX0 TX0 2, w ∈ zWs := by decide +kernel
theorem zin1 : ∀ w ∈ u_ws RX1 TX1 1, w ∈ zWs := by decide +kernel
theorem zin2 : ∀ w ∈ u_ws RX2 TX2 2, w ∈ zWs := by decide +kernel
theorem zin3 : ∀ w ∈ u_ws RX3 TX3 5, w ∈ zWs := by decide +kernel
theorem zin4 : ∀ w ∈ u_ws RX4 TX4 2, w ∈ zWs := by decide +kernel
theorem zin5 : ∀ w ∈ u_ws RX5 TX5 4, w ∈ zWs := by decide +kernel
theorem zin6 : ∀ w ∈ u_ws RX6 TX6 2, w ∈ zWs := by decide +kernel
theorem zin7 : ∀ w ∈ u_ws RX7 TX7 4, w ∈ zWs := by decide +kernel
theorem zin8 : ∀ w ∈ u_ws RX8 TX8 2, w ∈ zWs := by decide +kernel
theorem zin9 : ∀ w ∈ u_ws RX9 TX9 3, w ∈ zWs := by decide +kernel
theorem zin10 : ∀ w ∈ u_ws RX10 TX10 5, w ∈ zWs := by decide +kernel
theorem zin11 : ∀ w ∈ u_ws RX11 TX11 13, w ∈ zWs := by decide +kernel
theorem zin12 : ∀ w ∈ u_ws RX12 TX12 37, w ∈ zWs := by decide +kernel
theorem ac_nat : Cond.native arraycopyName ∈ zWs := (zWs_in 529 (by decide +kernel) rfl)
theorem ac_sta : Cond.static arraycopyName ∈ zWs := (zWs_in 528 (by decide +kernel) rfl)
theorem ac_ini : Cond.initialized "java/lang/System" ∈ zWs := (zWs_in 104 (by decide +kernel) rfl)
theorem mk_X11_388 : zMk RX11 388 yJ9_abs_067f4 := Or.inl (zWs_in 616 (by decide +kernel) rfl)
theorem ini_J9 : Cond.initialized RJ9 ∈ zWs := (zWs_in 109 (by decide +kernel) rfl)
theorem dy_J9_abs_067f4 : yJ9_abs_067f4.cls ≠ "java/lang/invoke/MethodHandle" ∧ yJ9_abs_067f4.cls ≠ "java/lang/invoke/VarHandle" ∧ (parseMethodDescriptor yJ9_abs_067f4.desc).map (fun d => d.parameters.length) = some 1 := by decide +kernel
theorem sta_J9_abs_067f4 : Cond.static yJ9_abs_067f4 ∈ zWs := (zWs_in 617 (by decide +kernel) rfl)
theorem lk_X0_9 : zLk RX0 9 "SplitSlices$CutFinder" "found" "[J" := Or.inl (zWs_in 273 (by decide +kernel) rfl)
theorem lk_X0_50 : zLk RX0 50 "SplitSlices$Ratio" "up" "J" := Or.inr ⟨"SplitSlices", zNs_in 208 (by decide +kernel) rfl⟩
theorem lk_X0_54 : zLk RX0 54 "SplitSlices$Ratio" "low" "J" := Or.inr ⟨"SplitSlices", zNs_in 214 (by decide +kernel) rfl⟩
theorem csl_X0_48 : Cond.constantLong RX0 48 (-1) ∈ zWs := (zWs_in 748 (by decide +kernel) rfl)
theorem mk_X0_56 : zMk RX0 56 yX11_greatestDivisor := Or.inr ⟨"SplitSlices", zNs_in 749 (by decide +kernel) rfl⟩
theorem ini_X11 : Cond.initialized RX11 ∈ zWs := (zWs_in 87 (by decide +kernel) rfl)
theorem dy_X11_greatestDivisor : yX11_greatestDivisor.cls ≠ "java/lang/invoke/MethodHandle" ∧ yX11_greatestDivisor.cls ≠ "java/lang/invoke/VarHandle" ∧ (parseMethodDescriptor yX11_greatestDivisor.desc).map (fun d => d.parameters.length) = some 2 := by decide +kernel
theorem sta_X11_greatestDivisor : Cond.static yX11_greatestDivisor ∈ zWs := (zWs_in 614 (by decide +kernel) rfl)
theorem lk_X5_9 : zLk RX5 9 "SplitSlices$Plan" "rowCount" "I" := Or.inl (zWs_in 127 (by decide +kernel) rfl)
theorem lk_X5_18 : zLk RX5 18 "SplitSlices$Plan" "parts" "[I" := Or.inl (zWs_in 133 (by decide +kernel) rfl)
theorem mk_X5_37 : zMk RX5 37 yX5_allRows := Or.inl (zWs_in 499 (by decide +kernel) rfl)
theorem ini_X5 : Cond.initialized RX5 ∈ zWs := (zWs_in 88 (by decide +kernel) rfl)
theorem dy_X5_allRows : yX5_allRows.cls ≠ "java/lang/invoke/MethodHandle" ∧ yX5_allRows.cls ≠ "java/lang/invoke/VarHandle" ∧ (parseMethodDescriptor yX5_allRows.desc).map (fun d => d.parameters.length) = some 0 := by decide +kernel
theorem im_X5_allRows : Cond.instanceMethod yX5_allRows ∈ zWs := (zWs_in 500 (by decide +kernel) rfl)
theorem se_X5_allRows : Cond.selects yX5_allRows.cls yX5_allRows yX5_allRows ∈ zWs := (zWs_in 501 (by decide +kernel) rfl)
theorem mk_X5_41 : zMk RX5 41 yX5_isTold := Or.inl (zWs_in 503 (by decide +kernel) rfl)
theorem dy_X5_isTold : yX5_isTold.cls ≠ "java/lang/invoke/MethodHandle" ∧ yX5_isTold.cls ≠ "java/lang/invoke/VarHandle" ∧ (parseMethodDescriptor yX5_isTold.desc).map (fun d => d.parameters.length) = some 1 := by decide +kernel
theorem im_X5_isTold : Cond.instanceMethod yX5_isTold ∈ zWs := (zWs_in 504 (by decide +kernel) rfl)
theorem se_X5_isTold : Cond.selects yX5_isTold.cls yX5_isTold yX5_isTold ∈ zWs := (zWs_in 505 (by decide +kernel) rfl)
theorem sk_X5_45 : Cond.fieldLinkNest RX5 45 RX11 "BOX" "[I" "SplitSlices" ∈ zNs := zNs_in 507 (by decide +kernel) rfl
theorem mk_X0_78 : zMk RX0 78 yX5_allRows := Or.inl (zWs_in 758 (by decide +kernel) rfl)
theorem mk_X0_64 : zMk RX0 64 yX5_part := Or.inl (zWs_in 759 (by decide +kernel) rfl)
theorem dy_X5_part : yX5_part.cls ≠ "java/lang/invoke/MethodHandle" ∧ yX5_part.cls ≠ "java/lang/invoke/VarHandle" ∧ (parseMethodDescriptor yX5_part.desc).map (fun d => d.parameters.length) = some 2 := by decide +kernel
theorem im_X5_part : Cond.instanceMethod yX5_part ∈ zWs := (zWs_in 496 (by decide +kernel) rfl)
theorem se_X5_part : Cond.selects yX5_part.cls yX5_part yX5_part ∈ zWs := (zWs_in 497 (by decide +kernel) rfl)
theorem mk_X6_16 : zMk RX6 16 yX11_greatestDivisor := Or.inr ⟨"SplitSlices", zNs_in 613 (by decide +kernel) rfl⟩
theorem lk_X6_7 : zLk RX6 7 "SplitSlices$Ratio" "up" "J" := Or.inl (zWs_in 206 (by decide +kernel) rfl)
theorem lk_X6_13 : zLk RX6 13 "SplitSlices$Ratio" "low" "J" := Or.inl (zWs_in 212 (by decide +kernel) rfl)
theorem lk_X0_18 : zLk RX0 18 "SplitSlices$CutFinder" "times" "LSplitSlices$Ratio;" := Or.inl (zWs_in 275 (by decide +kernel) rfl)
theorem mk_X0_74 : zMk RX0 74 yX6_put := Or.inl (zWs_in 764 (by decide +kernel) rfl)
theorem ini_X6 : Cond.initialized RX6 ∈ zWs := (zWs_in 93 (by decide +kernel) rfl)
theorem dy_X6_put : yX6_put.cls ≠ "java/lang/invoke/MethodHandle" ∧ yX6_put.cls ≠ "java/lang/invoke/VarHandle" ∧ (parseMethodDescriptor yX6_put.desc).map (fun d => d.parameters.length) = some 2 := by decide +kernel
theorem im_X6_put : Cond.instanceMethod yX6_put ∈ zWs := (zWs_in 610 (by decide +kernel) rfl)
theorem se_X6_put : Cond.selects yX6_put.cls yX6_put yX6_put ∈ zWs := (zWs_in 611 (by decide +kernel) rfl)
theorem mk_X0_60 : zMk RX0 60 yX0_firstBounding := Or.inl (zWs_in 754 (by decide +kernel) rfl)
theorem ini_X0 : Cond.initialized RX0 ∈ zWs := (zWs_in 95 (by decide +kernel) rfl)
theorem dy_X0_firstBounding : yX0_firstBounding.cls ≠ "java/lang/invoke/MethodHandle" ∧ yX0_firstBounding.cls ≠ "java/lang/invoke/VarHandle" ∧ (parseMethodDescriptor yX0_firstBounding.desc).map (fun d => d.parameters.length) = some 4 := by decide +kernel
theorem im_X0_firstBounding : Cond.instanceMethod yX0_firstBounding ∈ zWs := (zWs_in 756 (by decide +kernel) rfl)
theorem se_X0_firstBounding : Cond.selects yX0_firstBounding.cls yX0_firstBounding yX0_firstBounding ∈ zWs := (zWs_in 9 (by decide +kernel) rfl)
theorem mk_X0_70 : zMk RX0 70 yX0_putTimes := Or.inl (zWs_in 760 (by decide +kernel) rfl)
theorem dy_X0_putTimes : yX0_putTimes.cls ≠ "java/lang/invoke/MethodHandle" ∧ yX0_putTimes.cls ≠ "java/lang/invoke/VarHandle" ∧ (parseMethodDescriptor yX0_putTimes.desc).map (fun d => d.parameters.length) = some 3 := by decide +kernel
theorem im_X0_putTimes : Cond.instanceMethod yX0_putTimes ∈ zWs := (zWs_in 762 (by decide +kernel) rfl)
theorem se_X0_putTimes : Cond.selects yX0_putTimes.cls yX0_putTimes yX0_putTimes ∈ zWs := (zWs_in 10 (by decide +kernel) rfl)
theorem lk_X7_11 : zLk RX7 11 "SplitSlices$Regions" "slices" "[LSplitSlices$Slice;" := Or.inl (zWs_in 252 (by decide +kernel) rfl)
theorem mk_X7_31 : zMk RX7 31 yJ9_floorMod_7cf53 := Or.inl (zWs_in 604 (by decide +kernel) rfl)
theorem dy_J9_floorMod_7cf53 : yJ9_floorMod_7cf53.cls ≠ "java/lang/invoke/MethodHandle" ∧ yJ9_floorMod_7cf53.cls ≠ "java/lang/invoke/VarHandle" ∧ (parseMethodDescriptor yJ9_floorMod_7cf53.desc).map (fun d => d.parameters.length) = some 2 := by decide +kernel
theorem sta_J9_floorMod_7cf53 : Cond.static yJ9_floorMod_7cf53 ∈ zWs := (zWs_in 548 (by decide +kernel) rfl)
theorem lk_X0_28 : zLk RX0 28 "SplitSlices$Slice" "empty" "Z" := Or.inr ⟨"SplitSlices", zNs_in 231 (by decide +kernel) rfl⟩
theorem lk_X0_37 : zLk RX0 37 "SplitSlices$Slice" "low" "LSplitSlices$Ratio;" := Or.inr ⟨"SplitSlices", zNs_in 236 (by decide +kernel) rfl⟩
theorem lk_X0_34 : zLk RX0 34 "SplitSlices$Slice" "high" "LSplitSlices$Ratio;" := Or.inr ⟨"SplitSlices", zNs_in 241 (by decide +kernel) rfl⟩
theorem mk_X0_22 : zMk RX0 22 yX7_at := Or.inl (zWs_in 743 (by decide +kernel) rfl)
theorem ini_X7 : Cond.initialized RX7 ∈ zWs := (zWs_in 92 (by decide +kernel) rfl)
theorem dy_X7_at : yX7_at.cls ≠ "java/lang/invoke/MethodHandle" ∧ yX7_at.cls ≠ "java/lang/invoke/VarHandle" ∧ (parseMethodDescriptor yX7_at.desc).map (fun d => d.parameters.length) = some 3 := by decide +kernel
theorem im_X7_at : Cond.instanceMethod yX7_at ∈ zWs := (zWs_in 601 (by decide +kernel) rfl)
theorem se_X7_at : Cond.selects yX7_at.cls yX7_at yX7_at ∈ zWs := (zWs_in 602 (by decide +kernel) rfl)
theorem mk_X0_40 : zMk RX0 40 yX0_putLine := Or.inl (zWs_in 744 (by decide +kernel) rfl)
theorem dy_X0_putLine : yX0_putLine.cls ≠ "java/lang/invoke/MethodHandle" ∧ yX0_putLine.cls ≠ "java/lang/invoke/VarHandle" ∧ (parseMethodDescriptor yX0_putLine.desc).map (fun d => d.parameters.length) = some 3 := by decide +kernel
theorem im_X0_putLine : Cond.instanceMethod yX0_putLine ∈ zWs := (zWs_in 746 (by decide +kernel) rfl)
theorem se_X0_putLine : Cond.selects yX0_putLine.cls yX0_putLine yX0_putLine ∈ zWs := (zWs_in 7 (by decide +kernel) rfl)
theorem mk_X0_44 : zMk RX0 44 yX0_putProof := Or.inl (zWs_in 750 (by decide +kernel) rfl)
theorem dy_X0_putProof : yX0_putProof.cls ≠ "java/lang/invoke/MethodHandle" ∧ yX0_putProof.cls ≠ "java/lang/invoke/VarHandle" ∧ (parseMethodDescriptor yX0_putProof.desc).map (fun d => d.parameters.length) = some 4 := by decide +kernel
theorem im_X0_putProof : Cond.instanceMethod yX0_putProof ∈ zWs := (zWs_in 752 (by decide +kernel) rfl)
theorem se_X0_putProof : Cond.selects yX0_putProof.cls yX0_putProof yX0_putProof ∈ zWs := (zWs_in 8 (by decide +kernel) rfl)
theorem lk_X1_7 : zLk RX1 7 "SplitSlices$Draws" "state" "I" := Or.inl (zWs_in 317 (by decide +kernel) rfl)
theorem cst_X1_13 : Cond.constant RX1 13 (1103515245) ∈ zWs := (zWs_in 985 (by decide +kernel) rfl)
theorem lk_X2_17 : zLk RX2 17 "SplitSlices$History" "past" "[LSplitSlices$Plan;" := Or.inl (zWs_in 158 (by decide +kernel) rfl)
theorem ac_X5_31 : Cond.methodLink RX5 31 arraycopyName ∈ zWs := (zWs_in 527 (by decide +kernel) rfl)
theorem lk_X5_15 : zLk RX5 15 "SplitSlices$Plan" "cutCount" "I" := Or.inl (zWs_in 130 (by decide +kernel) rfl)
theorem lk_X5_24 : zLk RX5 24 "SplitSlices$Plan" "cuts" "[[J" := Or.inl (zWs_in 134 (by decide +kernel) rfl)
theorem mk_X5_27 : zMk RX5 27 yX5_copyRows := Or.inl (zWs_in 523 (by decide +kernel) rfl)
theorem dy_X5_copyRows : yX5_copyRows.cls ≠ "java/lang/invoke/MethodHandle" ∧ yX5_copyRows.cls ≠ "java/lang/invoke/VarHandle" ∧ (parseMethodDescriptor yX5_copyRows.desc).map (fun d => d.parameters.length) = some 1 := by decide +kernel
theorem im_X5_copyRows : Cond.instanceMethod yX5_copyRows ∈ zWs := (zWs_in 524 (by decide +kernel) rfl)
theorem se_X5_copyRows : Cond.selects yX5_copyRows.cls yX5_copyRows yX5_copyRows ∈ zWs := (zWs_in 525 (by decide +kernel) rfl)
theorem lk_X2_9 : zLk RX2 9 "SplitSlices$History" "size" "I" := Or.inl (zWs_in 156 (by decide +kernel) rfl)
theorem mk_X2_22 : zMk RX2 22 yX5_copy := Or.inl (zWs_in 519 (by decide +kernel) rfl)
theorem dy_X5_copy : yX5_copy.cls ≠ "java/lang/invoke/MethodHandle" ∧ yX5_copy.cls ≠ "java/lang/invoke/VarHandle" ∧ (parseMethodDescriptor yX5_copy.desc).map (fun d => d.parameters.length) = some 1 := by decide +kernel
theorem im_X5_copy : Cond.instanceMethod yX5_copy ∈ zWs := (zWs_in 520 (by decide +kernel) rfl)
theorem se_X5_copy : Cond.selects yX5_copy.cls yX5_copy yX5_copy ∈ zWs := (zWs_in 521 (by decide +kernel) rfl)
theorem lk_X3_9 : zLk RX3 9 "SplitSlices$Most" "a" "I" := Or.inl (zWs_in 328 (by decide +kernel) rfl)
theorem lk_X3_15 : zLk RX3 15 "SplitSlices$Most" "b" "I" := Or.inl (zWs_in 329 (by decide +kernel) rfl)
theorem lk_X3_18 : zLk RX3 18 "SplitSlices$Most" "found" "Z" := Or.inl (zWs_in 330 (by decide +kernel) rfl)
theorem lk_X3_29 : zLk RX3 29 "SplitSlices$Most" "value" "LSplitSlices$Ratio;" := Or.inl (zWs_in 334 (by decide +kernel) rfl)
theorem lk_X3_25 : zLk RX3 25 "SplitSlices$Most" "best" "LSplitSlices$Ratio;" := Or.inl (zWs_in 332 (by decide +kernel) rfl)
theorem mk_X3_32 : zMk RX3 32 yX6_put := Or.inl (zWs_in 901 (by decide +kernel) rfl)
theorem mk_X3_36 : zMk RX3 36 yX6_isBelow := Or.inl (zWs_in 902 (by decide +kernel) rfl)
theorem dy_X6_isBelow : yX6_isBelow.cls ≠ "java/lang/invoke/MethodHandle" ∧ yX6_isBelow.cls ≠ "java/lang/invoke/VarHandle" ∧ (parseMethodDescriptor yX6_isBelow.desc).map (fun d => d.parameters.length) = some 1 := by decide +kernel
theorem im_X6_isBelow : Cond.instanceMethod yX6_isBelow ∈ zWs := (zWs_in 631 (by decide +kernel) rfl)
theorem se_X6_isBelow : Cond.selects yX6_isBelow.cls yX6_isBelow yX6_isBelow ∈ zWs := (zWs_in 632 (by decide +kernel) rfl)
theorem mk_X3_40 : zMk RX3 40 yX6_copy := Or.inl (zWs_in 903 (by decide +kernel) rfl)
theorem dy_X6_copy : yX6_copy.cls ≠ "java/lang/invoke/MethodHandle" ∧ yX6_copy.cls ≠ "java/lang/invoke/VarHandle" ∧ (parseMethodDescriptor yX6_copy.desc).map (fun d => d.parameters.length) = some 1 := by decide +kernel
theorem im_X6_copy : Cond.instanceMethod yX6_copy ∈ zWs := (zWs_in 648 (by decide +kernel) rfl)
theorem se_X6_copy : Cond.selects yX6_copy.cls yX6_copy yX6_copy ∈ zWs := (zWs_in 649 (by decide +kernel) rfl)
theorem mk_X5_48 : zMk RX5 48 yX5_part := Or.inl (zWs_in 495 (by decide +kernel) rfl)
theorem mk_X3_54 : zMk RX3 54 yX5_part := Or.inl (zWs_in 895 (by decide +kernel) rfl)
theorem mk_X3_58 : zMk RX3 58 yX5_holds := Or.inl (zWs_in 896 (by decide +kernel) rfl)
theorem dy_X5_holds : yX5_holds.cls ≠ "java/lang/invoke/MethodHandle" ∧ yX5_holds.cls ≠ "java/lang/invoke/VarHandle" ∧ (parseMethodDescriptor yX5_holds.desc).map (fun d => d.parameters.length) = some 4 := by decide +kernel
theorem im_X5_holds : Cond.instanceMethod yX5_holds ∈ zWs := (zWs_in 690 (by decide +kernel) rfl)
theorem se_X5_holds : Cond.selects yX5_holds.cls yX5_holds yX5_holds ∈ zWs := (zWs_in 691 (by decide +kernel) rfl)
theorem mk_X3_62 : zMk RX3 62 yX3_offer := Or.inl (zWs_in 897 (by decide +kernel) rfl)
theorem ini_X3 : Cond.initialized RX3 ∈ zWs := (zWs_in 98 (by decide +kernel) rfl)
theorem dy_X3_offer : yX3_offer.cls ≠ "java/lang/invoke/MethodHandle" ∧ yX3_offer.cls ≠ "java/lang/invoke/VarHandle" ∧ (parseMethodDescriptor yX3_offer.desc).map (fun d => d.parameters.length) = some 2 := by decide +kernel
theorem im_X3_offer : Cond.instanceMethod yX3_offer ∈ zWs := (zWs_in 899 (by decide +kernel) rfl)
theorem se_X3_offer : Cond.selects yX3_offer.cls yX3_offer yX3_offer ∈ zWs := (zWs_in 17 (by decide +kernel) rfl)
theorem mk_X3_44 : zMk RX3 44 yX5_allRows := Or.inl (zWs_in 890 (by decide +kernel) rfl)
theorem mk_X3_50 : zMk RX3 50 yX3_offerCorner := Or.inl (zWs_in 891 (by decide +kernel) rfl)
theorem dy_X3_offerCorner : yX3_offerCorner.cls ≠ "java/lang/invoke/MethodHandle" ∧ yX3_offerCorner.cls ≠ "java/lang/invoke/VarHandle" ∧ (parseMethodDescriptor yX3_offerCorner.desc).map (fun d => d.parameters.length) = some 3 := by decide +kernel
theorem im_X3_offerCorner : Cond.instanceMethod yX3_offerCorner ∈ zWs := (zWs_in 893 (by decide +kernel) rfl)
theorem se_X3_offerCorner : Cond.selects yX3_offerCorner.cls yX3_offerCorner yX3_offerCorner ∈ zWs := (zWs_in 16 (by decide +kernel) rfl)
theorem lk_X3_86 : zLk RX3 86 "SplitSlices$Ratio" "low" "J" := Or.inr ⟨"SplitSlices", zNs_in 216 (by decide +kernel) rfl⟩
theorem lk_X3_89 : zLk RX3 89 "SplitSlices$Ratio" "up" "J" := Or.inr ⟨"SplitSlices", zNs_in 210 (by decide +kernel) rfl⟩
theorem lk_X3_71 : zLk RX3 71 "SplitSlices$Slice" "empty" "Z" := Or.inr ⟨"SplitSlices", zNs_in 232 (by decide +kernel) rfl⟩
theorem lk_X3_76 : zLk RX3 76 "SplitSlices$Slice" "low" "LSplitSlices$Ratio;" := Or.inr ⟨"SplitSlices", zNs_in 237 (by decide +kernel) rfl⟩
theorem lk_X3_83 : zLk RX3 83 "SplitSlices$Slice" "high" "LSplitSlices$Ratio;" := Or.inr ⟨"SplitSlices", zNs_in 242 (by decide +kernel) rfl⟩
theorem mk_X3_65 : zMk RX3 65 yX7_at := Or.inl (zWs_in 913 (by decide +kernel) rfl)
theorem mk_X3_79 : zMk RX3 79 yX3_offerEnd := Or.inl (zWs_in 914 (by decide +kernel) rfl)
theorem dy_X3_offerEnd : yX3_offerEnd.cls ≠ "java/lang/invoke/MethodHandle" ∧ yX3_offerEnd.cls ≠ "java/lang/invoke/VarHandle" ∧ (parseMethodDescriptor yX3_offerEnd.desc).map (fun d => d.parameters.length) = some 3 := by decide +kernel
theorem im_X3_offerEnd : Cond.instanceMethod yX3_offerEnd ∈ zWs := (zWs_in 916 (by decide +kernel) rfl)
theorem se_X3_offerEnd : Cond.selects yX3_offerEnd.cls yX3_offerEnd yX3_offerEnd ∈ zWs := (zWs_in 18 (by decide +kernel) rfl)
theorem lk_X10_9 : zLk RX10 9 "SplitSlices$WholePoints" "size" "I" := Or.inl (zWs_in 287 (by decide +kernel) rfl)
theorem lk_X10_18 : zLk RX10 18 "SplitSlices$WholePoints" "xs" "[I" := Or.inl (zWs_in 292 (by decide +kernel) rfl)
theorem lk_X10_22 : zLk RX10 22 "SplitSlices$WholePoints" "ys" "[I" := Or.inl (zWs_in 293 (by decide +kernel) rfl)
theorem mk_X10_34 : zMk RX10 34 yX10_has := Or.inl (zWs_in 816 (by decide +kernel) rfl)
theorem ini_X10 : Cond.initialized RX10 ∈ zWs := (zWs_in 96 (by decide +kernel) rfl)
theorem dy_X10_has : yX10_has.cls ≠ "java/lang/invoke/MethodHandle" ∧ yX10_has.cls ≠ "java/lang/invoke/VarHandle" ∧ (parseMethodDescriptor yX10_has.desc).map (fun d => d.parameters.length) = some 1 := by decide +kernel
theorem im_X10_has : Cond.instanceMethod yX10_has ∈ zWs := (zWs_in 817 (by decide +kernel) rfl)
theorem se_X10_has : Cond.selects yX10_has.cls yX10_has yX10_has ∈ zWs := (zWs_in 818 (by decide +kernel) rfl)
theorem lk_X3_92 : zLk RX3 92 "SplitSlices$WholePoints" "size" "I" := Or.inr ⟨"SplitSlices", zNs_in 288 (by decide +kernel) rfl⟩
theorem mk_X3_97 : zMk RX3 97 yX10_sum := Or.inl (zWs_in 908 (by decide +kernel) rfl)
theorem dy_X10_sum : yX10_sum.cls ≠ "java/lang/invoke/MethodHandle" ∧ yX10_sum.cls ≠ "java/lang/invoke/VarHandle" ∧ (parseMethodDescriptor yX10_sum.desc).map (fun d => d.parameters.length) = some 3 := by decide +kernel
theorem im_X10_sum : Cond.instanceMethod yX10_sum ∈ zWs := (zWs_in 813 (by decide +kernel) rfl)
theorem se_X10_sum : Cond.selects yX10_sum.cls yX10_sum yX10_sum ∈ zWs := (zWs_in 814 (by decide +kernel) rfl)
theorem lk_X4_9 : zLk RX4 9 "SplitSlices$Numbers" "size" "I" := Or.inl (zWs_in 184 (by decide +kernel) rfl)
theorem lk_X4_15 : zLk RX4 15 "SplitSlices$Numbers" "numbers" "[J" := Or.inl (zWs_in 186 (by decide +kernel) rfl)
theorem lk_X4_19 : zLk RX4 19 "SplitSlices$Ratio" "up" "J" := Or.inr ⟨"SplitSlices", zNs_in 209 (by decide +kernel) rfl⟩
theorem lk_X4_29 : zLk RX4 29 "SplitSlices$Ratio" "low" "J" := Or.inr ⟨"SplitSlices", zNs_in 215 (by decide +kernel) rfl⟩
theorem mk_X4_25 : zMk RX4 25 yX4_tell := Or.inl (zWs_in 674 (by decide +kernel) rfl)
theorem ini_X4 : Cond.initialized RX4 ∈ zWs := (zWs_in 91 (by decide +kernel) rfl)
theorem dy_X4_tell : yX4_tell.cls ≠ "java/lang/invoke/MethodHandle" ∧ yX4_tell.cls ≠ "java/lang/invoke/VarHandle" ∧ (parseMethodDescriptor yX4_tell.desc).map (fun d => d.parameters.length) = some 1 := by decide +kernel
theorem im_X4_tell : Cond.instanceMethod yX4_tell ∈ zWs := (zWs_in 675 (by decide +kernel) rfl)
theorem se_X4_tell : Cond.selects yX4_tell.cls yX4_tell yX4_tell ∈ zWs := (zWs_in 676 (by decide +kernel) rfl)
theorem mk_X11_337 : zMk RX11 337 yX11_isBound := Or.inl (zWs_in 512 (by decide +kernel) rfl)
theorem dy_X11_isBound : yX11_isBound.cls ≠ "java/lang/invoke/MethodHandle" ∧ yX11_isBound.cls ≠ "java/lang/invoke/VarHandle" ∧ (parseMethodDescriptor yX11_isBound.desc).map (fun d => d.parameters.length) = some 1 := by decide +kernel
theorem sta_X11_isBound : Cond.static yX11_isBound ∈ zWs := (zWs_in 513 (by decide +kernel) rfl)
theorem mk_X5_52 : zMk RX5 52 yX11_isRow := Or.inr ⟨"SplitSlices", zNs_in 509 (by decide +kernel) rfl⟩
theorem dy_X11_isRow : yX11_isRow.cls ≠ "java/lang/invoke/MethodHandle" ∧ yX11_isRow.cls ≠ "java/lang/invoke/VarHandle" ∧ (parseMethodDescriptor yX11_isRow.desc).map (fun d => d.parameters.length) = some 3 := by decide +kernel
theorem sta_X11_isRow : Cond.static yX11_isRow ∈ zWs := (zWs_in 510 (by decide +kernel) rfl)
theorem mk_X5_56 : zMk RX5 56 yX11_isBound := Or.inr ⟨"SplitSlices", zNs_in 562 (by decide +kernel) rfl⟩
theorem mk_X5_59 : zMk RX5 59 yX5_putBound := Or.inl (zWs_in 563 (by decide +kernel) rfl)
theorem dy_X5_putBound : yX5_putBound.cls ≠ "java/lang/invoke/MethodHandle" ∧ yX5_putBound.cls ≠ "java/lang/invoke/VarHandle" ∧ (parseMethodDescriptor yX5_putBound.desc).map (fun d => d.parameters.length) = some 2 := by decide +kernel
theorem im_X5_putBound : Cond.instanceMethod yX5_putBound ∈ zWs := (zWs_in 551 (by decide +kernel) rfl)
theorem se_X5_putBound : Cond.selects yX5_putBound.cls yX5_putBound yX5_putBound ∈ zWs := (zWs_in 552 (by decide +kernel) rfl)
theorem mk_X5_63 : zMk RX5 63 yX5_append := Or.inl (zWs_in 572 (by decide +kernel) rfl)
theorem dy_X5_append : yX5_append.cls ≠ "java/lang/invoke/MethodHandle" ∧ yX5_append.cls ≠ "java/lang/invoke/VarHandle" ∧ (parseMethodDescriptor yX5_append.desc).map (fun d => d.parameters.length) = some 3 := by decide +kernel
theorem im_X5_append : Cond.instanceMethod yX5_append ∈ zWs := (zWs_in 488 (by decide +kernel) rfl)
theorem se_X5_append : Cond.selects yX5_append.cls yX5_append yX5_append ∈ zWs := (zWs_in 489 (by decide +kernel) rfl)
theorem mk_X5_67 : zMk RX5 67 yX5_hasCut := Or.inl (zWs_in 789 (by decide +kernel) rfl)
theorem dy_X5_hasCut : yX5_hasCut.cls ≠ "java/lang/invoke/MethodHandle" ∧ yX5_hasCut.cls ≠ "java/lang/invoke/VarHandle" ∧ (parseMethodDescriptor yX5_hasCut.desc).map (fun d => d.parameters.length) = some 1 := by decide +kernel
theorem im_X5_hasCut : Cond.instanceMethod yX5_hasCut ∈ zWs := (zWs_in 782 (by decide +kernel) rfl)
theorem se_X5_hasCut : Cond.selects yX5_hasCut.cls yX5_hasCut yX5_hasCut ∈ zWs := (zWs_in 783 (by decide +kernel) rfl)
theorem csl_X5_77 : Cond.constantLong RX5 77 (-1) ∈ zWs := (zWs_in 794 (by decide +kernel) rfl)
theorem mk_X5_73 : zMk RX5 73 yX5_halfChecks := Or.inl (zWs_in 790 (by decide +kernel) rfl)
theorem dy_X5_halfChecks : yX5_halfChecks.cls ≠ "java/lang/invoke/MethodHandle" ∧ yX5_halfChecks.cls ≠ "java/lang/invoke/VarHandle" ∧ (parseMethodDescriptor yX5_halfChecks.desc).map (fun d => d.parameters.length) = some 2 := by decide +kernel
theorem im_X5_halfChecks : Cond.instanceMethod yX5_halfChecks ∈ zWs := (zWs_in 792 (by decide +kernel) rfl)
theorem se_X5_halfChecks : Cond.selects yX5_halfChecks.cls yX5_halfChecks yX5_halfChecks ∈ zWs := (zWs_in 12 (by decide +kernel) rfl)
theorem mk_X5_70 : zMk RX5 70 yX5_proofChecks := Or.inl (zWs_in 1007 (by decide +kernel) rfl)
theorem dy_X5_proofChecks : yX5_proofChecks.cls ≠ "java/lang/invoke/MethodHandle" ∧ yX5_proofChecks.cls ≠ "java/lang/invoke/VarHandle" ∧ (parseMethodDescriptor yX5_proofChecks.desc).map (fun d => d.parameters.length) = some 1 := by decide +kernel
theorem im_X5_proofChecks : Cond.instanceMethod yX5_proofChecks ∈ zWs := (zWs_in 786 (by decide +kernel) rfl)
theorem se_X5_proofChecks : Cond.selects yX5_proofChecks.cls yX5_proofChecks yX5_proofChecks ∈ zWs := (zWs_in 787 (by decide +kernel) rfl)
theorem mk_X6_22 : zMk RX6 22 yX6_put := Or.inl (zWs_in 729 (by decide +kernel) rfl)
theorem lk_X7_110 : zLk RX7 110 "SplitSlices$Ratio" "up" "J" := Or.inr ⟨"SplitSlices", zNs_in 211 (by decide +kernel) rfl⟩
theorem lk_X7_114 : zLk RX7 114 "SplitSlices$Ratio" "low" "J" := Or.inr ⟨"SplitSlices", zNs_in 217 (by decide +kernel) rfl⟩
theorem lk_X7_27 : zLk RX7 27 "SplitSlices$Regions" "crossing" "LSplitSlices$Ratio;" := Or.inl (zWs_in 255 (by decide +kernel) rfl)
theorem lk_X7_20 : zLk RX7 20 "SplitSlices$Regions" "from" "LSplitSlices$Ratio;" := Or.inl (zWs_in 253 (by decide +kernel) rfl)
theorem lk_X7_24 : zLk RX7 24 "SplitSlices$Regions" "to" "LSplitSlices$Ratio;" := Or.inl (zWs_in 254 (by decide +kernel) rfl)
theorem mk_X7_80 : zMk RX7 80 yX6_put := Or.inl (zWs_in 642 (by decide +kernel) rfl)
theorem mk_X7_106 : zMk RX7 106 yX6_isBelow := Or.inl (zWs_in 659 (by decide +kernel) rfl)
theorem mk_X7_116 : zMk RX7 116 yX6_copy := Or.inl (zWs_in 660 (by decide +kernel) rfl)
theorem lk_X9_9 : zLk RX9 9 "SplitSlices$Slice" "empty" "Z" := Or.inl (zWs_in 230 (by decide +kernel) rfl)
theorem lk_X9_18 : zLk RX9 18 "SplitSlices$Slice" "low" "LSplitSlices$Ratio;" := Or.inl (zWs_in 235 (by decide +kernel) rfl)
theorem lk_X9_22 : zLk RX9 22 "SplitSlices$Slice" "high" "LSplitSlices$Ratio;" := Or.inl (zWs_in 240 (by decide +kernel) rfl)
theorem mk_X9_37 : zMk RX9 37 yX6_isBelow := Or.inl (zWs_in 630 (by decide +kernel) rfl)
theorem mk_X9_41 : zMk RX9 41 yX6_copy := Or.inl (zWs_in 647 (by decide +kernel) rfl)
theorem lk_X7_72 : zLk RX7 72 "SplitSlices$Slice" "empty" "Z" := Or.inr ⟨"SplitSlices", zNs_in 233 (by decide +kernel) rfl⟩
theorem lk_X7_96 : zLk RX7 96 "SplitSlices$Slice" "low" "LSplitSlices$Ratio;" := Or.inr ⟨"SplitSlices", zNs_in 238 (by decide +kernel) rfl⟩
theorem lk_X7_103 : zLk RX7 103 "SplitSlices$Slice" "high" "LSplitSlices$Ratio;" := Or.inr ⟨"SplitSlices", zNs_in 243 (by decide +kernel) rfl⟩
theorem mk_X7_99 : zMk RX7 99 yX7_narrow := Or.inl (zWs_in 655 (by decide +kernel) rfl)
theorem dy_X7_narrow : yX7_narrow.cls ≠ "java/lang/invoke/MethodHandle" ∧ yX7_narrow.cls ≠ "java/lang/invoke/VarHandle" ∧ (parseMethodDescriptor yX7_narrow.desc).map (fun d => d.parameters.length) = some 5 := by decide +kernel
theorem im_X7_narrow : Cond.instanceMethod yX7_narrow ∈ zWs := (zWs_in 657 (by decide +kernel) rfl)
theorem se_X7_narrow : Cond.selects yX7_narrow.cls yX7_narrow yX7_narrow ∈ zWs := (zWs_in 5 (by decide +kernel) rfl)
theorem mk_X7_84 : zMk RX7 84 yX9_join := Or.inl (zWs_in 643 (by decide +kernel) rfl)
theorem ini_X9 : Cond.initialized RX9 ∈ zWs := (zWs_in 94 (by decide +kernel) rfl)
theorem dy_X9_join : yX9_join.cls ≠ "java/lang/invoke/MethodHandle" ∧ yX9_join.cls ≠ "java/lang/invoke/VarHandle" ∧ (parseMethodDescriptor yX9_join.desc).map (fun d => d.parameters.length) = some 2 := by decide +kernel
theorem im_X9_join : Cond.instanceMethod yX9_join ∈ zWs := (zWs_in 644 (by decide +kernel) rfl)
theorem se_X9_join : Cond.selects yX9_join.cls yX9_join yX9_join ∈ zWs := (zWs_in 645 (by decide +kernel) rfl)
theorem lk_X9_34 : zLk RX9 34 "SplitSlices$Ratio" "up" "J" := Or.inr ⟨"SplitSlices", zNs_in 207 (by decide +kernel) rfl⟩
theorem lk_X9_31 : zLk RX9 31 "SplitSlices$Ratio" "low" "J" := Or.inr ⟨"SplitSlices", zNs_in 213 (by decide +kernel) rfl⟩
theorem mk_X7_49 : zMk RX7 49 yX7_at := Or.inl (zWs_in 600 (by decide +kernel) rfl)
theorem mk_X7_76 : zMk RX7 76 yX9_contains := Or.inl (zWs_in 638 (by decide +kernel) rfl)
theorem dy_X9_contains : yX9_contains.cls ≠ "java/lang/invoke/MethodHandle" ∧ yX9_contains.cls ≠ "java/lang/invoke/VarHandle" ∧ (parseMethodDescriptor yX9_contains.desc).map (fun d => d.parameters.length) = some 2 := by decide +kernel
theorem im_X9_contains : Cond.instanceMethod yX9_contains ∈ zWs := (zWs_in 639 (by decide +kernel) rfl)
theorem se_X9_contains : Cond.selects yX9_contains.cls yX9_contains yX9_contains ∈ zWs := (zWs_in 640 (by decide +kernel) rfl)
theorem mk_X7_88 : zMk RX7 88 yX7_joinBetween := Or.inl (zWs_in 651 (by decide +kernel) rfl)
theorem dy_X7_joinBetween : yX7_joinBetween.cls ≠ "java/lang/invoke/MethodHandle" ∧ yX7_joinBetween.cls ≠ "java/lang/invoke/VarHandle" ∧ (parseMethodDescriptor yX7_joinBetween.desc).map (fun d => d.parameters.length) = some 5 := by decide +kernel
theorem im_X7_joinBetween : Cond.instanceMethod yX7_joinBetween ∈ zWs := (zWs_in 653 (by decide +kernel) rfl)
theorem se_X7_joinBetween : Cond.selects yX7_joinBetween.cls yX7_joinBetween yX7_joinBetween ∈ zWs := (zWs_in 4 (by decide +kernel) rfl)
theorem mk_X7_92 : zMk RX7 92 yX9_meet := Or.inl (zWs_in 661 (by decide +kernel) rfl)
theorem dy_X9_meet : yX9_meet.cls ≠ "java/lang/invoke/MethodHandle" ∧ yX9_meet.cls ≠ "java/lang/invoke/VarHandle" ∧ (parseMethodDescriptor yX9_meet.desc).map (fun d => d.parameters.length) = some 1 := by decide +kernel
theorem im_X9_meet : Cond.instanceMethod yX9_meet ∈ zWs := (zWs_in 662 (by decide +kernel) rfl)
theorem se_X9_meet : Cond.selects yX9_meet.cls yX9_meet yX9_meet ∈ zWs := (zWs_in 663 (by decide +kernel) rfl)
theorem mk_X7_69 : zMk RX7 69 yX9_emptyIfCrossed := Or.inl (zWs_in 626 (by decide +kernel) rfl)
theorem dy_X9_emptyIfCrossed : yX9_emptyIfCrossed.cls ≠ "java/lang/invoke/MethodHandle" ∧ yX9_emptyIfCrossed.cls ≠ "java/lang/invoke/VarHandle" ∧ (parseMethodDescriptor yX9_emptyIfCrossed.desc).map (fun d => d.parameters.length) = some 0 := by decide +kernel
theorem im_X9_emptyIfCrossed : Cond.instanceMethod yX9_emptyIfCrossed ∈ zWs := (zWs_in 627 (by decide +kernel) rfl)
theorem se_X9_emptyIfCrossed : Cond.selects yX9_emptyIfCrossed.cls yX9_emptyIfCrossed yX9_emptyIfCrossed ∈ zWs := (zWs_in 628 (by decide +kernel) rfl)
theorem mk_X9_25 : zMk RX9 25 yX6_put := Or.inl (zWs_in 609 (by decide +kernel) rfl)
theorem csl_X9_29 : Cond.constantLong RX9 29 (6) ∈ zWs := (zWs_in 619 (by decide +kernel) rfl)
theorem mk_X7_53 : zMk RX7 53 yX9_fill := Or.inl (zWs_in 605 (by decide +kernel) rfl)
theorem dy_X9_fill : yX9_fill.cls ≠ "java/lang/invoke/MethodHandle" ∧ yX9_fill.cls ≠ "java/lang/invoke/VarHandle" ∧ (parseMethodDescriptor yX9_fill.desc).map (fun d => d.parameters.length) = some 0 := by decide +kernel
theorem im_X9_fill : Cond.instanceMethod yX9_fill ∈ zWs := (zWs_in 606 (by decide +kernel) rfl)
theorem se_X9_fill : Cond.selects yX9_fill.cls yX9_fill yX9_fill ∈ zWs := (zWs_in 607 (by decide +kernel) rfl)
theorem mk_X7_56 : zMk RX7 56 yX5_allRows := Or.inl (zWs_in 620 (by decide +kernel) rfl)
theorem mk_X7_62 : zMk RX7 62 yX5_part := Or.inl (zWs_in 621 (by decide +kernel) rfl)
theorem mk_X7_65 : zMk RX7 65 yX9_capBy := Or.inl (zWs_in 622 (by decide +kernel) rfl)
theorem dy_X9_capBy : yX9_capBy.cls ≠ "java/lang/invoke/MethodHandle" ∧ yX9_capBy.cls ≠ "java/lang/invoke/VarHandle" ∧ (parseMethodDescriptor yX9_capBy.desc).map (fun d => d.parameters.length) = some 2 := by decide +kernel
theorem im_X9_capBy : Cond.instanceMethod yX9_capBy ∈ zWs := (zWs_in 623 (by decide +kernel) rfl)
theorem se_X9_capBy : Cond.selects yX9_capBy.cls yX9_capBy yX9_capBy ∈ zWs := (zWs_in 624 (by decide +kernel) rfl)
theorem mk_X7_45 : zMk RX7 45 yX7_boundByRows := Or.inl (zWs_in 596 (by decide +kernel) rfl)
theorem dy_X7_boundByRows : yX7_boundByRows.cls ≠ "java/lang/invoke/MethodHandle" ∧ yX7_boundByRows.cls ≠ "java/lang/invoke/VarHandle" ∧ (parseMethodDescriptor yX7_boundByRows.desc).map (fun d => d.parameters.length) = some 3 := by decide +kernel
theorem im_X7_boundByRows : Cond.instanceMethod yX7_boundByRows ∈ zWs := (zWs_in 598 (by decide +kernel) rfl)
theorem se_X7_boundByRows : Cond.selects yX7_boundByRows.cls yX7_boundByRows yX7_boundByRows ∈ zWs := (zWs_in 2 (by decide +kernel) rfl)
theorem mk_X7_37 : zMk RX7 37 yX7_workOutFirst := Or.inl (zWs_in 592 (by decide +kernel) rfl)
theorem dy_X7_workOutFirst : yX7_workOutFirst.cls ≠ "java/lang/invoke/MethodHandle" ∧ yX7_workOutFirst.cls ≠ "java/lang/invoke/VarHandle" ∧ (parseMethodDescriptor yX7_workOutFirst.desc).map (fun d => d.parameters.length) = some 1 := by decide +kernel
theorem im_X7_workOutFirst : Cond.instanceMethod yX7_workOutFirst ∈ zWs := (zWs_in 593 (by decide +kernel) rfl)
theorem se_X7_workOutFirst : Cond.selects yX7_workOutFirst.cls yX7_workOutFirst yX7_workOutFirst ∈ zWs := (zWs_in 594 (by decide +kernel) rfl)
theorem mk_X7_41 : zMk RX7 41 yX7_boundBySplits := Or.inl (zWs_in 634 (by decide +kernel) rfl)
theorem dy_X7_boundBySplits : yX7_boundBySplits.cls ≠ "java/lang/invoke/MethodHandle" ∧ yX7_boundBySplits.cls ≠ "java/lang/invoke/VarHandle" ∧ (parseMethodDescriptor yX7_boundBySplits.desc).map (fun d => d.parameters.length) = some 3 := by decide +kernel
theorem im_X7_boundBySplits : Cond.instanceMethod yX7_boundBySplits ∈ zWs := (zWs_in 636 (by decide +kernel) rfl)
theorem se_X7_boundBySplits : Cond.selects yX7_boundBySplits.cls yX7_boundBySplits yX7_boundBySplits ∈ zWs := (zWs_in 3 (by decide +kernel) rfl)
theorem mk_X7_132 : zMk RX7 132 yJ13_compare_74951 := Or.inl (zWs_in 700 (by decide +kernel) rfl)
theorem ini_J13 : Cond.initialized RJ13 ∈ zWs := (zWs_in 110 (by decide +kernel) rfl)
theorem dy_J13_compare_74951 : yJ13_compare_74951.cls ≠ "java/lang/invoke/MethodHandle" ∧ yJ13_compare_74951.cls ≠ "java/lang/invoke/VarHandle" ∧ (parseMethodDescriptor yJ13_compare_74951.desc).map (fun d => d.parameters.length) = some 2 := by decide +kernel
theorem sta_J13_compare_74951 : Cond.static yJ13_compare_74951 ∈ zWs := (zWs_in 701 (by decide +kernel) rfl)
theorem mk_X7_128 : zMk RX7 128 yX7_aboveLine := Or.inl (zWs_in 697 (by decide +kernel) rfl)
theorem dy_X7_aboveLine : yX7_aboveLine.cls ≠ "java/lang/invoke/MethodHandle" ∧ yX7_aboveLine.cls ≠ "java/lang/invoke/VarHandle" ∧ (parseMethodDescriptor yX7_aboveLine.desc).map (fun d => d.parameters.length) = some 5 := by decide +kernel
theorem sta_X7_aboveLine : Cond.static yX7_aboveLine ∈ zWs := (zWs_in 698 (by decide +kernel) rfl)
theorem mk_X7_120 : zMk RX7 120 yX5_holds := Or.inl (zWs_in 689 (by decide +kernel) rfl)
theorem mk_X7_124 : zMk RX7 124 yX7_passes := Or.inl (zWs_in 693 (by decide +kernel) rfl)
theorem dy_X7_passes : yX7_passes.cls ≠ "java/lang/invoke/MethodHandle" ∧ yX7_passes.cls ≠ "java/lang/invoke/VarHandle" ∧ (parseMethodDescriptor yX7_passes.desc).map (fun d => d.parameters.length) = some 5 := by decide +kernel
theorem im_X7_passes : Cond.instanceMethod yX7_passes ∈ zWs := (zWs_in 694 (by decide +kernel) rfl)
theorem se_X7_passes : Cond.selects yX7_passes.cls yX7_passes yX7_passes ∈ zWs := (zWs_in 695 (by decide +kernel) rfl)
theorem mk_X7_138 : zMk RX7 138 yX6_putDifference := Or.inl (zWs_in 725 (by decide +kernel) rfl)
theorem dy_X6_putDifference : yX6_putDifference.cls ≠ "java/lang/invoke/MethodHandle" ∧ yX6_putDifference.cls ≠ "java/lang/invoke/VarHandle" ∧ (parseMethodDescriptor yX6_putDifference.desc).map (fun d => d.parameters.length) = some 2 := by decide +kernel
theorem im_X6_putDifference : Cond.instanceMethod yX6_putDifference ∈ zWs := (zWs_in 726 (by decide +kernel) rfl)
theorem se_X6_putDifference : Cond.selects yX6_putDifference.cls yX6_putDifference yX6_putDifference ∈ zWs := (zWs_in 727 (by decide +kernel) rfl)
theorem lk_X8_9 : zLk RX8 9 "SplitSlices$Signs" "size" "I" := Or.inl (zWs_in 171 (by decide +kernel) rfl)
theorem lk_X8_15 : zLk RX8 15 "SplitSlices$Signs" "signs" "[I" := Or.inl (zWs_in 172 (by decide +kernel) rfl)
theorem mk_X8_19 : zMk RX8 19 yX8_at := Or.inl (zWs_in 471 (by decide +kernel) rfl)
theorem ini_X8 : Cond.initialized RX8 ∈ zWs := (zWs_in 90 (by decide +kernel) rfl)
theorem dy_X8_at : yX8_at.cls ≠ "java/lang/invoke/MethodHandle" ∧ yX8_at.cls ≠ "java/lang/invoke/VarHandle" ∧ (parseMethodDescriptor yX8_at.desc).map (fun d => d.parameters.length) = some 1 := by decide +kernel
theorem im_X8_at : Cond.instanceMethod yX8_at ∈ zWs := (zWs_in 472 (by decide +kernel) rfl)
theorem se_X8_at : Cond.selects yX8_at.cls yX8_at yX8_at ∈ zWs := (zWs_in 473 (by decide +kernel) rfl)
theorem lk_J0_15 : zLk RJ0 15 "java/lang/String" "coder" "B" := Or.inl (zWs_in 1653 (by decide +kernel) rfl)
theorem mk_J1_9 : zMk RJ1 9 yJ0_checkIndex_df160 := Or.inl (zWs_in 440 (by decide +kernel) rfl)
theorem ini_J0 : Cond.initialized RJ0 ∈ zWs := (zWs_in 100 (by decide +kernel) rfl)
theorem dy_J0_checkIndex_df160 : yJ0_checkIndex_df160.cls ≠ "java/lang/invoke/MethodHandle" ∧ yJ0_checkIndex_df160.cls ≠ "java/lang/invoke/VarHandle" ∧ (parseMethodDescriptor yJ0_checkIndex_df160.desc).map (fun d => d.parameters.length) = some 2 := by decide +kernel
theorem sta_J0_checkIndex_df160 : Cond.static yJ0_checkIndex_df160 ∈ zWs := (zWs_in 441 (by decide +kernel) rfl)
theorem mk_J2_48 : zMk RJ2 48 yJ2_length_9d52b := Or.inl (zWs_in 454 (by decide +kernel) rfl)
theorem ini_J2 : Cond.initialized RJ2 ∈ zWs := (zWs_in 103 (by decide +kernel) rfl)
theorem dy_J2_length_9d52b : yJ2_length_9d52b.cls ≠ "java/lang/invoke/MethodHandle" ∧ yJ2_length_9d52b.cls ≠ "java/lang/invoke/VarHandle" ∧ (parseMethodDescriptor yJ2_length_9d52b.desc).map (fun d => d.parameters.length) = some 1 := by decide +kernel
theorem sta_J2_length_9d52b : Cond.static yJ2_length_9d52b ∈ zWs := (zWs_in 455 (by decide +kernel) rfl)
theorem mk_J2_414 : zMk RJ2 414 yJ0_checkIndex_df160 := Or.inl (zWs_in 457 (by decide +kernel) rfl)
theorem mk_J2_67 : zMk RJ2 67 yJ2_checkIndex_2214a := Or.inl (zWs_in 451 (by decide +kernel) rfl)
theorem dy_J2_checkIndex_2214a : yJ2_checkIndex_2214a.cls ≠ "java/lang/invoke/MethodHandle" ∧ yJ2_checkIndex_2214a.cls ≠ "java/lang/invoke/VarHandle" ∧ (parseMethodDescriptor yJ2_checkIndex_2214a.desc).map (fun d => d.parameters.length) = some 2 := by decide +kernel
theorem sta_J2_checkIndex_2214a : Cond.static yJ2_checkIndex_2214a ∈ zWs := (zWs_in 452 (by decide +kernel) rfl)
theorem mk_J2_71 : zMk RJ2 71 yJ2_getChar_3b067 := Or.inl (zWs_in 458 (by decide +kernel) rfl)
theorem dy_J2_getChar_3b067 : yJ2_getChar_3b067.cls ≠ "java/lang/invoke/MethodHandle" ∧ yJ2_getChar_3b067.cls ≠ "java/lang/invoke/VarHandle" ∧ (parseMethodDescriptor yJ2_getChar_3b067.desc).map (fun d => d.parameters.length) = some 2 := by decide +kernel
theorem sta_J2_getChar_3b067 : Cond.static yJ2_getChar_3b067 ∈ zWs := (zWs_in 459 (by decide +kernel) rfl)
theorem lk_J0_9 : zLk RJ0 9 "java/lang/String" "value" "[B" := Or.inl (zWs_in 1652 (by decide +kernel) rfl)
theorem mk_J0_492 : zMk RJ0 492 yJ0_isLatin1_aae02 := Or.inl (zWs_in 433 (by decide +kernel) rfl)
theorem dy_J0_isLatin1_aae02 : yJ0_isLatin1_aae02.cls ≠ "java/lang/invoke/MethodHandle" ∧ yJ0_isLatin1_aae02.cls ≠ "java/lang/invoke/VarHandle" ∧ (parseMethodDescriptor yJ0_isLatin1_aae02.desc).map (fun d => d.parameters.length) = some 0 := by decide +kernel
theorem mk_X8_37 : zMk RX8 37 yX8_isDigit := Or.inl (zWs_in 475 (by decide +kernel) rfl)
theorem dy_X8_isDigit : yX8_isDigit.cls ≠ "java/lang/invoke/MethodHandle" ∧ yX8_isDigit.cls ≠ "java/lang/invoke/VarHandle" ∧ (parseMethodDescriptor yX8_isDigit.desc).map (fun d => d.parameters.length) = some 1 := by decide +kernel
theorem im_X8_isDigit : Cond.instanceMethod yX8_isDigit ∈ zWs := (zWs_in 476 (by decide +kernel) rfl)
theorem se_X8_isDigit : Cond.selects yX8_isDigit.cls yX8_isDigit yX8_isDigit ∈ zWs := (zWs_in 477 (by decide +kernel) rfl)
theorem mk_X8_23 : zMk RX8 23 yJ0_length_8abf5 := Or.inl (zWs_in 419 (by decide +kernel) rfl)
theorem dy_J0_length_8abf5 : yJ0_length_8abf5.cls ≠ "java/lang/invoke/MethodHandle" ∧ yJ0_length_8abf5.cls ≠ "java/lang/invoke/VarHandle" ∧ (parseMethodDescriptor yJ0_length_8abf5.desc).map (fun d => d.parameters.length) = some 0 := by decide +kernel
theorem mk_X8_41 : zMk RX8 41 yX8_number := Or.inl (zWs_in 479 (by decide +kernel) rfl)
theorem dy_X8_number : yX8_number.cls ≠ "java/lang/invoke/MethodHandle" ∧ yX8_number.cls ≠ "java/lang/invoke/VarHandle" ∧ (parseMethodDescriptor yX8_number.desc).map (fun d => d.parameters.length) = some 2 := by decide +kernel
theorem im_X8_number : Cond.instanceMethod yX8_number ∈ zWs := (zWs_in 480 (by decide +kernel) rfl)
theorem se_X8_number : Cond.selects yX8_number.cls yX8_number yX8_number ∈ zWs := (zWs_in 481 (by decide +kernel) rfl)
theorem lk_X8_45 : zLk RX8 45 "SplitSlices$Plan" "rowCount" "I" := Or.inr ⟨"SplitSlices", zNs_in 129 (by decide +kernel) rfl⟩
theorem mk_X8_63 : zMk RX8 63 yX8_actForm := Or.inl (zWs_in 941 (by decide +kernel) rfl)
theorem dy_X8_actForm : yX8_actForm.cls ≠ "java/lang/invoke/MethodHandle" ∧ yX8_actForm.cls ≠ "java/lang/invoke/VarHandle" ∧ (parseMethodDescriptor yX8_actForm.desc).map (fun d => d.parameters.length) = some 1 := by decide +kernel
theorem im_X8_actForm : Cond.instanceMethod yX8_actForm ∈ zWs := (zWs_in 943 (by decide +kernel) rfl)
theorem se_X8_actForm : Cond.selects yX8_actForm.cls yX8_actForm yX8_actForm ∈ zWs := (zWs_in 19 (by decide +kernel) rfl)
theorem mk_X8_52 : zMk RX8 52 yX8_misfit := Or.inl (zWs_in 415 (by decide +kernel) rfl)
theorem dy_X8_misfit : yX8_misfit.cls ≠ "java/lang/invoke/MethodHandle" ∧ yX8_misfit.cls ≠ "java/lang/invoke/VarHandle" ∧ (parseMethodDescriptor yX8_misfit.desc).map (fun d => d.parameters.length) = some 2 := by decide +kernel
theorem im_X8_misfit : Cond.instanceMethod yX8_misfit ∈ zWs := (zWs_in 416 (by decide +kernel) rfl)
theorem se_X8_misfit : Cond.selects yX8_misfit.cls yX8_misfit yX8_misfit ∈ zWs := (zWs_in 417 (by decide +kernel) rfl)
theorem mk_X8_67 : zMk RX8 67 yX8_actLength := Or.inl (zWs_in 949 (by decide +kernel) rfl)
theorem dy_X8_actLength : yX8_actLength.cls ≠ "java/lang/invoke/MethodHandle" ∧ yX8_actLength.cls ≠ "java/lang/invoke/VarHandle" ∧ (parseMethodDescriptor yX8_actLength.desc).map (fun d => d.parameters.length) = some 1 := by decide +kernel
theorem im_X8_actLength : Cond.instanceMethod yX8_actLength ∈ zWs := (zWs_in 950 (by decide +kernel) rfl)
theorem se_X8_actLength : Cond.selects yX8_actLength.cls yX8_actLength yX8_actLength ∈ zWs := (zWs_in 951 (by decide +kernel) rfl)
theorem mk_X10_28 : zMk RX10 28 yX5_holds := Or.inl (zWs_in 807 (by decide +kernel) rfl)
theorem mk_X10_38 : zMk RX10 38 yX4_tell := Or.inl (zWs_in 845 (by decide +kernel) rfl)
theorem mk_X10_44 : zMk RX10 44 yX10_sum := Or.inl (zWs_in 812 (by decide +kernel) rfl)
theorem lk_X10_48 : zLk RX10 48 "SplitSlices$Plan" "cutCount" "I" := Or.inr ⟨"SplitSlices", zNs_in 131 (by decide +kernel) rfl⟩
theorem mk_X10_51 : zMk RX10 51 yX5_cutExcess := Or.inl (zWs_in 1012 (by decide +kernel) rfl)
theorem dy_X5_cutExcess : yX5_cutExcess.cls ≠ "java/lang/invoke/MethodHandle" ∧ yX5_cutExcess.cls ≠ "java/lang/invoke/VarHandle" ∧ (parseMethodDescriptor yX5_cutExcess.desc).map (fun d => d.parameters.length) = some 4 := by decide +kernel
theorem im_X5_cutExcess : Cond.instanceMethod yX5_cutExcess ∈ zWs := (zWs_in 833 (by decide +kernel) rfl)
theorem se_X5_cutExcess : Cond.selects yX5_cutExcess.cls yX5_cutExcess yX5_cutExcess ∈ zWs := (zWs_in 834 (by decide +kernel) rfl)
theorem lk_X10_15 : zLk RX10 15 "SplitSlices$WholePoints" "corners" "I" := Or.inl (zWs_in 290 (by decide +kernel) rfl)
theorem lk_X10_25 : zLk RX10 25 "SplitSlices$WholePoints" "chain" "[I" := Or.inl (zWs_in 294 (by decide +kernel) rfl)
theorem mk_X10_59 : zMk RX10 59 yX10_turn := Or.inl (zWs_in 858 (by decide +kernel) rfl)
theorem dy_X10_turn : yX10_turn.cls ≠ "java/lang/invoke/MethodHandle" ∧ yX10_turn.cls ≠ "java/lang/invoke/VarHandle" ∧ (parseMethodDescriptor yX10_turn.desc).map (fun d => d.parameters.length) = some 3 := by decide +kernel
theorem im_X10_turn : Cond.instanceMethod yX10_turn ∈ zWs := (zWs_in 860 (by decide +kernel) rfl)
theorem se_X10_turn : Cond.selects yX10_turn.cls yX10_turn yX10_turn ∈ zWs := (zWs_in 14 (by decide +kernel) rfl)
theorem mk_X10_55 : zMk RX10 55 yX10_link := Or.inl (zWs_in 854 (by decide +kernel) rfl)
theorem dy_X10_link : yX10_link.cls ≠ "java/lang/invoke/MethodHandle" ∧ yX10_link.cls ≠ "java/lang/invoke/VarHandle" ∧ (parseMethodDescriptor yX10_link.desc).map (fun d => d.parameters.length) = some 2 := by decide +kernel
theorem im_X10_link : Cond.instanceMethod yX10_link ∈ zWs := (zWs_in 856 (by decide +kernel) rfl)
theorem se_X10_link : Cond.selects yX10_link.cls yX10_link yX10_link ∈ zWs := (zWs_in 13 (by decide +kernel) rfl)
theorem lk_X11_19 : zLk RX11 19 "SplitSlices" "kept" "[LSplitSlices$Plan;" := Or.inl (zWs_in 348 (by decide +kernel) rfl)
theorem lk_X11_71 : zLk RX11 71 "SplitSlices" "mosts" "[LSplitSlices$Most;" := Or.inl (zWs_in 356 (by decide +kernel) rfl)
theorem lk_X11_37 : zLk RX11 37 "SplitSlices" "text" "LSplitSlices$Signs;" := Or.inl (zWs_in 351 (by decide +kernel) rfl)
theorem mk_X11_90 : zMk RX11 90 yX8_size := Or.inl (zWs_in 390 (by decide +kernel) rfl)
theorem dy_X8_size : yX8_size.cls ≠ "java/lang/invoke/MethodHandle" ∧ yX8_size.cls ≠ "java/lang/invoke/VarHandle" ∧ (parseMethodDescriptor yX8_size.desc).map (fun d => d.parameters.length) = some 0 := by decide +kernel
theorem im_X8_size : Cond.instanceMethod yX8_size ∈ zWs := (zWs_in 391 (by decide +kernel) rfl)
theorem se_X8_size : Cond.selects yX8_size.cls yX8_size yX8_size ∈ zWs := (zWs_in 392 (by decide +kernel) rfl)
theorem mk_X11_94 : zMk RX11 94 yX8_append := Or.inl (zWs_in 394 (by decide +kernel) rfl)
theorem dy_X8_append : yX8_append.cls ≠ "java/lang/invoke/MethodHandle" ∧ yX8_append.cls ≠ "java/lang/invoke/VarHandle" ∧ (parseMethodDescriptor yX8_append.desc).map (fun d => d.parameters.length) = some 1 := by decide +kernel
theorem im_X8_append : Cond.instanceMethod yX8_append ∈ zWs := (zWs_in 395 (by decide +kernel) rfl)
theorem se_X8_append : Cond.selects yX8_append.cls yX8_append yX8_append ∈ zWs := (zWs_in 396 (by decide +kernel) rfl)
theorem mk_X11_98 : zMk RX11 98 yX8_shorten := Or.inl (zWs_in 402 (by decide +kernel) rfl)
theorem dy_X8_shorten : yX8_shorten.cls ≠ "java/lang/invoke/MethodHandle" ∧ yX8_shorten.cls ≠ "java/lang/invoke/VarHandle" ∧ (parseMethodDescriptor yX8_shorten.desc).map (fun d => d.parameters.length) = some 1 := by decide +kernel
theorem im_X8_shorten : Cond.instanceMethod yX8_shorten ∈ zWs := (zWs_in 403 (by decide +kernel) rfl)
theorem se_X8_shorten : Cond.selects yX8_shorten.cls yX8_shorten yX8_shorten ∈ zWs := (zWs_in 404 (by decide +kernel) rfl)
theorem lk_X11_30 : zLk RX11 30 "SplitSlices" "history" "LSplitSlices$History;" := Or.inl (zWs_in 350 (by decide +kernel) rfl)
theorem mk_X11_160 : zMk RX11 160 yX2_close := Or.inl (zWs_in 535 (by decide +kernel) rfl)
theorem ini_X2 : Cond.initialized RX2 ∈ zWs := (zWs_in 89 (by decide +kernel) rfl)
theorem dy_X2_close : yX2_close.cls ≠ "java/lang/invoke/MethodHandle" ∧ yX2_close.cls ≠ "java/lang/invoke/VarHandle" ∧ (parseMethodDescriptor yX2_close.desc).map (fun d => d.parameters.length) = some 0 := by decide +kernel
theorem im_X2_close : Cond.instanceMethod yX2_close ∈ zWs := (zWs_in 536 (by decide +kernel) rfl)
theorem se_X2_close : Cond.selects yX2_close.cls yX2_close yX2_close ∈ zWs := (zWs_in 537 (by decide +kernel) rfl)
theorem lk_X11_16 : zLk RX11 16 "SplitSlices" "trial" "LSplitSlices$Plan;" := Or.inl (zWs_in 347 (by decide +kernel) rfl)
theorem lk_X11_10 : zLk RX11 10 "SplitSlices" "now" "LSplitSlices$Plan;" := Or.inl (zWs_in 346 (by decide +kernel) rfl)
theorem lk_X11_116 : zLk RX11 116 "SplitSlices$Plan" "rowCount" "I" := Or.inr ⟨"SplitSlices", zNs_in 128 (by decide +kernel) rfl⟩
theorem mk_X11_102 : zMk RX11 102 yX8_readRows := Or.inl (zWs_in 410 (by decide +kernel) rfl)
theorem dy_X8_readRows : yX8_readRows.cls ≠ "java/lang/invoke/MethodHandle" ∧ yX8_readRows.cls ≠ "java/lang/invoke/VarHandle" ∧ (parseMethodDescriptor yX8_readRows.desc).map (fun d => d.parameters.length) = some 1 := by decide +kernel
theorem im_X8_readRows : Cond.instanceMethod yX8_readRows ∈ zWs := (zWs_in 411 (by decide +kernel) rfl)
theorem se_X8_readRows : Cond.selects yX8_readRows.cls yX8_readRows yX8_readRows ∈ zWs := (zWs_in 412 (by decide +kernel) rfl)
theorem mk_X11_106 : zMk RX11 106 yX5_firstWrongRow := Or.inl (zWs_in 491 (by decide +kernel) rfl)
theorem dy_X5_firstWrongRow : yX5_firstWrongRow.cls ≠ "java/lang/invoke/MethodHandle" ∧ yX5_firstWrongRow.cls ≠ "java/lang/invoke/VarHandle" ∧ (parseMethodDescriptor yX5_firstWrongRow.desc).map (fun d => d.parameters.length) = some 0 := by decide +kernel
theorem im_X5_firstWrongRow : Cond.instanceMethod yX5_firstWrongRow ∈ zWs := (zWs_in 492 (by decide +kernel) rfl)
theorem se_X5_firstWrongRow : Cond.selects yX5_firstWrongRow.cls yX5_firstWrongRow yX5_firstWrongRow ∈ zWs := (zWs_in 493 (by decide +kernel) rfl)
theorem mk_X11_109 : zMk RX11 109 yX2_open := Or.inl (zWs_in 515 (by decide +kernel) rfl)
theorem dy_X2_open : yX2_open.cls ≠ "java/lang/invoke/MethodHandle" ∧ yX2_open.cls ≠ "java/lang/invoke/VarHandle" ∧ (parseMethodDescriptor yX2_open.desc).map (fun d => d.parameters.length) = some 1 := by decide +kernel
theorem im_X2_open : Cond.instanceMethod yX2_open ∈ zWs := (zWs_in 516 (by decide +kernel) rfl)
theorem se_X2_open : Cond.selects yX2_open.cls yX2_open yX2_open ∈ zWs := (zWs_in 517 (by decide +kernel) rfl)
theorem mk_X11_113 : zMk RX11 113 yX5_copyRows := Or.inl (zWs_in 530 (by decide +kernel) rfl)
theorem mk_X11_120 : zMk RX11 120 yX11_noted := Or.inl (zWs_in 531 (by decide +kernel) rfl)
theorem dy_X11_noted : yX11_noted.cls ≠ "java/lang/invoke/MethodHandle" ∧ yX11_noted.cls ≠ "java/lang/invoke/VarHandle" ∧ (parseMethodDescriptor yX11_noted.desc).map (fun d => d.parameters.length) = some 1 := by decide +kernel
theorem im_X11_noted : Cond.instanceMethod yX11_noted ∈ zWs := (zWs_in 533 (by decide +kernel) rfl)
theorem se_X11_noted : Cond.selects yX11_noted.cls yX11_noted yX11_noted ∈ zWs := (zWs_in 1 (by decide +kernel) rfl)
theorem mk_X11_124 : zMk RX11 124 yX5_allRows := Or.inl (zWs_in 1021 (by decide +kernel) rfl)
theorem mk_X11_138 : zMk RX11 138 yX11_sheetEntry := Or.inl (zWs_in 544 (by decide +kernel) rfl)
theorem dy_X11_sheetEntry : yX11_sheetEntry.cls ≠ "java/lang/invoke/MethodHandle" ∧ yX11_sheetEntry.cls ≠ "java/lang/invoke/VarHandle" ∧ (parseMethodDescriptor yX11_sheetEntry.desc).map (fun d => d.parameters.length) = some 2 := by decide +kernel
theorem sta_X11_sheetEntry : Cond.static yX11_sheetEntry ∈ zWs := (zWs_in 545 (by decide +kernel) rfl)
theorem mk_X11_141 : zMk RX11 141 yJ9_floorMod_7cf53 := Or.inl (zWs_in 547 (by decide +kernel) rfl)
theorem mk_X11_146 : zMk RX11 146 yX5_putBound := Or.inl (zWs_in 550 (by decide +kernel) rfl)
theorem mk_X11_150 : zMk RX11 150 yX5_changeBound := Or.inl (zWs_in 558 (by decide +kernel) rfl)
theorem dy_X5_changeBound : yX5_changeBound.cls ≠ "java/lang/invoke/MethodHandle" ∧ yX5_changeBound.cls ≠ "java/lang/invoke/VarHandle" ∧ (parseMethodDescriptor yX5_changeBound.desc).map (fun d => d.parameters.length) = some 2 := by decide +kernel
theorem im_X5_changeBound : Cond.instanceMethod yX5_changeBound ∈ zWs := (zWs_in 559 (by decide +kernel) rfl)
theorem se_X5_changeBound : Cond.selects yX5_changeBound.cls yX5_changeBound yX5_changeBound ∈ zWs := (zWs_in 560 (by decide +kernel) rfl)
theorem mk_X11_153 : zMk RX11 153 yX5_addRow := Or.inl (zWs_in 568 (by decide +kernel) rfl)
theorem dy_X5_addRow : yX5_addRow.cls ≠ "java/lang/invoke/MethodHandle" ∧ yX5_addRow.cls ≠ "java/lang/invoke/VarHandle" ∧ (parseMethodDescriptor yX5_addRow.desc).map (fun d => d.parameters.length) = some 3 := by decide +kernel
theorem im_X5_addRow : Cond.instanceMethod yX5_addRow ∈ zWs := (zWs_in 569 (by decide +kernel) rfl)
theorem se_X5_addRow : Cond.selects yX5_addRow.cls yX5_addRow yX5_addRow ∈ zWs := (zWs_in 570 (by decide +kernel) rfl)
theorem mk_X11_157 : zMk RX11 157 yX5_dropRow := Or.inl (zWs_in 577 (by decide +kernel) rfl)
theorem dy_X5_dropRow : yX5_dropRow.cls ≠ "java/lang/invoke/MethodHandle" ∧ yX5_dropRow.cls ≠ "java/lang/invoke/VarHandle" ∧ (parseMethodDescriptor yX5_dropRow.desc).map (fun d => d.parameters.length) = some 1 := by decide +kernel
theorem im_X5_dropRow : Cond.instanceMethod yX5_dropRow ∈ zWs := (zWs_in 578 (by decide +kernel) rfl)
theorem se_X5_dropRow : Cond.selects yX5_dropRow.cls yX5_dropRow yX5_dropRow ∈ zWs := (zWs_in 579 (by decide +kernel) rfl)
theorem lk_X11_51 : zLk RX11 51 "SplitSlices" "regions" "LSplitSlices$Regions;" := Or.inl (zWs_in 353 (by decide +kernel) rfl)
theorem lk_X11_174 : zLk RX11 174 "SplitSlices$Slice" "empty" "Z" := Or.inr ⟨"SplitSlices", zNs_in 234 (by decide +kernel) rfl⟩
theorem lk_X11_44 : zLk RX11 44 "SplitSlices" "numbers" "LSplitSlices$Numbers;" := Or.inl (zWs_in 352 (by decide +kernel) rfl)
theorem lk_X11_183 : zLk RX11 183 "SplitSlices$Slice" "low" "LSplitSlices$Ratio;" := Or.inr ⟨"SplitSlices", zNs_in 239 (by decide +kernel) rfl⟩
theorem lk_X11_190 : zLk RX11 190 "SplitSlices$Slice" "high" "LSplitSlices$Ratio;" := Or.inr ⟨"SplitSlices", zNs_in 244 (by decide +kernel) rfl⟩
theorem mk_X11_163 : zMk RX11 163 yX11_isWay := Or.inl (zWs_in 585 (by decide +kernel) rfl)
theorem dy_X11_isWay : yX11_isWay.cls ≠ "java/lang/invoke/MethodHandle" ∧ yX11_isWay.cls ≠ "java/lang/invoke/VarHandle" ∧ (parseMethodDescriptor yX11_isWay.desc).map (fun d => d.parameters.length) = some 1 := by decide +kernel
theorem sta_X11_isWay : Cond.static yX11_isWay ∈ zWs := (zWs_in 586 (by decide +kernel) rfl)
theorem mk_X11_166 : zMk RX11 166 yX7_workOut := Or.inl (zWs_in 588 (by decide +kernel) rfl)
theorem dy_X7_workOut : yX7_workOut.cls ≠ "java/lang/invoke/MethodHandle" ∧ yX7_workOut.cls ≠ "java/lang/invoke/VarHandle" ∧ (parseMethodDescriptor yX7_workOut.desc).map (fun d => d.parameters.length) = some 2 := by decide +kernel
theorem im_X7_workOut : Cond.instanceMethod yX7_workOut ∈ zWs := (zWs_in 589 (by decide +kernel) rfl)
theorem se_X7_workOut : Cond.selects yX7_workOut.cls yX7_workOut yX7_workOut ∈ zWs := (zWs_in 590 (by decide +kernel) rfl)
theorem mk_X11_170 : zMk RX11 170 yX7_at := Or.inl (zWs_in 665 (by decide +kernel) rfl)
theorem mk_X11_180 : zMk RX11 180 yX4_clear := Or.inl (zWs_in 666 (by decide +kernel) rfl)
theorem dy_X4_clear : yX4_clear.cls ≠ "java/lang/invoke/MethodHandle" ∧ yX4_clear.cls ≠ "java/lang/invoke/VarHandle" ∧ (parseMethodDescriptor yX4_clear.desc).map (fun d => d.parameters.length) = some 0 := by decide +kernel
theorem im_X4_clear : Cond.instanceMethod yX4_clear ∈ zWs := (zWs_in 667 (by decide +kernel) rfl)
theorem se_X4_clear : Cond.selects yX4_clear.cls yX4_clear yX4_clear ∈ zWs := (zWs_in 668 (by decide +kernel) rfl)
theorem mk_X11_186 : zMk RX11 186 yX4_tellRatio := Or.inl (zWs_in 670 (by decide +kernel) rfl)
theorem dy_X4_tellRatio : yX4_tellRatio.cls ≠ "java/lang/invoke/MethodHandle" ∧ yX4_tellRatio.cls ≠ "java/lang/invoke/VarHandle" ∧ (parseMethodDescriptor yX4_tellRatio.desc).map (fun d => d.parameters.length) = some 1 := by decide +kernel
theorem im_X4_tellRatio : Cond.instanceMethod yX4_tellRatio ∈ zWs := (zWs_in 671 (by decide +kernel) rfl)
theorem se_X4_tellRatio : Cond.selects yX4_tellRatio.cls yX4_tellRatio yX4_tellRatio ∈ zWs := (zWs_in 672 (by decide +kernel) rfl)
theorem mk_X11_193 : zMk RX11 193 yX11_isPoint := Or.inl (zWs_in 682 (by decide +kernel) rfl)
theorem dy_X11_isPoint : yX11_isPoint.cls ≠ "java/lang/invoke/MethodHandle" ∧ yX11_isPoint.cls ≠ "java/lang/invoke/VarHandle" ∧ (parseMethodDescriptor yX11_isPoint.desc).map (fun d => d.parameters.length) = some 3 := by decide +kernel
theorem sta_X11_isPoint : Cond.static yX11_isPoint ∈ zWs := (zWs_in 683 (by decide +kernel) rfl)
theorem mk_X11_197 : zMk RX11 197 yX7_contain := Or.inl (zWs_in 685 (by decide +kernel) rfl)
theorem dy_X7_contain : yX7_contain.cls ≠ "java/lang/invoke/MethodHandle" ∧ yX7_contain.cls ≠ "java/lang/invoke/VarHandle" ∧ (parseMethodDescriptor yX7_contain.desc).map (fun d => d.parameters.length) = some 5 := by decide +kernel
theorem im_X7_contain : Cond.instanceMethod yX7_contain ∈ zWs := (zWs_in 686 (by decide +kernel) rfl)
theorem se_X7_contain : Cond.selects yX7_contain.cls yX7_contain yX7_contain ∈ zWs := (zWs_in 687 (by decide +kernel) rfl)
theorem mk_X11_201 : zMk RX11 201 yX7_passes := Or.inl (zWs_in 711 (by decide +kernel) rfl)
theorem mk_X11_205 : zMk RX11 205 yX4_tell := Or.inl (zWs_in 712 (by decide +kernel) rfl)
theorem lk_X11_78 : zLk RX11 78 "SplitSlices" "ratio" "LSplitSlices$Ratio;" := Or.inl (zWs_in 357 (by decide +kernel) rfl)
theorem mk_X11_209 : zMk RX11 209 yX7_filled := Or.inl (zWs_in 717 (by decide +kernel) rfl)
theorem dy_X7_filled : yX7_filled.cls ≠ "java/lang/invoke/MethodHandle" ∧ yX7_filled.cls ≠ "java/lang/invoke/VarHandle" ∧ (parseMethodDescriptor yX7_filled.desc).map (fun d => d.parameters.length) = some 2 := by decide +kernel
theorem im_X7_filled : Cond.instanceMethod yX7_filled ∈ zWs := (zWs_in 718 (by decide +kernel) rfl)
theorem se_X7_filled : Cond.selects yX7_filled.cls yX7_filled yX7_filled ∈ zWs := (zWs_in 719 (by decide +kernel) rfl)
theorem mk_X11_212 : zMk RX11 212 yX7_findLongest := Or.inl (zWs_in 721 (by decide +kernel) rfl)
theorem dy_X7_findLongest : yX7_findLongest.cls ≠ "java/lang/invoke/MethodHandle" ∧ yX7_findLongest.cls ≠ "java/lang/invoke/VarHandle" ∧ (parseMethodDescriptor yX7_findLongest.desc).map (fun d => d.parameters.length) = some 2 := by decide +kernel
theorem im_X7_findLongest : Cond.instanceMethod yX7_findLongest ∈ zWs := (zWs_in 722 (by decide +kernel) rfl)
theorem se_X7_findLongest : Cond.selects yX7_findLongest.cls yX7_findLongest yX7_findLongest ∈ zWs := (zWs_in 723 (by decide +kernel) rfl)
theorem lk_X11_58 : zLk RX11 58 "SplitSlices" "finder" "LSplitSlices$CutFinder;" := Or.inl (zWs_in 354 (by decide +kernel) rfl)
theorem mk_X11_223 : zMk RX11 223 yX7_workOutFirst := Or.inl (zWs_in 738 (by decide +kernel) rfl)
theorem mk_X11_226 : zMk RX11 226 yX0_find := Or.inl (zWs_in 739 (by decide +kernel) rfl)
theorem dy_X0_find : yX0_find.cls ≠ "java/lang/invoke/MethodHandle" ∧ yX0_find.cls ≠ "java/lang/invoke/VarHandle" ∧ (parseMethodDescriptor yX0_find.desc).map (fun d => d.parameters.length) = some 5 := by decide +kernel
theorem im_X0_find : Cond.instanceMethod yX0_find ∈ zWs := (zWs_in 740 (by decide +kernel) rfl)
theorem se_X0_find : Cond.selects yX0_find.cls yX0_find yX0_find ∈ zWs := (zWs_in 741 (by decide +kernel) rfl)
theorem lk_X11_219 : zLk RX11 219 "SplitSlices$CutFinder" "found" "[J" := Or.inr ⟨"SplitSlices", zNs_in 274 (by decide +kernel) rfl⟩
theorem mk_X11_216 : zMk RX11 216 yX11_findCut := Or.inl (zWs_in 734 (by decide +kernel) rfl)
theorem dy_X11_findCut : yX11_findCut.cls ≠ "java/lang/invoke/MethodHandle" ∧ yX11_findCut.cls ≠ "java/lang/invoke/VarHandle" ∧ (parseMethodDescriptor yX11_findCut.desc).map (fun d => d.parameters.length) = some 3 := by decide +kernel
theorem im_X11_findCut : Cond.instanceMethod yX11_findCut ∈ zWs := (zWs_in 736 (by decide +kernel) rfl)
theorem se_X11_findCut : Cond.selects yX11_findCut.cls yX11_findCut yX11_findCut ∈ zWs := (zWs_in 6 (by decide +kernel) rfl)
theorem mk_X11_233 : zMk RX11 233 yX5_addCut := Or.inl (zWs_in 773 (by decide +kernel) rfl)
theorem dy_X5_addCut : yX5_addCut.cls ≠ "java/lang/invoke/MethodHandle" ∧ yX5_addCut.cls ≠ "java/lang/invoke/VarHandle" ∧ (parseMethodDescriptor yX5_addCut.desc).map (fun d => d.parameters.length) = some 1 := by decide +kernel
theorem im_X5_addCut : Cond.instanceMethod yX5_addCut ∈ zWs := (zWs_in 774 (by decide +kernel) rfl)
theorem se_X5_addCut : Cond.selects yX5_addCut.cls yX5_addCut yX5_addCut ∈ zWs := (zWs_in 775 (by decide +kernel) rfl)
theorem mk_X11_230 : zMk RX11 230 yX11_storeFound := Or.inl (zWs_in 769 (by decide +kernel) rfl)
theorem dy_X11_storeFound : yX11_storeFound.cls ≠ "java/lang/invoke/MethodHandle" ∧ yX11_storeFound.cls ≠ "java/lang/invoke/VarHandle" ∧ (parseMethodDescriptor yX11_storeFound.desc).map (fun d => d.parameters.length) = some 1 := by decide +kernel
theorem im_X11_storeFound : Cond.instanceMethod yX11_storeFound ∈ zWs := (zWs_in 771 (by decide +kernel) rfl)
theorem se_X11_storeFound : Cond.selects yX11_storeFound.cls yX11_storeFound yX11_storeFound ∈ zWs := (zWs_in 11 (by decide +kernel) rfl)
theorem lk_X11_240 : zLk RX11 240 "SplitSlices$Plan" "cuts" "[[J" := Or.inr ⟨"SplitSlices", zNs_in 135 (by decide +kernel) rfl⟩
theorem mk_X11_237 : zMk RX11 237 yX5_hasCut := Or.inl (zWs_in 781 (by decide +kernel) rfl)
theorem mk_X11_244 : zMk RX11 244 yX5_proofChecks := Or.inl (zWs_in 785 (by decide +kernel) rfl)
theorem lk_X11_65 : zLk RX11 65 "SplitSlices" "points" "LSplitSlices$WholePoints;" := Or.inl (zWs_in 355 (by decide +kernel) rfl)
theorem mk_X11_247 : zMk RX11 247 yX11_greatestDivisor := Or.inl (zWs_in 799 (by decide +kernel) rfl)
theorem mk_X11_251 : zMk RX11 251 yJ9_floorDiv_f86c9 := Or.inl (zWs_in 800 (by decide +kernel) rfl)
theorem dy_J9_floorDiv_f86c9 : yJ9_floorDiv_f86c9.cls ≠ "java/lang/invoke/MethodHandle" ∧ yJ9_floorDiv_f86c9.cls ≠ "java/lang/invoke/VarHandle" ∧ (parseMethodDescriptor yJ9_floorDiv_f86c9.desc).map (fun d => d.parameters.length) = some 2 := by decide +kernel
theorem sta_J9_floorDiv_f86c9 : Cond.static yJ9_floorDiv_f86c9 ∈ zWs := (zWs_in 801 (by decide +kernel) rfl)
theorem mk_X11_254 : zMk RX11 254 yX10_gather := Or.inl (zWs_in 803 (by decide +kernel) rfl)
theorem dy_X10_gather : yX10_gather.cls ≠ "java/lang/invoke/MethodHandle" ∧ yX10_gather.cls ≠ "java/lang/invoke/VarHandle" ∧ (parseMethodDescriptor yX10_gather.desc).map (fun d => d.parameters.length) = some 2 := by decide +kernel
theorem im_X10_gather : Cond.instanceMethod yX10_gather ∈ zWs := (zWs_in 804 (by decide +kernel) rfl)
theorem se_X10_gather : Cond.selects yX10_gather.cls yX10_gather yX10_gather ∈ zWs := (zWs_in 805 (by decide +kernel) rfl)
theorem mk_X11_257 : zMk RX11 257 yX10_above := Or.inl (zWs_in 808 (by decide +kernel) rfl)
theorem dy_X10_above : yX10_above.cls ≠ "java/lang/invoke/MethodHandle" ∧ yX10_above.cls ≠ "java/lang/invoke/VarHandle" ∧ (parseMethodDescriptor yX10_above.desc).map (fun d => d.parameters.length) = some 3 := by decide +kernel
theorem im_X10_above : Cond.instanceMethod yX10_above ∈ zWs := (zWs_in 809 (by decide +kernel) rfl)
theorem se_X10_above : Cond.selects yX10_above.cls yX10_above yX10_above ∈ zWs := (zWs_in 810 (by decide +kernel) rfl)
theorem mk_X11_261 : zMk RX11 261 yX5_dropCuts := Or.inl (zWs_in 824 (by decide +kernel) rfl)
theorem dy_X5_dropCuts : yX5_dropCuts.cls ≠ "java/lang/invoke/MethodHandle" ∧ yX5_dropCuts.cls ≠ "java/lang/invoke/VarHandle" ∧ (parseMethodDescriptor yX5_dropCuts.desc).map (fun d => d.parameters.length) = some 0 := by decide +kernel
theorem im_X5_dropCuts : Cond.instanceMethod yX5_dropCuts ∈ zWs := (zWs_in 825 (by decide +kernel) rfl)
theorem se_X5_dropCuts : Cond.selects yX5_dropCuts.cls yX5_dropCuts yX5_dropCuts ∈ zWs := (zWs_in 826 (by decide +kernel) rfl)
theorem lk_X11_264 : zLk RX11 264 "SplitSlices$Plan" "cutCount" "I" := Or.inr ⟨"SplitSlices", zNs_in 132 (by decide +kernel) rfl⟩
theorem mk_X11_267 : zMk RX11 267 yX5_cutExcess := Or.inl (zWs_in 832 (by decide +kernel) rfl)
theorem mk_X11_271 : zMk RX11 271 yX6_put := Or.inl (zWs_in 836 (by decide +kernel) rfl)
theorem lk_X11_275 : zLk RX11 275 "SplitSlices$WholePoints" "size" "I" := Or.inr ⟨"SplitSlices", zNs_in 289 (by decide +kernel) rfl⟩
theorem mk_X11_277 : zMk RX11 277 yX10_tell := Or.inl (zWs_in 841 (by decide +kernel) rfl)
theorem dy_X10_tell : yX10_tell.cls ≠ "java/lang/invoke/MethodHandle" ∧ yX10_tell.cls ≠ "java/lang/invoke/VarHandle" ∧ (parseMethodDescriptor yX10_tell.desc).map (fun d => d.parameters.length) = some 2 := by decide +kernel
theorem im_X10_tell : Cond.instanceMethod yX10_tell ∈ zWs := (zWs_in 842 (by decide +kernel) rfl)
theorem se_X10_tell : Cond.selects yX10_tell.cls yX10_tell yX10_tell ∈ zWs := (zWs_in 843 (by decide +kernel) rfl)
theorem lk_X11_283 : zLk RX11 283 "SplitSlices$WholePoints" "corners" "I" := Or.inr ⟨"SplitSlices", zNs_in 291 (by decide +kernel) rfl⟩
theorem lk_X11_286 : zLk RX11 286 "SplitSlices$WholePoints" "chain" "[I" := Or.inr ⟨"SplitSlices", zNs_in 295 (by decide +kernel) rfl⟩
theorem mk_X11_280 : zMk RX11 280 yX10_findCorners := Or.inl (zWs_in 850 (by decide +kernel) rfl)
theorem dy_X10_findCorners : yX10_findCorners.cls ≠ "java/lang/invoke/MethodHandle" ∧ yX10_findCorners.cls ≠ "java/lang/invoke/VarHandle" ∧ (parseMethodDescriptor yX10_findCorners.desc).map (fun d => d.parameters.length) = some 0 := by decide +kernel
theorem im_X10_findCorners : Cond.instanceMethod yX10_findCorners ∈ zWs := (zWs_in 851 (by decide +kernel) rfl)
theorem se_X10_findCorners : Cond.selects yX10_findCorners.cls yX10_findCorners yX10_findCorners ∈ zWs := (zWs_in 852 (by decide +kernel) rfl)
theorem mk_X11_290 : zMk RX11 290 yX10_distance := Or.inl (zWs_in 866 (by decide +kernel) rfl)
theorem dy_X10_distance : yX10_distance.cls ≠ "java/lang/invoke/MethodHandle" ∧ yX10_distance.cls ≠ "java/lang/invoke/VarHandle" ∧ (parseMethodDescriptor yX10_distance.desc).map (fun d => d.parameters.length) = some 4 := by decide +kernel
theorem im_X10_distance : Cond.instanceMethod yX10_distance ∈ zWs := (zWs_in 867 (by decide +kernel) rfl)
theorem se_X10_distance : Cond.selects yX10_distance.cls yX10_distance yX10_distance ∈ zWs := (zWs_in 868 (by decide +kernel) rfl)
theorem mk_X11_293 : zMk RX11 293 yJ13_compare_74951 := Or.inl (zWs_in 870 (by decide +kernel) rfl)
theorem mk_X11_312 : zMk RX11 312 yX3_start := Or.inl (zWs_in 882 (by decide +kernel) rfl)
theorem dy_X3_start : yX3_start.cls ≠ "java/lang/invoke/MethodHandle" ∧ yX3_start.cls ≠ "java/lang/invoke/VarHandle" ∧ (parseMethodDescriptor yX3_start.desc).map (fun d => d.parameters.length) = some 2 := by decide +kernel
theorem im_X3_start : Cond.instanceMethod yX3_start ∈ zWs := (zWs_in 883 (by decide +kernel) rfl)
theorem se_X3_start : Cond.selects yX3_start.cls yX3_start yX3_start ∈ zWs := (zWs_in 884 (by decide +kernel) rfl)
theorem mk_X11_315 : zMk RX11 315 yX3_overCorners := Or.inl (zWs_in 886 (by decide +kernel) rfl)
theorem dy_X3_overCorners : yX3_overCorners.cls ≠ "java/lang/invoke/MethodHandle" ∧ yX3_overCorners.cls ≠ "java/lang/invoke/VarHandle" ∧ (parseMethodDescriptor yX3_overCorners.desc).map (fun d => d.parameters.length) = some 1 := by decide +kernel
theorem im_X3_overCorners : Cond.instanceMethod yX3_overCorners ∈ zWs := (zWs_in 887 (by decide +kernel) rfl)
theorem se_X3_overCorners : Cond.selects yX3_overCorners.cls yX3_overCorners yX3_overCorners ∈ zWs := (zWs_in 888 (by decide +kernel) rfl)
theorem mk_X11_318 : zMk RX11 318 yX3_overPoints := Or.inl (zWs_in 904 (by decide +kernel) rfl)
theorem dy_X3_overPoints : yX3_overPoints.cls ≠ "java/lang/invoke/MethodHandle" ∧ yX3_overPoints.cls ≠ "java/lang/invoke/VarHandle" ∧ (parseMethodDescriptor yX3_overPoints.desc).map (fun d => d.parameters.length) = some 1 := by decide +kernel
theorem im_X3_overPoints : Cond.instanceMethod yX3_overPoints ∈ zWs := (zWs_in 905 (by decide +kernel) rfl)
theorem se_X3_overPoints : Cond.selects yX3_overPoints.cls yX3_overPoints yX3_overPoints ∈ zWs := (zWs_in 906 (by decide +kernel) rfl)
theorem mk_X11_322 : zMk RX11 322 yX3_overSlices := Or.inl (zWs_in 909 (by decide +kernel) rfl)
theorem dy_X3_overSlices : yX3_overSlices.cls ≠ "java/lang/invoke/MethodHandle" ∧ yX3_overSlices.cls ≠ "java/lang/invoke/VarHandle" ∧ (parseMethodDescriptor yX3_overSlices.desc).map (fun d => d.parameters.length) = some 2 := by decide +kernel
theorem im_X3_overSlices : Cond.instanceMethod yX3_overSlices ∈ zWs := (zWs_in 910 (by decide +kernel) rfl)
theorem se_X3_overSlices : Cond.selects yX3_overSlices.cls yX3_overSlices yX3_overSlices ∈ zWs := (zWs_in 911 (by decide +kernel) rfl)
theorem lk_X11_307 : zLk RX11 307 "SplitSlices$Most" "found" "Z" := Or.inr ⟨"SplitSlices", zNs_in 331 (by decide +kernel) rfl⟩
theorem lk_X11_309 : zLk RX11 309 "SplitSlices$Most" "best" "LSplitSlices$Ratio;" := Or.inr ⟨"SplitSlices", zNs_in 333 (by decide +kernel) rfl⟩
theorem mk_X11_299 : zMk RX11 299 yX11_isSum := Or.inl (zWs_in 875 (by decide +kernel) rfl)
theorem dy_X11_isSum : yX11_isSum.cls ≠ "java/lang/invoke/MethodHandle" ∧ yX11_isSum.cls ≠ "java/lang/invoke/VarHandle" ∧ (parseMethodDescriptor yX11_isSum.desc).map (fun d => d.parameters.length) = some 2 := by decide +kernel
theorem sta_X11_isSum : Cond.static yX11_isSum ∈ zWs := (zWs_in 876 (by decide +kernel) rfl)
theorem mk_X11_303 : zMk RX11 303 yX11_findMost := Or.inl (zWs_in 878 (by decide +kernel) rfl)
theorem dy_X11_findMost : yX11_findMost.cls ≠ "java/lang/invoke/MethodHandle" ∧ yX11_findMost.cls ≠ "java/lang/invoke/VarHandle" ∧ (parseMethodDescriptor yX11_findMost.desc).map (fun d => d.parameters.length) = some 3 := by decide +kernel
theorem im_X11_findMost : Cond.instanceMethod yX11_findMost ∈ zWs := (zWs_in 880 (by decide +kernel) rfl)
theorem se_X11_findMost : Cond.selects yX11_findMost.cls yX11_findMost yX11_findMost ∈ zWs := (zWs_in 15 (by decide +kernel) rfl)
theorem mk_X11_326 : zMk RX11 326 yX6_isBelow := Or.inl (zWs_in 922 (by decide +kernel) rfl)
theorem mk_X11_330 : zMk RX11 330 yX6_putDifference := Or.inl (zWs_in 923 (by decide +kernel) rfl)
theorem mk_X11_334 : zMk RX11 334 yX11_isRow := Or.inl (zWs_in 928 (by decide +kernel) rfl)
theorem mk_X11_349 : zMk RX11 349 yX8_at := Or.inl (zWs_in 957 (by decide +kernel) rfl)
theorem mk_X11_351 : zMk RX11 351 yX8_number := Or.inl (zWs_in 958 (by decide +kernel) rfl)
theorem mk_X11_354 : zMk RX11 354 yX8_signed := Or.inl (zWs_in 959 (by decide +kernel) rfl)
theorem dy_X8_signed : yX8_signed.cls ≠ "java/lang/invoke/MethodHandle" ∧ yX8_signed.cls ≠ "java/lang/invoke/VarHandle" ∧ (parseMethodDescriptor yX8_signed.desc).map (fun d => d.parameters.length) = some 2 := by decide +kernel
theorem im_X8_signed : Cond.instanceMethod yX8_signed ∈ zWs := (zWs_in 484 (by decide +kernel) rfl)
theorem se_X8_signed : Cond.selects yX8_signed.cls yX8_signed yX8_signed ∈ zWs := (zWs_in 485 (by decide +kernel) rfl)
theorem mk_X11_340 : zMk RX11 340 yX8_dayFault := Or.inl (zWs_in 937 (by decide +kernel) rfl)
theorem dy_X8_dayFault : yX8_dayFault.cls ≠ "java/lang/invoke/MethodHandle" ∧ yX8_dayFault.cls ≠ "java/lang/invoke/VarHandle" ∧ (parseMethodDescriptor yX8_dayFault.desc).map (fun d => d.parameters.length) = some 0 := by decide +kernel
theorem im_X8_dayFault : Cond.instanceMethod yX8_dayFault ∈ zWs := (zWs_in 938 (by decide +kernel) rfl)
theorem se_X8_dayFault : Cond.selects yX8_dayFault.cls yX8_dayFault yX8_dayFault ∈ zWs := (zWs_in 939 (by decide +kernel) rfl)
theorem mk_X11_343 : zMk RX11 343 yX11_act := Or.inl (zWs_in 953 (by decide +kernel) rfl)
theorem dy_X11_act : yX11_act.cls ≠ "java/lang/invoke/MethodHandle" ∧ yX11_act.cls ≠ "java/lang/invoke/VarHandle" ∧ (parseMethodDescriptor yX11_act.desc).map (fun d => d.parameters.length) = some 1 := by decide +kernel
theorem im_X11_act : Cond.instanceMethod yX11_act ∈ zWs := (zWs_in 955 (by decide +kernel) rfl)
theorem se_X11_act : Cond.selects yX11_act.cls yX11_act yX11_act ∈ zWs := (zWs_in 20 (by decide +kernel) rfl)
theorem mk_X11_346 : zMk RX11 346 yX8_actLength := Or.inl (zWs_in 960 (by decide +kernel) rfl)
theorem lk_X11_361 : zLk RX11 361 "SplitSlices$History" "size" "I" := Or.inr ⟨"SplitSlices", zNs_in 157 (by decide +kernel) rfl⟩
theorem mk_X11_357 : zMk RX11 357 yX2_back := Or.inl (zWs_in 965 (by decide +kernel) rfl)
theorem dy_X2_back : yX2_back.cls ≠ "java/lang/invoke/MethodHandle" ∧ yX2_back.cls ≠ "java/lang/invoke/VarHandle" ∧ (parseMethodDescriptor yX2_back.desc).map (fun d => d.parameters.length) = some 1 := by decide +kernel
theorem im_X2_back : Cond.instanceMethod yX2_back ∈ zWs := (zWs_in 966 (by decide +kernel) rfl)
theorem se_X2_back : Cond.selects yX2_back.cls yX2_back yX2_back ∈ zWs := (zWs_in 967 (by decide +kernel) rfl)
theorem lk_X11_85 : zLk RX11 85 "SplitSlices" "draws" "LSplitSlices$Draws;" := Or.inl (zWs_in 358 (by decide +kernel) rfl)
theorem mk_X11_367 : zMk RX11 367 yX1_next := Or.inl (zWs_in 981 (by decide +kernel) rfl)
theorem ini_X1 : Cond.initialized RX1 ∈ zWs := (zWs_in 97 (by decide +kernel) rfl)
theorem dy_X1_next : yX1_next.cls ≠ "java/lang/invoke/MethodHandle" ∧ yX1_next.cls ≠ "java/lang/invoke/VarHandle" ∧ (parseMethodDescriptor yX1_next.desc).map (fun d => d.parameters.length) = some 1 := by decide +kernel
theorem im_X1_next : Cond.instanceMethod yX1_next ∈ zWs := (zWs_in 982 (by decide +kernel) rfl)
theorem se_X1_next : Cond.selects yX1_next.cls yX1_next yX1_next ∈ zWs := (zWs_in 983 (by decide +kernel) rfl)
theorem mk_X11_362 : zMk RX11 362 yX1_start := Or.inl (zWs_in 973 (by decide +kernel) rfl)
theorem dy_X1_start : yX1_start.cls ≠ "java/lang/invoke/MethodHandle" ∧ yX1_start.cls ≠ "java/lang/invoke/VarHandle" ∧ (parseMethodDescriptor yX1_start.desc).map (fun d => d.parameters.length) = some 1 := by decide +kernel
theorem im_X1_start : Cond.instanceMethod yX1_start ∈ zWs := (zWs_in 974 (by decide +kernel) rfl)
theorem se_X1_start : Cond.selects yX1_start.cls yX1_start yX1_start ∈ zWs := (zWs_in 975 (by decide +kernel) rfl)
theorem mk_X11_364 : zMk RX11 364 yX11_changeByDraw := Or.inl (zWs_in 977 (by decide +kernel) rfl)
theorem dy_X11_changeByDraw : yX11_changeByDraw.cls ≠ "java/lang/invoke/MethodHandle" ∧ yX11_changeByDraw.cls ≠ "java/lang/invoke/VarHandle" ∧ (parseMethodDescriptor yX11_changeByDraw.desc).map (fun d => d.parameters.length) = some 1 := by decide +kernel
theorem im_X11_changeByDraw : Cond.instanceMethod yX11_changeByDraw ∈ zWs := (zWs_in 979 (by decide +kernel) rfl)
theorem se_X11_changeByDraw : Cond.selects yX11_changeByDraw.cls yX11_changeByDraw yX11_changeByDraw ∈ zWs := (zWs_in 21 (by decide +kernel) rfl)
theorem lk_X11_23 : zLk RX11 23 "SplitSlices" "isKept" "[Z" := Or.inl (zWs_in 349 (by decide +kernel) rfl)
theorem mk_X11_370 : zMk RX11 370 yX5_copy := Or.inl (zWs_in 990 (by decide +kernel) rfl)
theorem mk_X11_373 : zMk RX11 373 yX2_forget := Or.inl (zWs_in 995 (by decide +kernel) rfl)
theorem dy_X2_forget : yX2_forget.cls ≠ "java/lang/invoke/MethodHandle" ∧ yX2_forget.cls ≠ "java/lang/invoke/VarHandle" ∧ (parseMethodDescriptor yX2_forget.desc).map (fun d => d.parameters.length) = some 0 := by decide +kernel
theorem im_X2_forget : Cond.instanceMethod yX2_forget ∈ zWs := (zWs_in 996 (by decide +kernel) rfl)
theorem se_X2_forget : Cond.selects yX2_forget.cls yX2_forget yX2_forget ∈ zWs := (zWs_in 997 (by decide +kernel) rfl)
theorem lk_X11_379 : zLk RX11 379 "SplitSlices$Numbers" "size" "I" := Or.inr ⟨"SplitSlices", zNs_in 185 (by decide +kernel) rfl⟩
theorem mk_X11_376 : zMk RX11 376 yX5_checkedCuts := Or.inl (zWs_in 1003 (by decide +kernel) rfl)
theorem dy_X5_checkedCuts : yX5_checkedCuts.cls ≠ "java/lang/invoke/MethodHandle" ∧ yX5_checkedCuts.cls ≠ "java/lang/invoke/VarHandle" ∧ (parseMethodDescriptor yX5_checkedCuts.desc).map (fun d => d.parameters.length) = some 0 := by decide +kernel
theorem im_X5_checkedCuts : Cond.instanceMethod yX5_checkedCuts ∈ zWs := (zWs_in 1004 (by decide +kernel) rfl)
theorem se_X5_checkedCuts : Cond.selects yX5_checkedCuts.cls yX5_checkedCuts yX5_checkedCuts ∈ zWs := (zWs_in 1005 (by decide +kernel) rfl)
theorem mk_X11_380 : zMk RX11 380 yX10_cutOff := Or.inl (zWs_in 1008 (by decide +kernel) rfl)
theorem dy_X10_cutOff : yX10_cutOff.cls ≠ "java/lang/invoke/MethodHandle" ∧ yX10_cutOff.cls ≠ "java/lang/invoke/VarHandle" ∧ (parseMethodDescriptor yX10_cutOff.desc).map (fun d => d.parameters.length) = some 1 := by decide +kernel
theorem im_X10_cutOff : Cond.instanceMethod yX10_cutOff ∈ zWs := (zWs_in 1009 (by decide +kernel) rfl)
theorem se_X10_cutOff : Cond.selects yX10_cutOff.cls yX10_cutOff yX10_cutOff ∈ zWs := (zWs_in 1010 (by decide +kernel) rfl)
theorem lk_X12_9 : zLk RX12 9 "SplitSlicesModel" "now" "[I" := Or.inl (zWs_in 1106 (by decide +kernel) rfl)
theorem lk_X12_55 : zLk RX12 55 "SplitSlicesModel" "thrown" "I" := Or.inl (zWs_in 1111 (by decide +kernel) rfl)
theorem lk_X12_17 : zLk RX12 17 "SplitSlicesModel" "row" "[J" := Or.inl (zWs_in 1109 (by decide +kernel) rfl)
theorem lk_X12_59 : zLk RX12 59 "SplitSlicesModel" "rowMany" "I" := Or.inl (zWs_in 1110 (by decide +kernel) rfl)
theorem sk_X12_62 : Cond.fieldLink RX12 62 RX12 "ALWAYS" "[I" ∈ zWs := (zWs_in 1300 (by decide +kernel) rfl)
theorem mk_X12_65 : zMk RX12 65 yX12_common := Or.inl (zWs_in 1374 (by decide +kernel) rfl)
theorem ini_X12 : Cond.initialized RX12 ∈ zWs := (zWs_in 99 (by decide +kernel) rfl)
theorem dy_X12_common : yX12_common.cls ≠ "java/lang/invoke/MethodHandle" ∧ yX12_common.cls ≠ "java/lang/invoke/VarHandle" ∧ (parseMethodDescriptor yX12_common.desc).map (fun d => d.parameters.length) = some 2 := by decide +kernel
theorem sta_X12_common : Cond.static yX12_common ∈ zWs := (zWs_in 1375 (by decide +kernel) rfl)
theorem lk_X12_69 : zLk RX12 69 "SplitSlicesModel" "above" "J" := Or.inl (zWs_in 1112 (by decide +kernel) rfl)
theorem lk_X12_73 : zLk RX12 73 "SplitSlicesModel" "below" "J" := Or.inl (zWs_in 1113 (by decide +kernel) rfl)
theorem mk_X12_76 : zMk RX12 76 yX12_set := Or.inl (zWs_in 1370 (by decide +kernel) rfl)
theorem dy_X12_set : yX12_set.cls ≠ "java/lang/invoke/MethodHandle" ∧ yX12_set.cls ≠ "java/lang/invoke/VarHandle" ∧ (parseMethodDescriptor yX12_set.desc).map (fun d => d.parameters.length) = some 2 := by decide +kernel
theorem im_X12_set : Cond.instanceMethod yX12_set ∈ zWs := (zWs_in 1372 (by decide +kernel) rfl)
theorem se_X12_set : Cond.selects yX12_set.cls yX12_set yX12_set ∈ zWs := (zWs_in 48 (by decide +kernel) rfl)
theorem mk_X12_80 : zMk RX12 80 yX12_tell := Or.inl (zWs_in 1408 (by decide +kernel) rfl)
theorem dy_X12_tell : yX12_tell.cls ≠ "java/lang/invoke/MethodHandle" ∧ yX12_tell.cls ≠ "java/lang/invoke/VarHandle" ∧ (parseMethodDescriptor yX12_tell.desc).map (fun d => d.parameters.length) = some 1 := by decide +kernel
theorem im_X12_tell : Cond.instanceMethod yX12_tell ∈ zWs := (zWs_in 1410 (by decide +kernel) rfl)
theorem se_X12_tell : Cond.selects yX12_tell.cls yX12_tell yX12_tell ∈ zWs := (zWs_in 56 (by decide +kernel) rfl)
theorem lk_X12_84 : zLk RX12 84 "SplitSlicesModel" "typed" "I" := Or.inl (zWs_in 1108 (by decide +kernel) rfl)
theorem lk_X12_13 : zLk RX12 13 "SplitSlicesModel" "text" "[B" := Or.inl (zWs_in 1107 (by decide +kernel) rfl)
theorem mk_X12_87 : zMk RX12 87 yX12_in := Or.inl (zWs_in 1230 (by decide +kernel) rfl)
theorem dy_X12_in : yX12_in.cls ≠ "java/lang/invoke/MethodHandle" ∧ yX12_in.cls ≠ "java/lang/invoke/VarHandle" ∧ (parseMethodDescriptor yX12_in.desc).map (fun d => d.parameters.length) = some 3 := by decide +kernel
theorem sta_X12_in : Cond.static yX12_in ∈ zWs := (zWs_in 1231 (by decide +kernel) rfl)
theorem lk_X12_91 : zLk RX12 91 "SplitSlicesModel" "length" "I" := Or.inl (zWs_in 1114 (by decide +kernel) rfl)
theorem lk_X12_94 : zLk RX12 94 "SplitSlicesModel" "at" "I" := Or.inl (zWs_in 1115 (by decide +kernel) rfl)
theorem lk_X12_97 : zLk RX12 97 "SplitSlicesModel" "wrong" "I" := Or.inl (zWs_in 1116 (by decide +kernel) rfl)
theorem mk_X12_100 : zMk RX12 100 yX12_fine := Or.inl (zWs_in 1241 (by decide +kernel) rfl)
theorem dy_X12_fine : yX12_fine.cls ≠ "java/lang/invoke/MethodHandle" ∧ yX12_fine.cls ≠ "java/lang/invoke/VarHandle" ∧ (parseMethodDescriptor yX12_fine.desc).map (fun d => d.parameters.length) = some 0 := by decide +kernel
theorem im_X12_fine : Cond.instanceMethod yX12_fine ∈ zWs := (zWs_in 1243 (by decide +kernel) rfl)
theorem se_X12_fine : Cond.selects yX12_fine.cls yX12_fine yX12_fine ∈ zWs := (zWs_in 24 (by decide +kernel) rfl)
theorem mk_X12_104 : zMk RX12 104 yX12_here := Or.inl (zWs_in 1257 (by decide +kernel) rfl)
theorem dy_X12_here : yX12_here.cls ≠ "java/lang/invoke/MethodHandle" ∧ yX12_here.cls ≠ "java/lang/invoke/VarHandle" ∧ (parseMethodDescriptor yX12_here.desc).map (fun d => d.parameters.length) = some 0 := by decide +kernel
theorem im_X12_here : Cond.instanceMethod yX12_here ∈ zWs := (zWs_in 1259 (by decide +kernel) rfl)
theorem se_X12_here : Cond.selects yX12_here.cls yX12_here yX12_here ∈ zWs := (zWs_in 28 (by decide +kernel) rfl)
theorem mk_X12_108 : zMk RX12 108 yX12_passes := Or.inl (zWs_in 1253 (by decide +kernel) rfl)
theorem dy_X12_passes : yX12_passes.cls ≠ "java/lang/invoke/MethodHandle" ∧ yX12_passes.cls ≠ "java/lang/invoke/VarHandle" ∧ (parseMethodDescriptor yX12_passes.desc).map (fun d => d.parameters.length) = some 1 := by decide +kernel
theorem im_X12_passes : Cond.instanceMethod yX12_passes ∈ zWs := (zWs_in 1255 (by decide +kernel) rfl)
theorem se_X12_passes : Cond.selects yX12_passes.cls yX12_passes yX12_passes ∈ zWs := (zWs_in 27 (by decide +kernel) rfl)
theorem mk_X12_112 : zMk RX12 112 yX12_fault := Or.inl (zWs_in 1265 (by decide +kernel) rfl)
theorem dy_X12_fault : yX12_fault.cls ≠ "java/lang/invoke/MethodHandle" ∧ yX12_fault.cls ≠ "java/lang/invoke/VarHandle" ∧ (parseMethodDescriptor yX12_fault.desc).map (fun d => d.parameters.length) = some 1 := by decide +kernel
theorem im_X12_fault : Cond.instanceMethod yX12_fault ∈ zWs := (zWs_in 1267 (by decide +kernel) rfl)
theorem se_X12_fault : Cond.selects yX12_fault.cls yX12_fault yX12_fault ∈ zWs := (zWs_in 30 (by decide +kernel) rfl)
theorem mk_X12_116 : zMk RX12 116 yX12_need := Or.inl (zWs_in 1261 (by decide +kernel) rfl)
theorem dy_X12_need : yX12_need.cls ≠ "java/lang/invoke/MethodHandle" ∧ yX12_need.cls ≠ "java/lang/invoke/VarHandle" ∧ (parseMethodDescriptor yX12_need.desc).map (fun d => d.parameters.length) = some 1 := by decide +kernel
theorem im_X12_need : Cond.instanceMethod yX12_need ∈ zWs := (zWs_in 1263 (by decide +kernel) rfl)
theorem se_X12_need : Cond.selects yX12_need.cls yX12_need yX12_need ∈ zWs := (zWs_in 29 (by decide +kernel) rfl)
theorem lk_X12_21 : zLk RX12 21 "SplitSlicesModel" "read" "[I" := Or.inl (zWs_in 1117 (by decide +kernel) rfl)
theorem mk_X12_120 : zMk RX12 120 yX12_sided := Or.inl (zWs_in 1249 (by decide +kernel) rfl)
theorem dy_X12_sided : yX12_sided.cls ≠ "java/lang/invoke/MethodHandle" ∧ yX12_sided.cls ≠ "java/lang/invoke/VarHandle" ∧ (parseMethodDescriptor yX12_sided.desc).map (fun d => d.parameters.length) = some 0 := by decide +kernel
theorem im_X12_sided : Cond.instanceMethod yX12_sided ∈ zWs := (zWs_in 1251 (by decide +kernel) rfl)
theorem se_X12_sided : Cond.selects yX12_sided.cls yX12_sided yX12_sided ∈ zWs := (zWs_in 26 (by decide +kernel) rfl)
theorem mk_X12_123 : zMk RX12 123 yX12_digit := Or.inl (zWs_in 1269 (by decide +kernel) rfl)
theorem dy_X12_digit : yX12_digit.cls ≠ "java/lang/invoke/MethodHandle" ∧ yX12_digit.cls ≠ "java/lang/invoke/VarHandle" ∧ (parseMethodDescriptor yX12_digit.desc).map (fun d => d.parameters.length) = some 1 := by decide +kernel
theorem im_X12_digit : Cond.instanceMethod yX12_digit ∈ zWs := (zWs_in 1271 (by decide +kernel) rfl)
theorem se_X12_digit : Cond.selects yX12_digit.cls yX12_digit yX12_digit ∈ zWs := (zWs_in 31 (by decide +kernel) rfl)
theorem lk_X12_155 : zLk RX12 155 "SplitSlicesModel" "undoMany" "I" := Or.inl (zWs_in 1119 (by decide +kernel) rfl)
theorem lk_X12_24 : zLk RX12 24 "SplitSlicesModel" "undos" "[I" := Or.inl (zWs_in 1118 (by decide +kernel) rfl)
theorem lk_X12_27 : zLk RX12 27 "SplitSlicesModel" "then" "[I" := Or.inl (zWs_in 1120 (by decide +kernel) rfl)
theorem mk_X12_152 : zMk RX12 152 yX12_note := Or.inl (zWs_in 1284 (by decide +kernel) rfl)
theorem dy_X12_note : yX12_note.cls ≠ "java/lang/invoke/MethodHandle" ∧ yX12_note.cls ≠ "java/lang/invoke/VarHandle" ∧ (parseMethodDescriptor yX12_note.desc).map (fun d => d.parameters.length) = some 0 := by decide +kernel
theorem im_X12_note : Cond.instanceMethod yX12_note ∈ zWs := (zWs_in 1286 (by decide +kernel) rfl)
theorem se_X12_note : Cond.selects yX12_note.cls yX12_note yX12_note ∈ zWs := (zWs_in 34 (by decide +kernel) rfl)
theorem mk_X12_127 : zMk RX12 127 yX12_begin := Or.inl (zWs_in 1237 (by decide +kernel) rfl)
theorem dy_X12_begin : yX12_begin.cls ≠ "java/lang/invoke/MethodHandle" ∧ yX12_begin.cls ≠ "java/lang/invoke/VarHandle" ∧ (parseMethodDescriptor yX12_begin.desc).map (fun d => d.parameters.length) = some 0 := by decide +kernel
theorem im_X12_begin : Cond.instanceMethod yX12_begin ∈ zWs := (zWs_in 1239 (by decide +kernel) rfl)
theorem se_X12_begin : Cond.selects yX12_begin.cls yX12_begin yX12_begin ∈ zWs := (zWs_in 23 (by decide +kernel) rfl)
theorem mk_X12_130 : zMk RX12 130 yX12_readRow := Or.inl (zWs_in 1245 (by decide +kernel) rfl)
theorem dy_X12_readRow : yX12_readRow.cls ≠ "java/lang/invoke/MethodHandle" ∧ yX12_readRow.cls ≠ "java/lang/invoke/VarHandle" ∧ (parseMethodDescriptor yX12_readRow.desc).map (fun d => d.parameters.length) = some 1 := by decide +kernel
theorem im_X12_readRow : Cond.instanceMethod yX12_readRow ∈ zWs := (zWs_in 1247 (by decide +kernel) rfl)
theorem se_X12_readRow : Cond.selects yX12_readRow.cls yX12_readRow yX12_readRow ∈ zWs := (zWs_in 25 (by decide +kernel) rfl)
theorem mk_X12_133 : zMk RX12 133 yX12_wasRight := Or.inl (zWs_in 1273 (by decide +kernel) rfl)
theorem dy_X12_wasRight : yX12_wasRight.cls ≠ "java/lang/invoke/MethodHandle" ∧ yX12_wasRight.cls ≠ "java/lang/invoke/VarHandle" ∧ (parseMethodDescriptor yX12_wasRight.desc).map (fun d => d.parameters.length) = some 0 := by decide +kernel
theorem im_X12_wasRight : Cond.instanceMethod yX12_wasRight ∈ zWs := (zWs_in 1275 (by decide +kernel) rfl)
theorem se_X12_wasRight : Cond.selects yX12_wasRight.cls yX12_wasRight yX12_wasRight ∈ zWs := (zWs_in 32 (by decide +kernel) rfl)
theorem mk_X12_136 : zMk RX12 136 yX12_canBe := Or.inl (zWs_in 1277 (by decide +kernel) rfl)
theorem dy_X12_canBe : yX12_canBe.cls ≠ "java/lang/invoke/MethodHandle" ∧ yX12_canBe.cls ≠ "java/lang/invoke/VarHandle" ∧ (parseMethodDescriptor yX12_canBe.desc).map (fun d => d.parameters.length) = some 3 := by decide +kernel
theorem sta_X12_canBe : Cond.static yX12_canBe ∈ zWs := (zWs_in 1278 (by decide +kernel) rfl)
theorem mk_X12_139 : zMk RX12 139 yX12_change := Or.inl (zWs_in 1280 (by decide +kernel) rfl)
theorem dy_X12_change : yX12_change.cls ≠ "java/lang/invoke/MethodHandle" ∧ yX12_change.cls ≠ "java/lang/invoke/VarHandle" ∧ (parseMethodDescriptor yX12_change.desc).map (fun d => d.parameters.length) = some 0 := by decide +kernel
theorem im_X12_change : Cond.instanceMethod yX12_change ∈ zWs := (zWs_in 1282 (by decide +kernel) rfl)
theorem se_X12_change : Cond.selects yX12_change.cls yX12_change yX12_change ∈ zWs := (zWs_in 33 (by decide +kernel) rfl)
theorem mk_X12_142 : zMk RX12 142 yX12_lines := Or.inl (zWs_in 1292 (by decide +kernel) rfl)
theorem dy_X12_lines : yX12_lines.cls ≠ "java/lang/invoke/MethodHandle" ∧ yX12_lines.cls ≠ "java/lang/invoke/VarHandle" ∧ (parseMethodDescriptor yX12_lines.desc).map (fun d => d.parameters.length) = some 0 := by decide +kernel
theorem im_X12_lines : Cond.instanceMethod yX12_lines ∈ zWs := (zWs_in 1294 (by decide +kernel) rfl)
theorem se_X12_lines : Cond.selects yX12_lines.cls yX12_lines yX12_lines ∈ zWs := (zWs_in 35 (by decide +kernel) rfl)
theorem mk_X12_145 : zMk RX12 145 yX12_of := Or.inl (zWs_in 1296 (by decide +kernel) rfl)
theorem dy_X12_of : yX12_of.cls ≠ "java/lang/invoke/MethodHandle" ∧ yX12_of.cls ≠ "java/lang/invoke/VarHandle" ∧ (parseMethodDescriptor yX12_of.desc).map (fun d => d.parameters.length) = some 2 := by decide +kernel
theorem im_X12_of : Cond.instanceMethod yX12_of ∈ zWs := (zWs_in 1298 (by decide +kernel) rfl)
theorem se_X12_of : Cond.selects yX12_of.cls yX12_of yX12_of ∈ zWs := (zWs_in 36 (by decide +kernel) rfl)
theorem mk_X12_149 : zMk RX12 149 yX12_lost := Or.inl (zWs_in 1302 (by decide +kernel) rfl)
theorem dy_X12_lost : yX12_lost.cls ≠ "java/lang/invoke/MethodHandle" ∧ yX12_lost.cls ≠ "java/lang/invoke/VarHandle" ∧ (parseMethodDescriptor yX12_lost.desc).map (fun d => d.parameters.length) = some 0 := by decide +kernel
theorem im_X12_lost : Cond.instanceMethod yX12_lost ∈ zWs := (zWs_in 1304 (by decide +kernel) rfl)
theorem se_X12_lost : Cond.selects yX12_lost.cls yX12_lost yX12_lost ∈ zWs := (zWs_in 37 (by decide +kernel) rfl)
theorem mk_X12_158 : zMk RX12 158 yX12_isTold := Or.inl (zWs_in 1318 (by decide +kernel) rfl)
theorem dy_X12_isTold : yX12_isTold.cls ≠ "java/lang/invoke/MethodHandle" ∧ yX12_isTold.cls ≠ "java/lang/invoke/VarHandle" ∧ (parseMethodDescriptor yX12_isTold.desc).map (fun d => d.parameters.length) = some 1 := by decide +kernel
theorem im_X12_isTold : Cond.instanceMethod yX12_isTold ∈ zWs := (zWs_in 1320 (by decide +kernel) rfl)
theorem se_X12_isTold : Cond.selects yX12_isTold.cls yX12_isTold yX12_isTold ∈ zWs := (zWs_in 39 (by decide +kernel) rfl)
theorem mk_X12_162 : zMk RX12 162 yX12_refusesBecome := Or.inl (zWs_in 1314 (by decide +kernel) rfl)
theorem dy_X12_refusesBecome : yX12_refusesBecome.cls ≠ "java/lang/invoke/MethodHandle" ∧ yX12_refusesBecome.cls ≠ "java/lang/invoke/VarHandle" ∧ (parseMethodDescriptor yX12_refusesBecome.desc).map (fun d => d.parameters.length) = some 2 := by decide +kernel
theorem im_X12_refusesBecome : Cond.instanceMethod yX12_refusesBecome ∈ zWs := (zWs_in 1316 (by decide +kernel) rfl)
theorem se_X12_refusesBecome : Cond.selects yX12_refusesBecome.cls yX12_refusesBecome yX12_refusesBecome ∈ zWs := (zWs_in 38 (by decide +kernel) rfl)
theorem mk_X12_165 : zMk RX12 165 yX12_refusesAdd := Or.inl (zWs_in 1326 (by decide +kernel) rfl)
theorem dy_X12_refusesAdd : yX12_refusesAdd.cls ≠ "java/lang/invoke/MethodHandle" ∧ yX12_refusesAdd.cls ≠ "java/lang/invoke/VarHandle" ∧ (parseMethodDescriptor yX12_refusesAdd.desc).map (fun d => d.parameters.length) = some 3 := by decide +kernel
theorem im_X12_refusesAdd : Cond.instanceMethod yX12_refusesAdd ∈ zWs := (zWs_in 1328 (by decide +kernel) rfl)
theorem se_X12_refusesAdd : Cond.selects yX12_refusesAdd.cls yX12_refusesAdd yX12_refusesAdd ∈ zWs := (zWs_in 40 (by decide +kernel) rfl)
theorem mk_X12_169 : zMk RX12 169 yX12_add := Or.inl (zWs_in 1330 (by decide +kernel) rfl)
theorem dy_X12_add : yX12_add.cls ≠ "java/lang/invoke/MethodHandle" ∧ yX12_add.cls ≠ "java/lang/invoke/VarHandle" ∧ (parseMethodDescriptor yX12_add.desc).map (fun d => d.parameters.length) = some 3 := by decide +kernel
theorem im_X12_add : Cond.instanceMethod yX12_add ∈ zWs := (zWs_in 1332 (by decide +kernel) rfl)
theorem se_X12_add : Cond.selects yX12_add.cls yX12_add yX12_add ∈ zWs := (zWs_in 41 (by decide +kernel) rfl)
theorem mk_X12_173 : zMk RX12 173 yX12_drop := Or.inl (zWs_in 1338 (by decide +kernel) rfl)
theorem dy_X12_drop : yX12_drop.cls ≠ "java/lang/invoke/MethodHandle" ∧ yX12_drop.cls ≠ "java/lang/invoke/VarHandle" ∧ (parseMethodDescriptor yX12_drop.desc).map (fun d => d.parameters.length) = some 1 := by decide +kernel
theorem im_X12_drop : Cond.instanceMethod yX12_drop ∈ zWs := (zWs_in 1340 (by decide +kernel) rfl)
theorem se_X12_drop : Cond.selects yX12_drop.cls yX12_drop yX12_drop ∈ zWs := (zWs_in 42 (by decide +kernel) rfl)
theorem lk_X12_176 : zLk RX12 176 "SplitSlicesModel" "lowAbove" "J" := Or.inl (zWs_in 1124 (by decide +kernel) rfl)
theorem lk_X12_179 : zLk RX12 179 "SplitSlicesModel" "lowBelow" "J" := Or.inl (zWs_in 1125 (by decide +kernel) rfl)
theorem lk_X12_182 : zLk RX12 182 "SplitSlicesModel" "highAbove" "J" := Or.inl (zWs_in 1126 (by decide +kernel) rfl)
theorem lk_X12_185 : zLk RX12 185 "SplitSlicesModel" "highBelow" "J" := Or.inl (zWs_in 1127 (by decide +kernel) rfl)
theorem mk_X12_188 : zMk RX12 188 yX12_isLess := Or.inl (zWs_in 1367 (by decide +kernel) rfl)
theorem dy_X12_isLess : yX12_isLess.cls ≠ "java/lang/invoke/MethodHandle" ∧ yX12_isLess.cls ≠ "java/lang/invoke/VarHandle" ∧ (parseMethodDescriptor yX12_isLess.desc).map (fun d => d.parameters.length) = some 4 := by decide +kernel
theorem sta_X12_isLess : Cond.static yX12_isLess ∈ zWs := (zWs_in 1368 (by decide +kernel) rfl)
theorem lk_X12_30 : zLk RX12 30 "SplitSlicesModel" "is" "[Z" := Or.inl (zWs_in 1121 (by decide +kernel) rfl)
theorem lk_X12_34 : zLk RX12 34 "SplitSlicesModel" "low" "[J" := Or.inl (zWs_in 1122 (by decide +kernel) rfl)
theorem lk_X12_37 : zLk RX12 37 "SplitSlicesModel" "high" "[J" := Or.inl (zWs_in 1123 (by decide +kernel) rfl)
theorem mk_X12_192 : zMk RX12 192 yX12_notAbove := Or.inl (zWs_in 1363 (by decide +kernel) rfl)
theorem dy_X12_notAbove : yX12_notAbove.cls ≠ "java/lang/invoke/MethodHandle" ∧ yX12_notAbove.cls ≠ "java/lang/invoke/VarHandle" ∧ (parseMethodDescriptor yX12_notAbove.desc).map (fun d => d.parameters.length) = some 2 := by decide +kernel
theorem im_X12_notAbove : Cond.instanceMethod yX12_notAbove ∈ zWs := (zWs_in 1365 (by decide +kernel) rfl)
theorem se_X12_notAbove : Cond.selects yX12_notAbove.cls yX12_notAbove yX12_notAbove ∈ zWs := (zWs_in 47 (by decide +kernel) rfl)
theorem mk_X12_195 : zMk RX12 195 yX12_notBelow := Or.inl (zWs_in 1377 (by decide +kernel) rfl)
theorem dy_X12_notBelow : yX12_notBelow.cls ≠ "java/lang/invoke/MethodHandle" ∧ yX12_notBelow.cls ≠ "java/lang/invoke/VarHandle" ∧ (parseMethodDescriptor yX12_notBelow.desc).map (fun d => d.parameters.length) = some 2 := by decide +kernel
theorem im_X12_notBelow : Cond.instanceMethod yX12_notBelow ∈ zWs := (zWs_in 1379 (by decide +kernel) rfl)
theorem se_X12_notBelow : Cond.selects yX12_notBelow.cls yX12_notBelow yX12_notBelow ∈ zWs := (zWs_in 49 (by decide +kernel) rfl)
theorem csl_X12_198 : Cond.constantLong RX12 198 (6) ∈ zWs := (zWs_in 1354 (by decide +kernel) rfl)
theorem mk_X12_200 : zMk RX12 200 yX12_wide := Or.inl (zWs_in 1355 (by decide +kernel) rfl)
theorem dy_X12_wide : yX12_wide.cls ≠ "java/lang/invoke/MethodHandle" ∧ yX12_wide.cls ≠ "java/lang/invoke/VarHandle" ∧ (parseMethodDescriptor yX12_wide.desc).map (fun d => d.parameters.length) = some 4 := by decide +kernel
theorem im_X12_wide : Cond.instanceMethod yX12_wide ∈ zWs := (zWs_in 1357 (by decide +kernel) rfl)
theorem se_X12_wide : Cond.selects yX12_wide.cls yX12_wide yX12_wide ∈ zWs := (zWs_in 45 (by decide +kernel) rfl)
theorem mk_X12_204 : zMk RX12 204 yX12_narrow := Or.inl (zWs_in 1359 (by decide +kernel) rfl)
theorem dy_X12_narrow : yX12_narrow.cls ≠ "java/lang/invoke/MethodHandle" ∧ yX12_narrow.cls ≠ "java/lang/invoke/VarHandle" ∧ (parseMethodDescriptor yX12_narrow.desc).map (fun d => d.parameters.length) = some 2 := by decide +kernel
theorem im_X12_narrow : Cond.instanceMethod yX12_narrow ∈ zWs := (zWs_in 1361 (by decide +kernel) rfl)
theorem se_X12_narrow : Cond.selects yX12_narrow.cls yX12_narrow yX12_narrow ∈ zWs := (zWs_in 46 (by decide +kernel) rfl)
theorem mk_X12_208 : zMk RX12 208 yX12_sliceAt := Or.inl (zWs_in 1381 (by decide +kernel) rfl)
theorem dy_X12_sliceAt : yX12_sliceAt.cls ≠ "java/lang/invoke/MethodHandle" ∧ yX12_sliceAt.cls ≠ "java/lang/invoke/VarHandle" ∧ (parseMethodDescriptor yX12_sliceAt.desc).map (fun d => d.parameters.length) = some 3 := by decide +kernel
theorem sta_X12_sliceAt : Cond.static yX12_sliceAt ∈ zWs := (zWs_in 1382 (by decide +kernel) rfl)
theorem mk_X12_211 : zMk RX12 211 yX12_isEmpty := Or.inl (zWs_in 1384 (by decide +kernel) rfl)
theorem dy_X12_isEmpty : yX12_isEmpty.cls ≠ "java/lang/invoke/MethodHandle" ∧ yX12_isEmpty.cls ≠ "java/lang/invoke/VarHandle" ∧ (parseMethodDescriptor yX12_isEmpty.desc).map (fun d => d.parameters.length) = some 0 := by decide +kernel
theorem im_X12_isEmpty : Cond.instanceMethod yX12_isEmpty ∈ zWs := (zWs_in 1386 (by decide +kernel) rfl)
theorem se_X12_isEmpty : Cond.selects yX12_isEmpty.cls yX12_isEmpty yX12_isEmpty ∈ zWs := (zWs_in 50 (by decide +kernel) rfl)
theorem mk_X12_214 : zMk RX12 214 yX12_keepSlice := Or.inl (zWs_in 1388 (by decide +kernel) rfl)
theorem dy_X12_keepSlice : yX12_keepSlice.cls ≠ "java/lang/invoke/MethodHandle" ∧ yX12_keepSlice.cls ≠ "java/lang/invoke/VarHandle" ∧ (parseMethodDescriptor yX12_keepSlice.desc).map (fun d => d.parameters.length) = some 2 := by decide +kernel
theorem im_X12_keepSlice : Cond.instanceMethod yX12_keepSlice ∈ zWs := (zWs_in 1390 (by decide +kernel) rfl)
theorem se_X12_keepSlice : Cond.selects yX12_keepSlice.cls yX12_keepSlice yX12_keepSlice ∈ zWs := (zWs_in 51 (by decide +kernel) rfl)
theorem lk_X12_218 : zLk RX12 218 "SplitSlicesModel" "any" "Z" := Or.inl (zWs_in 1128 (by decide +kernel) rfl)
theorem lk_X12_228 : zLk RX12 228 "SplitSlicesModel" "greatestAbove" "J" := Or.inl (zWs_in 1131 (by decide +kernel) rfl)
theorem lk_X12_231 : zLk RX12 231 "SplitSlicesModel" "greatestBelow" "J" := Or.inl (zWs_in 1132 (by decide +kernel) rfl)
theorem lk_X12_222 : zLk RX12 222 "SplitSlicesModel" "leastAbove" "J" := Or.inl (zWs_in 1129 (by decide +kernel) rfl)
theorem lk_X12_225 : zLk RX12 225 "SplitSlicesModel" "leastBelow" "J" := Or.inl (zWs_in 1130 (by decide +kernel) rfl)
theorem mk_X12_234 : zMk RX12 234 yX12_joins := Or.inl (zWs_in 1396 (by decide +kernel) rfl)
theorem dy_X12_joins : yX12_joins.cls ≠ "java/lang/invoke/MethodHandle" ∧ yX12_joins.cls ≠ "java/lang/invoke/VarHandle" ∧ (parseMethodDescriptor yX12_joins.desc).map (fun d => d.parameters.length) = some 0 := by decide +kernel
theorem im_X12_joins : Cond.instanceMethod yX12_joins ∈ zWs := (zWs_in 1398 (by decide +kernel) rfl)
theorem se_X12_joins : Cond.selects yX12_joins.cls yX12_joins yX12_joins ∈ zWs := (zWs_in 53 (by decide +kernel) rfl)
theorem mk_X12_237 : zMk RX12 237 yX12_between := Or.inl (zWs_in 1400 (by decide +kernel) rfl)
theorem dy_X12_between : yX12_between.cls ≠ "java/lang/invoke/MethodHandle" ∧ yX12_between.cls ≠ "java/lang/invoke/VarHandle" ∧ (parseMethodDescriptor yX12_between.desc).map (fun d => d.parameters.length) = some 5 := by decide +kernel
theorem im_X12_between : Cond.instanceMethod yX12_between ∈ zWs := (zWs_in 1402 (by decide +kernel) rfl)
theorem se_X12_between : Cond.selects yX12_between.cls yX12_between yX12_between ∈ zWs := (zWs_in 54 (by decide +kernel) rfl)
theorem mk_X12_241 : zMk RX12 241 yX12_layFirst := Or.inl (zWs_in 1350 (by decide +kernel) rfl)
theorem dy_X12_layFirst : yX12_layFirst.cls ≠ "java/lang/invoke/MethodHandle" ∧ yX12_layFirst.cls ≠ "java/lang/invoke/VarHandle" ∧ (parseMethodDescriptor yX12_layFirst.desc).map (fun d => d.parameters.length) = some 0 := by decide +kernel
theorem im_X12_layFirst : Cond.instanceMethod yX12_layFirst ∈ zWs := (zWs_in 1352 (by decide +kernel) rfl)
theorem se_X12_layFirst : Cond.selects yX12_layFirst.cls yX12_layFirst yX12_layFirst ∈ zWs := (zWs_in 44 (by decide +kernel) rfl)
theorem mk_X12_244 : zMk RX12 244 yX12_layNext := Or.inl (zWs_in 1392 (by decide +kernel) rfl)
theorem dy_X12_layNext : yX12_layNext.cls ≠ "java/lang/invoke/MethodHandle" ∧ yX12_layNext.cls ≠ "java/lang/invoke/VarHandle" ∧ (parseMethodDescriptor yX12_layNext.desc).map (fun d => d.parameters.length) = some 1 := by decide +kernel
theorem im_X12_layNext : Cond.instanceMethod yX12_layNext ∈ zWs := (zWs_in 1394 (by decide +kernel) rfl)
theorem se_X12_layNext : Cond.selects yX12_layNext.cls yX12_layNext yX12_layNext ∈ zWs := (zWs_in 52 (by decide +kernel) rfl)
theorem mk_X12_247 : zMk RX12 247 yX12_lay := Or.inl (zWs_in 1346 (by decide +kernel) rfl)
theorem dy_X12_lay : yX12_lay.cls ≠ "java/lang/invoke/MethodHandle" ∧ yX12_lay.cls ≠ "java/lang/invoke/VarHandle" ∧ (parseMethodDescriptor yX12_lay.desc).map (fun d => d.parameters.length) = some 1 := by decide +kernel
theorem im_X12_lay : Cond.instanceMethod yX12_lay ∈ zWs := (zWs_in 1348 (by decide +kernel) rfl)
theorem se_X12_lay : Cond.selects yX12_lay.cls yX12_lay yX12_lay ∈ zWs := (zWs_in 43 (by decide +kernel) rfl)
theorem mk_X12_250 : zMk RX12 250 yX12_tellFraction := Or.inl (zWs_in 1404 (by decide +kernel) rfl)
theorem dy_X12_tellFraction : yX12_tellFraction.cls ≠ "java/lang/invoke/MethodHandle" ∧ yX12_tellFraction.cls ≠ "java/lang/invoke/VarHandle" ∧ (parseMethodDescriptor yX12_tellFraction.desc).map (fun d => d.parameters.length) = some 2 := by decide +kernel
theorem im_X12_tellFraction : Cond.instanceMethod yX12_tellFraction ∈ zWs := (zWs_in 1406 (by decide +kernel) rfl)
theorem se_X12_tellFraction : Cond.selects yX12_tellFraction.cls yX12_tellFraction yX12_tellFraction ∈ zWs := (zWs_in 55 (by decide +kernel) rfl)
theorem mk_X12_253 : zMk RX12 253 yX12_isBetween := Or.inl (zWs_in 1427 (by decide +kernel) rfl)
theorem dy_X12_isBetween : yX12_isBetween.cls ≠ "java/lang/invoke/MethodHandle" ∧ yX12_isBetween.cls ≠ "java/lang/invoke/VarHandle" ∧ (parseMethodDescriptor yX12_isBetween.desc).map (fun d => d.parameters.length) = some 5 := by decide +kernel
theorem sta_X12_isBetween : Cond.static yX12_isBetween ∈ zWs := (zWs_in 1428 (by decide +kernel) rfl)
theorem mk_X12_257 : zMk RX12 257 yX12_comesBy := Or.inl (zWs_in 1423 (by decide +kernel) rfl)
theorem dy_X12_comesBy : yX12_comesBy.cls ≠ "java/lang/invoke/MethodHandle" ∧ yX12_comesBy.cls ≠ "java/lang/invoke/VarHandle" ∧ (parseMethodDescriptor yX12_comesBy.desc).map (fun d => d.parameters.length) = some 5 := by decide +kernel
theorem im_X12_comesBy : Cond.instanceMethod yX12_comesBy ∈ zWs := (zWs_in 1425 (by decide +kernel) rfl)
theorem se_X12_comesBy : Cond.selects yX12_comesBy.cls yX12_comesBy yX12_comesBy ∈ zWs := (zWs_in 58 (by decide +kernel) rfl)
theorem mk_X12_261 : zMk RX12 261 yX12_isPoint := Or.inl (zWs_in 1416 (by decide +kernel) rfl)
theorem dy_X12_isPoint : yX12_isPoint.cls ≠ "java/lang/invoke/MethodHandle" ∧ yX12_isPoint.cls ≠ "java/lang/invoke/VarHandle" ∧ (parseMethodDescriptor yX12_isPoint.desc).map (fun d => d.parameters.length) = some 3 := by decide +kernel
theorem sta_X12_isPoint : Cond.static yX12_isPoint ∈ zWs := (zWs_in 1417 (by decide +kernel) rfl)
theorem mk_X12_264 : zMk RX12 264 yX12_isIn := Or.inl (zWs_in 1419 (by decide +kernel) rfl)
theorem dy_X12_isIn : yX12_isIn.cls ≠ "java/lang/invoke/MethodHandle" ∧ yX12_isIn.cls ≠ "java/lang/invoke/VarHandle" ∧ (parseMethodDescriptor yX12_isIn.desc).map (fun d => d.parameters.length) = some 4 := by decide +kernel
theorem im_X12_isIn : Cond.instanceMethod yX12_isIn ∈ zWs := (zWs_in 1421 (by decide +kernel) rfl)
theorem se_X12_isIn : Cond.selects yX12_isIn.cls yX12_isIn yX12_isIn ∈ zWs := (zWs_in 57 (by decide +kernel) rfl)
theorem lk_X12_40 : zLk RX12 40 "SplitSlicesModel" "cut" "[I" := Or.inl (zWs_in 1133 (by decide +kernel) rfl)
theorem csl_X12_268 : Cond.constantLong RX12 268 (-1) ∈ zWs := (zWs_in 1454 (by decide +kernel) rfl)
theorem mk_X12_270 : zMk RX12 270 yX12_bounding := Or.inl (zWs_in 1455 (by decide +kernel) rfl)
theorem dy_X12_bounding : yX12_bounding.cls ≠ "java/lang/invoke/MethodHandle" ∧ yX12_bounding.cls ≠ "java/lang/invoke/VarHandle" ∧ (parseMethodDescriptor yX12_bounding.desc).map (fun d => d.parameters.length) = some 5 := by decide +kernel
theorem im_X12_bounding : Cond.instanceMethod yX12_bounding ∈ zWs := (zWs_in 1457 (by decide +kernel) rfl)
theorem se_X12_bounding : Cond.selects yX12_bounding.cls yX12_bounding yX12_bounding ∈ zWs := (zWs_in 61 (by decide +kernel) rfl)
theorem mk_X12_274 : zMk RX12 274 yX12_putFraction := Or.inl (zWs_in 1459 (by decide +kernel) rfl)
theorem dy_X12_putFraction : yX12_putFraction.cls ≠ "java/lang/invoke/MethodHandle" ∧ yX12_putFraction.cls ≠ "java/lang/invoke/VarHandle" ∧ (parseMethodDescriptor yX12_putFraction.desc).map (fun d => d.parameters.length) = some 3 := by decide +kernel
theorem im_X12_putFraction : Cond.instanceMethod yX12_putFraction ∈ zWs := (zWs_in 1461 (by decide +kernel) rfl)
theorem se_X12_putFraction : Cond.selects yX12_putFraction.cls yX12_putFraction yX12_putFraction ∈ zWs := (zWs_in 62 (by decide +kernel) rfl)
theorem mk_X12_278 : zMk RX12 278 yX12_refusesCut := Or.inl (zWs_in 1446 (by decide +kernel) rfl)
theorem dy_X12_refusesCut : yX12_refusesCut.cls ≠ "java/lang/invoke/MethodHandle" ∧ yX12_refusesCut.cls ≠ "java/lang/invoke/VarHandle" ∧ (parseMethodDescriptor yX12_refusesCut.desc).map (fun d => d.parameters.length) = some 3 := by decide +kernel
theorem im_X12_refusesCut : Cond.instanceMethod yX12_refusesCut ∈ zWs := (zWs_in 1448 (by decide +kernel) rfl)
theorem se_X12_refusesCut : Cond.selects yX12_refusesCut.cls yX12_refusesCut yX12_refusesCut ∈ zWs := (zWs_in 59 (by decide +kernel) rfl)
theorem mk_X12_281 : zMk RX12 281 yX12_layCut := Or.inl (zWs_in 1450 (by decide +kernel) rfl)
theorem dy_X12_layCut : yX12_layCut.cls ≠ "java/lang/invoke/MethodHandle" ∧ yX12_layCut.cls ≠ "java/lang/invoke/VarHandle" ∧ (parseMethodDescriptor yX12_layCut.desc).map (fun d => d.parameters.length) = some 3 := by decide +kernel
theorem im_X12_layCut : Cond.instanceMethod yX12_layCut ∈ zWs := (zWs_in 1452 (by decide +kernel) rfl)
theorem se_X12_layCut : Cond.selects yX12_layCut.cls yX12_layCut yX12_layCut ∈ zWs := (zWs_in 60 (by decide +kernel) rfl)
theorem mk_X12_284 : zMk RX12 284 yX12_refusesStore := Or.inl (zWs_in 1467 (by decide +kernel) rfl)
theorem dy_X12_refusesStore : yX12_refusesStore.cls ≠ "java/lang/invoke/MethodHandle" ∧ yX12_refusesStore.cls ≠ "java/lang/invoke/VarHandle" ∧ (parseMethodDescriptor yX12_refusesStore.desc).map (fun d => d.parameters.length) = some 3 := by decide +kernel
theorem im_X12_refusesStore : Cond.instanceMethod yX12_refusesStore ∈ zWs := (zWs_in 1469 (by decide +kernel) rfl)
theorem se_X12_refusesStore : Cond.selects yX12_refusesStore.cls yX12_refusesStore yX12_refusesStore ∈ zWs := (zWs_in 63 (by decide +kernel) rfl)
theorem mk_X12_287 : zMk RX12 287 yX12_store := Or.inl (zWs_in 1471 (by decide +kernel) rfl)
theorem dy_X12_store : yX12_store.cls ≠ "java/lang/invoke/MethodHandle" ∧ yX12_store.cls ≠ "java/lang/invoke/VarHandle" ∧ (parseMethodDescriptor yX12_store.desc).map (fun d => d.parameters.length) = some 3 := by decide +kernel
theorem im_X12_store : Cond.instanceMethod yX12_store ∈ zWs := (zWs_in 1473 (by decide +kernel) rfl)
theorem se_X12_store : Cond.selects yX12_store.cls yX12_store yX12_store ∈ zWs := (zWs_in 64 (by decide +kernel) rfl)
theorem mk_X12_290 : zMk RX12 290 yX12_stored := Or.inl (zWs_in 1483 (by decide +kernel) rfl)
theorem dy_X12_stored : yX12_stored.cls ≠ "java/lang/invoke/MethodHandle" ∧ yX12_stored.cls ≠ "java/lang/invoke/VarHandle" ∧ (parseMethodDescriptor yX12_stored.desc).map (fun d => d.parameters.length) = some 2 := by decide +kernel
theorem im_X12_stored : Cond.instanceMethod yX12_stored ∈ zWs := (zWs_in 1485 (by decide +kernel) rfl)
theorem se_X12_stored : Cond.selects yX12_stored.cls yX12_stored yX12_stored ∈ zWs := (zWs_in 66 (by decide +kernel) rfl)
theorem mk_X12_293 : zMk RX12 293 yX12_proves := Or.inl (zWs_in 1491 (by decide +kernel) rfl)
theorem dy_X12_proves : yX12_proves.cls ≠ "java/lang/invoke/MethodHandle" ∧ yX12_proves.cls ≠ "java/lang/invoke/VarHandle" ∧ (parseMethodDescriptor yX12_proves.desc).map (fun d => d.parameters.length) = some 5 := by decide +kernel
theorem im_X12_proves : Cond.instanceMethod yX12_proves ∈ zWs := (zWs_in 1493 (by decide +kernel) rfl)
theorem se_X12_proves : Cond.selects yX12_proves.cls yX12_proves yX12_proves ∈ zWs := (zWs_in 68 (by decide +kernel) rfl)
theorem mk_X12_296 : zMk RX12 296 yX12_isStored := Or.inl (zWs_in 1479 (by decide +kernel) rfl)
theorem dy_X12_isStored : yX12_isStored.cls ≠ "java/lang/invoke/MethodHandle" ∧ yX12_isStored.cls ≠ "java/lang/invoke/VarHandle" ∧ (parseMethodDescriptor yX12_isStored.desc).map (fun d => d.parameters.length) = some 1 := by decide +kernel
theorem im_X12_isStored : Cond.instanceMethod yX12_isStored ∈ zWs := (zWs_in 1481 (by decide +kernel) rfl)
theorem se_X12_isStored : Cond.selects yX12_isStored.cls yX12_isStored yX12_isStored ∈ zWs := (zWs_in 65 (by decide +kernel) rfl)
theorem mk_X12_299 : zMk RX12 299 yX12_isProven := Or.inl (zWs_in 1487 (by decide +kernel) rfl)
theorem dy_X12_isProven : yX12_isProven.cls ≠ "java/lang/invoke/MethodHandle" ∧ yX12_isProven.cls ≠ "java/lang/invoke/VarHandle" ∧ (parseMethodDescriptor yX12_isProven.desc).map (fun d => d.parameters.length) = some 1 := by decide +kernel
theorem im_X12_isProven : Cond.instanceMethod yX12_isProven ∈ zWs := (zWs_in 1489 (by decide +kernel) rfl)
theorem se_X12_isProven : Cond.selects yX12_isProven.cls yX12_isProven yX12_isProven ∈ zWs := (zWs_in 67 (by decide +kernel) rfl)
theorem mk_X12_302 : zMk RX12 302 yX12_isWhole := Or.inl (zWs_in 1499 (by decide +kernel) rfl)
theorem dy_X12_isWhole : yX12_isWhole.cls ≠ "java/lang/invoke/MethodHandle" ∧ yX12_isWhole.cls ≠ "java/lang/invoke/VarHandle" ∧ (parseMethodDescriptor yX12_isWhole.desc).map (fun d => d.parameters.length) = some 2 := by decide +kernel
theorem im_X12_isWhole : Cond.instanceMethod yX12_isWhole ∈ zWs := (zWs_in 1501 (by decide +kernel) rfl)
theorem se_X12_isWhole : Cond.selects yX12_isWhole.cls yX12_isWhole yX12_isWhole ∈ zWs := (zWs_in 69 (by decide +kernel) rfl)
theorem lk_X12_43 : zLk RX12 43 "SplitSlicesModel" "points" "[I" := Or.inl (zWs_in 1134 (by decide +kernel) rfl)
theorem lk_X12_306 : zLk RX12 306 "SplitSlicesModel" "pointMany" "I" := Or.inl (zWs_in 1135 (by decide +kernel) rfl)
theorem mk_X12_309 : zMk RX12 309 yX12_layWholes := Or.inl (zWs_in 1515 (by decide +kernel) rfl)
theorem dy_X12_layWholes : yX12_layWholes.cls ≠ "java/lang/invoke/MethodHandle" ∧ yX12_layWholes.cls ≠ "java/lang/invoke/VarHandle" ∧ (parseMethodDescriptor yX12_layWholes.desc).map (fun d => d.parameters.length) = some 0 := by decide +kernel
theorem im_X12_layWholes : Cond.instanceMethod yX12_layWholes ∈ zWs := (zWs_in 1517 (by decide +kernel) rfl)
theorem se_X12_layWholes : Cond.selects yX12_layWholes.cls yX12_layWholes yX12_layWholes ∈ zWs := (zWs_in 70 (by decide +kernel) rfl)
theorem mk_X12_312 : zMk RX12 312 yX12_turn := Or.inl (zWs_in 1527 (by decide +kernel) rfl)
theorem dy_X12_turn : yX12_turn.cls ≠ "java/lang/invoke/MethodHandle" ∧ yX12_turn.cls ≠ "java/lang/invoke/VarHandle" ∧ (parseMethodDescriptor yX12_turn.desc).map (fun d => d.parameters.length) = some 3 := by decide +kernel
theorem im_X12_turn : Cond.instanceMethod yX12_turn ∈ zWs := (zWs_in 1529 (by decide +kernel) rfl)
theorem se_X12_turn : Cond.selects yX12_turn.cls yX12_turn yX12_turn ∈ zWs := (zWs_in 72 (by decide +kernel) rfl)
theorem mk_X12_315 : zMk RX12 315 yX12_far := Or.inl (zWs_in 1531 (by decide +kernel) rfl)
theorem dy_X12_far : yX12_far.cls ≠ "java/lang/invoke/MethodHandle" ∧ yX12_far.cls ≠ "java/lang/invoke/VarHandle" ∧ (parseMethodDescriptor yX12_far.desc).map (fun d => d.parameters.length) = some 2 := by decide +kernel
theorem im_X12_far : Cond.instanceMethod yX12_far ∈ zWs := (zWs_in 1533 (by decide +kernel) rfl)
theorem se_X12_far : Cond.selects yX12_far.cls yX12_far yX12_far ∈ zWs := (zWs_in 73 (by decide +kernel) rfl)
theorem mk_X12_318 : zMk RX12 318 yX12_nextCorner := Or.inl (zWs_in 1523 (by decide +kernel) rfl)
theorem dy_X12_nextCorner : yX12_nextCorner.cls ≠ "java/lang/invoke/MethodHandle" ∧ yX12_nextCorner.cls ≠ "java/lang/invoke/VarHandle" ∧ (parseMethodDescriptor yX12_nextCorner.desc).map (fun d => d.parameters.length) = some 1 := by decide +kernel
theorem im_X12_nextCorner : Cond.instanceMethod yX12_nextCorner ∈ zWs := (zWs_in 1525 (by decide +kernel) rfl)
theorem se_X12_nextCorner : Cond.selects yX12_nextCorner.cls yX12_nextCorner yX12_nextCorner ∈ zWs := (zWs_in 71 (by decide +kernel) rfl)
theorem mk_X12_321 : zMk RX12 321 yX12_farFrom := Or.inl (zWs_in 1539 (by decide +kernel) rfl)
theorem dy_X12_farFrom : yX12_farFrom.cls ≠ "java/lang/invoke/MethodHandle" ∧ yX12_farFrom.cls ≠ "java/lang/invoke/VarHandle" ∧ (parseMethodDescriptor yX12_farFrom.desc).map (fun d => d.parameters.length) = some 4 := by decide +kernel
theorem im_X12_farFrom : Cond.instanceMethod yX12_farFrom ∈ zWs := (zWs_in 1541 (by decide +kernel) rfl)
theorem se_X12_farFrom : Cond.selects yX12_farFrom.cls yX12_farFrom yX12_farFrom ∈ zWs := (zWs_in 74 (by decide +kernel) rfl)
theorem lk_X12_325 : zLk RX12 325 "SplitSlicesModel" "hasMost" "Z" := Or.inl (zWs_in 1136 (by decide +kernel) rfl)
theorem lk_X12_328 : zLk RX12 328 "SplitSlicesModel" "mostAbove" "J" := Or.inl (zWs_in 1137 (by decide +kernel) rfl)
theorem lk_X12_331 : zLk RX12 331 "SplitSlicesModel" "mostBelow" "J" := Or.inl (zWs_in 1138 (by decide +kernel) rfl)
theorem mk_X12_334 : zMk RX12 334 yX12_offer := Or.inl (zWs_in 1558 (by decide +kernel) rfl)
theorem dy_X12_offer : yX12_offer.cls ≠ "java/lang/invoke/MethodHandle" ∧ yX12_offer.cls ≠ "java/lang/invoke/VarHandle" ∧ (parseMethodDescriptor yX12_offer.desc).map (fun d => d.parameters.length) = some 2 := by decide +kernel
theorem im_X12_offer : Cond.instanceMethod yX12_offer ∈ zWs := (zWs_in 1560 (by decide +kernel) rfl)
theorem se_X12_offer : Cond.selects yX12_offer.cls yX12_offer yX12_offer ∈ zWs := (zWs_in 77 (by decide +kernel) rfl)
theorem mk_X12_337 : zMk RX12 337 yX12_offerCorner := Or.inl (zWs_in 1554 (by decide +kernel) rfl)
theorem dy_X12_offerCorner : yX12_offerCorner.cls ≠ "java/lang/invoke/MethodHandle" ∧ yX12_offerCorner.cls ≠ "java/lang/invoke/VarHandle" ∧ (parseMethodDescriptor yX12_offerCorner.desc).map (fun d => d.parameters.length) = some 4 := by decide +kernel
theorem im_X12_offerCorner : Cond.instanceMethod yX12_offerCorner ∈ zWs := (zWs_in 1556 (by decide +kernel) rfl)
theorem se_X12_offerCorner : Cond.selects yX12_offerCorner.cls yX12_offerCorner yX12_offerCorner ∈ zWs := (zWs_in 76 (by decide +kernel) rfl)
theorem mk_X12_341 : zMk RX12 341 yX12_offerSlices := Or.inl (zWs_in 1562 (by decide +kernel) rfl)
theorem dy_X12_offerSlices : yX12_offerSlices.cls ≠ "java/lang/invoke/MethodHandle" ∧ yX12_offerSlices.cls ≠ "java/lang/invoke/VarHandle" ∧ (parseMethodDescriptor yX12_offerSlices.desc).map (fun d => d.parameters.length) = some 3 := by decide +kernel
theorem im_X12_offerSlices : Cond.instanceMethod yX12_offerSlices ∈ zWs := (zWs_in 1564 (by decide +kernel) rfl)
theorem se_X12_offerSlices : Cond.selects yX12_offerSlices.cls yX12_offerSlices yX12_offerSlices ∈ zWs := (zWs_in 78 (by decide +kernel) rfl)
theorem mk_X12_344 : zMk RX12 344 yX12_isSum := Or.inl (zWs_in 1547 (by decide +kernel) rfl)
theorem dy_X12_isSum : yX12_isSum.cls ≠ "java/lang/invoke/MethodHandle" ∧ yX12_isSum.cls ≠ "java/lang/invoke/VarHandle" ∧ (parseMethodDescriptor yX12_isSum.desc).map (fun d => d.parameters.length) = some 2 := by decide +kernel
theorem sta_X12_isSum : Cond.static yX12_isSum ∈ zWs := (zWs_in 1548 (by decide +kernel) rfl)
theorem mk_X12_347 : zMk RX12 347 yX12_layMost := Or.inl (zWs_in 1550 (by decide +kernel) rfl)
theorem dy_X12_layMost : yX12_layMost.cls ≠ "java/lang/invoke/MethodHandle" ∧ yX12_layMost.cls ≠ "java/lang/invoke/VarHandle" ∧ (parseMethodDescriptor yX12_layMost.desc).map (fun d => d.parameters.length) = some 3 := by decide +kernel
theorem im_X12_layMost : Cond.instanceMethod yX12_layMost ∈ zWs := (zWs_in 1552 (by decide +kernel) rfl)
theorem se_X12_layMost : Cond.selects yX12_layMost.cls yX12_layMost yX12_layMost ∈ zWs := (zWs_in 75 (by decide +kernel) rfl)
theorem mk_X12_350 : zMk RX12 350 yX12_wholesWithout := Or.inl (zWs_in 1578 (by decide +kernel) rfl)
theorem dy_X12_wholesWithout : yX12_wholesWithout.cls ≠ "java/lang/invoke/MethodHandle" ∧ yX12_wholesWithout.cls ≠ "java/lang/invoke/VarHandle" ∧ (parseMethodDescriptor yX12_wholesWithout.desc).map (fun d => d.parameters.length) = some 1 := by decide +kernel
theorem im_X12_wholesWithout : Cond.instanceMethod yX12_wholesWithout ∈ zWs := (zWs_in 1580 (by decide +kernel) rfl)
theorem se_X12_wholesWithout : Cond.selects yX12_wholesWithout.cls yX12_wholesWithout yX12_wholesWithout ∈ zWs := (zWs_in 79 (by decide +kernel) rfl)
theorem lk_X12_46 : zLk RX12 46 "SplitSlicesModel" "acts" "[I" := Or.inl (zWs_in 1139 (by decide +kernel) rfl)
theorem mk_X12_353 : zMk RX12 353 yX12_readAct := Or.inl (zWs_in 1586 (by decide +kernel) rfl)
theorem dy_X12_readAct : yX12_readAct.cls ≠ "java/lang/invoke/MethodHandle" ∧ yX12_readAct.cls ≠ "java/lang/invoke/VarHandle" ∧ (parseMethodDescriptor yX12_readAct.desc).map (fun d => d.parameters.length) = some 1 := by decide +kernel
theorem im_X12_readAct : Cond.instanceMethod yX12_readAct ∈ zWs := (zWs_in 1588 (by decide +kernel) rfl)
theorem se_X12_readAct : Cond.selects yX12_readAct.cls yX12_readAct yX12_readAct ∈ zWs := (zWs_in 80 (by decide +kernel) rfl)
theorem mk_X12_356 : zMk RX12 356 yX12_act := Or.inl (zWs_in 1590 (by decide +kernel) rfl)
theorem dy_X12_act : yX12_act.cls ≠ "java/lang/invoke/MethodHandle" ∧ yX12_act.cls ≠ "java/lang/invoke/VarHandle" ∧ (parseMethodDescriptor yX12_act.desc).map (fun d => d.parameters.length) = some 1 := by decide +kernel
theorem im_X12_act : Cond.instanceMethod yX12_act ∈ zWs := (zWs_in 1592 (by decide +kernel) rfl)
theorem se_X12_act : Cond.selects yX12_act.cls yX12_act yX12_act ∈ zWs := (zWs_in 81 (by decide +kernel) rfl)
theorem lk_X12_359 : zLk RX12 359 "SplitSlicesModel" "drawn" "I" := Or.inl (zWs_in 1140 (by decide +kernel) rfl)
theorem cst_X12_362 : Cond.constant RX12 362 (1103515245) ∈ zWs := (zWs_in 1610 (by decide +kernel) rfl)
theorem mk_X12_363 : zMk RX12 363 yX12_draw := Or.inl (zWs_in 1606 (by decide +kernel) rfl)
theorem dy_X12_draw : yX12_draw.cls ≠ "java/lang/invoke/MethodHandle" ∧ yX12_draw.cls ≠ "java/lang/invoke/VarHandle" ∧ (parseMethodDescriptor yX12_draw.desc).map (fun d => d.parameters.length) = some 1 := by decide +kernel
theorem im_X12_draw : Cond.instanceMethod yX12_draw ∈ zWs := (zWs_in 1608 (by decide +kernel) rfl)
theorem se_X12_draw : Cond.selects yX12_draw.cls yX12_draw yX12_draw ∈ zWs := (zWs_in 83 (by decide +kernel) rfl)
theorem mk_X12_366 : zMk RX12 366 yX12_goDrawn := Or.inl (zWs_in 1602 (by decide +kernel) rfl)
theorem dy_X12_goDrawn : yX12_goDrawn.cls ≠ "java/lang/invoke/MethodHandle" ∧ yX12_goDrawn.cls ≠ "java/lang/invoke/VarHandle" ∧ (parseMethodDescriptor yX12_goDrawn.desc).map (fun d => d.parameters.length) = some 0 := by decide +kernel
theorem im_X12_goDrawn : Cond.instanceMethod yX12_goDrawn ∈ zWs := (zWs_in 1604 (by decide +kernel) rfl)
theorem se_X12_goDrawn : Cond.selects yX12_goDrawn.cls yX12_goDrawn yX12_goDrawn ∈ zWs := (zWs_in 82 (by decide +kernel) rfl)
theorem lk_X12_52 : zLk RX12 52 "SplitSlicesModel" "isKept" "[Z" := Or.inl (zWs_in 1142 (by decide +kernel) rfl)
theorem lk_X12_49 : zLk RX12 49 "SplitSlicesModel" "kept" "[I" := Or.inl (zWs_in 1141 (by decide +kernel) rfl)
theorem mk_X12_369 : zMk RX12 369 yX12_provenMany := Or.inl (zWs_in 1623 (by decide +kernel) rfl)
theorem dy_X12_provenMany : yX12_provenMany.cls ≠ "java/lang/invoke/MethodHandle" ∧ yX12_provenMany.cls ≠ "java/lang/invoke/VarHandle" ∧ (parseMethodDescriptor yX12_provenMany.desc).map (fun d => d.parameters.length) = some 0 := by decide +kernel
theorem im_X12_provenMany : Cond.instanceMethod yX12_provenMany ∈ zWs := (zWs_in 1625 (by decide +kernel) rfl)
theorem se_X12_provenMany : Cond.selects yX12_provenMany.cls yX12_provenMany yX12_provenMany ∈ zWs := (zWs_in 84 (by decide +kernel) rfl)
theorem mk_X12_372 : zMk RX12 372 yX12_brokenMany := Or.inl (zWs_in 1627 (by decide +kernel) rfl)
theorem dy_X12_brokenMany : yX12_brokenMany.cls ≠ "java/lang/invoke/MethodHandle" ∧ yX12_brokenMany.cls ≠ "java/lang/invoke/VarHandle" ∧ (parseMethodDescriptor yX12_brokenMany.desc).map (fun d => d.parameters.length) = some 0 := by decide +kernel
theorem im_X12_brokenMany : Cond.instanceMethod yX12_brokenMany ∈ zWs := (zWs_in 1629 (by decide +kernel) rfl)
theorem se_X12_brokenMany : Cond.selects yX12_brokenMany.cls yX12_brokenMany yX12_brokenMany ∈ zWs := (zWs_in 85 (by decide +kernel) rfl)
