section
-- ===== PART A: goes FIRST, ahead of the names: the tables' words, and 'selects' of the private methods out of them =====
/-- a private method of a class that the tables say can be made, by its rows of tables_1 -/
def lw_okq (q : MethodName × Nat) : Prop := (q.1.cls ≠ "java/lang/invoke/MethodHandle" ∧ q.1.cls ≠ "java/lang/invoke/VarHandle") ∧ Cond.instantiable q.1.cls q.2 ∈ tables_1 ∧ Cond.privateMethod q.1 ∈ tables_1 ∧ Cond.instanceMethod q.1 ∈ tables_1
theorem lw_p0 : lw_okq (⟨"SplitSlices$Signs", "fits", "(IC)Z"⟩, 2) := ⟨⟨by decide +kernel, by decide +kernel⟩, List.mem_of_getElem? (i := 80) (by decide +kernel), List.mem_of_getElem? (i := 382) (by decide +kernel), List.mem_of_getElem? (i := 383) (by decide +kernel)⟩
theorem lw_p1 : lw_okq (⟨"SplitSlices", "noted", "(I)I"⟩, 13) := ⟨⟨by decide +kernel, by decide +kernel⟩, List.mem_of_getElem? (i := 26) (by decide +kernel), List.mem_of_getElem? (i := 442) (by decide +kernel), List.mem_of_getElem? (i := 443) (by decide +kernel)⟩
theorem lw_p2 : lw_okq (⟨"SplitSlices$Regions", "boundByRows", "(LSplitSlices$Plan;II)V"⟩, 4) := ⟨⟨by decide +kernel, by decide +kernel⟩, List.mem_of_getElem? (i := 107) (by decide +kernel), List.mem_of_getElem? (i := 511) (by decide +kernel), List.mem_of_getElem? (i := 512) (by decide +kernel)⟩
theorem lw_p3 : lw_okq (⟨"SplitSlices$Regions", "boundBySplits", "(III)V"⟩, 4) := ⟨⟨by decide +kernel, by decide +kernel⟩, List.mem_of_getElem? (i := 107) (by decide +kernel), List.mem_of_getElem? (i := 549) (by decide +kernel), List.mem_of_getElem? (i := 550) (by decide +kernel)⟩
theorem lw_p4 : lw_okq (⟨"SplitSlices$Regions", "joinBetween", "(LSplitSlices$Slice;LSplitSlices$Slice;LSplitSlices$Slice;II)V"⟩, 4) := ⟨⟨by decide +kernel, by decide +kernel⟩, List.mem_of_getElem? (i := 107) (by decide +kernel), List.mem_of_getElem? (i := 566) (by decide +kernel), List.mem_of_getElem? (i := 567) (by decide +kernel)⟩
theorem lw_p5 : lw_okq (⟨"SplitSlices$Regions", "narrow", "(LSplitSlices$Ratio;LSplitSlices$Ratio;III)Z"⟩, 4) := ⟨⟨by decide +kernel, by decide +kernel⟩, List.mem_of_getElem? (i := 107) (by decide +kernel), List.mem_of_getElem? (i := 570) (by decide +kernel), List.mem_of_getElem? (i := 571) (by decide +kernel)⟩
theorem lw_p6 : lw_okq (⟨"SplitSlices", "findCut", "(III)I"⟩, 13) := ⟨⟨by decide +kernel, by decide +kernel⟩, List.mem_of_getElem? (i := 26) (by decide +kernel), List.mem_of_getElem? (i := 649) (by decide +kernel), List.mem_of_getElem? (i := 650) (by decide +kernel)⟩
theorem lw_p7 : lw_okq (⟨"SplitSlices$CutFinder", "putLine", "(LSplitSlices$Ratio;LSplitSlices$Ratio;I)V"⟩, 2) := ⟨⟨by decide +kernel, by decide +kernel⟩, List.mem_of_getElem? (i := 180) (by decide +kernel), List.mem_of_getElem? (i := 659) (by decide +kernel), List.mem_of_getElem? (i := 660) (by decide +kernel)⟩
theorem lw_p8 : lw_okq (⟨"SplitSlices$CutFinder", "putProof", "(LSplitSlices$Plan;LSplitSlices$Ratio;II)V"⟩, 2) := ⟨⟨by decide +kernel, by decide +kernel⟩, List.mem_of_getElem? (i := 180) (by decide +kernel), List.mem_of_getElem? (i := 665) (by decide +kernel), List.mem_of_getElem? (i := 666) (by decide +kernel)⟩
theorem lw_p9 : lw_okq (⟨"SplitSlices$CutFinder", "firstBounding", "(LSplitSlices$Plan;LSplitSlices$Ratio;II)I"⟩, 2) := ⟨⟨by decide +kernel, by decide +kernel⟩, List.mem_of_getElem? (i := 180) (by decide +kernel), List.mem_of_getElem? (i := 669) (by decide +kernel), List.mem_of_getElem? (i := 670) (by decide +kernel)⟩
theorem lw_p10 : lw_okq (⟨"SplitSlices$CutFinder", "putTimes", "(IJJ)V"⟩, 2) := ⟨⟨by decide +kernel, by decide +kernel⟩, List.mem_of_getElem? (i := 180) (by decide +kernel), List.mem_of_getElem? (i := 675) (by decide +kernel), List.mem_of_getElem? (i := 676) (by decide +kernel)⟩
theorem lw_p11 : lw_okq (⟨"SplitSlices", "storeFound", "(I)I"⟩, 13) := ⟨⟨by decide +kernel, by decide +kernel⟩, List.mem_of_getElem? (i := 26) (by decide +kernel), List.mem_of_getElem? (i := 684) (by decide +kernel), List.mem_of_getElem? (i := 685) (by decide +kernel)⟩
theorem lw_p12 : lw_okq (⟨"SplitSlices$Plan", "halfChecks", "([JI)Z"⟩, 4) := ⟨⟨by decide +kernel, by decide +kernel⟩, List.mem_of_getElem? (i := 34) (by decide +kernel), List.mem_of_getElem? (i := 705) (by decide +kernel), List.mem_of_getElem? (i := 706) (by decide +kernel)⟩
theorem lw_p13 : lw_okq (⟨"SplitSlices$WholePoints", "link", "(II)V"⟩, 5) := ⟨⟨by decide +kernel, by decide +kernel⟩, List.mem_of_getElem? (i := 196) (by decide +kernel), List.mem_of_getElem? (i := 769) (by decide +kernel), List.mem_of_getElem? (i := 770) (by decide +kernel)⟩
theorem lw_p14 : lw_okq (⟨"SplitSlices$WholePoints", "turn", "(III)I"⟩, 5) := ⟨⟨by decide +kernel, by decide +kernel⟩, List.mem_of_getElem? (i := 196) (by decide +kernel), List.mem_of_getElem? (i := 773) (by decide +kernel), List.mem_of_getElem? (i := 774) (by decide +kernel)⟩
theorem lw_p15 : lw_okq (⟨"SplitSlices", "findMost", "(III)V"⟩, 13) := ⟨⟨by decide +kernel, by decide +kernel⟩, List.mem_of_getElem? (i := 26) (by decide +kernel), List.mem_of_getElem? (i := 793) (by decide +kernel), List.mem_of_getElem? (i := 794) (by decide +kernel)⟩
def lw_privs_1 : List (MethodName × Nat) := [(⟨"SplitSlices$Signs", "fits", "(IC)Z"⟩, 2), (⟨"SplitSlices", "noted", "(I)I"⟩, 13), (⟨"SplitSlices$Regions", "boundByRows", "(LSplitSlices$Plan;II)V"⟩, 4), (⟨"SplitSlices$Regions", "boundBySplits", "(III)V"⟩, 4), (⟨"SplitSlices$Regions", "joinBetween", "(LSplitSlices$Slice;LSplitSlices$Slice;LSplitSlices$Slice;II)V"⟩, 4), (⟨"SplitSlices$Regions", "narrow", "(LSplitSlices$Ratio;LSplitSlices$Ratio;III)Z"⟩, 4), (⟨"SplitSlices", "findCut", "(III)I"⟩, 13), (⟨"SplitSlices$CutFinder", "putLine", "(LSplitSlices$Ratio;LSplitSlices$Ratio;I)V"⟩, 2), (⟨"SplitSlices$CutFinder", "putProof", "(LSplitSlices$Plan;LSplitSlices$Ratio;II)V"⟩, 2), (⟨"SplitSlices$CutFinder", "firstBounding", "(LSplitSlices$Plan;LSplitSlices$Ratio;II)I"⟩, 2), (⟨"SplitSlices$CutFinder", "putTimes", "(IJJ)V"⟩, 2), (⟨"SplitSlices", "storeFound", "(I)I"⟩, 13), (⟨"SplitSlices$Plan", "halfChecks", "([JI)Z"⟩, 4), (⟨"SplitSlices$WholePoints", "link", "(II)V"⟩, 5), (⟨"SplitSlices$WholePoints", "turn", "(III)I"⟩, 5), (⟨"SplitSlices", "findMost", "(III)V"⟩, 13)]
theorem lw_r1 : ∀ q ∈ lw_privs_1, lw_okq q := List.forall_mem_cons.mpr ⟨lw_p0, List.forall_mem_cons.mpr ⟨lw_p1, List.forall_mem_cons.mpr ⟨lw_p2, List.forall_mem_cons.mpr ⟨lw_p3, List.forall_mem_cons.mpr ⟨lw_p4, List.forall_mem_cons.mpr ⟨lw_p5, List.forall_mem_cons.mpr ⟨lw_p6, List.forall_mem_cons.mpr ⟨lw_p7, List.forall_mem_cons.mpr ⟨lw_p8, List.forall_mem_cons.mpr ⟨lw_p9, List.forall_mem_cons.mpr ⟨lw_p10, List.forall_mem_cons.mpr ⟨lw_p11, List.forall_mem_cons.mpr ⟨lw_p12, List.forall_mem_cons.mpr ⟨lw_p13, List.forall_mem_cons.mpr ⟨lw_p14, List.forall_mem_cons.mpr ⟨lw_p15, fun _ h => absurd h List.not_mem_nil⟩⟩⟩⟩⟩⟩⟩⟩⟩⟩⟩⟩⟩⟩⟩⟩
theorem lw_p16 : lw_okq (⟨"SplitSlices$Most", "offerCorner", "(LSplitSlices$Plan;II)V"⟩, 5) := ⟨⟨by decide +kernel, by decide +kernel⟩, List.mem_of_getElem? (i := 235) (by decide +kernel), List.mem_of_getElem? (i := 806) (by decide +kernel), List.mem_of_getElem? (i := 807) (by decide +kernel)⟩
theorem lw_p17 : lw_okq (⟨"SplitSlices$Most", "offer", "(JJ)V"⟩, 5) := ⟨⟨by decide +kernel, by decide +kernel⟩, List.mem_of_getElem? (i := 235) (by decide +kernel), List.mem_of_getElem? (i := 812) (by decide +kernel), List.mem_of_getElem? (i := 813) (by decide +kernel)⟩
theorem lw_p18 : lw_okq (⟨"SplitSlices$Most", "offerEnd", "(LSplitSlices$Ratio;II)V"⟩, 5) := ⟨⟨by decide +kernel, by decide +kernel⟩, List.mem_of_getElem? (i := 235) (by decide +kernel), List.mem_of_getElem? (i := 829) (by decide +kernel), List.mem_of_getElem? (i := 830) (by decide +kernel)⟩
theorem lw_p19 : lw_okq (⟨"SplitSlices$Signs", "actForm", "(I)Ljava/lang/String;"⟩, 2) := ⟨⟨by decide +kernel, by decide +kernel⟩, List.mem_of_getElem? (i := 80) (by decide +kernel), List.mem_of_getElem? (i := 856) (by decide +kernel), List.mem_of_getElem? (i := 857) (by decide +kernel)⟩
theorem lw_p20 : lw_okq (⟨"SplitSlices", "act", "(I)I"⟩, 13) := ⟨⟨by decide +kernel, by decide +kernel⟩, List.mem_of_getElem? (i := 26) (by decide +kernel), List.mem_of_getElem? (i := 868) (by decide +kernel), List.mem_of_getElem? (i := 869) (by decide +kernel)⟩
theorem lw_p21 : lw_okq (⟨"SplitSlices", "changeByDraw", "(LSplitSlices$Plan;)I"⟩, 13) := ⟨⟨by decide +kernel, by decide +kernel⟩, List.mem_of_getElem? (i := 26) (by decide +kernel), List.mem_of_getElem? (i := 892) (by decide +kernel), List.mem_of_getElem? (i := 893) (by decide +kernel)⟩
theorem lw_p22 : lw_okq (⟨"java/lang/Throwable", "fillInStackTrace", "(I)Ljava/lang/Throwable;"⟩, 6) := ⟨⟨by decide +kernel, by decide +kernel⟩, List.mem_of_getElem? (i := 973) (by decide +kernel), List.mem_of_getElem? (i := 971) (by decide +kernel), List.mem_of_getElem? (i := 972) (by decide +kernel)⟩
theorem lw_p23 : lw_okq (⟨"SplitSlicesModel", "begin", "()V"⟩, 37) := ⟨⟨by decide +kernel, by decide +kernel⟩, List.mem_of_getElem? (i := 1015) (by decide +kernel), List.mem_of_getElem? (i := 1152) (by decide +kernel), List.mem_of_getElem? (i := 1153) (by decide +kernel)⟩
theorem lw_p24 : lw_okq (⟨"SplitSlicesModel", "fine", "()Z"⟩, 37) := ⟨⟨by decide +kernel, by decide +kernel⟩, List.mem_of_getElem? (i := 1015) (by decide +kernel), List.mem_of_getElem? (i := 1156) (by decide +kernel), List.mem_of_getElem? (i := 1157) (by decide +kernel)⟩
theorem lw_p25 : lw_okq (⟨"SplitSlicesModel", "readRow", "(I)V"⟩, 37) := ⟨⟨by decide +kernel, by decide +kernel⟩, List.mem_of_getElem? (i := 1015) (by decide +kernel), List.mem_of_getElem? (i := 1160) (by decide +kernel), List.mem_of_getElem? (i := 1161) (by decide +kernel)⟩
theorem lw_p26 : lw_okq (⟨"SplitSlicesModel", "sided", "()I"⟩, 37) := ⟨⟨by decide +kernel, by decide +kernel⟩, List.mem_of_getElem? (i := 1015) (by decide +kernel), List.mem_of_getElem? (i := 1164) (by decide +kernel), List.mem_of_getElem? (i := 1165) (by decide +kernel)⟩
theorem lw_p27 : lw_okq (⟨"SplitSlicesModel", "passes", "(C)Z"⟩, 37) := ⟨⟨by decide +kernel, by decide +kernel⟩, List.mem_of_getElem? (i := 1015) (by decide +kernel), List.mem_of_getElem? (i := 1168) (by decide +kernel), List.mem_of_getElem? (i := 1169) (by decide +kernel)⟩
theorem lw_p28 : lw_okq (⟨"SplitSlicesModel", "here", "()I"⟩, 37) := ⟨⟨by decide +kernel, by decide +kernel⟩, List.mem_of_getElem? (i := 1015) (by decide +kernel), List.mem_of_getElem? (i := 1172) (by decide +kernel), List.mem_of_getElem? (i := 1173) (by decide +kernel)⟩
theorem lw_p29 : lw_okq (⟨"SplitSlicesModel", "need", "(C)V"⟩, 37) := ⟨⟨by decide +kernel, by decide +kernel⟩, List.mem_of_getElem? (i := 1015) (by decide +kernel), List.mem_of_getElem? (i := 1176) (by decide +kernel), List.mem_of_getElem? (i := 1177) (by decide +kernel)⟩
theorem lw_p30 : lw_okq (⟨"SplitSlicesModel", "fault", "(I)V"⟩, 37) := ⟨⟨by decide +kernel, by decide +kernel⟩, List.mem_of_getElem? (i := 1015) (by decide +kernel), List.mem_of_getElem? (i := 1180) (by decide +kernel), List.mem_of_getElem? (i := 1181) (by decide +kernel)⟩
theorem lw_p31 : lw_okq (⟨"SplitSlicesModel", "digit", "(I)I"⟩, 37) := ⟨⟨by decide +kernel, by decide +kernel⟩, List.mem_of_getElem? (i := 1015) (by decide +kernel), List.mem_of_getElem? (i := 1184) (by decide +kernel), List.mem_of_getElem? (i := 1185) (by decide +kernel)⟩
def lw_privs_2 : List (MethodName × Nat) := [(⟨"SplitSlices$Most", "offerCorner", "(LSplitSlices$Plan;II)V"⟩, 5), (⟨"SplitSlices$Most", "offer", "(JJ)V"⟩, 5), (⟨"SplitSlices$Most", "offerEnd", "(LSplitSlices$Ratio;II)V"⟩, 5), (⟨"SplitSlices$Signs", "actForm", "(I)Ljava/lang/String;"⟩, 2), (⟨"SplitSlices", "act", "(I)I"⟩, 13), (⟨"SplitSlices", "changeByDraw", "(LSplitSlices$Plan;)I"⟩, 13), (⟨"java/lang/Throwable", "fillInStackTrace", "(I)Ljava/lang/Throwable;"⟩, 6), (⟨"SplitSlicesModel", "begin", "()V"⟩, 37), (⟨"SplitSlicesModel", "fine", "()Z"⟩, 37), (⟨"SplitSlicesModel", "readRow", "(I)V"⟩, 37), (⟨"SplitSlicesModel", "sided", "()I"⟩, 37), (⟨"SplitSlicesModel", "passes", "(C)Z"⟩, 37), (⟨"SplitSlicesModel", "here", "()I"⟩, 37), (⟨"SplitSlicesModel", "need", "(C)V"⟩, 37), (⟨"SplitSlicesModel", "fault", "(I)V"⟩, 37), (⟨"SplitSlicesModel", "digit", "(I)I"⟩, 37)]
theorem lw_r2 : ∀ q ∈ lw_privs_2, lw_okq q := List.forall_mem_cons.mpr ⟨lw_p16, List.forall_mem_cons.mpr ⟨lw_p17, List.forall_mem_cons.mpr ⟨lw_p18, List.forall_mem_cons.mpr ⟨lw_p19, List.forall_mem_cons.mpr ⟨lw_p20, List.forall_mem_cons.mpr ⟨lw_p21, List.forall_mem_cons.mpr ⟨lw_p22, List.forall_mem_cons.mpr ⟨lw_p23, List.forall_mem_cons.mpr ⟨lw_p24, List.forall_mem_cons.mpr ⟨lw_p25, List.forall_mem_cons.mpr ⟨lw_p26, List.forall_mem_cons.mpr ⟨lw_p27, List.forall_mem_cons.mpr ⟨lw_p28, List.forall_mem_cons.mpr ⟨lw_p29, List.forall_mem_cons.mpr ⟨lw_p30, List.forall_mem_cons.mpr ⟨lw_p31, fun _ h => absurd h List.not_mem_nil⟩⟩⟩⟩⟩⟩⟩⟩⟩⟩⟩⟩⟩⟩⟩⟩
theorem lw_p32 : lw_okq (⟨"SplitSlicesModel", "wasRight", "()Z"⟩, 37) := ⟨⟨by decide +kernel, by decide +kernel⟩, List.mem_of_getElem? (i := 1015) (by decide +kernel), List.mem_of_getElem? (i := 1188) (by decide +kernel), List.mem_of_getElem? (i := 1189) (by decide +kernel)⟩
theorem lw_p33 : lw_okq (⟨"SplitSlicesModel", "change", "()V"⟩, 37) := ⟨⟨by decide +kernel, by decide +kernel⟩, List.mem_of_getElem? (i := 1015) (by decide +kernel), List.mem_of_getElem? (i := 1195) (by decide +kernel), List.mem_of_getElem? (i := 1196) (by decide +kernel)⟩
theorem lw_p34 : lw_okq (⟨"SplitSlicesModel", "note", "()V"⟩, 37) := ⟨⟨by decide +kernel, by decide +kernel⟩, List.mem_of_getElem? (i := 1015) (by decide +kernel), List.mem_of_getElem? (i := 1199) (by decide +kernel), List.mem_of_getElem? (i := 1200) (by decide +kernel)⟩
theorem lw_p35 : lw_okq (⟨"SplitSlicesModel", "lines", "()I"⟩, 37) := ⟨⟨by decide +kernel, by decide +kernel⟩, List.mem_of_getElem? (i := 1015) (by decide +kernel), List.mem_of_getElem? (i := 1207) (by decide +kernel), List.mem_of_getElem? (i := 1208) (by decide +kernel)⟩
theorem lw_p36 : lw_okq (⟨"SplitSlicesModel", "of", "(II)I"⟩, 37) := ⟨⟨by decide +kernel, by decide +kernel⟩, List.mem_of_getElem? (i := 1015) (by decide +kernel), List.mem_of_getElem? (i := 1211) (by decide +kernel), List.mem_of_getElem? (i := 1212) (by decide +kernel)⟩
theorem lw_p37 : lw_okq (⟨"SplitSlicesModel", "lost", "()I"⟩, 37) := ⟨⟨by decide +kernel, by decide +kernel⟩, List.mem_of_getElem? (i := 1015) (by decide +kernel), List.mem_of_getElem? (i := 1217) (by decide +kernel), List.mem_of_getElem? (i := 1218) (by decide +kernel)⟩
theorem lw_p38 : lw_okq (⟨"SplitSlicesModel", "refusesBecome", "(II)I"⟩, 37) := ⟨⟨by decide +kernel, by decide +kernel⟩, List.mem_of_getElem? (i := 1015) (by decide +kernel), List.mem_of_getElem? (i := 1229) (by decide +kernel), List.mem_of_getElem? (i := 1230) (by decide +kernel)⟩
theorem lw_p39 : lw_okq (⟨"SplitSlicesModel", "isTold", "(I)Z"⟩, 37) := ⟨⟨by decide +kernel, by decide +kernel⟩, List.mem_of_getElem? (i := 1015) (by decide +kernel), List.mem_of_getElem? (i := 1233) (by decide +kernel), List.mem_of_getElem? (i := 1234) (by decide +kernel)⟩
theorem lw_p40 : lw_okq (⟨"SplitSlicesModel", "refusesAdd", "(III)I"⟩, 37) := ⟨⟨by decide +kernel, by decide +kernel⟩, List.mem_of_getElem? (i := 1015) (by decide +kernel), List.mem_of_getElem? (i := 1241) (by decide +kernel), List.mem_of_getElem? (i := 1242) (by decide +kernel)⟩
theorem lw_p41 : lw_okq (⟨"SplitSlicesModel", "add", "(III)V"⟩, 37) := ⟨⟨by decide +kernel, by decide +kernel⟩, List.mem_of_getElem? (i := 1015) (by decide +kernel), List.mem_of_getElem? (i := 1245) (by decide +kernel), List.mem_of_getElem? (i := 1246) (by decide +kernel)⟩
theorem lw_p42 : lw_okq (⟨"SplitSlicesModel", "drop", "(I)V"⟩, 37) := ⟨⟨by decide +kernel, by decide +kernel⟩, List.mem_of_getElem? (i := 1015) (by decide +kernel), List.mem_of_getElem? (i := 1253) (by decide +kernel), List.mem_of_getElem? (i := 1254) (by decide +kernel)⟩
theorem lw_p43 : lw_okq (⟨"SplitSlicesModel", "lay", "(I)V"⟩, 37) := ⟨⟨by decide +kernel, by decide +kernel⟩, List.mem_of_getElem? (i := 1015) (by decide +kernel), List.mem_of_getElem? (i := 1261) (by decide +kernel), List.mem_of_getElem? (i := 1262) (by decide +kernel)⟩
theorem lw_p44 : lw_okq (⟨"SplitSlicesModel", "layFirst", "()V"⟩, 37) := ⟨⟨by decide +kernel, by decide +kernel⟩, List.mem_of_getElem? (i := 1015) (by decide +kernel), List.mem_of_getElem? (i := 1265) (by decide +kernel), List.mem_of_getElem? (i := 1266) (by decide +kernel)⟩
theorem lw_p45 : lw_okq (⟨"SplitSlicesModel", "wide", "(JJJJ)V"⟩, 37) := ⟨⟨by decide +kernel, by decide +kernel⟩, List.mem_of_getElem? (i := 1015) (by decide +kernel), List.mem_of_getElem? (i := 1270) (by decide +kernel), List.mem_of_getElem? (i := 1271) (by decide +kernel)⟩
theorem lw_p46 : lw_okq (⟨"SplitSlicesModel", "narrow", "(JJ)Z"⟩, 37) := ⟨⟨by decide +kernel, by decide +kernel⟩, List.mem_of_getElem? (i := 1015) (by decide +kernel), List.mem_of_getElem? (i := 1274) (by decide +kernel), List.mem_of_getElem? (i := 1275) (by decide +kernel)⟩
theorem lw_p47 : lw_okq (⟨"SplitSlicesModel", "notAbove", "(JJ)V"⟩, 37) := ⟨⟨by decide +kernel, by decide +kernel⟩, List.mem_of_getElem? (i := 1015) (by decide +kernel), List.mem_of_getElem? (i := 1278) (by decide +kernel), List.mem_of_getElem? (i := 1279) (by decide +kernel)⟩
def lw_privs_3 : List (MethodName × Nat) := [(⟨"SplitSlicesModel", "wasRight", "()Z"⟩, 37), (⟨"SplitSlicesModel", "change", "()V"⟩, 37), (⟨"SplitSlicesModel", "note", "()V"⟩, 37), (⟨"SplitSlicesModel", "lines", "()I"⟩, 37), (⟨"SplitSlicesModel", "of", "(II)I"⟩, 37), (⟨"SplitSlicesModel", "lost", "()I"⟩, 37), (⟨"SplitSlicesModel", "refusesBecome", "(II)I"⟩, 37), (⟨"SplitSlicesModel", "isTold", "(I)Z"⟩, 37), (⟨"SplitSlicesModel", "refusesAdd", "(III)I"⟩, 37), (⟨"SplitSlicesModel", "add", "(III)V"⟩, 37), (⟨"SplitSlicesModel", "drop", "(I)V"⟩, 37), (⟨"SplitSlicesModel", "lay", "(I)V"⟩, 37), (⟨"SplitSlicesModel", "layFirst", "()V"⟩, 37), (⟨"SplitSlicesModel", "wide", "(JJJJ)V"⟩, 37), (⟨"SplitSlicesModel", "narrow", "(JJ)Z"⟩, 37), (⟨"SplitSlicesModel", "notAbove", "(JJ)V"⟩, 37)]
theorem lw_r3 : ∀ q ∈ lw_privs_3, lw_okq q := List.forall_mem_cons.mpr ⟨lw_p32, List.forall_mem_cons.mpr ⟨lw_p33, List.forall_mem_cons.mpr ⟨lw_p34, List.forall_mem_cons.mpr ⟨lw_p35, List.forall_mem_cons.mpr ⟨lw_p36, List.forall_mem_cons.mpr ⟨lw_p37, List.forall_mem_cons.mpr ⟨lw_p38, List.forall_mem_cons.mpr ⟨lw_p39, List.forall_mem_cons.mpr ⟨lw_p40, List.forall_mem_cons.mpr ⟨lw_p41, List.forall_mem_cons.mpr ⟨lw_p42, List.forall_mem_cons.mpr ⟨lw_p43, List.forall_mem_cons.mpr ⟨lw_p44, List.forall_mem_cons.mpr ⟨lw_p45, List.forall_mem_cons.mpr ⟨lw_p46, List.forall_mem_cons.mpr ⟨lw_p47, fun _ h => absurd h List.not_mem_nil⟩⟩⟩⟩⟩⟩⟩⟩⟩⟩⟩⟩⟩⟩⟩⟩
theorem lw_p48 : lw_okq (⟨"SplitSlicesModel", "set", "(JJ)V"⟩, 37) := ⟨⟨by decide +kernel, by decide +kernel⟩, List.mem_of_getElem? (i := 1015) (by decide +kernel), List.mem_of_getElem? (i := 1285) (by decide +kernel), List.mem_of_getElem? (i := 1286) (by decide +kernel)⟩
theorem lw_p49 : lw_okq (⟨"SplitSlicesModel", "notBelow", "(JJ)V"⟩, 37) := ⟨⟨by decide +kernel, by decide +kernel⟩, List.mem_of_getElem? (i := 1015) (by decide +kernel), List.mem_of_getElem? (i := 1292) (by decide +kernel), List.mem_of_getElem? (i := 1293) (by decide +kernel)⟩
theorem lw_p50 : lw_okq (⟨"SplitSlicesModel", "isEmpty", "()Z"⟩, 37) := ⟨⟨by decide +kernel, by decide +kernel⟩, List.mem_of_getElem? (i := 1015) (by decide +kernel), List.mem_of_getElem? (i := 1299) (by decide +kernel), List.mem_of_getElem? (i := 1300) (by decide +kernel)⟩
theorem lw_p51 : lw_okq (⟨"SplitSlicesModel", "keepSlice", "(IZ)V"⟩, 37) := ⟨⟨by decide +kernel, by decide +kernel⟩, List.mem_of_getElem? (i := 1015) (by decide +kernel), List.mem_of_getElem? (i := 1303) (by decide +kernel), List.mem_of_getElem? (i := 1304) (by decide +kernel)⟩
theorem lw_p52 : lw_okq (⟨"SplitSlicesModel", "layNext", "(I)V"⟩, 37) := ⟨⟨by decide +kernel, by decide +kernel⟩, List.mem_of_getElem? (i := 1015) (by decide +kernel), List.mem_of_getElem? (i := 1307) (by decide +kernel), List.mem_of_getElem? (i := 1308) (by decide +kernel)⟩
theorem lw_p53 : lw_okq (⟨"SplitSlicesModel", "joins", "()V"⟩, 37) := ⟨⟨by decide +kernel, by decide +kernel⟩, List.mem_of_getElem? (i := 1015) (by decide +kernel), List.mem_of_getElem? (i := 1311) (by decide +kernel), List.mem_of_getElem? (i := 1312) (by decide +kernel)⟩
theorem lw_p54 : lw_okq (⟨"SplitSlicesModel", "between", "([JIIIZ)Z"⟩, 37) := ⟨⟨by decide +kernel, by decide +kernel⟩, List.mem_of_getElem? (i := 1015) (by decide +kernel), List.mem_of_getElem? (i := 1315) (by decide +kernel), List.mem_of_getElem? (i := 1316) (by decide +kernel)⟩
theorem lw_p55 : lw_okq (⟨"SplitSlicesModel", "tellFraction", "(JJ)V"⟩, 37) := ⟨⟨by decide +kernel, by decide +kernel⟩, List.mem_of_getElem? (i := 1015) (by decide +kernel), List.mem_of_getElem? (i := 1319) (by decide +kernel), List.mem_of_getElem? (i := 1320) (by decide +kernel)⟩
theorem lw_p56 : lw_okq (⟨"SplitSlicesModel", "tell", "(J)V"⟩, 37) := ⟨⟨by decide +kernel, by decide +kernel⟩, List.mem_of_getElem? (i := 1015) (by decide +kernel), List.mem_of_getElem? (i := 1323) (by decide +kernel), List.mem_of_getElem? (i := 1324) (by decide +kernel)⟩
theorem lw_p57 : lw_okq (⟨"SplitSlicesModel", "isIn", "(IIII)Z"⟩, 37) := ⟨⟨by decide +kernel, by decide +kernel⟩, List.mem_of_getElem? (i := 1015) (by decide +kernel), List.mem_of_getElem? (i := 1334) (by decide +kernel), List.mem_of_getElem? (i := 1335) (by decide +kernel)⟩
theorem lw_p58 : lw_okq (⟨"SplitSlicesModel", "comesBy", "(IIIII)Z"⟩, 37) := ⟨⟨by decide +kernel, by decide +kernel⟩, List.mem_of_getElem? (i := 1015) (by decide +kernel), List.mem_of_getElem? (i := 1338) (by decide +kernel), List.mem_of_getElem? (i := 1339) (by decide +kernel)⟩
theorem lw_p59 : lw_okq (⟨"SplitSlicesModel", "refusesCut", "(III)I"⟩, 37) := ⟨⟨by decide +kernel, by decide +kernel⟩, List.mem_of_getElem? (i := 1015) (by decide +kernel), List.mem_of_getElem? (i := 1361) (by decide +kernel), List.mem_of_getElem? (i := 1362) (by decide +kernel)⟩
theorem lw_p60 : lw_okq (⟨"SplitSlicesModel", "layCut", "(III)V"⟩, 37) := ⟨⟨by decide +kernel, by decide +kernel⟩, List.mem_of_getElem? (i := 1015) (by decide +kernel), List.mem_of_getElem? (i := 1365) (by decide +kernel), List.mem_of_getElem? (i := 1366) (by decide +kernel)⟩
theorem lw_p61 : lw_okq (⟨"SplitSlicesModel", "bounding", "(IIIJJ)I"⟩, 37) := ⟨⟨by decide +kernel, by decide +kernel⟩, List.mem_of_getElem? (i := 1015) (by decide +kernel), List.mem_of_getElem? (i := 1370) (by decide +kernel), List.mem_of_getElem? (i := 1371) (by decide +kernel)⟩
theorem lw_p62 : lw_okq (⟨"SplitSlicesModel", "putFraction", "(IJJ)V"⟩, 37) := ⟨⟨by decide +kernel, by decide +kernel⟩, List.mem_of_getElem? (i := 1015) (by decide +kernel), List.mem_of_getElem? (i := 1374) (by decide +kernel), List.mem_of_getElem? (i := 1375) (by decide +kernel)⟩
theorem lw_p63 : lw_okq (⟨"SplitSlicesModel", "refusesStore", "(III)I"⟩, 37) := ⟨⟨by decide +kernel, by decide +kernel⟩, List.mem_of_getElem? (i := 1015) (by decide +kernel), List.mem_of_getElem? (i := 1382) (by decide +kernel), List.mem_of_getElem? (i := 1383) (by decide +kernel)⟩
def lw_privs_4 : List (MethodName × Nat) := [(⟨"SplitSlicesModel", "set", "(JJ)V"⟩, 37), (⟨"SplitSlicesModel", "notBelow", "(JJ)V"⟩, 37), (⟨"SplitSlicesModel", "isEmpty", "()Z"⟩, 37), (⟨"SplitSlicesModel", "keepSlice", "(IZ)V"⟩, 37), (⟨"SplitSlicesModel", "layNext", "(I)V"⟩, 37), (⟨"SplitSlicesModel", "joins", "()V"⟩, 37), (⟨"SplitSlicesModel", "between", "([JIIIZ)Z"⟩, 37), (⟨"SplitSlicesModel", "tellFraction", "(JJ)V"⟩, 37), (⟨"SplitSlicesModel", "tell", "(J)V"⟩, 37), (⟨"SplitSlicesModel", "isIn", "(IIII)Z"⟩, 37), (⟨"SplitSlicesModel", "comesBy", "(IIIII)Z"⟩, 37), (⟨"SplitSlicesModel", "refusesCut", "(III)I"⟩, 37), (⟨"SplitSlicesModel", "layCut", "(III)V"⟩, 37), (⟨"SplitSlicesModel", "bounding", "(IIIJJ)I"⟩, 37), (⟨"SplitSlicesModel", "putFraction", "(IJJ)V"⟩, 37), (⟨"SplitSlicesModel", "refusesStore", "(III)I"⟩, 37)]
theorem lw_r4 : ∀ q ∈ lw_privs_4, lw_okq q := List.forall_mem_cons.mpr ⟨lw_p48, List.forall_mem_cons.mpr ⟨lw_p49, List.forall_mem_cons.mpr ⟨lw_p50, List.forall_mem_cons.mpr ⟨lw_p51, List.forall_mem_cons.mpr ⟨lw_p52, List.forall_mem_cons.mpr ⟨lw_p53, List.forall_mem_cons.mpr ⟨lw_p54, List.forall_mem_cons.mpr ⟨lw_p55, List.forall_mem_cons.mpr ⟨lw_p56, List.forall_mem_cons.mpr ⟨lw_p57, List.forall_mem_cons.mpr ⟨lw_p58, List.forall_mem_cons.mpr ⟨lw_p59, List.forall_mem_cons.mpr ⟨lw_p60, List.forall_mem_cons.mpr ⟨lw_p61, List.forall_mem_cons.mpr ⟨lw_p62, List.forall_mem_cons.mpr ⟨lw_p63, fun _ h => absurd h List.not_mem_nil⟩⟩⟩⟩⟩⟩⟩⟩⟩⟩⟩⟩⟩⟩⟩⟩
theorem lw_p64 : lw_okq (⟨"SplitSlicesModel", "store", "(III)V"⟩, 37) := ⟨⟨by decide +kernel, by decide +kernel⟩, List.mem_of_getElem? (i := 1015) (by decide +kernel), List.mem_of_getElem? (i := 1386) (by decide +kernel), List.mem_of_getElem? (i := 1387) (by decide +kernel)⟩
theorem lw_p65 : lw_okq (⟨"SplitSlicesModel", "isStored", "(I)Z"⟩, 37) := ⟨⟨by decide +kernel, by decide +kernel⟩, List.mem_of_getElem? (i := 1015) (by decide +kernel), List.mem_of_getElem? (i := 1394) (by decide +kernel), List.mem_of_getElem? (i := 1395) (by decide +kernel)⟩
theorem lw_p66 : lw_okq (⟨"SplitSlicesModel", "stored", "(II)I"⟩, 37) := ⟨⟨by decide +kernel, by decide +kernel⟩, List.mem_of_getElem? (i := 1015) (by decide +kernel), List.mem_of_getElem? (i := 1398) (by decide +kernel), List.mem_of_getElem? (i := 1399) (by decide +kernel)⟩
theorem lw_p67 : lw_okq (⟨"SplitSlicesModel", "isProven", "(I)Z"⟩, 37) := ⟨⟨by decide +kernel, by decide +kernel⟩, List.mem_of_getElem? (i := 1015) (by decide +kernel), List.mem_of_getElem? (i := 1402) (by decide +kernel), List.mem_of_getElem? (i := 1403) (by decide +kernel)⟩
theorem lw_p68 : lw_okq (⟨"SplitSlicesModel", "proves", "(IIIII)Z"⟩, 37) := ⟨⟨by decide +kernel, by decide +kernel⟩, List.mem_of_getElem? (i := 1015) (by decide +kernel), List.mem_of_getElem? (i := 1406) (by decide +kernel), List.mem_of_getElem? (i := 1407) (by decide +kernel)⟩
theorem lw_p69 : lw_okq (⟨"SplitSlicesModel", "isWhole", "(II)Z"⟩, 37) := ⟨⟨by decide +kernel, by decide +kernel⟩, List.mem_of_getElem? (i := 1015) (by decide +kernel), List.mem_of_getElem? (i := 1414) (by decide +kernel), List.mem_of_getElem? (i := 1415) (by decide +kernel)⟩
theorem lw_p70 : lw_okq (⟨"SplitSlicesModel", "layWholes", "()V"⟩, 37) := ⟨⟨by decide +kernel, by decide +kernel⟩, List.mem_of_getElem? (i := 1015) (by decide +kernel), List.mem_of_getElem? (i := 1430) (by decide +kernel), List.mem_of_getElem? (i := 1431) (by decide +kernel)⟩
theorem lw_p71 : lw_okq (⟨"SplitSlicesModel", "nextCorner", "(I)I"⟩, 37) := ⟨⟨by decide +kernel, by decide +kernel⟩, List.mem_of_getElem? (i := 1015) (by decide +kernel), List.mem_of_getElem? (i := 1438) (by decide +kernel), List.mem_of_getElem? (i := 1439) (by decide +kernel)⟩
theorem lw_p72 : lw_okq (⟨"SplitSlicesModel", "turn", "(III)I"⟩, 37) := ⟨⟨by decide +kernel, by decide +kernel⟩, List.mem_of_getElem? (i := 1015) (by decide +kernel), List.mem_of_getElem? (i := 1442) (by decide +kernel), List.mem_of_getElem? (i := 1443) (by decide +kernel)⟩
theorem lw_p73 : lw_okq (⟨"SplitSlicesModel", "far", "(II)I"⟩, 37) := ⟨⟨by decide +kernel, by decide +kernel⟩, List.mem_of_getElem? (i := 1015) (by decide +kernel), List.mem_of_getElem? (i := 1446) (by decide +kernel), List.mem_of_getElem? (i := 1447) (by decide +kernel)⟩
theorem lw_p74 : lw_okq (⟨"SplitSlicesModel", "farFrom", "(IIII)I"⟩, 37) := ⟨⟨by decide +kernel, by decide +kernel⟩, List.mem_of_getElem? (i := 1015) (by decide +kernel), List.mem_of_getElem? (i := 1454) (by decide +kernel), List.mem_of_getElem? (i := 1455) (by decide +kernel)⟩
theorem lw_p75 : lw_okq (⟨"SplitSlicesModel", "layMost", "(III)V"⟩, 37) := ⟨⟨by decide +kernel, by decide +kernel⟩, List.mem_of_getElem? (i := 1015) (by decide +kernel), List.mem_of_getElem? (i := 1465) (by decide +kernel), List.mem_of_getElem? (i := 1466) (by decide +kernel)⟩
theorem lw_p76 : lw_okq (⟨"SplitSlicesModel", "offerCorner", "(IIII)V"⟩, 37) := ⟨⟨by decide +kernel, by decide +kernel⟩, List.mem_of_getElem? (i := 1015) (by decide +kernel), List.mem_of_getElem? (i := 1469) (by decide +kernel), List.mem_of_getElem? (i := 1470) (by decide +kernel)⟩
theorem lw_p77 : lw_okq (⟨"SplitSlicesModel", "offer", "(JJ)V"⟩, 37) := ⟨⟨by decide +kernel, by decide +kernel⟩, List.mem_of_getElem? (i := 1015) (by decide +kernel), List.mem_of_getElem? (i := 1473) (by decide +kernel), List.mem_of_getElem? (i := 1474) (by decide +kernel)⟩
theorem lw_p78 : lw_okq (⟨"SplitSlicesModel", "offerSlices", "(III)V"⟩, 37) := ⟨⟨by decide +kernel, by decide +kernel⟩, List.mem_of_getElem? (i := 1015) (by decide +kernel), List.mem_of_getElem? (i := 1477) (by decide +kernel), List.mem_of_getElem? (i := 1478) (by decide +kernel)⟩
theorem lw_p79 : lw_okq (⟨"SplitSlicesModel", "wholesWithout", "(I)I"⟩, 37) := ⟨⟨by decide +kernel, by decide +kernel⟩, List.mem_of_getElem? (i := 1015) (by decide +kernel), List.mem_of_getElem? (i := 1493) (by decide +kernel), List.mem_of_getElem? (i := 1494) (by decide +kernel)⟩
def lw_privs_5 : List (MethodName × Nat) := [(⟨"SplitSlicesModel", "store", "(III)V"⟩, 37), (⟨"SplitSlicesModel", "isStored", "(I)Z"⟩, 37), (⟨"SplitSlicesModel", "stored", "(II)I"⟩, 37), (⟨"SplitSlicesModel", "isProven", "(I)Z"⟩, 37), (⟨"SplitSlicesModel", "proves", "(IIIII)Z"⟩, 37), (⟨"SplitSlicesModel", "isWhole", "(II)Z"⟩, 37), (⟨"SplitSlicesModel", "layWholes", "()V"⟩, 37), (⟨"SplitSlicesModel", "nextCorner", "(I)I"⟩, 37), (⟨"SplitSlicesModel", "turn", "(III)I"⟩, 37), (⟨"SplitSlicesModel", "far", "(II)I"⟩, 37), (⟨"SplitSlicesModel", "farFrom", "(IIII)I"⟩, 37), (⟨"SplitSlicesModel", "layMost", "(III)V"⟩, 37), (⟨"SplitSlicesModel", "offerCorner", "(IIII)V"⟩, 37), (⟨"SplitSlicesModel", "offer", "(JJ)V"⟩, 37), (⟨"SplitSlicesModel", "offerSlices", "(III)V"⟩, 37), (⟨"SplitSlicesModel", "wholesWithout", "(I)I"⟩, 37)]
theorem lw_r5 : ∀ q ∈ lw_privs_5, lw_okq q := List.forall_mem_cons.mpr ⟨lw_p64, List.forall_mem_cons.mpr ⟨lw_p65, List.forall_mem_cons.mpr ⟨lw_p66, List.forall_mem_cons.mpr ⟨lw_p67, List.forall_mem_cons.mpr ⟨lw_p68, List.forall_mem_cons.mpr ⟨lw_p69, List.forall_mem_cons.mpr ⟨lw_p70, List.forall_mem_cons.mpr ⟨lw_p71, List.forall_mem_cons.mpr ⟨lw_p72, List.forall_mem_cons.mpr ⟨lw_p73, List.forall_mem_cons.mpr ⟨lw_p74, List.forall_mem_cons.mpr ⟨lw_p75, List.forall_mem_cons.mpr ⟨lw_p76, List.forall_mem_cons.mpr ⟨lw_p77, List.forall_mem_cons.mpr ⟨lw_p78, List.forall_mem_cons.mpr ⟨lw_p79, fun _ h => absurd h List.not_mem_nil⟩⟩⟩⟩⟩⟩⟩⟩⟩⟩⟩⟩⟩⟩⟩⟩
theorem lw_p80 : lw_okq (⟨"SplitSlicesModel", "readAct", "(I)V"⟩, 37) := ⟨⟨by decide +kernel, by decide +kernel⟩, List.mem_of_getElem? (i := 1015) (by decide +kernel), List.mem_of_getElem? (i := 1501) (by decide +kernel), List.mem_of_getElem? (i := 1502) (by decide +kernel)⟩
theorem lw_p81 : lw_okq (⟨"SplitSlicesModel", "act", "(I)Z"⟩, 37) := ⟨⟨by decide +kernel, by decide +kernel⟩, List.mem_of_getElem? (i := 1015) (by decide +kernel), List.mem_of_getElem? (i := 1505) (by decide +kernel), List.mem_of_getElem? (i := 1506) (by decide +kernel)⟩
theorem lw_p82 : lw_okq (⟨"SplitSlicesModel", "goDrawn", "()I"⟩, 37) := ⟨⟨by decide +kernel, by decide +kernel⟩, List.mem_of_getElem? (i := 1015) (by decide +kernel), List.mem_of_getElem? (i := 1517) (by decide +kernel), List.mem_of_getElem? (i := 1518) (by decide +kernel)⟩
theorem lw_p83 : lw_okq (⟨"SplitSlicesModel", "draw", "(I)I"⟩, 37) := ⟨⟨by decide +kernel, by decide +kernel⟩, List.mem_of_getElem? (i := 1015) (by decide +kernel), List.mem_of_getElem? (i := 1521) (by decide +kernel), List.mem_of_getElem? (i := 1522) (by decide +kernel)⟩
theorem lw_p84 : lw_okq (⟨"SplitSlicesModel", "provenMany", "()I"⟩, 37) := ⟨⟨by decide +kernel, by decide +kernel⟩, List.mem_of_getElem? (i := 1015) (by decide +kernel), List.mem_of_getElem? (i := 1538) (by decide +kernel), List.mem_of_getElem? (i := 1539) (by decide +kernel)⟩
theorem lw_p85 : lw_okq (⟨"SplitSlicesModel", "brokenMany", "()I"⟩, 37) := ⟨⟨by decide +kernel, by decide +kernel⟩, List.mem_of_getElem? (i := 1015) (by decide +kernel), List.mem_of_getElem? (i := 1542) (by decide +kernel), List.mem_of_getElem? (i := 1543) (by decide +kernel)⟩
def lw_privs_6 : List (MethodName × Nat) := [(⟨"SplitSlicesModel", "readAct", "(I)V"⟩, 37), (⟨"SplitSlicesModel", "act", "(I)Z"⟩, 37), (⟨"SplitSlicesModel", "goDrawn", "()I"⟩, 37), (⟨"SplitSlicesModel", "draw", "(I)I"⟩, 37), (⟨"SplitSlicesModel", "provenMany", "()I"⟩, 37), (⟨"SplitSlicesModel", "brokenMany", "()I"⟩, 37)]
theorem lw_r6 : ∀ q ∈ lw_privs_6, lw_okq q := List.forall_mem_cons.mpr ⟨lw_p80, List.forall_mem_cons.mpr ⟨lw_p81, List.forall_mem_cons.mpr ⟨lw_p82, List.forall_mem_cons.mpr ⟨lw_p83, List.forall_mem_cons.mpr ⟨lw_p84, List.forall_mem_cons.mpr ⟨lw_p85, fun _ h => absurd h List.not_mem_nil⟩⟩⟩⟩⟩⟩
def lw_privs : List (MethodName × Nat) := lw_privs_1 ++ (lw_privs_2 ++ (lw_privs_3 ++ (lw_privs_4 ++ (lw_privs_5 ++ (lw_privs_6)))))
def lw_tbl : List Cond := k2_sels lw_privs ++ tables_1
theorem lw_privs_ok : ∀ q ∈ lw_privs, lw_okq q := by
  show ∀ q ∈ lw_privs_1 ++ (lw_privs_2 ++ (lw_privs_3 ++ (lw_privs_4 ++ (lw_privs_5 ++ (lw_privs_6))))), lw_okq q
  exact List.forall_mem_append.mpr ⟨lw_r1, List.forall_mem_append.mpr ⟨lw_r2, List.forall_mem_append.mpr ⟨lw_r3, List.forall_mem_append.mpr ⟨lw_r4, List.forall_mem_append.mpr ⟨lw_r5, lw_r6⟩⟩⟩⟩⟩

/-- the words that every method may lean on: the good ones of the tables -/
def zWs : List Cond := lw_tbl.filter goodWord
/-- the words of nest mates -/
def zIsN : Cond → Bool
  | .fieldLinkNest _ _ _ _ _ _ => true
  | .methodLinkNest _ _ _ _ => true
  | _ => false
def zNs : List Cond := lw_tbl.filter zIsN
theorem zWs_in {w : Cond} (n : Nat) (h : lw_tbl[n]? = some w) (hg : goodWord w = true) : w ∈ zWs := List.mem_filter.mpr ⟨List.mem_of_getElem? h, hg⟩
theorem zNs_in {w : Cond} (n : Nat) (h : lw_tbl[n]? = some w) (hg : zIsN w = true) : w ∈ zNs := List.mem_filter.mpr ⟨List.mem_of_getElem? h, hg⟩
theorem zGood {ys : List Cond} (big : List Cond) (h : ∀ w ∈ ys, w ∈ zWs) (hb : ∀ w ∈ zWs, w ∈ big) : GoodIn big ys := fun w hw => ⟨hb w (h w hw), good_of_word (List.mem_filter.mp (h w hw)).2⟩
end
section
def RX0 : String := "SplitSlices$CutFinder"
def TX0 : u_T := fun k => match k with
  | 0 => ("SplitSlices$CutFinder", "found", "[J", true)
  | _ => ("SplitSlices$CutFinder", "times", "LSplitSlices$Ratio;", true)
def tyX0 : Nat → FieldType := fun k => match k with
  | 0 => .array .long
  | _ => .object "SplitSlices$Ratio"
theorem nmX0 : ∀ a, a < 2 → ∀ b, b < 2 → a ≠ b → (TX0 a).2.1 ≠ (TX0 b).2.1 := by decide +kernel
theorem tyX0_ok : ∀ k, k < 2 → parseFieldDescriptor (TX0 k).2.2.1 = some (tyX0 k) := by decide +kernel
abbrev cX0_init : ByteArray := prog_2_method_1_code
def yX0_init : MethodName := ⟨RX0, "<init>", "()V"⟩
abbrev cX0_find : ByteArray := prog_2_method_2_code
def yX0_find : MethodName := ⟨RX0, "find", "(LSplitSlices$Plan;LSplitSlices$Regions;III)Z"⟩
abbrev cX0_putLine : ByteArray := prog_2_method_3_code
def yX0_putLine : MethodName := ⟨RX0, "putLine", "(LSplitSlices$Ratio;LSplitSlices$Ratio;I)V"⟩
abbrev cX0_putProof : ByteArray := prog_2_method_4_code
def yX0_putProof : MethodName := ⟨RX0, "putProof", "(LSplitSlices$Plan;LSplitSlices$Ratio;II)V"⟩
abbrev cX0_putTimes : ByteArray := prog_2_method_5_code
def yX0_putTimes : MethodName := ⟨RX0, "putTimes", "(IJJ)V"⟩
abbrev cX0_firstBounding : ByteArray := prog_2_method_6_code
def yX0_firstBounding : MethodName := ⟨RX0, "firstBounding", "(LSplitSlices$Plan;LSplitSlices$Ratio;II)I"⟩
def RX1 : String := "SplitSlices$Draws"
def TX1 : u_T := fun k => match k with
  | _ => ("SplitSlices$Draws", "state", "I", false)
def tyX1 : Nat → FieldType := fun k => match k with
  | _ => .int
theorem nmX1 : ∀ a, a < 1 → ∀ b, b < 1 → a ≠ b → (TX1 a).2.1 ≠ (TX1 b).2.1 := by decide +kernel
theorem tyX1_ok : ∀ k, k < 1 → parseFieldDescriptor (TX1 k).2.2.1 = some (tyX1 k) := by decide +kernel
abbrev cX1_init : ByteArray := prog_3_method_1_code
def yX1_init : MethodName := ⟨RX1, "<init>", "()V"⟩
abbrev cX1_start : ByteArray := prog_3_method_2_code
def yX1_start : MethodName := ⟨RX1, "start", "(I)V"⟩
abbrev cX1_next : ByteArray := prog_3_method_3_code
def yX1_next : MethodName := ⟨RX1, "next", "(I)I"⟩
def RX2 : String := "SplitSlices$History"
def TX2 : u_T := fun k => match k with
  | 0 => ("SplitSlices$History", "size", "I", false)
  | _ => ("SplitSlices$History", "past", "[LSplitSlices$Plan;", true)
def tyX2 : Nat → FieldType := fun k => match k with
  | 0 => .int
  | _ => .array (.object "SplitSlices$Plan")
theorem nmX2 : ∀ a, a < 2 → ∀ b, b < 2 → a ≠ b → (TX2 a).2.1 ≠ (TX2 b).2.1 := by decide +kernel
theorem tyX2_ok : ∀ k, k < 2 → parseFieldDescriptor (TX2 k).2.2.1 = some (tyX2 k) := by decide +kernel
abbrev cX2_init : ByteArray := prog_4_method_1_code
def yX2_init : MethodName := ⟨RX2, "<init>", "()V"⟩
abbrev cX2_open : ByteArray := prog_4_method_2_code
def yX2_open : MethodName := ⟨RX2, "open", "(LSplitSlices$Plan;)V"⟩
abbrev cX2_close : ByteArray := prog_4_method_3_code
def yX2_close : MethodName := ⟨RX2, "close", "()V"⟩
abbrev cX2_back : ByteArray := prog_4_method_4_code
def yX2_back : MethodName := ⟨RX2, "back", "(LSplitSlices$Plan;)Z"⟩
abbrev cX2_forget : ByteArray := prog_4_method_5_code
def yX2_forget : MethodName := ⟨RX2, "forget", "()V"⟩
def RX3 : String := "SplitSlices$Most"
def TX3 : u_T := fun k => match k with
  | 0 => ("SplitSlices$Most", "a", "I", false)
  | 1 => ("SplitSlices$Most", "b", "I", false)
  | 2 => ("SplitSlices$Most", "found", "Z", false)
  | 3 => ("SplitSlices$Most", "best", "LSplitSlices$Ratio;", true)
  | _ => ("SplitSlices$Most", "value", "LSplitSlices$Ratio;", true)
def tyX3 : Nat → FieldType := fun k => match k with
  | 0 => .int
  | 1 => .int
  | 2 => .boolean
  | 3 => .object "SplitSlices$Ratio"
  | _ => .object "SplitSlices$Ratio"
theorem nmX3 : ∀ a, a < 5 → ∀ b, b < 5 → a ≠ b → (TX3 a).2.1 ≠ (TX3 b).2.1 := by decide +kernel
theorem tyX3_ok : ∀ k, k < 5 → parseFieldDescriptor (TX3 k).2.2.1 = some (tyX3 k) := by decide +kernel
abbrev cX3_init : ByteArray := prog_5_method_1_code
def yX3_init : MethodName := ⟨RX3, "<init>", "()V"⟩
abbrev cX3_start : ByteArray := prog_5_method_2_code
def yX3_start : MethodName := ⟨RX3, "start", "(II)V"⟩
abbrev cX3_offer : ByteArray := prog_5_method_3_code
def yX3_offer : MethodName := ⟨RX3, "offer", "(JJ)V"⟩
abbrev cX3_overCorners : ByteArray := prog_5_method_4_code
def yX3_overCorners : MethodName := ⟨RX3, "overCorners", "(LSplitSlices$Plan;)V"⟩
abbrev cX3_offerCorner : ByteArray := prog_5_method_5_code
def yX3_offerCorner : MethodName := ⟨RX3, "offerCorner", "(LSplitSlices$Plan;II)V"⟩
abbrev cX3_overSlices : ByteArray := prog_5_method_6_code
def yX3_overSlices : MethodName := ⟨RX3, "overSlices", "(LSplitSlices$Regions;I)V"⟩
abbrev cX3_offerEnd : ByteArray := prog_5_method_7_code
def yX3_offerEnd : MethodName := ⟨RX3, "offerEnd", "(LSplitSlices$Ratio;II)V"⟩
abbrev cX3_overPoints : ByteArray := prog_5_method_8_code
def yX3_overPoints : MethodName := ⟨RX3, "overPoints", "(LSplitSlices$WholePoints;)V"⟩
def RX4 : String := "SplitSlices$Numbers"
def TX4 : u_T := fun k => match k with
  | 0 => ("SplitSlices$Numbers", "size", "I", false)
  | _ => ("SplitSlices$Numbers", "numbers", "[J", true)
def tyX4 : Nat → FieldType := fun k => match k with
  | 0 => .int
  | _ => .array .long
theorem nmX4 : ∀ a, a < 2 → ∀ b, b < 2 → a ≠ b → (TX4 a).2.1 ≠ (TX4 b).2.1 := by decide +kernel
theorem tyX4_ok : ∀ k, k < 2 → parseFieldDescriptor (TX4 k).2.2.1 = some (tyX4 k) := by decide +kernel
abbrev cX4_init : ByteArray := prog_6_method_1_code
def yX4_init : MethodName := ⟨RX4, "<init>", "()V"⟩
abbrev cX4_clear : ByteArray := prog_6_method_2_code
def yX4_clear : MethodName := ⟨RX4, "clear", "()V"⟩
abbrev cX4_tell : ByteArray := prog_6_method_3_code
def yX4_tell : MethodName := ⟨RX4, "tell", "(J)V"⟩
abbrev cX4_tellRatio : ByteArray := prog_6_method_4_code
def yX4_tellRatio : MethodName := ⟨RX4, "tellRatio", "(LSplitSlices$Ratio;)V"⟩
abbrev cX4_at : ByteArray := prog_6_method_5_code
def yX4_at : MethodName := ⟨RX4, "at", "(I)J"⟩
def RX5 : String := "SplitSlices$Plan"
def TX5 : u_T := fun k => match k with
  | 0 => ("SplitSlices$Plan", "rowCount", "I", false)
  | 1 => ("SplitSlices$Plan", "cutCount", "I", false)
  | 2 => ("SplitSlices$Plan", "parts", "[I", true)
  | _ => ("SplitSlices$Plan", "cuts", "[[J", true)
def tyX5 : Nat → FieldType := fun k => match k with
  | 0 => .int
  | 1 => .int
  | 2 => .array .int
  | _ => .array (.array .long)
theorem nmX5 : ∀ a, a < 4 → ∀ b, b < 4 → a ≠ b → (TX5 a).2.1 ≠ (TX5 b).2.1 := by decide +kernel
theorem tyX5_ok : ∀ k, k < 4 → parseFieldDescriptor (TX5 k).2.2.1 = some (tyX5 k) := by decide +kernel
abbrev cX5_init : ByteArray := prog_7_method_1_code
def yX5_init : MethodName := ⟨RX5, "<init>", "()V"⟩
abbrev cX5_copy : ByteArray := prog_7_method_2_code
def yX5_copy : MethodName := ⟨RX5, "copy", "(LSplitSlices$Plan;)V"⟩
abbrev cX5_copyRows : ByteArray := prog_7_method_3_code
def yX5_copyRows : MethodName := ⟨RX5, "copyRows", "(LSplitSlices$Plan;)V"⟩
abbrev cX5_allRows : ByteArray := prog_7_method_4_code
def yX5_allRows : MethodName := ⟨RX5, "allRows", "()I"⟩
abbrev cX5_isTold : ByteArray := prog_7_method_5_code
def yX5_isTold : MethodName := ⟨RX5, "isTold", "(I)Z"⟩
abbrev cX5_part : ByteArray := prog_7_method_6_code
def yX5_part : MethodName := ⟨RX5, "part", "(II)I"⟩
abbrev cX5_putBound : ByteArray := prog_7_method_7_code
def yX5_putBound : MethodName := ⟨RX5, "putBound", "(II)V"⟩
abbrev cX5_append : ByteArray := prog_7_method_8_code
def yX5_append : MethodName := ⟨RX5, "append", "(III)V"⟩
abbrev cX5_firstWrongRow : ByteArray := prog_7_method_9_code
def yX5_firstWrongRow : MethodName := ⟨RX5, "firstWrongRow", "()I"⟩
abbrev cX5_changeBound : ByteArray := prog_7_method_10_code
def yX5_changeBound : MethodName := ⟨RX5, "changeBound", "(II)I"⟩
abbrev cX5_addRow : ByteArray := prog_7_method_11_code
def yX5_addRow : MethodName := ⟨RX5, "addRow", "(III)I"⟩
abbrev cX5_dropRow : ByteArray := prog_7_method_12_code
def yX5_dropRow : MethodName := ⟨RX5, "dropRow", "(I)I"⟩
abbrev cX5_holds : ByteArray := prog_7_method_13_code
def yX5_holds : MethodName := ⟨RX5, "holds", "(IIII)Z"⟩
abbrev cX5_hasCut : ByteArray := prog_7_method_14_code
def yX5_hasCut : MethodName := ⟨RX5, "hasCut", "(I)Z"⟩
abbrev cX5_addCut : ByteArray := prog_7_method_15_code
def yX5_addCut : MethodName := ⟨RX5, "addCut", "([J)I"⟩
abbrev cX5_dropCuts : ByteArray := prog_7_method_16_code
def yX5_dropCuts : MethodName := ⟨RX5, "dropCuts", "()I"⟩
abbrev cX5_cutExcess : ByteArray := prog_7_method_17_code
def yX5_cutExcess : MethodName := ⟨RX5, "cutExcess", "(IIII)J"⟩
abbrev cX5_checkedCuts : ByteArray := prog_7_method_18_code
def yX5_checkedCuts : MethodName := ⟨RX5, "checkedCuts", "()I"⟩
abbrev cX5_proofChecks : ByteArray := prog_7_method_19_code
def yX5_proofChecks : MethodName := ⟨RX5, "proofChecks", "(I)Z"⟩
abbrev cX5_halfChecks : ByteArray := prog_7_method_20_code
def yX5_halfChecks : MethodName := ⟨RX5, "halfChecks", "([JI)Z"⟩
def RX6 : String := "SplitSlices$Ratio"
def TX6 : u_T := fun k => match k with
  | 0 => ("SplitSlices$Ratio", "up", "J", false)
  | _ => ("SplitSlices$Ratio", "low", "J", false)
def tyX6 : Nat → FieldType := fun k => match k with
  | 0 => .long
  | _ => .long
theorem nmX6 : ∀ a, a < 2 → ∀ b, b < 2 → a ≠ b → (TX6 a).2.1 ≠ (TX6 b).2.1 := by decide +kernel
theorem tyX6_ok : ∀ k, k < 2 → parseFieldDescriptor (TX6 k).2.2.1 = some (tyX6 k) := by decide +kernel
abbrev cX6_init : ByteArray := prog_8_method_1_code
def yX6_init : MethodName := ⟨RX6, "<init>", "()V"⟩
abbrev cX6_put : ByteArray := prog_8_method_2_code
def yX6_put : MethodName := ⟨RX6, "put", "(JJ)V"⟩
abbrev cX6_copy : ByteArray := prog_8_method_3_code
def yX6_copy : MethodName := ⟨RX6, "copy", "(LSplitSlices$Ratio;)V"⟩
abbrev cX6_putDifference : ByteArray := prog_8_method_4_code
def yX6_putDifference : MethodName := ⟨RX6, "putDifference", "(LSplitSlices$Ratio;LSplitSlices$Ratio;)V"⟩
abbrev cX6_isBelow : ByteArray := prog_8_method_5_code
def yX6_isBelow : MethodName := ⟨RX6, "isBelow", "(LSplitSlices$Ratio;)Z"⟩
def RX7 : String := "SplitSlices$Regions"
def TX7 : u_T := fun k => match k with
  | 0 => ("SplitSlices$Regions", "slices", "[LSplitSlices$Slice;", true)
  | 1 => ("SplitSlices$Regions", "from", "LSplitSlices$Ratio;", true)
  | 2 => ("SplitSlices$Regions", "to", "LSplitSlices$Ratio;", true)
  | _ => ("SplitSlices$Regions", "crossing", "LSplitSlices$Ratio;", true)
def tyX7 : Nat → FieldType := fun k => match k with
  | 0 => .array (.object "SplitSlices$Slice")
  | 1 => .object "SplitSlices$Ratio"
  | 2 => .object "SplitSlices$Ratio"
  | _ => .object "SplitSlices$Ratio"
theorem nmX7 : ∀ a, a < 4 → ∀ b, b < 4 → a ≠ b → (TX7 a).2.1 ≠ (TX7 b).2.1 := by decide +kernel
theorem tyX7_ok : ∀ k, k < 4 → parseFieldDescriptor (TX7 k).2.2.1 = some (tyX7 k) := by decide +kernel
abbrev cX7_init : ByteArray := prog_9_method_1_code
def yX7_init : MethodName := ⟨RX7, "<init>", "()V"⟩
abbrev cX7_at : ByteArray := prog_9_method_2_code
def yX7_at : MethodName := ⟨RX7, "at", "(III)LSplitSlices$Slice;"⟩
abbrev cX7_workOut : ByteArray := prog_9_method_3_code
def yX7_workOut : MethodName := ⟨RX7, "workOut", "(LSplitSlices$Plan;I)V"⟩
abbrev cX7_workOutFirst : ByteArray := prog_9_method_4_code
def yX7_workOutFirst : MethodName := ⟨RX7, "workOutFirst", "(LSplitSlices$Plan;)V"⟩
abbrev cX7_boundByRows : ByteArray := prog_9_method_5_code
def yX7_boundByRows : MethodName := ⟨RX7, "boundByRows", "(LSplitSlices$Plan;II)V"⟩
abbrev cX7_boundBySplits : ByteArray := prog_9_method_6_code
def yX7_boundBySplits : MethodName := ⟨RX7, "boundBySplits", "(III)V"⟩
abbrev cX7_joinBetween : ByteArray := prog_9_method_7_code
def yX7_joinBetween : MethodName := ⟨RX7, "joinBetween", "(LSplitSlices$Slice;LSplitSlices$Slice;LSplitSlices$Slice;II)V"⟩
abbrev cX7_narrow : ByteArray := prog_9_method_8_code
def yX7_narrow : MethodName := ⟨RX7, "narrow", "(LSplitSlices$Ratio;LSplitSlices$Ratio;III)Z"⟩
abbrev cX7_contain : ByteArray := prog_9_method_9_code
def yX7_contain : MethodName := ⟨RX7, "contain", "(LSplitSlices$Plan;IIII)Z"⟩
abbrev cX7_passes : ByteArray := prog_9_method_10_code
def yX7_passes : MethodName := ⟨RX7, "passes", "(IIIII)Z"⟩
abbrev cX7_aboveLine : ByteArray := prog_9_method_11_code
def yX7_aboveLine : MethodName := ⟨RX7, "aboveLine", "(LSplitSlices$Ratio;LSplitSlices$Ratio;III)I"⟩
abbrev cX7_filled : ByteArray := prog_9_method_12_code
def yX7_filled : MethodName := ⟨RX7, "filled", "(II)I"⟩
abbrev cX7_findLongest : ByteArray := prog_9_method_13_code
def yX7_findLongest : MethodName := ⟨RX7, "findLongest", "(ILSplitSlices$Ratio;)V"⟩
def RX8 : String := "SplitSlices$Signs"
def TX8 : u_T := fun k => match k with
  | 0 => ("SplitSlices$Signs", "size", "I", false)
  | _ => ("SplitSlices$Signs", "signs", "[I", true)
def tyX8 : Nat → FieldType := fun k => match k with
  | 0 => .int
  | _ => .array .int
theorem nmX8 : ∀ a, a < 2 → ∀ b, b < 2 → a ≠ b → (TX8 a).2.1 ≠ (TX8 b).2.1 := by decide +kernel
theorem tyX8_ok : ∀ k, k < 2 → parseFieldDescriptor (TX8 k).2.2.1 = some (tyX8 k) := by decide +kernel
abbrev cX8_init : ByteArray := prog_10_method_1_code
def yX8_init : MethodName := ⟨RX8, "<init>", "()V"⟩
abbrev cX8_size : ByteArray := prog_10_method_2_code
def yX8_size : MethodName := ⟨RX8, "size", "()I"⟩
abbrev cX8_append : ByteArray := prog_10_method_3_code
def yX8_append : MethodName := ⟨RX8, "append", "(I)V"⟩
abbrev cX8_shorten : ByteArray := prog_10_method_4_code
def yX8_shorten : MethodName := ⟨RX8, "shorten", "(I)Z"⟩
abbrev cX8_at : ByteArray := prog_10_method_5_code
def yX8_at : MethodName := ⟨RX8, "at", "(I)I"⟩
abbrev cX8_isDigit : ByteArray := prog_10_method_6_code
def yX8_isDigit : MethodName := ⟨RX8, "isDigit", "(I)Z"⟩
abbrev cX8_misfit : ByteArray := prog_10_method_7_code
def yX8_misfit : MethodName := ⟨RX8, "misfit", "(ILjava/lang/String;)I"⟩
abbrev cX8_fits : ByteArray := prog_10_method_8_code
def yX8_fits : MethodName := ⟨RX8, "fits", "(IC)Z"⟩
abbrev cX8_number : ByteArray := prog_10_method_9_code
def yX8_number : MethodName := ⟨RX8, "number", "(II)I"⟩
abbrev cX8_signed : ByteArray := prog_10_method_10_code
def yX8_signed : MethodName := ⟨RX8, "signed", "(II)I"⟩
abbrev cX8_readRows : ByteArray := prog_10_method_11_code
def yX8_readRows : MethodName := ⟨RX8, "readRows", "(LSplitSlices$Plan;)I"⟩
abbrev cX8_dayFault : ByteArray := prog_10_method_12_code
def yX8_dayFault : MethodName := ⟨RX8, "dayFault", "()I"⟩
abbrev cX8_actLength : ByteArray := prog_10_method_13_code
def yX8_actLength : MethodName := ⟨RX8, "actLength", "(I)I"⟩
abbrev cX8_actForm : ByteArray := prog_10_method_14_code
def yX8_actForm : MethodName := ⟨RX8, "actForm", "(I)Ljava/lang/String;"⟩
def RX9 : String := "SplitSlices$Slice"
def TX9 : u_T := fun k => match k with
  | 0 => ("SplitSlices$Slice", "empty", "Z", false)
  | 1 => ("SplitSlices$Slice", "low", "LSplitSlices$Ratio;", true)
  | _ => ("SplitSlices$Slice", "high", "LSplitSlices$Ratio;", true)
def tyX9 : Nat → FieldType := fun k => match k with
  | 0 => .boolean
  | 1 => .object "SplitSlices$Ratio"
  | _ => .object "SplitSlices$Ratio"
theorem nmX9 : ∀ a, a < 3 → ∀ b, b < 3 → a ≠ b → (TX9 a).2.1 ≠ (TX9 b).2.1 := by decide +kernel
theorem tyX9_ok : ∀ k, k < 3 → parseFieldDescriptor (TX9 k).2.2.1 = some (tyX9 k) := by decide +kernel
abbrev cX9_init : ByteArray := prog_11_method_1_code
def yX9_init : MethodName := ⟨RX9, "<init>", "()V"⟩
abbrev cX9_fill : ByteArray := prog_11_method_2_code
def yX9_fill : MethodName := ⟨RX9, "fill", "()V"⟩
abbrev cX9_capBy : ByteArray := prog_11_method_3_code
def yX9_capBy : MethodName := ⟨RX9, "capBy", "(IJ)V"⟩
abbrev cX9_meet : ByteArray := prog_11_method_4_code
def yX9_meet : MethodName := ⟨RX9, "meet", "(LSplitSlices$Slice;)V"⟩
abbrev cX9_join : ByteArray := prog_11_method_5_code
def yX9_join : MethodName := ⟨RX9, "join", "(LSplitSlices$Ratio;LSplitSlices$Ratio;)V"⟩
abbrev cX9_emptyIfCrossed : ByteArray := prog_11_method_6_code
def yX9_emptyIfCrossed : MethodName := ⟨RX9, "emptyIfCrossed", "()V"⟩
abbrev cX9_contains : ByteArray := prog_11_method_7_code
def yX9_contains : MethodName := ⟨RX9, "contains", "(JJ)Z"⟩
def RX10 : String := "SplitSlices$WholePoints"
def TX10 : u_T := fun k => match k with
  | 0 => ("SplitSlices$WholePoints", "size", "I", false)
  | 1 => ("SplitSlices$WholePoints", "corners", "I", false)
  | 2 => ("SplitSlices$WholePoints", "xs", "[I", true)
  | 3 => ("SplitSlices$WholePoints", "ys", "[I", true)
  | _ => ("SplitSlices$WholePoints", "chain", "[I", true)
def tyX10 : Nat → FieldType := fun k => match k with
  | 0 => .int
  | 1 => .int
  | 2 => .array .int
  | 3 => .array .int
  | _ => .array .int
theorem nmX10 : ∀ a, a < 5 → ∀ b, b < 5 → a ≠ b → (TX10 a).2.1 ≠ (TX10 b).2.1 := by decide +kernel
theorem tyX10_ok : ∀ k, k < 5 → parseFieldDescriptor (TX10 k).2.2.1 = some (tyX10 k) := by decide +kernel
abbrev cX10_init : ByteArray := prog_12_method_1_code
def yX10_init : MethodName := ⟨RX10, "<init>", "()V"⟩
abbrev cX10_gather : ByteArray := prog_12_method_2_code
def yX10_gather : MethodName := ⟨RX10, "gather", "(LSplitSlices$Plan;I)V"⟩
abbrev cX10_has : ByteArray := prog_12_method_3_code
def yX10_has : MethodName := ⟨RX10, "has", "(I)Z"⟩
abbrev cX10_tell : ByteArray := prog_12_method_4_code
def yX10_tell : MethodName := ⟨RX10, "tell", "(ILSplitSlices$Numbers;)V"⟩
abbrev cX10_sum : ByteArray := prog_12_method_5_code
def yX10_sum : MethodName := ⟨RX10, "sum", "(IJJ)J"⟩
abbrev cX10_above : ByteArray := prog_12_method_6_code
def yX10_above : MethodName := ⟨RX10, "above", "(JJJ)I"⟩
abbrev cX10_cutOff : ByteArray := prog_12_method_7_code
def yX10_cutOff : MethodName := ⟨RX10, "cutOff", "(LSplitSlices$Plan;)I"⟩
abbrev cX10_distance : ByteArray := prog_12_method_8_code
def yX10_distance : MethodName := ⟨RX10, "distance", "(IIII)J"⟩
abbrev cX10_findCorners : ByteArray := prog_12_method_9_code
def yX10_findCorners : MethodName := ⟨RX10, "findCorners", "()V"⟩
abbrev cX10_link : ByteArray := prog_12_method_10_code
def yX10_link : MethodName := ⟨RX10, "link", "(II)V"⟩
abbrev cX10_turn : ByteArray := prog_12_method_11_code
def yX10_turn : MethodName := ⟨RX10, "turn", "(III)I"⟩
def RX11 : String := "SplitSlices"
def TX11 : u_T := fun k => match k with
  | 0 => ("SplitSlices", "now", "LSplitSlices$Plan;", true)
  | 1 => ("SplitSlices", "trial", "LSplitSlices$Plan;", true)
  | 2 => ("SplitSlices", "kept", "[LSplitSlices$Plan;", true)
  | 3 => ("SplitSlices", "isKept", "[Z", true)
  | 4 => ("SplitSlices", "history", "LSplitSlices$History;", true)
  | 5 => ("SplitSlices", "text", "LSplitSlices$Signs;", true)
  | 6 => ("SplitSlices", "numbers", "LSplitSlices$Numbers;", true)
  | 7 => ("SplitSlices", "regions", "LSplitSlices$Regions;", true)
  | 8 => ("SplitSlices", "finder", "LSplitSlices$CutFinder;", true)
  | 9 => ("SplitSlices", "points", "LSplitSlices$WholePoints;", true)
  | 10 => ("SplitSlices", "mosts", "[LSplitSlices$Most;", true)
  | 11 => ("SplitSlices", "ratio", "LSplitSlices$Ratio;", true)
  | _ => ("SplitSlices", "draws", "LSplitSlices$Draws;", true)
def tyX11 : Nat → FieldType := fun k => match k with
  | 0 => .object "SplitSlices$Plan"
  | 1 => .object "SplitSlices$Plan"
  | 2 => .array (.object "SplitSlices$Plan")
  | 3 => .array .boolean
  | 4 => .object "SplitSlices$History"
  | 5 => .object "SplitSlices$Signs"
  | 6 => .object "SplitSlices$Numbers"
  | 7 => .object "SplitSlices$Regions"
  | 8 => .object "SplitSlices$CutFinder"
  | 9 => .object "SplitSlices$WholePoints"
  | 10 => .array (.object "SplitSlices$Most")
  | 11 => .object "SplitSlices$Ratio"
  | _ => .object "SplitSlices$Draws"
theorem nmX11 : ∀ a, a < 13 → ∀ b, b < 13 → a ≠ b → (TX11 a).2.1 ≠ (TX11 b).2.1 := by decide +kernel
theorem tyX11_ok : ∀ k, k < 13 → parseFieldDescriptor (TX11 k).2.2.1 = some (tyX11 k) := by decide +kernel
abbrev cX11_init : ByteArray := prog_1_method_1_code
def yX11_init : MethodName := ⟨RX11, "<init>", "()V"⟩
abbrev cX11_sign : ByteArray := prog_1_method_2_code
def yX11_sign : MethodName := ⟨RX11, "sign", "(I)I"⟩
abbrev cX11_end : ByteArray := prog_1_method_3_code
def yX11_end : MethodName := ⟨RX11, "end", "(I)Z"⟩
abbrev cX11_rows : ByteArray := prog_1_method_4_code
def yX11_rows : MethodName := ⟨RX11, "rows", "()I"⟩
abbrev cX11_row : ByteArray := prog_1_method_5_code
def yX11_row : MethodName := ⟨RX11, "row", "(II)I"⟩
abbrev cX11_sheet : ByteArray := prog_1_method_6_code
def yX11_sheet : MethodName := ⟨RX11, "sheet", "(IIII)I"⟩
abbrev cX11_sheetEntry : ByteArray := prog_1_method_7_code
def yX11_sheetEntry : MethodName := ⟨RX11, "sheetEntry", "(II)I"⟩
abbrev cX11_becomes : ByteArray := prog_1_method_8_code
def yX11_becomes : MethodName := ⟨RX11, "becomes", "(II)I"⟩
abbrev cX11_adds : ByteArray := prog_1_method_9_code
def yX11_adds : MethodName := ⟨RX11, "adds", "(III)I"⟩
abbrev cX11_drops : ByteArray := prog_1_method_10_code
def yX11_drops : MethodName := ⟨RX11, "drops", "(I)I"⟩
abbrev cX11_noted : ByteArray := prog_1_method_11_code
def yX11_noted : MethodName := ⟨RX11, "noted", "(I)I"⟩
abbrev cX11_slice : ByteArray := prog_1_method_12_code
def yX11_slice : MethodName := ⟨RX11, "slice", "(III)I"⟩
abbrev cX11_inside : ByteArray := prog_1_method_13_code
def yX11_inside : MethodName := ⟨RX11, "inside", "(IIII)I"⟩
abbrev cX11_round : ByteArray := prog_1_method_14_code
def yX11_round : MethodName := ⟨RX11, "round", "(III)I"⟩
abbrev cX11_splits : ByteArray := prog_1_method_15_code
def yX11_splits : MethodName := ⟨RX11, "splits", "(IIII)I"⟩
abbrev cX11_slices : ByteArray := prog_1_method_16_code
def yX11_slices : MethodName := ⟨RX11, "slices", "(I)I"⟩
abbrev cX11_isWay : ByteArray := prog_1_method_17_code
def yX11_isWay : MethodName := ⟨RX11, "isWay", "(I)Z"⟩
abbrev cX11_isPoint : ByteArray := prog_1_method_18_code
def yX11_isPoint : MethodName := ⟨RX11, "isPoint", "(III)Z"⟩
abbrev cX11_cut : ByteArray := prog_1_method_19_code
def yX11_cut : MethodName := ⟨RX11, "cut", "(III)I"⟩
abbrev cX11_findCut : ByteArray := prog_1_method_20_code
def yX11_findCut : MethodName := ⟨RX11, "findCut", "(III)I"⟩
abbrev cX11_stores : ByteArray := prog_1_method_21_code
def yX11_stores : MethodName := ⟨RX11, "stores", "(III)I"⟩
abbrev cX11_storeFound : ByteArray := prog_1_method_22_code
def yX11_storeFound : MethodName := ⟨RX11, "storeFound", "(I)I"⟩
abbrev cX11_checks : ByteArray := prog_1_method_23_code
def yX11_checks : MethodName := ⟨RX11, "checks", "(I)I"⟩
abbrev cX11_stronger : ByteArray := prog_1_method_24_code
def yX11_stronger : MethodName := ⟨RX11, "stronger", "(I)I"⟩
abbrev cX11_clears : ByteArray := prog_1_method_25_code
def yX11_clears : MethodName := ⟨RX11, "clears", "()I"⟩
abbrev cX11_breaks : ByteArray := prog_1_method_26_code
def yX11_breaks : MethodName := ⟨RX11, "breaks", "(III)I"⟩
abbrev cX11_wholes : ByteArray := prog_1_method_27_code
def yX11_wholes : MethodName := ⟨RX11, "wholes", "()I"⟩
abbrev cX11_hull : ByteArray := prog_1_method_28_code
def yX11_hull : MethodName := ⟨RX11, "hull", "()I"⟩
abbrev cX11_nearest : ByteArray := prog_1_method_29_code
def yX11_nearest : MethodName := ⟨RX11, "nearest", "(III)I"⟩
abbrev cX11_most : ByteArray := prog_1_method_30_code
def yX11_most : MethodName := ⟨RX11, "most", "(III)I"⟩
abbrev cX11_isSum : ByteArray := prog_1_method_31_code
def yX11_isSum : MethodName := ⟨RX11, "isSum", "(II)Z"⟩
abbrev cX11_findMost : ByteArray := prog_1_method_32_code
def yX11_findMost : MethodName := ⟨RX11, "findMost", "(III)V"⟩
abbrev cX11_gains : ByteArray := prog_1_method_33_code
def yX11_gains : MethodName := ⟨RX11, "gains", "(II)I"⟩
abbrev cX11_loses : ByteArray := prog_1_method_34_code
def yX11_loses : MethodName := ⟨RX11, "loses", "(III)I"⟩
abbrev cX11_isRow : ByteArray := prog_1_method_35_code
def yX11_isRow : MethodName := ⟨RX11, "isRow", "(III)Z"⟩
abbrev cX11_isBound : ByteArray := prog_1_method_36_code
def yX11_isBound : MethodName := ⟨RX11, "isBound", "(I)Z"⟩
abbrev cX11_tightest : ByteArray := prog_1_method_37_code
def yX11_tightest : MethodName := ⟨RX11, "tightest", "()I"⟩
abbrev cX11_day : ByteArray := prog_1_method_38_code
def yX11_day : MethodName := ⟨RX11, "day", "()I"⟩
abbrev cX11_act : ByteArray := prog_1_method_39_code
def yX11_act : MethodName := ⟨RX11, "act", "(I)I"⟩
abbrev cX11_undo : ByteArray := prog_1_method_40_code
def yX11_undo : MethodName := ⟨RX11, "undo", "()I"⟩
abbrev cX11_years : ByteArray := prog_1_method_41_code
def yX11_years : MethodName := ⟨RX11, "years", "(II)I"⟩
abbrev cX11_changeByDraw : ByteArray := prog_1_method_42_code
def yX11_changeByDraw : MethodName := ⟨RX11, "changeByDraw", "(LSplitSlices$Plan;)I"⟩
abbrev cX11_keep : ByteArray := prog_1_method_43_code
def yX11_keep : MethodName := ⟨RX11, "keep", "(I)Z"⟩
abbrev cX11_again : ByteArray := prog_1_method_44_code
def yX11_again : MethodName := ⟨RX11, "again", "(I)Z"⟩
abbrev cX11_count : ByteArray := prog_1_method_45_code
def yX11_count : MethodName := ⟨RX11, "count", "(I)I"⟩
abbrev cX11_told : ByteArray := prog_1_method_46_code
def yX11_told : MethodName := ⟨RX11, "told", "(I)J"⟩
abbrev cX11_greatestDivisor : ByteArray := prog_1_method_47_code
def yX11_greatestDivisor : MethodName := ⟨RX11, "greatestDivisor", "(JJ)J"⟩
def RX12 : String := "SplitSlicesModel"
def TX12 : u_T := fun k => match k with
  | 0 => ("SplitSlicesModel", "now", "[I", true)
  | 1 => ("SplitSlicesModel", "text", "[B", true)
  | 2 => ("SplitSlicesModel", "typed", "I", false)
  | 3 => ("SplitSlicesModel", "row", "[J", true)
  | 4 => ("SplitSlicesModel", "rowMany", "I", false)
  | 5 => ("SplitSlicesModel", "thrown", "I", false)
  | 6 => ("SplitSlicesModel", "above", "J", false)
  | 7 => ("SplitSlicesModel", "below", "J", false)
  | 8 => ("SplitSlicesModel", "length", "I", false)
  | 9 => ("SplitSlicesModel", "at", "I", false)
  | 10 => ("SplitSlicesModel", "wrong", "I", false)
  | 11 => ("SplitSlicesModel", "read", "[I", true)
  | 12 => ("SplitSlicesModel", "undos", "[I", true)
  | 13 => ("SplitSlicesModel", "undoMany", "I", false)
  | 14 => ("SplitSlicesModel", "then", "[I", true)
  | 15 => ("SplitSlicesModel", "is", "[Z", true)
  | 16 => ("SplitSlicesModel", "low", "[J", true)
  | 17 => ("SplitSlicesModel", "high", "[J", true)
  | 18 => ("SplitSlicesModel", "lowAbove", "J", false)
  | 19 => ("SplitSlicesModel", "lowBelow", "J", false)
  | 20 => ("SplitSlicesModel", "highAbove", "J", false)
  | 21 => ("SplitSlicesModel", "highBelow", "J", false)
  | 22 => ("SplitSlicesModel", "any", "Z", false)
  | 23 => ("SplitSlicesModel", "leastAbove", "J", false)
  | 24 => ("SplitSlicesModel", "leastBelow", "J", false)
  | 25 => ("SplitSlicesModel", "greatestAbove", "J", false)
  | 26 => ("SplitSlicesModel", "greatestBelow", "J", false)
  | 27 => ("SplitSlicesModel", "cut", "[I", true)
  | 28 => ("SplitSlicesModel", "points", "[I", true)
  | 29 => ("SplitSlicesModel", "pointMany", "I", false)
  | 30 => ("SplitSlicesModel", "hasMost", "Z", false)
  | 31 => ("SplitSlicesModel", "mostAbove", "J", false)
  | 32 => ("SplitSlicesModel", "mostBelow", "J", false)
  | 33 => ("SplitSlicesModel", "acts", "[I", true)
  | 34 => ("SplitSlicesModel", "drawn", "I", false)
  | 35 => ("SplitSlicesModel", "kept", "[I", true)
  | _ => ("SplitSlicesModel", "isKept", "[Z", true)
def tyX12 : Nat → FieldType := fun k => match k with
  | 0 => .array .int
  | 1 => .array .byte
  | 2 => .int
  | 3 => .array .long
  | 4 => .int
  | 5 => .int
  | 6 => .long
  | 7 => .long
  | 8 => .int
  | 9 => .int
  | 10 => .int
  | 11 => .array .int
  | 12 => .array .int
  | 13 => .int
  | 14 => .array .int
  | 15 => .array .boolean
  | 16 => .array .long
  | 17 => .array .long
  | 18 => .long
  | 19 => .long
  | 20 => .long
  | 21 => .long
  | 22 => .boolean
  | 23 => .long
  | 24 => .long
  | 25 => .long
  | 26 => .long
  | 27 => .array .int
  | 28 => .array .int
  | 29 => .int
  | 30 => .boolean
  | 31 => .long
  | 32 => .long
  | 33 => .array .int
  | 34 => .int
  | 35 => .array .int
  | _ => .array .boolean
theorem nmX12 : ∀ a, a < 37 → ∀ b, b < 37 → a ≠ b → (TX12 a).2.1 ≠ (TX12 b).2.1 := by decide +kernel
theorem tyX12_ok : ∀ k, k < 37 → parseFieldDescriptor (TX12 k).2.2.1 = some (tyX12 k) := by decide +kernel
abbrev cX12_init : ByteArray := prog_14_method_1_code
def yX12_init : MethodName := ⟨RX12, "<init>", "()V"⟩
abbrev cX12_thrown : ByteArray := prog_14_method_2_code
def yX12_thrown : MethodName := ⟨RX12, "thrown", "()I"⟩
abbrev cX12_in : ByteArray := prog_14_method_3_code
def yX12_in : MethodName := ⟨RX12, "in", "(III)Z"⟩
abbrev cX12_lost : ByteArray := prog_14_method_4_code
def yX12_lost : MethodName := ⟨RX12, "lost", "()I"⟩
abbrev cX12_tell : ByteArray := prog_14_method_5_code
def yX12_tell : MethodName := ⟨RX12, "tell", "(J)V"⟩
abbrev cX12_lines : ByteArray := prog_14_method_6_code
def yX12_lines : MethodName := ⟨RX12, "lines", "()I"⟩
abbrev cX12_of : ByteArray := prog_14_method_7_code
def yX12_of : MethodName := ⟨RX12, "of", "(II)I"⟩
abbrev cX12_common : ByteArray := prog_14_method_8_code
def yX12_common : MethodName := ⟨RX12, "common", "(JJ)J"⟩
abbrev cX12_set : ByteArray := prog_14_method_9_code
def yX12_set : MethodName := ⟨RX12, "set", "(JJ)V"⟩
abbrev cX12_tellFraction : ByteArray := prog_14_method_10_code
def yX12_tellFraction : MethodName := ⟨RX12, "tellFraction", "(JJ)V"⟩
abbrev cX12_isLess : ByteArray := prog_14_method_11_code
def yX12_isLess : MethodName := ⟨RX12, "isLess", "(JJJJ)Z"⟩
abbrev cX12_sign : ByteArray := prog_14_method_12_code
def yX12_sign : MethodName := ⟨RX12, "sign", "(I)I"⟩
abbrev cX12_end : ByteArray := prog_14_method_13_code
def yX12_end : MethodName := ⟨RX12, "end", "(I)Z"⟩
abbrev cX12_begin : ByteArray := prog_14_method_14_code
def yX12_begin : MethodName := ⟨RX12, "begin", "()V"⟩
abbrev cX12_here : ByteArray := prog_14_method_15_code
def yX12_here : MethodName := ⟨RX12, "here", "()I"⟩
abbrev cX12_fine : ByteArray := prog_14_method_16_code
def yX12_fine : MethodName := ⟨RX12, "fine", "()Z"⟩
abbrev cX12_fault : ByteArray := prog_14_method_17_code
def yX12_fault : MethodName := ⟨RX12, "fault", "(I)V"⟩
abbrev cX12_passes : ByteArray := prog_14_method_18_code
def yX12_passes : MethodName := ⟨RX12, "passes", "(C)Z"⟩
abbrev cX12_need : ByteArray := prog_14_method_19_code
def yX12_need : MethodName := ⟨RX12, "need", "(C)V"⟩
abbrev cX12_digit : ByteArray := prog_14_method_20_code
def yX12_digit : MethodName := ⟨RX12, "digit", "(I)I"⟩
abbrev cX12_sided : ByteArray := prog_14_method_21_code
def yX12_sided : MethodName := ⟨RX12, "sided", "()I"⟩
abbrev cX12_wasRight : ByteArray := prog_14_method_22_code
def yX12_wasRight : MethodName := ⟨RX12, "wasRight", "()Z"⟩
abbrev cX12_readRow : ByteArray := prog_14_method_23_code
def yX12_readRow : MethodName := ⟨RX12, "readRow", "(I)V"⟩
abbrev cX12_canBe : ByteArray := prog_14_method_24_code
def yX12_canBe : MethodName := ⟨RX12, "canBe", "(III)Z"⟩
abbrev cX12_rows : ByteArray := prog_14_method_25_code
def yX12_rows : MethodName := ⟨RX12, "rows", "()I"⟩
abbrev cX12_row : ByteArray := prog_14_method_26_code
def yX12_row : MethodName := ⟨RX12, "row", "(II)I"⟩
abbrev cX12_sheet : ByteArray := prog_14_method_27_code
def yX12_sheet : MethodName := ⟨RX12, "sheet", "(IIII)I"⟩
abbrev cX12_change : ByteArray := prog_14_method_28_code
def yX12_change : MethodName := ⟨RX12, "change", "()V"⟩
abbrev cX12_note : ByteArray := prog_14_method_29_code
def yX12_note : MethodName := ⟨RX12, "note", "()V"⟩
abbrev cX12_isTold : ByteArray := prog_14_method_30_code
def yX12_isTold : MethodName := ⟨RX12, "isTold", "(I)Z"⟩
abbrev cX12_refusesBecome : ByteArray := prog_14_method_31_code
def yX12_refusesBecome : MethodName := ⟨RX12, "refusesBecome", "(II)I"⟩
abbrev cX12_refusesAdd : ByteArray := prog_14_method_32_code
def yX12_refusesAdd : MethodName := ⟨RX12, "refusesAdd", "(III)I"⟩
abbrev cX12_add : ByteArray := prog_14_method_33_code
def yX12_add : MethodName := ⟨RX12, "add", "(III)V"⟩
abbrev cX12_drop : ByteArray := prog_14_method_34_code
def yX12_drop : MethodName := ⟨RX12, "drop", "(I)V"⟩
abbrev cX12_becomes : ByteArray := prog_14_method_35_code
def yX12_becomes : MethodName := ⟨RX12, "becomes", "(II)I"⟩
abbrev cX12_adds : ByteArray := prog_14_method_36_code
def yX12_adds : MethodName := ⟨RX12, "adds", "(III)I"⟩
abbrev cX12_drops : ByteArray := prog_14_method_37_code
def yX12_drops : MethodName := ⟨RX12, "drops", "(I)I"⟩
abbrev cX12_sliceAt : ByteArray := prog_14_method_38_code
def yX12_sliceAt : MethodName := ⟨RX12, "sliceAt", "(III)I"⟩
abbrev cX12_wide : ByteArray := prog_14_method_39_code
def yX12_wide : MethodName := ⟨RX12, "wide", "(JJJJ)V"⟩
abbrev cX12_notBelow : ByteArray := prog_14_method_40_code
def yX12_notBelow : MethodName := ⟨RX12, "notBelow", "(JJ)V"⟩
abbrev cX12_notAbove : ByteArray := prog_14_method_41_code
def yX12_notAbove : MethodName := ⟨RX12, "notAbove", "(JJ)V"⟩
abbrev cX12_isEmpty : ByteArray := prog_14_method_42_code
def yX12_isEmpty : MethodName := ⟨RX12, "isEmpty", "()Z"⟩
abbrev cX12_keepSlice : ByteArray := prog_14_method_43_code
def yX12_keepSlice : MethodName := ⟨RX12, "keepSlice", "(IZ)V"⟩
abbrev cX12_narrow : ByteArray := prog_14_method_44_code
def yX12_narrow : MethodName := ⟨RX12, "narrow", "(JJ)Z"⟩
abbrev cX12_layFirst : ByteArray := prog_14_method_45_code
def yX12_layFirst : MethodName := ⟨RX12, "layFirst", "()V"⟩
abbrev cX12_joins : ByteArray := prog_14_method_46_code
def yX12_joins : MethodName := ⟨RX12, "joins", "()V"⟩
abbrev cX12_between : ByteArray := prog_14_method_47_code
def yX12_between : MethodName := ⟨RX12, "between", "([JIIIZ)Z"⟩
abbrev cX12_layNext : ByteArray := prog_14_method_48_code
def yX12_layNext : MethodName := ⟨RX12, "layNext", "(I)V"⟩
abbrev cX12_lay : ByteArray := prog_14_method_49_code
def yX12_lay : MethodName := ⟨RX12, "lay", "(I)V"⟩
abbrev cX12_slice : ByteArray := prog_14_method_50_code
def yX12_slice : MethodName := ⟨RX12, "slice", "(III)I"⟩
abbrev cX12_isPoint : ByteArray := prog_14_method_51_code
def yX12_isPoint : MethodName := ⟨RX12, "isPoint", "(III)Z"⟩
abbrev cX12_comesBy : ByteArray := prog_14_method_52_code
def yX12_comesBy : MethodName := ⟨RX12, "comesBy", "(IIIII)Z"⟩
abbrev cX12_isBetween : ByteArray := prog_14_method_53_code
def yX12_isBetween : MethodName := ⟨RX12, "isBetween", "([JIIII)I"⟩
abbrev cX12_isIn : ByteArray := prog_14_method_54_code
def yX12_isIn : MethodName := ⟨RX12, "isIn", "(IIII)Z"⟩
abbrev cX12_inside : ByteArray := prog_14_method_55_code
def yX12_inside : MethodName := ⟨RX12, "inside", "(IIII)I"⟩
abbrev cX12_round : ByteArray := prog_14_method_56_code
def yX12_round : MethodName := ⟨RX12, "round", "(III)I"⟩
abbrev cX12_splits : ByteArray := prog_14_method_57_code
def yX12_splits : MethodName := ⟨RX12, "splits", "(IIII)I"⟩
abbrev cX12_slices : ByteArray := prog_14_method_58_code
def yX12_slices : MethodName := ⟨RX12, "slices", "(I)I"⟩
abbrev cX12_bounding : ByteArray := prog_14_method_59_code
def yX12_bounding : MethodName := ⟨RX12, "bounding", "(IIIJJ)I"⟩
abbrev cX12_refusesCut : ByteArray := prog_14_method_60_code
def yX12_refusesCut : MethodName := ⟨RX12, "refusesCut", "(III)I"⟩
abbrev cX12_putFraction : ByteArray := prog_14_method_61_code
def yX12_putFraction : MethodName := ⟨RX12, "putFraction", "(IJJ)V"⟩
abbrev cX12_layCut : ByteArray := prog_14_method_62_code
def yX12_layCut : MethodName := ⟨RX12, "layCut", "(III)V"⟩
abbrev cX12_cut : ByteArray := prog_14_method_63_code
def yX12_cut : MethodName := ⟨RX12, "cut", "(III)I"⟩
abbrev cX12_refusesStore : ByteArray := prog_14_method_64_code
def yX12_refusesStore : MethodName := ⟨RX12, "refusesStore", "(III)I"⟩
abbrev cX12_store : ByteArray := prog_14_method_65_code
def yX12_store : MethodName := ⟨RX12, "store", "(III)V"⟩
abbrev cX12_stores : ByteArray := prog_14_method_66_code
def yX12_stores : MethodName := ⟨RX12, "stores", "(III)I"⟩
abbrev cX12_stored : ByteArray := prog_14_method_67_code
def yX12_stored : MethodName := ⟨RX12, "stored", "(II)I"⟩
abbrev cX12_proves : ByteArray := prog_14_method_68_code
def yX12_proves : MethodName := ⟨RX12, "proves", "(IIIII)Z"⟩
abbrev cX12_isProven : ByteArray := prog_14_method_69_code
def yX12_isProven : MethodName := ⟨RX12, "isProven", "(I)Z"⟩
abbrev cX12_isStored : ByteArray := prog_14_method_70_code
def yX12_isStored : MethodName := ⟨RX12, "isStored", "(I)Z"⟩
abbrev cX12_checks : ByteArray := prog_14_method_71_code
def yX12_checks : MethodName := ⟨RX12, "checks", "(I)I"⟩
abbrev cX12_isWhole : ByteArray := prog_14_method_72_code
def yX12_isWhole : MethodName := ⟨RX12, "isWhole", "(II)Z"⟩
abbrev cX12_stronger : ByteArray := prog_14_method_73_code
def yX12_stronger : MethodName := ⟨RX12, "stronger", "(I)I"⟩
abbrev cX12_clears : ByteArray := prog_14_method_74_code
def yX12_clears : MethodName := ⟨RX12, "clears", "()I"⟩
abbrev cX12_breaks : ByteArray := prog_14_method_75_code
def yX12_breaks : MethodName := ⟨RX12, "breaks", "(III)I"⟩
abbrev cX12_layWholes : ByteArray := prog_14_method_76_code
def yX12_layWholes : MethodName := ⟨RX12, "layWholes", "()V"⟩
abbrev cX12_wholes : ByteArray := prog_14_method_77_code
def yX12_wholes : MethodName := ⟨RX12, "wholes", "()I"⟩
abbrev cX12_turn : ByteArray := prog_14_method_78_code
def yX12_turn : MethodName := ⟨RX12, "turn", "(III)I"⟩
abbrev cX12_far : ByteArray := prog_14_method_79_code
def yX12_far : MethodName := ⟨RX12, "far", "(II)I"⟩
abbrev cX12_nextCorner : ByteArray := prog_14_method_80_code
def yX12_nextCorner : MethodName := ⟨RX12, "nextCorner", "(I)I"⟩
abbrev cX12_hull : ByteArray := prog_14_method_81_code
def yX12_hull : MethodName := ⟨RX12, "hull", "()I"⟩
abbrev cX12_farFrom : ByteArray := prog_14_method_82_code
def yX12_farFrom : MethodName := ⟨RX12, "farFrom", "(IIII)I"⟩
abbrev cX12_nearest : ByteArray := prog_14_method_83_code
def yX12_nearest : MethodName := ⟨RX12, "nearest", "(III)I"⟩
abbrev cX12_offer : ByteArray := prog_14_method_84_code
def yX12_offer : MethodName := ⟨RX12, "offer", "(JJ)V"⟩
abbrev cX12_offerCorner : ByteArray := prog_14_method_85_code
def yX12_offerCorner : MethodName := ⟨RX12, "offerCorner", "(IIII)V"⟩
abbrev cX12_offerSlices : ByteArray := prog_14_method_86_code
def yX12_offerSlices : MethodName := ⟨RX12, "offerSlices", "(III)V"⟩
abbrev cX12_layMost : ByteArray := prog_14_method_87_code
def yX12_layMost : MethodName := ⟨RX12, "layMost", "(III)V"⟩
abbrev cX12_isSum : ByteArray := prog_14_method_88_code
def yX12_isSum : MethodName := ⟨RX12, "isSum", "(II)Z"⟩
abbrev cX12_most : ByteArray := prog_14_method_89_code
def yX12_most : MethodName := ⟨RX12, "most", "(III)I"⟩
abbrev cX12_gains : ByteArray := prog_14_method_90_code
def yX12_gains : MethodName := ⟨RX12, "gains", "(II)I"⟩
abbrev cX12_loses : ByteArray := prog_14_method_91_code
def yX12_loses : MethodName := ⟨RX12, "loses", "(III)I"⟩
abbrev cX12_wholesWithout : ByteArray := prog_14_method_92_code
def yX12_wholesWithout : MethodName := ⟨RX12, "wholesWithout", "(I)I"⟩
abbrev cX12_tightest : ByteArray := prog_14_method_93_code
def yX12_tightest : MethodName := ⟨RX12, "tightest", "()I"⟩
abbrev cX12_readAct : ByteArray := prog_14_method_94_code
def yX12_readAct : MethodName := ⟨RX12, "readAct", "(I)V"⟩
abbrev cX12_act : ByteArray := prog_14_method_95_code
def yX12_act : MethodName := ⟨RX12, "act", "(I)Z"⟩
abbrev cX12_day : ByteArray := prog_14_method_96_code
def yX12_day : MethodName := ⟨RX12, "day", "()I"⟩
abbrev cX12_undo : ByteArray := prog_14_method_97_code
def yX12_undo : MethodName := ⟨RX12, "undo", "()I"⟩
abbrev cX12_draw : ByteArray := prog_14_method_98_code
def yX12_draw : MethodName := ⟨RX12, "draw", "(I)I"⟩
abbrev cX12_goDrawn : ByteArray := prog_14_method_99_code
def yX12_goDrawn : MethodName := ⟨RX12, "goDrawn", "()I"⟩
abbrev cX12_years : ByteArray := prog_14_method_100_code
def yX12_years : MethodName := ⟨RX12, "years", "(II)I"⟩
abbrev cX12_keep : ByteArray := prog_14_method_101_code
def yX12_keep : MethodName := ⟨RX12, "keep", "(I)Z"⟩
abbrev cX12_again : ByteArray := prog_14_method_102_code
def yX12_again : MethodName := ⟨RX12, "again", "(I)Z"⟩
abbrev cX12_provenMany : ByteArray := prog_14_method_103_code
def yX12_provenMany : MethodName := ⟨RX12, "provenMany", "()I"⟩
abbrev cX12_brokenMany : ByteArray := prog_14_method_104_code
def yX12_brokenMany : MethodName := ⟨RX12, "brokenMany", "()I"⟩
abbrev cX12_count : ByteArray := prog_14_method_105_code
def yX12_count : MethodName := ⟨RX12, "count", "(I)I"⟩
abbrev cX12_told : ByteArray := prog_14_method_106_code
def yX12_told : MethodName := ⟨RX12, "told", "(I)J"⟩
def RJx145de : String := "java/io/Serializable"
def TJx145de : u_T := fun k => match k with
  | _ => ("", "", "", false)
def tyJx145de : Nat → FieldType := fun k => match k with
  | _ => .int
theorem nmJx145de : ∀ a, a < 0 → ∀ b, b < 0 → a ≠ b → (TJx145de a).2.1 ≠ (TJx145de b).2.1 := by decide +kernel
theorem tyJx145de_ok : ∀ k, k < 0 → parseFieldDescriptor (TJx145de k).2.2.1 = some (tyJx145de k) := by decide +kernel
def RJx9f9b0 : String := "java/lang/CharSequence"
def TJx9f9b0 : u_T := fun k => match k with
  | _ => ("", "", "", false)
def tyJx9f9b0 : Nat → FieldType := fun k => match k with
  | _ => .int
theorem nmJx9f9b0 : ∀ a, a < 0 → ∀ b, b < 0 → a ≠ b → (TJx9f9b0 a).2.1 ≠ (TJx9f9b0 b).2.1 := by decide +kernel
theorem tyJx9f9b0_ok : ∀ k, k < 0 → parseFieldDescriptor (TJx9f9b0 k).2.2.1 = some (tyJx9f9b0 k) := by decide +kernel
def RJxb160c : String := "java/lang/Comparable"
def TJxb160c : u_T := fun k => match k with
  | _ => ("", "", "", false)
def tyJxb160c : Nat → FieldType := fun k => match k with
  | _ => .int
theorem nmJxb160c : ∀ a, a < 0 → ∀ b, b < 0 → a ≠ b → (TJxb160c a).2.1 ≠ (TJxb160c b).2.1 := by decide +kernel
theorem tyJxb160c_ok : ∀ k, k < 0 → parseFieldDescriptor (TJxb160c k).2.2.1 = some (tyJxb160c k) := by decide +kernel
def RJ13 : String := "java/lang/Long"
def TJ13 : u_T := fun k => match k with
  | _ => ("", "", "", false)
def tyJ13 : Nat → FieldType := fun k => match k with
  | _ => .int
theorem nmJ13 : ∀ a, a < 0 → ∀ b, b < 0 → a ≠ b → (TJ13 a).2.1 ≠ (TJ13 b).2.1 := by decide +kernel
theorem tyJ13_ok : ∀ k, k < 0 → parseFieldDescriptor (TJ13 k).2.2.1 = some (tyJ13 k) := by decide +kernel
abbrev cJ13_compare_74951 : ByteArray := prog_19_method_42_code
def yJ13_compare_74951 : MethodName := ⟨RJ13, "compare", "(JJ)I"⟩
def RJ9 : String := "java/lang/Math"
def TJ9 : u_T := fun k => match k with
  | _ => ("", "", "", false)
def tyJ9 : Nat → FieldType := fun k => match k with
  | _ => .int
theorem nmJ9 : ∀ a, a < 0 → ∀ b, b < 0 → a ≠ b → (TJ9 a).2.1 ≠ (TJ9 b).2.1 := by decide +kernel
theorem tyJ9_ok : ∀ k, k < 0 → parseFieldDescriptor (TJ9 k).2.2.1 = some (tyJ9 k) := by decide +kernel
abbrev cJ9_floorDiv_f86c9 : ByteArray := prog_20_method_49_code
def yJ9_floorDiv_f86c9 : MethodName := ⟨RJ9, "floorDiv", "(JJ)J"⟩
abbrev cJ9_floorMod_7cf53 : ByteArray := prog_20_method_50_code
def yJ9_floorMod_7cf53 : MethodName := ⟨RJ9, "floorMod", "(II)I"⟩
abbrev cJ9_abs_067f4 : ByteArray := prog_20_method_61_code
def yJ9_abs_067f4 : MethodName := ⟨RJ9, "abs", "(J)J"⟩
def RJ0 : String := "java/lang/String"
def TJ0 : u_T := fun k => match k with
  | _ => ("", "", "", false)
def tyJ0 : Nat → FieldType := fun k => match k with
  | _ => .int
theorem nmJ0 : ∀ a, a < 0 → ∀ b, b < 0 → a ≠ b → (TJ0 a).2.1 ≠ (TJ0 b).2.1 := by decide +kernel
theorem tyJ0_ok : ∀ k, k < 0 → parseFieldDescriptor (TJ0 k).2.2.1 = some (tyJ0 k) := by decide +kernel
abbrev cJ0_length_8abf5 : ByteArray := prog_22_method_54_code
def yJ0_length_8abf5 : MethodName := ⟨RJ0, "length", "()I"⟩
abbrev cJ0_charAt_5068e : ByteArray := prog_22_method_56_code
def yJ0_charAt_5068e : MethodName := ⟨RJ0, "charAt", "(I)C"⟩
abbrev cJ0_coder_7d493 : ByteArray := prog_22_method_152_code
def yJ0_coder_7d493 : MethodName := ⟨RJ0, "coder", "()B"⟩
abbrev cJ0_isLatin1_aae02 : ByteArray := prog_22_method_154_code
def yJ0_isLatin1_aae02 : MethodName := ⟨RJ0, "isLatin1", "()Z"⟩
abbrev cJ0_checkIndex_df160 : ByteArray := prog_22_method_155_code
def yJ0_checkIndex_df160 : MethodName := ⟨RJ0, "checkIndex", "(II)V"⟩
def RJ1 : String := "java/lang/StringLatin1"
def TJ1 : u_T := fun k => match k with
  | _ => ("", "", "", false)
def tyJ1 : Nat → FieldType := fun k => match k with
  | _ => .int
theorem nmJ1 : ∀ a, a < 0 → ∀ b, b < 0 → a ≠ b → (TJ1 a).2.1 ≠ (TJ1 b).2.1 := by decide +kernel
theorem tyJ1_ok : ∀ k, k < 0 → parseFieldDescriptor (TJ1 k).2.2.1 = some (tyJ1 k) := by decide +kernel
abbrev cJ1_charAt_3b067 : ByteArray := prog_23_method_2_code
def yJ1_charAt_3b067 : MethodName := ⟨RJ1, "charAt", "([BI)C"⟩
def RJ2 : String := "java/lang/StringUTF16"
def TJ2 : u_T := fun k => match k with
  | _ => ("", "", "", false)
def tyJ2 : Nat → FieldType := fun k => match k with
  | _ => .int
theorem nmJ2 : ∀ a, a < 0 → ∀ b, b < 0 → a ≠ b → (TJ2 a).2.1 ≠ (TJ2 b).2.1 := by decide +kernel
theorem tyJ2_ok : ∀ k, k < 0 → parseFieldDescriptor (TJ2 k).2.2.1 = some (tyJ2 k) := by decide +kernel
abbrev cJ2_getChar_3b067 : ByteArray := prog_24_method_5_code
def yJ2_getChar_3b067 : MethodName := ⟨RJ2, "getChar", "([BI)C"⟩
abbrev cJ2_length_9d52b : ByteArray := prog_24_method_6_code
def yJ2_length_9d52b : MethodName := ⟨RJ2, "length", "([B)I"⟩
abbrev cJ2_charAt_3b067 : ByteArray := prog_24_method_83_code
def yJ2_charAt_3b067 : MethodName := ⟨RJ2, "charAt", "([BI)C"⟩
abbrev cJ2_checkIndex_2214a : ByteArray := prog_24_method_91_code
def yJ2_checkIndex_2214a : MethodName := ⟨RJ2, "checkIndex", "(I[B)V"⟩
def RJ10 : String := "java/lang/System"
def TJ10 : u_T := fun k => match k with
  | _ => ("", "", "", false)
def tyJ10 : Nat → FieldType := fun k => match k with
  | _ => .int
theorem nmJ10 : ∀ a, a < 0 → ∀ b, b < 0 → a ≠ b → (TJ10 a).2.1 ≠ (TJ10 b).2.1 := by decide +kernel
theorem tyJ10_ok : ∀ k, k < 0 → parseFieldDescriptor (TJ10 k).2.2.1 = some (tyJ10 k) := by decide +kernel
def RJxfd54e : String := "java/lang/constant/Constable"
def TJxfd54e : u_T := fun k => match k with
  | _ => ("", "", "", false)
def tyJxfd54e : Nat → FieldType := fun k => match k with
  | _ => .int
theorem nmJxfd54e : ∀ a, a < 0 → ∀ b, b < 0 → a ≠ b → (TJxfd54e a).2.1 ≠ (TJxfd54e b).2.1 := by decide +kernel
theorem tyJxfd54e_ok : ∀ k, k < 0 → parseFieldDescriptor (TJxfd54e k).2.2.1 = some (tyJxfd54e k) := by decide +kernel
def RJx3cf43 : String := "java/lang/constant/ConstantDesc"
def TJx3cf43 : u_T := fun k => match k with
  | _ => ("", "", "", false)
def tyJx3cf43 : Nat → FieldType := fun k => match k with
  | _ => .int
theorem nmJx3cf43 : ∀ a, a < 0 → ∀ b, b < 0 → a ≠ b → (TJx3cf43 a).2.1 ≠ (TJx3cf43 b).2.1 := by decide +kernel
theorem tyJx3cf43_ok : ∀ k, k < 0 → parseFieldDescriptor (TJx3cf43 k).2.2.1 = some (tyJx3cf43 k) := by decide +kernel
def RJ3 : String := "jdk/internal/util/Preconditions"
def TJ3 : u_T := fun k => match k with
  | _ => ("", "", "", false)
def tyJ3 : Nat → FieldType := fun k => match k with
  | _ => .int
theorem nmJ3 : ∀ a, a < 0 → ∀ b, b < 0 → a ≠ b → (TJ3 a).2.1 ≠ (TJ3 b).2.1 := by decide +kernel
theorem tyJ3_ok : ∀ k, k < 0 → parseFieldDescriptor (TJ3 k).2.2.1 = some (tyJ3 k) := by decide +kernel
abbrev cJ3_checkIndex_8e157 : ByteArray := prog_30_method_11_code
def yJ3_checkIndex_8e157 : MethodName := ⟨RJ3, "checkIndex", "(IILjava/util/function/BiFunction;)I"⟩
def RL : String := "SplitSlicesLaw"
abbrev cL_row : ByteArray := method_3_code
def yL_row : MethodName := ⟨RL, "row", "(LSplitSlices;II[J)I"⟩
abbrev cL_told : ByteArray := method_4_code
def yL_told : MethodName := ⟨RL, "told", "(LSplitSlices;I[J)I"⟩
abbrev cL_law : ByteArray := code
def yL_law : MethodName := ⟨RL, "law", "([I)Z"⟩
abbrev vwCl : List vw_C := [(RX0, TX0, 2), (RX1, TX1, 1), (RX2, TX2, 2), (RX3, TX3, 5), (RX4, TX4, 2), (RX5, TX5, 4), (RX6, TX6, 2), (RX7, TX7, 4), (RX8, TX8, 2), (RX9, TX9, 3), (RX10, TX10, 5), (RX11, TX11, 13), (RX12, TX12, 37)]
end
section
-- ===== the abstract machine: state, locals, programs =====
abbrev zSt : Type := List (Nat × Nat) × (Nat → Nat → Int32) × (Nat → Nat → Int64) × (Nat → Nat → Option Nat)
abbrev zLs : Type := List (Option Value)
abbrev zKn : Type := zLs → List Value → zSt → Prop
abbrev zRt : Type := Option Value → zSt → Prop
abbrev zCl : Type := MethodName → List Value → zSt → zRt → Prop
abbrev zOp : Type := zCl → zRt → zKn → (Nat → zKn) → zKn
abbrev zPg : Type := List (Nat × zOp)
noncomputable def zPc (r : zPg) : Nat := List.rec (motive := fun _ => Nat) 0 (fun e _ _ => e.1) r
noncomputable def zDrop (pc : Nat) (p : zPg) : zPg := List.rec (motive := fun _ => zPg) [] (fun e r ih => Bool.rec ih (e :: r) (Nat.beq e.1 pc)) p
noncomputable def zElem (pc : Nat) (p : List Nat) : Bool := List.rec (motive := fun _ => Bool) false (fun e _ ih => Bool.rec ih true (Nat.beq e pc)) p
noncomputable def zM (C : zCl) (Rt : zRt) (A : Nat → zKn) (stops : List Nat) (prog : zPg) (n : Nat) : zPg → zKn :=
  Nat.rec (motive := fun _ => zPg → zKn) (fun r => List.rec (motive := fun _ => zKn) (fun _ _ _ => False) (fun e _ _ => A e.1) r)
    (fun _ ih r => List.rec (motive := fun _ => zKn) (fun _ _ _ => False)
      (fun e r _ => e.2 C Rt
        (fun ls st σ => Bool.rec (ih r ls st σ) (A (zPc r) ls st σ) (zElem (zPc r) stops))
        (fun t ls st σ => Bool.rec (ih (zDrop t prog) ls st σ) (A t ls st σ) (zElem t stops))) r) n
/-- a check that a program decides where the place is a number -/
abbrev zB (b : Bool) (a : Prop) : Prop := Bool.rec (motive := fun _ => Prop) False a b
theorem zB_in {b : Bool} {a : Prop} (h : b = true) (k : a) : zB b a := by subst h; exact k
theorem zB_out {b : Bool} {a : Prop} (h : zB b a) : b = true ∧ a := by cases b with | false => exact h.elim | true => exact ⟨rfl, h⟩
noncomputable def zKd (K : List (Nat × Nat)) (p : Nat) : Nat × Nat := List.rec (motive := fun _ => Nat → Nat × Nat) (fun _ => (99, 0)) (fun e _ ih p => Nat.rec e (fun j _ => ih j) p) K p
noncomputable def zLd (ls : zLs) (i : Nat) (k : Value → Prop) : Prop :=
  List.rec (motive := fun _ => Nat → Prop) (fun _ => False) (fun o _ ih i => Nat.rec (Option.rec False (fun v => k v) o) (fun j _ => ih j) i) ls i
/-- a long that stands there goes -/
def zClr (o : Option Value) (k : Option Value → Prop) : Prop := match o with
  | some (.long _) => k none
  | some (.double _) => k none
  | some (.int x) => k (some (.int x))
  | some (.ref x) => k (some (.ref x))
  | some .null => k (some .null)
  | _ => k none
noncomputable def zS1 (ls : zLs) (i : Nat) (v : Value) (k : zLs → Prop) : Prop :=
  List.rec (motive := fun _ => Nat → (zLs → Prop) → Prop) (fun _ _ => False)
    (fun o r ih i k => Nat.rec (k (some v :: r)) (fun j _ => Nat.rec (zClr o (fun o' => ih 0 (fun r' => k (o' :: r')))) (fun j' _ => ih (j' + 1) (fun r' => k (o :: r'))) j) i) ls i k
noncomputable def zS2 (ls : zLs) (i : Nat) (v : Value) (k : zLs → Prop) : Prop :=
  List.rec (motive := fun _ => Nat → (zLs → Prop) → Prop) (fun _ _ => False)
    (fun o r ih i k => Nat.rec (List.rec False (fun _ r2 _ => k (some v :: none :: r2)) r) (fun j _ => Nat.rec (zClr o (fun o' => ih 0 (fun r' => k (o' :: r')))) (fun j' _ => ih (j' + 1) (fun r' => k (o :: r'))) j) i) ls i k
noncomputable def zPop (n : Nat) : List Value → List Value → (List Value → List Value → Prop) → Prop :=
  Nat.rec (motive := fun _ => List Value → List Value → (List Value → List Value → Prop) → Prop) (fun st acc k => k acc st) (fun _ ih st acc k => List.rec False (fun v r _ => ih r (v :: acc) k) st) n
noncomputable def zWd8 (st : List Value) : Nat := List.rec (motive := fun _ => Nat) 0 (fun v _ ih => Nat.add v.category ih) st
def z_upI (f : Nat → Nat → Int32) (p k : Nat) (v : Int32) : Nat → Nat → Int32 := va_up f p (upd (f p) k v)
def z_upJ (f : Nat → Nat → Int64) (p k : Nat) (v : Int64) : Nat → Nat → Int64 := va_up f p (vp_updL (f p) k v)
def z_upR (f : Nat → Nat → Option Nat) (p k : Nat) (v : Option Nat) : Nat → Nat → Option Nat := va_up f p (va_up (f p) k v)
-- ===== facts of these =====
theorem zKd_eq : ∀ (K : List (Nat × Nat)) (p : Nat), zKd K p = (K[p]?).getD (99, 0)
  | [], _ => rfl
  | _ :: _, 0 => rfl
  | _ :: r, p + 1 => by rw [List.getElem?_cons_succ]; exact zKd_eq r p
theorem zKd_lt {K : List (Nat × Nat)} {p t n : Nat} (h : zKd K p = (t, n)) (ht : t ≠ 99) : p < K.length := by
  rw [zKd_eq] at h
  rcases Nat.lt_or_ge p K.length with q | q
  · exact q
  · rw [List.getElem?_eq_none q] at h
    exact absurd (congrArg Prod.fst h).symm ht
theorem zLd_out : ∀ {ls : zLs} {i : Nat} {k : Value → Prop}, zLd ls i k → ∃ v, ls[i]? = some (some v) ∧ k v
  | [], _, _, h => h.elim
  | none :: _, 0, _, h => h.elim
  | some v :: _, 0, _, h => ⟨v, rfl, h⟩
  | _ :: r, i + 1, k, h => zLd_out (ls := r) (i := i) (k := k) h
theorem zClr_out {o : Option Value} {k : Option Value → Prop} (h : zClr o k) : ∃ o', k o' ∧ ∀ w, o' = some w → o = some w ∧ w.category = 1 := by
  unfold zClr at h
  split at h
  all_goals exact ⟨_, h, fun w hw => by cases hw <;> exact ⟨rfl, rfl⟩⟩
theorem zS1_out : ∀ {ls : zLs} {i : Nat} {v : Value} {k : zLs → Prop}, zS1 ls i v k → ∃ ls', k ls' ∧ (ls'.length = ls.length ∧ i < ls.length) ∧ ∀ (j : Nat) (w : Value), ls'[j]? = some (some w) → (j = i ∧ w = v) ∨ (j ≠ i ∧ ls[j]? = some (some w) ∧ ¬ (j + 1 = i ∧ w.category = 2))
  | [], _, _, _, h => h.elim
  | o :: r, 0, v, k, h => by
    refine ⟨_, h, ⟨rfl, by simp⟩, fun j w hj => ?_⟩
    cases j with
    | zero => left; cases hj; exact ⟨rfl, rfl⟩
    | succ j => right; exact ⟨by omega, hj, by omega⟩
  | o :: r, 1, v, k, h => by
    have h : zClr o (fun o' => zS1 r 0 v (fun r' => k (o' :: r'))) := h
    obtain ⟨o', h, ho⟩ := zClr_out h
    obtain ⟨r', h, hlen, hr⟩ := zS1_out h
    refine ⟨_, h, ⟨by simp [hlen.1], by rw [List.length_cons]; omega⟩, fun j w hj => ?_⟩
    cases j with
    | zero =>
      have hj : some o' = some (some w) := hj
      cases hj
      have h2 := ho w rfl
      right
      exact ⟨by omega, by rw [h2.1]; rfl, fun q => by omega⟩
    | succ j =>
      rcases hr j w hj with q | q
      · left; exact ⟨by omega, q.2⟩
      · right; exact ⟨by omega, q.2.1, by omega⟩
  | o :: r, i + 2, v, k, h => by
    have h : zS1 r (i + 1) v (fun r' => k (o :: r')) := h
    obtain ⟨r', h, hlen, hr⟩ := zS1_out h
    refine ⟨_, h, ⟨by simp [hlen.1], by rw [List.length_cons]; omega⟩, fun j w hj => ?_⟩
    cases j with
    | zero => right; exact ⟨by omega, hj, by omega⟩
    | succ j =>
      rcases hr j w hj with q | q
      · left; exact ⟨by omega, q.2⟩
      · right; exact ⟨by omega, q.2.1, fun z => q.2.2 ⟨by omega, z.2⟩⟩
theorem zS2_out : ∀ {ls : zLs} {i : Nat} {v : Value} {k : zLs → Prop}, zS2 ls i v k → ∃ ls', k ls' ∧ (ls'.length = ls.length ∧ i + 1 < ls.length) ∧ ∀ (j : Nat) (w : Value), ls'[j]? = some (some w) → (j = i ∧ w = v) ∨ (j ≠ i ∧ j ≠ i + 1 ∧ ls[j]? = some (some w) ∧ ¬ (j + 1 = i ∧ w.category = 2))
  | [], _, _, _, h => h.elim
  | [_], 0, _, _, h => h.elim
  | o :: o2 :: r, 0, v, k, h => by
    refine ⟨_, h, ⟨rfl, by simp⟩, fun j w hj => ?_⟩
    match j, hj with
    | 0, hj => left; cases hj; exact ⟨rfl, rfl⟩
    | 1, hj => cases hj
    | j + 2, hj => right; exact ⟨by omega, by omega, hj, by omega⟩
  | o :: r, 1, v, k, h => by
    have h : zClr o (fun o' => zS2 r 0 v (fun r' => k (o' :: r'))) := h
    obtain ⟨o', h, ho⟩ := zClr_out h
    obtain ⟨r', h, hlen, hr⟩ := zS2_out h
    refine ⟨_, h, ⟨by simp [hlen.1], by rw [List.length_cons]; omega⟩, fun j w hj => ?_⟩
    cases j with
    | zero =>
      have hj : some o' = some (some w) := hj
      cases hj
      have h2 := ho w rfl
      right
      exact ⟨by omega, by omega, by rw [h2.1]; rfl, fun q => by omega⟩
    | succ j =>
      rcases hr j w hj with q | q
      · left; exact ⟨by omega, q.2⟩
      · right; exact ⟨by omega, by omega, q.2.2.1, by omega⟩
  | o :: r, i + 2, v, k, h => by
    have h : zS2 r (i + 1) v (fun r' => k (o :: r')) := h
    obtain ⟨r', h, hlen, hr⟩ := zS2_out h
    refine ⟨_, h, ⟨by simp [hlen.1], by rw [List.length_cons]; omega⟩, fun j w hj => ?_⟩
    cases j with
    | zero => right; exact ⟨by omega, by omega, hj, by omega⟩
    | succ j =>
      rcases hr j w hj with q | q
      · left; exact ⟨by omega, q.2⟩
      · right; exact ⟨by omega, by omega, q.2.2.1, fun z => q.2.2.2 ⟨by omega, z.2⟩⟩
theorem zPop_out : ∀ {n : Nat} {st acc : List Value} {k : List Value → List Value → Prop}, zPop n st acc k → ∃ as r, st = as.reverse ++ r ∧ as.length = n ∧ k (as ++ acc) r
  | 0, st, acc, k, h => ⟨[], st, rfl, rfl, h⟩
  | n + 1, [], acc, k, h => h.elim
  | n + 1, v :: st, acc, k, h => by
    have h : zPop n st (v :: acc) k := h
    obtain ⟨as, r, e1, e2, h⟩ := zPop_out h
    refine ⟨as ++ [v], r, ?_, by rw [List.length_append, e2]; rfl, ?_⟩
    · rw [e1, List.reverse_append]; rfl
    · rw [List.append_assoc]; exact h
theorem zWd8_eq : ∀ st : List Value, zWd8 st = (st.map fun v => v.category).sum
  | [] => rfl
  | v :: r => by
    rw [List.map_cons, List.sum_cons, ← zWd8_eq r]; rfl
end
section
/-- the fields of a class: 0 an int, 1 a long, 2 a reference, 3 a boolean -/
def zFT : Nat → List Nat := fun t => match t with
  | 0 => [2, 2]
  | 1 => [0]
  | 2 => [0, 2]
  | 3 => [0, 0, 3, 2, 2]
  | 4 => [0, 2]
  | 5 => [0, 0, 2, 2]
  | 6 => [1, 1]
  | 7 => [2, 2, 2, 2]
  | 8 => [0, 2]
  | 9 => [3, 2, 2]
  | 10 => [0, 0, 2, 2, 2]
  | 11 => [2, 2, 2, 2, 2, 2, 2, 2, 2, 2, 2, 2, 2]
  | 12 => [2, 2, 0, 2, 0, 0, 1, 1, 0, 0, 0, 2, 2, 0, 2, 2, 2, 2, 1, 1, 1, 1, 3, 1, 1, 1, 1, 2, 2, 0, 3, 1, 1, 2, 0, 2, 2]
  | _ => []
-- ===== the world =====
abbrev zG : Type := Launch × va_G × (Nat → ClassId) × Nat × (Nat → Nat) × (Nat × (Nat → Int32)) × (State → Heap → Prop)
abbrev zgL (G : zG) : Launch := G.1
abbrev zgD (G : zG) : va_G := G.2.1
abbrev zgY (G : zG) : Nat → ClassId := G.2.2.1
abbrev zgB (G : zG) : Nat := G.2.2.2.1
abbrev zgS (G : zG) : Nat → Nat := G.2.2.2.2.1
abbrev zgN (G : zG) : Nat := G.2.2.2.2.2.1.1
abbrev zgX (G : zG) : Nat → Int32 := G.2.2.2.2.2.1.2
abbrev zgP (G : zG) : State → Heap → Prop := G.2.2.2.2.2.2
def zAd (G : zG) (p : Nat) : Nat := if p < 1000000 then zgB G + p else zgS G (p - 1000000)
def zV (G : zG) (v : Value) : Value := match v with
  | .ref p => .ref (zAd G p)
  | v => v
def zA (G : zG) : Nat → Prop := fun q => zgB G ≤ q
def zVal (G : zG) (σ : zSt) (p ty k : Nat) : Value := match ty with
  | 1 => .long (σ.2.2.1 p k)
  | 2 => va_rf ((σ.2.2.2 p k).map (zAd G))
  | _ => .int (σ.2.1 p k)
def zFs (G : zG) (σ : zSt) (p tag : Nat) : List Value := (List.range (zFT tag).length).map (fun k => zVal G σ p ((zFT tag).getD k 0) k)
def zArr (G : zG) (σ : zSt) (p tag n : Nat) : vp_A := if tag = 15 then (n, .inr (.inl (σ.2.2.1 p))) else if 17 ≤ tag then (n, .inr (.inr (.inr (.inr (fun k => (σ.2.2.2 p k).map (zAd G)))))) else (n, .inl (σ.2.1 p))
def zCell (G : zG) (σ : zSt) (p : Nat) (kd : Nat × Nat) : va_E := if kd.1 < 13 then .inr (kd.1, zFs G σ p kd.1) else .inl (zgY G kd.1, zArr G σ p kd.1 kd.2)
noncomputable def zW (G : zG) (σ : zSt) : va_W := (List.range σ.1.length).map (fun p => (zAd G p, zCell G σ p (zKd σ.1 p)))
theorem zW_get {G : zG} {σ : zSt} {p : Nat} (h : p < σ.1.length) : (zW G σ)[p]? = some (zAd G p, zCell G σ p (zKd σ.1 p)) := by
  simp [zW, h]
theorem zCell_congr {G : zG} {σ σ' : zSt} {p : Nat} {kd : Nat × Nat} (h1 : σ'.2.1 p = σ.2.1 p) (h2 : σ'.2.2.1 p = σ.2.2.1 p) (h3 : σ'.2.2.2 p = σ.2.2.2 p) : zCell G σ' p kd = zCell G σ p kd := by
  have e : ∀ ty k, zVal G σ' p ty k = zVal G σ p ty k := by
    intro ty k
    unfold zVal
    rw [h1, h2, h3]
  unfold zCell zFs zArr
  simp only [e, h1, h2, h3]
theorem zW_set {G : zG} {σ σ' : zSt} {p : Nat} {e : va_E} (hK : σ'.1 = σ.1) (ho : ∀ q, q ≠ p → σ'.2.1 q = σ.2.1 q ∧ σ'.2.2.1 q = σ.2.2.1 q ∧ σ'.2.2.2 q = σ.2.2.2 q) (he : e = zCell G σ' p (zKd σ.1 p)) : (zW G σ).set p (zAd G p, e) = zW G σ' := by
  apply List.ext_getElem?
  intro i
  rw [List.getElem?_set]
  by_cases hi : p = i
  · subst hi
    rw [if_pos rfl]
    by_cases hl : p < σ.1.length
    · rw [if_pos (by simp [zW, hl]), zW_get (by rw [hK]; exact hl), hK, he]
    · rw [if_neg (by simp [zW, hl])]
      simp [zW, hK, hl]
  · rw [if_neg hi]
    by_cases hl : i < σ.1.length
    · obtain ⟨h1, h2, h3⟩ := ho i (fun q => hi q.symm)
      rw [zW_get hl, zW_get (by rw [hK]; exact hl), hK, zCell_congr h1 h2 h3]
    · simp [zW, hK, hl]
def zWd (G : zG) (σ : zSt) (H : Heap) : Prop := σ.1.length ≤ 1000000 ∧ va_P (zgD G) vwCl (zW G σ) H
theorem zAd_lt {G : zG} {p : Nat} (h : p < 1000000) : zAd G p = zgB G + p := if_pos h
theorem zW_D {G : zG} {σ : zSt} (h : σ.1.length ≤ 1000000) : va_D (zA G) (zW G σ) := by
  have e : ∀ (i : Nat) (q : Nat × va_E), (zW G σ)[i]? = some q → q.1 = zgB G + i := by
    intro i q hq
    have hl : i < σ.1.length := by
      have := (List.getElem?_eq_some_iff.mp hq).1
      simpa [zW] using this
    rw [zW_get hl] at hq
    cases hq
    exact zAd_lt (by omega)
  refine ⟨fun i j p q hp hq hpq => ?_, fun k q hq => ?_⟩
  · have h1 := e i p hp
    have h2 := e j q hq
    omega
  · have h1 := e k q hq
    show zgB G ≤ q.1
    omega
def zTy (G : zG) : List (ClassId × FieldType) := [(zgY G 13, .byte), (zgY G 14, .int), (zgY G 15, .long), (zgY G 16, .boolean), (zgY G 17, .object RX3), (zgY G 18, .object RX5), (zgY G 19, .object RX9), (zgY G 20, .array .long)]
def zBx (j : Nat) : Int32 := [(-1 : Int32), 0, 0, 1, 0, 6, 0, -1, 0, 0, 1, 6].getD j 0
def zSL (G : zG) (t : Nat) : Nat := match t with
  | 2 => zgN G
  | _ => 12
def zSV (G : zG) (t : Nat) : Nat → Int32 := match t with
  | 2 => zgX G
  | _ => zBx
def zPm (G : zG) (U : State) (H : Heap) : Prop := (∀ w ∈ zNs, va_Nw w U) ∧ (∀ t, t < 3 → va_T .int (zgS G t) (zSL G t) (fun j => .int (zSV G t j)) (zA G) U H) ∧ va_Z RX11 "BOX" "[I" (.ref (zgS G 0)) (zA G) U H ∧ va_Z RX12 "ALWAYS" "[I" (.ref (zgS G 1)) (zA G) U H ∧ zgP G U H
def zGok (G : zG) : Prop := (∀ (s U : State) (H : Heap), s.WarmedH U.vm → zgP G s H → zgP G U H) ∧ (∀ (U : State) (H H1 : Heap), (∀ a : Nat, a < H.size → ¬ zA G a → H1[a]? = H[a]?) → zgP G U H → zgP G U H1)
theorem zNw_warm {w : Cond} (hw : w ∈ zNs) {s U : State} (hW : s.WarmedH U.vm) (h : va_Nw w s) : va_Nw w U := by
  have hg := (List.mem_filter.mp hw).2
  cases w <;> first | exact va_Nw.warmF hW h | exact va_Nw.warmM hW h | exact absurd hg (by simp [zIsN])
theorem zPm_warm {G : zG} (hG : zGok G) {s U : State} {H : Heap} (hW : s.WarmedH U.vm) (h : zPm G s H) : zPm G U H :=
  ⟨fun w hw => zNw_warm hw hW (h.1 w hw), fun t ht => va_T.moved hW.alike (h.2.1 t ht), va_Z.moved hW.alike h.2.2.1, va_Z.moved hW.alike h.2.2.2.1, hG.1 s U H hW h.2.2.2.2⟩
theorem zPm_kept {G : zG} (hG : zGok G) {U : State} {H H1 : Heap} (hq : ∀ a : Nat, a < H.size → ¬ zA G a → H1[a]? = H[a]?) (h : zPm G U H) : zPm G U H1 :=
  ⟨h.1, fun t ht => va_T.kept (h.2.1 t ht) hq, va_Z.kept h.2.2.1 hq, va_Z.kept h.2.2.2.1 hq, hG.2 U H H1 hq h.2.2.2.2⟩
-- ===== a point of a method =====
def zEnv (G : zG) (own : String) (cc : ByteArray) (nL : Nat) (ret : Option FieldType) (p : Program) (s : State) (m : MethodId) (args : Array Value) (meth : Method) (c : Code) : Prop :=
  p.tables.exec = Jvm.exec ∧ c.code = cc ∧ c.maxLocals = nL ∧ meth.sig.returnType = ret ∧ meth.locks = false ∧ s.vm.findClass own = some m.cls ∧ (∀ w ∈ zWs, w.before args s = true) ∧ va_K (zgD G) vwCl (zTy G) s ∧ zPm G s s.heap
def zLo (G : zG) (nL : Nat) (lsR : Array Slot) (ls : zLs) : Prop := lsR.size = nL ∧ lv_wf lsR ∧ ls.length ≤ nL ∧ ∀ (i : Nat) (v : Value), ls[i]? = some (some v) → lsR[i]? = some (.val (zV G v))
def zAt (G : zG) (R : Room) (own : String) (cc : ByteArray) (nL : Nat) (ret : Option FieldType) (F : List Frame → Array Value → State → State → Prop) (cs sl : Nat) (pc : Nat) : zKn := fun ls st σ =>
  ∀ (p : Program) (e : Env) (s : State) (m : MethodId) (args : Array Value) (below : List Frame) (meth : Method) (c : Code), zEnv G own cc nL ret p s m args meth c → ∀ (H : Heap) (locs : List Loc) (lsR : Array Slot), zWd G σ H → va_S (zA G) s.heap H locs → zLo G nL lsR ls →
    W p (zgL G) e R s m args below meth c H locs cs sl (F below args s) (F0 m pc lsR (st.map (zV G)))
/-- the world behind a call -/
def zQc (G : zG) (Q : zRt) : Array Value → State → Outcome → State → Prop := fun _ st oc t => (∃ (r : Option Value) (σ : zSt), oc = .returned (r.map (zV G)) ∧ Q r σ ∧ zWd G σ t.heap) ∧ va_F (zA G) st t
def zF (G : zG) (Q : zRt) (cs sl : Nat) : List Frame → Array Value → State → State → Prop := fun below args s => MQ below (zQc G Q) args s cs sl (zA G)
def zOK (G : zG) (R : Room) (own : String) (cc : ByteArray) (nL : Nat) (ret : Option FieldType) (F : List Frame → Array Value → State → State → Prop) (cs sl : Nat) (C : zCl) (Rt : zRt) (pc nxt : Nat) (op : zOp) : Prop :=
  ∀ (nx : zKn) (jp : Nat → zKn), (∀ ls st σ, nx ls st σ → zAt G R own cc nL ret F cs sl nxt ls st σ) → (∀ t ls st σ, jp t ls st σ → zAt G R own cc nL ret F cs sl t ls st σ) → ∀ ls st σ, op C Rt nx jp ls st σ → zAt G R own cc nL ret F cs sl pc ls st σ
def zPOK (G : zG) (R : Room) (own : String) (cc : ByteArray) (nL : Nat) (ret : Option FieldType) (F : List Frame → Array Value → State → State → Prop) (cs sl : Nat) (C : zCl) (Rt : zRt) : zPg → Prop
  | [] => True
  | e :: r => zOK G R own cc nL ret F cs sl C Rt e.1 (zPc r) e.2 ∧ zPOK G R own cc nL ret F cs sl C Rt r
section ZM
variable {G : zG} {R : Room} {own : String} {cc : ByteArray} {nL : Nat} {ret : Option FieldType} {F : List Frame → Array Value → State → State → Prop} {cs sl : Nat} {C : zCl} {Rt : zRt}
theorem zPOK_drop : ∀ {pg : zPg} (t : Nat), zPOK G R own cc nL ret F cs sl C Rt pg → zPOK G R own cc nL ret F cs sl C Rt (zDrop t pg) ∧ (zDrop t pg = [] ∨ zPc (zDrop t pg) = t)
  | [], _, _ => ⟨trivial, Or.inl rfl⟩
  | e :: r, t, h => by
    have e0 : zDrop t (e :: r) = Bool.rec (zDrop t r) (e :: r) (Nat.beq e.1 t) := rfl
    cases hb : Nat.beq e.1 t with
    | true =>
      rw [e0, hb]
      exact ⟨h, Or.inr (Nat.eq_of_beq_eq_true hb)⟩
    | false =>
      rw [e0, hb]
      exact zPOK_drop t h.2
/-- some steps at once -/
theorem zM_sound {pg : zPg} (hp : zPOK G R own cc nL ret F cs sl C Rt pg) (stops : List Nat) : ∀ (n : Nat) (r : zPg), zPOK G R own cc nL ret F cs sl C Rt r → ∀ ls st σ, zM C Rt (zAt G R own cc nL ret F cs sl) stops pg n r ls st σ → zAt G R own cc nL ret F cs sl (zPc r) ls st σ
  | 0, [], _, _, _, _, h => h.elim
  | 0, _ :: _, _, _, _, _, h => h
  | _ + 1, [], _, _, _, _, h => h.elim
  | n + 1, e :: r, hr, ls, st, σ, h => by
    have ih := zM_sound hp stops n
    refine hr.1 _ _ (fun ls st σ k => ?_) (fun t ls st σ k => ?_) ls st σ h
    · cases hb : zElem (zPc r) stops with
      | true => rw [hb] at k; exact k
      | false => rw [hb] at k; exact ih r hr.2 ls st σ k
    · cases hb : zElem t stops with
      | true => rw [hb] at k; exact k
      | false =>
        rw [hb] at k
        obtain ⟨h1, h2⟩ := zPOK_drop t hp
        rcases h2 with h2 | h2
        · rw [h2] at k
          cases n with
          | zero => exact k.elim
          | succ n => exact k.elim
        · have k2 := ih _ h1 ls st σ k
          rw [h2] at k2
          exact k2
end ZM
end
section
-- ===== instructions: what they do =====
def o_ic (v : Int32) : zOp := fun _ _ nx _ ls st σ => nx ls (.int v :: st) σ
def o_lc (v : Int64) : zOp := fun _ _ nx _ ls st σ => nx ls (.long v :: st) σ
noncomputable def o_il (i : Nat) : zOp := fun _ _ nx _ ls st σ => zLd ls i (fun v => match v with | .int x => nx ls (.int x :: st) σ | _ => False)
noncomputable def o_ll (i : Nat) : zOp := fun _ _ nx _ ls st σ => zLd ls i (fun v => match v with | .long x => nx ls (.long x :: st) σ | _ => False)
noncomputable def o_al (i : Nat) : zOp := fun _ _ nx _ ls st σ => zLd ls i (fun v => match v with | .ref x => nx ls (.ref x :: st) σ | _ => False)
noncomputable def o_is (i : Nat) : zOp := fun _ _ nx _ ls st σ => match st with | .int x :: r => zS1 ls i (.int x) (fun ls' => nx ls' r σ) | _ => False
noncomputable def o_ls (i : Nat) : zOp := fun _ _ nx _ ls st σ => match st with | .long x :: r => zS2 ls i (.long x) (fun ls' => nx ls' r σ) | _ => False
noncomputable def o_as (i : Nat) : zOp := fun _ _ nx _ ls st σ => match st with | .ref x :: r => zS1 ls i (.ref x) (fun ls' => nx ls' r σ) | _ => False
noncomputable def o_inc (i : Nat) (n : Int32) : zOp := fun _ _ nx _ ls st σ => zLd ls i (fun v => match v with | .int x => zS1 ls i (.int (x + n)) (fun ls' => nx ls' st σ) | _ => False)
def o_iadd : zOp := fun _ _ nx _ ls st σ => match st with | .int y :: .int x :: r => nx ls (.int (x + y) :: r) σ | _ => False
def o_isub : zOp := fun _ _ nx _ ls st σ => match st with | .int y :: .int x :: r => nx ls (.int (x - y) :: r) σ | _ => False
def o_imul : zOp := fun _ _ nx _ ls st σ => match st with | .int y :: .int x :: r => nx ls (.int (x * y) :: r) σ | _ => False
def o_iand : zOp := fun _ _ nx _ ls st σ => match st with | .int y :: .int x :: r => nx ls (.int (x &&& y) :: r) σ | _ => False
def o_ior : zOp := fun _ _ nx _ ls st σ => match st with | .int y :: .int x :: r => nx ls (.int (x ||| y) :: r) σ | _ => False
def o_ixor : zOp := fun _ _ nx _ ls st σ => match st with | .int y :: .int x :: r => nx ls (.int (x ^^^ y) :: r) σ | _ => False
def o_ishl : zOp := fun _ _ nx _ ls st σ => match st with | .int y :: .int x :: r => nx ls (.int (x <<< (y &&& 31)) :: r) σ | _ => False
def o_ishr : zOp := fun _ _ nx _ ls st σ => match st with | .int y :: .int x :: r => nx ls (.int (x >>> (y &&& 31)) :: r) σ | _ => False
def o_iushr : zOp := fun _ _ nx _ ls st σ => match st with | .int y :: .int x :: r => nx ls (.int ((x.toUInt32 >>> (y.toUInt32 &&& Int32.toUInt32 31)).toInt32) :: r) σ | _ => False
def o_ladd : zOp := fun _ _ nx _ ls st σ => match st with | .long y :: .long x :: r => nx ls (.long (x + y) :: r) σ | _ => False
def o_lsub : zOp := fun _ _ nx _ ls st σ => match st with | .long y :: .long x :: r => nx ls (.long (x - y) :: r) σ | _ => False
def o_lmul : zOp := fun _ _ nx _ ls st σ => match st with | .long y :: .long x :: r => nx ls (.long (x * y) :: r) σ | _ => False
def o_lxor : zOp := fun _ _ nx _ ls st σ => match st with | .long y :: .long x :: r => nx ls (.long (x ^^^ y) :: r) σ | _ => False
def o_idiv : zOp := fun _ _ nx _ ls st σ => match st with | .int y :: .int x :: r => ¬ y = 0 ∧ nx ls (.int (x / y) :: r) σ | _ => False
def o_irem : zOp := fun _ _ nx _ ls st σ => match st with | .int y :: .int x :: r => ¬ y = 0 ∧ nx ls (.int (x - x / y * y) :: r) σ | _ => False
def o_ldiv : zOp := fun _ _ nx _ ls st σ => match st with | .long y :: .long x :: r => ¬ y = 0 ∧ nx ls (.long (x / y) :: r) σ | _ => False
def o_lrem : zOp := fun _ _ nx _ ls st σ => match st with | .long y :: .long x :: r => ¬ y = 0 ∧ nx ls (.long (x - x / y * y) :: r) σ | _ => False
def o_ineg : zOp := fun _ _ nx _ ls st σ => match st with | .int x :: r => nx ls (.int (-x) :: r) σ | _ => False
def o_lneg : zOp := fun _ _ nx _ ls st σ => match st with | .long x :: r => nx ls (.long (-x) :: r) σ | _ => False
def o_i2l : zOp := fun _ _ nx _ ls st σ => match st with | .int x :: r => nx ls (.long (x.toInt64) :: r) σ | _ => False
def o_l2i : zOp := fun _ _ nx _ ls st σ => match st with | .long x :: r => nx ls (.int (x.toInt32) :: r) σ | _ => False
def o_i2b : zOp := fun _ _ nx _ ls st σ => match st with | .int x :: r => nx ls (.int (x.toInt8.toInt32) :: r) σ | _ => False
def o_i2s : zOp := fun _ _ nx _ ls st σ => match st with | .int x :: r => nx ls (.int (x.toInt16.toInt32) :: r) σ | _ => False
def o_i2c : zOp := fun _ _ nx _ ls st σ => match st with | .int x :: r => nx ls (.int ((x.toUInt32 % 65536).toInt32) :: r) σ | _ => False
def o_dup : zOp := fun _ _ nx _ ls st σ => match st with | .int x :: r => nx ls (.int x :: .int x :: r) σ | .ref x :: r => nx ls (.ref x :: .ref x :: r) σ | _ => False
def o_pop : zOp := fun _ _ nx _ ls st σ => match st with | .int _ :: r => nx ls r σ | .ref _ :: r => nx ls r σ | _ => False
def o_dup2 : zOp := fun _ _ nx _ ls st σ => match st with | .int x :: .ref y :: r => nx ls (.int x :: .ref y :: .int x :: .ref y :: r) σ | _ => False
def o_dup_x1 : zOp := fun _ _ nx _ ls st σ => match st with | .int x :: .ref y :: r => nx ls (.int x :: .ref y :: .int x :: r) σ | _ => False
def o_if_eq (t : Nat) : zOp := fun _ _ nx jp ls st σ => match st with | .int x :: r => (x = 0 → jp t ls r σ) ∧ (¬ x = 0 → nx ls r σ) | _ => False
def o_ic_eq (t : Nat) : zOp := fun _ _ nx jp ls st σ => match st with | .int y :: .int x :: r => (x = y → jp t ls r σ) ∧ (¬ x = y → nx ls r σ) | _ => False
def o_lc_eq (t : Nat) : zOp := fun _ _ nx jp ls st σ => match st with | .long y :: .long x :: r => (x = y → jp t ls r σ) ∧ (¬ x = y → nx ls r σ) | _ => False
def o_if_ne (t : Nat) : zOp := fun _ _ nx jp ls st σ => match st with | .int x :: r => (¬ x = 0 → jp t ls r σ) ∧ (x = 0 → nx ls r σ) | _ => False
def o_ic_ne (t : Nat) : zOp := fun _ _ nx jp ls st σ => match st with | .int y :: .int x :: r => (¬ x = y → jp t ls r σ) ∧ (x = y → nx ls r σ) | _ => False
def o_lc_ne (t : Nat) : zOp := fun _ _ nx jp ls st σ => match st with | .long y :: .long x :: r => (¬ x = y → jp t ls r σ) ∧ (x = y → nx ls r σ) | _ => False
def o_if_lt (t : Nat) : zOp := fun _ _ nx jp ls st σ => match st with | .int x :: r => (x < 0 → jp t ls r σ) ∧ (¬ x < 0 → nx ls r σ) | _ => False
def o_ic_lt (t : Nat) : zOp := fun _ _ nx jp ls st σ => match st with | .int y :: .int x :: r => (x < y → jp t ls r σ) ∧ (¬ x < y → nx ls r σ) | _ => False
def o_lc_lt (t : Nat) : zOp := fun _ _ nx jp ls st σ => match st with | .long y :: .long x :: r => (x < y → jp t ls r σ) ∧ (¬ x < y → nx ls r σ) | _ => False
def o_if_ge (t : Nat) : zOp := fun _ _ nx jp ls st σ => match st with | .int x :: r => (0 ≤ x → jp t ls r σ) ∧ (¬ 0 ≤ x → nx ls r σ) | _ => False
def o_ic_ge (t : Nat) : zOp := fun _ _ nx jp ls st σ => match st with | .int y :: .int x :: r => (y ≤ x → jp t ls r σ) ∧ (¬ y ≤ x → nx ls r σ) | _ => False
def o_lc_ge (t : Nat) : zOp := fun _ _ nx jp ls st σ => match st with | .long y :: .long x :: r => (y ≤ x → jp t ls r σ) ∧ (¬ y ≤ x → nx ls r σ) | _ => False
def o_if_gt (t : Nat) : zOp := fun _ _ nx jp ls st σ => match st with | .int x :: r => (0 < x → jp t ls r σ) ∧ (¬ 0 < x → nx ls r σ) | _ => False
def o_ic_gt (t : Nat) : zOp := fun _ _ nx jp ls st σ => match st with | .int y :: .int x :: r => (y < x → jp t ls r σ) ∧ (¬ y < x → nx ls r σ) | _ => False
def o_lc_gt (t : Nat) : zOp := fun _ _ nx jp ls st σ => match st with | .long y :: .long x :: r => (y < x → jp t ls r σ) ∧ (¬ y < x → nx ls r σ) | _ => False
def o_if_le (t : Nat) : zOp := fun _ _ nx jp ls st σ => match st with | .int x :: r => (x ≤ 0 → jp t ls r σ) ∧ (¬ x ≤ 0 → nx ls r σ) | _ => False
def o_ic_le (t : Nat) : zOp := fun _ _ nx jp ls st σ => match st with | .int y :: .int x :: r => (x ≤ y → jp t ls r σ) ∧ (¬ x ≤ y → nx ls r σ) | _ => False
def o_lc_le (t : Nat) : zOp := fun _ _ nx jp ls st σ => match st with | .long y :: .long x :: r => (x ≤ y → jp t ls r σ) ∧ (¬ x ≤ y → nx ls r σ) | _ => False
def o_go (t : Nat) : zOp := fun _ _ _ jp ls st σ => jp t ls st σ
def zSw (jp : Nat → Prop) (d : Nat) (x : Int32) : List (Int32 × Nat) → Prop
  | [] => jp d
  | q :: r => (x = q.1 → jp q.2) ∧ (¬ x = q.1 → zSw jp d x r)
def o_sw (cs : List (Int32 × Nat)) (d : Nat) : zOp := fun _ _ _ jp ls st σ => match st with | .int x :: r => zSw (fun t => jp t ls r σ) d x cs | _ => False
section ZO
variable {G : zG} {R : Room} {own : String} {cc : ByteArray} {nL : Nat} {ret : Option FieldType} {F : List Frame → Array Value → State → State → Prop} {cs sl : Nat} {C : zCl} {Rt : zRt} {pc : Nat}
theorem k_iconst {n : Int} {v : Int32} (hd : decode cc pc = .ok (.iconst n, 1)) (hv : Int32.ofInt n = v) : zOK G R own cc nL ret F cs sl C Rt pc (pc + 1) (o_ic v) := by
  intro nx jp hn hj ls st σ h
  intro p e s m args below meth c hE H locs lsR hw hS hl
  exact lv_iconst hE.1 hE.2.1 hd hv (hn _ _ _ h p e s m args below meth c hE H locs lsR hw hS hl)

theorem k_bipush {n : Int} {v : Int32} (hd : decode cc pc = .ok (.bipush n, 2)) (hv : (Int8.ofInt n).toInt32 = v) : zOK G R own cc nL ret F cs sl C Rt pc (pc + 2) (o_ic v) := by
  intro nx jp hn hj ls st σ h
  intro p e s m args below meth c hE H locs lsR hw hS hl
  exact lv_bipush hE.1 hE.2.1 hd hv (hn _ _ _ h p e s m args below meth c hE H locs lsR hw hS hl)

theorem k_sipush {n : Int} {v : Int32} (hd : decode cc pc = .ok (.sipush n, 3)) (hv : (Int16.ofInt n).toInt32 = v) : zOK G R own cc nL ret F cs sl C Rt pc (pc + 3) (o_ic v) := by
  intro nx jp hn hj ls st σ h
  intro p e s m args below meth c hE H locs lsR hw hS hl
  exact lv_sipush hE.1 hE.2.1 hd hv (hn _ _ _ h p e s m args below meth c hE H locs lsR hw hS hl)

theorem k_lconst {n : Fin 2} {v : Int64} (hd : decode cc pc = .ok (.lconst n, 1)) (hv : Int64.ofNat (n : Nat) = v) : zOK G R own cc nL ret F cs sl C Rt pc (pc + 1) (o_lc v) := by
  intro nx jp hn hj ls st σ h
  intro p e s m args below meth c hE H locs lsR hw hS hl
  exact lv_lconst hE.1 hE.2.1 hd hv (hn _ _ _ h p e s m args below meth c hE H locs lsR hw hS hl)

theorem k_ldc {i : Nat} {v : Int32} (hc : Cond.constant own i v ∈ zWs) (hd : decode cc pc = .ok (.ldc i, 2)) : zOK G R own cc nL ret F cs sl C Rt pc (pc + 2) (o_ic v) := by
  intro nx jp hn hj ls st σ h
  intro p e s m args below meth c hE H locs lsR hw hS hl
  exact lv_ldc hE.1 hE.2.1 hE.2.2.2.2.2.1 (hE.2.2.2.2.2.2.1 _ hc) hd (hn _ _ _ h p e s m args below meth c hE H locs lsR hw hS hl)

theorem k_ldcw {i : Nat} {v : Int32} (hc : Cond.constant own i v ∈ zWs) (hd : decode cc pc = .ok (.ldc_w i, 3)) : zOK G R own cc nL ret F cs sl C Rt pc (pc + 3) (o_ic v) := by
  intro nx jp hn hj ls st σ h
  intro p e s m args below meth c hE H locs lsR hw hS hl
  exact lv_ldcw hE.1 hE.2.1 hE.2.2.2.2.2.1 (hE.2.2.2.2.2.2.1 _ hc) hd (hn _ _ _ h p e s m args below meth c hE H locs lsR hw hS hl)

theorem k_ldc2 {i : Nat} {v : Int64} (hc : Cond.constantLong own i v ∈ zWs) (hd : decode cc pc = .ok (.ldc2_w i, 3)) : zOK G R own cc nL ret F cs sl C Rt pc (pc + 3) (o_lc v) := by
  intro nx jp hn hj ls st σ h
  intro p e s m args below meth c hE H locs lsR hw hS hl
  exact lv_ldc2 hE.1 hE.2.1 hE.2.2.2.2.2.1 (hE.2.2.2.2.2.2.1 _ hc) hd (hn _ _ _ h p e s m args below meth c hE H locs lsR hw hS hl)

theorem k_iload_n {k : Fin 4} {i : Nat} (hd : decode cc pc = .ok (.iload_n k, 1)) (hi : (k : Nat) = i) : zOK G R own cc nL ret F cs sl C Rt pc (pc + 1) (o_il i) := by
  intro nx jp hn hj ls st σ h
  obtain ⟨v, hv, h⟩ := zLd_out h
  split at h
  · intro p e s m args below meth c hE H locs lsR hw hS hl
    exact lv_iload_n hE.1 hE.2.1 hd hi (hl.2.2.2 _ _ hv) (hn _ _ _ h p e s m args below meth c hE H locs lsR hw hS hl)
  · exact h.elim

theorem k_iload {i : Nat} (hd : decode cc pc = .ok (.iload i, 2)) : zOK G R own cc nL ret F cs sl C Rt pc (pc + 2) (o_il i) := by
  intro nx jp hn hj ls st σ h
  obtain ⟨v, hv, h⟩ := zLd_out h
  split at h
  · intro p e s m args below meth c hE H locs lsR hw hS hl
    exact lv_iload hE.1 hE.2.1 hd (hl.2.2.2 _ _ hv) (hn _ _ _ h p e s m args below meth c hE H locs lsR hw hS hl)
  · exact h.elim

theorem k_lload_n {k : Fin 4} {i : Nat} (hd : decode cc pc = .ok (.lload_n k, 1)) (hi : (k : Nat) = i) : zOK G R own cc nL ret F cs sl C Rt pc (pc + 1) (o_ll i) := by
  intro nx jp hn hj ls st σ h
  obtain ⟨v, hv, h⟩ := zLd_out h
  split at h
  · intro p e s m args below meth c hE H locs lsR hw hS hl
    exact lv_lload_n hE.1 hE.2.1 hd hi (hl.2.2.2 _ _ hv) (hn _ _ _ h p e s m args below meth c hE H locs lsR hw hS hl)
  · exact h.elim

theorem k_lload {i : Nat} (hd : decode cc pc = .ok (.lload i, 2)) : zOK G R own cc nL ret F cs sl C Rt pc (pc + 2) (o_ll i) := by
  intro nx jp hn hj ls st σ h
  obtain ⟨v, hv, h⟩ := zLd_out h
  split at h
  · intro p e s m args below meth c hE H locs lsR hw hS hl
    exact lv_lload hE.1 hE.2.1 hd (hl.2.2.2 _ _ hv) (hn _ _ _ h p e s m args below meth c hE H locs lsR hw hS hl)
  · exact h.elim

theorem k_aload_n {k : Fin 4} {i : Nat} (hd : decode cc pc = .ok (.aload_n k, 1)) (hi : (k : Nat) = i) : zOK G R own cc nL ret F cs sl C Rt pc (pc + 1) (o_al i) := by
  intro nx jp hn hj ls st σ h
  obtain ⟨v, hv, h⟩ := zLd_out h
  split at h
  · intro p e s m args below meth c hE H locs lsR hw hS hl
    exact lv_aload_n hE.1 hE.2.1 hd hi (hl.2.2.2 _ _ hv) (hn _ _ _ h p e s m args below meth c hE H locs lsR hw hS hl)
  · exact h.elim

theorem k_aload {i : Nat} (hd : decode cc pc = .ok (.aload i, 2)) : zOK G R own cc nL ret F cs sl C Rt pc (pc + 2) (o_al i) := by
  intro nx jp hn hj ls st σ h
  obtain ⟨v, hv, h⟩ := zLd_out h
  split at h
  · intro p e s m args below meth c hE H locs lsR hw hS hl
    exact lv_aload hE.1 hE.2.1 hd (hl.2.2.2 _ _ hv) (hn _ _ _ h p e s m args below meth c hE H locs lsR hw hS hl)
  · exact h.elim

end ZO
/-- the pairs of the locals -/
def zPr (G : zG) : Nat → zLs → List (Nat × Value)
  | _, [] => []
  | i, none :: r => zPr G (i + 1) r
  | i, some v :: r => (i, zV G v) :: zPr G (i + 1) r
theorem zPr_in {G : zG} : ∀ {ls : zLs} {i : Nat} {q : Nat × Value}, q ∈ zPr G i ls → ∃ (j : Nat) (v : Value), q = (i + j, zV G v) ∧ ls[j]? = some (some v)
  | [], _, _, h => absurd h List.not_mem_nil
  | none :: r, i, q, h => by
    obtain ⟨j, v, e, hj⟩ := zPr_in (ls := r) h
    exact ⟨j + 1, v, by rw [e]; congr 1; omega, hj⟩
  | some w :: r, i, q, h => by
    rcases List.mem_cons.mp h with h | h
    · exact ⟨0, w, h, rfl⟩
    · obtain ⟨j, v, e, hj⟩ := zPr_in (ls := r) h
      exact ⟨j + 1, v, by rw [e]; congr 1; omega, hj⟩
theorem zPr_mem {G : zG} : ∀ {ls : zLs} {i j : Nat} {v : Value}, ls[j]? = some (some v) → (i + j, zV G v) ∈ zPr G i ls
  | [], _, _, _, h => by simp at h
  | none :: r, i, 0, _, h => by cases h
  | none :: r, i, j + 1, v, h => by
    have := zPr_mem (G := G) (ls := r) (i := i + 1) (j := j) (v := v) h
    rw [show i + (j + 1) = i + 1 + j by omega]; exact this
  | some w :: r, i, 0, v, h => by cases h; exact List.mem_cons_self
  | some w :: r, i, j + 1, v, h => by
    have := zPr_mem (G := G) (ls := r) (i := i + 1) (j := j) (v := v) h
    rw [show i + (j + 1) = i + 1 + j by omega]; exact List.mem_cons_of_mem _ this
theorem zV_cat (G : zG) (v : Value) : (zV G v).category = v.category := by cases v <;> rfl
theorem zLo_has {G : zG} {nL : Nat} {lsR : Array Slot} {ls : zLs} (h : zLo G nL lsR ls) : lv_has lsR nL (zPr G 0 ls) :=
  ⟨h.1, h.2.1, fun q hq => by obtain ⟨j, v, e, hj⟩ := zPr_in hq; rw [e, Nat.zero_add]; exact h.2.2.2 j v hj⟩
theorem zLo_1 {G : zG} {nL : Nat} {lsR lsR' : Array Slot} {ls ls' : zLs} {i : Nat} {v : Value} (hn : ls'.length ≤ nL) (ho : ∀ (j : Nat) (w : Value), ls'[j]? = some (some w) → (j = i ∧ w = v) ∨ (j ≠ i ∧ ls[j]? = some (some w) ∧ ¬ (j + 1 = i ∧ w.category = 2)))
    (h : lv_has lsR' nL ((i, zV G v) :: (zPr G 0 ls).filter (fun q => !(q.1 == i) && !(q.1 + 1 == i && q.2.category == 2)))) : zLo G nL lsR' ls' := by
  refine ⟨h.1, h.2.1, hn, fun j w hj => ?_⟩
  rcases ho j w hj with ⟨e1, e2⟩ | ⟨e1, e2, e3⟩
  · subst e1; subst e2; exact h.2.2 _ List.mem_cons_self
  · refine h.2.2 (j, zV G w) (List.mem_cons_of_mem _ (List.mem_filter.mpr ⟨?_, ?_⟩))
    · have := zPr_mem (G := G) (i := 0) e2; rw [Nat.zero_add] at this; exact this
    · simp only [zV_cat]
      by_cases h1 : j + 1 = i
      · have h2 : ¬ w.category = 2 := fun q => e3 ⟨h1, q⟩
        simp [e1, h1, h2]
      · simp [e1, h1]
theorem zLo_2 {G : zG} {nL : Nat} {lsR lsR' : Array Slot} {ls ls' : zLs} {i : Nat} {v : Value} (hn : ls'.length ≤ nL) (ho : ∀ (j : Nat) (w : Value), ls'[j]? = some (some w) → (j = i ∧ w = v) ∨ (j ≠ i ∧ j ≠ i + 1 ∧ ls[j]? = some (some w) ∧ ¬ (j + 1 = i ∧ w.category = 2)))
    (h : lv_has lsR' nL ((i, zV G v) :: (zPr G 0 ls).filter (fun q => !(q.1 == i) && (!(q.1 == i + 1) && !(q.1 + 1 == i && q.2.category == 2))))) : zLo G nL lsR' ls' := by
  refine ⟨h.1, h.2.1, hn, fun j w hj => ?_⟩
  rcases ho j w hj with ⟨e1, e2⟩ | ⟨e1, e4, e2, e3⟩
  · subst e1; subst e2; exact h.2.2 _ List.mem_cons_self
  · refine h.2.2 (j, zV G w) (List.mem_cons_of_mem _ (List.mem_filter.mpr ⟨?_, ?_⟩))
    · have := zPr_mem (G := G) (i := 0) e2; rw [Nat.zero_add] at this; exact this
    · simp only [zV_cat]
      by_cases h1 : j + 1 = i
      · have h2 : ¬ w.category = 2 := fun q => e3 ⟨h1, q⟩
        simp [e1, e4, h1, h2]
      · simp [e1, e4, h1]
end
section
section ZO2
variable {G : zG} {R : Room} {own : String} {cc : ByteArray} {nL : Nat} {ret : Option FieldType} {F : List Frame → Array Value → State → State → Prop} {cs sl : Nat} {C : zCl} {Rt : zRt} {pc : Nat}
theorem k_istore_n {k : Fin 4} {i : Nat} (hd : decode cc pc = .ok (.istore_n k, 1)) (hi : (k : Nat) = i) : zOK G R own cc nL ret F cs sl C Rt pc (pc + 1) (o_is i) := by
  intro nx jp hn hj ls st σ h
  simp only [o_is] at h
  split at h
  · obtain ⟨ls2, h, hq, ho⟩ := zS1_out h
    intro p e s m args below meth c hE H locs lsR hw hS hl
    refine lv_istore_n hE.1 hE.2.1 hd hi (zLo_has hl) (Nat.lt_of_lt_of_le hq.2 hl.2.2.1) rfl (fun ls3 h3 => ?_)
    exact hn _ _ _ h p e s m args below meth c hE H locs ls3 hw hS (zLo_1 (lsR := lsR) (by rw [hq.1]; exact hl.2.2.1) ho h3)
  · exact h.elim

theorem k_istore {i : Nat} (hd : decode cc pc = .ok (.istore i, 2)) : zOK G R own cc nL ret F cs sl C Rt pc (pc + 2) (o_is i) := by
  intro nx jp hn hj ls st σ h
  simp only [o_is] at h
  split at h
  · obtain ⟨ls2, h, hq, ho⟩ := zS1_out h
    intro p e s m args below meth c hE H locs lsR hw hS hl
    refine lv_istore hE.1 hE.2.1 hd (zLo_has hl) (Nat.lt_of_lt_of_le hq.2 hl.2.2.1) rfl (fun ls3 h3 => ?_)
    exact hn _ _ _ h p e s m args below meth c hE H locs ls3 hw hS (zLo_1 (lsR := lsR) (by rw [hq.1]; exact hl.2.2.1) ho h3)
  · exact h.elim

theorem k_astore_n {k : Fin 4} {i : Nat} (hd : decode cc pc = .ok (.astore_n k, 1)) (hi : (k : Nat) = i) : zOK G R own cc nL ret F cs sl C Rt pc (pc + 1) (o_as i) := by
  intro nx jp hn hj ls st σ h
  simp only [o_as] at h
  split at h
  · obtain ⟨ls2, h, hq, ho⟩ := zS1_out h
    intro p e s m args below meth c hE H locs lsR hw hS hl
    refine lv_astore_n hE.1 hE.2.1 hd hi (zLo_has hl) (Nat.lt_of_lt_of_le hq.2 hl.2.2.1) rfl (fun ls3 h3 => ?_)
    exact hn _ _ _ h p e s m args below meth c hE H locs ls3 hw hS (zLo_1 (lsR := lsR) (by rw [hq.1]; exact hl.2.2.1) ho h3)
  · exact h.elim

theorem k_astore {i : Nat} (hd : decode cc pc = .ok (.astore i, 2)) : zOK G R own cc nL ret F cs sl C Rt pc (pc + 2) (o_as i) := by
  intro nx jp hn hj ls st σ h
  simp only [o_as] at h
  split at h
  · obtain ⟨ls2, h, hq, ho⟩ := zS1_out h
    intro p e s m args below meth c hE H locs lsR hw hS hl
    refine lv_astore hE.1 hE.2.1 hd (zLo_has hl) (Nat.lt_of_lt_of_le hq.2 hl.2.2.1) rfl (fun ls3 h3 => ?_)
    exact hn _ _ _ h p e s m args below meth c hE H locs ls3 hw hS (zLo_1 (lsR := lsR) (by rw [hq.1]; exact hl.2.2.1) ho h3)
  · exact h.elim

theorem k_lstore_n {k : Fin 4} {i : Nat} (hd : decode cc pc = .ok (.lstore_n k, 1)) (hi : (k : Nat) = i) : zOK G R own cc nL ret F cs sl C Rt pc (pc + 1) (o_ls i) := by
  intro nx jp hn hj ls st σ h
  simp only [o_ls] at h
  split at h
  · obtain ⟨ls2, h, hq, ho⟩ := zS2_out h
    intro p e s m args below meth c hE H locs lsR hw hS hl
    refine lv_lstore_n hE.1 hE.2.1 hd hi (zLo_has hl) (Nat.lt_of_lt_of_le hq.2 hl.2.2.1) rfl (fun ls3 h3 => ?_)
    exact hn _ _ _ h p e s m args below meth c hE H locs ls3 hw hS (zLo_2 (lsR := lsR) (by rw [hq.1]; exact hl.2.2.1) ho h3)
  · exact h.elim

theorem k_lstore {i : Nat} (hd : decode cc pc = .ok (.lstore i, 2)) : zOK G R own cc nL ret F cs sl C Rt pc (pc + 2) (o_ls i) := by
  intro nx jp hn hj ls st σ h
  simp only [o_ls] at h
  split at h
  · obtain ⟨ls2, h, hq, ho⟩ := zS2_out h
    intro p e s m args below meth c hE H locs lsR hw hS hl
    refine lv_lstore hE.1 hE.2.1 hd (zLo_has hl) (Nat.lt_of_lt_of_le hq.2 hl.2.2.1) rfl (fun ls3 h3 => ?_)
    exact hn _ _ _ h p e s m args below meth c hE H locs ls3 hw hS (zLo_2 (lsR := lsR) (by rw [hq.1]; exact hl.2.2.1) ho h3)
  · exact h.elim

theorem k_iinc {i : Nat} {n : Int} {v0 : Int32} (hd : decode cc pc = .ok (.iinc i n, 3)) (hv0 : Int32.ofInt n = v0) : zOK G R own cc nL ret F cs sl C Rt pc (pc + 3) (o_inc i v0) := by
  intro nx jp hn hj ls st σ h
  obtain ⟨v, hv, h⟩ := zLd_out h
  split at h
  · rename_i x
    obtain ⟨ls2, h, hq, ho⟩ := zS1_out h
    intro p e s m args below meth c hE H locs lsR hw hS hl
    have hm := zPr_mem (G := G) (i := 0) hv
    rw [Nat.zero_add] at hm
    obtain ⟨k, hk⟩ := List.getElem?_of_mem hm
    refine lv_iinc (x := x) (v := x + v0) hE.1 hE.2.1 hd (zLo_has hl) hk (by rw [hv0]) (Nat.lt_of_lt_of_le hq.2 hl.2.2.1) rfl (fun ls3 h3 => ?_)
    exact hn _ _ _ h p e s m args below meth c hE H locs ls3 hw hS (zLo_1 (lsR := lsR) (by rw [hq.1]; exact hl.2.2.1) ho h3)
  · exact h.elim

theorem k_iadd (hd : decode cc pc = .ok (.iadd, 1)) : zOK G R own cc nL ret F cs sl C Rt pc (pc + 1) (o_iadd) := by
  intro nx jp hn hj ls st σ h
  simp only [o_iadd] at h
  split at h
  · intro p e s m args below meth c hE H locs lsR hw hS hl
    exact lv_iadd hE.1 hE.2.1 hd (hn _ _ _ h p e s m args below meth c hE H locs lsR hw hS hl)
  · exact h.elim

theorem k_isub (hd : decode cc pc = .ok (.isub, 1)) : zOK G R own cc nL ret F cs sl C Rt pc (pc + 1) (o_isub) := by
  intro nx jp hn hj ls st σ h
  simp only [o_isub] at h
  split at h
  · intro p e s m args below meth c hE H locs lsR hw hS hl
    exact lv_isub hE.1 hE.2.1 hd (hn _ _ _ h p e s m args below meth c hE H locs lsR hw hS hl)
  · exact h.elim

theorem k_imul (hd : decode cc pc = .ok (.imul, 1)) : zOK G R own cc nL ret F cs sl C Rt pc (pc + 1) (o_imul) := by
  intro nx jp hn hj ls st σ h
  simp only [o_imul] at h
  split at h
  · intro p e s m args below meth c hE H locs lsR hw hS hl
    exact lv_imul hE.1 hE.2.1 hd (hn _ _ _ h p e s m args below meth c hE H locs lsR hw hS hl)
  · exact h.elim

theorem k_iand (hd : decode cc pc = .ok (.iand, 1)) : zOK G R own cc nL ret F cs sl C Rt pc (pc + 1) (o_iand) := by
  intro nx jp hn hj ls st σ h
  simp only [o_iand] at h
  split at h
  · intro p e s m args below meth c hE H locs lsR hw hS hl
    exact lv_iand hE.1 hE.2.1 hd (hn _ _ _ h p e s m args below meth c hE H locs lsR hw hS hl)
  · exact h.elim

theorem k_ior (hd : decode cc pc = .ok (.ior, 1)) : zOK G R own cc nL ret F cs sl C Rt pc (pc + 1) (o_ior) := by
  intro nx jp hn hj ls st σ h
  simp only [o_ior] at h
  split at h
  · intro p e s m args below meth c hE H locs lsR hw hS hl
    exact lv_ior hE.1 hE.2.1 hd (hn _ _ _ h p e s m args below meth c hE H locs lsR hw hS hl)
  · exact h.elim

theorem k_ixor (hd : decode cc pc = .ok (.ixor, 1)) : zOK G R own cc nL ret F cs sl C Rt pc (pc + 1) (o_ixor) := by
  intro nx jp hn hj ls st σ h
  simp only [o_ixor] at h
  split at h
  · intro p e s m args below meth c hE H locs lsR hw hS hl
    exact lv_ixor hE.1 hE.2.1 hd (hn _ _ _ h p e s m args below meth c hE H locs lsR hw hS hl)
  · exact h.elim

theorem k_ishl (hd : decode cc pc = .ok (.ishl, 1)) : zOK G R own cc nL ret F cs sl C Rt pc (pc + 1) (o_ishl) := by
  intro nx jp hn hj ls st σ h
  simp only [o_ishl] at h
  split at h
  · intro p e s m args below meth c hE H locs lsR hw hS hl
    exact lv_ishl hE.1 hE.2.1 hd (hn _ _ _ h p e s m args below meth c hE H locs lsR hw hS hl)
  · exact h.elim

theorem k_ishr (hd : decode cc pc = .ok (.ishr, 1)) : zOK G R own cc nL ret F cs sl C Rt pc (pc + 1) (o_ishr) := by
  intro nx jp hn hj ls st σ h
  simp only [o_ishr] at h
  split at h
  · intro p e s m args below meth c hE H locs lsR hw hS hl
    exact lv_ishr hE.1 hE.2.1 hd (hn _ _ _ h p e s m args below meth c hE H locs lsR hw hS hl)
  · exact h.elim

theorem k_ladd (hd : decode cc pc = .ok (.ladd, 1)) : zOK G R own cc nL ret F cs sl C Rt pc (pc + 1) (o_ladd) := by
  intro nx jp hn hj ls st σ h
  simp only [o_ladd] at h
  split at h
  · intro p e s m args below meth c hE H locs lsR hw hS hl
    exact lv_ladd hE.1 hE.2.1 hd (hn _ _ _ h p e s m args below meth c hE H locs lsR hw hS hl)
  · exact h.elim

theorem k_lsub (hd : decode cc pc = .ok (.lsub, 1)) : zOK G R own cc nL ret F cs sl C Rt pc (pc + 1) (o_lsub) := by
  intro nx jp hn hj ls st σ h
  simp only [o_lsub] at h
  split at h
  · intro p e s m args below meth c hE H locs lsR hw hS hl
    exact lv_lsub hE.1 hE.2.1 hd (hn _ _ _ h p e s m args below meth c hE H locs lsR hw hS hl)
  · exact h.elim

theorem k_lmul (hd : decode cc pc = .ok (.lmul, 1)) : zOK G R own cc nL ret F cs sl C Rt pc (pc + 1) (o_lmul) := by
  intro nx jp hn hj ls st σ h
  simp only [o_lmul] at h
  split at h
  · intro p e s m args below meth c hE H locs lsR hw hS hl
    exact lv_lmul hE.1 hE.2.1 hd (hn _ _ _ h p e s m args below meth c hE H locs lsR hw hS hl)
  · exact h.elim

theorem k_lxor (hd : decode cc pc = .ok (.lxor, 1)) : zOK G R own cc nL ret F cs sl C Rt pc (pc + 1) (o_lxor) := by
  intro nx jp hn hj ls st σ h
  simp only [o_lxor] at h
  split at h
  · intro p e s m args below meth c hE H locs lsR hw hS hl
    exact lv_lxor hE.1 hE.2.1 hd (hn _ _ _ h p e s m args below meth c hE H locs lsR hw hS hl)
  · exact h.elim

theorem k_ineg (hd : decode cc pc = .ok (.ineg, 1)) : zOK G R own cc nL ret F cs sl C Rt pc (pc + 1) (o_ineg) := by
  intro nx jp hn hj ls st σ h
  simp only [o_ineg] at h
  split at h
  · intro p e s m args below meth c hE H locs lsR hw hS hl
    exact lv_ineg hE.1 hE.2.1 hd (hn _ _ _ h p e s m args below meth c hE H locs lsR hw hS hl)
  · exact h.elim

theorem k_lneg (hd : decode cc pc = .ok (.lneg, 1)) : zOK G R own cc nL ret F cs sl C Rt pc (pc + 1) (o_lneg) := by
  intro nx jp hn hj ls st σ h
  simp only [o_lneg] at h
  split at h
  · intro p e s m args below meth c hE H locs lsR hw hS hl
    exact lv_lneg hE.1 hE.2.1 hd (hn _ _ _ h p e s m args below meth c hE H locs lsR hw hS hl)
  · exact h.elim

theorem k_iushr (hd : decode cc pc = .ok (.iushr, 1)) : zOK G R own cc nL ret F cs sl C Rt pc (pc + 1) (o_iushr) := by
  intro nx jp hn hj ls st σ h
  simp only [o_iushr] at h
  split at h
  · intro p e s m args below meth c hE H locs lsR hw hS hl
    exact lv_iushr hE.1 hE.2.1 hd rfl (hn _ _ _ h p e s m args below meth c hE H locs lsR hw hS hl)
  · exact h.elim

theorem k_i2l (hd : decode cc pc = .ok (.i2l, 1)) : zOK G R own cc nL ret F cs sl C Rt pc (pc + 1) (o_i2l) := by
  intro nx jp hn hj ls st σ h
  simp only [o_i2l] at h
  split at h
  · intro p e s m args below meth c hE H locs lsR hw hS hl
    exact lv_i2l hE.1 hE.2.1 hd rfl (hn _ _ _ h p e s m args below meth c hE H locs lsR hw hS hl)
  · exact h.elim

theorem k_l2i (hd : decode cc pc = .ok (.l2i, 1)) : zOK G R own cc nL ret F cs sl C Rt pc (pc + 1) (o_l2i) := by
  intro nx jp hn hj ls st σ h
  simp only [o_l2i] at h
  split at h
  · intro p e s m args below meth c hE H locs lsR hw hS hl
    exact lv_l2i hE.1 hE.2.1 hd rfl (hn _ _ _ h p e s m args below meth c hE H locs lsR hw hS hl)
  · exact h.elim

theorem k_i2b (hd : decode cc pc = .ok (.i2b, 1)) : zOK G R own cc nL ret F cs sl C Rt pc (pc + 1) (o_i2b) := by
  intro nx jp hn hj ls st σ h
  simp only [o_i2b] at h
  split at h
  · intro p e s m args below meth c hE H locs lsR hw hS hl
    exact lv_i2b hE.1 hE.2.1 hd rfl (hn _ _ _ h p e s m args below meth c hE H locs lsR hw hS hl)
  · exact h.elim

theorem k_i2s (hd : decode cc pc = .ok (.i2s, 1)) : zOK G R own cc nL ret F cs sl C Rt pc (pc + 1) (o_i2s) := by
  intro nx jp hn hj ls st σ h
  simp only [o_i2s] at h
  split at h
  · intro p e s m args below meth c hE H locs lsR hw hS hl
    exact lv_i2s hE.1 hE.2.1 hd rfl (hn _ _ _ h p e s m args below meth c hE H locs lsR hw hS hl)
  · exact h.elim

theorem k_i2c (hd : decode cc pc = .ok (.i2c, 1)) : zOK G R own cc nL ret F cs sl C Rt pc (pc + 1) (o_i2c) := by
  intro nx jp hn hj ls st σ h
  simp only [o_i2c] at h
  split at h
  · intro p e s m args below meth c hE H locs lsR hw hS hl
    exact lv_i2c hE.1 hE.2.1 hd rfl (hn _ _ _ h p e s m args below meth c hE H locs lsR hw hS hl)
  · exact h.elim

theorem k_idiv (hd : decode cc pc = .ok (.idiv, 1)) : zOK G R own cc nL ret F cs sl C Rt pc (pc + 1) (o_idiv) := by
  intro nx jp hn hj ls st σ h
  simp only [o_idiv] at h
  split at h
  · intro p e s m args below meth c hE H locs lsR hw hS hl
    exact lv_idiv hE.1 hE.2.1 hd h.1 (hn _ _ _ h.2 p e s m args below meth c hE H locs lsR hw hS hl)
  · exact h.elim

theorem k_irem (hd : decode cc pc = .ok (.irem, 1)) : zOK G R own cc nL ret F cs sl C Rt pc (pc + 1) (o_irem) := by
  intro nx jp hn hj ls st σ h
  simp only [o_irem] at h
  split at h
  · intro p e s m args below meth c hE H locs lsR hw hS hl
    exact lv_irem hE.1 hE.2.1 hd h.1 (hn _ _ _ h.2 p e s m args below meth c hE H locs lsR hw hS hl)
  · exact h.elim

theorem k_ldiv (hd : decode cc pc = .ok (.ldiv, 1)) : zOK G R own cc nL ret F cs sl C Rt pc (pc + 1) (o_ldiv) := by
  intro nx jp hn hj ls st σ h
  simp only [o_ldiv] at h
  split at h
  · intro p e s m args below meth c hE H locs lsR hw hS hl
    exact lv_ldiv hE.1 hE.2.1 hd h.1 (hn _ _ _ h.2 p e s m args below meth c hE H locs lsR hw hS hl)
  · exact h.elim

theorem k_lrem (hd : decode cc pc = .ok (.lrem, 1)) : zOK G R own cc nL ret F cs sl C Rt pc (pc + 1) (o_lrem) := by
  intro nx jp hn hj ls st σ h
  simp only [o_lrem] at h
  split at h
  · intro p e s m args below meth c hE H locs lsR hw hS hl
    exact lv_lrem hE.1 hE.2.1 hd h.1 (hn _ _ _ h.2 p e s m args below meth c hE H locs lsR hw hS hl)
  · exact h.elim

theorem k_dup (hd : decode cc pc = .ok (.dup, 1)) : zOK G R own cc nL ret F cs sl C Rt pc (pc + 1) (o_dup) := by
  intro nx jp hn hj ls st σ h
  simp only [o_dup] at h
  split at h
  · intro p e s m args below meth c hE H locs lsR hw hS hl
    exact lv_dup hE.1 hE.2.1 hd rfl (hn _ _ _ h p e s m args below meth c hE H locs lsR hw hS hl)
  · intro p e s m args below meth c hE H locs lsR hw hS hl
    exact lv_dup hE.1 hE.2.1 hd rfl (hn _ _ _ h p e s m args below meth c hE H locs lsR hw hS hl)
  · exact h.elim

theorem k_pop (hd : decode cc pc = .ok (.pop, 1)) : zOK G R own cc nL ret F cs sl C Rt pc (pc + 1) (o_pop) := by
  intro nx jp hn hj ls st σ h
  simp only [o_pop] at h
  split at h
  · intro p e s m args below meth c hE H locs lsR hw hS hl
    exact lv_pop hE.1 hE.2.1 hd rfl (hn _ _ _ h p e s m args below meth c hE H locs lsR hw hS hl)
  · intro p e s m args below meth c hE H locs lsR hw hS hl
    exact lv_pop hE.1 hE.2.1 hd rfl (hn _ _ _ h p e s m args below meth c hE H locs lsR hw hS hl)
  · exact h.elim

theorem k_dup2 (hd : decode cc pc = .ok (.dup2, 1)) : zOK G R own cc nL ret F cs sl C Rt pc (pc + 1) (o_dup2) := by
  intro nx jp hn hj ls st σ h
  simp only [o_dup2] at h
  split at h
  · intro p e s m args below meth c hE H locs lsR hw hS hl
    exact lv_dup2_11 hE.1 hE.2.1 hd rfl rfl (hn _ _ _ h p e s m args below meth c hE H locs lsR hw hS hl)
  · exact h.elim

theorem k_dup_x1 (hd : decode cc pc = .ok (.dup_x1, 1)) : zOK G R own cc nL ret F cs sl C Rt pc (pc + 1) (o_dup_x1) := by
  intro nx jp hn hj ls st σ h
  simp only [o_dup_x1] at h
  split at h
  · intro p e s m args below meth c hE H locs lsR hw hS hl
    exact lv_dup_x1 hE.1 hE.2.1 hd rfl rfl (hn _ _ _ h p e s m args below meth c hE H locs lsR hw hS hl)
  · exact h.elim

theorem k_if_eq {off : Int} {t : Nat} (hd : decode cc pc = .ok (.ifCond .eq off, 3)) (ht : (pc : Int) + off = (t : Int)) : zOK G R own cc nL ret F cs sl C Rt pc (pc + 3) (o_if_eq t) := by
  intro nx jp hn hj ls st σ h
  simp only [o_if_eq] at h
  split at h
  · intro p e s m args below meth c hE H locs lsR hw hS hl
    exact lv_if_eq hE.1 hE.2.1 hd ht (fun q => hj _ _ _ _ (h.1 q) p e s m args below meth c hE H locs lsR hw hS hl) (fun q => hn _ _ _ (h.2 q) p e s m args below meth c hE H locs lsR hw hS hl)
  · exact h.elim

theorem k_icmp_eq {off : Int} {t : Nat} (hd : decode cc pc = .ok (.if_icmp .eq off, 3)) (ht : (pc : Int) + off = (t : Int)) : zOK G R own cc nL ret F cs sl C Rt pc (pc + 3) (o_ic_eq t) := by
  intro nx jp hn hj ls st σ h
  simp only [o_ic_eq] at h
  split at h
  · intro p e s m args below meth c hE H locs lsR hw hS hl
    exact lv_icmp_eq hE.1 hE.2.1 hd ht (fun q => hj _ _ _ _ (h.1 q) p e s m args below meth c hE H locs lsR hw hS hl) (fun q => hn _ _ _ (h.2 q) p e s m args below meth c hE H locs lsR hw hS hl)
  · exact h.elim

theorem k_if_ne {off : Int} {t : Nat} (hd : decode cc pc = .ok (.ifCond .ne off, 3)) (ht : (pc : Int) + off = (t : Int)) : zOK G R own cc nL ret F cs sl C Rt pc (pc + 3) (o_if_ne t) := by
  intro nx jp hn hj ls st σ h
  simp only [o_if_ne] at h
  split at h
  · intro p e s m args below meth c hE H locs lsR hw hS hl
    exact lv_if_ne hE.1 hE.2.1 hd ht (fun q => hj _ _ _ _ (h.1 q) p e s m args below meth c hE H locs lsR hw hS hl) (fun q => hn _ _ _ (h.2 q) p e s m args below meth c hE H locs lsR hw hS hl)
  · exact h.elim

theorem k_icmp_ne {off : Int} {t : Nat} (hd : decode cc pc = .ok (.if_icmp .ne off, 3)) (ht : (pc : Int) + off = (t : Int)) : zOK G R own cc nL ret F cs sl C Rt pc (pc + 3) (o_ic_ne t) := by
  intro nx jp hn hj ls st σ h
  simp only [o_ic_ne] at h
  split at h
  · intro p e s m args below meth c hE H locs lsR hw hS hl
    exact lv_icmp_ne hE.1 hE.2.1 hd ht (fun q => hj _ _ _ _ (h.1 q) p e s m args below meth c hE H locs lsR hw hS hl) (fun q => hn _ _ _ (h.2 q) p e s m args below meth c hE H locs lsR hw hS hl)
  · exact h.elim

theorem k_if_lt {off : Int} {t : Nat} (hd : decode cc pc = .ok (.ifCond .lt off, 3)) (ht : (pc : Int) + off = (t : Int)) : zOK G R own cc nL ret F cs sl C Rt pc (pc + 3) (o_if_lt t) := by
  intro nx jp hn hj ls st σ h
  simp only [o_if_lt] at h
  split at h
  · intro p e s m args below meth c hE H locs lsR hw hS hl
    exact lv_if_lt hE.1 hE.2.1 hd ht (fun q => hj _ _ _ _ (h.1 q) p e s m args below meth c hE H locs lsR hw hS hl) (fun q => hn _ _ _ (h.2 q) p e s m args below meth c hE H locs lsR hw hS hl)
  · exact h.elim

theorem k_icmp_lt {off : Int} {t : Nat} (hd : decode cc pc = .ok (.if_icmp .lt off, 3)) (ht : (pc : Int) + off = (t : Int)) : zOK G R own cc nL ret F cs sl C Rt pc (pc + 3) (o_ic_lt t) := by
  intro nx jp hn hj ls st σ h
  simp only [o_ic_lt] at h
  split at h
  · intro p e s m args below meth c hE H locs lsR hw hS hl
    exact lv_icmp_lt hE.1 hE.2.1 hd ht (fun q => hj _ _ _ _ (h.1 q) p e s m args below meth c hE H locs lsR hw hS hl) (fun q => hn _ _ _ (h.2 q) p e s m args below meth c hE H locs lsR hw hS hl)
  · exact h.elim

theorem k_if_ge {off : Int} {t : Nat} (hd : decode cc pc = .ok (.ifCond .ge off, 3)) (ht : (pc : Int) + off = (t : Int)) : zOK G R own cc nL ret F cs sl C Rt pc (pc + 3) (o_if_ge t) := by
  intro nx jp hn hj ls st σ h
  simp only [o_if_ge] at h
  split at h
  · intro p e s m args below meth c hE H locs lsR hw hS hl
    exact lv_if_ge hE.1 hE.2.1 hd ht (fun q => hj _ _ _ _ (h.1 q) p e s m args below meth c hE H locs lsR hw hS hl) (fun q => hn _ _ _ (h.2 q) p e s m args below meth c hE H locs lsR hw hS hl)
  · exact h.elim

theorem k_icmp_ge {off : Int} {t : Nat} (hd : decode cc pc = .ok (.if_icmp .ge off, 3)) (ht : (pc : Int) + off = (t : Int)) : zOK G R own cc nL ret F cs sl C Rt pc (pc + 3) (o_ic_ge t) := by
  intro nx jp hn hj ls st σ h
  simp only [o_ic_ge] at h
  split at h
  · intro p e s m args below meth c hE H locs lsR hw hS hl
    exact lv_icmp_ge hE.1 hE.2.1 hd ht (fun q => hj _ _ _ _ (h.1 q) p e s m args below meth c hE H locs lsR hw hS hl) (fun q => hn _ _ _ (h.2 q) p e s m args below meth c hE H locs lsR hw hS hl)
  · exact h.elim

theorem k_if_gt {off : Int} {t : Nat} (hd : decode cc pc = .ok (.ifCond .gt off, 3)) (ht : (pc : Int) + off = (t : Int)) : zOK G R own cc nL ret F cs sl C Rt pc (pc + 3) (o_if_gt t) := by
  intro nx jp hn hj ls st σ h
  simp only [o_if_gt] at h
  split at h
  · intro p e s m args below meth c hE H locs lsR hw hS hl
    exact lv_if_gt hE.1 hE.2.1 hd ht (fun q => hj _ _ _ _ (h.1 q) p e s m args below meth c hE H locs lsR hw hS hl) (fun q => hn _ _ _ (h.2 q) p e s m args below meth c hE H locs lsR hw hS hl)
  · exact h.elim

theorem k_icmp_gt {off : Int} {t : Nat} (hd : decode cc pc = .ok (.if_icmp .gt off, 3)) (ht : (pc : Int) + off = (t : Int)) : zOK G R own cc nL ret F cs sl C Rt pc (pc + 3) (o_ic_gt t) := by
  intro nx jp hn hj ls st σ h
  simp only [o_ic_gt] at h
  split at h
  · intro p e s m args below meth c hE H locs lsR hw hS hl
    exact lv_icmp_gt hE.1 hE.2.1 hd ht (fun q => hj _ _ _ _ (h.1 q) p e s m args below meth c hE H locs lsR hw hS hl) (fun q => hn _ _ _ (h.2 q) p e s m args below meth c hE H locs lsR hw hS hl)
  · exact h.elim

theorem k_if_le {off : Int} {t : Nat} (hd : decode cc pc = .ok (.ifCond .le off, 3)) (ht : (pc : Int) + off = (t : Int)) : zOK G R own cc nL ret F cs sl C Rt pc (pc + 3) (o_if_le t) := by
  intro nx jp hn hj ls st σ h
  simp only [o_if_le] at h
  split at h
  · intro p e s m args below meth c hE H locs lsR hw hS hl
    exact lv_if_le hE.1 hE.2.1 hd ht (fun q => hj _ _ _ _ (h.1 q) p e s m args below meth c hE H locs lsR hw hS hl) (fun q => hn _ _ _ (h.2 q) p e s m args below meth c hE H locs lsR hw hS hl)
  · exact h.elim

theorem k_icmp_le {off : Int} {t : Nat} (hd : decode cc pc = .ok (.if_icmp .le off, 3)) (ht : (pc : Int) + off = (t : Int)) : zOK G R own cc nL ret F cs sl C Rt pc (pc + 3) (o_ic_le t) := by
  intro nx jp hn hj ls st σ h
  simp only [o_ic_le] at h
  split at h
  · intro p e s m args below meth c hE H locs lsR hw hS hl
    exact lv_icmp_le hE.1 hE.2.1 hd ht (fun q => hj _ _ _ _ (h.1 q) p e s m args below meth c hE H locs lsR hw hS hl) (fun q => hn _ _ _ (h.2 q) p e s m args below meth c hE H locs lsR hw hS hl)
  · exact h.elim

theorem zcmp_eq (x y : Int64) : lg_cmp x y = 0 ↔ x = y := by
  unfold lg_cmp
  split
  · rename_i h
    constructor
    · intro q; exact absurd q (by decide)
    · intro q; subst q; exact absurd h (by simp [Int64.lt_iff_toInt_lt])
  · split
    · rename_i h; exact ⟨fun _ => h, fun _ => rfl⟩
    · rename_i h; exact ⟨fun q => absurd q (by decide), fun q => absurd q h⟩
theorem zcmp_lt (x y : Int64) : lg_cmp x y < 0 ↔ x < y := by
  unfold lg_cmp
  split
  · rename_i h
    simp only [gt_iff_lt, Int64.lt_iff_toInt_lt] at *
    constructor
    · intro q; exact absurd q (by decide)
    · intro q; omega
  · rename_i h
    split
    · rename_i h2; subst h2; simp only [Int64.lt_iff_toInt_lt]
      constructor
      · intro q; exact absurd q (by decide)
      · intro q; omega
    · rename_i h2
      simp only [gt_iff_lt, Int64.lt_iff_toInt_lt, ← Int64.toInt_inj] at *
      constructor
      · intro _; omega
      · intro _; decide
theorem zcmp_gt (x y : Int64) : 0 < lg_cmp x y ↔ y < x := by
  unfold lg_cmp
  split
  · rename_i h; exact ⟨fun _ => h, fun _ => by decide⟩
  · rename_i h
    split
    · exact ⟨fun q => absurd q (by decide), fun q => absurd q h⟩
    · exact ⟨fun q => absurd q (by decide), fun q => absurd q h⟩
theorem zcmp_ge (x y : Int64) : 0 ≤ lg_cmp x y ↔ y ≤ x := lg_cmp_ge x y
theorem zcmp_le (x y : Int64) : lg_cmp x y ≤ 0 ↔ x ≤ y := by
  rw [← Int32.not_lt, zcmp_gt, Int64.not_lt]
theorem zcmp_ne (x y : Int64) : ¬ lg_cmp x y = 0 ↔ ¬ x = y := not_congr (zcmp_eq x y)
theorem k_lcmp_eq {off : Int} {t : Nat} (hd0 : decode cc pc = .ok (.lcmp, 1)) (hd : decode cc (pc + 1) = .ok (.ifCond .eq off, 3)) (ht : ((pc + 1 : Nat) : Int) + off = (t : Int)) : zOK G R own cc nL ret F cs sl C Rt pc (pc + 4) (o_lc_eq t) := by
  intro nx jp hn hj ls st σ h
  simp only [o_lc_eq] at h
  split at h
  · intro p e s m args below meth c hE H locs lsR hw hS hl
    exact W.lcmp hE.1 hE.2.1 hd0 (lv_if_eq hE.1 hE.2.1 hd ht (fun q => hj _ _ _ _ (h.1 ((zcmp_eq _ _).mp q)) p e s m args below meth c hE H locs lsR hw hS hl) (fun q => hn _ _ _ (h.2 (fun z => q ((zcmp_eq _ _).mpr z))) p e s m args below meth c hE H locs lsR hw hS hl))
  · exact h.elim

theorem k_lcmp_ne {off : Int} {t : Nat} (hd0 : decode cc pc = .ok (.lcmp, 1)) (hd : decode cc (pc + 1) = .ok (.ifCond .ne off, 3)) (ht : ((pc + 1 : Nat) : Int) + off = (t : Int)) : zOK G R own cc nL ret F cs sl C Rt pc (pc + 4) (o_lc_ne t) := by
  intro nx jp hn hj ls st σ h
  simp only [o_lc_ne] at h
  split at h
  · intro p e s m args below meth c hE H locs lsR hw hS hl
    exact W.lcmp hE.1 hE.2.1 hd0 (lv_if_ne hE.1 hE.2.1 hd ht (fun q => hj _ _ _ _ (h.1 ((zcmp_ne _ _).mp q)) p e s m args below meth c hE H locs lsR hw hS hl) (fun q => hn _ _ _ (h.2 ((zcmp_eq _ _).mp q)) p e s m args below meth c hE H locs lsR hw hS hl))
  · exact h.elim

theorem k_lcmp_lt {off : Int} {t : Nat} (hd0 : decode cc pc = .ok (.lcmp, 1)) (hd : decode cc (pc + 1) = .ok (.ifCond .lt off, 3)) (ht : ((pc + 1 : Nat) : Int) + off = (t : Int)) : zOK G R own cc nL ret F cs sl C Rt pc (pc + 4) (o_lc_lt t) := by
  intro nx jp hn hj ls st σ h
  simp only [o_lc_lt] at h
  split at h
  · intro p e s m args below meth c hE H locs lsR hw hS hl
    exact W.lcmp hE.1 hE.2.1 hd0 (lv_if_lt hE.1 hE.2.1 hd ht (fun q => hj _ _ _ _ (h.1 ((zcmp_lt _ _).mp q)) p e s m args below meth c hE H locs lsR hw hS hl) (fun q => hn _ _ _ (h.2 (fun z => q ((zcmp_lt _ _).mpr z))) p e s m args below meth c hE H locs lsR hw hS hl))
  · exact h.elim

theorem k_lcmp_ge {off : Int} {t : Nat} (hd0 : decode cc pc = .ok (.lcmp, 1)) (hd : decode cc (pc + 1) = .ok (.ifCond .ge off, 3)) (ht : ((pc + 1 : Nat) : Int) + off = (t : Int)) : zOK G R own cc nL ret F cs sl C Rt pc (pc + 4) (o_lc_ge t) := by
  intro nx jp hn hj ls st σ h
  simp only [o_lc_ge] at h
  split at h
  · intro p e s m args below meth c hE H locs lsR hw hS hl
    exact W.lcmp hE.1 hE.2.1 hd0 (lv_if_ge hE.1 hE.2.1 hd ht (fun q => hj _ _ _ _ (h.1 ((zcmp_ge _ _).mp q)) p e s m args below meth c hE H locs lsR hw hS hl) (fun q => hn _ _ _ (h.2 (fun z => q ((zcmp_ge _ _).mpr z))) p e s m args below meth c hE H locs lsR hw hS hl))
  · exact h.elim

theorem k_lcmp_gt {off : Int} {t : Nat} (hd0 : decode cc pc = .ok (.lcmp, 1)) (hd : decode cc (pc + 1) = .ok (.ifCond .gt off, 3)) (ht : ((pc + 1 : Nat) : Int) + off = (t : Int)) : zOK G R own cc nL ret F cs sl C Rt pc (pc + 4) (o_lc_gt t) := by
  intro nx jp hn hj ls st σ h
  simp only [o_lc_gt] at h
  split at h
  · intro p e s m args below meth c hE H locs lsR hw hS hl
    exact W.lcmp hE.1 hE.2.1 hd0 (lv_if_gt hE.1 hE.2.1 hd ht (fun q => hj _ _ _ _ (h.1 ((zcmp_gt _ _).mp q)) p e s m args below meth c hE H locs lsR hw hS hl) (fun q => hn _ _ _ (h.2 (fun z => q ((zcmp_gt _ _).mpr z))) p e s m args below meth c hE H locs lsR hw hS hl))
  · exact h.elim

theorem k_lcmp_le {off : Int} {t : Nat} (hd0 : decode cc pc = .ok (.lcmp, 1)) (hd : decode cc (pc + 1) = .ok (.ifCond .le off, 3)) (ht : ((pc + 1 : Nat) : Int) + off = (t : Int)) : zOK G R own cc nL ret F cs sl C Rt pc (pc + 4) (o_lc_le t) := by
  intro nx jp hn hj ls st σ h
  simp only [o_lc_le] at h
  split at h
  · intro p e s m args below meth c hE H locs lsR hw hS hl
    exact W.lcmp hE.1 hE.2.1 hd0 (lv_if_le hE.1 hE.2.1 hd ht (fun q => hj _ _ _ _ (h.1 ((zcmp_le _ _).mp q)) p e s m args below meth c hE H locs lsR hw hS hl) (fun q => hn _ _ _ (h.2 (fun z => q ((zcmp_le _ _).mpr z))) p e s m args below meth c hE H locs lsR hw hS hl))
  · exact h.elim

theorem k_goto {off : Int} {t nxt : Nat} (hd : decode cc pc = .ok (.goto off, 3)) (ht : (pc : Int) + off = (t : Int)) : zOK G R own cc nL ret F cs sl C Rt pc nxt (o_go t) := by
  intro nx jp hn hj ls st σ h
  intro p e s m args below meth c hE H locs lsR hw hS hl
  exact lv_goto hE.1 hE.2.1 hd ht (hj _ _ _ _ h p e s m args below meth c hE H locs lsR hw hS hl)

end ZO2
end
section
-- ===== instructions of the heap: what they do =====
noncomputable def o_gI (tag k : Nat) : zOp := fun _ _ nx _ ls st σ => match st with | .ref p :: r => (match σ with | (K, I, J, Q) => zB (Nat.beq (zKd K p).1 tag) (nx ls (.int (I p k) :: r) (K, I, J, Q))) | _ => False
noncomputable def o_gJ (tag k : Nat) : zOp := fun _ _ nx _ ls st σ => match st with | .ref p :: r => (match σ with | (K, I, J, Q) => zB (Nat.beq (zKd K p).1 tag) (nx ls (.long (J p k) :: r) (K, I, J, Q))) | _ => False
noncomputable def o_gR (tag k : Nat) : zOp := fun _ _ nx _ ls st σ => match st with | .ref p :: r => (match σ with | (K, I, J, Q) => zB (Nat.beq (zKd K p).1 tag) (match Q p k with | some q => nx ls (.ref q :: r) (K, I, J, Q) | none => nx ls (.null :: r) (K, I, J, Q))) | _ => False
noncomputable def o_pI (tag k : Nat) : zOp := fun _ _ nx _ ls st σ => match st with | .int v :: .ref p :: r => (match σ with | (K, I, J, Q) => zB (Nat.beq (zKd K p).1 tag) (nx ls r (K, z_upI I p k v, J, Q))) | _ => False
noncomputable def o_pZ (tag k : Nat) : zOp := fun _ _ nx _ ls st σ => match st with | .int v :: .ref p :: r => (match σ with | (K, I, J, Q) => zB (Nat.beq (zKd K p).1 tag) ((v = 0 ∨ v = 1) ∧ nx ls r (K, z_upI I p k v, J, Q))) | _ => False
noncomputable def o_pJ (tag k : Nat) : zOp := fun _ _ nx _ ls st σ => match st with | .long v :: .ref p :: r => (match σ with | (K, I, J, Q) => zB (Nat.beq (zKd K p).1 tag) (nx ls r (K, I, z_upJ J p k v, Q))) | _ => False
noncomputable def o_xI (t : Nat) : zOp := fun _ _ nx _ ls st σ => match st with | .int i :: .ref p :: r => (match σ with | (K, I, J, Q) => match zKd K p with | (t2, n) => zB (Nat.beq t2 t) (vp_in i n ∧ nx ls (.int (I p i.toNatClampNeg) :: r) (K, I, J, Q))) | _ => False
noncomputable def o_xJ : zOp := fun _ _ nx _ ls st σ => match st with | .int i :: .ref p :: r => (match σ with | (K, I, J, Q) => match zKd K p with | (t2, n) => zB (Nat.beq t2 15) (vp_in i n ∧ nx ls (.long (J p i.toNatClampNeg) :: r) (K, I, J, Q))) | _ => False
noncomputable def o_xR (t : Nat) : zOp := fun _ _ nx _ ls st σ => match st with | .int i :: .ref p :: r => (match σ with | (K, I, J, Q) => match zKd K p with | (t2, n) => zB (Nat.beq t2 t) (vp_in i n ∧ ∃ q, Q p i.toNatClampNeg = some q ∧ nx ls (.ref q :: r) (K, I, J, Q))) | _ => False
noncomputable def o_yI : zOp := fun _ _ nx _ ls st σ => match st with | .int v :: .int i :: .ref p :: r => (match σ with | (K, I, J, Q) => match zKd K p with | (t2, n) => zB (Nat.beq t2 14) (vp_in i n ∧ nx ls r (K, z_upI I p i.toNatClampNeg v, J, Q))) | _ => False
noncomputable def o_yB : zOp := fun _ _ nx _ ls st σ => match st with | .int v :: .int i :: .ref p :: r => (match σ with | (K, I, J, Q) => match zKd K p with | (t2, n) => zB (Nat.beq t2 13) (vp_in i n ∧ nx ls r (K, z_upI I p i.toNatClampNeg (vp_nar .byte v), J, Q))) | _ => False
noncomputable def o_yZ : zOp := fun _ _ nx _ ls st σ => match st with | .int v :: .int i :: .ref p :: r => (match σ with | (K, I, J, Q) => match zKd K p with | (t2, n) => zB (Nat.beq t2 16) (vp_in i n ∧ nx ls r (K, z_upI I p i.toNatClampNeg (vp_nar .boolean v), J, Q))) | _ => False
noncomputable def o_yJ : zOp := fun _ _ nx _ ls st σ => match st with | .long v :: .int i :: .ref p :: r => (match σ with | (K, I, J, Q) => match zKd K p with | (t2, n) => zB (Nat.beq t2 15) (vp_in i n ∧ nx ls r (K, I, z_upJ J p i.toNatClampNeg v, Q))) | _ => False
noncomputable def o_yR (t e : Nat) : zOp := fun _ _ nx _ ls st σ => match st with | .ref v :: .int i :: .ref p :: r => (match σ with | (K, I, J, Q) => match zKd K p with | (t2, n) => zB (Nat.beq t2 t) (zB (Nat.beq (zKd K v).1 e) (vp_in i n ∧ nx ls r (K, I, J, z_upR Q p i.toNatClampNeg (some v))))) | _ => False
noncomputable def o_len : zOp := fun _ _ nx _ ls st σ => match st with | .ref p :: r => (match σ with | (K, I, J, Q) => match zKd K p with | (t2, n) => zB (Nat.ble 13 t2) (zB (Nat.ble t2 20) (nx ls (.int (Int32.ofNat n) :: r) (K, I, J, Q)))) | _ => False
def o_gs (t : Nat) : zOp := fun _ _ nx _ ls st σ => nx ls (.ref (1000000 + t) :: st) σ
noncomputable def o_xs (t n : Nat) (f : Nat → Int32) : zOp := fun _ _ nx _ ls st σ => match st with | .int i :: .ref p :: r => zB (Nat.beq p (1000000 + t)) (vp_in i n ∧ nx ls (.int (f i.toNatClampNeg) :: r) σ) | _ => False
noncomputable def o_sl (t n : Nat) : zOp := fun _ _ nx _ ls st σ => match st with | .ref p :: r => zB (Nat.beq p (1000000 + t)) (nx ls (.int (Int32.ofNat n) :: r) σ) | _ => False
-- ===== facts of the world =====
theorem zFs_get {G : zG} {σ : zSt} {p tag k ty : Nat} (h : (zFT tag)[k]? = some ty) : (zFs G σ p tag)[k]? = some (zVal G σ p ty k) := by
  have hl : k < (zFT tag).length := (List.getElem?_eq_some_iff.mp h).1
  have e : (zFT tag).getD k 0 = ty := by rw [List.getD_eq_getElem?_getD, h]; rfl
  simp [zFs, hl, List.getElem?_range, -List.getD_eq_getElem?_getD, e]
theorem zFs_len {G : zG} {σ : zSt} {p tag : Nat} : (zFs G σ p tag).length = (zFT tag).length := by simp [zFs]
theorem zFs_set {G : zG} {σ σ' : zSt} {p tag k ty : Nat} {v : Value} (h : (zFT tag)[k]? = some ty) (hk : zVal G σ' p ty k = v) (ho : ∀ i ty, i ≠ k → zVal G σ' p ty i = zVal G σ p ty i) : zFs G σ' p tag = (zFs G σ p tag).set k v := by
  apply List.ext_getElem?
  intro i
  rw [List.getElem?_set]
  by_cases hi : k = i
  · subst hi
    rw [if_pos rfl, if_pos (by rw [zFs_len]; exact (List.getElem?_eq_some_iff.mp h).1), zFs_get h, hk]
  · rw [if_neg hi]
    cases hg : (zFT tag)[i]? with
    | some t2 => rw [zFs_get hg, zFs_get hg, ho i t2 (fun q => hi q.symm)]
    | none =>
      have h1 : (zFs G σ' p tag)[i]? = none := List.getElem?_eq_none (by rw [zFs_len]; exact List.getElem?_eq_none_iff.mp hg)
      have h2 : (zFs G σ p tag)[i]? = none := List.getElem?_eq_none (by rw [zFs_len]; exact List.getElem?_eq_none_iff.mp hg)
      rw [h1, h2]
theorem zW_obj {G : zG} {σ : zSt} {p tag : Nat} (ht : tag < 13) (h : Nat.beq (zKd σ.1 p).1 tag = true) : (zW G σ)[p]? = some (zAd G p, .inr (tag, zFs G σ p tag)) ∧ zCell G σ p (zKd σ.1 p) = .inr (tag, zFs G σ p tag) := by
  have h := Nat.eq_of_beq_eq_true h
  have e : zCell G σ p (zKd σ.1 p) = .inr (tag, zFs G σ p tag) := by
    unfold zCell
    rw [h, if_pos ht]
  exact ⟨by rw [zW_get (zKd_lt (t := (zKd σ.1 p).1) (n := (zKd σ.1 p).2) rfl (by omega)), e], e⟩
theorem zW_arr {G : zG} {σ : zSt} {p t n : Nat} (h : zKd σ.1 p = (t, n)) (h1 : 13 ≤ t) (h2 : t ≤ 20) : (zW G σ)[p]? = some (zAd G p, .inl (zgY G t, zArr G σ p t n)) := by
  rw [zW_get (zKd_lt h (by omega)), h]
  unfold zCell
  rw [if_neg (by omega)]
theorem z_upI_ne {f : Nat → Nat → Int32} {p k q : Nat} {v : Int32} (h : q ≠ p) : z_upI f p k v q = f q := va_up_ne _ _ h
theorem z_upI_self {f : Nat → Nat → Int32} {p k : Nat} {v : Int32} : z_upI f p k v p = upd (f p) k v := va_up_self _ _ _
theorem z_upJ_ne {f : Nat → Nat → Int64} {p k q : Nat} {v : Int64} (h : q ≠ p) : z_upJ f p k v q = f q := va_up_ne _ _ h
theorem z_upJ_self {f : Nat → Nat → Int64} {p k : Nat} {v : Int64} : z_upJ f p k v p = vp_updL (f p) k v := va_up_self _ _ _
theorem z_upR_ne {f : Nat → Nat → Option Nat} {p k q : Nat} {v : Option Nat} (h : q ≠ p) : z_upR f p k v q = f q := va_up_ne _ _ h
theorem z_upR_self {f : Nat → Nat → Option Nat} {p k : Nat} {v : Option Nat} : z_upR f p k v p = va_up (f p) k v := va_up_self _ _ _
def zLk (own : String) (idx : Nat) (ref n d : String) : Prop := Cond.fieldLink own idx ref n d ∈ zWs ∨ ∃ host, Cond.fieldLinkNest own idx ref n d host ∈ zNs
section ZH
variable {G : zG} {R : Room} {own : String} {cc : ByteArray} {nL : Nat} {ret : Option FieldType} {F : List Frame → Array Value → State → State → Prop} {cs sl : Nat} {C : zCl} {Rt : zRt} {pc : Nat}
theorem zgetf {p : Program} {e : Env} {s : State} {m : MethodId} {args : Array Value} {below : List Frame} {meth : Method} {c : Code} {H : Heap} {locs : List Loc} {lsR : Array Slot} {rest : List Value} {Q : State → Prop} {σ : zSt} {tag k N idx q ty : Nat} {Cn : String} {T : u_T} (hE : zEnv G own cc nL ret p s m args meth c) (hw : zWd G σ H)
    (hc : vwCl[tag]? = some (Cn, T, N)) (hk : k < N) (ht : (zFT tag)[k]? = some ty) (hin : ∀ w ∈ u_ws Cn T N, w ∈ zWs) (hlk : zLk own idx (T k).1 (T k).2.1 (T k).2.2.1) (hd : decode cc pc = .ok (.getfield idx, 3)) (hb : Nat.beq (zKd σ.1 q).1 tag = true)
    (kk : W p (zgL G) e R s m args below meth c H locs cs sl Q (F0 m (pc + 3) lsR (zVal G σ q ty k :: rest))) : W p (zgL G) e R s m args below meth c H locs cs sl Q (F0 m pc lsR (.ref (zAd G q) :: rest)) := by
  have h13 : tag < 13 := by have := (List.getElem?_eq_some_iff.mp hc).1; simpa using this
  rcases hlk with hlk | ⟨host, hlk⟩
  · exact va_get (ref := (T k).1) hE.1 hE.2.1 hE.2.2.2.2.2.2.1 hin hE.2.2.2.2.2.1 hE.2.2.2.2.2.2.2.1 hw.2 q (zW_obj h13 hb).1 hc k hk (hE.2.2.2.2.2.2.1 _ hlk) (fun _ h9 => h9) (zFs_get ht) hd kk
  · exact va_getN (ref := (T k).1) (host := host) hE.1 hE.2.1 hE.2.2.2.2.2.2.1 hin hE.2.2.2.2.2.1 hE.2.2.2.2.2.2.2.1 hw.2 q (zW_obj h13 hb).1 hc k hk (va_Nw.use rfl (hE.2.2.2.2.2.2.2.2.1 _ hlk)) (fun _ h9 => h9) (zFs_get ht) hd kk
theorem zputf {p : Program} {e : Env} {s : State} {m : MethodId} {args : Array Value} {below : List Frame} {meth : Method} {c : Code} {H : Heap} {locs : List Loc} {lsR : Array Slot} {rest : List Value} {Q : State → Prop} {σ σ' : zSt} {tag k N idx q ty : Nat} {Cn : String} {T : u_T} {ty0 : Nat → FieldType} {v : Value} {fty : FieldType} (hE : zEnv G own cc nL ret p s m args meth c) (hw : zWd G σ H) (hS : va_S (zA G) s.heap H locs)
    (hc : vwCl[tag]? = some (Cn, T, N)) (hk : k < N) (ht : (zFT tag)[k]? = some ty) (hin : ∀ w ∈ u_ws Cn T N, w ∈ zWs) (hty : ∀ k, k < N → parseFieldDescriptor (T k).2.2.1 = some (ty0 k)) (hnm : ∀ a, a < N → ∀ b, b < N → a ≠ b → (T a).2.1 ≠ (T b).2.1) (hlk : zLk own idx (T k).1 (T k).2.1 (T k).2.2.1) (hfin : (T k).2.2.2 = false) (hfd : parseFieldDescriptor (T k).2.2.1 = some fty) (hn : narrow fty v = v) (hfit : fits fty v = true) (hd : decode cc pc = .ok (.putfield idx, 3)) (hb : Nat.beq (zKd σ.1 q).1 tag = true)
    (hK : σ'.1 = σ.1) (hv : zVal G σ' q ty k = v) (ho : ∀ i ty, i ≠ k → zVal G σ' q ty i = zVal G σ q ty i) (hq : ∀ x, x ≠ q → σ'.2.1 x = σ.2.1 x ∧ σ'.2.2.1 x = σ.2.2.1 x ∧ σ'.2.2.2 x = σ.2.2.2 x)
    (kk : ∀ (H1 : Heap) (locs1 : List Loc), zWd G σ' H1 → va_S (zA G) s.heap H1 locs1 → W p (zgL G) e R s m args below meth c H1 locs1 cs sl Q (F0 m (pc + 3) lsR rest)) : W p (zgL G) e R s m args below meth c H locs cs sl Q (F0 m pc lsR (v :: .ref (zAd G q) :: rest)) := by
  have h13 : tag < 13 := by have := (List.getElem?_eq_some_iff.mp hc).1; simpa using this
  have hlen : k < (zFs G σ q tag).length := by rw [zFs_len]; exact (List.getElem?_eq_some_iff.mp ht).1
  have hset : (zW G σ).set q (zAd G q, .inr (tag, (zFs G σ q tag).set k v)) = zW G σ' := by
    refine zW_set hK hq ?_
    have e1 := Nat.eq_of_beq_eq_true hb
    unfold zCell
    rw [e1, if_pos h13, zFs_set ht hv ho]
  have fin : ∀ (H1 : Heap) (locs1 : List Loc), va_P (zgD G) vwCl ((zW G σ).set q (zAd G q, .inr (tag, (zFs G σ q tag).set k v))) H1 → va_D (zA G) ((zW G σ).set q (zAd G q, .inr (tag, (zFs G σ q tag).set k v))) → va_S (zA G) s.heap H1 locs1 → W p (zgL G) e R s m args below meth c H1 locs1 cs sl Q (F0 m (pc + 3) lsR rest) := by
    intro H1 locs1 hP1 _ hS1
    rw [hset] at hP1
    exact kk H1 locs1 ⟨by rw [hK]; exact hw.1, hP1⟩ hS1
  rcases hlk with hlk | ⟨host, hlk⟩
  · exact va_put (ref := (T k).1) hE.1 hE.2.1 hE.2.2.2.2.2.2.1 hin ty0 hty hnm hE.2.2.2.2.2.1 hE.2.2.2.2.2.2.2.1 hw.2 (zW_D hw.1) hS q (zW_obj h13 hb).1 hc k hk (hE.2.2.2.2.2.2.1 _ hlk) (fun _ h9 => h9) hfin hfd hn hfit hlen hd fin
  · exact va_putN (ref := (T k).1) (host := host) hE.1 hE.2.1 hE.2.2.2.2.2.2.1 hin ty0 hty hnm hE.2.2.2.2.2.1 hE.2.2.2.2.2.2.2.1 hw.2 (zW_D hw.1) hS q (zW_obj h13 hb).1 hc k hk (va_Nw.use rfl (hE.2.2.2.2.2.2.2.2.1 _ hlk)) (fun _ h9 => h9) hfin hfd hn hfit hlen hd fin
end ZH
end
section
section ZH2
variable {G : zG} {R : Room} {own : String} {cc : ByteArray} {nL : Nat} {ret : Option FieldType} {F : List Frame → Array Value → State → State → Prop} {cs sl : Nat} {C : zCl} {Rt : zRt} {pc : Nat}
theorem k_gI {tag k N idx : Nat} {Cn : String} {T : u_T} (hc : vwCl[tag]? = some (Cn, T, N)) (hk : k < N) (ht : (zFT tag)[k]? = some 0) (hin : ∀ w ∈ u_ws Cn T N, w ∈ zWs) (hlk : zLk own idx (T k).1 (T k).2.1 (T k).2.2.1) (hd : decode cc pc = .ok (.getfield idx, 3)) : zOK G R own cc nL ret F cs sl C Rt pc (pc + 3) (o_gI tag k) := by
  intro nx jp hn hj ls st σ h
  obtain ⟨K, I, J, Q⟩ := σ
  simp only [o_gI] at h
  split at h
  · obtain ⟨hb, h⟩ := zB_out h
    intro p e s m args below meth c hE H locs lsR hw hS hl
    exact zgetf hE hw hc hk ht hin hlk hd hb (hn _ _ _ h p e s m args below meth c hE H locs lsR hw hS hl)
  · exact h.elim

theorem k_gZ {tag k N idx : Nat} {Cn : String} {T : u_T} (hc : vwCl[tag]? = some (Cn, T, N)) (hk : k < N) (ht : (zFT tag)[k]? = some 3) (hin : ∀ w ∈ u_ws Cn T N, w ∈ zWs) (hlk : zLk own idx (T k).1 (T k).2.1 (T k).2.2.1) (hd : decode cc pc = .ok (.getfield idx, 3)) : zOK G R own cc nL ret F cs sl C Rt pc (pc + 3) (o_gI tag k) := by
  intro nx jp hn hj ls st σ h
  obtain ⟨K, I, J, Q⟩ := σ
  simp only [o_gI] at h
  split at h
  · obtain ⟨hb, h⟩ := zB_out h
    intro p e s m args below meth c hE H locs lsR hw hS hl
    exact zgetf hE hw hc hk ht hin hlk hd hb (hn _ _ _ h p e s m args below meth c hE H locs lsR hw hS hl)
  · exact h.elim

theorem k_gJ {tag k N idx : Nat} {Cn : String} {T : u_T} (hc : vwCl[tag]? = some (Cn, T, N)) (hk : k < N) (ht : (zFT tag)[k]? = some 1) (hin : ∀ w ∈ u_ws Cn T N, w ∈ zWs) (hlk : zLk own idx (T k).1 (T k).2.1 (T k).2.2.1) (hd : decode cc pc = .ok (.getfield idx, 3)) : zOK G R own cc nL ret F cs sl C Rt pc (pc + 3) (o_gJ tag k) := by
  intro nx jp hn hj ls st σ h
  obtain ⟨K, I, J, Q⟩ := σ
  simp only [o_gJ] at h
  split at h
  · obtain ⟨hb, h⟩ := zB_out h
    intro p e s m args below meth c hE H locs lsR hw hS hl
    exact zgetf hE hw hc hk ht hin hlk hd hb (hn _ _ _ h p e s m args below meth c hE H locs lsR hw hS hl)
  · exact h.elim

theorem k_gR {tag k N idx : Nat} {Cn : String} {T : u_T} (hc : vwCl[tag]? = some (Cn, T, N)) (hk : k < N) (ht : (zFT tag)[k]? = some 2) (hin : ∀ w ∈ u_ws Cn T N, w ∈ zWs) (hlk : zLk own idx (T k).1 (T k).2.1 (T k).2.2.1) (hd : decode cc pc = .ok (.getfield idx, 3)) : zOK G R own cc nL ret F cs sl C Rt pc (pc + 3) (o_gR tag k) := by
  intro nx jp hn hj ls st σ h
  obtain ⟨K, I, J, Q⟩ := σ
  simp only [o_gR] at h
  split at h
  · rename_i q r
    obtain ⟨hb, h⟩ := zB_out h
    intro p e s m args below meth c hE H locs lsR hw hS hl
    refine zgetf hE hw hc hk ht hin hlk hd hb ?_
    cases hq : Q q k with
    | some a =>
      rw [hq] at h
      show W p (zgL G) e R s m args below meth c H locs cs sl (F below args s) (F0 m (pc + 3) lsR (va_rf ((Q q k).map (zAd G)) :: r.map (zV G)))
      rw [hq]
      exact hn _ _ _ h p e s m args below meth c hE H locs lsR hw hS hl
    | none =>
      rw [hq] at h
      show W p (zgL G) e R s m args below meth c H locs cs sl (F below args s) (F0 m (pc + 3) lsR (va_rf ((Q q k).map (zAd G)) :: r.map (zV G)))
      rw [hq]
      exact hn _ _ _ h p e s m args below meth c hE H locs lsR hw hS hl
  · exact h.elim

theorem zVal_upI {σ : zSt} {q k i ty : Nat} {v : Int32} (h : i ≠ k) : zVal G (σ.1, z_upI σ.2.1 q k v, σ.2.2.1, σ.2.2.2) q ty i = zVal G σ q ty i := by
  unfold zVal
  split
  · rfl
  · rfl
  · show Value.int (z_upI σ.2.1 q k v q i) = _
    rw [z_upI_self, pk_un h]
theorem zVal_upJ {σ : zSt} {q k i ty : Nat} {v : Int64} (h : i ≠ k) : zVal G (σ.1, σ.2.1, z_upJ σ.2.2.1 q k v, σ.2.2.2) q ty i = zVal G σ q ty i := by
  unfold zVal
  split
  · show Value.long (z_upJ σ.2.2.1 q k v q i) = _
    rw [z_upJ_self, pk_uLn h]
  · rfl
  · rfl
theorem z_nb {v : Int32} (h : v = 0 ∨ v = 1) : narrow .boolean (.int v) = .int v ∧ fits .boolean (.int v) = true := by
  rcases h with rfl | rfl <;> exact ⟨by decide, by decide⟩
theorem k_pI {tag k N idx : Nat} {Cn : String} {T : u_T} (hc : vwCl[tag]? = some (Cn, T, N)) (hk : k < N) (ht : (zFT tag)[k]? = some 0) (hin : ∀ w ∈ u_ws Cn T N, w ∈ zWs) (hlk : zLk own idx (T k).1 (T k).2.1 (T k).2.2.1) {ty0 : Nat → FieldType} (hty : ∀ k, k < N → parseFieldDescriptor (T k).2.2.1 = some (ty0 k)) (hnm : ∀ a, a < N → ∀ b, b < N → a ≠ b → (T a).2.1 ≠ (T b).2.1) (hfin : (T k).2.2.2 = false) (hfd : parseFieldDescriptor (T k).2.2.1 = some .int) (hd : decode cc pc = .ok (.putfield idx, 3)) : zOK G R own cc nL ret F cs sl C Rt pc (pc + 3) (o_pI tag k) := by
  intro nx jp hn hj ls st σ h
  obtain ⟨K, I, J, Q⟩ := σ
  simp only [o_pI] at h
  split at h
  · rename_i v q r
    obtain ⟨hb, h⟩ := zB_out h
    intro p e s m args below meth c hE H locs lsR hw hS hl
    refine zputf (σ' := (K, z_upI I q k v, J, Q)) hE hw hS hc hk ht hin hty hnm hlk hfin hfd (vp_nar_int _) rfl hd hb rfl ?_ (fun i ty hi => zVal_upI (σ := (K, I, J, Q)) hi) (fun x hx => ⟨z_upI_ne hx, rfl, rfl⟩) (fun H1 locs1 hw1 hS1 => hn _ _ _ h p e s m args below meth c hE H1 locs1 lsR hw1 hS1 hl)
    show Value.int (z_upI I q k v q k) = .int v
    rw [z_upI_self, pk_us]
  · exact h.elim

theorem k_pZ {tag k N idx : Nat} {Cn : String} {T : u_T} (hc : vwCl[tag]? = some (Cn, T, N)) (hk : k < N) (ht : (zFT tag)[k]? = some 3) (hin : ∀ w ∈ u_ws Cn T N, w ∈ zWs) (hlk : zLk own idx (T k).1 (T k).2.1 (T k).2.2.1) {ty0 : Nat → FieldType} (hty : ∀ k, k < N → parseFieldDescriptor (T k).2.2.1 = some (ty0 k)) (hnm : ∀ a, a < N → ∀ b, b < N → a ≠ b → (T a).2.1 ≠ (T b).2.1) (hfin : (T k).2.2.2 = false) (hfd : parseFieldDescriptor (T k).2.2.1 = some .boolean) (hd : decode cc pc = .ok (.putfield idx, 3)) : zOK G R own cc nL ret F cs sl C Rt pc (pc + 3) (o_pZ tag k) := by
  intro nx jp hn hj ls st σ h
  obtain ⟨K, I, J, Q⟩ := σ
  simp only [o_pZ] at h
  split at h
  · rename_i v q r
    obtain ⟨hb, h⟩ := zB_out h
    intro p e s m args below meth c hE H locs lsR hw hS hl
    refine zputf (σ' := (K, z_upI I q k v, J, Q)) hE hw hS hc hk ht hin hty hnm hlk hfin hfd (z_nb h.1).1 (z_nb h.1).2 hd hb rfl ?_ (fun i ty hi => zVal_upI (σ := (K, I, J, Q)) hi) (fun x hx => ⟨z_upI_ne hx, rfl, rfl⟩) (fun H1 locs1 hw1 hS1 => hn _ _ _ h.2 p e s m args below meth c hE H1 locs1 lsR hw1 hS1 hl)
    show Value.int (z_upI I q k v q k) = .int v
    rw [z_upI_self, pk_us]
  · exact h.elim

theorem k_pJ {tag k N idx : Nat} {Cn : String} {T : u_T} (hc : vwCl[tag]? = some (Cn, T, N)) (hk : k < N) (ht : (zFT tag)[k]? = some 1) (hin : ∀ w ∈ u_ws Cn T N, w ∈ zWs) (hlk : zLk own idx (T k).1 (T k).2.1 (T k).2.2.1) {ty0 : Nat → FieldType} (hty : ∀ k, k < N → parseFieldDescriptor (T k).2.2.1 = some (ty0 k)) (hnm : ∀ a, a < N → ∀ b, b < N → a ≠ b → (T a).2.1 ≠ (T b).2.1) (hfin : (T k).2.2.2 = false) (hfd : parseFieldDescriptor (T k).2.2.1 = some .long) (hd : decode cc pc = .ok (.putfield idx, 3)) : zOK G R own cc nL ret F cs sl C Rt pc (pc + 3) (o_pJ tag k) := by
  intro nx jp hn hj ls st σ h
  obtain ⟨K, I, J, Q⟩ := σ
  simp only [o_pJ] at h
  split at h
  · rename_i v q r
    obtain ⟨hb, h⟩ := zB_out h
    intro p e s m args below meth c hE H locs lsR hw hS hl
    refine zputf (σ' := (K, I, z_upJ J q k v, Q)) hE hw hS hc hk ht hin hty hnm hlk hfin hfd rfl rfl hd hb rfl ?_ (fun i ty hi => zVal_upJ (σ := (K, I, J, Q)) hi) (fun x hx => ⟨rfl, z_upJ_ne hx, rfl⟩) (fun H1 locs1 hw1 hS1 => hn _ _ _ h p e s m args below meth c hE H1 locs1 lsR hw1 hS1 hl)
    show Value.long (z_upJ J q k v q k) = .long v
    rw [z_upJ_self, pk_uLs]
  · exact h.elim

theorem k_iald (hd : decode cc pc = .ok (.iaload, 1)) : zOK G R own cc nL ret F cs sl C Rt pc (pc + 1) (o_xI 14) := by
  intro nx jp hn hj ls st σ h
  obtain ⟨K, I, J, Q⟩ := σ
  simp only [o_xI] at h
  split at h
  · rename_i i q r
    rcases hk : zKd K q with ⟨t2, n⟩
    rw [hk] at h
    obtain ⟨hb, h⟩ := zB_out h
    have hb := Nat.eq_of_beq_eq_true hb
    subst hb
    have hg := zW_arr (G := G) (σ := (K, I, J, Q)) (p := q) hk (by decide) (by decide)
    intro p e s m args below meth c hE H locs lsR hw hS hl
    exact va_iald hE.1 hE.2.1 hE.2.2.2.2.2.2.2.1 hw.2 q 1 hg rfl h.1 hd (hn _ _ _ h.2 p e s m args below meth c hE H locs lsR hw hS hl)
  · exact h.elim

theorem k_bald (hd : decode cc pc = .ok (.baload, 1)) : zOK G R own cc nL ret F cs sl C Rt pc (pc + 1) (o_xI 13) := by
  intro nx jp hn hj ls st σ h
  obtain ⟨K, I, J, Q⟩ := σ
  simp only [o_xI] at h
  split at h
  · rename_i i q r
    rcases hk : zKd K q with ⟨t2, n⟩
    rw [hk] at h
    obtain ⟨hb, h⟩ := zB_out h
    have hb := Nat.eq_of_beq_eq_true hb
    subst hb
    have hg := zW_arr (G := G) (σ := (K, I, J, Q)) (p := q) hk (by decide) (by decide)
    intro p e s m args below meth c hE H locs lsR hw hS hl
    exact va_bald hE.1 hE.2.1 hE.2.2.2.2.2.2.2.1 hw.2 q 0 hg rfl h.1 hd (hn _ _ _ h.2 p e s m args below meth c hE H locs lsR hw hS hl)
  · exact h.elim

theorem k_zald (hd : decode cc pc = .ok (.baload, 1)) : zOK G R own cc nL ret F cs sl C Rt pc (pc + 1) (o_xI 16) := by
  intro nx jp hn hj ls st σ h
  obtain ⟨K, I, J, Q⟩ := σ
  simp only [o_xI] at h
  split at h
  · rename_i i q r
    rcases hk : zKd K q with ⟨t2, n⟩
    rw [hk] at h
    obtain ⟨hb, h⟩ := zB_out h
    have hb := Nat.eq_of_beq_eq_true hb
    subst hb
    have hg := zW_arr (G := G) (σ := (K, I, J, Q)) (p := q) hk (by decide) (by decide)
    intro p e s m args below meth c hE H locs lsR hw hS hl
    exact va_zald hE.1 hE.2.1 hE.2.2.2.2.2.2.2.1 hw.2 q 3 hg rfl h.1 hd (hn _ _ _ h.2 p e s m args below meth c hE H locs lsR hw hS hl)
  · exact h.elim

theorem k_lald (hd : decode cc pc = .ok (.laload, 1)) : zOK G R own cc nL ret F cs sl C Rt pc (pc + 1) (o_xJ) := by
  intro nx jp hn hj ls st σ h
  obtain ⟨K, I, J, Q⟩ := σ
  simp only [o_xJ] at h
  split at h
  · rename_i i q r
    rcases hk : zKd K q with ⟨t2, n⟩
    rw [hk] at h
    obtain ⟨hb, h⟩ := zB_out h
    have hb := Nat.eq_of_beq_eq_true hb
    subst hb
    have hg := zW_arr (G := G) (σ := (K, I, J, Q)) (p := q) hk (by decide) (by decide)
    intro p e s m args below meth c hE H locs lsR hw hS hl
    exact va_lald hE.1 hE.2.1 hE.2.2.2.2.2.2.2.1 hw.2 q 2 hg rfl h.1 hd (hn _ _ _ h.2 p e s m args below meth c hE H locs lsR hw hS hl)
  · exact h.elim

theorem zaldq {p : Program} {l : Launch} {e : Env} {s : State} {m : MethodId} {args : Array Value} {below : List Frame} {meth : Method} {c : Code} {H : Heap} {locs : List Loc} {ls : Array Slot} {rest : List Value} {Q : State → Prop} {D : va_G} {cl : List vw_C} {tys : List (ClassId × FieldType)} {ws : va_W} {a : Nat} (hexec : p.tables.exec = Jvm.exec) (hb : c.code = cc) (hK : va_K D cl tys s) (hP : va_P D cl ws H) (q0 t0 : Nat) {cA : ClassId} {ty : FieldType} {n : Nat} {f : Nat → Option Nat} (hr : ty.isReference = true) (ha : ws[q0]? = some (a, .inl (cA, n, .inr (.inr (.inr (.inr f)))))) (ht : tys[t0]? = some (cA, ty)) {i : Int32} (hin : vp_in i n) (hdg : decode cc pc = .ok (.aaload, 1))
    (kk : W p l e R s m args below meth c H locs cs sl Q (F0 m (pc + 1) ls (va_rf (f i.toNatClampNeg) :: rest))) : W p l e R s m args below meth c H locs cs sl Q (F0 m pc ls (.int i :: .ref a :: rest)) := by
  have hlt : i.toNatClampNeg < n := Nat.not_le.mp fun q => hin (Or.inr q)
  exact W.aald (v := va_rf (f i.toNatClampNeg)) (ty := ty) hexec hb (hP q0 _ ha) ((hK.2 t0 _ ht).1 n (fun j => va_rf (f j))) hr (fun q => by cases q) (by show ¬ (i < 0 ∨ (arrV _ _ _).slots.size ≤ _); rw [arrV_size]; exact hin) (by show (arrV _ _ _).slots[_]? = _; rw [arrV_read _ _ hlt]) rfl rfl hdg kk
theorem k_aald17 (hd : decode cc pc = .ok (.aaload, 1)) : zOK G R own cc nL ret F cs sl C Rt pc (pc + 1) (o_xR 17) := by
  intro nx jp hn hj ls st σ h
  obtain ⟨K, I, J, Q⟩ := σ
  simp only [o_xR] at h
  split at h
  · rename_i i q r
    rcases hk : zKd K q with ⟨t2, n⟩
    rw [hk] at h
    obtain ⟨hb, h⟩ := zB_out h
    have hb := Nat.eq_of_beq_eq_true hb
    subst hb
    have hg := zW_arr (G := G) (σ := (K, I, J, Q)) (p := q) hk (by decide) (by decide)
    intro p e s m args below meth c hE H locs lsR hw hS hl
    obtain ⟨h1, a, ha, h2⟩ := h
    refine zaldq hE.1 hE.2.1 hE.2.2.2.2.2.2.2.1 hw.2 q 4 rfl hg rfl h1 hd ?_
    show W p (zgL G) e R s m args below meth c H locs cs sl (F below args s) (F0 m (pc + 1) lsR (va_rf ((Q q i.toNatClampNeg).map (zAd G)) :: r.map (zV G)))
    rw [ha]
    exact hn _ _ _ h2 p e s m args below meth c hE H locs lsR hw hS hl
  · exact h.elim

theorem k_aald18 (hd : decode cc pc = .ok (.aaload, 1)) : zOK G R own cc nL ret F cs sl C Rt pc (pc + 1) (o_xR 18) := by
  intro nx jp hn hj ls st σ h
  obtain ⟨K, I, J, Q⟩ := σ
  simp only [o_xR] at h
  split at h
  · rename_i i q r
    rcases hk : zKd K q with ⟨t2, n⟩
    rw [hk] at h
    obtain ⟨hb, h⟩ := zB_out h
    have hb := Nat.eq_of_beq_eq_true hb
    subst hb
    have hg := zW_arr (G := G) (σ := (K, I, J, Q)) (p := q) hk (by decide) (by decide)
    intro p e s m args below meth c hE H locs lsR hw hS hl
    obtain ⟨h1, a, ha, h2⟩ := h
    refine zaldq hE.1 hE.2.1 hE.2.2.2.2.2.2.2.1 hw.2 q 5 rfl hg rfl h1 hd ?_
    show W p (zgL G) e R s m args below meth c H locs cs sl (F below args s) (F0 m (pc + 1) lsR (va_rf ((Q q i.toNatClampNeg).map (zAd G)) :: r.map (zV G)))
    rw [ha]
    exact hn _ _ _ h2 p e s m args below meth c hE H locs lsR hw hS hl
  · exact h.elim

theorem k_aald19 (hd : decode cc pc = .ok (.aaload, 1)) : zOK G R own cc nL ret F cs sl C Rt pc (pc + 1) (o_xR 19) := by
  intro nx jp hn hj ls st σ h
  obtain ⟨K, I, J, Q⟩ := σ
  simp only [o_xR] at h
  split at h
  · rename_i i q r
    rcases hk : zKd K q with ⟨t2, n⟩
    rw [hk] at h
    obtain ⟨hb, h⟩ := zB_out h
    have hb := Nat.eq_of_beq_eq_true hb
    subst hb
    have hg := zW_arr (G := G) (σ := (K, I, J, Q)) (p := q) hk (by decide) (by decide)
    intro p e s m args below meth c hE H locs lsR hw hS hl
    obtain ⟨h1, a, ha, h2⟩ := h
    refine zaldq hE.1 hE.2.1 hE.2.2.2.2.2.2.2.1 hw.2 q 6 rfl hg rfl h1 hd ?_
    show W p (zgL G) e R s m args below meth c H locs cs sl (F below args s) (F0 m (pc + 1) lsR (va_rf ((Q q i.toNatClampNeg).map (zAd G)) :: r.map (zV G)))
    rw [ha]
    exact hn _ _ _ h2 p e s m args below meth c hE H locs lsR hw hS hl
  · exact h.elim

theorem k_aald20 (hd : decode cc pc = .ok (.aaload, 1)) : zOK G R own cc nL ret F cs sl C Rt pc (pc + 1) (o_xR 20) := by
  intro nx jp hn hj ls st σ h
  obtain ⟨K, I, J, Q⟩ := σ
  simp only [o_xR] at h
  split at h
  · rename_i i q r
    rcases hk : zKd K q with ⟨t2, n⟩
    rw [hk] at h
    obtain ⟨hb, h⟩ := zB_out h
    have hb := Nat.eq_of_beq_eq_true hb
    subst hb
    have hg := zW_arr (G := G) (σ := (K, I, J, Q)) (p := q) hk (by decide) (by decide)
    intro p e s m args below meth c hE H locs lsR hw hS hl
    obtain ⟨h1, a, ha, h2⟩ := h
    refine zaldq hE.1 hE.2.1 hE.2.2.2.2.2.2.2.1 hw.2 q 7 rfl hg rfl h1 hd ?_
    show W p (zgL G) e R s m args below meth c H locs cs sl (F below args s) (F0 m (pc + 1) lsR (va_rf ((Q q i.toNatClampNeg).map (zAd G)) :: r.map (zV G)))
    rw [ha]
    exact hn _ _ _ h2 p e s m args below meth c hE H locs lsR hw hS hl
  · exact h.elim

theorem k_iast (hd : decode cc pc = .ok (.iastore, 1)) : zOK G R own cc nL ret F cs sl C Rt pc (pc + 1) (o_yI) := by
  intro nx jp hn hj ls st σ h
  obtain ⟨K, I, J, Q⟩ := σ
  simp only [o_yI] at h
  split at h
  · rename_i v i q r
    rcases hk : zKd K q with ⟨t2, n⟩
    rw [hk] at h
    obtain ⟨hb, h⟩ := zB_out h
    have hb := Nat.eq_of_beq_eq_true hb
    subst hb
    have hg := zW_arr (G := G) (σ := (K, I, J, Q)) (p := q) hk (by decide) (by decide)
    intro p e s m args below meth c hE H locs lsR hw hS hl
    refine va_iast hE.1 hE.2.1 hE.2.2.2.2.2.2.2.1 hw.2 (zW_D hw.1) hS q 1 hg rfl h.1 hd (fun H1 locs1 hP1 _ hS1 => ?_)
    have hset := zW_set (G := G) (σ := (K, I, J, Q)) (σ' := (K, z_upI I q i.toNatClampNeg v, J, Q)) (p := q) (e := .inl (zgY G 14, n, .inl (upd (I q) i.toNatClampNeg v))) rfl (fun x hx => ⟨z_upI_ne hx, rfl, rfl⟩) (by rw [show zKd (K, I, J, Q).1 q = (14, n) from hk]; show _ = Sum.inl (zgY G 14, n, Sum.inl (z_upI I q _ _ q)); rw [z_upI_self])
    have hP1 := hset ▸ hP1
    exact hn _ _ _ h.2 p e s m args below meth c hE H1 locs1 lsR ⟨hw.1, hP1⟩ hS1 hl
  · exact h.elim

theorem k_bast (hd : decode cc pc = .ok (.bastore, 1)) : zOK G R own cc nL ret F cs sl C Rt pc (pc + 1) (o_yB) := by
  intro nx jp hn hj ls st σ h
  obtain ⟨K, I, J, Q⟩ := σ
  simp only [o_yB] at h
  split at h
  · rename_i v i q r
    rcases hk : zKd K q with ⟨t2, n⟩
    rw [hk] at h
    obtain ⟨hb, h⟩ := zB_out h
    have hb := Nat.eq_of_beq_eq_true hb
    subst hb
    have hg := zW_arr (G := G) (σ := (K, I, J, Q)) (p := q) hk (by decide) (by decide)
    intro p e s m args below meth c hE H locs lsR hw hS hl
    refine va_bast hE.1 hE.2.1 hE.2.2.2.2.2.2.2.1 hw.2 (zW_D hw.1) hS q 0 hg rfl h.1 hd (fun H1 locs1 hP1 _ hS1 => ?_)
    have hset := zW_set (G := G) (σ := (K, I, J, Q)) (σ' := (K, z_upI I q i.toNatClampNeg (vp_nar .byte v), J, Q)) (p := q) (e := .inl (zgY G 13, n, .inl (upd (I q) i.toNatClampNeg (vp_nar .byte v)))) rfl (fun x hx => ⟨z_upI_ne hx, rfl, rfl⟩) (by rw [show zKd (K, I, J, Q).1 q = (13, n) from hk]; show _ = Sum.inl (zgY G 13, n, Sum.inl (z_upI I q _ _ q)); rw [z_upI_self])
    have hP1 := hset ▸ hP1
    exact hn _ _ _ h.2 p e s m args below meth c hE H1 locs1 lsR ⟨hw.1, hP1⟩ hS1 hl
  · exact h.elim

theorem k_zast (hd : decode cc pc = .ok (.bastore, 1)) : zOK G R own cc nL ret F cs sl C Rt pc (pc + 1) (o_yZ) := by
  intro nx jp hn hj ls st σ h
  obtain ⟨K, I, J, Q⟩ := σ
  simp only [o_yZ] at h
  split at h
  · rename_i v i q r
    rcases hk : zKd K q with ⟨t2, n⟩
    rw [hk] at h
    obtain ⟨hb, h⟩ := zB_out h
    have hb := Nat.eq_of_beq_eq_true hb
    subst hb
    have hg := zW_arr (G := G) (σ := (K, I, J, Q)) (p := q) hk (by decide) (by decide)
    intro p e s m args below meth c hE H locs lsR hw hS hl
    refine va_zast hE.1 hE.2.1 hE.2.2.2.2.2.2.2.1 hw.2 (zW_D hw.1) hS q 3 hg rfl h.1 hd (fun H1 locs1 hP1 _ hS1 => ?_)
    have hset := zW_set (G := G) (σ := (K, I, J, Q)) (σ' := (K, z_upI I q i.toNatClampNeg (vp_nar .boolean v), J, Q)) (p := q) (e := .inl (zgY G 16, n, .inl (upd (I q) i.toNatClampNeg (vp_nar .boolean v)))) rfl (fun x hx => ⟨z_upI_ne hx, rfl, rfl⟩) (by rw [show zKd (K, I, J, Q).1 q = (16, n) from hk]; show _ = Sum.inl (zgY G 16, n, Sum.inl (z_upI I q _ _ q)); rw [z_upI_self])
    have hP1 := hset ▸ hP1
    exact hn _ _ _ h.2 p e s m args below meth c hE H1 locs1 lsR ⟨hw.1, hP1⟩ hS1 hl
  · exact h.elim

theorem k_last (hd : decode cc pc = .ok (.lastore, 1)) : zOK G R own cc nL ret F cs sl C Rt pc (pc + 1) (o_yJ) := by
  intro nx jp hn hj ls st σ h
  obtain ⟨K, I, J, Q⟩ := σ
  simp only [o_yJ] at h
  split at h
  · rename_i v i q r
    rcases hk : zKd K q with ⟨t2, n⟩
    rw [hk] at h
    obtain ⟨hb, h⟩ := zB_out h
    have hb := Nat.eq_of_beq_eq_true hb
    subst hb
    have hg := zW_arr (G := G) (σ := (K, I, J, Q)) (p := q) hk (by decide) (by decide)
    intro p e s m args below meth c hE H locs lsR hw hS hl
    refine va_last hE.1 hE.2.1 hE.2.2.2.2.2.2.2.1 hw.2 (zW_D hw.1) hS q 2 hg rfl h.1 hd (fun H1 locs1 hP1 _ hS1 => ?_)
    have hset := zW_set (G := G) (σ := (K, I, J, Q)) (σ' := (K, I, z_upJ J q i.toNatClampNeg v, Q)) (p := q) (e := .inl (zgY G 15, n, .inr (.inl (vp_updL (J q) i.toNatClampNeg v)))) rfl (fun x hx => ⟨rfl, z_upJ_ne hx, rfl⟩) (by rw [show zKd (K, I, J, Q).1 q = (15, n) from hk]; show _ = Sum.inl (zgY G 15, n, Sum.inr (Sum.inl (z_upJ J q _ _ q))); rw [z_upJ_self])
    have hP1 := hset ▸ hP1
    exact hn _ _ _ h.2 p e s m args below meth c hE H1 locs1 lsR ⟨hw.1, hP1⟩ hS1 hl
  · exact h.elim

theorem k_aast (hd : decode cc pc = .ok (.aastore, 1)) : zOK G R own cc nL ret F cs sl C Rt pc (pc + 1) (o_yR 18 5) := by
  intro nx jp hn hj ls st σ h
  obtain ⟨K, I, J, Q⟩ := σ
  simp only [o_yR] at h
  split at h
  · rename_i v i q r
    rcases hk : zKd K q with ⟨t2, n⟩
    rw [hk] at h
    obtain ⟨hb, h⟩ := zB_out h
    have hb := Nat.eq_of_beq_eq_true hb
    subst hb
    obtain ⟨hv, h⟩ := zB_out h
    have hg := zW_arr (G := G) (σ := (K, I, J, Q)) (p := q) hk (by decide) (by decide)
    intro p e s m args below meth c hE H locs lsR hw hS hl
    refine va_astq (r := (RX5, TX5, 4)) hE.1 hE.2.1 hE.2.2.2.2.2.2.2.1 hw.2 (zW_D hw.1) hS q 5 v 5 hg rfl (zW_obj (G := G) (σ := (K, I, J, Q)) (by decide) hv).1 rfl h.1 hd (fun H1 locs1 hP1 _ hS1 => ?_)
    have hset := zW_set (G := G) (σ := (K, I, J, Q)) (σ' := (K, I, J, z_upR Q q i.toNatClampNeg (some v))) (p := q) (e := .inl (zgY G 18, n, .inr (.inr (.inr (.inr (va_up (fun k => (Q q k).map (zAd G)) i.toNatClampNeg (some (zAd G v)))))))) rfl (fun x hx => ⟨rfl, rfl, z_upR_ne hx⟩) (by
      rw [show zKd (K, I, J, Q).1 q = (18, n) from hk]
      show _ = Sum.inl (zgY G 18, n, Sum.inr (Sum.inr (Sum.inr (Sum.inr (fun k => (z_upR Q q i.toNatClampNeg (some v) q k).map (zAd G))))))
      rw [z_upR_self]
      congr 7
      funext k
      by_cases hx : k = i.toNatClampNeg
      · subst hx; rw [va_up_self, va_up_self]; rfl
      · rw [va_up_ne _ _ hx, va_up_ne _ _ hx])
    have hP1 := hset ▸ hP1
    exact hn _ _ _ h.2 p e s m args below meth c hE H1 locs1 lsR ⟨hw.1, hP1⟩ hS1 hl
  · exact h.elim

theorem k_alen (hd : decode cc pc = .ok (.arraylength, 1)) : zOK G R own cc nL ret F cs sl C Rt pc (pc + 1) (o_len) := by
  intro nx jp hn hj ls st σ h
  obtain ⟨K, I, J, Q⟩ := σ
  simp only [o_len] at h
  split at h
  · rename_i q r
    rcases hk : zKd K q with ⟨t2, n⟩
    rw [hk] at h
    obtain ⟨hb1, h⟩ := zB_out h
    obtain ⟨hb2, h⟩ := zB_out h
    have hb1 := Nat.le_of_ble_eq_true hb1
    have hb2 := Nat.le_of_ble_eq_true hb2
    have hg := zW_arr (G := G) (σ := (K, I, J, Q)) (p := q) hk hb1 hb2
    intro p e s m args below meth c hE H locs lsR hw hS hl
    have hx : (zArr G (K, I, J, Q) q t2 n).1 = n := by unfold zArr; split <;> (try split) <;> rfl
    have htt : ∃ ty, (zTy G)[t2 - 13]? = some (zgY G t2, ty) := by
      rcases (show t2 = 13 ∨ t2 = 14 ∨ t2 = 15 ∨ t2 = 16 ∨ t2 = 17 ∨ t2 = 18 ∨ t2 = 19 ∨ t2 = 20 by omega) with rfl | rfl | rfl | rfl | rfl | rfl | rfl | rfl <;> exact ⟨_, rfl⟩
    obtain ⟨ty, htt⟩ := htt
    exact va_alen hE.1 hE.2.1 hE.2.2.2.2.2.2.2.1 hw.2 q (t2 - 13) hg htt (by rw [hx]) hd (hn _ _ _ h p e s m args below meth c hE H locs lsR hw hS hl)
  · exact h.elim

theorem k_gs0 {idx : Nat} {host : String} (hlk : Cond.fieldLinkNest own idx RX11 "BOX" "[I" host ∈ zNs) (hd : decode cc pc = .ok (.getstatic idx, 3)) : zOK G R own cc nL ret F cs sl C Rt pc (pc + 3) (o_gs 0) := by
  intro nx jp hn hj ls st σ h
  intro p e s m args below meth c hE H locs lsR hw hS hl
  have e0 : Value.ref (zgS G 0) = zV G (.ref (1000000 + 0)) := by show _ = Value.ref (zAd G 1000000); rfl
  refine va_getsN (C := RX11) (ref := RX11) hE.1 hE.2.1 hE.2.2.2.2.2.2.2.2.2.2.1 hS hE.2.2.2.2.2.1 (va_Nw.use rfl (hE.2.2.2.2.2.2.2.2.1 _ hlk)) (fun _ h9 => h9) hd ?_
  rw [e0]
  exact hn _ _ _ h p e s m args below meth c hE H locs lsR hw hS hl

theorem k_gs1 {idx : Nat} (hlk : Cond.fieldLink own idx RX12 "ALWAYS" "[I" ∈ zWs) (hd : decode cc pc = .ok (.getstatic idx, 3)) : zOK G R own cc nL ret F cs sl C Rt pc (pc + 3) (o_gs 1) := by
  intro nx jp hn hj ls st σ h
  intro p e s m args below meth c hE H locs lsR hw hS hl
  have e0 : Value.ref (zgS G 1) = zV G (.ref (1000000 + 1)) := by show _ = Value.ref (zAd G 1000001); rfl
  refine va_gets (C := RX12) (ref := RX12) hE.1 hE.2.1 hE.2.2.2.2.2.2.2.2.2.2.2.1 hS hE.2.2.2.2.2.1 (hE.2.2.2.2.2.2.1 _ hlk) (fun _ h9 => h9) hd ?_
  rw [e0]
  exact hn _ _ _ h p e s m args below meth c hE H locs lsR hw hS hl

theorem k_xs {t n : Nat} {f : Nat → Int32} (ht : t < 3) (hN : zSL G t = n) (hf : zSV G t = f) (hd : decode cc pc = .ok (.iaload, 1)) : zOK G R own cc nL ret F cs sl C Rt pc (pc + 1) (o_xs t n f) := by
  intro nx jp hn hj ls st σ h
  simp only [o_xs] at h
  split at h
  · rename_i i q r
    obtain ⟨hb, h2⟩ := zB_out h
    have hb := Nat.eq_of_beq_eq_true hb
    clear h
    subst hb
    intro p e_1 s m args below meth c hE H locs lsR hw hS hl
    have e : zV G (.ref (1000000 + t)) = Value.ref (zgS G t) := by show Value.ref (zAd G (1000000 + t)) = _; unfold zAd; rw [if_neg (by omega), Nat.add_sub_cancel_left]
    show W p (zgL G) e_1 R s m args below meth c H locs cs sl (F below args s) (F0 m pc lsR (.int i :: zV G (.ref (1000000 + t)) :: r.map (zV G)))
    rw [e]
    exact va_ti hE.1 hE.2.1 (hE.2.2.2.2.2.2.2.2.2.1 t ht) hS (by rw [hN]; exact h2.1) (by rw [hf]; rfl) hd (hn _ _ _ h2.2 p e_1 s m args below meth c hE H locs lsR hw hS hl)
  · exact h.elim

theorem k_sl {t n : Nat} (ht : t < 3) (hN : zSL G t = n) (hd : decode cc pc = .ok (.arraylength, 1)) : zOK G R own cc nL ret F cs sl C Rt pc (pc + 1) (o_sl t n) := by
  intro nx jp hn hj ls st σ h
  simp only [o_sl] at h
  split at h
  · rename_i q r
    obtain ⟨hb, h2⟩ := zB_out h
    have hb := Nat.eq_of_beq_eq_true hb
    clear h
    subst hb
    intro p e_1 s m args below meth c hE H locs lsR hw hS hl
    have e : zV G (.ref (1000000 + t)) = Value.ref (zgS G t) := by show Value.ref (zAd G (1000000 + t)) = _; unfold zAd; rw [if_neg (by omega), Nat.add_sub_cancel_left]
    show W p (zgL G) e_1 R s m args below meth c H locs cs sl (F below args s) (F0 m pc lsR (zV G (.ref (1000000 + t)) :: r.map (zV G)))
    rw [e]
    exact va_tlen hE.1 hE.2.1 (hE.2.2.2.2.2.2.2.2.2.1 t ht) hS (by rw [hN]) hd (hn _ _ _ h2 p e_1 s m args below meth c hE H locs lsR hw hS hl)
  · exact h.elim

end ZH2
end
section
-- ===== calls =====
noncomputable def o_cv (y : MethodName) (n : Nat) : zOp := fun C _ nx _ ls st σ => zPop n st [] (fun as r => zB (Nat.ble (zWd8 r) 8) (C y as σ (fun v σ' => match v with | none => nx ls r σ' | some _ => False)))
noncomputable def o_cr (y : MethodName) (n : Nat) : zOp := fun C _ nx _ ls st σ => zPop n st [] (fun as r => zB (Nat.ble (zWd8 r) 8) (C y as σ (fun v σ' => match v with | some v => nx ls (v :: r) σ' | none => False)))
noncomputable def o_vv (y : MethodName) (tag n : Nat) : zOp := fun C _ nx _ ls st σ => zPop n st [] (fun as r => match as with | .ref b :: as => zB (Nat.beq (zKd σ.1 b).1 tag) (zB (Nat.ble (zWd8 r) 8) (C y (.ref b :: as) σ (fun v σ' => match v with | none => nx ls r σ' | some _ => False))) | _ => False)
noncomputable def o_vr2 (y : MethodName) (tag n : Nat) : zOp := fun C _ nx _ ls st σ => zPop n st [] (fun as r => match as with | .ref b :: as => zB (Nat.beq (zKd σ.1 b).1 tag) (zB (Nat.ble (zWd8 r) 8) (C y (.ref b :: as) σ (fun v σ' => match v with | some v => nx ls (v :: r) σ' | none => False))) | _ => False)
def o_ir : zOp := fun _ Rt _ _ _ st σ => match st with | [.int x] => Rt (some (.int x)) σ | _ => False
def o_zr : zOp := fun _ Rt _ _ _ st σ => match st with | [.int x] => (x = 0 ∨ x = 1) ∧ Rt (some (.int x)) σ | _ => False
def o_lr : zOp := fun _ Rt _ _ _ st σ => match st with | [.long x] => Rt (some (.long x)) σ | _ => False
def o_ar : zOp := fun _ Rt _ _ _ st σ => match st with | [.ref x] => Rt (some (.ref x)) σ | _ => False
def o_vr : zOp := fun _ Rt _ _ _ st σ => match st with | [] => Rt none σ | _ => False
noncomputable def o_cpI : zOp := fun _ _ nx _ ls st σ => match st with
  | .int n :: .int dp :: .ref a :: .int sp :: .ref a0 :: r => (match σ with | (K, I, J, Q) => match zKd K a0 with | (t0, n0) => match zKd K a with | (t1, n1) => zB (Nat.beq t0 14) (zB (Nat.beq t1 14) (zB (Nat.ble (zWd8 r) 8)
      ((¬ sp < 0 ∧ ¬ dp < 0 ∧ ¬ n < 0 ∧ sp.toNatClampNeg + n.toNatClampNeg ≤ n0 ∧ dp.toNatClampNeg + n.toNatClampNeg ≤ n1) ∧ nx ls r (K, va_up I a (va_cpy (I a0) (I a) sp.toNatClampNeg dp.toNatClampNeg n.toNatClampNeg), J, Q)))))
  | _ => False
noncomputable def o_cpJ : zOp := fun _ _ nx _ ls st σ => match st with
  | .int n :: .int dp :: .ref a :: .int sp :: .ref a0 :: r => (match σ with | (K, I, J, Q) => match zKd K a0 with | (t0, n0) => match zKd K a with | (t1, n1) => zB (Nat.beq t0 15) (zB (Nat.beq t1 15) (zB (Nat.ble (zWd8 r) 8)
      ((¬ sp < 0 ∧ ¬ dp < 0 ∧ ¬ n < 0 ∧ sp.toNatClampNeg + n.toNatClampNeg ≤ n0 ∧ dp.toNatClampNeg + n.toNatClampNeg ≤ n1) ∧ nx ls r (K, I, va_up J a (va_cpy (J a0) (J a) sp.toNatClampNeg dp.toNatClampNeg n.toNatClampNeg), Q)))))
  | _ => False
def zPre (G : zG) (as : List Value) (σ : zSt) : Array Value → State → Prop := va_Pc (as.map (zV G)) (fun U => zWd G σ U.heap ∧ va_K (zgD G) vwCl (zTy G) U ∧ zPm G U U.heap)
def zRm (k : Nat) : Room := { frames := k, cells := 0, slots := 0, locals := 50 * k }
def zCalls (G : zG) (k' : Nat) : zCl := fun y as σ Q => ∃ (cc : ByteArray) (maxL : Nat) (ret : Option FieldType) (k : Nat), k + 1 ≤ k' ∧ maxL ≤ 31 ∧ Cond.code y cc maxL ret ∈ zWs ∧ Met (zgL G) y (Cond.code y cc maxL ret :: zWs) (zRm k) (zPre G as σ) (zQc G Q) 0 0 (zA G)
theorem zPre_blind {G : zG} (hG : zGok G) {as : List Value} {σ : zSt} : FrameBlind (zPre G as σ) := by
  intro a U g mk q
  obtain ⟨q0, q1, q2, q3⟩ := q
  exact ⟨q0, q1, va_K.moved (u := U) (U := U.calling g mk a) (Vm.Alike.refl U.vm) q2, zPm_warm hG (s := U) (U := U.calling g mk a) (State.WarmedH.refl U) q3⟩
theorem zQc_mono {G : zG} {Q Q' : zRt} (h : ∀ r σ, Q r σ → Q' r σ) {a : Array Value} {st t : State} {o : Outcome} (k : zQc G Q a st o t) : zQc G Q' a st o t := by
  obtain ⟨⟨r, σ, h1, h2, h3⟩, h4⟩ := k
  exact ⟨⟨r, σ, h1, h _ _ h2, h3⟩, h4⟩
theorem zCalls_mono {G : zG} {k' : Nat} {y : MethodName} {as : List Value} {σ : zSt} {Q Q' : zRt} (h : zCalls G k' y as σ Q) (hq : ∀ r σ, Q r σ → Q' r σ) : zCalls G k' y as σ Q' := by
  obtain ⟨cc, maxL, ret, k, h1, h2, h3, h4⟩ := h
  refine ⟨cc, maxL, ret, k, h1, h2, h3, ?_⟩
  intro p e ha hc hk s m args below hf hfit hP hX
  obtain ⟨n, o, a1, a2, a3, a4, a5⟩ := h4 p e ha hc hk s m args below hf hfit hP hX
  exact ⟨n, o, a1, a2, a3, zQc_mono hq a4, a5⟩
section ZC
variable {G : zG} {R : Room} {own : String} {cc : ByteArray} {nL : Nat} {ret : Option FieldType} {F : List Frame → Array Value → State → State → Prop} {cs sl : Nat} {C : zCl} {Rt : zRt} {pc : Nat} {k' : Nat}
theorem zcall {p : Program} {l : Launch} {e : Env} {s : State} {m : MethodId} {args : Array Value} {below : List Frame} {meth : Method} {c : Code} {H : Heap} {locs : List Loc} {Q : State → Prop} {ls : Array Slot} {rest st0 : List Value} {a : Array Value} {K : zRt} (hr : va_Run p l e R s m args below meth c H locs cs sl 0 0 (F0 m pc ls st0) rest (zQc G K a) (zA G)) (hS : va_S (zA G) s.heap H locs)
    (kk : ∀ (r : Option Value) (σ : zSt) (H1 : Heap) (locs1 : List Loc), K r σ → zWd G σ H1 → va_S (zA G) s.heap H1 locs1 → W p l e R s m args below meth c H1 locs1 cs sl Q (F0 m (pc + 3) ls ((r.map (zV G)).toList ++ rest))) : W p l e R s m args below meth c H locs cs sl Q (F0 m pc ls st0) := by
  intro T hT X
  obtain ⟨v, st₀, t, T', L, h0, X', hL, e1, e2, ⟨⟨r, σ, hv, hp, hw⟩, hz, hk⟩, st⟩ := hr T hT X
  cases hv
  rw [h0] at hz hk
  obtain ⟨t2, a1, b1⟩ := kk r σ T'.heap (locs ++ L) hp (by rw [e1]; exact hw)
    ⟨Nat.le_trans hS.1 (by rw [e1]; exact hz), fun q h1 h2 => by rw [e1, hk q (Nat.lt_of_lt_of_le h1 hS.1) h2]; exact hS.2.1 q h1 h2, fun q hq => by
      rcases List.mem_append.mp hq with h | h
      · exact hS.2.2 q h
      · exact hL q h⟩ T' rfl X'
  exact ⟨t2, st t2 a1, b1⟩
/-- how a call site names its method: by a word of the tables, or as a nest mate -/
def zMk (own : String) (idx : Nat) (y : MethodName) : Prop := Cond.methodLink own idx y ∈ zWs ∨ ∃ host, Cond.methodLinkNest own idx y host ∈ zNs
theorem zpre_at (hG : zGok G) {p : Program} {s : State} {m : MethodId} {args : Array Value} {meth : Method} {c : Code} {H : Heap} {locs : List Loc} {σ : zSt} {as : List Value} (hE : zEnv G own cc nL ret p s m args meth c) (hw : zWd G σ H) (hS : va_S (zA G) s.heap H locs) : ∀ U : State, U.heap = H → s.WarmedH U.vm → zPre G as σ (as.map (zV G)).toArray U := by
  intro U hU hW
  refine ⟨rfl, by rw [hU]; exact hw, va_K.moved hW.alike hE.2.2.2.2.2.2.2.1, ?_⟩
  rw [hU]
  exact zPm_warm hG hW (zPm_kept hG hS.2.1 hE.2.2.2.2.2.2.2.2)
theorem zcallB {s : State} {args : Array Value} {idx n maxL k : Nat} {y : MethodName} {bytes : ByteArray} {rt : Option FieldType} (hts : ∀ w ∈ zWs, w.before args s = true) (hc : Cond.code y bytes maxL rt ∈ zWs) (hi : Cond.initialized y.cls ∈ zWs) (hl : Cond.methodLink own idx y ∈ zWs)
    (hd : y.cls ≠ "java/lang/invoke/MethodHandle" ∧ y.cls ≠ "java/lang/invoke/VarHandle" ∧ (parseMethodDescriptor y.desc).map (fun d => d.parameters.length) = some n) (hR : k + 1 ≤ R.frames ∧ 8 + (maxL + 11) + 50 * k ≤ R.locals) : CallB R s args own idx y bytes maxL rt (Cond.code y bytes maxL rt :: zWs) (zRm k) 0 0 n :=
  callB_of n hts (zGood zWs (fun w hw => (List.mem_cons.mp hw).elim (fun e => e ▸ hc) id) (fun w h => h)) rfl rfl rfl (hts _ hi) (hts _ hl) hd hR
theorem zcallN {s : State} {args : Array Value} {idx n maxL k : Nat} {y : MethodName} {bytes : ByteArray} {rt : Option FieldType} {host : String} (hts : ∀ w ∈ zWs, w.before args s = true) (hc : Cond.code y bytes maxL rt ∈ zWs) (hi : Cond.initialized y.cls ∈ zWs) (hl : va_Nw (.methodLinkNest own idx y host) s)
    (hd : y.cls ≠ "java/lang/invoke/MethodHandle" ∧ y.cls ≠ "java/lang/invoke/VarHandle" ∧ (parseMethodDescriptor y.desc).map (fun d => d.parameters.length) = some n) (hR : k + 1 ≤ R.frames ∧ 8 + (maxL + 11) + 50 * k ≤ R.locals) : va_CN R s args own idx y host bytes maxL rt (Cond.code y bytes maxL rt :: zWs) (zRm k) 0 0 n :=
  va_cnB n hts (zGood zWs (fun w hw => (List.mem_cons.mp hw).elim (fun e => e ▸ hc) id) (fun w h => h)) rfl rfl rfl hl (hts _ hi) hd hR
/-- what every call site owes: room -/
def zRoom (R : Room) (k' cs sl : Nat) : Prop := k' ≤ R.frames ∧ 50 * k' ≤ R.locals ∧ cs ≤ R.cells ∧ sl ≤ R.slots
theorem zRoom_fit {k maxL : Nat} (h : zRoom R k' cs sl) (hk : k + 1 ≤ k') (hm : maxL ≤ 31) : (k + 1 ≤ R.frames ∧ 8 + (maxL + 11) + 50 * k ≤ R.locals) ∧ cs + 0 ≤ R.cells ∧ sl + 0 ≤ R.slots := by
  obtain ⟨h1, h2, h3, h4⟩ := h
  exact ⟨⟨by omega, by omega⟩, by omega, by omega⟩
/-- a static call -/
theorem zrunS (hG : zGok G) (hR : zRoom R k' cs sl) {p : Program} {e : Env} {s : State} {m : MethodId} {args : Array Value} {below : List Frame} {meth : Method} {c : Code} {H : Heap} {locs : List Loc} {lsR : Array Slot} {σ : zSt} {as rest : List Value} {y : MethodName} {K : zRt} {ls : zLs} {idx n : Nat} (hE : zEnv G own cc nL ret p s m args meth c) (hw : zWd G σ H) (hS : va_S (zA G) s.heap H locs) (hl : zLo G nL lsR ls)
    (hi : Cond.initialized y.cls ∈ zWs) (hst : Cond.static y ∈ zWs) (hlk : zMk own idx y) (hdy : y.cls ≠ "java/lang/invoke/MethodHandle" ∧ y.cls ≠ "java/lang/invoke/VarHandle" ∧ (parseMethodDescriptor y.desc).map (fun d => d.parameters.length) = some n) (hn : as.length = n) (h8 : (rest.map fun v => v.category).sum ≤ 8) (hd : decode cc pc = .ok (.invokestatic idx, 3)) (h : zCalls G k' y as σ K) :
    va_Run p (zgL G) e R s m args below meth c H locs cs sl 0 0 (F0 m pc lsR ((as.map (zV G)).reverse ++ rest)) rest (zQc G K (as.map (zV G)).toArray) (zA G) := by
  obtain ⟨bytes, maxL, rt, k, h1, h2, h3, h4⟩ := h
  obtain ⟨hr1, hr2⟩ := zRoom_fit hR h1 h2
  have hp : PreS s H (zPre G as σ) (as.map (zV G)) := ⟨zPre_blind hG, zpre_at hG hE hw hS⟩
  rcases hlk with hlk | ⟨host, hlk⟩
  · exact va_runS (Ts := zWs) ⟨hE.1, hE.2.1, hE.2.2.1, hE.2.2.2.2.2.1, hE.2.2.2.2.2.2.1⟩ h4 ⟨zcallB hE.2.2.2.2.2.2.1 h3 hi hlk hdy hr1, hE.2.2.2.2.2.2.1 _ hst⟩ hp rfl (by rw [List.length_map]; exact hn) hl.1 rfl (lv_room h8) hd hr2
  · exact va_runSN (Ts := zWs) (host := host) ⟨hE.1, hE.2.1, hE.2.2.1, hE.2.2.2.2.2.1, hE.2.2.2.2.2.2.1⟩ h4 ⟨zcallN hE.2.2.2.2.2.2.1 h3 hi (hE.2.2.2.2.2.2.2.2.1 _ hlk) hdy hr1, hE.2.2.2.2.2.2.1 _ hst, trivial⟩ hp rfl (by rw [List.length_map]; exact hn) hl.1 rfl (lv_room h8) hd hr2
/-- a call on an object of the world -/
theorem zrunV (hG : zGok G) (hR : zRoom R k' cs sl) {p : Program} {e : Env} {s : State} {m : MethodId} {args : Array Value} {below : List Frame} {meth : Method} {c : Code} {H : Heap} {locs : List Loc} {lsR : Array Slot} {σ : zSt} {as rest : List Value} {y : MethodName} {K : zRt} {ls : zLs} {idx n b tag N : Nat} {T : u_T} (hE : zEnv G own cc nL ret p s m args meth c) (hw : zWd G σ H) (hS : va_S (zA G) s.heap H locs) (hl : zLo G nL lsR ls)
    (hc : vwCl[tag]? = some (y.cls, T, N)) (hb : Nat.beq (zKd σ.1 b).1 tag = true) (hi : Cond.initialized y.cls ∈ zWs) (him : Cond.instanceMethod y ∈ zWs) (hse : Cond.selects y.cls y y ∈ zWs) (hlk : zMk own idx y) (hdy : y.cls ≠ "java/lang/invoke/MethodHandle" ∧ y.cls ≠ "java/lang/invoke/VarHandle" ∧ (parseMethodDescriptor y.desc).map (fun d => d.parameters.length) = some n) (hn : as.length = n) (h8 : (rest.map fun v => v.category).sum ≤ 8) (hd : decode cc pc = .ok (.invokevirtual idx, 3)) (h : zCalls G k' y (.ref b :: as) σ K) :
    va_Run p (zgL G) e R s m args below meth c H locs cs sl 0 0 (F0 m pc lsR ((as.map (zV G)).reverse ++ .ref (zAd G b) :: rest)) rest (zQc G K (Value.ref (zAd G b) :: as.map (zV G)).toArray) (zA G) := by
  obtain ⟨bytes, maxL, rt, k, h1, h2, h3, h4⟩ := h
  obtain ⟨hr1, hr2⟩ := zRoom_fit hR h1 h2
  have h13 : tag < 13 := by have := (List.getElem?_eq_some_iff.mp hc).1; simpa using this
  have hp : PreV s H y.cls (zAd G b) (zPre G (.ref b :: as) σ) (as.map (zV G)) := ⟨zPre_blind hG, va_recv (q := (y.cls, T, N)) hE.2.2.2.2.2.2.2.1 hw.2 hc (zW_obj h13 hb).1, zpre_at hG hE hw hS⟩
  rcases hlk with hlk | ⟨host, hlk⟩
  · exact va_runV (Ts := zWs) (C := y.cls) ⟨hE.1, hE.2.1, hE.2.2.1, hE.2.2.2.2.2.1, hE.2.2.2.2.2.2.1⟩ h4 ⟨zcallB hE.2.2.2.2.2.2.1 h3 hi hlk hdy hr1, hE.2.2.2.2.2.2.1 _ him, hE.2.2.2.2.2.2.1 _ hse⟩ hp rfl (by rw [List.length_map]; exact hn) hl.1 rfl (lv_room h8) hd hr2
  · exact va_runVN (Ts := zWs) (host := host) (C := y.cls) ⟨hE.1, hE.2.1, hE.2.2.1, hE.2.2.2.2.2.1, hE.2.2.2.2.2.2.1⟩ h4 ⟨zcallN hE.2.2.2.2.2.2.1 h3 hi (hE.2.2.2.2.2.2.2.2.1 _ hlk) hdy hr1, hE.2.2.2.2.2.2.1 _ him, hE.2.2.2.2.2.2.1 _ hse⟩ hp rfl (by rw [List.length_map]; exact hn) hl.1 rfl (lv_room h8) hd hr2
theorem zwd_map (r : List Value) : ((r.map (zV G)).map fun v => v.category).sum = zWd8 r := by
  rw [zWd8_eq, List.map_map]
  congr 1
  apply List.map_congr_left
  intro v _
  exact zV_cat G v
theorem k_cvS (hG : zGok G) (hR : zRoom R k' cs sl) {y : MethodName} {idx n : Nat} (hi : Cond.initialized y.cls ∈ zWs) (hst : Cond.static y ∈ zWs) (hlk : zMk own idx y) (hdy : y.cls ≠ "java/lang/invoke/MethodHandle" ∧ y.cls ≠ "java/lang/invoke/VarHandle" ∧ (parseMethodDescriptor y.desc).map (fun d => d.parameters.length) = some n) (hd : decode cc pc = .ok (.invokestatic idx, 3)) : zOK G R own cc nL ret F cs sl (zCalls G k') Rt pc (pc + 3) (o_cv y n) := by
  intro nx jp hn hj ls st σ h
  obtain ⟨as, r, e1, e2, h⟩ := zPop_out h
  obtain ⟨h8, h⟩ := zB_out h
  rw [List.append_nil] at h
  intro p e s m args below meth c hE H locs lsR hw hS hl
  have e3 : st.map (zV G) = (as.map (zV G)).reverse ++ r.map (zV G) := by
    rw [e1, List.map_append, List.map_reverse]
  rw [e3]
  refine zcall (zrunS hG hR hE hw hS hl hi hst hlk hdy e2 (by rw [zwd_map]; exact Nat.le_of_ble_eq_true h8) hd h) hS (fun v σ2 H1 locs1 hk hw1 hS1 => ?_)
  cases v with
  | none => exact hn _ _ _ hk p e s m args below meth c hE H1 locs1 lsR hw1 hS1 hl
  | some v => exact hk.elim
theorem k_crS (hG : zGok G) (hR : zRoom R k' cs sl) {y : MethodName} {idx n : Nat} (hi : Cond.initialized y.cls ∈ zWs) (hst : Cond.static y ∈ zWs) (hlk : zMk own idx y) (hdy : y.cls ≠ "java/lang/invoke/MethodHandle" ∧ y.cls ≠ "java/lang/invoke/VarHandle" ∧ (parseMethodDescriptor y.desc).map (fun d => d.parameters.length) = some n) (hd : decode cc pc = .ok (.invokestatic idx, 3)) : zOK G R own cc nL ret F cs sl (zCalls G k') Rt pc (pc + 3) (o_cr y n) := by
  intro nx jp hn hj ls st σ h
  obtain ⟨as, r, e1, e2, h⟩ := zPop_out h
  obtain ⟨h8, h⟩ := zB_out h
  rw [List.append_nil] at h
  intro p e s m args below meth c hE H locs lsR hw hS hl
  have e3 : st.map (zV G) = (as.map (zV G)).reverse ++ r.map (zV G) := by
    rw [e1, List.map_append, List.map_reverse]
  rw [e3]
  refine zcall (zrunS hG hR hE hw hS hl hi hst hlk hdy e2 (by rw [zwd_map]; exact Nat.le_of_ble_eq_true h8) hd h) hS (fun v σ2 H1 locs1 hk hw1 hS1 => ?_)
  cases v with
  | some v => exact hn _ _ _ hk p e s m args below meth c hE H1 locs1 lsR hw1 hS1 hl
  | none => exact hk.elim
theorem k_cvV (hG : zGok G) (hR : zRoom R k' cs sl) {y : MethodName} {idx n tag N : Nat} {T : u_T} (hc : vwCl[tag]? = some (y.cls, T, N)) (hi : Cond.initialized y.cls ∈ zWs) (him : Cond.instanceMethod y ∈ zWs) (hse : Cond.selects y.cls y y ∈ zWs) (hlk : zMk own idx y) (hdy : y.cls ≠ "java/lang/invoke/MethodHandle" ∧ y.cls ≠ "java/lang/invoke/VarHandle" ∧ (parseMethodDescriptor y.desc).map (fun d => d.parameters.length) = some n) (hd : decode cc pc = .ok (.invokevirtual idx, 3)) : zOK G R own cc nL ret F cs sl (zCalls G k') Rt pc (pc + 3) (o_vv y tag (n + 1)) := by
  intro nx jp hn hj ls st σ h
  obtain ⟨as, r, e1, e2, h⟩ := zPop_out h
  rw [List.append_nil] at h
  split at h
  · rename_i b as
    obtain ⟨hb, h⟩ := zB_out h
    obtain ⟨h8, h⟩ := zB_out h
    intro p e s m args below meth c hE H locs lsR hw hS hl
    have e3 : st.map (zV G) = (as.map (zV G)).reverse ++ .ref (zAd G b) :: r.map (zV G) := by
      rw [e1, List.map_append, List.map_reverse, List.map_cons, List.reverse_cons, List.append_assoc]; rfl
    rw [e3]
    refine zcall (zrunV hG hR hE hw hS hl hc hb hi him hse hlk hdy (by simpa using e2) (by rw [zwd_map]; exact Nat.le_of_ble_eq_true h8) hd h) hS (fun v σ2 H1 locs1 hk hw1 hS1 => ?_)
    cases v with
    | none => exact hn _ _ _ hk p e s m args below meth c hE H1 locs1 lsR hw1 hS1 hl
    | some v => exact hk.elim
  · exact h.elim
theorem k_crV (hG : zGok G) (hR : zRoom R k' cs sl) {y : MethodName} {idx n tag N : Nat} {T : u_T} (hc : vwCl[tag]? = some (y.cls, T, N)) (hi : Cond.initialized y.cls ∈ zWs) (him : Cond.instanceMethod y ∈ zWs) (hse : Cond.selects y.cls y y ∈ zWs) (hlk : zMk own idx y) (hdy : y.cls ≠ "java/lang/invoke/MethodHandle" ∧ y.cls ≠ "java/lang/invoke/VarHandle" ∧ (parseMethodDescriptor y.desc).map (fun d => d.parameters.length) = some n) (hd : decode cc pc = .ok (.invokevirtual idx, 3)) : zOK G R own cc nL ret F cs sl (zCalls G k') Rt pc (pc + 3) (o_vr2 y tag (n + 1)) := by
  intro nx jp hn hj ls st σ h
  obtain ⟨as, r, e1, e2, h⟩ := zPop_out h
  rw [List.append_nil] at h
  split at h
  · rename_i b as
    obtain ⟨hb, h⟩ := zB_out h
    obtain ⟨h8, h⟩ := zB_out h
    intro p e s m args below meth c hE H locs lsR hw hS hl
    have e3 : st.map (zV G) = (as.map (zV G)).reverse ++ .ref (zAd G b) :: r.map (zV G) := by
      rw [e1, List.map_append, List.map_reverse, List.map_cons, List.reverse_cons, List.append_assoc]; rfl
    rw [e3]
    refine zcall (zrunV hG hR hE hw hS hl hc hb hi him hse hlk hdy (by simpa using e2) (by rw [zwd_map]; exact Nat.le_of_ble_eq_true h8) hd h) hS (fun v σ2 H1 locs1 hk hw1 hS1 => ?_)
    cases v with
    | some v => exact hn _ _ _ hk p e s m args below meth c hE H1 locs1 lsR hw1 hS1 hl
    | none => exact hk.elim
  · exact h.elim
end ZC
section ZR
variable {G : zG} {R : Room} {own : String} {cc : ByteArray} {nL : Nat} {ret : Option FieldType} {cs sl : Nat} {C : zCl} {Rt : zRt} {pc nxt : Nat}
theorem zqc_of {r : Option Value} {σ : zSt} {s : State} {H : Heap} {locs : List Loc} (h : Rt r σ) (hw : zWd G σ H) (hS : va_S (zA G) s.heap H locs) (a : Array Value) : ∀ t : State, t.heap = H → s.WarmedH t.vm → zQc G Rt a s (.returned (r.map (zV G))) t :=
  fun t ht _ => ⟨⟨r, σ, rfl, h, by rw [ht]; exact hw⟩, hS.F ht⟩
theorem k_ireturn (hr : ret = some .int) (hd : decode cc pc = .ok (.ireturn, 1)) : zOK G R own cc nL ret (zF G Rt cs sl) cs sl C Rt pc nxt o_ir := by
  intro nx jp hn hj ls st σ h
  simp only [o_ir] at h
  split at h
  · intro p e s m args below meth c hE H locs lsR hw hS hl
    exact W.iret hE.1 hE.2.1 (hE.2.2.2.1.trans hr) (zqc_of h hw hS args) hS.2.2 hd hE.2.2.2.2.1
  · exact h.elim
theorem k_zreturn (hr : ret = some .boolean) (hd : decode cc pc = .ok (.ireturn, 1)) : zOK G R own cc nL ret (zF G Rt cs sl) cs sl C Rt pc nxt o_zr := by
  intro nx jp hn hj ls st σ h
  simp only [o_zr] at h
  split at h
  · intro p e s m args below meth c hE H locs lsR hw hS hl
    exact W.zret hE.1 hE.2.1 (hE.2.2.2.1.trans hr) (z_nb h.1).1 (zqc_of h.2 hw hS args) hS.2.2 hd hE.2.2.2.2.1
  · exact h.elim
theorem k_lreturn (hr : ret = some .long) (hd : decode cc pc = .ok (.lreturn, 1)) : zOK G R own cc nL ret (zF G Rt cs sl) cs sl C Rt pc nxt o_lr := by
  intro nx jp hn hj ls st σ h
  simp only [o_lr] at h
  split at h
  · intro p e s m args below meth c hE H locs lsR hw hS hl
    exact W.lret hE.1 hE.2.1 (hE.2.2.2.1.trans hr) (zqc_of h hw hS args) hS.2.2 hd hE.2.2.2.2.1
  · exact h.elim
theorem k_areturn {rt : FieldType} (hrt : (∃ n, rt = .object n) ∨ ∃ t, rt = .array t) (hr : ret = some rt) (hd : decode cc pc = .ok (.areturn, 1)) : zOK G R own cc nL ret (zF G Rt cs sl) cs sl C Rt pc nxt o_ar := by
  intro nx jp hn hj ls st σ h
  simp only [o_ar] at h
  split at h
  · intro p e s m args below meth c hE H locs lsR hw hS hl
    exact W.aret hE.1 hE.2.1 (hE.2.2.2.1.trans hr) hrt (Or.inr ⟨_, rfl⟩) (zqc_of h hw hS args) hS.2.2 hd hE.2.2.2.2.1
  · exact h.elim
theorem k_return (hr : ret = none) (hd : decode cc pc = .ok (.return_, 1)) : zOK G R own cc nL ret (zF G Rt cs sl) cs sl C Rt pc nxt o_vr := by
  intro nx jp hn hj ls st σ h
  simp only [o_vr] at h
  split at h
  · intro p e s m args below meth c hE H locs lsR hw hS hl
    exact W.vret hE.1 hE.2.1 (hE.2.2.2.1.trans hr) (zqc_of h hw hS args) hS.2.2 hd hE.2.2.2.2.1
  · exact h.elim
end ZR
end
section
-- ===== a method's contract out of its walk =====
def zIn : List Value → zLs
  | [] => []
  | .long x :: r => some (.long x) :: none :: zIn r
  | .double x :: r => some (.double x) :: none :: zIn r
  | .int x :: r => some (.int x) :: zIn r
  | .float x :: r => some (.float x) :: zIn r
  | .null :: r => some .null :: zIn r
  | .ref x :: r => some (.ref x) :: zIn r
  | .retAddr x :: r => some (.retAddr x) :: zIn r
theorem zIn_args {G : zG} : ∀ {as : List Value} {i j : Nat} {v : Value}, (zIn as)[j]? = some (some v) → (i + j, zV G v) ∈ lv_args i (as.map (zV G)) := by
  intro as
  induction as with
  | nil => intro i j v h; simp [zIn] at h
  | cons a r ih =>
    intro i j v h
    have one : ∀ (hc : a.category = 1) (he : zIn (a :: r) = some a :: zIn r), (i + j, zV G v) ∈ lv_args i ((a :: r).map (zV G)) := by
      intro hc he
      rw [he] at h
      show _ ∈ (i, zV G a) :: lv_args (if (zV G a).category = 2 then i + 2 else i + 1) (r.map (zV G))
      rw [zV_cat, hc, if_neg (by decide)]
      cases j with
      | zero => cases h; exact List.mem_cons_self
      | succ j =>
        have h2 := ih (i := i + 1) (j := j) (v := v) h
        rw [show i + (j + 1) = i + 1 + j by omega]
        exact List.mem_cons_of_mem _ h2
    have two : ∀ (hc : a.category = 2) (he : zIn (a :: r) = some a :: none :: zIn r), (i + j, zV G v) ∈ lv_args i ((a :: r).map (zV G)) := by
      intro hc he
      rw [he] at h
      show _ ∈ (i, zV G a) :: lv_args (if (zV G a).category = 2 then i + 2 else i + 1) (r.map (zV G))
      rw [zV_cat, hc, if_pos rfl]
      match j, h with
      | 0, h => cases h; exact List.mem_cons_self
      | 1, h => cases h
      | j + 2, h =>
        have h2 := ih (i := i + 2) (j := j) (v := v) h
        rw [show i + (j + 2) = i + 2 + j by omega]
        exact List.mem_cons_of_mem _ h2
    cases a <;> first | exact one rfl rfl | exact two rfl rfl
theorem zIn_len {G : zG} : ∀ as : List Value, (lg_sl (as.map (zV G))).length = (zIn as).length := by
  intro as
  induction as with
  | nil => rfl
  | cons a r ih =>
    have e : lg_sl ((a :: r).map (zV G)) = (if (zV G a).category = 2 then [Slot.val (zV G a), .second] else [.val (zV G a)]) ++ lg_sl (r.map (zV G)) := by
      unfold lg_sl
      rw [List.map_cons, List.flatMap_cons]
    rw [e, List.length_append, ih, zV_cat]
    cases a <;> simp [zIn, Value.category] <;> omega
section ZMT
variable {G : zG} {cc : ByteArray} {nL : Nat} {ret : Option FieldType}
theorem zMethod (hG : zGok G) {y : MethodName} {k k' : Nat} {as : List Value} {σ : zSt} {Q : zRt} (hk : k + 1 ≤ k') (hm : nL ≤ 31) (hpl : plainName y.cls = true) (hcd : Cond.code y cc nL ret ∈ zWs) (ls : zLs) (hls : zIn as ++ List.replicate (nL - (zIn as).length) none = ls) (hln : (zIn as).length ≤ nL)
    (h : zAt G (zRm k) y.cls cc nL ret (zF G Q 0 0) 0 0 0 ls [] σ) : zCalls G k' y as σ Q := by
  refine ⟨cc, nL, ret, k, hk, hm, hcd, ?_⟩
  refine Met.ofW (cc := cc) (maxL := nL) (ret := ret) hpl rfl ?_
  intro p e s m args below meth c s₁ B hml hv
  obtain ⟨rfl, hw, hK, hPm⟩ := hv
  have hts := atoms_spec (ws := Cond.code y cc nL ret :: zWs) B.pre
  have hown : s.vm.findClass y.cls = some m.cls := findClass_of_methodNamed B.named
  have hE : zEnv G y.cls cc nL ret p s m (as.map (zV G)).toArray meth c := ⟨B.exec, B.bytes, hml, B.returns, B.notSynchronized, hown, fun w hw => hts w (List.mem_cons_of_mem _ hw), hK, hPm⟩
  have hle := lv_entry (as.map (zV G)) (n := nL) (by rw [zIn_len]; exact hln)
  rw [lg_entry_eq]
  refine h p e s m _ below meth c hE s.heap [] _ hw va_S.rf ⟨hle.1, hle.2.1, ?_, fun i v hi => ?_⟩
  · rw [← hls, List.length_append, List.length_replicate]; omega
  · rw [← hls] at hi
    rcases Nat.lt_or_ge i (zIn as).length with q | q
    · rw [List.getElem?_append_left q] at hi
      have h2 := zIn_args (G := G) (i := 0) hi
      rw [Nat.zero_add] at h2
      exact hle.2.2 _ h2
    · rw [List.getElem?_append_right q] at hi
      have h3 := List.mem_of_getElem? hi
      rw [List.mem_replicate] at h3
      exact absurd h3.2 (by simp)
/-- weaker knowledge of the locals -/
theorem zAt_forget {R : Room} {own : String} {F : List Frame → Array Value → State → State → Prop} {cs sl pc : Nat} {ls ls' : zLs} {st : List Value} {σ : zSt} (h : ∀ (i : Nat) (v : Value), ls'[i]? = some (some v) → ls[i]? = some (some v)) (hlen : ls'.length ≤ ls.length) (k : zAt G R own cc nL ret F cs sl pc ls' st σ) : zAt G R own cc nL ret F cs sl pc ls st σ := by
  intro p e s m args below meth c hE H locs lsR hw hS hl
  exact k p e s m args below meth c hE H locs lsR hw hS ⟨hl.1, hl.2.1, Nat.le_trans hlen hl.2.2.1, fun i v hi => hl.2.2.2 i v (h i v hi)⟩
end ZMT
section ZCP
variable {G : zG} {R : Room} {own : String} {cc : ByteArray} {nL : Nat} {ret : Option FieldType} {F : List Frame → Array Value → State → State → Prop} {cs sl : Nat} {C : zCl} {Rt : zRt} {pc : Nat}
theorem k_cpI {idx : Nat} (hf : 1 ≤ R.frames) (hl2 : 30 ≤ R.locals) (hlk : Cond.methodLink own idx arraycopyName ∈ zWs) (hna : Cond.native arraycopyName ∈ zWs) (hst : Cond.static arraycopyName ∈ zWs) (hi : Cond.initialized "java/lang/System" ∈ zWs) (hd : decode cc pc = .ok (.invokestatic idx, 3)) : zOK G R own cc nL ret F cs sl C Rt pc (pc + 3) o_cpI := by
  intro nx jp hn hj ls st σ h
  obtain ⟨K, I, J, Q⟩ := σ
  simp only [o_cpI] at h
  split at h
  · rename_i n dp a sp a0 r
    rcases hk0 : zKd K a0 with ⟨t0, n0⟩
    rcases hk1 : zKd K a with ⟨t1, n1⟩
    rw [hk0, hk1] at h
    obtain ⟨hb0, h⟩ := zB_out h
    obtain ⟨hb1, h⟩ := zB_out h
    obtain ⟨h8, h⟩ := zB_out h
    have hb0 := Nat.eq_of_beq_eq_true hb0
    have hb1 := Nat.eq_of_beq_eq_true hb1
    subst hb0
    subst hb1
    have hg0 := zW_arr (G := G) (σ := (K, I, J, Q)) (p := a0) hk0 (by decide) (by decide)
    have hg1 := zW_arr (G := G) (σ := (K, I, J, Q)) (p := a) hk1 (by decide) (by decide)
    intro p e s m args below meth c hE H locs lsR hw hS hl
    obtain ⟨⟨g1, g2, g3, g4, g5⟩, h⟩ := h
    refine va_copyi hE.1 hE.2.1 (hE.2.2.1.trans hl.1.symm) hE.2.2.2.2.2.1 (hE.2.2.2.2.2.2.1 _ hlk) (hE.2.2.2.2.2.2.1 _ hna) (hE.2.2.2.2.2.2.1 _ hst) (hE.2.2.2.2.2.2.1 _ hi) hE.2.2.2.2.2.2.2.1 hw.2 (zW_D hw.1) hS a0 a 1 1 hg0 hg1 rfl rfl rfl g1 g2 g3 g4 g5 (fun _ _ => rfl) hf (by rw [zwd_map, show nativeFrameWords "java/lang/System" "arraycopy" 5 = 7 from by decide]; have := Nat.le_of_ble_eq_true h8; omega) hd (fun H1 locs1 hP1 _ hS1 => ?_)
    have hset := zW_set (G := G) (σ := (K, I, J, Q)) (σ' := (K, va_up I a (va_cpy (I a0) (I a) sp.toNatClampNeg dp.toNatClampNeg n.toNatClampNeg), J, Q)) (p := a) (e := .inl (zgY G 14, n1, .inl (va_cpy (I a0) (I a) sp.toNatClampNeg dp.toNatClampNeg n.toNatClampNeg))) rfl (fun x hx => ⟨va_up_ne _ _ hx, rfl, rfl⟩) (by rw [show zKd (K, I, J, Q).1 a = (14, n1) from hk1]; show _ = Sum.inl (zgY G 14, n1, Sum.inl (va_up I a _ a)); rw [va_up_self])
    have hP1 := hset ▸ hP1
    exact hn _ _ _ h p e s m args below meth c hE H1 locs1 lsR ⟨hw.1, hP1⟩ hS1 hl
  · exact h.elim
theorem k_cpJ {idx : Nat} (hf : 1 ≤ R.frames) (hl2 : 30 ≤ R.locals) (hlk : Cond.methodLink own idx arraycopyName ∈ zWs) (hna : Cond.native arraycopyName ∈ zWs) (hst : Cond.static arraycopyName ∈ zWs) (hi : Cond.initialized "java/lang/System" ∈ zWs) (hd : decode cc pc = .ok (.invokestatic idx, 3)) : zOK G R own cc nL ret F cs sl C Rt pc (pc + 3) o_cpJ := by
  intro nx jp hn hj ls st σ h
  obtain ⟨K, I, J, Q⟩ := σ
  simp only [o_cpJ] at h
  split at h
  · rename_i n dp a sp a0 r
    rcases hk0 : zKd K a0 with ⟨t0, n0⟩
    rcases hk1 : zKd K a with ⟨t1, n1⟩
    rw [hk0, hk1] at h
    obtain ⟨hb0, h⟩ := zB_out h
    obtain ⟨hb1, h⟩ := zB_out h
    obtain ⟨h8, h⟩ := zB_out h
    have hb0 := Nat.eq_of_beq_eq_true hb0
    have hb1 := Nat.eq_of_beq_eq_true hb1
    subst hb0
    subst hb1
    have hg0 := zW_arr (G := G) (σ := (K, I, J, Q)) (p := a0) hk0 (by decide) (by decide)
    have hg1 := zW_arr (G := G) (σ := (K, I, J, Q)) (p := a) hk1 (by decide) (by decide)
    intro p e s m args below meth c hE H locs lsR hw hS hl
    obtain ⟨⟨g1, g2, g3, g4, g5⟩, h⟩ := h
    refine va_copyl hE.1 hE.2.1 (hE.2.2.1.trans hl.1.symm) hE.2.2.2.2.2.1 (hE.2.2.2.2.2.2.1 _ hlk) (hE.2.2.2.2.2.2.1 _ hna) (hE.2.2.2.2.2.2.1 _ hst) (hE.2.2.2.2.2.2.1 _ hi) hE.2.2.2.2.2.2.2.1 hw.2 (zW_D hw.1) hS a0 a 2 2 hg0 hg1 rfl rfl rfl g1 g2 g3 g4 g5 (fun _ _ => rfl) hf (by rw [zwd_map, show nativeFrameWords "java/lang/System" "arraycopy" 5 = 7 from by decide]; have := Nat.le_of_ble_eq_true h8; omega) hd (fun H1 locs1 hP1 _ hS1 => ?_)
    have hset := zW_set (G := G) (σ := (K, I, J, Q)) (σ' := (K, I, va_up J a (va_cpy (J a0) (J a) sp.toNatClampNeg dp.toNatClampNeg n.toNatClampNeg), Q)) (p := a) (e := .inl (zgY G 15, n1, .inr (.inl (va_cpy (J a0) (J a) sp.toNatClampNeg dp.toNatClampNeg n.toNatClampNeg)))) rfl (fun x hx => ⟨rfl, va_up_ne _ _ hx, rfl⟩) (by rw [show zKd (K, I, J, Q).1 a = (15, n1) from hk1]; show _ = Sum.inl (zgY G 15, n1, Sum.inr (Sum.inl (va_up J a _ a))); rw [va_up_self])
    have hP1 := hset ▸ hP1
    exact hn _ _ _ h p e s m args below meth c hE H1 locs1 lsR ⟨hw.1, hP1⟩ hS1 hl
  · exact h.elim
theorem zSw_out {jp : Nat → Prop} {d : Nat} {x : Int32} : ∀ {cs : List (Int32 × Nat)}, zSw jp d x cs → (∃ q ∈ cs, x = q.1 ∧ jp q.2) ∨ ((∀ q ∈ cs, ¬ x = q.1) ∧ jp d)
  | [], h => Or.inr ⟨fun q hq => absurd hq List.not_mem_nil, h⟩
  | q :: r, h => by
    by_cases hx : x = q.1
    · exact Or.inl ⟨q, List.mem_cons_self, hx, h.1 hx⟩
    · rcases zSw_out (h.2 hx) with ⟨q2, h1, h2⟩ | ⟨h1, h2⟩
      · exact Or.inl ⟨q2, List.mem_cons_of_mem _ h1, h2⟩
      · exact Or.inr ⟨fun q2 hq2 => (List.mem_cons.mp hq2).elim (fun e => e ▸ hx) (h1 q2), h2⟩
/-- lookupswitch, by its pairs -/
theorem k_lsw {dflt : Int} {ps : Array (Int × Int)} {len d nxt : Nat} {cs : List (Int32 × Nat)} (hd : decode cc pc = .ok (.lookupswitch dflt ps, len)) (hp : (ps.toList.zip (ps.toList.drop 1)).all (fun (a, next) => a.1 < next.1) = true)
    (hc : ∀ q ∈ cs, ∃ off, Op.lookupswitch.offset ps.toList dflt q.1.toInt = off ∧ (pc : Int) + off = (q.2 : Int)) (ho : ∀ x : Int32, (∀ q ∈ cs, ¬ x = q.1) → ∃ off, Op.lookupswitch.offset ps.toList dflt x.toInt = off ∧ (pc : Int) + off = (d : Int)) : zOK G R own cc nL ret F sl sl C Rt pc nxt (o_sw cs d) := by
  intro nx jp hn hj ls st σ h
  simp only [o_sw] at h
  split at h
  · rename_i x r
    intro p e s m args below meth c hE H locs lsR hw hS hl
    rcases zSw_out h with ⟨q, h1, h2, h3⟩ | ⟨h1, h2⟩
    · obtain ⟨off, h4, h5⟩ := hc q h1
      subst h2
      exact lv_lookup hE.1 hE.2.1 hd hp h4 h5 (hj _ _ _ _ h3 p e s m args below meth c hE H locs lsR hw hS hl)
    · obtain ⟨off, h4, h5⟩ := ho x h1
      exact lv_lookup hE.1 hE.2.1 hd hp h4 h5 (hj _ _ _ _ h2 p e s m args below meth c hE H locs lsR hw hS hl)
  · exact h.elim
/-- tableswitch -/
theorem k_tsw {dflt lo hi : Int} {offs : Array Int} {len d nxt : Nat} {cs : List (Int32 × Nat)} (hd : decode cc pc = .ok (.tableswitch dflt lo hi offs, len))
    (hc : ∀ q ∈ cs, ∃ off, ¬ q.1.toInt < lo ∧ ¬ hi < q.1.toInt ∧ offs[(q.1.toInt - lo).toNat]? = some off ∧ (pc : Int) + off = (q.2 : Int)) (ho : ∀ x : Int32, (∀ q ∈ cs, ¬ x = q.1) → x.toInt < lo ∨ hi < x.toInt) (hdf : (pc : Int) + dflt = (d : Int)) : zOK G R own cc nL ret F sl sl C Rt pc nxt (o_sw cs d) := by
  intro nx jp hn hj ls st σ h
  simp only [o_sw] at h
  split at h
  · rename_i x r
    intro p e s m args below meth c hE H locs lsR hw hS hl
    rcases zSw_out h with ⟨q, h1, h2, h3⟩ | ⟨h1, h2⟩
    · obtain ⟨off, h4, h5, h6, h7⟩ := hc q h1
      subst h2
      exact lv_tableIn hE.1 hE.2.1 hd h4 h5 h6 h7 (hj _ _ _ _ h3 p e s m args below meth c hE H locs lsR hw hS hl)
    · exact lv_tableOut hE.1 hE.2.1 hd (ho x h1) hdf (hj _ _ _ _ h2 p e s m args below meth c hE H locs lsR hw hS hl)
  · exact h.elim
end ZCP
end
