section
/-- a private method of a class that the tables say can be made, by its rows of tables_1 -/
def lw_okq (q : MethodName × Nat) : Prop := (q.1.cls ≠ "java/lang/invoke/MethodHandle" ∧ q.1.cls ≠ "java/lang/invoke/VarHandle") ∧ Cond.instantiable q.1.cls q.2 ∈ tables_1 ∧ Cond.privateMethod q.1 ∈ tables_1 ∧ Cond.instanceMethod q.1 ∈ tables_1
theorem lw_p0 : lw_okq (⟨"BlastFace$Pattern", "markAhead", "(I)V"⟩, 6) := ⟨⟨by decide +kernel, by decide +kernel⟩, List.mem_of_getElem? (i := 28) (by decide +kernel), List.mem_of_getElem? (i := 325) (by decide +kernel), List.mem_of_getElem? (i := 326) (by decide +kernel)⟩
theorem lw_p1 : lw_okq (⟨"BlastFace$Pattern", "isAhead", "(II)Z"⟩, 6) := ⟨⟨by decide +kernel, by decide +kernel⟩, List.mem_of_getElem? (i := 28) (by decide +kernel), List.mem_of_getElem? (i := 329) (by decide +kernel), List.mem_of_getElem? (i := 330) (by decide +kernel)⟩
theorem lw_p2 : lw_okq (⟨"BlastFace$Pattern", "columnsOff", "(II)I"⟩, 6) := ⟨⟨by decide +kernel, by decide +kernel⟩, List.mem_of_getElem? (i := 28) (by decide +kernel), List.mem_of_getElem? (i := 333) (by decide +kernel), List.mem_of_getElem? (i := 334) (by decide +kernel)⟩
theorem lw_p3 : lw_okq (⟨"BlastFace", "settled", "(I)I"⟩, 15) := ⟨⟨by decide +kernel, by decide +kernel⟩, List.mem_of_getElem? (i := 20) (by decide +kernel), List.mem_of_getElem? (i := 343) (by decide +kernel), List.mem_of_getElem? (i := 344) (by decide +kernel)⟩
theorem lw_p4 : lw_okq (⟨"BlastFace", "forget", "()V"⟩, 15) := ⟨⟨by decide +kernel, by decide +kernel⟩, List.mem_of_getElem? (i := 20) (by decide +kernel), List.mem_of_getElem? (i := 347) (by decide +kernel), List.mem_of_getElem? (i := 348) (by decide +kernel)⟩
theorem lw_p5 : lw_okq (⟨"BlastFace", "reckoned", "()LBlastFace$Blast;"⟩, 15) := ⟨⟨by decide +kernel, by decide +kernel⟩, List.mem_of_getElem? (i := 20) (by decide +kernel), List.mem_of_getElem? (i := 427) (by decide +kernel), List.mem_of_getElem? (i := 428) (by decide +kernel)⟩
theorem lw_p6 : lw_okq (⟨"BlastFace$Blast", "findSignals", "(I)V"⟩, 7) := ⟨⟨by decide +kernel, by decide +kernel⟩, List.mem_of_getElem? (i := 70) (by decide +kernel), List.mem_of_getElem? (i := 439) (by decide +kernel), List.mem_of_getElem? (i := 440) (by decide +kernel)⟩
theorem lw_p7 : lw_okq (⟨"BlastFace$Blast", "findFiring", "()V"⟩, 7) := ⟨⟨by decide +kernel, by decide +kernel⟩, List.mem_of_getElem? (i := 70) (by decide +kernel), List.mem_of_getElem? (i := 454) (by decide +kernel), List.mem_of_getElem? (i := 455) (by decide +kernel)⟩
theorem lw_p8 : lw_okq (⟨"BlastFace$Blast", "findBuried", "()V"⟩, 7) := ⟨⟨by decide +kernel, by decide +kernel⟩, List.mem_of_getElem? (i := 70) (by decide +kernel), List.mem_of_getElem? (i := 464) (by decide +kernel), List.mem_of_getElem? (i := 465) (by decide +kernel)⟩
theorem lw_p9 : lw_okq (⟨"BlastFace$Shots", "insert", "(III)V"⟩, 7) := ⟨⟨by decide +kernel, by decide +kernel⟩, List.mem_of_getElem? (i := 76) (by decide +kernel), List.mem_of_getElem? (i := 493) (by decide +kernel), List.mem_of_getElem? (i := 494) (by decide +kernel)⟩
theorem lw_p10 : lw_okq (⟨"BlastFace$Shots", "weighAt", "(III)V"⟩, 7) := ⟨⟨by decide +kernel, by decide +kernel⟩, List.mem_of_getElem? (i := 76) (by decide +kernel), List.mem_of_getElem? (i := 502) (by decide +kernel), List.mem_of_getElem? (i := 503) (by decide +kernel)⟩
theorem lw_p11 : lw_okq (⟨"BlastFace$Blast", "rockOfIn", "(II)I"⟩, 7) := ⟨⟨by decide +kernel, by decide +kernel⟩, List.mem_of_getElem? (i := 70) (by decide +kernel), List.mem_of_getElem? (i := 599) (by decide +kernel), List.mem_of_getElem? (i := 600) (by decide +kernel)⟩
theorem lw_p12 : lw_okq (⟨"BlastFace", "harmTold", "(III)I"⟩, 15) := ⟨⟨by decide +kernel, by decide +kernel⟩, List.mem_of_getElem? (i := 20) (by decide +kernel), List.mem_of_getElem? (i := 629) (by decide +kernel), List.mem_of_getElem? (i := 630) (by decide +kernel)⟩
theorem lw_p13 : lw_okq (⟨"BlastFace", "think", "(II)V"⟩, 15) := ⟨⟨by decide +kernel, by decide +kernel⟩, List.mem_of_getElem? (i := 20) (by decide +kernel), List.mem_of_getElem? (i := 633) (by decide +kernel), List.mem_of_getElem? (i := 634) (by decide +kernel)⟩
theorem lw_p14 : lw_okq (⟨"BlastFace", "lostBy", "(I)I"⟩, 15) := ⟨⟨by decide +kernel, by decide +kernel⟩, List.mem_of_getElem? (i := 20) (by decide +kernel), List.mem_of_getElem? (i := 638) (by decide +kernel), List.mem_of_getElem? (i := 639) (by decide +kernel)⟩
theorem lw_p15 : lw_okq (⟨"BlastFace", "bared", "()I"⟩, 15) := ⟨⟨by decide +kernel, by decide +kernel⟩, List.mem_of_getElem? (i := 20) (by decide +kernel), List.mem_of_getElem? (i := 642) (by decide +kernel), List.mem_of_getElem? (i := 643) (by decide +kernel)⟩
def lw_privs_1 : List (MethodName × Nat) := [(⟨"BlastFace$Pattern", "markAhead", "(I)V"⟩, 6), (⟨"BlastFace$Pattern", "isAhead", "(II)Z"⟩, 6), (⟨"BlastFace$Pattern", "columnsOff", "(II)I"⟩, 6), (⟨"BlastFace", "settled", "(I)I"⟩, 15), (⟨"BlastFace", "forget", "()V"⟩, 15), (⟨"BlastFace", "reckoned", "()LBlastFace$Blast;"⟩, 15), (⟨"BlastFace$Blast", "findSignals", "(I)V"⟩, 7), (⟨"BlastFace$Blast", "findFiring", "()V"⟩, 7), (⟨"BlastFace$Blast", "findBuried", "()V"⟩, 7), (⟨"BlastFace$Shots", "insert", "(III)V"⟩, 7), (⟨"BlastFace$Shots", "weighAt", "(III)V"⟩, 7), (⟨"BlastFace$Blast", "rockOfIn", "(II)I"⟩, 7), (⟨"BlastFace", "harmTold", "(III)I"⟩, 15), (⟨"BlastFace", "think", "(II)V"⟩, 15), (⟨"BlastFace", "lostBy", "(I)I"⟩, 15), (⟨"BlastFace", "bared", "()I"⟩, 15)]
theorem lw_r1 : ∀ q ∈ lw_privs_1, lw_okq q := List.forall_mem_cons.mpr ⟨lw_p0, List.forall_mem_cons.mpr ⟨lw_p1, List.forall_mem_cons.mpr ⟨lw_p2, List.forall_mem_cons.mpr ⟨lw_p3, List.forall_mem_cons.mpr ⟨lw_p4, List.forall_mem_cons.mpr ⟨lw_p5, List.forall_mem_cons.mpr ⟨lw_p6, List.forall_mem_cons.mpr ⟨lw_p7, List.forall_mem_cons.mpr ⟨lw_p8, List.forall_mem_cons.mpr ⟨lw_p9, List.forall_mem_cons.mpr ⟨lw_p10, List.forall_mem_cons.mpr ⟨lw_p11, List.forall_mem_cons.mpr ⟨lw_p12, List.forall_mem_cons.mpr ⟨lw_p13, List.forall_mem_cons.mpr ⟨lw_p14, List.forall_mem_cons.mpr ⟨lw_p15, fun _ h => absurd h List.not_mem_nil⟩⟩⟩⟩⟩⟩⟩⟩⟩⟩⟩⟩⟩⟩⟩⟩
theorem lw_p16 : lw_okq (⟨"BlastFace", "mostHarmful", "(IZ)I"⟩, 15) := ⟨⟨by decide +kernel, by decide +kernel⟩, List.mem_of_getElem? (i := 20) (by decide +kernel), List.mem_of_getElem? (i := 654) (by decide +kernel), List.mem_of_getElem? (i := 655) (by decide +kernel)⟩
theorem lw_p17 : lw_okq (⟨"BlastFace", "drawn", "()LBlastFace$Planner;"⟩, 15) := ⟨⟨by decide +kernel, by decide +kernel⟩, List.mem_of_getElem? (i := 20) (by decide +kernel), List.mem_of_getElem? (i := 668) (by decide +kernel), List.mem_of_getElem? (i := 669) (by decide +kernel)⟩
theorem lw_p18 : lw_okq (⟨"BlastFace$Planner", "settle", "(I)V"⟩, 8) := ⟨⟨by decide +kernel, by decide +kernel⟩, List.mem_of_getElem? (i := 143) (by decide +kernel), List.mem_of_getElem? (i := 681) (by decide +kernel), List.mem_of_getElem? (i := 682) (by decide +kernel)⟩
theorem lw_p19 : lw_okq (⟨"BlastFace$Planner", "isQuiet", "(I)Z"⟩, 8) := ⟨⟨by decide +kernel, by decide +kernel⟩, List.mem_of_getElem? (i := 143) (by decide +kernel), List.mem_of_getElem? (i := 689) (by decide +kernel), List.mem_of_getElem? (i := 690) (by decide +kernel)⟩
theorem lw_p20 : lw_okq (⟨"BlastFace$Planner", "shakeWith", "(II)I"⟩, 8) := ⟨⟨by decide +kernel, by decide +kernel⟩, List.mem_of_getElem? (i := 143) (by decide +kernel), List.mem_of_getElem? (i := 693) (by decide +kernel), List.mem_of_getElem? (i := 694) (by decide +kernel)⟩
theorem lw_p21 : lw_okq (⟨"BlastFace$Reader", "parseStatement", "()Z"⟩, 9) := ⟨⟨by decide +kernel, by decide +kernel⟩, List.mem_of_getElem? (i := 195) (by decide +kernel), List.mem_of_getElem? (i := 729) (by decide +kernel), List.mem_of_getElem? (i := 730) (by decide +kernel)⟩
theorem lw_p22 : lw_okq (⟨"BlastFace$Reader", "nextToken", "()V"⟩, 9) := ⟨⟨by decide +kernel, by decide +kernel⟩, List.mem_of_getElem? (i := 195) (by decide +kernel), List.mem_of_getElem? (i := 733) (by decide +kernel), List.mem_of_getElem? (i := 734) (by decide +kernel)⟩
theorem lw_p23 : lw_okq (⟨"BlastFace$Reader", "verbHere", "()I"⟩, 9) := ⟨⟨by decide +kernel, by decide +kernel⟩, List.mem_of_getElem? (i := 195) (by decide +kernel), List.mem_of_getElem? (i := 740) (by decide +kernel), List.mem_of_getElem? (i := 741) (by decide +kernel)⟩
theorem lw_p24 : lw_okq (⟨"BlastFace$Reader", "isWordHere", "(Ljava/lang/String;)Z"⟩, 9) := ⟨⟨by decide +kernel, by decide +kernel⟩, List.mem_of_getElem? (i := 195) (by decide +kernel), List.mem_of_getElem? (i := 753) (by decide +kernel), List.mem_of_getElem? (i := 754) (by decide +kernel)⟩
theorem lw_p25 : lw_okq (⟨"BlastFace$Reader", "valueHere", "(C)I"⟩, 9) := ⟨⟨by decide +kernel, by decide +kernel⟩, List.mem_of_getElem? (i := 195) (by decide +kernel), List.mem_of_getElem? (i := 811) (by decide +kernel), List.mem_of_getElem? (i := 812) (by decide +kernel)⟩
theorem lw_p26 : lw_okq (⟨"BlastFace$Reader", "kindHere", "()I"⟩, 9) := ⟨⟨by decide +kernel, by decide +kernel⟩, List.mem_of_getElem? (i := 195) (by decide +kernel), List.mem_of_getElem? (i := 815) (by decide +kernel), List.mem_of_getElem? (i := 816) (by decide +kernel)⟩
theorem lw_p27 : lw_okq (⟨"BlastFace$Reader", "numberHere", "()I"⟩, 9) := ⟨⟨by decide +kernel, by decide +kernel⟩, List.mem_of_getElem? (i := 195) (by decide +kernel), List.mem_of_getElem? (i := 829) (by decide +kernel), List.mem_of_getElem? (i := 830) (by decide +kernel)⟩
theorem lw_p28 : lw_okq (⟨"BlastFace$Reader", "isDone", "(LBlastFace$Pattern;I)Z"⟩, 9) := ⟨⟨by decide +kernel, by decide +kernel⟩, List.mem_of_getElem? (i := 195) (by decide +kernel), List.mem_of_getElem? (i := 841) (by decide +kernel), List.mem_of_getElem? (i := 842) (by decide +kernel)⟩
theorem lw_p29 : lw_okq (⟨"BlastFace", "written", "()LBlastFace$Scribe;"⟩, 15) := ⟨⟨by decide +kernel, by decide +kernel⟩, List.mem_of_getElem? (i := 20) (by decide +kernel), List.mem_of_getElem? (i := 853) (by decide +kernel), List.mem_of_getElem? (i := 854) (by decide +kernel)⟩
theorem lw_p30 : lw_okq (⟨"BlastFace$Scribe", "writeHole", "(LBlastFace$Pattern;I)V"⟩, 2) := ⟨⟨by decide +kernel, by decide +kernel⟩, List.mem_of_getElem? (i := 179) (by decide +kernel), List.mem_of_getElem? (i := 861) (by decide +kernel), List.mem_of_getElem? (i := 862) (by decide +kernel)⟩
theorem lw_p31 : lw_okq (⟨"BlastFace$Scribe", "begin", "(Ljava/lang/String;)V"⟩, 2) := ⟨⟨by decide +kernel, by decide +kernel⟩, List.mem_of_getElem? (i := 179) (by decide +kernel), List.mem_of_getElem? (i := 866) (by decide +kernel), List.mem_of_getElem? (i := 867) (by decide +kernel)⟩
def lw_privs_2 : List (MethodName × Nat) := [(⟨"BlastFace", "mostHarmful", "(IZ)I"⟩, 15), (⟨"BlastFace", "drawn", "()LBlastFace$Planner;"⟩, 15), (⟨"BlastFace$Planner", "settle", "(I)V"⟩, 8), (⟨"BlastFace$Planner", "isQuiet", "(I)Z"⟩, 8), (⟨"BlastFace$Planner", "shakeWith", "(II)I"⟩, 8), (⟨"BlastFace$Reader", "parseStatement", "()Z"⟩, 9), (⟨"BlastFace$Reader", "nextToken", "()V"⟩, 9), (⟨"BlastFace$Reader", "verbHere", "()I"⟩, 9), (⟨"BlastFace$Reader", "isWordHere", "(Ljava/lang/String;)Z"⟩, 9), (⟨"BlastFace$Reader", "valueHere", "(C)I"⟩, 9), (⟨"BlastFace$Reader", "kindHere", "()I"⟩, 9), (⟨"BlastFace$Reader", "numberHere", "()I"⟩, 9), (⟨"BlastFace$Reader", "isDone", "(LBlastFace$Pattern;I)Z"⟩, 9), (⟨"BlastFace", "written", "()LBlastFace$Scribe;"⟩, 15), (⟨"BlastFace$Scribe", "writeHole", "(LBlastFace$Pattern;I)V"⟩, 2), (⟨"BlastFace$Scribe", "begin", "(Ljava/lang/String;)V"⟩, 2)]
theorem lw_r2 : ∀ q ∈ lw_privs_2, lw_okq q := List.forall_mem_cons.mpr ⟨lw_p16, List.forall_mem_cons.mpr ⟨lw_p17, List.forall_mem_cons.mpr ⟨lw_p18, List.forall_mem_cons.mpr ⟨lw_p19, List.forall_mem_cons.mpr ⟨lw_p20, List.forall_mem_cons.mpr ⟨lw_p21, List.forall_mem_cons.mpr ⟨lw_p22, List.forall_mem_cons.mpr ⟨lw_p23, List.forall_mem_cons.mpr ⟨lw_p24, List.forall_mem_cons.mpr ⟨lw_p25, List.forall_mem_cons.mpr ⟨lw_p26, List.forall_mem_cons.mpr ⟨lw_p27, List.forall_mem_cons.mpr ⟨lw_p28, List.forall_mem_cons.mpr ⟨lw_p29, List.forall_mem_cons.mpr ⟨lw_p30, List.forall_mem_cons.mpr ⟨lw_p31, fun _ h => absurd h List.not_mem_nil⟩⟩⟩⟩⟩⟩⟩⟩⟩⟩⟩⟩⟩⟩⟩⟩
theorem lw_p32 : lw_okq (⟨"BlastFace$Scribe", "writeByte", "(I)V"⟩, 2) := ⟨⟨by decide +kernel, by decide +kernel⟩, List.mem_of_getElem? (i := 179) (by decide +kernel), List.mem_of_getElem? (i := 870) (by decide +kernel), List.mem_of_getElem? (i := 871) (by decide +kernel)⟩
theorem lw_p33 : lw_okq (⟨"BlastFace$Scribe", "writeLetters", "(Ljava/lang/String;)V"⟩, 2) := ⟨⟨by decide +kernel, by decide +kernel⟩, List.mem_of_getElem? (i := 179) (by decide +kernel), List.mem_of_getElem? (i := 874) (by decide +kernel), List.mem_of_getElem? (i := 875) (by decide +kernel)⟩
theorem lw_p34 : lw_okq (⟨"BlastFace$Scribe", "writeNumber", "(I)V"⟩, 2) := ⟨⟨by decide +kernel, by decide +kernel⟩, List.mem_of_getElem? (i := 179) (by decide +kernel), List.mem_of_getElem? (i := 881) (by decide +kernel), List.mem_of_getElem? (i := 882) (by decide +kernel)⟩
theorem lw_p35 : lw_okq (⟨"BlastFace$Scribe", "writeWord", "(Ljava/lang/String;)V"⟩, 2) := ⟨⟨by decide +kernel, by decide +kernel⟩, List.mem_of_getElem? (i := 179) (by decide +kernel), List.mem_of_getElem? (i := 886) (by decide +kernel), List.mem_of_getElem? (i := 887) (by decide +kernel)⟩
theorem lw_p36 : lw_okq (⟨"BlastFace$Scribe", "writeWire", "(LBlastFace$Pattern;I)V"⟩, 2) := ⟨⟨by decide +kernel, by decide +kernel⟩, List.mem_of_getElem? (i := 179) (by decide +kernel), List.mem_of_getElem? (i := 890) (by decide +kernel), List.mem_of_getElem? (i := 891) (by decide +kernel)⟩
theorem lw_p37 : lw_okq (⟨"BlastFaceModel", "isTaken", "(II)Z"⟩, 35) := ⟨⟨by decide +kernel, by decide +kernel⟩, List.mem_of_getElem? (i := 999) (by decide +kernel), List.mem_of_getElem? (i := 1125) (by decide +kernel), List.mem_of_getElem? (i := 1126) (by decide +kernel)⟩
theorem lw_p38 : lw_okq (⟨"BlastFaceModel", "its", "(II)I"⟩, 35) := ⟨⟨by decide +kernel, by decide +kernel⟩, List.mem_of_getElem? (i := 999) (by decide +kernel), List.mem_of_getElem? (i := 1129) (by decide +kernel), List.mem_of_getElem? (i := 1130) (by decide +kernel)⟩
theorem lw_p39 : lw_okq (⟨"BlastFaceModel", "isHole", "(I)Z"⟩, 35) := ⟨⟨by decide +kernel, by decide +kernel⟩, List.mem_of_getElem? (i := 999) (by decide +kernel), List.mem_of_getElem? (i := 1143) (by decide +kernel), List.mem_of_getElem? (i := 1144) (by decide +kernel)⟩
theorem lw_p40 : lw_okq (⟨"BlastFaceModel", "loadsOf", "(I)I"⟩, 35) := ⟨⟨by decide +kernel, by decide +kernel⟩, List.mem_of_getElem? (i := 999) (by decide +kernel), List.mem_of_getElem? (i := 1148) (by decide +kernel), List.mem_of_getElem? (i := 1149) (by decide +kernel)⟩
theorem lw_p41 : lw_okq (⟨"BlastFaceModel", "firstLoad", "(I)I"⟩, 35) := ⟨⟨by decide +kernel, by decide +kernel⟩, List.mem_of_getElem? (i := 999) (by decide +kernel), List.mem_of_getElem? (i := 1152) (by decide +kernel), List.mem_of_getElem? (i := 1153) (by decide +kernel)⟩
theorem lw_p42 : lw_okq (⟨"BlastFaceModel", "secondLoad", "(I)I"⟩, 35) := ⟨⟨by decide +kernel, by decide +kernel⟩, List.mem_of_getElem? (i := 999) (by decide +kernel), List.mem_of_getElem? (i := 1159) (by decide +kernel), List.mem_of_getElem? (i := 1160) (by decide +kernel)⟩
theorem lw_p43 : lw_okq (⟨"BlastFaceModel", "rockOf", "(I)I"⟩, 35) := ⟨⟨by decide +kernel, by decide +kernel⟩, List.mem_of_getElem? (i := 999) (by decide +kernel), List.mem_of_getElem? (i := 1163) (by decide +kernel), List.mem_of_getElem? (i := 1164) (by decide +kernel)⟩
theorem lw_p44 : lw_okq (⟨"BlastFaceModel", "needsOf", "(I)I"⟩, 35) := ⟨⟨by decide +kernel, by decide +kernel⟩, List.mem_of_getElem? (i := 999) (by decide +kernel), List.mem_of_getElem? (i := 1167) (by decide +kernel), List.mem_of_getElem? (i := 1168) (by decide +kernel)⟩
theorem lw_p45 : lw_okq (⟨"BlastFaceModel", "aheadOf", "(I)I"⟩, 35) := ⟨⟨by decide +kernel, by decide +kernel⟩, List.mem_of_getElem? (i := 999) (by decide +kernel), List.mem_of_getElem? (i := 1171) (by decide +kernel), List.mem_of_getElem? (i := 1172) (by decide +kernel)⟩
theorem lw_p46 : lw_okq (⟨"BlastFaceModel", "isWire", "(I)Z"⟩, 35) := ⟨⟨by decide +kernel, by decide +kernel⟩, List.mem_of_getElem? (i := 999) (by decide +kernel), List.mem_of_getElem? (i := 1195) (by decide +kernel), List.mem_of_getElem? (i := 1196) (by decide +kernel)⟩
theorem lw_p47 : lw_okq (⟨"BlastFaceModel", "cuts", "(I)V"⟩, 35) := ⟨⟨by decide +kernel, by decide +kernel⟩, List.mem_of_getElem? (i := 999) (by decide +kernel), List.mem_of_getElem? (i := 1199) (by decide +kernel), List.mem_of_getElem? (i := 1200) (by decide +kernel)⟩
def lw_privs_3 : List (MethodName × Nat) := [(⟨"BlastFace$Scribe", "writeByte", "(I)V"⟩, 2), (⟨"BlastFace$Scribe", "writeLetters", "(Ljava/lang/String;)V"⟩, 2), (⟨"BlastFace$Scribe", "writeNumber", "(I)V"⟩, 2), (⟨"BlastFace$Scribe", "writeWord", "(Ljava/lang/String;)V"⟩, 2), (⟨"BlastFace$Scribe", "writeWire", "(LBlastFace$Pattern;I)V"⟩, 2), (⟨"BlastFaceModel", "isTaken", "(II)Z"⟩, 35), (⟨"BlastFaceModel", "its", "(II)I"⟩, 35), (⟨"BlastFaceModel", "isHole", "(I)Z"⟩, 35), (⟨"BlastFaceModel", "loadsOf", "(I)I"⟩, 35), (⟨"BlastFaceModel", "firstLoad", "(I)I"⟩, 35), (⟨"BlastFaceModel", "secondLoad", "(I)I"⟩, 35), (⟨"BlastFaceModel", "rockOf", "(I)I"⟩, 35), (⟨"BlastFaceModel", "needsOf", "(I)I"⟩, 35), (⟨"BlastFaceModel", "aheadOf", "(I)I"⟩, 35), (⟨"BlastFaceModel", "isWire", "(I)Z"⟩, 35), (⟨"BlastFaceModel", "cuts", "(I)V"⟩, 35)]
theorem lw_r3 : ∀ q ∈ lw_privs_3, lw_okq q := List.forall_mem_cons.mpr ⟨lw_p32, List.forall_mem_cons.mpr ⟨lw_p33, List.forall_mem_cons.mpr ⟨lw_p34, List.forall_mem_cons.mpr ⟨lw_p35, List.forall_mem_cons.mpr ⟨lw_p36, List.forall_mem_cons.mpr ⟨lw_p37, List.forall_mem_cons.mpr ⟨lw_p38, List.forall_mem_cons.mpr ⟨lw_p39, List.forall_mem_cons.mpr ⟨lw_p40, List.forall_mem_cons.mpr ⟨lw_p41, List.forall_mem_cons.mpr ⟨lw_p42, List.forall_mem_cons.mpr ⟨lw_p43, List.forall_mem_cons.mpr ⟨lw_p44, List.forall_mem_cons.mpr ⟨lw_p45, List.forall_mem_cons.mpr ⟨lw_p46, List.forall_mem_cons.mpr ⟨lw_p47, fun _ h => absurd h List.not_mem_nil⟩⟩⟩⟩⟩⟩⟩⟩⟩⟩⟩⟩⟩⟩⟩⟩
theorem lw_p48 : lw_okq (⟨"BlastFaceModel", "wires", "(II)I"⟩, 35) := ⟨⟨by decide +kernel, by decide +kernel⟩, List.mem_of_getElem? (i := 999) (by decide +kernel), List.mem_of_getElem? (i := 1213) (by decide +kernel), List.mem_of_getElem? (i := 1214) (by decide +kernel)⟩
theorem lw_p49 : lw_okq (⟨"BlastFaceModel", "fires", "()V"⟩, 35) := ⟨⟨by decide +kernel, by decide +kernel⟩, List.mem_of_getElem? (i := 999) (by decide +kernel), List.mem_of_getElem? (i := 1221) (by decide +kernel), List.mem_of_getElem? (i := 1222) (by decide +kernel)⟩
theorem lw_p50 : lw_okq (⟨"BlastFaceModel", "signals", "()V"⟩, 35) := ⟨⟨by decide +kernel, by decide +kernel⟩, List.mem_of_getElem? (i := 999) (by decide +kernel), List.mem_of_getElem? (i := 1225) (by decide +kernel), List.mem_of_getElem? (i := 1226) (by decide +kernel)⟩
theorem lw_p51 : lw_okq (⟨"BlastFaceModel", "endOf", "(I)I"⟩, 35) := ⟨⟨by decide +kernel, by decide +kernel⟩, List.mem_of_getElem? (i := 999) (by decide +kernel), List.mem_of_getElem? (i := 1230) (by decide +kernel), List.mem_of_getElem? (i := 1231) (by decide +kernel)⟩
theorem lw_p52 : lw_okq (⟨"BlastFaceModel", "isDead", "(I)Z"⟩, 35) := ⟨⟨by decide +kernel, by decide +kernel⟩, List.mem_of_getElem? (i := 999) (by decide +kernel), List.mem_of_getElem? (i := 1234) (by decide +kernel), List.mem_of_getElem? (i := 1235) (by decide +kernel)⟩
theorem lw_p53 : lw_okq (⟨"BlastFaceModel", "has", "(II)Z"⟩, 35) := ⟨⟨by decide +kernel, by decide +kernel⟩, List.mem_of_getElem? (i := 999) (by decide +kernel), List.mem_of_getElem? (i := 1238) (by decide +kernel), List.mem_of_getElem? (i := 1239) (by decide +kernel)⟩
theorem lw_p54 : lw_okq (⟨"BlastFaceModel", "isRelieved", "(II)Z"⟩, 35) := ⟨⟨by decide +kernel, by decide +kernel⟩, List.mem_of_getElem? (i := 999) (by decide +kernel), List.mem_of_getElem? (i := 1242) (by decide +kernel), List.mem_of_getElem? (i := 1243) (by decide +kernel)⟩
theorem lw_p55 : lw_okq (⟨"BlastFaceModel", "isTorn", "(I)Z"⟩, 35) := ⟨⟨by decide +kernel, by decide +kernel⟩, List.mem_of_getElem? (i := 999) (by decide +kernel), List.mem_of_getElem? (i := 1246) (by decide +kernel), List.mem_of_getElem? (i := 1247) (by decide +kernel)⟩
theorem lw_p56 : lw_okq (⟨"BlastFaceModel", "ringOf", "(I)I"⟩, 35) := ⟨⟨by decide +kernel, by decide +kernel⟩, List.mem_of_getElem? (i := 999) (by decide +kernel), List.mem_of_getElem? (i := 1255) (by decide +kernel), List.mem_of_getElem? (i := 1256) (by decide +kernel)⟩
theorem lw_p57 : lw_okq (⟨"BlastFaceModel", "lays", "()V"⟩, 35) := ⟨⟨by decide +kernel, by decide +kernel⟩, List.mem_of_getElem? (i := 999) (by decide +kernel), List.mem_of_getElem? (i := 1263) (by decide +kernel), List.mem_of_getElem? (i := 1264) (by decide +kernel)⟩
theorem lw_p58 : lw_okq (⟨"BlastFaceModel", "laysShots", "(I)V"⟩, 35) := ⟨⟨by decide +kernel, by decide +kernel⟩, List.mem_of_getElem? (i := 999) (by decide +kernel), List.mem_of_getElem? (i := 1267) (by decide +kernel), List.mem_of_getElem? (i := 1268) (by decide +kernel)⟩
theorem lw_p59 : lw_okq (⟨"BlastFaceModel", "shoots", "(III)V"⟩, 35) := ⟨⟨by decide +kernel, by decide +kernel⟩, List.mem_of_getElem? (i := 999) (by decide +kernel), List.mem_of_getElem? (i := 1271) (by decide +kernel), List.mem_of_getElem? (i := 1272) (by decide +kernel)⟩
theorem lw_p60 : lw_okq (⟨"BlastFaceModel", "shakeAt", "(I)I"⟩, 35) := ⟨⟨by decide +kernel, by decide +kernel⟩, List.mem_of_getElem? (i := 999) (by decide +kernel), List.mem_of_getElem? (i := 1280) (by decide +kernel), List.mem_of_getElem? (i := 1281) (by decide +kernel)⟩
theorem lw_p61 : lw_okq (⟨"BlastFaceModel", "worstShake", "()I"⟩, 35) := ⟨⟨by decide +kernel, by decide +kernel⟩, List.mem_of_getElem? (i := 999) (by decide +kernel), List.mem_of_getElem? (i := 1288) (by decide +kernel), List.mem_of_getElem? (i := 1289) (by decide +kernel)⟩
theorem lw_p62 : lw_okq (⟨"BlastFaceModel", "worstTime", "()I"⟩, 35) := ⟨⟨by decide +kernel, by decide +kernel⟩, List.mem_of_getElem? (i := 999) (by decide +kernel), List.mem_of_getElem? (i := 1292) (by decide +kernel), List.mem_of_getElem? (i := 1293) (by decide +kernel)⟩
theorem lw_p63 : lw_okq (⟨"BlastFaceModel", "over", "()I"⟩, 35) := ⟨⟨by decide +kernel, by decide +kernel⟩, List.mem_of_getElem? (i := 999) (by decide +kernel), List.mem_of_getElem? (i := 1296) (by decide +kernel), List.mem_of_getElem? (i := 1297) (by decide +kernel)⟩
def lw_privs_4 : List (MethodName × Nat) := [(⟨"BlastFaceModel", "wires", "(II)I"⟩, 35), (⟨"BlastFaceModel", "fires", "()V"⟩, 35), (⟨"BlastFaceModel", "signals", "()V"⟩, 35), (⟨"BlastFaceModel", "endOf", "(I)I"⟩, 35), (⟨"BlastFaceModel", "isDead", "(I)Z"⟩, 35), (⟨"BlastFaceModel", "has", "(II)Z"⟩, 35), (⟨"BlastFaceModel", "isRelieved", "(II)Z"⟩, 35), (⟨"BlastFaceModel", "isTorn", "(I)Z"⟩, 35), (⟨"BlastFaceModel", "ringOf", "(I)I"⟩, 35), (⟨"BlastFaceModel", "lays", "()V"⟩, 35), (⟨"BlastFaceModel", "laysShots", "(I)V"⟩, 35), (⟨"BlastFaceModel", "shoots", "(III)V"⟩, 35), (⟨"BlastFaceModel", "shakeAt", "(I)I"⟩, 35), (⟨"BlastFaceModel", "worstShake", "()I"⟩, 35), (⟨"BlastFaceModel", "worstTime", "()I"⟩, 35), (⟨"BlastFaceModel", "over", "()I"⟩, 35)]
theorem lw_r4 : ∀ q ∈ lw_privs_4, lw_okq q := List.forall_mem_cons.mpr ⟨lw_p48, List.forall_mem_cons.mpr ⟨lw_p49, List.forall_mem_cons.mpr ⟨lw_p50, List.forall_mem_cons.mpr ⟨lw_p51, List.forall_mem_cons.mpr ⟨lw_p52, List.forall_mem_cons.mpr ⟨lw_p53, List.forall_mem_cons.mpr ⟨lw_p54, List.forall_mem_cons.mpr ⟨lw_p55, List.forall_mem_cons.mpr ⟨lw_p56, List.forall_mem_cons.mpr ⟨lw_p57, List.forall_mem_cons.mpr ⟨lw_p58, List.forall_mem_cons.mpr ⟨lw_p59, List.forall_mem_cons.mpr ⟨lw_p60, List.forall_mem_cons.mpr ⟨lw_p61, List.forall_mem_cons.mpr ⟨lw_p62, List.forall_mem_cons.mpr ⟨lw_p63, fun _ h => absurd h List.not_mem_nil⟩⟩⟩⟩⟩⟩⟩⟩⟩⟩⟩⟩⟩⟩⟩⟩
theorem lw_p64 : lw_okq (⟨"BlastFaceModel", "misfires", "(I)V"⟩, 35) := ⟨⟨by decide +kernel, by decide +kernel⟩, List.mem_of_getElem? (i := 999) (by decide +kernel), List.mem_of_getElem? (i := 1323) (by decide +kernel), List.mem_of_getElem? (i := 1324) (by decide +kernel)⟩
theorem lw_p65 : lw_okq (⟨"BlastFaceModel", "compares", "(III)V"⟩, 35) := ⟨⟨by decide +kernel, by decide +kernel⟩, List.mem_of_getElem? (i := 999) (by decide +kernel), List.mem_of_getElem? (i := 1330) (by decide +kernel), List.mem_of_getElem? (i := 1331) (by decide +kernel)⟩
theorem lw_p66 : lw_okq (⟨"BlastFaceModel", "told", "(I)I"⟩, 35) := ⟨⟨by decide +kernel, by decide +kernel⟩, List.mem_of_getElem? (i := 999) (by decide +kernel), List.mem_of_getElem? (i := 1334) (by decide +kernel), List.mem_of_getElem? (i := 1335) (by decide +kernel)⟩
theorem lw_p67 : lw_okq (⟨"BlastFaceModel", "breaks", "(I)V"⟩, 35) := ⟨⟨by decide +kernel, by decide +kernel⟩, List.mem_of_getElem? (i := 999) (by decide +kernel), List.mem_of_getElem? (i := 1342) (by decide +kernel), List.mem_of_getElem? (i := 1343) (by decide +kernel)⟩
theorem lw_p68 : lw_okq (⟨"BlastFaceModel", "plans", "()V"⟩, 35) := ⟨⟨by decide +kernel, by decide +kernel⟩, List.mem_of_getElem? (i := 999) (by decide +kernel), List.mem_of_getElem? (i := 1357) (by decide +kernel), List.mem_of_getElem? (i := 1358) (by decide +kernel)⟩
theorem lw_p69 : lw_okq (⟨"BlastFaceModel", "plans", "(I)V"⟩, 35) := ⟨⟨by decide +kernel, by decide +kernel⟩, List.mem_of_getElem? (i := 999) (by decide +kernel), List.mem_of_getElem? (i := 1361) (by decide +kernel), List.mem_of_getElem? (i := 1362) (by decide +kernel)⟩
theorem lw_p70 : lw_okq (⟨"BlastFaceModel", "fits", "(I)Z"⟩, 35) := ⟨⟨by decide +kernel, by decide +kernel⟩, List.mem_of_getElem? (i := 999) (by decide +kernel), List.mem_of_getElem? (i := 1365) (by decide +kernel), List.mem_of_getElem? (i := 1366) (by decide +kernel)⟩
theorem lw_p71 : lw_okq (⟨"BlastFaceModel", "next", "()V"⟩, 35) := ⟨⟨by decide +kernel, by decide +kernel⟩, List.mem_of_getElem? (i := 999) (by decide +kernel), List.mem_of_getElem? (i := 1386) (by decide +kernel), List.mem_of_getElem? (i := 1387) (by decide +kernel)⟩
theorem lw_p72 : lw_okq (⟨"BlastFaceModel", "here", "()I"⟩, 35) := ⟨⟨by decide +kernel, by decide +kernel⟩, List.mem_of_getElem? (i := 999) (by decide +kernel), List.mem_of_getElem? (i := 1390) (by decide +kernel), List.mem_of_getElem? (i := 1391) (by decide +kernel)⟩
theorem lw_p73 : lw_okq (⟨"BlastFaceModel", "wordHere", "()I"⟩, 35) := ⟨⟨by decide +kernel, by decide +kernel⟩, List.mem_of_getElem? (i := 999) (by decide +kernel), List.mem_of_getElem? (i := 1396) (by decide +kernel), List.mem_of_getElem? (i := 1397) (by decide +kernel)⟩
theorem lw_p74 : lw_okq (⟨"BlastFaceModel", "numberHere", "()I"⟩, 35) := ⟨⟨by decide +kernel, by decide +kernel⟩, List.mem_of_getElem? (i := 999) (by decide +kernel), List.mem_of_getElem? (i := 1402) (by decide +kernel), List.mem_of_getElem? (i := 1403) (by decide +kernel)⟩
theorem lw_p75 : lw_okq (⟨"BlastFaceModel", "takesStatement", "()Z"⟩, 35) := ⟨⟨by decide +kernel, by decide +kernel⟩, List.mem_of_getElem? (i := 999) (by decide +kernel), List.mem_of_getElem? (i := 1406) (by decide +kernel), List.mem_of_getElem? (i := 1407) (by decide +kernel)⟩
theorem lw_p76 : lw_okq (⟨"BlastFaceModel", "takesHole", "()Z"⟩, 35) := ⟨⟨by decide +kernel, by decide +kernel⟩, List.mem_of_getElem? (i := 999) (by decide +kernel), List.mem_of_getElem? (i := 1411) (by decide +kernel), List.mem_of_getElem? (i := 1412) (by decide +kernel)⟩
theorem lw_p77 : lw_okq (⟨"BlastFaceModel", "takesNumbers", "(II)Z"⟩, 35) := ⟨⟨by decide +kernel, by decide +kernel⟩, List.mem_of_getElem? (i := 999) (by decide +kernel), List.mem_of_getElem? (i := 1415) (by decide +kernel), List.mem_of_getElem? (i := 1416) (by decide +kernel)⟩
theorem lw_p78 : lw_okq (⟨"BlastFaceModel", "takesNumber", "(I)Z"⟩, 35) := ⟨⟨by decide +kernel, by decide +kernel⟩, List.mem_of_getElem? (i := 999) (by decide +kernel), List.mem_of_getElem? (i := 1419) (by decide +kernel), List.mem_of_getElem? (i := 1420) (by decide +kernel)⟩
theorem lw_p79 : lw_okq (⟨"BlastFaceModel", "takesWire", "()Z"⟩, 35) := ⟨⟨by decide +kernel, by decide +kernel⟩, List.mem_of_getElem? (i := 999) (by decide +kernel), List.mem_of_getElem? (i := 1423) (by decide +kernel), List.mem_of_getElem? (i := 1424) (by decide +kernel)⟩
def lw_privs_5 : List (MethodName × Nat) := [(⟨"BlastFaceModel", "misfires", "(I)V"⟩, 35), (⟨"BlastFaceModel", "compares", "(III)V"⟩, 35), (⟨"BlastFaceModel", "told", "(I)I"⟩, 35), (⟨"BlastFaceModel", "breaks", "(I)V"⟩, 35), (⟨"BlastFaceModel", "plans", "()V"⟩, 35), (⟨"BlastFaceModel", "plans", "(I)V"⟩, 35), (⟨"BlastFaceModel", "fits", "(I)Z"⟩, 35), (⟨"BlastFaceModel", "next", "()V"⟩, 35), (⟨"BlastFaceModel", "here", "()I"⟩, 35), (⟨"BlastFaceModel", "wordHere", "()I"⟩, 35), (⟨"BlastFaceModel", "numberHere", "()I"⟩, 35), (⟨"BlastFaceModel", "takesStatement", "()Z"⟩, 35), (⟨"BlastFaceModel", "takesHole", "()Z"⟩, 35), (⟨"BlastFaceModel", "takesNumbers", "(II)Z"⟩, 35), (⟨"BlastFaceModel", "takesNumber", "(I)Z"⟩, 35), (⟨"BlastFaceModel", "takesWire", "()Z"⟩, 35)]
theorem lw_r5 : ∀ q ∈ lw_privs_5, lw_okq q := List.forall_mem_cons.mpr ⟨lw_p64, List.forall_mem_cons.mpr ⟨lw_p65, List.forall_mem_cons.mpr ⟨lw_p66, List.forall_mem_cons.mpr ⟨lw_p67, List.forall_mem_cons.mpr ⟨lw_p68, List.forall_mem_cons.mpr ⟨lw_p69, List.forall_mem_cons.mpr ⟨lw_p70, List.forall_mem_cons.mpr ⟨lw_p71, List.forall_mem_cons.mpr ⟨lw_p72, List.forall_mem_cons.mpr ⟨lw_p73, List.forall_mem_cons.mpr ⟨lw_p74, List.forall_mem_cons.mpr ⟨lw_p75, List.forall_mem_cons.mpr ⟨lw_p76, List.forall_mem_cons.mpr ⟨lw_p77, List.forall_mem_cons.mpr ⟨lw_p78, List.forall_mem_cons.mpr ⟨lw_p79, fun _ h => absurd h List.not_mem_nil⟩⟩⟩⟩⟩⟩⟩⟩⟩⟩⟩⟩⟩⟩⟩⟩
theorem lw_p80 : lw_okq (⟨"BlastFaceModel", "does", "(I)Z"⟩, 35) := ⟨⟨by decide +kernel, by decide +kernel⟩, List.mem_of_getElem? (i := 999) (by decide +kernel), List.mem_of_getElem? (i := 1427) (by decide +kernel), List.mem_of_getElem? (i := 1428) (by decide +kernel)⟩
theorem lw_p81 : lw_okq (⟨"BlastFaceModel", "sign", "(I)V"⟩, 35) := ⟨⟨by decide +kernel, by decide +kernel⟩, List.mem_of_getElem? (i := 999) (by decide +kernel), List.mem_of_getElem? (i := 1439) (by decide +kernel), List.mem_of_getElem? (i := 1440) (by decide +kernel)⟩
theorem lw_p82 : lw_okq (⟨"BlastFaceModel", "spells", "(I)V"⟩, 35) := ⟨⟨by decide +kernel, by decide +kernel⟩, List.mem_of_getElem? (i := 999) (by decide +kernel), List.mem_of_getElem? (i := 1443) (by decide +kernel), List.mem_of_getElem? (i := 1444) (by decide +kernel)⟩
theorem lw_p83 : lw_okq (⟨"BlastFaceModel", "number", "(I)V"⟩, 35) := ⟨⟨by decide +kernel, by decide +kernel⟩, List.mem_of_getElem? (i := 999) (by decide +kernel), List.mem_of_getElem? (i := 1447) (by decide +kernel), List.mem_of_getElem? (i := 1448) (by decide +kernel)⟩
theorem lw_p84 : lw_okq (⟨"BlastFaceModel", "layable", "(I)I"⟩, 35) := ⟨⟨by decide +kernel, by decide +kernel⟩, List.mem_of_getElem? (i := 999) (by decide +kernel), List.mem_of_getElem? (i := 1483) (by decide +kernel), List.mem_of_getElem? (i := 1484) (by decide +kernel)⟩
def lw_privs_6 : List (MethodName × Nat) := [(⟨"BlastFaceModel", "does", "(I)Z"⟩, 35), (⟨"BlastFaceModel", "sign", "(I)V"⟩, 35), (⟨"BlastFaceModel", "spells", "(I)V"⟩, 35), (⟨"BlastFaceModel", "number", "(I)V"⟩, 35), (⟨"BlastFaceModel", "layable", "(I)I"⟩, 35)]
theorem lw_r6 : ∀ q ∈ lw_privs_6, lw_okq q := List.forall_mem_cons.mpr ⟨lw_p80, List.forall_mem_cons.mpr ⟨lw_p81, List.forall_mem_cons.mpr ⟨lw_p82, List.forall_mem_cons.mpr ⟨lw_p83, List.forall_mem_cons.mpr ⟨lw_p84, fun _ h => absurd h List.not_mem_nil⟩⟩⟩⟩⟩
def lw_privs : List (MethodName × Nat) := lw_privs_1 ++ (lw_privs_2 ++ (lw_privs_3 ++ (lw_privs_4 ++ (lw_privs_5 ++ (lw_privs_6)))))
def lw_tbl : List Cond := k2_sels lw_privs ++ tables_1
theorem lw_privs_ok : ∀ q ∈ lw_privs, lw_okq q := by
  show ∀ q ∈ lw_privs_1 ++ (lw_privs_2 ++ (lw_privs_3 ++ (lw_privs_4 ++ (lw_privs_5 ++ (lw_privs_6))))), lw_okq q
  exact List.forall_mem_append.mpr ⟨lw_r1, List.forall_mem_append.mpr ⟨lw_r2, List.forall_mem_append.mpr ⟨lw_r3, List.forall_mem_append.mpr ⟨lw_r4, List.forall_mem_append.mpr ⟨lw_r5, lw_r6⟩⟩⟩⟩⟩
end
section
def RX0 : String := "BlastFace$Blast"
def TX0 : u_T := fun k => match k with
  | 0 => ("BlastFace$Blast", "pattern", "LBlastFace$Pattern;", true)
  | 1 => ("BlastFace$Blast", "signals", "[I", true)
  | 2 => ("BlastFace$Blast", "times", "[I", true)
  | 3 => ("BlastFace$Blast", "shots", "LBlastFace$Shots;", true)
  | 4 => ("BlastFace$Blast", "firing", "I", false)
  | 5 => ("BlastFace$Blast", "buried", "I", false)
  | _ => ("BlastFace$Blast", "dead", "I", false)
def tyX0 : Nat → FieldType := fun k => match k with
  | 0 => .object "BlastFace$Pattern"
  | 1 => .array .int
  | 2 => .array .int
  | 3 => .object "BlastFace$Shots"
  | 4 => .int
  | 5 => .int
  | _ => .int
abbrev wsX00 : List Cond := u_ws RX0 TX0 7
theorem nmX0 : ∀ a, a < 7 → ∀ b, b < 7 → a ≠ b → (TX0 a).2.1 ≠ (TX0 b).2.1 := by decide +kernel
theorem tyX0_ok : ∀ k, k < 7 → parseFieldDescriptor (TX0 k).2.2.1 = some (tyX0 k) := by decide +kernel
abbrev cX0_init : ByteArray := prog_2_method_1_code
def yX0_init : MethodName := ⟨RX0, "<init>", "(LBlastFace$Pattern;)V"⟩
abbrev cX0_reckon : ByteArray := prog_2_method_2_code
def yX0_reckon : MethodName := ⟨RX0, "reckon", "(II)V"⟩
abbrev cX0_reckonShots : ByteArray := prog_2_method_3_code
def yX0_reckonShots : MethodName := ⟨RX0, "reckonShots", "()V"⟩
abbrev cX0_findSignals : ByteArray := prog_2_method_4_code
def yX0_findSignals : MethodName := ⟨RX0, "findSignals", "(I)V"⟩
abbrev cX0_endOf : ByteArray := prog_2_method_5_code
def yX0_endOf : MethodName := ⟨RX0, "endOf", "(I)I"⟩
abbrev cX0_findFiring : ByteArray := prog_2_method_6_code
def yX0_findFiring : MethodName := ⟨RX0, "findFiring", "()V"⟩
abbrev cX0_findBuried : ByteArray := prog_2_method_7_code
def yX0_findBuried : MethodName := ⟨RX0, "findBuried", "()V"⟩
abbrev cX0_doesFire : ByteArray := prog_2_method_8_code
def yX0_doesFire : MethodName := ⟨RX0, "doesFire", "(I)Z"⟩
abbrev cX0_isBuried : ByteArray := prog_2_method_9_code
def yX0_isBuried : MethodName := ⟨RX0, "isBuried", "(I)Z"⟩
abbrev cX0_unsignalled : ByteArray := prog_2_method_10_code
def yX0_unsignalled : MethodName := ⟨RX0, "unsignalled", "()I"⟩
abbrev cX0_isTorn : ByteArray := prog_2_method_11_code
def yX0_isTorn : MethodName := ⟨RX0, "isTorn", "(I)Z"⟩
abbrev cX0_tornBits : ByteArray := prog_2_method_12_code
def yX0_tornBits : MethodName := ⟨RX0, "tornBits", "()I"⟩
abbrev cX0_ringOf : ByteArray := prog_2_method_13_code
def yX0_ringOf : MethodName := ⟨RX0, "ringOf", "(I)I"⟩
abbrev cX0_rockInRing : ByteArray := prog_2_method_14_code
def yX0_rockInRing : MethodName := ⟨RX0, "rockInRing", "(I)I"⟩
abbrev cX0_rockOfIn : ByteArray := prog_2_method_15_code
def yX0_rockOfIn : MethodName := ⟨RX0, "rockOfIn", "(II)I"⟩
abbrev cX0_canLayOut : ByteArray := prog_2_method_16_code
def yX0_canLayOut : MethodName := ⟨RX0, "canLayOut", "(I)Z"⟩
abbrev cX0_layOut : ByteArray := prog_2_method_17_code
def yX0_layOut : MethodName := ⟨RX0, "layOut", "(I[I)I"⟩
def RX1 : String := "BlastFace$Kind"
def TX1 : u_T := fun k => match k with
  | _ => ("", "", "", false)
def tyX1 : Nat → FieldType := fun k => match k with
  | _ => .int
abbrev wsX10 : List Cond := u_ws RX1 TX1 0
theorem nmX1 : ∀ a, a < 0 → ∀ b, b < 0 → a ≠ b → (TX1 a).2.1 ≠ (TX1 b).2.1 := by decide +kernel
theorem tyX1_ok : ∀ k, k < 0 → parseFieldDescriptor (TX1 k).2.2.1 = some (tyX1 k) := by decide +kernel
abbrev cX1_isUnder : ByteArray := prog_3_method_2_code
def yX1_isUnder : MethodName := ⟨RX1, "isUnder", "(II)Z"⟩
abbrev cX1_firstLoad : ByteArray := prog_3_method_3_code
def yX1_firstLoad : MethodName := ⟨RX1, "firstLoad", "(II)I"⟩
abbrev cX1_secondLoad : ByteArray := prog_3_method_4_code
def yX1_secondLoad : MethodName := ⟨RX1, "secondLoad", "(II)I"⟩
abbrev cX1_rock : ByteArray := prog_3_method_5_code
def yX1_rock : MethodName := ⟨RX1, "rock", "(II)I"⟩
abbrev cX1_needs : ByteArray := prog_3_method_6_code
def yX1_needs : MethodName := ⟨RX1, "needs", "(II)I"⟩
abbrev cX1_made : ByteArray := prog_3_method_7_code
def yX1_made : MethodName := ⟨RX1, "made", "(III)I"⟩
abbrev cX1_word : ByteArray := prog_3_method_8_code
def yX1_word : MethodName := ⟨RX1, "word", "(I)Ljava/lang/String;"⟩
def RX2 : String := "BlastFace$Pattern"
def TX2 : u_T := fun k => match k with
  | 0 => ("BlastFace$Pattern", "marks", "[I", true)
  | 1 => ("BlastFace$Pattern", "cords", "[I", true)
  | 2 => ("BlastFace$Pattern", "rules", "[I", true)
  | 3 => ("BlastFace$Pattern", "holes", "I", false)
  | 4 => ("BlastFace$Pattern", "wires", "I", false)
  | _ => ("BlastFace$Pattern", "clock", "I", false)
def tyX2 : Nat → FieldType := fun k => match k with
  | 0 => .array .int
  | 1 => .array .int
  | 2 => .array .int
  | 3 => .int
  | 4 => .int
  | _ => .int
abbrev wsX20 : List Cond := u_ws RX2 TX2 6
theorem nmX2 : ∀ a, a < 6 → ∀ b, b < 6 → a ≠ b → (TX2 a).2.1 ≠ (TX2 b).2.1 := by decide +kernel
theorem tyX2_ok : ∀ k, k < 6 → parseFieldDescriptor (TX2 k).2.2.1 = some (tyX2 k) := by decide +kernel
abbrev cX2_init : ByteArray := prog_4_method_1_code
def yX2_init : MethodName := ⟨RX2, "<init>", "()V"⟩
abbrev cX2_copyFrom : ByteArray := prog_4_method_2_code
def yX2_copyFrom : MethodName := ⟨RX2, "copyFrom", "(LBlastFace$Pattern;)V"⟩
abbrev cX2_fits : ByteArray := prog_4_method_3_code
def yX2_fits : MethodName := ⟨RX2, "fits", "(II)Z"⟩
abbrev cX2_isHole : ByteArray := prog_4_method_4_code
def yX2_isHole : MethodName := ⟨RX2, "isHole", "(I)Z"⟩
abbrev cX2_isWire : ByteArray := prog_4_method_5_code
def yX2_isWire : MethodName := ⟨RX2, "isWire", "(I)Z"⟩
abbrev cX2_mark : ByteArray := prog_4_method_6_code
def yX2_mark : MethodName := ⟨RX2, "mark", "(II)I"⟩
abbrev cX2_cord : ByteArray := prog_4_method_7_code
def yX2_cord : MethodName := ⟨RX2, "cord", "(II)I"⟩
abbrev cX2_addHole : ByteArray := prog_4_method_8_code
def yX2_addHole : MethodName := ⟨RX2, "addHole", "(IIIIII)I"⟩
abbrev cX2_markAhead : ByteArray := prog_4_method_9_code
def yX2_markAhead : MethodName := ⟨RX2, "markAhead", "(I)V"⟩
abbrev cX2_isAhead : ByteArray := prog_4_method_10_code
def yX2_isAhead : MethodName := ⟨RX2, "isAhead", "(II)Z"⟩
abbrev cX2_changeMark : ByteArray := prog_4_method_11_code
def yX2_changeMark : MethodName := ⟨RX2, "changeMark", "(III)I"⟩
abbrev cX2_addWire : ByteArray := prog_4_method_12_code
def yX2_addWire : MethodName := ⟨RX2, "addWire", "(III)I"⟩
abbrev cX2_removeWire : ByteArray := prog_4_method_13_code
def yX2_removeWire : MethodName := ⟨RX2, "removeWire", "(I)I"⟩
abbrev cX2_removeLastHole : ByteArray := prog_4_method_14_code
def yX2_removeLastHole : MethodName := ⟨RX2, "removeLastHole", "()I"⟩
abbrev cX2_changeRule : ByteArray := prog_4_method_15_code
def yX2_changeRule : MethodName := ⟨RX2, "changeRule", "(II)I"⟩
abbrev cX2_holeAt : ByteArray := prog_4_method_16_code
def yX2_holeAt : MethodName := ⟨RX2, "holeAt", "(II)I"⟩
abbrev cX2_deadBits : ByteArray := prog_4_method_17_code
def yX2_deadBits : MethodName := ⟨RX2, "deadBits", "()I"⟩
abbrev cX2_areNear : ByteArray := prog_4_method_18_code
def yX2_areNear : MethodName := ⟨RX2, "areNear", "(II)Z"⟩
abbrev cX2_columnsOff : ByteArray := prog_4_method_19_code
def yX2_columnsOff : MethodName := ⟨RX2, "columnsOff", "(II)I"⟩
abbrev cX2_firstLoadOf : ByteArray := prog_4_method_20_code
def yX2_firstLoadOf : MethodName := ⟨RX2, "firstLoadOf", "(I)I"⟩
abbrev cX2_secondLoadOf : ByteArray := prog_4_method_21_code
def yX2_secondLoadOf : MethodName := ⟨RX2, "secondLoadOf", "(I)I"⟩
abbrev cX2_loadsOf : ByteArray := prog_4_method_22_code
def yX2_loadsOf : MethodName := ⟨RX2, "loadsOf", "(I)I"⟩
abbrev cX2_hasShots : ByteArray := prog_4_method_23_code
def yX2_hasShots : MethodName := ⟨RX2, "hasShots", "(I)Z"⟩
abbrev cX2_rockOf : ByteArray := prog_4_method_24_code
def yX2_rockOf : MethodName := ⟨RX2, "rockOf", "(I)I"⟩
abbrev cX2_needsOf : ByteArray := prog_4_method_25_code
def yX2_needsOf : MethodName := ⟨RX2, "needsOf", "(I)I"⟩
abbrev cX2_reliefOf : ByteArray := prog_4_method_26_code
def yX2_reliefOf : MethodName := ⟨RX2, "reliefOf", "(II[I)I"⟩
def RX3 : String := "BlastFace$Planner"
def TX3 : u_T := fun k => match k with
  | 0 => ("BlastFace$Planner", "pattern", "LBlastFace$Pattern;", true)
  | 1 => ("BlastFace$Planner", "blast", "LBlastFace$Blast;", true)
  | 2 => ("BlastFace$Planner", "ins", "[I", true)
  | 3 => ("BlastFace$Planner", "times", "[I", true)
  | 4 => ("BlastFace$Planner", "shots", "LBlastFace$Shots;", true)
  | 5 => ("BlastFace$Planner", "settledHoles", "I", false)
  | 6 => ("BlastFace$Planner", "first", "I", false)
  | _ => ("BlastFace$Planner", "second", "I", false)
def tyX3 : Nat → FieldType := fun k => match k with
  | 0 => .object "BlastFace$Pattern"
  | 1 => .object "BlastFace$Blast"
  | 2 => .array .int
  | 3 => .array .int
  | 4 => .object "BlastFace$Shots"
  | 5 => .int
  | 6 => .int
  | _ => .int
abbrev wsX30 : List Cond := u_ws RX3 TX3 8
theorem nmX3 : ∀ a, a < 8 → ∀ b, b < 8 → a ≠ b → (TX3 a).2.1 ≠ (TX3 b).2.1 := by decide +kernel
theorem tyX3_ok : ∀ k, k < 8 → parseFieldDescriptor (TX3 k).2.2.1 = some (tyX3 k) := by decide +kernel
abbrev cX3_init : ByteArray := prog_5_method_1_code
def yX3_init : MethodName := ⟨RX3, "<init>", "(LBlastFace$Pattern;LBlastFace$Blast;)V"⟩
abbrev cX3_draw : ByteArray := prog_5_method_2_code
def yX3_draw : MethodName := ⟨RX3, "draw", "()V"⟩
abbrev cX3_settle : ByteArray := prog_5_method_3_code
def yX3_settle : MethodName := ⟨RX3, "settle", "(I)V"⟩
abbrev cX3_isQuiet : ByteArray := prog_5_method_4_code
def yX3_isQuiet : MethodName := ⟨RX3, "isQuiet", "(I)Z"⟩
abbrev cX3_shakeWith : ByteArray := prog_5_method_5_code
def yX3_shakeWith : MethodName := ⟨RX3, "shakeWith", "(II)I"⟩
abbrev cX3_latest : ByteArray := prog_5_method_6_code
def yX3_latest : MethodName := ⟨RX3, "latest", "()I"⟩
def RX4 : String := "BlastFace$Reader"
def TX4 : u_T := fun k => match k with
  | 0 => ("BlastFace$Reader", "tape", "[B", true)
  | 1 => ("BlastFace$Reader", "size", "I", false)
  | 2 => ("BlastFace$Reader", "statements", "I", false)
  | 3 => ("BlastFace$Reader", "verbs", "[I", true)
  | 4 => ("BlastFace$Reader", "places", "[I", true)
  | 5 => ("BlastFace$Reader", "arguments", "[I", true)
  | 6 => ("BlastFace$Reader", "sort", "I", false)
  | 7 => ("BlastFace$Reader", "start", "I", false)
  | _ => ("BlastFace$Reader", "stop", "I", false)
def tyX4 : Nat → FieldType := fun k => match k with
  | 0 => .array .byte
  | 1 => .int
  | 2 => .int
  | 3 => .array .int
  | 4 => .array .int
  | 5 => .array .int
  | 6 => .int
  | 7 => .int
  | _ => .int
abbrev wsX40 : List Cond := u_ws RX4 TX4 9
theorem nmX4 : ∀ a, a < 9 → ∀ b, b < 9 → a ≠ b → (TX4 a).2.1 ≠ (TX4 b).2.1 := by decide +kernel
theorem tyX4_ok : ∀ k, k < 9 → parseFieldDescriptor (TX4 k).2.2.1 = some (tyX4 k) := by decide +kernel
abbrev cX4_init : ByteArray := prog_6_method_1_code
def yX4_init : MethodName := ⟨RX4, "<init>", "()V"⟩
abbrev cX4_takeByte : ByteArray := prog_6_method_2_code
def yX4_takeByte : MethodName := ⟨RX4, "takeByte", "(I)I"⟩
abbrev cX4_parse : ByteArray := prog_6_method_3_code
def yX4_parse : MethodName := ⟨RX4, "parse", "()I"⟩
abbrev cX4_parseStatement : ByteArray := prog_6_method_4_code
def yX4_parseStatement : MethodName := ⟨RX4, "parseStatement", "()Z"⟩
abbrev cX4_verbWord : ByteArray := prog_6_method_5_code
def yX4_verbWord : MethodName := ⟨RX4, "verbWord", "(I)Ljava/lang/String;"⟩
abbrev cX4_shapeOf : ByteArray := prog_6_method_6_code
def yX4_shapeOf : MethodName := ⟨RX4, "shapeOf", "(I)Ljava/lang/String;"⟩
abbrev cX4_verbHere : ByteArray := prog_6_method_7_code
def yX4_verbHere : MethodName := ⟨RX4, "verbHere", "()I"⟩
abbrev cX4_valueHere : ByteArray := prog_6_method_8_code
def yX4_valueHere : MethodName := ⟨RX4, "valueHere", "(C)I"⟩
abbrev cX4_kindHere : ByteArray := prog_6_method_9_code
def yX4_kindHere : MethodName := ⟨RX4, "kindHere", "()I"⟩
abbrev cX4_numberHere : ByteArray := prog_6_method_10_code
def yX4_numberHere : MethodName := ⟨RX4, "numberHere", "()I"⟩
abbrev cX4_isWordHere : ByteArray := prog_6_method_11_code
def yX4_isWordHere : MethodName := ⟨RX4, "isWordHere", "(Ljava/lang/String;)Z"⟩
abbrev cX4_nextToken : ByteArray := prog_6_method_12_code
def yX4_nextToken : MethodName := ⟨RX4, "nextToken", "()V"⟩
abbrev cX4_sortOf : ByteArray := prog_6_method_13_code
def yX4_sortOf : MethodName := ⟨RX4, "sortOf", "(B)I"⟩
abbrev cX4_carryOut : ByteArray := prog_6_method_14_code
def yX4_carryOut : MethodName := ⟨RX4, "carryOut", "(LBlastFace$Pattern;)I"⟩
abbrev cX4_isDone : ByteArray := prog_6_method_15_code
def yX4_isDone : MethodName := ⟨RX4, "isDone", "(LBlastFace$Pattern;I)Z"⟩
def RX5 : String := "BlastFace$Scribe"
def TX5 : u_T := fun k => match k with
  | 0 => ("BlastFace$Scribe", "bytes", "[B", true)
  | _ => ("BlastFace$Scribe", "size", "I", false)
def tyX5 : Nat → FieldType := fun k => match k with
  | 0 => .array .byte
  | _ => .int
abbrev wsX50 : List Cond := u_ws RX5 TX5 2
theorem nmX5 : ∀ a, a < 2 → ∀ b, b < 2 → a ≠ b → (TX5 a).2.1 ≠ (TX5 b).2.1 := by decide +kernel
theorem tyX5_ok : ∀ k, k < 2 → parseFieldDescriptor (TX5 k).2.2.1 = some (tyX5 k) := by decide +kernel
abbrev cX5_init : ByteArray := prog_7_method_1_code
def yX5_init : MethodName := ⟨RX5, "<init>", "()V"⟩
abbrev cX5_write : ByteArray := prog_7_method_2_code
def yX5_write : MethodName := ⟨RX5, "write", "(LBlastFace$Pattern;)V"⟩
abbrev cX5_writeHole : ByteArray := prog_7_method_3_code
def yX5_writeHole : MethodName := ⟨RX5, "writeHole", "(LBlastFace$Pattern;I)V"⟩
abbrev cX5_writeWire : ByteArray := prog_7_method_4_code
def yX5_writeWire : MethodName := ⟨RX5, "writeWire", "(LBlastFace$Pattern;I)V"⟩
abbrev cX5_begin : ByteArray := prog_7_method_5_code
def yX5_begin : MethodName := ⟨RX5, "begin", "(Ljava/lang/String;)V"⟩
abbrev cX5_writeWord : ByteArray := prog_7_method_6_code
def yX5_writeWord : MethodName := ⟨RX5, "writeWord", "(Ljava/lang/String;)V"⟩
abbrev cX5_writeLetters : ByteArray := prog_7_method_7_code
def yX5_writeLetters : MethodName := ⟨RX5, "writeLetters", "(Ljava/lang/String;)V"⟩
abbrev cX5_writeNumber : ByteArray := prog_7_method_8_code
def yX5_writeNumber : MethodName := ⟨RX5, "writeNumber", "(I)V"⟩
abbrev cX5_writeByte : ByteArray := prog_7_method_9_code
def yX5_writeByte : MethodName := ⟨RX5, "writeByte", "(I)V"⟩
def RX6 : String := "BlastFace$Shelf"
def TX6 : u_T := fun k => match k with
  | 0 => ("BlastFace$Shelf", "items", "[[J", true)
  | _ => ("BlastFace$Shelf", "sizes", "[I", true)
def tyX6 : Nat → FieldType := fun k => match k with
  | 0 => .array (.array .long)
  | _ => .array .int
abbrev wsX60 : List Cond := u_ws RX6 TX6 2
theorem nmX6 : ∀ a, a < 2 → ∀ b, b < 2 → a ≠ b → (TX6 a).2.1 ≠ (TX6 b).2.1 := by decide +kernel
theorem tyX6_ok : ∀ k, k < 2 → parseFieldDescriptor (TX6 k).2.2.1 = some (tyX6 k) := by decide +kernel
abbrev cX6_init : ByteArray := prog_8_method_1_code
def yX6_init : MethodName := ⟨RX6, "<init>", "()V"⟩
abbrev cX6_isList : ByteArray := prog_8_method_2_code
def yX6_isList : MethodName := ⟨RX6, "isList", "(I)Z"⟩
abbrev cX6_isMissing : ByteArray := prog_8_method_3_code
def yX6_isMissing : MethodName := ⟨RX6, "isMissing", "(I)Z"⟩
abbrev cX6_hasPlace : ByteArray := prog_8_method_4_code
def yX6_hasPlace : MethodName := ⟨RX6, "hasPlace", "(II)Z"⟩
abbrev cX6_hasSpan : ByteArray := prog_8_method_5_code
def yX6_hasSpan : MethodName := ⟨RX6, "hasSpan", "(III)Z"⟩
abbrev cX6_renew : ByteArray := prog_8_method_6_code
def yX6_renew : MethodName := ⟨RX6, "renew", "(II)V"⟩
abbrev cX6_copyIn : ByteArray := prog_8_method_7_code
def yX6_copyIn : MethodName := ⟨RX6, "copyIn", "(I[II)I"⟩
abbrev cX6_firstOther : ByteArray := prog_8_method_8_code
def yX6_firstOther : MethodName := ⟨RX6, "firstOther", "(I[II)I"⟩
def RX7 : String := "BlastFace$Shots"
def TX7 : u_T := fun k => match k with
  | 0 => ("BlastFace$Shots", "times", "[I", true)
  | 1 => ("BlastFace$Shots", "weights", "[I", true)
  | 2 => ("BlastFace$Shots", "holes", "[I", true)
  | 3 => ("BlastFace$Shots", "size", "I", false)
  | 4 => ("BlastFace$Shots", "greatest", "I", false)
  | 5 => ("BlastFace$Shots", "greatestAt", "I", false)
  | _ => ("BlastFace$Shots", "over", "I", false)
def tyX7 : Nat → FieldType := fun k => match k with
  | 0 => .array .int
  | 1 => .array .int
  | 2 => .array .int
  | 3 => .int
  | 4 => .int
  | 5 => .int
  | _ => .int
abbrev wsX70 : List Cond := u_ws RX7 TX7 7
theorem nmX7 : ∀ a, a < 7 → ∀ b, b < 7 → a ≠ b → (TX7 a).2.1 ≠ (TX7 b).2.1 := by decide +kernel
theorem tyX7_ok : ∀ k, k < 7 → parseFieldDescriptor (TX7 k).2.2.1 = some (tyX7 k) := by decide +kernel
abbrev cX7_init : ByteArray := prog_9_method_1_code
def yX7_init : MethodName := ⟨RX7, "<init>", "()V"⟩
abbrev cX7_clear : ByteArray := prog_9_method_2_code
def yX7_clear : MethodName := ⟨RX7, "clear", "()V"⟩
abbrev cX7_addAll : ByteArray := prog_9_method_3_code
def yX7_addAll : MethodName := ⟨RX7, "addAll", "(LBlastFace$Pattern;II)V"⟩
abbrev cX7_insert : ByteArray := prog_9_method_4_code
def yX7_insert : MethodName := ⟨RX7, "insert", "(III)V"⟩
abbrev cX7_shakeAt : ByteArray := prog_9_method_5_code
def yX7_shakeAt : MethodName := ⟨RX7, "shakeAt", "(II)I"⟩
abbrev cX7_weigh : ByteArray := prog_9_method_6_code
def yX7_weigh : MethodName := ⟨RX7, "weigh", "(II)V"⟩
abbrev cX7_weighAt : ByteArray := prog_9_method_7_code
def yX7_weighAt : MethodName := ⟨RX7, "weighAt", "(III)V"⟩
abbrev cX7_weightOfFirst : ByteArray := prog_9_method_8_code
def yX7_weightOfFirst : MethodName := ⟨RX7, "weightOfFirst", "(I)I"⟩
abbrev cX7_lastTimeOfFirst : ByteArray := prog_9_method_9_code
def yX7_lastTimeOfFirst : MethodName := ⟨RX7, "lastTimeOfFirst", "(I)I"⟩
abbrev cX7_holesBehind : ByteArray := prog_9_method_10_code
def yX7_holesBehind : MethodName := ⟨RX7, "holesBehind", "(I)I"⟩
def RX8 : String := "BlastFace"
def TX8 : u_T := fun k => match k with
  | 0 => ("BlastFace", "now", "LBlastFace$Pattern;", true)
  | 1 => ("BlastFace", "kept", "LBlastFace$Pattern;", true)
  | 2 => ("BlastFace", "draft", "LBlastFace$Pattern;", true)
  | 3 => ("BlastFace", "real", "LBlastFace$Blast;", true)
  | 4 => ("BlastFace", "thought", "LBlastFace$Blast;", true)
  | 5 => ("BlastFace", "planner", "LBlastFace$Planner;", true)
  | 6 => ("BlastFace", "scribe", "LBlastFace$Scribe;", true)
  | 7 => ("BlastFace", "reader", "LBlastFace$Reader;", true)
  | 8 => ("BlastFace", "shelf", "LBlastFace$Shelf;", true)
  | 9 => ("BlastFace", "laid", "[I", true)
  | 10 => ("BlastFace", "hasImage", "Z", false)
  | 11 => ("BlastFace", "isReckoned", "Z", false)
  | 12 => ("BlastFace", "isDrawn", "Z", false)
  | 13 => ("BlastFace", "isWritten", "Z", false)
  | _ => ("BlastFace", "texts", "I", false)
def tyX8 : Nat → FieldType := fun k => match k with
  | 0 => .object "BlastFace$Pattern"
  | 1 => .object "BlastFace$Pattern"
  | 2 => .object "BlastFace$Pattern"
  | 3 => .object "BlastFace$Blast"
  | 4 => .object "BlastFace$Blast"
  | 5 => .object "BlastFace$Planner"
  | 6 => .object "BlastFace$Scribe"
  | 7 => .object "BlastFace$Reader"
  | 8 => .object "BlastFace$Shelf"
  | 9 => .array .int
  | 10 => .boolean
  | 11 => .boolean
  | 12 => .boolean
  | 13 => .boolean
  | _ => .int
abbrev wsX80 : List Cond := u_ws RX8 TX8 15
theorem nmX8 : ∀ a, a < 15 → ∀ b, b < 15 → a ≠ b → (TX8 a).2.1 ≠ (TX8 b).2.1 := by decide +kernel
theorem tyX8_ok : ∀ k, k < 15 → parseFieldDescriptor (TX8 k).2.2.1 = some (tyX8 k) := by decide +kernel
abbrev cX8_init : ByteArray := prog_1_method_1_code
def yX8_init : MethodName := ⟨RX8, "<init>", "()V"⟩
abbrev cX8_hole : ByteArray := prog_1_method_2_code
def yX8_hole : MethodName := ⟨RX8, "hole", "(IIIIII)I"⟩
abbrev cX8_of : ByteArray := prog_1_method_3_code
def yX8_of : MethodName := ⟨RX8, "of", "(II)I"⟩
abbrev cX8_becomes : ByteArray := prog_1_method_4_code
def yX8_becomes : MethodName := ⟨RX8, "becomes", "(III)I"⟩
abbrev cX8_taken : ByteArray := prog_1_method_5_code
def yX8_taken : MethodName := ⟨RX8, "taken", "(II)I"⟩
abbrev cX8_wire : ByteArray := prog_1_method_6_code
def yX8_wire : MethodName := ⟨RX8, "wire", "(III)I"⟩
abbrev cX8_wired : ByteArray := prog_1_method_7_code
def yX8_wired : MethodName := ⟨RX8, "wired", "(II)I"⟩
abbrev cX8_cut : ByteArray := prog_1_method_8_code
def yX8_cut : MethodName := ⟨RX8, "cut", "(I)I"⟩
abbrev cX8_rule : ByteArray := prog_1_method_9_code
def yX8_rule : MethodName := ⟨RX8, "rule", "(II)I"⟩
abbrev cX8_drop : ByteArray := prog_1_method_10_code
def yX8_drop : MethodName := ⟨RX8, "drop", "()I"⟩
abbrev cX8_time : ByteArray := prog_1_method_11_code
def yX8_time : MethodName := ⟨RX8, "time", "(II)I"⟩
abbrev cX8_shot : ByteArray := prog_1_method_12_code
def yX8_shot : MethodName := ⟨RX8, "shot", "(II)I"⟩
abbrev cX8_shake : ByteArray := prog_1_method_13_code
def yX8_shake : MethodName := ⟨RX8, "shake", "(I)I"⟩
abbrev cX8_worst : ByteArray := prog_1_method_14_code
def yX8_worst : MethodName := ⟨RX8, "worst", "(I)I"⟩
abbrev cX8_safe : ByteArray := prog_1_method_15_code
def yX8_safe : MethodName := ⟨RX8, "safe", "(I)I"⟩
abbrev cX8_ring : ByteArray := prog_1_method_16_code
def yX8_ring : MethodName := ⟨RX8, "ring", "(I)J"⟩
abbrev cX8_sets : ByteArray := prog_1_method_17_code
def yX8_sets : MethodName := ⟨RX8, "sets", "(I)I"⟩
abbrev cX8_loads : ByteArray := prog_1_method_18_code
def yX8_loads : MethodName := ⟨RX8, "loads", "(IIIII)I"⟩
abbrev cX8_misfire : ByteArray := prog_1_method_19_code
def yX8_misfire : MethodName := ⟨RX8, "misfire", "(II)I"⟩
abbrev cX8_broken : ByteArray := prog_1_method_20_code
def yX8_broken : MethodName := ⟨RX8, "broken", "(II)I"⟩
abbrev cX8_critical : ByteArray := prog_1_method_21_code
def yX8_critical : MethodName := ⟨RX8, "critical", "(I)I"⟩
abbrev cX8_plan : ByteArray := prog_1_method_22_code
def yX8_plan : MethodName := ⟨RX8, "plan", "(I)I"⟩
abbrev cX8_planned : ByteArray := prog_1_method_23_code
def yX8_planned : MethodName := ⟨RX8, "planned", "(I)I"⟩
abbrev cX8_adopt : ByteArray := prog_1_method_24_code
def yX8_adopt : MethodName := ⟨RX8, "adopt", "()I"⟩
abbrev cX8_feed : ByteArray := prog_1_method_25_code
def yX8_feed : MethodName := ⟨RX8, "feed", "(I)I"⟩
abbrev cX8_read : ByteArray := prog_1_method_26_code
def yX8_read : MethodName := ⟨RX8, "read", "()I"⟩
abbrev cX8_spell : ByteArray := prog_1_method_27_code
def yX8_spell : MethodName := ⟨RX8, "spell", "()I"⟩
abbrev cX8_paper : ByteArray := prog_1_method_28_code
def yX8_paper : MethodName := ⟨RX8, "paper", "(I)I"⟩
abbrev cX8_step : ByteArray := prog_1_method_29_code
def yX8_step : MethodName := ⟨RX8, "step", "()I"⟩
abbrev cX8_stepped : ByteArray := prog_1_method_30_code
def yX8_stepped : MethodName := ⟨RX8, "stepped", "(I)I"⟩
abbrev cX8_list : ByteArray := prog_1_method_31_code
def yX8_list : MethodName := ⟨RX8, "list", "(II)I"⟩
abbrev cX8_put : ByteArray := prog_1_method_32_code
def yX8_put : MethodName := ⟨RX8, "put", "(IIJ)I"⟩
abbrev cX8_get : ByteArray := prog_1_method_33_code
def yX8_get : MethodName := ⟨RX8, "get", "(II)J"⟩
abbrev cX8_fill : ByteArray := prog_1_method_34_code
def yX8_fill : MethodName := ⟨RX8, "fill", "(II)I"⟩
abbrev cX8_judge : ByteArray := prog_1_method_35_code
def yX8_judge : MethodName := ⟨RX8, "judge", "(II)I"⟩
abbrev cX8_move : ByteArray := prog_1_method_36_code
def yX8_move : MethodName := ⟨RX8, "move", "(IIIII)I"⟩
abbrev cX8_count : ByteArray := prog_1_method_37_code
def yX8_count : MethodName := ⟨RX8, "count", "(I)I"⟩
abbrev cX8_image : ByteArray := prog_1_method_38_code
def yX8_image : MethodName := ⟨RX8, "image", "()I"⟩
abbrev cX8_undo : ByteArray := prog_1_method_39_code
def yX8_undo : MethodName := ⟨RX8, "undo", "()I"⟩
abbrev cX8_settled : ByteArray := prog_1_method_40_code
def yX8_settled : MethodName := ⟨RX8, "settled", "(I)I"⟩
abbrev cX8_forget : ByteArray := prog_1_method_41_code
def yX8_forget : MethodName := ⟨RX8, "forget", "()V"⟩
abbrev cX8_reckoned : ByteArray := prog_1_method_42_code
def yX8_reckoned : MethodName := ⟨RX8, "reckoned", "()LBlastFace$Blast;"⟩
abbrev cX8_drawn : ByteArray := prog_1_method_43_code
def yX8_drawn : MethodName := ⟨RX8, "drawn", "()LBlastFace$Planner;"⟩
abbrev cX8_written : ByteArray := prog_1_method_44_code
def yX8_written : MethodName := ⟨RX8, "written", "()LBlastFace$Scribe;"⟩
abbrev cX8_think : ByteArray := prog_1_method_45_code
def yX8_think : MethodName := ⟨RX8, "think", "(II)V"⟩
abbrev cX8_lostBy : ByteArray := prog_1_method_46_code
def yX8_lostBy : MethodName := ⟨RX8, "lostBy", "(I)I"⟩
abbrev cX8_bared : ByteArray := prog_1_method_47_code
def yX8_bared : MethodName := ⟨RX8, "bared", "()I"⟩
abbrev cX8_isHarm : ByteArray := prog_1_method_48_code
def yX8_isHarm : MethodName := ⟨RX8, "isHarm", "(I)Z"⟩
abbrev cX8_harmTold : ByteArray := prog_1_method_49_code
def yX8_harmTold : MethodName := ⟨RX8, "harmTold", "(III)I"⟩
abbrev cX8_mostHarmful : ByteArray := prog_1_method_50_code
def yX8_mostHarmful : MethodName := ⟨RX8, "mostHarmful", "(IZ)I"⟩
abbrev cX8_bitOf : ByteArray := prog_1_method_51_code
def yX8_bitOf : MethodName := ⟨RX8, "bitOf", "(I)I"⟩
abbrev cX8_hasBit : ByteArray := prog_1_method_52_code
def yX8_hasBit : MethodName := ⟨RX8, "hasBit", "(II)Z"⟩
abbrev cX8_rootAbove : ByteArray := prog_1_method_53_code
def yX8_rootAbove : MethodName := ⟨RX8, "rootAbove", "(I)I"⟩
def RX9 : String := "BlastFaceModel"
def TX9 : u_T := fun k => match k with
  | 0 => ("BlastFaceModel", "now", "[I", true)
  | 1 => ("BlastFaceModel", "kept", "[I", true)
  | 2 => ("BlastFaceModel", "aside", "[I", true)
  | 3 => ("BlastFaceModel", "hasImage", "Z", false)
  | 4 => ("BlastFaceModel", "texts", "I", false)
  | 5 => ("BlastFaceModel", "signal", "[I", true)
  | 6 => ("BlastFaceModel", "time", "[I", true)
  | 7 => ("BlastFaceModel", "firing", "I", false)
  | 8 => ("BlastFaceModel", "buried", "I", false)
  | 9 => ("BlastFaceModel", "shotTime", "[I", true)
  | 10 => ("BlastFaceModel", "shotLoad", "[I", true)
  | 11 => ("BlastFaceModel", "shotHole", "[I", true)
  | 12 => ("BlastFaceModel", "shots", "I", false)
  | 13 => ("BlastFaceModel", "lost", "I", false)
  | 14 => ("BlastFaceModel", "bared", "I", false)
  | 15 => ("BlastFaceModel", "worstThen", "I", false)
  | 16 => ("BlastFaceModel", "overThen", "I", false)
  | 17 => ("BlastFaceModel", "plannedIn", "[I", true)
  | 18 => ("BlastFaceModel", "plannedSet", "I", false)
  | 19 => ("BlastFaceModel", "tape", "[I", true)
  | 20 => ("BlastFaceModel", "size", "I", false)
  | 21 => ("BlastFaceModel", "letters", "[C", true)
  | 22 => ("BlastFaceModel", "begins", "[I", true)
  | 23 => ("BlastFaceModel", "at", "I", false)
  | 24 => ("BlastFaceModel", "begun", "I", false)
  | 25 => ("BlastFaceModel", "token", "I", false)
  | 26 => ("BlastFaceModel", "number", "I", false)
  | 27 => ("BlastFaceModel", "refusedAt", "I", false)
  | 28 => ("BlastFaceModel", "numbers", "[I", true)
  | 29 => ("BlastFaceModel", "paper", "[I", true)
  | 30 => ("BlastFaceModel", "paperMany", "I", false)
  | 31 => ("BlastFaceModel", "items", "[J", true)
  | 32 => ("BlastFaceModel", "sizes", "[I", true)
  | 33 => ("BlastFaceModel", "laid", "[I", true)
  | _ => ("BlastFaceModel", "carried", "[J", true)
def tyX9 : Nat → FieldType := fun k => match k with
  | 0 => .array .int
  | 1 => .array .int
  | 2 => .array .int
  | 3 => .boolean
  | 4 => .int
  | 5 => .array .int
  | 6 => .array .int
  | 7 => .int
  | 8 => .int
  | 9 => .array .int
  | 10 => .array .int
  | 11 => .array .int
  | 12 => .int
  | 13 => .int
  | 14 => .int
  | 15 => .int
  | 16 => .int
  | 17 => .array .int
  | 18 => .int
  | 19 => .array .int
  | 20 => .int
  | 21 => .array .char
  | 22 => .array .int
  | 23 => .int
  | 24 => .int
  | 25 => .int
  | 26 => .int
  | 27 => .int
  | 28 => .array .int
  | 29 => .array .int
  | 30 => .int
  | 31 => .array .long
  | 32 => .array .int
  | 33 => .array .int
  | _ => .array .long
abbrev wsX90 : List Cond := u_ws RX9 TX9 35
theorem nmX9 : ∀ a, a < 35 → ∀ b, b < 35 → a ≠ b → (TX9 a).2.1 ≠ (TX9 b).2.1 := by decide +kernel
theorem tyX9_ok : ∀ k, k < 35 → parseFieldDescriptor (TX9 k).2.2.1 = some (tyX9 k) := by decide +kernel
abbrev cX9_init : ByteArray := prog_11_method_1_code
def yX9_init : MethodName := ⟨RX9, "<init>", "()V"⟩
abbrev cX9_in : ByteArray := prog_11_method_2_code
def yX9_in : MethodName := ⟨RX9, "in", "(JJJ)Z"⟩
abbrev cX9_less : ByteArray := prog_11_method_3_code
def yX9_less : MethodName := ⟨RX9, "less", "(II)I"⟩
abbrev cX9_abs : ByteArray := prog_11_method_4_code
def yX9_abs : MethodName := ⟨RX9, "abs", "(I)I"⟩
abbrev cX9_copies : ByteArray := prog_11_method_5_code
def yX9_copies : MethodName := ⟨RX9, "copies", "([I[I)V"⟩
abbrev cX9_countOf : ByteArray := prog_11_method_6_code
def yX9_countOf : MethodName := ⟨RX9, "countOf", "(I)I"⟩
abbrev cX9_isHole : ByteArray := prog_11_method_7_code
def yX9_isHole : MethodName := ⟨RX9, "isHole", "(I)Z"⟩
abbrev cX9_isWire : ByteArray := prog_11_method_8_code
def yX9_isWire : MethodName := ⟨RX9, "isWire", "(I)Z"⟩
abbrev cX9_its : ByteArray := prog_11_method_9_code
def yX9_its : MethodName := ⟨RX9, "its", "(II)I"⟩
abbrev cX9_wires : ByteArray := prog_11_method_10_code
def yX9_wires : MethodName := ⟨RX9, "wires", "(II)I"⟩
abbrev cX9_isDead : ByteArray := prog_11_method_11_code
def yX9_isDead : MethodName := ⟨RX9, "isDead", "(I)Z"⟩
abbrev cX9_isUnder : ByteArray := prog_11_method_12_code
def yX9_isUnder : MethodName := ⟨RX9, "isUnder", "(II)Z"⟩
abbrev cX9_firstLoad : ByteArray := prog_11_method_13_code
def yX9_firstLoad : MethodName := ⟨RX9, "firstLoad", "(I)I"⟩
abbrev cX9_secondLoad : ByteArray := prog_11_method_14_code
def yX9_secondLoad : MethodName := ⟨RX9, "secondLoad", "(I)I"⟩
abbrev cX9_loadsOf : ByteArray := prog_11_method_15_code
def yX9_loadsOf : MethodName := ⟨RX9, "loadsOf", "(I)I"⟩
abbrev cX9_rockOf : ByteArray := prog_11_method_16_code
def yX9_rockOf : MethodName := ⟨RX9, "rockOf", "(I)I"⟩
abbrev cX9_needsOf : ByteArray := prog_11_method_17_code
def yX9_needsOf : MethodName := ⟨RX9, "needsOf", "(I)I"⟩
abbrev cX9_madeBy : ByteArray := prog_11_method_18_code
def yX9_madeBy : MethodName := ⟨RX9, "madeBy", "(III)I"⟩
abbrev cX9_isTaken : ByteArray := prog_11_method_19_code
def yX9_isTaken : MethodName := ⟨RX9, "isTaken", "(II)Z"⟩
abbrev cX9_hole : ByteArray := prog_11_method_20_code
def yX9_hole : MethodName := ⟨RX9, "hole", "(IIIIII)I"⟩
abbrev cX9_aheadOf : ByteArray := prog_11_method_21_code
def yX9_aheadOf : MethodName := ⟨RX9, "aheadOf", "(I)I"⟩
abbrev cX9_of : ByteArray := prog_11_method_22_code
def yX9_of : MethodName := ⟨RX9, "of", "(II)I"⟩
abbrev cX9_becomes : ByteArray := prog_11_method_23_code
def yX9_becomes : MethodName := ⟨RX9, "becomes", "(III)I"⟩
abbrev cX9_taken : ByteArray := prog_11_method_24_code
def yX9_taken : MethodName := ⟨RX9, "taken", "(II)I"⟩
abbrev cX9_wire : ByteArray := prog_11_method_25_code
def yX9_wire : MethodName := ⟨RX9, "wire", "(III)I"⟩
abbrev cX9_cuts : ByteArray := prog_11_method_26_code
def yX9_cuts : MethodName := ⟨RX9, "cuts", "(I)V"⟩
abbrev cX9_cut : ByteArray := prog_11_method_27_code
def yX9_cut : MethodName := ⟨RX9, "cut", "(I)I"⟩
abbrev cX9_rule : ByteArray := prog_11_method_28_code
def yX9_rule : MethodName := ⟨RX9, "rule", "(II)I"⟩
abbrev cX9_drop : ByteArray := prog_11_method_29_code
def yX9_drop : MethodName := ⟨RX9, "drop", "()I"⟩
abbrev cX9_endOf : ByteArray := prog_11_method_30_code
def yX9_endOf : MethodName := ⟨RX9, "endOf", "(I)I"⟩
abbrev cX9_signals : ByteArray := prog_11_method_31_code
def yX9_signals : MethodName := ⟨RX9, "signals", "()V"⟩
abbrev cX9_has : ByteArray := prog_11_method_32_code
def yX9_has : MethodName := ⟨RX9, "has", "(II)Z"⟩
abbrev cX9_isRelieved : ByteArray := prog_11_method_33_code
def yX9_isRelieved : MethodName := ⟨RX9, "isRelieved", "(II)Z"⟩
abbrev cX9_fires : ByteArray := prog_11_method_34_code
def yX9_fires : MethodName := ⟨RX9, "fires", "()V"⟩
abbrev cX9_isTorn : ByteArray := prog_11_method_35_code
def yX9_isTorn : MethodName := ⟨RX9, "isTorn", "(I)Z"⟩
abbrev cX9_wired : ByteArray := prog_11_method_36_code
def yX9_wired : MethodName := ⟨RX9, "wired", "(II)I"⟩
abbrev cX9_ringOf : ByteArray := prog_11_method_37_code
def yX9_ringOf : MethodName := ⟨RX9, "ringOf", "(I)I"⟩
abbrev cX9_time : ByteArray := prog_11_method_38_code
def yX9_time : MethodName := ⟨RX9, "time", "(II)I"⟩
abbrev cX9_shoots : ByteArray := prog_11_method_39_code
def yX9_shoots : MethodName := ⟨RX9, "shoots", "(III)V"⟩
abbrev cX9_laysShots : ByteArray := prog_11_method_40_code
def yX9_laysShots : MethodName := ⟨RX9, "laysShots", "(I)V"⟩
abbrev cX9_shakeAt : ByteArray := prog_11_method_41_code
def yX9_shakeAt : MethodName := ⟨RX9, "shakeAt", "(I)I"⟩
abbrev cX9_worstTime : ByteArray := prog_11_method_42_code
def yX9_worstTime : MethodName := ⟨RX9, "worstTime", "()I"⟩
abbrev cX9_worstShake : ByteArray := prog_11_method_43_code
def yX9_worstShake : MethodName := ⟨RX9, "worstShake", "()I"⟩
abbrev cX9_over : ByteArray := prog_11_method_44_code
def yX9_over : MethodName := ⟨RX9, "over", "()I"⟩
abbrev cX9_lays : ByteArray := prog_11_method_45_code
def yX9_lays : MethodName := ⟨RX9, "lays", "()V"⟩
abbrev cX9_shot : ByteArray := prog_11_method_46_code
def yX9_shot : MethodName := ⟨RX9, "shot", "(II)I"⟩
abbrev cX9_shake : ByteArray := prog_11_method_47_code
def yX9_shake : MethodName := ⟨RX9, "shake", "(I)I"⟩
abbrev cX9_worst : ByteArray := prog_11_method_48_code
def yX9_worst : MethodName := ⟨RX9, "worst", "(I)I"⟩
abbrev cX9_safe : ByteArray := prog_11_method_49_code
def yX9_safe : MethodName := ⟨RX9, "safe", "(I)I"⟩
abbrev cX9_ring : ByteArray := prog_11_method_50_code
def yX9_ring : MethodName := ⟨RX9, "ring", "(I)J"⟩
abbrev cX9_sets : ByteArray := prog_11_method_51_code
def yX9_sets : MethodName := ⟨RX9, "sets", "(I)I"⟩
abbrev cX9_loads : ByteArray := prog_11_method_52_code
def yX9_loads : MethodName := ⟨RX9, "loads", "(IIIII)I"⟩
abbrev cX9_compares : ByteArray := prog_11_method_53_code
def yX9_compares : MethodName := ⟨RX9, "compares", "(III)V"⟩
abbrev cX9_misfires : ByteArray := prog_11_method_54_code
def yX9_misfires : MethodName := ⟨RX9, "misfires", "(I)V"⟩
abbrev cX9_breaks : ByteArray := prog_11_method_55_code
def yX9_breaks : MethodName := ⟨RX9, "breaks", "(I)V"⟩
abbrev cX9_told : ByteArray := prog_11_method_56_code
def yX9_told : MethodName := ⟨RX9, "told", "(I)I"⟩
abbrev cX9_misfire : ByteArray := prog_11_method_57_code
def yX9_misfire : MethodName := ⟨RX9, "misfire", "(II)I"⟩
abbrev cX9_broken : ByteArray := prog_11_method_58_code
def yX9_broken : MethodName := ⟨RX9, "broken", "(II)I"⟩
abbrev cX9_critical : ByteArray := prog_11_method_59_code
def yX9_critical : MethodName := ⟨RX9, "critical", "(I)I"⟩
abbrev cX9_fits : ByteArray := prog_11_method_60_code
def yX9_fits : MethodName := ⟨RX9, "fits", "(I)Z"⟩
abbrev cX9_plans : ByteArray := prog_11_method_61_code
def yX9_plans : MethodName := ⟨RX9, "plans", "(I)V"⟩
abbrev cX9_plans_ : ByteArray := prog_11_method_62_code
def yX9_plans_ : MethodName := ⟨RX9, "plans", "()V"⟩
abbrev cX9_plan : ByteArray := prog_11_method_63_code
def yX9_plan : MethodName := ⟨RX9, "plan", "(I)I"⟩
abbrev cX9_planned : ByteArray := prog_11_method_64_code
def yX9_planned : MethodName := ⟨RX9, "planned", "(I)I"⟩
abbrev cX9_adopt : ByteArray := prog_11_method_65_code
def yX9_adopt : MethodName := ⟨RX9, "adopt", "()I"⟩
abbrev cX9_feed : ByteArray := prog_11_method_66_code
def yX9_feed : MethodName := ⟨RX9, "feed", "(I)I"⟩
abbrev cX9_here : ByteArray := prog_11_method_67_code
def yX9_here : MethodName := ⟨RX9, "here", "()I"⟩
abbrev cX9_wordHere : ByteArray := prog_11_method_68_code
def yX9_wordHere : MethodName := ⟨RX9, "wordHere", "()I"⟩
abbrev cX9_numberHere : ByteArray := prog_11_method_69_code
def yX9_numberHere : MethodName := ⟨RX9, "numberHere", "()I"⟩
abbrev cX9_next : ByteArray := prog_11_method_70_code
def yX9_next : MethodName := ⟨RX9, "next", "()V"⟩
abbrev cX9_takesNumber : ByteArray := prog_11_method_71_code
def yX9_takesNumber : MethodName := ⟨RX9, "takesNumber", "(I)Z"⟩
abbrev cX9_takesNumbers : ByteArray := prog_11_method_72_code
def yX9_takesNumbers : MethodName := ⟨RX9, "takesNumbers", "(II)Z"⟩
abbrev cX9_takesHole : ByteArray := prog_11_method_73_code
def yX9_takesHole : MethodName := ⟨RX9, "takesHole", "()Z"⟩
abbrev cX9_takesWire : ByteArray := prog_11_method_74_code
def yX9_takesWire : MethodName := ⟨RX9, "takesWire", "()Z"⟩
abbrev cX9_does : ByteArray := prog_11_method_75_code
def yX9_does : MethodName := ⟨RX9, "does", "(I)Z"⟩
abbrev cX9_takesStatement : ByteArray := prog_11_method_76_code
def yX9_takesStatement : MethodName := ⟨RX9, "takesStatement", "()Z"⟩
abbrev cX9_read : ByteArray := prog_11_method_77_code
def yX9_read : MethodName := ⟨RX9, "read", "()I"⟩
abbrev cX9_sign : ByteArray := prog_11_method_78_code
def yX9_sign : MethodName := ⟨RX9, "sign", "(I)V"⟩
abbrev cX9_spells : ByteArray := prog_11_method_79_code
def yX9_spells : MethodName := ⟨RX9, "spells", "(I)V"⟩
abbrev cX9_number : ByteArray := prog_11_method_80_code
def yX9_number : MethodName := ⟨RX9, "number", "(I)V"⟩
abbrev cX9_spell : ByteArray := prog_11_method_81_code
def yX9_spell : MethodName := ⟨RX9, "spell", "()I"⟩
abbrev cX9_paper : ByteArray := prog_11_method_82_code
def yX9_paper : MethodName := ⟨RX9, "paper", "(I)I"⟩
abbrev cX9_step : ByteArray := prog_11_method_83_code
def yX9_step : MethodName := ⟨RX9, "step", "()I"⟩
abbrev cX9_stepped : ByteArray := prog_11_method_84_code
def yX9_stepped : MethodName := ⟨RX9, "stepped", "(I)I"⟩
abbrev cX9_isList : ByteArray := prog_11_method_85_code
def yX9_isList : MethodName := ⟨RX9, "isList", "(I)Z"⟩
abbrev cX9_list : ByteArray := prog_11_method_86_code
def yX9_list : MethodName := ⟨RX9, "list", "(II)I"⟩
abbrev cX9_put : ByteArray := prog_11_method_87_code
def yX9_put : MethodName := ⟨RX9, "put", "(IIJ)I"⟩
abbrev cX9_get : ByteArray := prog_11_method_88_code
def yX9_get : MethodName := ⟨RX9, "get", "(II)J"⟩
abbrev cX9_layable : ByteArray := prog_11_method_89_code
def yX9_layable : MethodName := ⟨RX9, "layable", "(I)I"⟩
abbrev cX9_fill : ByteArray := prog_11_method_90_code
def yX9_fill : MethodName := ⟨RX9, "fill", "(II)I"⟩
abbrev cX9_judge : ByteArray := prog_11_method_91_code
def yX9_judge : MethodName := ⟨RX9, "judge", "(II)I"⟩
abbrev cX9_move : ByteArray := prog_11_method_92_code
def yX9_move : MethodName := ⟨RX9, "move", "(IIIII)I"⟩
abbrev cX9_count : ByteArray := prog_11_method_93_code
def yX9_count : MethodName := ⟨RX9, "count", "(I)I"⟩
abbrev cX9_image : ByteArray := prog_11_method_94_code
def yX9_image : MethodName := ⟨RX9, "image", "()I"⟩
abbrev cX9_undo : ByteArray := prog_11_method_95_code
def yX9_undo : MethodName := ⟨RX9, "undo", "()I"⟩
def RJx145de : String := "java/io/Serializable"
def TJx145de : u_T := fun k => match k with
  | _ => ("", "", "", false)
def tyJx145de : Nat → FieldType := fun k => match k with
  | _ => .int
abbrev wsJx145de0 : List Cond := u_ws RJx145de TJx145de 0
theorem nmJx145de : ∀ a, a < 0 → ∀ b, b < 0 → a ≠ b → (TJx145de a).2.1 ≠ (TJx145de b).2.1 := by decide +kernel
theorem tyJx145de_ok : ∀ k, k < 0 → parseFieldDescriptor (TJx145de k).2.2.1 = some (tyJx145de k) := by decide +kernel
def RJx9f9b0 : String := "java/lang/CharSequence"
def TJx9f9b0 : u_T := fun k => match k with
  | _ => ("", "", "", false)
def tyJx9f9b0 : Nat → FieldType := fun k => match k with
  | _ => .int
abbrev wsJx9f9b00 : List Cond := u_ws RJx9f9b0 TJx9f9b0 0
theorem nmJx9f9b0 : ∀ a, a < 0 → ∀ b, b < 0 → a ≠ b → (TJx9f9b0 a).2.1 ≠ (TJx9f9b0 b).2.1 := by decide +kernel
theorem tyJx9f9b0_ok : ∀ k, k < 0 → parseFieldDescriptor (TJx9f9b0 k).2.2.1 = some (tyJx9f9b0 k) := by decide +kernel
def RJxb160c : String := "java/lang/Comparable"
def TJxb160c : u_T := fun k => match k with
  | _ => ("", "", "", false)
def tyJxb160c : Nat → FieldType := fun k => match k with
  | _ => .int
abbrev wsJxb160c0 : List Cond := u_ws RJxb160c TJxb160c 0
theorem nmJxb160c : ∀ a, a < 0 → ∀ b, b < 0 → a ≠ b → (TJxb160c a).2.1 ≠ (TJxb160c b).2.1 := by decide +kernel
theorem tyJxb160c_ok : ∀ k, k < 0 → parseFieldDescriptor (TJxb160c k).2.2.1 = some (tyJxb160c k) := by decide +kernel
def RJ6 : String := "java/lang/Integer"
def TJ6 : u_T := fun k => match k with
  | _ => ("", "", "", false)
def tyJ6 : Nat → FieldType := fun k => match k with
  | _ => .int
abbrev wsJ60 : List Cond := u_ws RJ6 TJ6 0
theorem nmJ6 : ∀ a, a < 0 → ∀ b, b < 0 → a ≠ b → (TJ6 a).2.1 ≠ (TJ6 b).2.1 := by decide +kernel
theorem tyJ6_ok : ∀ k, k < 0 → parseFieldDescriptor (TJ6 k).2.2.1 = some (tyJ6 k) := by decide +kernel
abbrev cJ6_bitCount_0f7a4 : ByteArray := prog_12_method_49_code
def yJ6_bitCount_0f7a4 : MethodName := ⟨RJ6, "bitCount", "(I)I"⟩
def RJ9 : String := "java/lang/Math"
def TJ9 : u_T := fun k => match k with
  | _ => ("", "", "", false)
def tyJ9 : Nat → FieldType := fun k => match k with
  | _ => .int
abbrev wsJ90 : List Cond := u_ws RJ9 TJ9 0
theorem nmJ9 : ∀ a, a < 0 → ∀ b, b < 0 → a ≠ b → (TJ9 a).2.1 ≠ (TJ9 b).2.1 := by decide +kernel
theorem tyJ9_ok : ∀ k, k < 0 → parseFieldDescriptor (TJ9 k).2.2.1 = some (tyJ9 k) := by decide +kernel
abbrev cJ9_abs_0f7a4 : ByteArray := prog_13_method_59_code
def yJ9_abs_0f7a4 : MethodName := ⟨RJ9, "abs", "(I)I"⟩
abbrev cJ9_max_7cf53 : ByteArray := prog_13_method_65_code
def yJ9_max_7cf53 : MethodName := ⟨RJ9, "max", "(II)I"⟩
abbrev cJ9_min_7cf53 : ByteArray := prog_13_method_69_code
def yJ9_min_7cf53 : MethodName := ⟨RJ9, "min", "(II)I"⟩
def RJ0 : String := "java/lang/String"
def TJ0 : u_T := fun k => match k with
  | _ => ("", "", "", false)
def tyJ0 : Nat → FieldType := fun k => match k with
  | _ => .int
abbrev wsJ00 : List Cond := u_ws RJ0 TJ0 0
theorem nmJ0 : ∀ a, a < 0 → ∀ b, b < 0 → a ≠ b → (TJ0 a).2.1 ≠ (TJ0 b).2.1 := by decide +kernel
theorem tyJ0_ok : ∀ k, k < 0 → parseFieldDescriptor (TJ0 k).2.2.1 = some (tyJ0 k) := by decide +kernel
abbrev cJ0_length_8abf5 : ByteArray := prog_14_method_54_code
def yJ0_length_8abf5 : MethodName := ⟨RJ0, "length", "()I"⟩
abbrev cJ0_charAt_5068e : ByteArray := prog_14_method_56_code
def yJ0_charAt_5068e : MethodName := ⟨RJ0, "charAt", "(I)C"⟩
abbrev cJ0_coder_7d493 : ByteArray := prog_14_method_152_code
def yJ0_coder_7d493 : MethodName := ⟨RJ0, "coder", "()B"⟩
abbrev cJ0_isLatin1_aae02 : ByteArray := prog_14_method_154_code
def yJ0_isLatin1_aae02 : MethodName := ⟨RJ0, "isLatin1", "()Z"⟩
abbrev cJ0_checkIndex_df160 : ByteArray := prog_14_method_155_code
def yJ0_checkIndex_df160 : MethodName := ⟨RJ0, "checkIndex", "(II)V"⟩
def RJ1 : String := "java/lang/StringLatin1"
def TJ1 : u_T := fun k => match k with
  | _ => ("", "", "", false)
def tyJ1 : Nat → FieldType := fun k => match k with
  | _ => .int
abbrev wsJ10 : List Cond := u_ws RJ1 TJ1 0
theorem nmJ1 : ∀ a, a < 0 → ∀ b, b < 0 → a ≠ b → (TJ1 a).2.1 ≠ (TJ1 b).2.1 := by decide +kernel
theorem tyJ1_ok : ∀ k, k < 0 → parseFieldDescriptor (TJ1 k).2.2.1 = some (tyJ1 k) := by decide +kernel
abbrev cJ1_charAt_3b067 : ByteArray := prog_15_method_2_code
def yJ1_charAt_3b067 : MethodName := ⟨RJ1, "charAt", "([BI)C"⟩
def RJ2 : String := "java/lang/StringUTF16"
def TJ2 : u_T := fun k => match k with
  | _ => ("", "", "", false)
def tyJ2 : Nat → FieldType := fun k => match k with
  | _ => .int
abbrev wsJ20 : List Cond := u_ws RJ2 TJ2 0
theorem nmJ2 : ∀ a, a < 0 → ∀ b, b < 0 → a ≠ b → (TJ2 a).2.1 ≠ (TJ2 b).2.1 := by decide +kernel
theorem tyJ2_ok : ∀ k, k < 0 → parseFieldDescriptor (TJ2 k).2.2.1 = some (tyJ2 k) := by decide +kernel
abbrev cJ2_getChar_3b067 : ByteArray := prog_16_method_5_code
def yJ2_getChar_3b067 : MethodName := ⟨RJ2, "getChar", "([BI)C"⟩
abbrev cJ2_length_9d52b : ByteArray := prog_16_method_6_code
def yJ2_length_9d52b : MethodName := ⟨RJ2, "length", "([B)I"⟩
abbrev cJ2_charAt_3b067 : ByteArray := prog_16_method_83_code
def yJ2_charAt_3b067 : MethodName := ⟨RJ2, "charAt", "([BI)C"⟩
abbrev cJ2_checkIndex_2214a : ByteArray := prog_16_method_91_code
def yJ2_checkIndex_2214a : MethodName := ⟨RJ2, "checkIndex", "(I[B)V"⟩
def RJ10 : String := "java/lang/System"
def TJ10 : u_T := fun k => match k with
  | _ => ("", "", "", false)
def tyJ10 : Nat → FieldType := fun k => match k with
  | _ => .int
abbrev wsJ100 : List Cond := u_ws RJ10 TJ10 0
theorem nmJ10 : ∀ a, a < 0 → ∀ b, b < 0 → a ≠ b → (TJ10 a).2.1 ≠ (TJ10 b).2.1 := by decide +kernel
theorem tyJ10_ok : ∀ k, k < 0 → parseFieldDescriptor (TJ10 k).2.2.1 = some (tyJ10 k) := by decide +kernel
def RJxfd54e : String := "java/lang/constant/Constable"
def TJxfd54e : u_T := fun k => match k with
  | _ => ("", "", "", false)
def tyJxfd54e : Nat → FieldType := fun k => match k with
  | _ => .int
abbrev wsJxfd54e0 : List Cond := u_ws RJxfd54e TJxfd54e 0
theorem nmJxfd54e : ∀ a, a < 0 → ∀ b, b < 0 → a ≠ b → (TJxfd54e a).2.1 ≠ (TJxfd54e b).2.1 := by decide +kernel
theorem tyJxfd54e_ok : ∀ k, k < 0 → parseFieldDescriptor (TJxfd54e k).2.2.1 = some (tyJxfd54e k) := by decide +kernel
def RJx3cf43 : String := "java/lang/constant/ConstantDesc"
def TJx3cf43 : u_T := fun k => match k with
  | _ => ("", "", "", false)
def tyJx3cf43 : Nat → FieldType := fun k => match k with
  | _ => .int
abbrev wsJx3cf430 : List Cond := u_ws RJx3cf43 TJx3cf43 0
theorem nmJx3cf43 : ∀ a, a < 0 → ∀ b, b < 0 → a ≠ b → (TJx3cf43 a).2.1 ≠ (TJx3cf43 b).2.1 := by decide +kernel
theorem tyJx3cf43_ok : ∀ k, k < 0 → parseFieldDescriptor (TJx3cf43 k).2.2.1 = some (tyJx3cf43 k) := by decide +kernel
def RJ7 : String := "java/util/Arrays"
def TJ7 : u_T := fun k => match k with
  | _ => ("", "", "", false)
def tyJ7 : Nat → FieldType := fun k => match k with
  | _ => .int
abbrev wsJ70 : List Cond := u_ws RJ7 TJ7 0
theorem nmJ7 : ∀ a, a < 0 → ∀ b, b < 0 → a ≠ b → (TJ7 a).2.1 ≠ (TJ7 b).2.1 := by decide +kernel
theorem tyJ7_ok : ∀ k, k < 0 → parseFieldDescriptor (TJ7 k).2.2.1 = some (tyJ7 k) := by decide +kernel
abbrev cJ7_fill_d0a16 : ByteArray := prog_18_method_101_code
def yJ7_fill_d0a16 : MethodName := ⟨RJ7, "fill", "([JJ)V"⟩
abbrev cJ7_fill_53178 : ByteArray := prog_18_method_103_code
def yJ7_fill_53178 : MethodName := ⟨RJ7, "fill", "([II)V"⟩
def RJ3 : String := "jdk/internal/util/Preconditions"
def TJ3 : u_T := fun k => match k with
  | _ => ("", "", "", false)
def tyJ3 : Nat → FieldType := fun k => match k with
  | _ => .int
abbrev wsJ30 : List Cond := u_ws RJ3 TJ3 0
theorem nmJ3 : ∀ a, a < 0 → ∀ b, b < 0 → a ≠ b → (TJ3 a).2.1 ≠ (TJ3 b).2.1 := by decide +kernel
theorem tyJ3_ok : ∀ k, k < 0 → parseFieldDescriptor (TJ3 k).2.2.1 = some (tyJ3 k) := by decide +kernel
abbrev cJ3_checkIndex_8e157 : ByteArray := prog_19_method_11_code
def yJ3_checkIndex_8e157 : MethodName := ⟨RJ3, "checkIndex", "(IILjava/util/function/BiFunction;)I"⟩
def RL : String := "BlastFaceLaw"
abbrev cL_law : ByteArray := code
def yL_law : MethodName := ⟨RL, "law", "([I)Z"⟩
theorem mem_pl {big : List Cond} (ws : List Cond) (ps : List Nat) (hp : ws = ps.filterMap (fun i => big[i]?)) : ∀ w ∈ ws, w ∈ big := by
  intro w hw
  rw [hp] at hw
  obtain ⟨i, -, hi⟩ := List.mem_filterMap.mp hw
  exact List.mem_of_getElem? hi
theorem inX0 : ∀ w ∈ wsX00, w ∈ lw_tbl := mem_pl _ [212, 214, 216, 218, 220, 222, 224] (by decide +kernel)
theorem inX2 : ∀ w ∈ wsX20, w ∈ lw_tbl := mem_pl _ [140, 142, 144, 146, 148, 150] (by decide +kernel)
theorem inX3 : ∀ w ∈ wsX30, w ∈ lw_tbl := mem_pl _ [246, 248, 250, 252, 254, 256, 258, 260] (by decide +kernel)
theorem inX4 : ∀ w ∈ wsX40, w ∈ lw_tbl := mem_pl _ [296, 298, 300, 302, 304, 306, 308, 310, 312] (by decide +kernel)
theorem inX5 : ∀ w ∈ wsX50, w ∈ lw_tbl := mem_pl _ [273, 275] (by decide +kernel)
theorem inX6 : ∀ w ∈ wsX60, w ∈ lw_tbl := mem_pl _ [326, 328] (by decide +kernel)
theorem inX7 : ∀ w ∈ wsX70, w ∈ lw_tbl := mem_pl _ [184, 186, 188, 190, 192, 194, 196] (by decide +kernel)
theorem inX8 : ∀ w ∈ wsX80, w ∈ lw_tbl := mem_pl _ [347, 349, 351, 353, 355, 357, 359, 361, 363, 365, 367, 369, 371, 373, 375] (by decide +kernel)
theorem inX9 : ∀ w ∈ wsX90, w ∈ lw_tbl := mem_pl _ [1124, 1126, 1128, 1130, 1132, 1134, 1136, 1138, 1140, 1142, 1144, 1146, 1148, 1150, 1152, 1154, 1156, 1158, 1160, 1162, 1164, 1166, 1168, 1170, 1172, 1174, 1176, 1178, 1180, 1182, 1184, 1186, 1188, 1190, 1192] (by decide +kernel)
abbrev vwCl : List vw_C := [(RX0, TX0, 7), (RX2, TX2, 6), (RX3, TX3, 8), (RX4, TX4, 9), (RX5, TX5, 2), (RX6, TX6, 2), (RX7, TX7, 7), (RX8, TX8, 15), (RX9, TX9, 35)]
end
section
/-! abstract values: an int, a long, a place of the world -/
abbrev AV : Type := Int32 ⊕ (Int64 ⊕ Nat)
abbrev St : Type := (Nat → Nat → Int32) × (Nat → Nat → Int64)
abbrev Lo : Type := List (Option AV)
abbrev aI (x : Int32) : AV := Sum.inl x
abbrev aL (x : Int64) : AV := Sum.inr (Sum.inl x)
abbrev aR (k : Nat) : AV := Sum.inr (Sum.inr k)
def cv (ad : Nat → Nat) (v : AV) : Value := match v with
  | .inl x => .int x
  | .inr (.inl x) => .long x
  | .inr (.inr k) => .ref (ad k)
/-- a cell of the world: 0, its class in vwCl, its fields (none: an int); or an array: 1 int, 2 byte, 3 char, 4 long, 5 of long rows; its length -/
abbrev Cel : Type := Nat × Nat × List (Option Nat)
def shape : List Cel := [(0, 7, [some 1, some 5, some 9, some 13, some 20, some 27, some 34, some 36, some 41, some 48, none, none, none, none, none]),
  (0, 1, [some 2, some 3, some 4, none, none, none]),
  (1, 180, []),
  (1, 120, []),
  (1, 3, []),
  (0, 1, [some 6, some 7, some 8, none, none, none]),
  (1, 180, []),
  (1, 120, []),
  (1, 3, []),
  (0, 1, [some 10, some 11, some 12, none, none, none]),
  (1, 180, []),
  (1, 120, []),
  (1, 3, []),
  (0, 0, [some 1, some 14, some 15, some 16, none, none, none]),
  (1, 20, []),
  (1, 20, []),
  (0, 6, [some 17, some 18, some 19, none, none, none, none]),
  (1, 40, []),
  (1, 40, []),
  (1, 40, []),
  (0, 0, [some 1, some 21, some 22, some 23, none, none, none]),
  (1, 20, []),
  (1, 20, []),
  (0, 6, [some 24, some 25, some 26, none, none, none, none]),
  (1, 40, []),
  (1, 40, []),
  (1, 40, []),
  (0, 2, [some 1, some 13, some 28, some 29, some 30, none, none, none]),
  (1, 20, []),
  (1, 20, []),
  (0, 6, [some 31, some 32, some 33, none, none, none, none]),
  (1, 40, []),
  (1, 40, []),
  (1, 40, []),
  (0, 4, [some 35, none]),
  (2, 1239, []),
  (0, 3, [some 37, none, none, some 38, some 39, some 40, none, none, none]),
  (2, 80, []),
  (1, 13, []),
  (1, 13, []),
  (1, 78, []),
  (0, 5, [some 42, some 47]),
  (5, 4, [some 43, some 44, some 45, some 46]),
  (4, 40, []),
  (4, 40, []),
  (4, 40, []),
  (4, 40, []),
  (1, 4, []),
  (1, 40, []),
  (0, 8, [some 50, some 51, some 52, none, none, some 53, some 54, none, none, some 55, some 56, some 57, none, none, none, none, none, some 58, none, some 59, none, some 60, some 61, none, none, none, none, none, some 62, some 63, none, some 64, some 65, some 66, some 67]),
  (1, 286, []),
  (1, 286, []),
  (1, 286, []),
  (1, 20, []),
  (1, 20, []),
  (1, 40, []),
  (1, 40, []),
  (1, 40, []),
  (1, 20, []),
  (1, 80, []),
  (3, 56, []),
  (1, 13, []),
  (1, 6, []),
  (1, 2000, []),
  (4, 160, []),
  (1, 4, []),
  (1, 40, []),
  (4, 40, [])]
def NP : Nat := 68
def stA : List (String × String × List Int32) := [("BlastFace", "FIRST_RULE", [8, 100, 25]), ("BlastFace", "LEAST_MARK", [0, 0, 0, 1, 1, 0, 0]), ("BlastFace", "MOST_MARK", [4, 9, 5, 99, 20, 999, 1]), ("BlastFace$Kind", "ABOVE", [-1, 0, 0, 2, 1, 4]), ("BlastFace", "LEAST_RULE", [1, 1, 5]), ("BlastFace", "MOST_RULE", [99, 9999, 99])]
def strT : List String := ["hole", "wire", "window", "limit", "pace", "dead", "nnknnn", "fnn", "n", "slim", "deck", "heavy", "buffer", "dummy", "start"]
def strN : Nat := 15
def strLen : List Nat := [4, 4, 6, 5, 4, 4, 6, 3, 1, 4, 4, 5, 6, 5, 5]
def strByt : List (List Int32) := [[104, 111, 108, 101], [119, 105, 114, 101], [119, 105, 110, 100, 111, 119], [108, 105, 109, 105, 116], [112, 97, 99, 101], [100, 101, 97, 100], [110, 110, 107, 110, 110, 110], [102, 110, 110], [110], [115, 108, 105, 109], [100, 101, 99, 107], [104, 101, 97, 118, 121], [98, 117, 102, 102, 101, 114], [100, 117, 109, 109, 121], [115, 116, 97, 114, 116]]
/-- class, entry, text, its number -/
def strR : List (String × Nat × String × Nat) := [("BlastFace$Reader", 69, "hole", 0), ("BlastFace$Reader", 71, "wire", 1), ("BlastFace$Reader", 73, "window", 2), ("BlastFace$Reader", 75, "limit", 3), ("BlastFace$Reader", 77, "pace", 4), ("BlastFace$Reader", 79, "dead", 5), ("BlastFace$Reader", 81, "nnknnn", 6), ("BlastFace$Reader", 83, "fnn", 7), ("BlastFace$Reader", 85, "n", 8), ("BlastFace$Kind", 19, "hole", 0), ("BlastFace$Kind", 21, "slim", 9), ("BlastFace$Kind", 23, "deck", 10), ("BlastFace$Kind", 25, "heavy", 11), ("BlastFace$Kind", 27, "buffer", 12), ("BlastFace$Kind", 29, "dummy", 13), ("BlastFace$Reader", 97, "start", 14), ("BlastFace$Scribe", 34, "hole", 0), ("BlastFace$Scribe", 57, "wire", 1), ("BlastFace$Scribe", 62, "start", 14)]
def nestF : List (String × Nat × String × String × String × String) := [("BlastFace$Pattern", 21, "BlastFace", "FIRST_RULE", "[I", "BlastFace"), ("BlastFace$Pattern", 40, "BlastFace", "LEAST_MARK", "[I", "BlastFace"), ("BlastFace$Pattern", 43, "BlastFace", "MOST_MARK", "[I", "BlastFace"), ("BlastFace$Pattern", 90, "BlastFace", "LEAST_RULE", "[I", "BlastFace"), ("BlastFace$Pattern", 93, "BlastFace", "MOST_RULE", "[I", "BlastFace"), ("BlastFace$Planner", 46, "BlastFace", "MOST_MARK", "[I", "BlastFace")]
def nestM : List (String × Nat × MethodName × String) := [("BlastFace$Blast", 20, ⟨"BlastFace$Shots", "<init>", "()V"⟩, "BlastFace"), ("BlastFace$Planner", 20, ⟨"BlastFace$Shots", "<init>", "()V"⟩, "BlastFace"), ("BlastFace", 47, ⟨"BlastFace$Scribe", "<init>", "()V"⟩, "BlastFace"), ("BlastFace", 54, ⟨"BlastFace$Reader", "<init>", "()V"⟩, "BlastFace"), ("BlastFace", 61, ⟨"BlastFace$Shelf", "<init>", "()V"⟩, "BlastFace"), ("BlastFace$Pattern", 67, ⟨"BlastFace", "bitOf", "(I)I"⟩, "BlastFace"), ("BlastFace$Blast", 83, ⟨"BlastFace", "hasBit", "(II)Z"⟩, "BlastFace"), ("BlastFace$Blast", 96, ⟨"BlastFace", "bitOf", "(I)I"⟩, "BlastFace"), ("BlastFace$Pattern", 119, ⟨"BlastFace", "hasBit", "(II)Z"⟩, "BlastFace"), ("BlastFace$Planner", 100, ⟨"BlastFace", "bitOf", "(I)I"⟩, "BlastFace"), ("BlastFace$Shots", 59, ⟨"BlastFace", "bitOf", "(I)I"⟩, "BlastFace")]
def flds (ad : Nat → Nat) (f : Nat → Int32) : Nat → List (Option Nat) → List Value
  | _, [] => []
  | j, none :: t => .int (f j) :: flds ad f (j + 1) t
  | j, some r :: t => .ref (ad r) :: flds ad f (j + 1) t
def cellV (cy : Nat → ClassId) (ad : Nat → Nat) (σ : St) (k : Nat) (c : Cel) : va_E :=
  if c.1 = 0 then .inr (c.2.1, flds ad (σ.1 k) 0 c.2.2)
  else if c.1 = 4 then .inl (cy 4, c.2.1, .inr (.inl (σ.2 k)))
  else if c.1 = 5 then .inl (cy 5, c.2.1, .inr (.inr (.inr (.inr (fun i => (c.2.2.getD i none).map ad)))))
  else .inl (cy c.1, c.2.1, .inl (σ.1 k))
def WS (cy : Nat → ClassId) (ad : Nat → Nat) (σ : St) : va_W := shape.mapIdx (fun k c => (ad k, cellV cy ad σ k c))
def tysOf (cy : Nat → ClassId) : List (ClassId × FieldType) := [(cy 1, .int), (cy 2, .byte), (cy 3, .char), (cy 4, .long), (cy 5, .array .long)]
theorem WS_get {cy : Nat → ClassId} {ad : Nat → Nat} {σ : St} {k : Nat} {c : Cel} (h : shape[k]? = some c) : (WS cy ad σ)[k]? = some (ad k, cellV cy ad σ k c) := by
  simp [WS, List.getElem?_mapIdx, h]
theorem WS_of {cy : Nat → ClassId} {ad : Nat → Nat} {σ : St} {k : Nat} {q : Nat × va_E} (h : (WS cy ad σ)[k]? = some q) : ∃ c, shape[k]? = some c ∧ q = (ad k, cellV cy ad σ k c) := by
  simp only [WS, List.getElem?_mapIdx] at h
  cases hc : shape[k]? with
  | none => rw [hc] at h; cases h
  | some c => rw [hc] at h; cases h; exact ⟨c, rfl, rfl⟩
theorem WS_set {cy : Nat → ClassId} {ad : Nat → Nat} {σ σ' : St} {k : Nat} {c : Cel} {E : va_E} (h : shape[k]? = some c) (h1 : cellV cy ad σ' k c = E) (h2 : ∀ (j : Nat) (d : Cel), j ≠ k → cellV cy ad σ' j d = cellV cy ad σ j d) : (WS cy ad σ).set k (ad k, E) = WS cy ad σ' := by
  apply List.ext_getElem?
  intro j
  have hk : k < shape.length := (List.getElem?_eq_some_iff.mp h).1
  by_cases hj : j = k
  · subst hj
    rw [WS_get h, h1]
    simp [WS, hk]
  · rw [List.getElem?_set_ne (fun q => hj q.symm)]
    simp only [WS, List.getElem?_mapIdx]
    cases shape[j]? with
    | none => rfl
    | some d => simp only [Option.map_some, h2 j d hj]
/-- the places lie apart, in A -/
def Apart (ad : Nat → Nat) (A : Nat → Prop) : Prop := (∀ i j : Nat, i < NP → j < NP → ad i = ad j → i = j) ∧ ∀ k : Nat, k < NP → A (ad k)
theorem shape_lt {k : Nat} {c : Cel} (h : shape[k]? = some c) : k < NP := (List.getElem?_eq_some_iff.mp h).1
theorem WS_D {cy : Nat → ClassId} {ad : Nat → Nat} {σ : St} {A : Nat → Prop} (h : Apart ad A) : va_D A (WS cy ad σ) := by
  refine ⟨fun i j p q h1 h2 he => ?_, fun k q h1 => ?_⟩
  · obtain ⟨c, hc, rfl⟩ := WS_of h1
    obtain ⟨d, hd, rfl⟩ := WS_of h2
    exact h.1 i j (shape_lt hc) (shape_lt hd) he
  · obtain ⟨c, hc, rfl⟩ := WS_of h1
    exact h.2 k (shape_lt hc)
/-- what lies outside: static arrays, strings, nest mates' links -/
def Ex (ad : Nat → Nat) (A : Nat → Prop) (U : State) (H : Heap) : Prop :=
  (∀ (i : Nat) (q : String × String × List Int32), stA[i]? = some q → va_Z q.1 q.2.1 "[I" (.ref (ad (100 + i))) A U H ∧ va_T .int (ad (100 + i)) q.2.2.length (fun j => .int (q.2.2.getD j 0)) A U H)
  ∧ vk_S strN strLen strByt (fun i => ad (200 + i)) (fun i => ad (300 + i)) A U H
  ∧ (∀ q ∈ strR, vk_R q.1 q.2.1 q.2.2.1 (ad (200 + q.2.2.2)) U)
  ∧ (∀ q ∈ nestF, va_Nw (.fieldLinkNest q.1 q.2.1 q.2.2.1 q.2.2.2.1 q.2.2.2.2.1 q.2.2.2.2.2) U)
  ∧ (∀ q ∈ nestM, va_Nw (.methodLinkNest q.1 q.2.1 q.2.2.1 q.2.2.2) U)
  ∧ va_Z "java/lang/String" "COMPACT_STRINGS" "Z" (.int 1) A U H
  ∧ va_Zq "jdk/internal/util/Preconditions" "SIOOBE_FORMATTER" "Ljava/util/function/BiFunction;" A U H
theorem Ex.kept {ad : Nat → Nat} {A : Nat → Prop} {U : State} {H H1 : Heap} (h : Ex ad A U H) (hq : ∀ a : Nat, a < H.size → ¬ A a → H1[a]? = H[a]?) : Ex ad A U H1 :=
  ⟨fun i q hi => ⟨(h.1 i q hi).1.kept hq, (h.1 i q hi).2.kept hq⟩, h.2.1.kept hq, h.2.2.1, h.2.2.2.1, h.2.2.2.2.1, h.2.2.2.2.2.1.kept hq, h.2.2.2.2.2.2.kept hq⟩
theorem Ex.warm {ad : Nat → Nat} {A : Nat → Prop} {s U : State} {H : Heap} (hW : s.WarmedH U.vm) (h : Ex ad A s H) : Ex ad A U H :=
  ⟨fun i q hi => ⟨va_Z.moved hW.alike (h.1 i q hi).1, va_T.moved hW.alike (h.1 i q hi).2⟩, vk_S.moved hW.alike h.2.1, fun q hq => vk_R.warm hW (h.2.2.1 q hq), fun q hq => va_Nw.warmF hW (h.2.2.2.1 q hq), fun q hq => va_Nw.warmM hW (h.2.2.2.2.1 q hq), va_Z.moved hW.alike h.2.2.2.2.2.1, va_Zq.moved hW.alike h.2.2.2.2.2.2⟩
theorem Ex.calling {ad : Nat → Nat} {A : Nat → Prop} {U : State} {g : JFrame} {mk : MethodId} {a : Array Value} (h : Ex ad A U U.heap) : Ex ad A (U.calling g mk a) (U.calling g mk a).heap := by
  have hv : U.vm.Alike (U.calling g mk a).vm := Vm.Alike.refl U.vm
  exact ⟨fun i q hi => ⟨va_Z.moved hv (h.1 i q hi).1, va_T.moved hv (h.1 i q hi).2⟩, vk_S.moved hv h.2.1, fun q hq => vk_R.same rfl (h.2.2.1 q hq), fun q hq => va_Nw.same rfl rfl (h.2.2.2.1 q hq), fun q hq => va_Nw.same rfl rfl (h.2.2.2.2.1 q hq), va_Z.moved hv h.2.2.2.2.2.1, va_Zq.moved hv h.2.2.2.2.2.2⟩
/-- locals -/
def prs (ad : Nat → Nat) : Nat → Lo → List (Nat × Value)
  | _, [] => []
  | i, some v :: t => (i, cv ad v) :: prs ad (i + 1) t
  | i, none :: t => prs ad (i + 1) t
theorem prs_mem {ad : Nat → Nat} {v : AV} : ∀ {lo : Lo} {i j : Nat}, lo[j]? = some (some v) → (i + j, cv ad v) ∈ prs ad i lo
  | [], i, j, h => by simp at h
  | some w :: t, i, 0, h => by
    simp only [List.getElem?_cons_zero, Option.some.injEq] at h
    subst h
    exact List.mem_cons_self
  | none :: t, i, 0, h => by simp at h
  | some w :: t, i, j + 1, h => by
    have := prs_mem (ad := ad) (lo := t) (i := i + 1) (j := j) (by simpa using h)
    rw [show i + 1 + j = i + (j + 1) by omega] at this
    exact List.mem_cons_of_mem _ this
  | none :: t, i, j + 1, h => by
    have := prs_mem (ad := ad) (lo := t) (i := i + 1) (j := j) (by simpa using h)
    rw [show i + 1 + j = i + (j + 1) by omega] at this
    exact this
theorem prs_of {ad : Nat → Nat} : ∀ {lo : Lo} {i : Nat} {q : Nat × Value}, q ∈ prs ad i lo → ∃ (j : Nat) (v : AV), lo[j]? = some (some v) ∧ q = (i + j, cv ad v)
  | [], i, q, h => by cases h
  | some w :: t, i, q, h => by
    rcases List.mem_cons.mp h with h | h
    · exact ⟨0, w, rfl, h⟩
    · obtain ⟨j, v, h1, h2⟩ := prs_of h
      exact ⟨j + 1, v, by simpa using h1, by rw [h2, show i + 1 + j = i + (j + 1) by omega]⟩
  | none :: t, i, q, h => by
    obtain ⟨j, v, h1, h2⟩ := prs_of (ad := ad) (lo := t) (i := i + 1) h
    exact ⟨j + 1, v, by simpa using h1, by rw [h2, show i + 1 + j = i + (j + 1) by omega]⟩
/-- a place is written: a long ahead of it is gone -/
def sto : Lo → Nat → AV → Lo
  | [], _, _ => []
  | _ :: t, 0, v => some v :: t
  | some (.inr (.inl x)) :: t, 1, v => none :: sto t 0 v
  | some (.inl x) :: t, 1, v => some (.inl x) :: sto t 0 v
  | some (.inr (.inr x)) :: t, 1, v => some (.inr (.inr x)) :: sto t 0 v
  | none :: t, 1, v => none :: sto t 0 v
  | a :: t, n + 2, v => a :: sto t (n + 1) v
def nul : Lo → Nat → Lo
  | [], _ => []
  | _ :: t, 0 => none :: t
  | a :: t, n + 1 => a :: nul t n
def stoL (lo : Lo) (i : Nat) (v : AV) : Lo := nul (sto lo i v) (i + 1)
theorem nul_at : ∀ {lo : Lo} {i j : Nat} {v : AV}, (nul lo i)[j]? = some (some v) → j ≠ i ∧ lo[j]? = some (some v)
  | [], i, j, v, h => by simp [nul] at h
  | a :: t, 0, 0, v, h => by simp [nul] at h
  | a :: t, 0, j + 1, v, h => ⟨by omega, by simpa [nul] using h⟩
  | a :: t, i + 1, 0, v, h => ⟨by omega, by simpa [nul] using h⟩
  | a :: t, i + 1, j + 1, v, h => by
    obtain ⟨h1, h2⟩ := nul_at (lo := t) (i := i) (j := j) (by simpa [nul] using h)
    exact ⟨by omega, by simpa using h2⟩
theorem sto_at : ∀ {lo : Lo} {i j : Nat} {v w : AV}, (sto lo i v)[j]? = some (some w) → (j = i ∧ w = v) ∨ (j ≠ i ∧ lo[j]? = some (some w) ∧ ¬ (j + 1 = i ∧ ∃ x, w = aL x))
  | [], i, j, v, w, h => by simp [sto] at h
  | a :: t, 0, 0, v, w, h => by
    simp only [sto, List.getElem?_cons_zero, Option.some.injEq] at h
    exact Or.inl ⟨rfl, h.symm⟩
  | a :: t, 0, j + 1, v, w, h => Or.inr ⟨by omega, by simpa [sto] using h, by omega⟩
  | some (.inr (.inl x)) :: t, 1, 0, v, w, h => by simp [sto] at h
  | some (.inl x) :: t, 1, 0, v, w, h => by
    simp only [sto, List.getElem?_cons_zero, Option.some.injEq] at h
    exact Or.inr ⟨by omega, by simp [h], fun q => by obtain ⟨-, y, hy⟩ := q; rw [← h] at hy; cases hy⟩
  | some (.inr (.inr x)) :: t, 1, 0, v, w, h => by
    simp only [sto, List.getElem?_cons_zero, Option.some.injEq] at h
    exact Or.inr ⟨by omega, by simp [h], fun q => by obtain ⟨-, y, hy⟩ := q; rw [← h] at hy; cases hy⟩
  | none :: t, 1, 0, v, w, h => by simp [sto] at h
  | some (.inr (.inl x)) :: t, 1, j + 1, v, w, h => by
    rcases sto_at (lo := t) (i := 0) (j := j) (by simpa [sto] using h) with ⟨h1, h2⟩ | ⟨h1, h2, h3⟩
    · exact Or.inl ⟨by omega, h2⟩
    · exact Or.inr ⟨by omega, by simpa using h2, by omega⟩
  | some (.inl x) :: t, 1, j + 1, v, w, h => by
    rcases sto_at (lo := t) (i := 0) (j := j) (by simpa [sto] using h) with ⟨h1, h2⟩ | ⟨h1, h2, h3⟩
    · exact Or.inl ⟨by omega, h2⟩
    · exact Or.inr ⟨by omega, by simpa using h2, by omega⟩
  | some (.inr (.inr x)) :: t, 1, j + 1, v, w, h => by
    rcases sto_at (lo := t) (i := 0) (j := j) (by simpa [sto] using h) with ⟨h1, h2⟩ | ⟨h1, h2, h3⟩
    · exact Or.inl ⟨by omega, h2⟩
    · exact Or.inr ⟨by omega, by simpa using h2, by omega⟩
  | none :: t, 1, j + 1, v, w, h => by
    rcases sto_at (lo := t) (i := 0) (j := j) (by simpa [sto] using h) with ⟨h1, h2⟩ | ⟨h1, h2, h3⟩
    · exact Or.inl ⟨by omega, h2⟩
    · exact Or.inr ⟨by omega, by simpa using h2, by omega⟩
  | a :: t, i + 2, 0, v, w, h => Or.inr ⟨by omega, by simpa [sto] using h, by omega⟩
  | a :: t, i + 2, j + 1, v, w, h => by
    rcases sto_at (lo := t) (i := i + 1) (j := j) (by simpa [sto] using h) with ⟨h1, h2⟩ | ⟨h1, h2, h3⟩
    · exact Or.inl ⟨by omega, h2⟩
    · exact Or.inr ⟨by omega, by simpa using h2, fun q => h3 ⟨by omega, q.2⟩⟩
theorem cv_cat {ad : Nat → Nat} {v : AV} (h : (cv ad v).category = 2) : ∃ x, v = aL x := by
  rcases v with x | x | x
  · simp [cv, Value.category] at h
  · exact ⟨x, rfl⟩
  · simp [cv, Value.category] at h
theorem lo_sto {ad : Nat → Nat} {ls : Array Slot} {n i : Nat} {lo : Lo} {v : AV} (h : lv_has ls n ((i, cv ad v) :: (prs ad 0 lo).filter (fun q => !(q.1 == i) && !(q.1 + 1 == i && q.2.category == 2)))) : lv_has ls n (prs ad 0 (sto lo i v)) := by
  refine ⟨h.1, h.2.1, fun q hq => h.2.2 q ?_⟩
  obtain ⟨j, w, h1, rfl⟩ := prs_of hq
  rcases sto_at h1 with ⟨rfl, rfl⟩ | ⟨hj, h2, h3⟩
  · simp
  · refine List.mem_cons_of_mem _ (List.mem_filter.mpr ⟨prs_mem h2, ?_⟩)
    simp only [Nat.zero_add, Bool.and_eq_true, Bool.not_eq_true', beq_eq_false_iff_ne, ne_eq, hj, not_false_eq_true, true_and, Bool.and_eq_false_iff, beq_iff_eq]
    by_cases h4 : j + 1 = i
    · right
      exact fun q => h3 ⟨h4, cv_cat q⟩
    · left
      simpa using h4
theorem lo_stoL {ad : Nat → Nat} {ls : Array Slot} {n i : Nat} {lo : Lo} {v : AV} (h : lv_has ls n ((i, cv ad v) :: (prs ad 0 lo).filter (fun q => !(q.1 == i) && (!(q.1 == i + 1) && !(q.1 + 1 == i && q.2.category == 2))))) : lv_has ls n (prs ad 0 (stoL lo i v)) := by
  refine ⟨h.1, h.2.1, fun q hq => h.2.2 q ?_⟩
  obtain ⟨j, w, h1, rfl⟩ := prs_of hq
  obtain ⟨hi, h1⟩ := nul_at h1
  rcases sto_at h1 with ⟨rfl, rfl⟩ | ⟨hj, h2, h3⟩
  · simp
  · refine List.mem_cons_of_mem _ (List.mem_filter.mpr ⟨prs_mem h2, ?_⟩)
    simp only [Nat.zero_add, Bool.and_eq_true, Bool.not_eq_true', beq_eq_false_iff_ne, ne_eq, hj, hi, not_false_eq_true, true_and, Bool.and_eq_false_iff, beq_iff_eq]
    by_cases h4 : j + 1 = i
    · right
      exact fun q => h3 ⟨h4, cv_cat q⟩
    · left
      simpa using h4
theorem lo_at {ad : Nat → Nat} {ls : Array Slot} {n i : Nat} {lo : Lo} {v : AV} (h : lv_has ls n (prs ad 0 lo)) (hi : lo[i]? = some (some v)) : ls[i]? = some (.val (cv ad v)) := by
  have := h.2.2 (0 + i, cv ad v) (prs_mem hi)
  simpa using this
end
section
abbrev Ent : Type := Nat × Instr × Nat × Nat × Nat × Nat × Nat × Int32 × Int64 × List (Int32 × Nat)
/-- a method: name, bytes, locals, what it returns, how many parameters, frames and words of its room, static, the places of its words -/
abbrev MI : Type := MethodName × ByteArray × Nat × Option FieldType × Nat × Nat × Nat × Bool × Nat × Nat × Nat × Nat
def M_X0_reckon : MI := (yX0_reckon, cX0_reckon, 3, (none), 2, 3, 71, false, 522, 520, 521, 89)
def k_X0_reckon : List Ent := [(0, .aload_n 0, 1, 0, 0, 0, 0, 0, 0, []),
  (1, .iload_n 1, 1, 1, 0, 0, 0, 0, 0, []),
  (2, .putfield 29, 3, 0, 6, 211, 0, 0, 0, []),
  (5, .aload_n 0, 1, 0, 0, 0, 0, 0, 0, []),
  (6, .iload_n 2, 1, 2, 0, 0, 0, 0, 0, []),
  (7, .invokevirtual 33, 3, 2, 1, 523, 0, 0, 0, []),
  (10, .aload_n 0, 1, 0, 0, 0, 0, 0, 0, []),
  (11, .invokevirtual 37, 3, 4, 0, 538, 0, 0, 0, []),
  (14, .aload_n 0, 1, 0, 0, 0, 0, 0, 0, []),
  (15, .invokevirtual 40, 3, 5, 0, 548, 0, 0, 0, []),
  (18, .return_, 1, 0, 0, 0, 0, 0, 0, [])]
def M_X0_reckonShots : MI := (yX0_reckonShots, cX0_reckonShots, 2, (none), 0, 3, 72, false, 567, 565, 566, 89)
def k_X0_reckonShots : List Ent := [(0, .aload_n 0, 1, 0, 0, 0, 0, 0, 0, []),
  (1, .getfield 21, 3, 0, 3, 205, 2, 0, 0, []),
  (4, .invokevirtual 43, 3, 82, 0, 568, 6, 0, 0, []),
  (7, .iconst 0, 1, 0, 0, 0, 0, 0, 0, []),
  (8, .istore_n 1, 1, 1, 0, 0, 0, 0, 0, []),
  (9, .iload_n 1, 1, 1, 0, 0, 0, 0, 0, []),
  (10, .aload_n 0, 1, 0, 0, 0, 0, 0, 0, []),
  (11, .getfield 25, 3, 0, 0, 199, 2, 0, 0, []),
  (14, .getfield 46, 3, 1, 3, 131, 0, 0, 0, []),
  (17, .if_icmp .ge 35, 3, 52, 0, 0, 0, 0, 0, []),
  (20, .aload_n 0, 1, 0, 0, 0, 0, 0, 0, []),
  (21, .iload_n 1, 1, 1, 0, 0, 0, 0, 0, []),
  (22, .invokevirtual 51, 3, 6, 1, 552, 0, 0, 0, []),
  (25, .ifCond .eq 21, 3, 46, 0, 0, 0, 0, 0, []),
  (28, .aload_n 0, 1, 0, 0, 0, 0, 0, 0, []),
  (29, .getfield 21, 3, 0, 3, 205, 2, 0, 0, []),
  (32, .aload_n 0, 1, 0, 0, 0, 0, 0, 0, []),
  (33, .getfield 25, 3, 0, 0, 199, 2, 0, 0, []),
  (36, .iload_n 1, 1, 1, 0, 0, 0, 0, 0, []),
  (37, .aload_n 0, 1, 0, 0, 0, 0, 0, 0, []),
  (38, .getfield 15, 3, 0, 2, 203, 2, 0, 0, []),
  (41, .iload_n 1, 1, 1, 0, 0, 0, 0, 0, []),
  (42, .iaload, 1, 0, 0, 0, 0, 0, 0, []),
  (43, .invokevirtual 55, 3, 83, 3, 572, 6, 0, 0, []),
  (46, .iinc 1 1, 3, 1, 0, 0, 0, 1, 0, []),
  (49, .goto (-40), 3, 9, 0, 0, 0, 0, 0, []),
  (52, .aload_n 0, 1, 0, 0, 0, 0, 0, 0, []),
  (53, .getfield 21, 3, 0, 3, 205, 2, 0, 0, []),
  (56, .aload_n 0, 1, 0, 0, 0, 0, 0, 0, []),
  (57, .getfield 25, 3, 0, 0, 199, 2, 0, 0, []),
  (60, .getfield 59, 3, 1, 2, 127, 2, 0, 0, []),
  (63, .iconst 0, 1, 0, 0, 0, 0, 0, 0, []),
  (64, .iaload, 1, 0, 0, 0, 0, 0, 0, []),
  (65, .aload_n 0, 1, 0, 0, 0, 0, 0, 0, []),
  (66, .getfield 25, 3, 0, 0, 199, 2, 0, 0, []),
  (69, .getfield 59, 3, 1, 2, 127, 2, 0, 0, []),
  (72, .iconst 1, 1, 0, 0, 0, 0, 1, 0, []),
  (73, .iaload, 1, 0, 0, 0, 0, 0, 0, []),
  (74, .invokevirtual 62, 3, 86, 2, 582, 6, 0, 0, []),
  (77, .return_, 1, 0, 0, 0, 0, 0, 0, [])]
def M_X0_findSignals : MI := (yX0_findSignals, cX0_findSignals, 7, (none), 1, 2, 45, false, 526, 525, 6, 89)
def k_X0_findSignals : List Ent := [(0, .aload_n 0, 1, 0, 0, 0, 0, 0, 0, []),
  (1, .getfield 9, 3, 0, 1, 200, 2, 0, 0, []),
  (4, .iconst (-1), 1, 0, 0, 0, 0, -1, 0, []),
  (5, .invokestatic 66, 3, 243, 2, 527, 0, 0, 0, []),
  (8, .iconst 1, 1, 0, 0, 0, 0, 1, 0, []),
  (9, .istore_n 2, 1, 2, 0, 0, 0, 0, 0, []),
  (10, .iconst 0, 1, 0, 0, 0, 0, 0, 0, []),
  (11, .istore_n 3, 1, 3, 0, 0, 0, 0, 0, []),
  (12, .iload_n 3, 1, 3, 0, 0, 0, 0, 0, []),
  (13, .aload_n 0, 1, 0, 0, 0, 0, 0, 0, []),
  (14, .getfield 25, 3, 0, 0, 199, 2, 0, 0, []),
  (17, .getfield 46, 3, 1, 3, 131, 0, 0, 0, []),
  (20, .if_icmp .ge 106, 3, 126, 0, 0, 0, 0, 0, []),
  (23, .iload_n 2, 1, 2, 0, 0, 0, 0, 0, []),
  (24, .ifCond .eq 102, 3, 126, 0, 0, 0, 0, 0, []),
  (27, .iconst 0, 1, 0, 0, 0, 0, 0, 0, []),
  (28, .istore_n 2, 1, 2, 0, 0, 0, 0, 0, []),
  (29, .iconst 0, 1, 0, 0, 0, 0, 0, 0, []),
  (30, .istore 4, 2, 4, 0, 0, 0, 0, 0, []),
  (32, .iload 4, 2, 4, 0, 0, 0, 0, 0, []),
  (34, .aload_n 0, 1, 0, 0, 0, 0, 0, 0, []),
  (35, .getfield 25, 3, 0, 0, 199, 2, 0, 0, []),
  (38, .getfield 72, 3, 1, 4, 136, 0, 0, 0, []),
  (41, .if_icmp .ge 79, 3, 120, 0, 0, 0, 0, 0, []),
  (44, .aload_n 0, 1, 0, 0, 0, 0, 0, 0, []),
  (45, .getfield 25, 3, 0, 0, 199, 2, 0, 0, []),
  (48, .iload 4, 2, 4, 0, 0, 0, 0, 0, []),
  (50, .iconst 1, 1, 0, 0, 0, 0, 1, 0, []),
  (51, .invokevirtual 75, 3, 28, 2, 530, 1, 0, 0, []),
  (54, .istore 5, 2, 5, 0, 0, 0, 0, 0, []),
  (56, .iload 4, 2, 4, 0, 0, 0, 0, 0, []),
  (58, .iload_n 1, 1, 1, 0, 0, 0, 0, 0, []),
  (59, .if_icmp .ne 7, 3, 66, 0, 0, 0, 0, 0, []),
  (62, .iconst (-1), 1, 0, 0, 0, 0, -1, 0, []),
  (63, .goto 9, 3, 72, 0, 0, 0, 0, 0, []),
  (66, .aload_n 0, 1, 0, 0, 0, 0, 0, 0, []),
  (67, .iload 4, 2, 4, 0, 0, 0, 0, 0, []),
  (69, .invokevirtual 79, 3, 3, 1, 531, 0, 0, 0, []),
  (72, .istore 6, 2, 6, 0, 0, 0, 0, 0, []),
  (74, .iload 6, 2, 6, 0, 0, 0, 0, 0, []),
  (76, .iconst (-1), 1, 0, 0, 0, 0, -1, 0, []),
  (77, .if_icmp .eq 37, 3, 114, 0, 0, 0, 0, 0, []),
  (80, .aload_n 0, 1, 0, 0, 0, 0, 0, 0, []),
  (81, .getfield 9, 3, 0, 1, 200, 2, 0, 0, []),
  (84, .iload 5, 2, 5, 0, 0, 0, 0, 0, []),
  (86, .iaload, 1, 0, 0, 0, 0, 0, 0, []),
  (87, .iconst (-1), 1, 0, 0, 0, 0, -1, 0, []),
  (88, .if_icmp .eq 15, 3, 103, 0, 0, 0, 0, 0, []),
  (91, .aload_n 0, 1, 0, 0, 0, 0, 0, 0, []),
  (92, .getfield 9, 3, 0, 1, 200, 2, 0, 0, []),
  (95, .iload 5, 2, 5, 0, 0, 0, 0, 0, []),
  (97, .iaload, 1, 0, 0, 0, 0, 0, 0, []),
  (98, .iload 6, 2, 6, 0, 0, 0, 0, 0, []),
  (100, .if_icmp .le 14, 3, 114, 0, 0, 0, 0, 0, []),
  (103, .aload_n 0, 1, 0, 0, 0, 0, 0, 0, []),
  (104, .getfield 9, 3, 0, 1, 200, 2, 0, 0, []),
  (107, .iload 5, 2, 5, 0, 0, 0, 0, 0, []),
  (109, .iload 6, 2, 6, 0, 0, 0, 0, 0, []),
  (111, .iastore, 1, 0, 0, 0, 0, 0, 0, []),
  (112, .iconst 1, 1, 0, 0, 0, 0, 1, 0, []),
  (113, .istore_n 2, 1, 2, 0, 0, 0, 0, 0, []),
  (114, .iinc 4 1, 3, 4, 0, 0, 0, 1, 0, []),
  (117, .goto (-85), 3, 32, 0, 0, 0, 0, 0, []),
  (120, .iinc 3 1, 3, 3, 0, 0, 0, 1, 0, []),
  (123, .goto (-111), 3, 12, 0, 0, 0, 0, 0, []),
  (126, .return_, 1, 0, 0, 0, 0, 0, 0, [])]
def M_X0_endOf : MI := (yX0_endOf, cX0_endOf, 4, (some Jvm.ClassFile.FieldType.int), 1, 1, 22, false, 534, 532, 533, 89)
def k_X0_endOf : List Ent := [(0, .aload_n 0, 1, 0, 0, 0, 0, 0, 0, []),
  (1, .getfield 25, 3, 0, 0, 199, 2, 0, 0, []),
  (4, .iload_n 1, 1, 1, 0, 0, 0, 0, 0, []),
  (5, .iconst 0, 1, 0, 0, 0, 0, 0, 0, []),
  (6, .invokevirtual 75, 3, 28, 2, 530, 1, 0, 0, []),
  (9, .istore_n 2, 1, 2, 0, 0, 0, 0, 0, []),
  (10, .aload_n 0, 1, 0, 0, 0, 0, 0, 0, []),
  (11, .getfield 25, 3, 0, 0, 199, 2, 0, 0, []),
  (14, .iload_n 1, 1, 1, 0, 0, 0, 0, 0, []),
  (15, .iconst 2, 1, 0, 0, 0, 0, 2, 0, []),
  (16, .invokevirtual 75, 3, 28, 2, 530, 1, 0, 0, []),
  (19, .istore_n 3, 1, 3, 0, 0, 0, 0, 0, []),
  (20, .iload_n 2, 1, 2, 0, 0, 0, 0, 0, []),
  (21, .iconst (-1), 1, 0, 0, 0, 0, -1, 0, []),
  (22, .if_icmp .ne 5, 3, 27, 0, 0, 0, 0, 0, []),
  (25, .iload_n 3, 1, 3, 0, 0, 0, 0, 0, []),
  (26, .ireturn, 1, 0, 0, 0, 0, 0, 0, []),
  (27, .aload_n 0, 1, 0, 0, 0, 0, 0, 0, []),
  (28, .getfield 29, 3, 0, 6, 211, 0, 0, 0, []),
  (31, .iload_n 2, 1, 2, 0, 0, 0, 0, 0, []),
  (32, .invokestatic 83, 3, 141, 2, 6, 1, 0, 0, []),
  (35, .ifCond .ne 13, 3, 48, 0, 0, 0, 0, 0, []),
  (38, .aload_n 0, 1, 0, 0, 0, 0, 0, 0, []),
  (39, .getfield 9, 3, 0, 1, 200, 2, 0, 0, []),
  (42, .iload_n 2, 1, 2, 0, 0, 0, 0, 0, []),
  (43, .iaload, 1, 0, 0, 0, 0, 0, 0, []),
  (44, .iconst (-1), 1, 0, 0, 0, 0, -1, 0, []),
  (45, .if_icmp .ne 5, 3, 50, 0, 0, 0, 0, 0, []),
  (48, .iconst (-1), 1, 0, 0, 0, 0, -1, 0, []),
  (49, .ireturn, 1, 0, 0, 0, 0, 0, 0, []),
  (50, .aload_n 0, 1, 0, 0, 0, 0, 0, 0, []),
  (51, .getfield 9, 3, 0, 1, 200, 2, 0, 0, []),
  (54, .iload_n 2, 1, 2, 0, 0, 0, 0, 0, []),
  (55, .iaload, 1, 0, 0, 0, 0, 0, 0, []),
  (56, .iload_n 3, 1, 3, 0, 0, 0, 0, 0, []),
  (57, .iadd, 1, 0, 0, 0, 0, 0, 0, []),
  (58, .ireturn, 1, 0, 0, 0, 0, 0, 0, [])]
def M_X0_findFiring : MI := (yX0_findFiring, cX0_findFiring, 3, (none), 0, 2, 43, false, 541, 540, 7, 89)
def k_X0_findFiring : List Ent := [(0, .aload_n 0, 1, 0, 0, 0, 0, 0, 0, []),
  (1, .iconst 0, 1, 0, 0, 0, 0, 0, 0, []),
  (2, .putfield 87, 3, 0, 4, 207, 0, 0, 0, []),
  (5, .iconst 0, 1, 0, 0, 0, 0, 0, 0, []),
  (6, .istore_n 1, 1, 1, 0, 0, 0, 0, 0, []),
  (7, .iload_n 1, 1, 1, 0, 0, 0, 0, 0, []),
  (8, .aload_n 0, 1, 0, 0, 0, 0, 0, 0, []),
  (9, .getfield 25, 3, 0, 0, 199, 2, 0, 0, []),
  (12, .getfield 46, 3, 1, 3, 131, 0, 0, 0, []),
  (15, .if_icmp .ge 94, 3, 109, 0, 0, 0, 0, 0, []),
  (18, .aload_n 0, 1, 0, 0, 0, 0, 0, 0, []),
  (19, .getfield 9, 3, 0, 1, 200, 2, 0, 0, []),
  (22, .iload_n 1, 1, 1, 0, 0, 0, 0, 0, []),
  (23, .iaload, 1, 0, 0, 0, 0, 0, 0, []),
  (24, .iconst (-1), 1, 0, 0, 0, 0, -1, 0, []),
  (25, .if_icmp .eq 29, 3, 54, 0, 0, 0, 0, 0, []),
  (28, .aload_n 0, 1, 0, 0, 0, 0, 0, 0, []),
  (29, .getfield 29, 3, 0, 6, 211, 0, 0, 0, []),
  (32, .iload_n 1, 1, 1, 0, 0, 0, 0, 0, []),
  (33, .invokestatic 83, 3, 141, 2, 6, 1, 0, 0, []),
  (36, .ifCond .ne 18, 3, 54, 0, 0, 0, 0, 0, []),
  (39, .aload_n 0, 1, 0, 0, 0, 0, 0, 0, []),
  (40, .getfield 25, 3, 0, 0, 199, 2, 0, 0, []),
  (43, .iload_n 1, 1, 1, 0, 0, 0, 0, 0, []),
  (44, .invokevirtual 90, 3, 44, 1, 542, 1, 0, 0, []),
  (47, .ifCond .eq 7, 3, 54, 0, 0, 0, 0, 0, []),
  (50, .iconst 1, 1, 0, 0, 0, 0, 1, 0, []),
  (51, .goto 4, 3, 55, 0, 0, 0, 0, 0, []),
  (54, .iconst 0, 1, 0, 0, 0, 0, 0, 0, []),
  (55, .istore_n 2, 1, 2, 0, 0, 0, 0, 0, []),
  (56, .aload_n 0, 1, 0, 0, 0, 0, 0, 0, []),
  (57, .getfield 15, 3, 0, 2, 203, 2, 0, 0, []),
  (60, .iload_n 1, 1, 1, 0, 0, 0, 0, 0, []),
  (61, .iload_n 2, 1, 2, 0, 0, 0, 0, 0, []),
  (62, .ifCond .eq 22, 3, 84, 0, 0, 0, 0, 0, []),
  (65, .aload_n 0, 1, 0, 0, 0, 0, 0, 0, []),
  (66, .getfield 9, 3, 0, 1, 200, 2, 0, 0, []),
  (69, .iload_n 1, 1, 1, 0, 0, 0, 0, 0, []),
  (70, .iaload, 1, 0, 0, 0, 0, 0, 0, []),
  (71, .aload_n 0, 1, 0, 0, 0, 0, 0, 0, []),
  (72, .getfield 25, 3, 0, 0, 199, 2, 0, 0, []),
  (75, .iload_n 1, 1, 1, 0, 0, 0, 0, 0, []),
  (76, .iconst 5, 1, 0, 0, 0, 0, 5, 0, []),
  (77, .invokevirtual 93, 3, 27, 2, 546, 1, 0, 0, []),
  (80, .iadd, 1, 0, 0, 0, 0, 0, 0, []),
  (81, .goto 4, 3, 85, 0, 0, 0, 0, 0, []),
  (84, .iconst (-1), 1, 0, 0, 0, 0, -1, 0, []),
  (85, .iastore, 1, 0, 0, 0, 0, 0, 0, []),
  (86, .iload_n 2, 1, 2, 0, 0, 0, 0, 0, []),
  (87, .ifCond .eq 16, 3, 103, 0, 0, 0, 0, 0, []),
  (90, .aload_n 0, 1, 0, 0, 0, 0, 0, 0, []),
  (91, .dup, 1, 0, 0, 0, 0, 0, 0, []),
  (92, .getfield 87, 3, 0, 4, 207, 0, 0, 0, []),
  (95, .iload_n 1, 1, 1, 0, 0, 0, 0, 0, []),
  (96, .invokestatic 96, 3, 140, 1, 7, 1, 0, 0, []),
  (99, .ior, 1, 0, 0, 0, 0, 0, 0, []),
  (100, .putfield 87, 3, 0, 4, 207, 0, 0, 0, []),
  (103, .iinc 1 1, 3, 1, 0, 0, 0, 1, 0, []),
  (106, .goto (-99), 3, 7, 0, 0, 0, 0, 0, []),
  (109, .return_, 1, 0, 0, 0, 0, 0, 0, [])]
def M_X0_findBuried : MI := (yX0_findBuried, cX0_findBuried, 3, (none), 0, 2, 48, false, 551, 550, 8, 89)
def k_X0_findBuried : List Ent := [(0, .aload_n 0, 1, 0, 0, 0, 0, 0, 0, []),
  (1, .iconst 0, 1, 0, 0, 0, 0, 0, 0, []),
  (2, .putfield 99, 3, 0, 5, 209, 0, 0, 0, []),
  (5, .iconst 0, 1, 0, 0, 0, 0, 0, 0, []),
  (6, .istore_n 1, 1, 1, 0, 0, 0, 0, 0, []),
  (7, .iload_n 1, 1, 1, 0, 0, 0, 0, 0, []),
  (8, .aload_n 0, 1, 0, 0, 0, 0, 0, 0, []),
  (9, .getfield 25, 3, 0, 0, 199, 2, 0, 0, []),
  (12, .getfield 46, 3, 1, 3, 131, 0, 0, 0, []),
  (15, .if_icmp .ge 65, 3, 80, 0, 0, 0, 0, 0, []),
  (18, .aload_n 0, 1, 0, 0, 0, 0, 0, 0, []),
  (19, .iload_n 1, 1, 1, 0, 0, 0, 0, 0, []),
  (20, .invokevirtual 51, 3, 6, 1, 552, 0, 0, 0, []),
  (23, .ifCond .ne 6, 3, 29, 0, 0, 0, 0, 0, []),
  (26, .goto 48, 3, 74, 0, 0, 0, 0, 0, []),
  (29, .aload_n 0, 1, 0, 0, 0, 0, 0, 0, []),
  (30, .getfield 25, 3, 0, 0, 199, 2, 0, 0, []),
  (33, .iload_n 1, 1, 1, 0, 0, 0, 0, 0, []),
  (34, .aload_n 0, 1, 0, 0, 0, 0, 0, 0, []),
  (35, .getfield 87, 3, 0, 4, 207, 0, 0, 0, []),
  (38, .aload_n 0, 1, 0, 0, 0, 0, 0, 0, []),
  (39, .getfield 15, 3, 0, 2, 203, 2, 0, 0, []),
  (42, .invokevirtual 102, 3, 47, 3, 556, 1, 0, 0, []),
  (45, .istore_n 2, 1, 2, 0, 0, 0, 0, 0, []),
  (46, .iload_n 2, 1, 2, 0, 0, 0, 0, 0, []),
  (47, .iconst (-1), 1, 0, 0, 0, 0, -1, 0, []),
  (48, .if_icmp .eq 13, 3, 61, 0, 0, 0, 0, 0, []),
  (51, .aload_n 0, 1, 0, 0, 0, 0, 0, 0, []),
  (52, .getfield 15, 3, 0, 2, 203, 2, 0, 0, []),
  (55, .iload_n 1, 1, 1, 0, 0, 0, 0, 0, []),
  (56, .iaload, 1, 0, 0, 0, 0, 0, 0, []),
  (57, .iload_n 2, 1, 2, 0, 0, 0, 0, 0, []),
  (58, .if_icmp .ge 16, 3, 74, 0, 0, 0, 0, 0, []),
  (61, .aload_n 0, 1, 0, 0, 0, 0, 0, 0, []),
  (62, .dup, 1, 0, 0, 0, 0, 0, 0, []),
  (63, .getfield 99, 3, 0, 5, 209, 0, 0, 0, []),
  (66, .iload_n 1, 1, 1, 0, 0, 0, 0, 0, []),
  (67, .invokestatic 96, 3, 140, 1, 7, 1, 0, 0, []),
  (70, .ior, 1, 0, 0, 0, 0, 0, 0, []),
  (71, .putfield 99, 3, 0, 5, 209, 0, 0, 0, []),
  (74, .iinc 1 1, 3, 1, 0, 0, 0, 1, 0, []),
  (77, .goto (-70), 3, 7, 0, 0, 0, 0, 0, []),
  (80, .return_, 1, 0, 0, 0, 0, 0, 0, [])]
def M_X0_doesFire : MI := (yX0_doesFire, cX0_doesFire, 2, (some Jvm.ClassFile.FieldType.boolean), 1, 1, 21, false, 555, 553, 554, 89)
def k_X0_doesFire : List Ent := [(0, .aload_n 0, 1, 0, 0, 0, 0, 0, 0, []),
  (1, .getfield 87, 3, 0, 4, 207, 0, 0, 0, []),
  (4, .iload_n 1, 1, 1, 0, 0, 0, 0, 0, []),
  (5, .invokestatic 83, 3, 141, 2, 6, 1, 0, 0, []),
  (8, .ireturn, 1, 1, 0, 0, 0, 0, 0, [])]
def M_X0_isBuried : MI := (yX0_isBuried, cX0_isBuried, 2, (some Jvm.ClassFile.FieldType.boolean), 1, 1, 21, false, 642, 640, 641, 89)
def k_X0_isBuried : List Ent := [(0, .aload_n 0, 1, 0, 0, 0, 0, 0, 0, []),
  (1, .getfield 99, 3, 0, 5, 209, 0, 0, 0, []),
  (4, .iload_n 1, 1, 1, 0, 0, 0, 0, 0, []),
  (5, .invokestatic 83, 3, 141, 2, 6, 1, 0, 0, []),
  (8, .ireturn, 1, 1, 0, 0, 0, 0, 0, [])]
def M_X0_unsignalled : MI := (yX0_unsignalled, cX0_unsignalled, 3, (some Jvm.ClassFile.FieldType.int), 0, 1, 20, false, 696, 694, 695, 89)
def k_X0_unsignalled : List Ent := [(0, .iconst 0, 1, 0, 0, 0, 0, 0, 0, []),
  (1, .istore_n 1, 1, 1, 0, 0, 0, 0, 0, []),
  (2, .iconst 0, 1, 0, 0, 0, 0, 0, 0, []),
  (3, .istore_n 2, 1, 2, 0, 0, 0, 0, 0, []),
  (4, .iload_n 2, 1, 2, 0, 0, 0, 0, 0, []),
  (5, .aload_n 0, 1, 0, 0, 0, 0, 0, 0, []),
  (6, .getfield 25, 3, 0, 0, 199, 2, 0, 0, []),
  (9, .getfield 46, 3, 1, 3, 131, 0, 0, 0, []),
  (12, .if_icmp .ge 26, 3, 38, 0, 0, 0, 0, 0, []),
  (15, .aload_n 0, 1, 0, 0, 0, 0, 0, 0, []),
  (16, .getfield 9, 3, 0, 1, 200, 2, 0, 0, []),
  (19, .iload_n 2, 1, 2, 0, 0, 0, 0, 0, []),
  (20, .iaload, 1, 0, 0, 0, 0, 0, 0, []),
  (21, .iconst (-1), 1, 0, 0, 0, 0, -1, 0, []),
  (22, .if_icmp .ne 10, 3, 32, 0, 0, 0, 0, 0, []),
  (25, .iload_n 1, 1, 1, 0, 0, 0, 0, 0, []),
  (26, .iload_n 2, 1, 2, 0, 0, 0, 0, 0, []),
  (27, .invokestatic 96, 3, 140, 1, 7, 1, 0, 0, []),
  (30, .ior, 1, 0, 0, 0, 0, 0, 0, []),
  (31, .istore_n 1, 1, 1, 0, 0, 0, 0, 0, []),
  (32, .iinc 2 1, 3, 2, 0, 0, 0, 1, 0, []),
  (35, .goto (-31), 3, 4, 0, 0, 0, 0, 0, []),
  (38, .iload_n 1, 1, 1, 0, 0, 0, 0, 0, []),
  (39, .ireturn, 1, 0, 0, 0, 0, 0, 0, [])]
def M_X0_isTorn : MI := (yX0_isTorn, cX0_isTorn, 5, (some Jvm.ClassFile.FieldType.boolean), 1, 3, 66, false, 598, 596, 597, 89)
def k_X0_isTorn : List Ent := [(0, .aload_n 0, 1, 0, 0, 0, 0, 0, 0, []),
  (1, .iload_n 1, 1, 1, 0, 0, 0, 0, 0, []),
  (2, .invokevirtual 79, 3, 3, 1, 531, 0, 0, 0, []),
  (5, .istore_n 2, 1, 2, 0, 0, 0, 0, 0, []),
  (6, .aload_n 0, 1, 0, 0, 0, 0, 0, 0, []),
  (7, .getfield 25, 3, 0, 0, 199, 2, 0, 0, []),
  (10, .iload_n 1, 1, 1, 0, 0, 0, 0, 0, []),
  (11, .iconst 1, 1, 0, 0, 0, 0, 1, 0, []),
  (12, .invokevirtual 75, 3, 28, 2, 530, 1, 0, 0, []),
  (15, .istore_n 3, 1, 3, 0, 0, 0, 0, 0, []),
  (16, .iconst 0, 1, 0, 0, 0, 0, 0, 0, []),
  (17, .istore 4, 2, 4, 0, 0, 0, 0, 0, []),
  (19, .iload 4, 2, 4, 0, 0, 0, 0, 0, []),
  (21, .aload_n 0, 1, 0, 0, 0, 0, 0, 0, []),
  (22, .getfield 25, 3, 0, 0, 199, 2, 0, 0, []),
  (25, .getfield 46, 3, 1, 3, 131, 0, 0, 0, []),
  (28, .if_icmp .ge 55, 3, 83, 0, 0, 0, 0, 0, []),
  (31, .iload_n 2, 1, 2, 0, 0, 0, 0, 0, []),
  (32, .iconst (-1), 1, 0, 0, 0, 0, -1, 0, []),
  (33, .if_icmp .eq 50, 3, 83, 0, 0, 0, 0, 0, []),
  (36, .iload 4, 2, 4, 0, 0, 0, 0, 0, []),
  (38, .iload_n 3, 1, 3, 0, 0, 0, 0, 0, []),
  (39, .if_icmp .eq 38, 3, 77, 0, 0, 0, 0, 0, []),
  (42, .aload_n 0, 1, 0, 0, 0, 0, 0, 0, []),
  (43, .iload 4, 2, 4, 0, 0, 0, 0, 0, []),
  (45, .invokevirtual 51, 3, 6, 1, 552, 0, 0, 0, []),
  (48, .ifCond .eq 29, 3, 77, 0, 0, 0, 0, 0, []),
  (51, .aload_n 0, 1, 0, 0, 0, 0, 0, 0, []),
  (52, .getfield 15, 3, 0, 2, 203, 2, 0, 0, []),
  (55, .iload 4, 2, 4, 0, 0, 0, 0, 0, []),
  (57, .iaload, 1, 0, 0, 0, 0, 0, 0, []),
  (58, .iload_n 2, 1, 2, 0, 0, 0, 0, 0, []),
  (59, .if_icmp .ge 18, 3, 77, 0, 0, 0, 0, 0, []),
  (62, .aload_n 0, 1, 0, 0, 0, 0, 0, 0, []),
  (63, .getfield 25, 3, 0, 0, 199, 2, 0, 0, []),
  (66, .iload 4, 2, 4, 0, 0, 0, 0, 0, []),
  (68, .iload_n 3, 1, 3, 0, 0, 0, 0, 0, []),
  (69, .invokevirtual 106, 3, 39, 2, 599, 1, 0, 0, []),
  (72, .ifCond .eq 5, 3, 77, 0, 0, 0, 0, 0, []),
  (75, .iconst 1, 1, 0, 0, 0, 0, 1, 0, []),
  (76, .ireturn, 1, 1, 0, 0, 0, 0, 0, []),
  (77, .iinc 4 1, 3, 4, 0, 0, 0, 1, 0, []),
  (80, .goto (-61), 3, 19, 0, 0, 0, 0, 0, []),
  (83, .iconst 0, 1, 0, 0, 0, 0, 0, 0, []),
  (84, .ireturn, 1, 1, 0, 0, 0, 0, 0, [])]
def M_X0_tornBits : MI := (yX0_tornBits, cX0_tornBits, 3, (some Jvm.ClassFile.FieldType.int), 0, 4, 90, false, 700, 698, 699, 89)
def k_X0_tornBits : List Ent := [(0, .iconst 0, 1, 0, 0, 0, 0, 0, 0, []),
  (1, .istore_n 1, 1, 1, 0, 0, 0, 0, 0, []),
  (2, .iconst 0, 1, 0, 0, 0, 0, 0, 0, []),
  (3, .istore_n 2, 1, 2, 0, 0, 0, 0, 0, []),
  (4, .iload_n 2, 1, 2, 0, 0, 0, 0, 0, []),
  (5, .aload_n 0, 1, 0, 0, 0, 0, 0, 0, []),
  (6, .getfield 25, 3, 0, 0, 199, 2, 0, 0, []),
  (9, .getfield 72, 3, 1, 4, 136, 0, 0, 0, []),
  (12, .if_icmp .ge 29, 3, 41, 0, 0, 0, 0, 0, []),
  (15, .iload_n 2, 1, 2, 0, 0, 0, 0, 0, []),
  (16, .bipush 31, 2, 0, 0, 0, 0, 31, 0, []),
  (18, .if_icmp .ge 23, 3, 41, 0, 0, 0, 0, 0, []),
  (21, .aload_n 0, 1, 0, 0, 0, 0, 0, 0, []),
  (22, .iload_n 2, 1, 2, 0, 0, 0, 0, 0, []),
  (23, .invokevirtual 109, 3, 9, 1, 701, 0, 0, 0, []),
  (26, .ifCond .eq 9, 3, 35, 0, 0, 0, 0, 0, []),
  (29, .iload_n 1, 1, 1, 0, 0, 0, 0, 0, []),
  (30, .iconst 1, 1, 0, 0, 0, 0, 1, 0, []),
  (31, .iload_n 2, 1, 2, 0, 0, 0, 0, 0, []),
  (32, .ishl, 1, 0, 0, 0, 0, 0, 0, []),
  (33, .ior, 1, 0, 0, 0, 0, 0, 0, []),
  (34, .istore_n 1, 1, 1, 0, 0, 0, 0, 0, []),
  (35, .iinc 2 1, 3, 2, 0, 0, 0, 1, 0, []),
  (38, .goto (-34), 3, 4, 0, 0, 0, 0, 0, []),
  (41, .iload_n 1, 1, 1, 0, 0, 0, 0, 0, []),
  (42, .ireturn, 1, 0, 0, 0, 0, 0, 0, [])]
def M_X0_ringOf : MI := (yX0_ringOf, cX0_ringOf, 3, (some Jvm.ClassFile.FieldType.int), 1, 3, 64, false, 646, 644, 645, 89)
def k_X0_ringOf : List Ent := [(0, .aload_n 0, 1, 0, 0, 0, 0, 0, 0, []),
  (1, .getfield 25, 3, 0, 0, 199, 2, 0, 0, []),
  (4, .iload_n 1, 1, 1, 0, 0, 0, 0, 0, []),
  (5, .invokevirtual 112, 3, 43, 1, 647, 1, 0, 0, []),
  (8, .aload_n 0, 1, 0, 0, 0, 0, 0, 0, []),
  (9, .getfield 25, 3, 0, 0, 199, 2, 0, 0, []),
  (12, .iload_n 1, 1, 1, 0, 0, 0, 0, 0, []),
  (13, .iconst 4, 1, 0, 0, 0, 0, 4, 0, []),
  (14, .invokevirtual 93, 3, 27, 2, 546, 1, 0, 0, []),
  (17, .iconst 1, 1, 0, 0, 0, 0, 1, 0, []),
  (18, .invokestatic 115, 3, 0, 0, 648, 10, 0, 0, []),
  (21, .idiv, 1, 0, 0, 0, 0, 0, 0, []),
  (22, .istore_n 2, 1, 2, 0, 0, 0, 0, 0, []),
  (23, .aload_n 0, 1, 0, 0, 0, 0, 0, 0, []),
  (24, .iload_n 1, 1, 1, 0, 0, 0, 0, 0, []),
  (25, .invokevirtual 120, 3, 7, 1, 649, 0, 0, 0, []),
  (28, .ifCond .eq 9, 3, 37, 0, 0, 0, 0, 0, []),
  (31, .iconst 2, 1, 0, 0, 0, 0, 2, 0, []),
  (32, .iload_n 2, 1, 2, 0, 0, 0, 0, 0, []),
  (33, .imul, 1, 0, 0, 0, 0, 0, 0, []),
  (34, .goto 4, 3, 38, 0, 0, 0, 0, 0, []),
  (37, .iload_n 2, 1, 2, 0, 0, 0, 0, 0, []),
  (38, .bipush 9, 2, 0, 0, 0, 0, 9, 0, []),
  (40, .invokestatic 123, 3, 0, 0, 650, 11, 0, 0, []),
  (43, .ireturn, 1, 0, 0, 0, 0, 0, 0, [])]
def M_X0_rockInRing : MI := (yX0_rockInRing, cX0_rockInRing, 4, (some Jvm.ClassFile.FieldType.int), 1, 5, 110, false, 682, 680, 681, 89)
def k_X0_rockInRing : List Ent := [(0, .iconst 0, 1, 0, 0, 0, 0, 0, 0, []),
  (1, .istore_n 2, 1, 2, 0, 0, 0, 0, 0, []),
  (2, .iconst 0, 1, 0, 0, 0, 0, 0, 0, []),
  (3, .istore_n 3, 1, 3, 0, 0, 0, 0, 0, []),
  (4, .iload_n 3, 1, 3, 0, 0, 0, 0, 0, []),
  (5, .aload_n 0, 1, 0, 0, 0, 0, 0, 0, []),
  (6, .getfield 25, 3, 0, 0, 199, 2, 0, 0, []),
  (9, .getfield 46, 3, 1, 3, 131, 0, 0, 0, []),
  (12, .if_icmp .ge 26, 3, 38, 0, 0, 0, 0, 0, []),
  (15, .aload_n 0, 1, 0, 0, 0, 0, 0, 0, []),
  (16, .iload_n 3, 1, 3, 0, 0, 0, 0, 0, []),
  (17, .invokevirtual 51, 3, 6, 1, 552, 0, 0, 0, []),
  (20, .ifCond .eq 12, 3, 32, 0, 0, 0, 0, 0, []),
  (23, .iload_n 2, 1, 2, 0, 0, 0, 0, 0, []),
  (24, .aload_n 0, 1, 0, 0, 0, 0, 0, 0, []),
  (25, .iload_n 3, 1, 3, 0, 0, 0, 0, 0, []),
  (26, .iload_n 1, 1, 1, 0, 0, 0, 0, 0, []),
  (27, .invokevirtual 126, 3, 13, 2, 683, 0, 0, 0, []),
  (30, .iadd, 1, 0, 0, 0, 0, 0, 0, []),
  (31, .istore_n 2, 1, 2, 0, 0, 0, 0, 0, []),
  (32, .iinc 3 1, 3, 3, 0, 0, 0, 1, 0, []),
  (35, .goto (-31), 3, 4, 0, 0, 0, 0, 0, []),
  (38, .iload_n 2, 1, 2, 0, 0, 0, 0, 0, []),
  (39, .ireturn, 1, 0, 0, 0, 0, 0, 0, [])]
def M_X0_rockOfIn : MI := (yX0_rockOfIn, cX0_rockOfIn, 5, (some Jvm.ClassFile.FieldType.int), 2, 4, 86, false, 686, 685, 11, 89)
def k_X0_rockOfIn : List Ent := [(0, .aload_n 0, 1, 0, 0, 0, 0, 0, 0, []),
  (1, .getfield 25, 3, 0, 0, 199, 2, 0, 0, []),
  (4, .iload_n 1, 1, 1, 0, 0, 0, 0, 0, []),
  (5, .invokevirtual 129, 3, 45, 1, 687, 1, 0, 0, []),
  (8, .istore_n 3, 1, 3, 0, 0, 0, 0, 0, []),
  (9, .aload_n 0, 1, 0, 0, 0, 0, 0, 0, []),
  (10, .iload_n 1, 1, 1, 0, 0, 0, 0, 0, []),
  (11, .invokevirtual 132, 3, 11, 1, 688, 0, 0, 0, []),
  (14, .iconst 0, 1, 0, 0, 0, 0, 0, 0, []),
  (15, .invokestatic 115, 3, 0, 0, 648, 10, 0, 0, []),
  (18, .iconst 1, 1, 0, 0, 0, 0, 1, 0, []),
  (19, .iadd, 1, 0, 0, 0, 0, 0, 0, []),
  (20, .istore 4, 2, 4, 0, 0, 0, 0, 0, []),
  (22, .iload_n 2, 1, 2, 0, 0, 0, 0, 0, []),
  (23, .iload 4, 2, 4, 0, 0, 0, 0, 0, []),
  (25, .if_icmp .lt 5, 3, 30, 0, 0, 0, 0, 0, []),
  (28, .iconst 0, 1, 0, 0, 0, 0, 0, 0, []),
  (29, .ireturn, 1, 0, 0, 0, 0, 0, 0, []),
  (30, .iload_n 2, 1, 2, 0, 0, 0, 0, 0, []),
  (31, .ifCond .ne 15, 3, 46, 0, 0, 0, 0, 0, []),
  (34, .iload_n 3, 1, 3, 0, 0, 0, 0, 0, []),
  (35, .iload 4, 2, 4, 0, 0, 0, 0, 0, []),
  (37, .idiv, 1, 0, 0, 0, 0, 0, 0, []),
  (38, .iload_n 3, 1, 3, 0, 0, 0, 0, 0, []),
  (39, .iload 4, 2, 4, 0, 0, 0, 0, 0, []),
  (41, .irem, 1, 0, 0, 0, 0, 0, 0, []),
  (42, .iadd, 1, 0, 0, 0, 0, 0, 0, []),
  (43, .goto 7, 3, 50, 0, 0, 0, 0, 0, []),
  (46, .iload_n 3, 1, 3, 0, 0, 0, 0, 0, []),
  (47, .iload 4, 2, 4, 0, 0, 0, 0, 0, []),
  (49, .idiv, 1, 0, 0, 0, 0, 0, 0, []),
  (50, .ireturn, 1, 0, 0, 0, 0, 0, 0, [])]
def M_X0_canLayOut : MI := (yX0_canLayOut, cX0_canLayOut, 1, (some Jvm.ClassFile.FieldType.boolean), 1, 0, 0, true, 1043, 1042, 0, 89)
def k_X0_canLayOut : List Ent := [(0, .iload_n 0, 1, 0, 0, 0, 0, 0, 0, []),
  (1, .ifCond .lt 12, 3, 13, 0, 0, 0, 0, 0, []),
  (4, .iload_n 0, 1, 0, 0, 0, 0, 0, 0, []),
  (5, .iconst 3, 1, 0, 0, 0, 0, 3, 0, []),
  (6, .if_icmp .ge 7, 3, 13, 0, 0, 0, 0, 0, []),
  (9, .iconst 1, 1, 0, 0, 0, 0, 1, 0, []),
  (10, .goto 4, 3, 14, 0, 0, 0, 0, 0, []),
  (13, .iconst 0, 1, 0, 0, 0, 0, 0, 0, []),
  (14, .ireturn, 1, 1, 0, 0, 0, 0, 0, [])]
def M_X0_layOut : MI := (yX0_layOut, cX0_layOut, 5, (some Jvm.ClassFile.FieldType.int), 2, 3, 64, false, 1047, 1045, 1046, 89)
def k_X0_layOut : List Ent := [(0, .iload_n 1, 1, 1, 0, 0, 0, 0, 0, []),
  (1, .iconst 2, 1, 0, 0, 0, 0, 2, 0, []),
  (2, .if_icmp .ne 41, 3, 43, 0, 0, 0, 0, 0, []),
  (5, .aload_n 0, 1, 0, 0, 0, 0, 0, 0, []),
  (6, .getfield 21, 3, 0, 3, 205, 2, 0, 0, []),
  (9, .getfield 135, 3, 6, 0, 169, 2, 0, 0, []),
  (12, .iconst 0, 1, 0, 0, 0, 0, 0, 0, []),
  (13, .aload_n 2, 1, 2, 0, 0, 0, 0, 0, []),
  (14, .iconst 0, 1, 0, 0, 0, 0, 0, 0, []),
  (15, .aload_n 0, 1, 0, 0, 0, 0, 0, 0, []),
  (16, .getfield 21, 3, 0, 3, 205, 2, 0, 0, []),
  (19, .getfield 136, 3, 6, 3, 177, 0, 0, 0, []),
  (22, .aload_n 2, 1, 2, 0, 0, 0, 0, 0, []),
  (23, .arraylength, 1, 0, 0, 0, 0, 0, 0, []),
  (24, .invokestatic 123, 3, 0, 0, 650, 11, 0, 0, []),
  (27, .invokestatic 139, 3, 0, 0, 1048, 9, 0, 0, []),
  (30, .aload_n 0, 1, 0, 0, 0, 0, 0, 0, []),
  (31, .getfield 21, 3, 0, 3, 205, 2, 0, 0, []),
  (34, .getfield 136, 3, 6, 3, 177, 0, 0, 0, []),
  (37, .aload_n 2, 1, 2, 0, 0, 0, 0, 0, []),
  (38, .arraylength, 1, 0, 0, 0, 0, 0, 0, []),
  (39, .invokestatic 123, 3, 0, 0, 650, 11, 0, 0, []),
  (42, .ireturn, 1, 0, 0, 0, 0, 0, 0, []),
  (43, .iconst 0, 1, 0, 0, 0, 0, 0, 0, []),
  (44, .istore_n 3, 1, 3, 0, 0, 0, 0, 0, []),
  (45, .iconst 0, 1, 0, 0, 0, 0, 0, 0, []),
  (46, .istore 4, 2, 4, 0, 0, 0, 0, 0, []),
  (48, .iload 4, 2, 4, 0, 0, 0, 0, 0, []),
  (50, .aload_n 0, 1, 0, 0, 0, 0, 0, 0, []),
  (51, .getfield 25, 3, 0, 0, 199, 2, 0, 0, []),
  (54, .getfield 46, 3, 1, 3, 131, 0, 0, 0, []),
  (57, .if_icmp .ge 53, 3, 110, 0, 0, 0, 0, 0, []),
  (60, .iload_n 3, 1, 3, 0, 0, 0, 0, 0, []),
  (61, .aload_n 2, 1, 2, 0, 0, 0, 0, 0, []),
  (62, .arraylength, 1, 0, 0, 0, 0, 0, 0, []),
  (63, .if_icmp .ge 47, 3, 110, 0, 0, 0, 0, 0, []),
  (66, .aload_n 0, 1, 0, 0, 0, 0, 0, 0, []),
  (67, .iload 4, 2, 4, 0, 0, 0, 0, 0, []),
  (69, .invokevirtual 51, 3, 6, 1, 552, 0, 0, 0, []),
  (72, .ifCond .eq 32, 3, 104, 0, 0, 0, 0, 0, []),
  (75, .aload_n 2, 1, 2, 0, 0, 0, 0, 0, []),
  (76, .iload_n 3, 1, 3, 0, 0, 0, 0, 0, []),
  (77, .iload_n 1, 1, 1, 0, 0, 0, 0, 0, []),
  (78, .ifCond .ne 13, 3, 91, 0, 0, 0, 0, 0, []),
  (81, .aload_n 0, 1, 0, 0, 0, 0, 0, 0, []),
  (82, .getfield 15, 3, 0, 2, 203, 2, 0, 0, []),
  (85, .iload 4, 2, 4, 0, 0, 0, 0, 0, []),
  (87, .iaload, 1, 0, 0, 0, 0, 0, 0, []),
  (88, .goto 12, 3, 100, 0, 0, 0, 0, 0, []),
  (91, .aload_n 0, 1, 0, 0, 0, 0, 0, 0, []),
  (92, .getfield 25, 3, 0, 0, 199, 2, 0, 0, []),
  (95, .iload 4, 2, 4, 0, 0, 0, 0, 0, []),
  (97, .invokevirtual 112, 3, 43, 1, 647, 1, 0, 0, []),
  (100, .iastore, 1, 0, 0, 0, 0, 0, 0, []),
  (101, .iinc 3 1, 3, 3, 0, 0, 0, 1, 0, []),
  (104, .iinc 4 1, 3, 4, 0, 0, 0, 1, 0, []),
  (107, .goto (-59), 3, 48, 0, 0, 0, 0, 0, []),
  (110, .iload_n 3, 1, 3, 0, 0, 0, 0, 0, []),
  (111, .ireturn, 1, 0, 0, 0, 0, 0, 0, [])]
def M_X1_isUnder : MI := (yX1_isUnder, cX1_isUnder, 4, (some Jvm.ClassFile.FieldType.boolean), 2, 0, 0, true, 406, 405, 0, 96)
def k_X1_isUnder : List Ent := [(0, .iload_n 0, 1, 0, 0, 0, 0, 0, 0, []),
  (1, .istore_n 2, 1, 2, 0, 0, 0, 0, 0, []),
  (2, .iconst 0, 1, 0, 0, 0, 0, 0, 0, []),
  (3, .istore_n 3, 1, 3, 0, 0, 0, 0, 0, []),
  (4, .iload_n 3, 1, 3, 0, 0, 0, 0, 0, []),
  (5, .bipush 6, 2, 0, 0, 0, 0, 6, 0, []),
  (7, .if_icmp .ge 32, 3, 39, 0, 0, 0, 0, 0, []),
  (10, .iload_n 2, 1, 2, 0, 0, 0, 0, 0, []),
  (11, .ifCond .lt 28, 3, 39, 0, 0, 0, 0, 0, []),
  (14, .iload_n 2, 1, 2, 0, 0, 0, 0, 0, []),
  (15, .bipush 6, 2, 0, 0, 0, 0, 6, 0, []),
  (17, .if_icmp .ge 22, 3, 39, 0, 0, 0, 0, 0, []),
  (20, .iload_n 2, 1, 2, 0, 0, 0, 0, 0, []),
  (21, .iload_n 1, 1, 1, 0, 0, 0, 0, 0, []),
  (22, .if_icmp .ne 5, 3, 27, 0, 0, 0, 0, 0, []),
  (25, .iconst 1, 1, 0, 0, 0, 0, 1, 0, []),
  (26, .ireturn, 1, 1, 0, 0, 0, 0, 0, []),
  (27, .getstatic 11, 3, 3, 0, 407, 0, 0, 0, []),
  (30, .iload_n 2, 1, 2, 0, 0, 0, 0, 0, []),
  (31, .iaload, 1, 0, 0, 0, 0, 0, 0, []),
  (32, .istore_n 2, 1, 2, 0, 0, 0, 0, 0, []),
  (33, .iinc 3 1, 3, 3, 0, 0, 0, 1, 0, []),
  (36, .goto (-32), 3, 4, 0, 0, 0, 0, 0, []),
  (39, .iconst 0, 1, 0, 0, 0, 0, 0, 0, []),
  (40, .ireturn, 1, 1, 0, 0, 0, 0, 0, [])]
def M_X1_firstLoad : MI := (yX1_firstLoad, cX1_firstLoad, 2, (some Jvm.ClassFile.FieldType.int), 2, 0, 0, true, 454, 453, 0, 96)
def k_X1_firstLoad : List Ent := [(0, .iload_n 0, 1, 0, 0, 0, 0, 0, 0, []),
  (1, .tableswitch 78 0 4 #[35, 37, 43, 49, 57], 35, 79, 0, 0, 0, 0, 0, [(0, 36), (1, 38), (2, 44), (3, 50), (4, 58)]),
  (36, .iload_n 1, 1, 1, 0, 0, 0, 0, 0, []),
  (37, .ireturn, 1, 0, 0, 0, 0, 0, 0, []),
  (38, .iload_n 1, 1, 1, 0, 0, 0, 0, 0, []),
  (39, .iconst 2, 1, 0, 0, 0, 0, 2, 0, []),
  (40, .idiv, 1, 0, 0, 0, 0, 0, 0, []),
  (41, .iconst 1, 1, 0, 0, 0, 0, 1, 0, []),
  (42, .iadd, 1, 0, 0, 0, 0, 0, 0, []),
  (43, .ireturn, 1, 0, 0, 0, 0, 0, 0, []),
  (44, .iload_n 1, 1, 1, 0, 0, 0, 0, 0, []),
  (45, .iconst 1, 1, 0, 0, 0, 0, 1, 0, []),
  (46, .iadd, 1, 0, 0, 0, 0, 0, 0, []),
  (47, .iconst 2, 1, 0, 0, 0, 0, 2, 0, []),
  (48, .idiv, 1, 0, 0, 0, 0, 0, 0, []),
  (49, .ireturn, 1, 0, 0, 0, 0, 0, 0, []),
  (50, .iload_n 1, 1, 1, 0, 0, 0, 0, 0, []),
  (51, .iconst 1, 1, 0, 0, 0, 0, 1, 0, []),
  (52, .iadd, 1, 0, 0, 0, 0, 0, 0, []),
  (53, .iconst 2, 1, 0, 0, 0, 0, 2, 0, []),
  (54, .idiv, 1, 0, 0, 0, 0, 0, 0, []),
  (55, .iconst 2, 1, 0, 0, 0, 0, 2, 0, []),
  (56, .imul, 1, 0, 0, 0, 0, 0, 0, []),
  (57, .ireturn, 1, 0, 0, 0, 0, 0, 0, []),
  (58, .iload_n 1, 1, 1, 0, 0, 0, 0, 0, []),
  (59, .iconst 2, 1, 0, 0, 0, 0, 2, 0, []),
  (60, .idiv, 1, 0, 0, 0, 0, 0, 0, []),
  (61, .iconst 1, 1, 0, 0, 0, 0, 1, 0, []),
  (62, .iadd, 1, 0, 0, 0, 0, 0, 0, []),
  (63, .bipush 9, 2, 0, 0, 0, 0, 9, 0, []),
  (65, .if_icmp .ge 11, 3, 76, 0, 0, 0, 0, 0, []),
  (68, .iload_n 1, 1, 1, 0, 0, 0, 0, 0, []),
  (69, .iconst 2, 1, 0, 0, 0, 0, 2, 0, []),
  (70, .idiv, 1, 0, 0, 0, 0, 0, 0, []),
  (71, .iconst 1, 1, 0, 0, 0, 0, 1, 0, []),
  (72, .iadd, 1, 0, 0, 0, 0, 0, 0, []),
  (73, .goto 5, 3, 78, 0, 0, 0, 0, 0, []),
  (76, .bipush 9, 2, 0, 0, 0, 0, 9, 0, []),
  (78, .ireturn, 1, 0, 0, 0, 0, 0, 0, []),
  (79, .iconst 0, 1, 0, 0, 0, 0, 0, 0, []),
  (80, .ireturn, 1, 0, 0, 0, 0, 0, 0, [])]
def M_X1_secondLoad : MI := (yX1_secondLoad, cX1_secondLoad, 2, (some Jvm.ClassFile.FieldType.int), 2, 0, 0, true, 461, 460, 0, 96)
def k_X1_secondLoad : List Ent := [(0, .iload_n 0, 1, 0, 0, 0, 0, 0, 0, []),
  (1, .lookupswitch 37 #[(2, 27), (3, 31)], 27, 38, 0, 0, 0, 0, 0, [(2, 28), (3, 32)]),
  (28, .iload_n 1, 1, 1, 0, 0, 0, 0, 0, []),
  (29, .iconst 2, 1, 0, 0, 0, 0, 2, 0, []),
  (30, .idiv, 1, 0, 0, 0, 0, 0, 0, []),
  (31, .ireturn, 1, 0, 0, 0, 0, 0, 0, []),
  (32, .iload_n 1, 1, 1, 0, 0, 0, 0, 0, []),
  (33, .iconst 2, 1, 0, 0, 0, 0, 2, 0, []),
  (34, .idiv, 1, 0, 0, 0, 0, 0, 0, []),
  (35, .iconst 2, 1, 0, 0, 0, 0, 2, 0, []),
  (36, .imul, 1, 0, 0, 0, 0, 0, 0, []),
  (37, .ireturn, 1, 0, 0, 0, 0, 0, 0, []),
  (38, .iconst 0, 1, 0, 0, 0, 0, 0, 0, []),
  (39, .ireturn, 1, 0, 0, 0, 0, 0, 0, [])]
def M_X1_rock : MI := (yX1_rock, cX1_rock, 2, (some Jvm.ClassFile.FieldType.int), 2, 1, 23, true, 468, 467, 0, 96)
def k_X1_rock : List Ent := [(0, .iload_n 0, 1, 0, 0, 0, 0, 0, 0, []),
  (1, .iconst 5, 1, 0, 0, 0, 0, 5, 0, []),
  (2, .if_icmp .ne 5, 3, 7, 0, 0, 0, 0, 0, []),
  (5, .iconst 0, 1, 0, 0, 0, 0, 0, 0, []),
  (6, .ireturn, 1, 0, 0, 0, 0, 0, 0, []),
  (7, .iload_n 0, 1, 0, 0, 0, 0, 0, 0, []),
  (8, .iconst 2, 1, 0, 0, 0, 0, 2, 0, []),
  (9, .invokestatic 15, 3, 16, 2, 404, 0, 0, 0, []),
  (12, .ifCond .eq 9, 3, 21, 0, 0, 0, 0, 0, []),
  (15, .iconst 5, 1, 0, 0, 0, 0, 5, 0, []),
  (16, .iload_n 1, 1, 1, 0, 0, 0, 0, 0, []),
  (17, .imul, 1, 0, 0, 0, 0, 0, 0, []),
  (18, .goto 6, 3, 24, 0, 0, 0, 0, 0, []),
  (21, .iconst 4, 1, 0, 0, 0, 0, 4, 0, []),
  (22, .iload_n 1, 1, 1, 0, 0, 0, 0, 0, []),
  (23, .imul, 1, 0, 0, 0, 0, 0, 0, []),
  (24, .ireturn, 1, 0, 0, 0, 0, 0, 0, [])]
def M_X1_needs : MI := (yX1_needs, cX1_needs, 2, (some Jvm.ClassFile.FieldType.int), 2, 0, 0, true, 475, 474, 0, 96)
def k_X1_needs : List Ent := [(0, .iload_n 0, 1, 0, 0, 0, 0, 0, 0, []),
  (1, .tableswitch 49 0 4 #[35, 39, 35, 45, 45], 35, 50, 0, 0, 0, 0, 0, [(0, 36), (1, 40), (2, 36), (3, 46), (4, 46)]),
  (36, .iconst 2, 1, 0, 0, 0, 0, 2, 0, []),
  (37, .iload_n 1, 1, 1, 0, 0, 0, 0, 0, []),
  (38, .imul, 1, 0, 0, 0, 0, 0, 0, []),
  (39, .ireturn, 1, 0, 0, 0, 0, 0, 0, []),
  (40, .iconst 2, 1, 0, 0, 0, 0, 2, 0, []),
  (41, .iload_n 1, 1, 1, 0, 0, 0, 0, 0, []),
  (42, .imul, 1, 0, 0, 0, 0, 0, 0, []),
  (43, .iconst 1, 1, 0, 0, 0, 0, 1, 0, []),
  (44, .isub, 1, 0, 0, 0, 0, 0, 0, []),
  (45, .ireturn, 1, 0, 0, 0, 0, 0, 0, []),
  (46, .iconst 3, 1, 0, 0, 0, 0, 3, 0, []),
  (47, .iload_n 1, 1, 1, 0, 0, 0, 0, 0, []),
  (48, .imul, 1, 0, 0, 0, 0, 0, 0, []),
  (49, .ireturn, 1, 0, 0, 0, 0, 0, 0, []),
  (50, .iconst 0, 1, 0, 0, 0, 0, 0, 0, []),
  (51, .ireturn, 1, 0, 0, 0, 0, 0, 0, [])]
def M_X1_made : MI := (yX1_made, cX1_made, 4, (some Jvm.ClassFile.FieldType.int), 3, 1, 23, true, 403, 402, 0, 96)
def k_X1_made : List Ent := [(0, .iconst 1, 1, 0, 0, 0, 0, 1, 0, []),
  (1, .istore_n 3, 1, 3, 0, 0, 0, 0, 0, []),
  (2, .iload_n 0, 1, 0, 0, 0, 0, 0, 0, []),
  (3, .ifCond .ne 10, 3, 13, 0, 0, 0, 0, 0, []),
  (6, .iload_n 3, 1, 3, 0, 0, 0, 0, 0, []),
  (7, .bipush 10, 2, 0, 0, 0, 0, 10, 0, []),
  (9, .imul, 1, 0, 0, 0, 0, 0, 0, []),
  (10, .iconst 2, 1, 0, 0, 0, 0, 2, 0, []),
  (11, .iadd, 1, 0, 0, 0, 0, 0, 0, []),
  (12, .istore_n 3, 1, 3, 0, 0, 0, 0, 0, []),
  (13, .iload_n 3, 1, 3, 0, 0, 0, 0, 0, []),
  (14, .bipush 10, 2, 0, 0, 0, 0, 10, 0, []),
  (16, .imul, 1, 0, 0, 0, 0, 0, 0, []),
  (17, .iconst 3, 1, 0, 0, 0, 0, 3, 0, []),
  (18, .iadd, 1, 0, 0, 0, 0, 0, 0, []),
  (19, .istore_n 3, 1, 3, 0, 0, 0, 0, 0, []),
  (20, .iload_n 1, 1, 1, 0, 0, 0, 0, 0, []),
  (21, .ifCond .eq 11, 3, 32, 0, 0, 0, 0, 0, []),
  (24, .iload_n 3, 1, 3, 0, 0, 0, 0, 0, []),
  (25, .bipush 100, 2, 0, 0, 0, 0, 100, 0, []),
  (27, .imul, 1, 0, 0, 0, 0, 0, 0, []),
  (28, .bipush 45, 2, 0, 0, 0, 0, 45, 0, []),
  (30, .iadd, 1, 0, 0, 0, 0, 0, 0, []),
  (31, .istore_n 3, 1, 3, 0, 0, 0, 0, 0, []),
  (32, .iload_n 1, 1, 1, 0, 0, 0, 0, 0, []),
  (33, .iconst 3, 1, 0, 0, 0, 0, 3, 0, []),
  (34, .if_icmp .ne 11, 3, 45, 0, 0, 0, 0, 0, []),
  (37, .iload_n 3, 1, 3, 0, 0, 0, 0, 0, []),
  (38, .bipush 10, 2, 0, 0, 0, 0, 10, 0, []),
  (40, .imul, 1, 0, 0, 0, 0, 0, 0, []),
  (41, .bipush 6, 2, 0, 0, 0, 0, 6, 0, []),
  (43, .iadd, 1, 0, 0, 0, 0, 0, 0, []),
  (44, .istore_n 3, 1, 3, 0, 0, 0, 0, 0, []),
  (45, .iload_n 1, 1, 1, 0, 0, 0, 0, 0, []),
  (46, .iconst 4, 1, 0, 0, 0, 0, 4, 0, []),
  (47, .invokestatic 15, 3, 16, 2, 404, 0, 0, 0, []),
  (50, .ifCond .eq 11, 3, 61, 0, 0, 0, 0, 0, []),
  (53, .iload_n 3, 1, 3, 0, 0, 0, 0, 0, []),
  (54, .bipush 10, 2, 0, 0, 0, 0, 10, 0, []),
  (56, .imul, 1, 0, 0, 0, 0, 0, 0, []),
  (57, .bipush 7, 2, 0, 0, 0, 0, 7, 0, []),
  (59, .iadd, 1, 0, 0, 0, 0, 0, 0, []),
  (60, .istore_n 3, 1, 3, 0, 0, 0, 0, 0, []),
  (61, .iload_n 1, 1, 1, 0, 0, 0, 0, 0, []),
  (62, .iconst 5, 1, 0, 0, 0, 0, 5, 0, []),
  (63, .if_icmp .ne 11, 3, 74, 0, 0, 0, 0, 0, []),
  (66, .iload_n 3, 1, 3, 0, 0, 0, 0, 0, []),
  (67, .bipush 10, 2, 0, 0, 0, 0, 10, 0, []),
  (69, .imul, 1, 0, 0, 0, 0, 0, 0, []),
  (70, .bipush 8, 2, 0, 0, 0, 0, 8, 0, []),
  (72, .iadd, 1, 0, 0, 0, 0, 0, 0, []),
  (73, .istore_n 3, 1, 3, 0, 0, 0, 0, 0, []),
  (74, .iload_n 1, 1, 1, 0, 0, 0, 0, 0, []),
  (75, .iconst 5, 1, 0, 0, 0, 0, 5, 0, []),
  (76, .if_icmp .ne 16, 3, 92, 0, 0, 0, 0, 0, []),
  (79, .iload_n 2, 1, 2, 0, 0, 0, 0, 0, []),
  (80, .iconst 1, 1, 0, 0, 0, 0, 1, 0, []),
  (81, .if_icmp .ne 11, 3, 92, 0, 0, 0, 0, 0, []),
  (84, .iload_n 3, 1, 3, 0, 0, 0, 0, 0, []),
  (85, .bipush 10, 2, 0, 0, 0, 0, 10, 0, []),
  (87, .imul, 1, 0, 0, 0, 0, 0, 0, []),
  (88, .bipush 9, 2, 0, 0, 0, 0, 9, 0, []),
  (90, .iadd, 1, 0, 0, 0, 0, 0, 0, []),
  (91, .istore_n 3, 1, 3, 0, 0, 0, 0, 0, []),
  (92, .iload_n 3, 1, 3, 0, 0, 0, 0, 0, []),
  (93, .ireturn, 1, 0, 0, 0, 0, 0, 0, [])]
def M_X1_word : MI := (yX1_word, cX1_word, 1, (some (Jvm.ClassFile.FieldType.object "java/lang/String")), 1, 0, 0, true, 905, 904, 0, 96)
def k_X1_word : List Ent := [(0, .iload_n 0, 1, 0, 0, 0, 0, 0, 0, []),
  (1, .tableswitch 50 0 4 #[35, 38, 41, 44, 47], 35, 51, 0, 0, 0, 0, 0, [(0, 36), (1, 39), (2, 42), (3, 45), (4, 48)]),
  (36, .ldc 19, 2, 1, 0, 9, 0, 0, 0, []),
  (38, .areturn, 1, 0, 0, 0, 0, 0, 0, []),
  (39, .ldc 21, 2, 1, 9, 10, 0, 0, 0, []),
  (41, .areturn, 1, 0, 0, 0, 0, 0, 0, []),
  (42, .ldc 23, 2, 1, 10, 11, 0, 0, 0, []),
  (44, .areturn, 1, 0, 0, 0, 0, 0, 0, []),
  (45, .ldc 25, 2, 1, 11, 12, 0, 0, 0, []),
  (47, .areturn, 1, 0, 0, 0, 0, 0, 0, []),
  (48, .ldc 27, 2, 1, 12, 13, 0, 0, 0, []),
  (50, .areturn, 1, 0, 0, 0, 0, 0, 0, []),
  (51, .ldc 29, 2, 1, 13, 14, 0, 0, 0, []),
  (53, .areturn, 1, 0, 0, 0, 0, 0, 0, [])]
def M_X2_copyFrom : MI := (yX2_copyFrom, cX2_copyFrom, 2, (none), 1, 1, 26, false, 920, 918, 919, 87)
def k_X2_copyFrom : List Ent := [(0, .aload_n 1, 1, 1, 0, 0, 0, 0, 0, []),
  (1, .getfield 9, 3, 1, 0, 123, 2, 0, 0, []),
  (4, .iconst 0, 1, 0, 0, 0, 0, 0, 0, []),
  (5, .aload_n 0, 1, 0, 0, 0, 0, 0, 0, []),
  (6, .getfield 9, 3, 1, 0, 123, 2, 0, 0, []),
  (9, .iconst 0, 1, 0, 0, 0, 0, 0, 0, []),
  (10, .aload_n 0, 1, 0, 0, 0, 0, 0, 0, []),
  (11, .getfield 9, 3, 1, 0, 123, 2, 0, 0, []),
  (14, .arraylength, 1, 0, 0, 0, 0, 0, 0, []),
  (15, .invokestatic 24, 3, 0, 0, 120, 9, 0, 0, []),
  (18, .aload_n 1, 1, 1, 0, 0, 0, 0, 0, []),
  (19, .getfield 15, 3, 1, 1, 124, 2, 0, 0, []),
  (22, .iconst 0, 1, 0, 0, 0, 0, 0, 0, []),
  (23, .aload_n 0, 1, 0, 0, 0, 0, 0, 0, []),
  (24, .getfield 15, 3, 1, 1, 124, 2, 0, 0, []),
  (27, .iconst 0, 1, 0, 0, 0, 0, 0, 0, []),
  (28, .aload_n 0, 1, 0, 0, 0, 0, 0, 0, []),
  (29, .getfield 15, 3, 1, 1, 124, 2, 0, 0, []),
  (32, .arraylength, 1, 0, 0, 0, 0, 0, 0, []),
  (33, .invokestatic 24, 3, 0, 0, 120, 9, 0, 0, []),
  (36, .aload_n 1, 1, 1, 0, 0, 0, 0, 0, []),
  (37, .getfield 18, 3, 1, 2, 125, 2, 0, 0, []),
  (40, .iconst 0, 1, 0, 0, 0, 0, 0, 0, []),
  (41, .aload_n 0, 1, 0, 0, 0, 0, 0, 0, []),
  (42, .getfield 18, 3, 1, 2, 125, 2, 0, 0, []),
  (45, .iconst 0, 1, 0, 0, 0, 0, 0, 0, []),
  (46, .iconst 3, 1, 0, 0, 0, 0, 3, 0, []),
  (47, .invokestatic 24, 3, 0, 0, 120, 9, 0, 0, []),
  (50, .aload_n 0, 1, 0, 0, 0, 0, 0, 0, []),
  (51, .aload_n 1, 1, 1, 0, 0, 0, 0, 0, []),
  (52, .getfield 30, 3, 1, 3, 130, 0, 0, 0, []),
  (55, .putfield 30, 3, 1, 3, 130, 0, 0, 0, []),
  (58, .aload_n 0, 1, 0, 0, 0, 0, 0, 0, []),
  (59, .aload_n 1, 1, 1, 0, 0, 0, 0, 0, []),
  (60, .getfield 34, 3, 1, 4, 135, 0, 0, 0, []),
  (63, .putfield 34, 3, 1, 4, 135, 0, 0, 0, []),
  (66, .aload_n 0, 1, 0, 0, 0, 0, 0, 0, []),
  (67, .aload_n 1, 1, 1, 0, 0, 0, 0, 0, []),
  (68, .getfield 37, 3, 1, 5, 138, 0, 0, 0, []),
  (71, .putfield 37, 3, 1, 5, 138, 0, 0, 0, []),
  (74, .return_, 1, 0, 0, 0, 0, 0, 0, [])]
def M_X2_fits : MI := (yX2_fits, cX2_fits, 2, (some Jvm.ClassFile.FieldType.boolean), 2, 0, 0, true, 388, 387, 0, 87)
def k_X2_fits : List Ent := [(0, .iload_n 0, 1, 0, 0, 0, 0, 0, 0, []),
  (1, .ifCond .lt 31, 3, 32, 0, 0, 0, 0, 0, []),
  (4, .iload_n 0, 1, 0, 0, 0, 0, 0, 0, []),
  (5, .bipush 6, 2, 0, 0, 0, 0, 6, 0, []),
  (7, .if_icmp .gt 25, 3, 32, 0, 0, 0, 0, 0, []),
  (10, .iload_n 1, 1, 1, 0, 0, 0, 0, 0, []),
  (11, .getstatic 40, 3, 1, 1, 1, 0, 0, 0, []),
  (14, .iload_n 0, 1, 0, 0, 0, 0, 0, 0, []),
  (15, .iaload, 1, 0, 0, 0, 0, 0, 0, []),
  (16, .if_icmp .lt 16, 3, 32, 0, 0, 0, 0, 0, []),
  (19, .iload_n 1, 1, 1, 0, 0, 0, 0, 0, []),
  (20, .getstatic 43, 3, 2, 1, 2, 0, 0, 0, []),
  (23, .iload_n 0, 1, 0, 0, 0, 0, 0, 0, []),
  (24, .iaload, 1, 0, 0, 0, 0, 0, 0, []),
  (25, .if_icmp .gt 7, 3, 32, 0, 0, 0, 0, 0, []),
  (28, .iconst 1, 1, 0, 0, 0, 0, 1, 0, []),
  (29, .goto 4, 3, 33, 0, 0, 0, 0, 0, []),
  (32, .iconst 0, 1, 0, 0, 0, 0, 0, 0, []),
  (33, .ireturn, 1, 1, 0, 0, 0, 0, 0, [])]
def M_X2_isHole : MI := (yX2_isHole, cX2_isHole, 2, (some Jvm.ClassFile.FieldType.boolean), 1, 0, 0, false, 442, 440, 441, 87)
def k_X2_isHole : List Ent := [(0, .iload_n 1, 1, 1, 0, 0, 0, 0, 0, []),
  (1, .ifCond .lt 15, 3, 16, 0, 0, 0, 0, 0, []),
  (4, .iload_n 1, 1, 1, 0, 0, 0, 0, 0, []),
  (5, .aload_n 0, 1, 0, 0, 0, 0, 0, 0, []),
  (6, .getfield 30, 3, 1, 3, 130, 0, 0, 0, []),
  (9, .if_icmp .ge 7, 3, 16, 0, 0, 0, 0, 0, []),
  (12, .iconst 1, 1, 0, 0, 0, 0, 1, 0, []),
  (13, .goto 4, 3, 17, 0, 0, 0, 0, 0, []),
  (16, .iconst 0, 1, 0, 0, 0, 0, 0, 0, []),
  (17, .ireturn, 1, 1, 0, 0, 0, 0, 0, [])]
def M_X2_isWire : MI := (yX2_isWire, cX2_isWire, 2, (some Jvm.ClassFile.FieldType.boolean), 1, 0, 0, false, 506, 504, 505, 87)
def k_X2_isWire : List Ent := [(0, .iload_n 1, 1, 1, 0, 0, 0, 0, 0, []),
  (1, .ifCond .lt 15, 3, 16, 0, 0, 0, 0, 0, []),
  (4, .iload_n 1, 1, 1, 0, 0, 0, 0, 0, []),
  (5, .aload_n 0, 1, 0, 0, 0, 0, 0, 0, []),
  (6, .getfield 34, 3, 1, 4, 135, 0, 0, 0, []),
  (9, .if_icmp .ge 7, 3, 16, 0, 0, 0, 0, 0, []),
  (12, .iconst 1, 1, 0, 0, 0, 0, 1, 0, []),
  (13, .goto 4, 3, 17, 0, 0, 0, 0, 0, []),
  (16, .iconst 0, 1, 0, 0, 0, 0, 0, 0, []),
  (17, .ireturn, 1, 1, 0, 0, 0, 0, 0, [])]
def M_X2_mark : MI := (yX2_mark, cX2_mark, 3, (some Jvm.ClassFile.FieldType.int), 2, 0, 0, false, 400, 398, 399, 87)
def k_X2_mark : List Ent := [(0, .aload_n 0, 1, 0, 0, 0, 0, 0, 0, []),
  (1, .getfield 9, 3, 1, 0, 123, 2, 0, 0, []),
  (4, .iload_n 1, 1, 1, 0, 0, 0, 0, 0, []),
  (5, .bipush 9, 2, 0, 0, 0, 0, 9, 0, []),
  (7, .imul, 1, 0, 0, 0, 0, 0, 0, []),
  (8, .iload_n 2, 1, 2, 0, 0, 0, 0, 0, []),
  (9, .iadd, 1, 0, 0, 0, 0, 0, 0, []),
  (10, .iaload, 1, 0, 0, 0, 0, 0, 0, []),
  (11, .ireturn, 1, 0, 0, 0, 0, 0, 0, [])]
def M_X2_cord : MI := (yX2_cord, cX2_cord, 3, (some Jvm.ClassFile.FieldType.int), 2, 0, 0, false, 510, 508, 509, 87)
def k_X2_cord : List Ent := [(0, .aload_n 0, 1, 0, 0, 0, 0, 0, 0, []),
  (1, .getfield 15, 3, 1, 1, 124, 2, 0, 0, []),
  (4, .iload_n 1, 1, 1, 0, 0, 0, 0, 0, []),
  (5, .iconst 3, 1, 0, 0, 0, 0, 3, 0, []),
  (6, .imul, 1, 0, 0, 0, 0, 0, 0, []),
  (7, .iload_n 2, 1, 2, 0, 0, 0, 0, 0, []),
  (8, .iadd, 1, 0, 0, 0, 0, 0, 0, []),
  (9, .iaload, 1, 0, 0, 0, 0, 0, 0, []),
  (10, .ireturn, 1, 0, 0, 0, 0, 0, 0, [])]
def M_X2_addHole : MI := (yX2_addHole, cX2_addHole, 8, (some Jvm.ClassFile.FieldType.int), 6, 4, 89, false, 385, 383, 384, 87)
def k_X2_addHole : List Ent := [(0, .iconst 0, 1, 0, 0, 0, 0, 0, 0, []),
  (1, .iload_n 1, 1, 1, 0, 0, 0, 0, 0, []),
  (2, .invokestatic 46, 3, 24, 2, 386, 0, 0, 0, []),
  (5, .ifCond .eq 19, 3, 24, 0, 0, 0, 0, 0, []),
  (8, .iconst 1, 1, 0, 0, 0, 0, 1, 0, []),
  (9, .iload_n 2, 1, 2, 0, 0, 0, 0, 0, []),
  (10, .invokestatic 46, 3, 24, 2, 386, 0, 0, 0, []),
  (13, .ifCond .eq 11, 3, 24, 0, 0, 0, 0, 0, []),
  (16, .iconst 2, 1, 0, 0, 0, 0, 2, 0, []),
  (17, .iload_n 3, 1, 3, 0, 0, 0, 0, 0, []),
  (18, .invokestatic 46, 3, 24, 2, 386, 0, 0, 0, []),
  (21, .ifCond .ne 6, 3, 27, 0, 0, 0, 0, 0, []),
  (24, .bipush (-2), 2, 0, 0, 0, 0, -2, 0, []),
  (26, .ireturn, 1, 0, 0, 0, 0, 0, 0, []),
  (27, .iconst 3, 1, 0, 0, 0, 0, 3, 0, []),
  (28, .iload 4, 2, 4, 0, 0, 0, 0, 0, []),
  (30, .invokestatic 46, 3, 24, 2, 386, 0, 0, 0, []),
  (33, .ifCond .eq 21, 3, 54, 0, 0, 0, 0, 0, []),
  (36, .iconst 4, 1, 0, 0, 0, 0, 4, 0, []),
  (37, .iload 5, 2, 5, 0, 0, 0, 0, 0, []),
  (39, .invokestatic 46, 3, 24, 2, 386, 0, 0, 0, []),
  (42, .ifCond .eq 12, 3, 54, 0, 0, 0, 0, 0, []),
  (45, .iconst 5, 1, 0, 0, 0, 0, 5, 0, []),
  (46, .iload 6, 2, 6, 0, 0, 0, 0, 0, []),
  (48, .invokestatic 46, 3, 24, 2, 386, 0, 0, 0, []),
  (51, .ifCond .ne 6, 3, 57, 0, 0, 0, 0, 0, []),
  (54, .bipush (-2), 2, 0, 0, 0, 0, -2, 0, []),
  (56, .ireturn, 1, 0, 0, 0, 0, 0, 0, []),
  (57, .aload_n 0, 1, 0, 0, 0, 0, 0, 0, []),
  (58, .iload_n 1, 1, 1, 0, 0, 0, 0, 0, []),
  (59, .iload_n 2, 1, 2, 0, 0, 0, 0, 0, []),
  (60, .invokevirtual 50, 3, 37, 2, 393, 1, 0, 0, []),
  (63, .iconst (-1), 1, 0, 0, 0, 0, -1, 0, []),
  (64, .if_icmp .eq 6, 3, 70, 0, 0, 0, 0, 0, []),
  (67, .bipush (-3), 2, 0, 0, 0, 0, -3, 0, []),
  (69, .ireturn, 1, 0, 0, 0, 0, 0, 0, []),
  (70, .aload_n 0, 1, 0, 0, 0, 0, 0, 0, []),
  (71, .getfield 30, 3, 1, 3, 130, 0, 0, 0, []),
  (74, .bipush 20, 2, 0, 0, 0, 0, 20, 0, []),
  (76, .if_icmp .lt 6, 3, 82, 0, 0, 0, 0, 0, []),
  (79, .bipush (-4), 2, 0, 0, 0, 0, -4, 0, []),
  (81, .ireturn, 1, 0, 0, 0, 0, 0, 0, []),
  (82, .aload_n 0, 1, 0, 0, 0, 0, 0, 0, []),
  (83, .getfield 30, 3, 1, 3, 130, 0, 0, 0, []),
  (86, .bipush 9, 2, 0, 0, 0, 0, 9, 0, []),
  (88, .imul, 1, 0, 0, 0, 0, 0, 0, []),
  (89, .istore 7, 2, 7, 0, 0, 0, 0, 0, []),
  (91, .aload_n 0, 1, 0, 0, 0, 0, 0, 0, []),
  (92, .getfield 9, 3, 1, 0, 123, 2, 0, 0, []),
  (95, .iload 7, 2, 7, 0, 0, 0, 0, 0, []),
  (97, .iconst 0, 1, 0, 0, 0, 0, 0, 0, []),
  (98, .iadd, 1, 0, 0, 0, 0, 0, 0, []),
  (99, .iload_n 1, 1, 1, 0, 0, 0, 0, 0, []),
  (100, .iastore, 1, 0, 0, 0, 0, 0, 0, []),
  (101, .aload_n 0, 1, 0, 0, 0, 0, 0, 0, []),
  (102, .getfield 9, 3, 1, 0, 123, 2, 0, 0, []),
  (105, .iload 7, 2, 7, 0, 0, 0, 0, 0, []),
  (107, .iconst 1, 1, 0, 0, 0, 0, 1, 0, []),
  (108, .iadd, 1, 0, 0, 0, 0, 0, 0, []),
  (109, .iload_n 2, 1, 2, 0, 0, 0, 0, 0, []),
  (110, .iastore, 1, 0, 0, 0, 0, 0, 0, []),
  (111, .aload_n 0, 1, 0, 0, 0, 0, 0, 0, []),
  (112, .getfield 9, 3, 1, 0, 123, 2, 0, 0, []),
  (115, .iload 7, 2, 7, 0, 0, 0, 0, 0, []),
  (117, .iconst 2, 1, 0, 0, 0, 0, 2, 0, []),
  (118, .iadd, 1, 0, 0, 0, 0, 0, 0, []),
  (119, .iload_n 3, 1, 3, 0, 0, 0, 0, 0, []),
  (120, .iastore, 1, 0, 0, 0, 0, 0, 0, []),
  (121, .aload_n 0, 1, 0, 0, 0, 0, 0, 0, []),
  (122, .getfield 9, 3, 1, 0, 123, 2, 0, 0, []),
  (125, .iload 7, 2, 7, 0, 0, 0, 0, 0, []),
  (127, .iconst 3, 1, 0, 0, 0, 0, 3, 0, []),
  (128, .iadd, 1, 0, 0, 0, 0, 0, 0, []),
  (129, .iload 4, 2, 4, 0, 0, 0, 0, 0, []),
  (131, .iastore, 1, 0, 0, 0, 0, 0, 0, []),
  (132, .aload_n 0, 1, 0, 0, 0, 0, 0, 0, []),
  (133, .getfield 9, 3, 1, 0, 123, 2, 0, 0, []),
  (136, .iload 7, 2, 7, 0, 0, 0, 0, 0, []),
  (138, .iconst 4, 1, 0, 0, 0, 0, 4, 0, []),
  (139, .iadd, 1, 0, 0, 0, 0, 0, 0, []),
  (140, .iload 5, 2, 5, 0, 0, 0, 0, 0, []),
  (142, .iastore, 1, 0, 0, 0, 0, 0, 0, []),
  (143, .aload_n 0, 1, 0, 0, 0, 0, 0, 0, []),
  (144, .getfield 9, 3, 1, 0, 123, 2, 0, 0, []),
  (147, .iload 7, 2, 7, 0, 0, 0, 0, 0, []),
  (149, .iconst 5, 1, 0, 0, 0, 0, 5, 0, []),
  (150, .iadd, 1, 0, 0, 0, 0, 0, 0, []),
  (151, .iload 6, 2, 6, 0, 0, 0, 0, 0, []),
  (153, .iastore, 1, 0, 0, 0, 0, 0, 0, []),
  (154, .aload_n 0, 1, 0, 0, 0, 0, 0, 0, []),
  (155, .getfield 9, 3, 1, 0, 123, 2, 0, 0, []),
  (158, .iload 7, 2, 7, 0, 0, 0, 0, 0, []),
  (160, .bipush 6, 2, 0, 0, 0, 0, 6, 0, []),
  (162, .iadd, 1, 0, 0, 0, 0, 0, 0, []),
  (163, .iconst 0, 1, 0, 0, 0, 0, 0, 0, []),
  (164, .iastore, 1, 0, 0, 0, 0, 0, 0, []),
  (165, .aload_n 0, 1, 0, 0, 0, 0, 0, 0, []),
  (166, .getfield 9, 3, 1, 0, 123, 2, 0, 0, []),
  (169, .iload 7, 2, 7, 0, 0, 0, 0, 0, []),
  (171, .bipush 7, 2, 0, 0, 0, 0, 7, 0, []),
  (173, .iadd, 1, 0, 0, 0, 0, 0, 0, []),
  (174, .iload_n 1, 1, 1, 0, 0, 0, 0, 0, []),
  (175, .iload_n 3, 1, 3, 0, 0, 0, 0, 0, []),
  (176, .iload 5, 2, 5, 0, 0, 0, 0, 0, []),
  (178, .invokestatic 54, 3, 21, 3, 401, 0, 0, 0, []),
  (181, .iastore, 1, 0, 0, 0, 0, 0, 0, []),
  (182, .aload_n 0, 1, 0, 0, 0, 0, 0, 0, []),
  (183, .getfield 9, 3, 1, 0, 123, 2, 0, 0, []),
  (186, .iload 7, 2, 7, 0, 0, 0, 0, 0, []),
  (188, .bipush 8, 2, 0, 0, 0, 0, 8, 0, []),
  (190, .iadd, 1, 0, 0, 0, 0, 0, 0, []),
  (191, .iconst 0, 1, 0, 0, 0, 0, 0, 0, []),
  (192, .iastore, 1, 0, 0, 0, 0, 0, 0, []),
  (193, .aload_n 0, 1, 0, 0, 0, 0, 0, 0, []),
  (194, .aload_n 0, 1, 0, 0, 0, 0, 0, 0, []),
  (195, .getfield 30, 3, 1, 3, 130, 0, 0, 0, []),
  (198, .invokevirtual 60, 3, 30, 1, 409, 1, 0, 0, []),
  (201, .aload_n 0, 1, 0, 0, 0, 0, 0, 0, []),
  (202, .dup, 1, 0, 0, 0, 0, 0, 0, []),
  (203, .getfield 30, 3, 1, 3, 130, 0, 0, 0, []),
  (206, .iconst 1, 1, 0, 0, 0, 0, 1, 0, []),
  (207, .iadd, 1, 0, 0, 0, 0, 0, 0, []),
  (208, .putfield 30, 3, 1, 3, 130, 0, 0, 0, []),
  (211, .aload_n 0, 1, 0, 0, 0, 0, 0, 0, []),
  (212, .getfield 30, 3, 1, 3, 130, 0, 0, 0, []),
  (215, .iconst 1, 1, 0, 0, 0, 0, 1, 0, []),
  (216, .isub, 1, 0, 0, 0, 0, 0, 0, []),
  (217, .ireturn, 1, 0, 0, 0, 0, 0, 0, [])]
def M_X2_markAhead : MI := (yX2_markAhead, cX2_markAhead, 3, (none), 1, 3, 67, false, 412, 411, 0, 87)
def k_X2_markAhead : List Ent := [(0, .iconst 0, 1, 0, 0, 0, 0, 0, 0, []),
  (1, .istore_n 2, 1, 2, 0, 0, 0, 0, 0, []),
  (2, .iload_n 2, 1, 2, 0, 0, 0, 0, 0, []),
  (3, .iload_n 1, 1, 1, 0, 0, 0, 0, 0, []),
  (4, .if_icmp .ge 65, 3, 69, 0, 0, 0, 0, 0, []),
  (7, .aload_n 0, 1, 0, 0, 0, 0, 0, 0, []),
  (8, .iload_n 2, 1, 2, 0, 0, 0, 0, 0, []),
  (9, .iload_n 1, 1, 1, 0, 0, 0, 0, 0, []),
  (10, .invokevirtual 64, 3, 31, 2, 413, 1, 0, 0, []),
  (13, .ifCond .eq 22, 3, 35, 0, 0, 0, 0, 0, []),
  (16, .aload_n 0, 1, 0, 0, 0, 0, 0, 0, []),
  (17, .getfield 9, 3, 1, 0, 123, 2, 0, 0, []),
  (20, .iload_n 1, 1, 1, 0, 0, 0, 0, 0, []),
  (21, .bipush 9, 2, 0, 0, 0, 0, 9, 0, []),
  (23, .imul, 1, 0, 0, 0, 0, 0, 0, []),
  (24, .bipush 8, 2, 0, 0, 0, 0, 8, 0, []),
  (26, .iadd, 1, 0, 0, 0, 0, 0, 0, []),
  (27, .dup2, 1, 0, 0, 0, 0, 0, 0, []),
  (28, .iaload, 1, 0, 0, 0, 0, 0, 0, []),
  (29, .iload_n 2, 1, 2, 0, 0, 0, 0, 0, []),
  (30, .invokestatic 67, 3, 140, 1, 5, 1, 0, 0, []),
  (33, .ior, 1, 0, 0, 0, 0, 0, 0, []),
  (34, .iastore, 1, 0, 0, 0, 0, 0, 0, []),
  (35, .aload_n 0, 1, 0, 0, 0, 0, 0, 0, []),
  (36, .iload_n 1, 1, 1, 0, 0, 0, 0, 0, []),
  (37, .iload_n 2, 1, 2, 0, 0, 0, 0, 0, []),
  (38, .invokevirtual 64, 3, 31, 2, 413, 1, 0, 0, []),
  (41, .ifCond .eq 22, 3, 63, 0, 0, 0, 0, 0, []),
  (44, .aload_n 0, 1, 0, 0, 0, 0, 0, 0, []),
  (45, .getfield 9, 3, 1, 0, 123, 2, 0, 0, []),
  (48, .iload_n 2, 1, 2, 0, 0, 0, 0, 0, []),
  (49, .bipush 9, 2, 0, 0, 0, 0, 9, 0, []),
  (51, .imul, 1, 0, 0, 0, 0, 0, 0, []),
  (52, .bipush 8, 2, 0, 0, 0, 0, 8, 0, []),
  (54, .iadd, 1, 0, 0, 0, 0, 0, 0, []),
  (55, .dup2, 1, 0, 0, 0, 0, 0, 0, []),
  (56, .iaload, 1, 0, 0, 0, 0, 0, 0, []),
  (57, .iload_n 1, 1, 1, 0, 0, 0, 0, 0, []),
  (58, .invokestatic 67, 3, 140, 1, 5, 1, 0, 0, []),
  (61, .ior, 1, 0, 0, 0, 0, 0, 0, []),
  (62, .iastore, 1, 0, 0, 0, 0, 0, 0, []),
  (63, .iinc 2 1, 3, 2, 0, 0, 0, 1, 0, []),
  (66, .goto (-64), 3, 2, 0, 0, 0, 0, 0, []),
  (69, .return_, 1, 0, 0, 0, 0, 0, 0, [])]
def M_X2_isAhead : MI := (yX2_isAhead, cX2_isAhead, 4, (some Jvm.ClassFile.FieldType.boolean), 2, 2, 44, false, 416, 415, 1, 87)
def k_X2_isAhead : List Ent := [(0, .aload_n 0, 1, 0, 0, 0, 0, 0, 0, []),
  (1, .iload_n 1, 1, 1, 0, 0, 0, 0, 0, []),
  (2, .iconst 0, 1, 0, 0, 0, 0, 0, 0, []),
  (3, .invokevirtual 71, 3, 27, 2, 397, 1, 0, 0, []),
  (6, .aload_n 0, 1, 0, 0, 0, 0, 0, 0, []),
  (7, .iload_n 2, 1, 2, 0, 0, 0, 0, 0, []),
  (8, .iconst 0, 1, 0, 0, 0, 0, 0, 0, []),
  (9, .invokevirtual 71, 3, 27, 2, 397, 1, 0, 0, []),
  (12, .iconst 1, 1, 0, 0, 0, 0, 1, 0, []),
  (13, .isub, 1, 0, 0, 0, 0, 0, 0, []),
  (14, .if_icmp .ne 7, 3, 21, 0, 0, 0, 0, 0, []),
  (17, .iconst 1, 1, 0, 0, 0, 0, 1, 0, []),
  (18, .goto 4, 3, 22, 0, 0, 0, 0, 0, []),
  (21, .iconst 0, 1, 0, 0, 0, 0, 0, 0, []),
  (22, .istore_n 3, 1, 3, 0, 0, 0, 0, 0, []),
  (23, .iload_n 3, 1, 3, 0, 0, 0, 0, 0, []),
  (24, .ifCond .eq 27, 3, 51, 0, 0, 0, 0, 0, []),
  (27, .aload_n 0, 1, 0, 0, 0, 0, 0, 0, []),
  (28, .iload_n 1, 1, 1, 0, 0, 0, 0, 0, []),
  (29, .iload_n 2, 1, 2, 0, 0, 0, 0, 0, []),
  (30, .invokevirtual 74, 3, 40, 2, 417, 1, 0, 0, []),
  (33, .iconst 1, 1, 0, 0, 0, 0, 1, 0, []),
  (34, .if_icmp .gt 17, 3, 51, 0, 0, 0, 0, 0, []),
  (37, .aload_n 0, 1, 0, 0, 0, 0, 0, 0, []),
  (38, .iload_n 1, 1, 1, 0, 0, 0, 0, 0, []),
  (39, .iconst 2, 1, 0, 0, 0, 0, 2, 0, []),
  (40, .invokevirtual 71, 3, 27, 2, 397, 1, 0, 0, []),
  (43, .iconst 5, 1, 0, 0, 0, 0, 5, 0, []),
  (44, .if_icmp .eq 7, 3, 51, 0, 0, 0, 0, 0, []),
  (47, .iconst 1, 1, 0, 0, 0, 0, 1, 0, []),
  (48, .goto 4, 3, 52, 0, 0, 0, 0, 0, []),
  (51, .iconst 0, 1, 0, 0, 0, 0, 0, 0, []),
  (52, .ireturn, 1, 1, 0, 0, 0, 0, 0, [])]
def M_X2_changeMark : MI := (yX2_changeMark, cX2_changeMark, 5, (some Jvm.ClassFile.FieldType.int), 3, 1, 22, false, 483, 481, 482, 87)
def k_X2_changeMark : List Ent := [(0, .aload_n 0, 1, 0, 0, 0, 0, 0, 0, []),
  (1, .iload_n 1, 1, 1, 0, 0, 0, 0, 0, []),
  (2, .invokevirtual 77, 3, 25, 1, 484, 1, 0, 0, []),
  (5, .ifCond .ne 5, 3, 10, 0, 0, 0, 0, 0, []),
  (8, .iconst (-1), 1, 0, 0, 0, 0, -1, 0, []),
  (9, .ireturn, 1, 0, 0, 0, 0, 0, 0, []),
  (10, .iload_n 2, 1, 2, 0, 0, 0, 0, 0, []),
  (11, .iconst 3, 1, 0, 0, 0, 0, 3, 0, []),
  (12, .if_icmp .lt 11, 3, 23, 0, 0, 0, 0, 0, []),
  (15, .iload_n 2, 1, 2, 0, 0, 0, 0, 0, []),
  (16, .iload_n 3, 1, 3, 0, 0, 0, 0, 0, []),
  (17, .invokestatic 46, 3, 24, 2, 386, 0, 0, 0, []),
  (20, .ifCond .ne 6, 3, 26, 0, 0, 0, 0, 0, []),
  (23, .bipush (-2), 2, 0, 0, 0, 0, -2, 0, []),
  (25, .ireturn, 1, 0, 0, 0, 0, 0, 0, []),
  (26, .aload_n 0, 1, 0, 0, 0, 0, 0, 0, []),
  (27, .iload_n 1, 1, 1, 0, 0, 0, 0, 0, []),
  (28, .iload_n 2, 1, 2, 0, 0, 0, 0, 0, []),
  (29, .invokevirtual 71, 3, 27, 2, 397, 1, 0, 0, []),
  (32, .istore 4, 2, 4, 0, 0, 0, 0, 0, []),
  (34, .aload_n 0, 1, 0, 0, 0, 0, 0, 0, []),
  (35, .getfield 9, 3, 1, 0, 123, 2, 0, 0, []),
  (38, .iload_n 1, 1, 1, 0, 0, 0, 0, 0, []),
  (39, .bipush 9, 2, 0, 0, 0, 0, 9, 0, []),
  (41, .imul, 1, 0, 0, 0, 0, 0, 0, []),
  (42, .iload_n 2, 1, 2, 0, 0, 0, 0, 0, []),
  (43, .iadd, 1, 0, 0, 0, 0, 0, 0, []),
  (44, .iload_n 3, 1, 3, 0, 0, 0, 0, 0, []),
  (45, .iastore, 1, 0, 0, 0, 0, 0, 0, []),
  (46, .iload 4, 2, 4, 0, 0, 0, 0, 0, []),
  (48, .ireturn, 1, 0, 0, 0, 0, 0, 0, [])]
def M_X2_addWire : MI := (yX2_addWire, cX2_addWire, 5, (some Jvm.ClassFile.FieldType.int), 3, 1, 21, false, 498, 496, 497, 87)
def k_X2_addWire : List Ent := [(0, .iload_n 1, 1, 1, 0, 0, 0, 0, 0, []),
  (1, .iconst (-1), 1, 0, 0, 0, 0, -1, 0, []),
  (2, .if_icmp .eq 13, 3, 15, 0, 0, 0, 0, 0, []),
  (5, .aload_n 0, 1, 0, 0, 0, 0, 0, 0, []),
  (6, .iload_n 1, 1, 1, 0, 0, 0, 0, 0, []),
  (7, .invokevirtual 77, 3, 25, 1, 484, 1, 0, 0, []),
  (10, .ifCond .ne 5, 3, 15, 0, 0, 0, 0, 0, []),
  (13, .iconst (-1), 1, 0, 0, 0, 0, -1, 0, []),
  (14, .ireturn, 1, 0, 0, 0, 0, 0, 0, []),
  (15, .aload_n 0, 1, 0, 0, 0, 0, 0, 0, []),
  (16, .iload_n 2, 1, 2, 0, 0, 0, 0, 0, []),
  (17, .invokevirtual 77, 3, 25, 1, 484, 1, 0, 0, []),
  (20, .ifCond .eq 8, 3, 28, 0, 0, 0, 0, 0, []),
  (23, .iload_n 1, 1, 1, 0, 0, 0, 0, 0, []),
  (24, .iload_n 2, 1, 2, 0, 0, 0, 0, 0, []),
  (25, .if_icmp .ne 5, 3, 30, 0, 0, 0, 0, 0, []),
  (28, .iconst (-1), 1, 0, 0, 0, 0, -1, 0, []),
  (29, .ireturn, 1, 0, 0, 0, 0, 0, 0, []),
  (30, .iload_n 3, 1, 3, 0, 0, 0, 0, 0, []),
  (31, .ifCond .lt 10, 3, 41, 0, 0, 0, 0, 0, []),
  (34, .iload_n 3, 1, 3, 0, 0, 0, 0, 0, []),
  (35, .sipush 500, 3, 0, 0, 0, 0, 500, 0, []),
  (38, .if_icmp .le 6, 3, 44, 0, 0, 0, 0, 0, []),
  (41, .bipush (-2), 2, 0, 0, 0, 0, -2, 0, []),
  (43, .ireturn, 1, 0, 0, 0, 0, 0, 0, []),
  (44, .aload_n 0, 1, 0, 0, 0, 0, 0, 0, []),
  (45, .getfield 34, 3, 1, 4, 135, 0, 0, 0, []),
  (48, .bipush 40, 2, 0, 0, 0, 0, 40, 0, []),
  (50, .if_icmp .lt 6, 3, 56, 0, 0, 0, 0, 0, []),
  (53, .bipush (-4), 2, 0, 0, 0, 0, -4, 0, []),
  (55, .ireturn, 1, 0, 0, 0, 0, 0, 0, []),
  (56, .aload_n 0, 1, 0, 0, 0, 0, 0, 0, []),
  (57, .getfield 34, 3, 1, 4, 135, 0, 0, 0, []),
  (60, .iconst 3, 1, 0, 0, 0, 0, 3, 0, []),
  (61, .imul, 1, 0, 0, 0, 0, 0, 0, []),
  (62, .istore 4, 2, 4, 0, 0, 0, 0, 0, []),
  (64, .aload_n 0, 1, 0, 0, 0, 0, 0, 0, []),
  (65, .getfield 15, 3, 1, 1, 124, 2, 0, 0, []),
  (68, .iload 4, 2, 4, 0, 0, 0, 0, 0, []),
  (70, .iconst 0, 1, 0, 0, 0, 0, 0, 0, []),
  (71, .iadd, 1, 0, 0, 0, 0, 0, 0, []),
  (72, .iload_n 1, 1, 1, 0, 0, 0, 0, 0, []),
  (73, .iastore, 1, 0, 0, 0, 0, 0, 0, []),
  (74, .aload_n 0, 1, 0, 0, 0, 0, 0, 0, []),
  (75, .getfield 15, 3, 1, 1, 124, 2, 0, 0, []),
  (78, .iload 4, 2, 4, 0, 0, 0, 0, 0, []),
  (80, .iconst 1, 1, 0, 0, 0, 0, 1, 0, []),
  (81, .iadd, 1, 0, 0, 0, 0, 0, 0, []),
  (82, .iload_n 2, 1, 2, 0, 0, 0, 0, 0, []),
  (83, .iastore, 1, 0, 0, 0, 0, 0, 0, []),
  (84, .aload_n 0, 1, 0, 0, 0, 0, 0, 0, []),
  (85, .getfield 15, 3, 1, 1, 124, 2, 0, 0, []),
  (88, .iload 4, 2, 4, 0, 0, 0, 0, 0, []),
  (90, .iconst 2, 1, 0, 0, 0, 0, 2, 0, []),
  (91, .iadd, 1, 0, 0, 0, 0, 0, 0, []),
  (92, .iload_n 3, 1, 3, 0, 0, 0, 0, 0, []),
  (93, .iastore, 1, 0, 0, 0, 0, 0, 0, []),
  (94, .aload_n 0, 1, 0, 0, 0, 0, 0, 0, []),
  (95, .dup, 1, 0, 0, 0, 0, 0, 0, []),
  (96, .getfield 34, 3, 1, 4, 135, 0, 0, 0, []),
  (99, .iconst 1, 1, 0, 0, 0, 0, 1, 0, []),
  (100, .iadd, 1, 0, 0, 0, 0, 0, 0, []),
  (101, .putfield 34, 3, 1, 4, 135, 0, 0, 0, []),
  (104, .aload_n 0, 1, 0, 0, 0, 0, 0, 0, []),
  (105, .getfield 34, 3, 1, 4, 135, 0, 0, 0, []),
  (108, .iconst 1, 1, 0, 0, 0, 0, 1, 0, []),
  (109, .isub, 1, 0, 0, 0, 0, 0, 0, []),
  (110, .ireturn, 1, 0, 0, 0, 0, 0, 0, [])]
def M_X2_removeWire : MI := (yX2_removeWire, cX2_removeWire, 3, (some Jvm.ClassFile.FieldType.int), 1, 1, 26, false, 610, 608, 609, 87)
def k_X2_removeWire : List Ent := [(0, .aload_n 0, 1, 0, 0, 0, 0, 0, 0, []),
  (1, .iload_n 1, 1, 1, 0, 0, 0, 0, 0, []),
  (2, .invokevirtual 81, 3, 26, 1, 611, 1, 0, 0, []),
  (5, .ifCond .ne 5, 3, 10, 0, 0, 0, 0, 0, []),
  (8, .iconst (-1), 1, 0, 0, 0, 0, -1, 0, []),
  (9, .ireturn, 1, 0, 0, 0, 0, 0, 0, []),
  (10, .iload_n 1, 1, 1, 0, 0, 0, 0, 0, []),
  (11, .iconst 3, 1, 0, 0, 0, 0, 3, 0, []),
  (12, .imul, 1, 0, 0, 0, 0, 0, 0, []),
  (13, .istore_n 2, 1, 2, 0, 0, 0, 0, 0, []),
  (14, .aload_n 0, 1, 0, 0, 0, 0, 0, 0, []),
  (15, .getfield 15, 3, 1, 1, 124, 2, 0, 0, []),
  (18, .iload_n 2, 1, 2, 0, 0, 0, 0, 0, []),
  (19, .iconst 3, 1, 0, 0, 0, 0, 3, 0, []),
  (20, .iadd, 1, 0, 0, 0, 0, 0, 0, []),
  (21, .aload_n 0, 1, 0, 0, 0, 0, 0, 0, []),
  (22, .getfield 15, 3, 1, 1, 124, 2, 0, 0, []),
  (25, .iload_n 2, 1, 2, 0, 0, 0, 0, 0, []),
  (26, .aload_n 0, 1, 0, 0, 0, 0, 0, 0, []),
  (27, .getfield 34, 3, 1, 4, 135, 0, 0, 0, []),
  (30, .iconst 3, 1, 0, 0, 0, 0, 3, 0, []),
  (31, .imul, 1, 0, 0, 0, 0, 0, 0, []),
  (32, .iload_n 2, 1, 2, 0, 0, 0, 0, 0, []),
  (33, .isub, 1, 0, 0, 0, 0, 0, 0, []),
  (34, .iconst 3, 1, 0, 0, 0, 0, 3, 0, []),
  (35, .isub, 1, 0, 0, 0, 0, 0, 0, []),
  (36, .invokestatic 24, 3, 0, 0, 120, 9, 0, 0, []),
  (39, .aload_n 0, 1, 0, 0, 0, 0, 0, 0, []),
  (40, .dup, 1, 0, 0, 0, 0, 0, 0, []),
  (41, .getfield 34, 3, 1, 4, 135, 0, 0, 0, []),
  (44, .iconst 1, 1, 0, 0, 0, 0, 1, 0, []),
  (45, .isub, 1, 0, 0, 0, 0, 0, 0, []),
  (46, .putfield 34, 3, 1, 4, 135, 0, 0, 0, []),
  (49, .aload_n 0, 1, 0, 0, 0, 0, 0, 0, []),
  (50, .getfield 34, 3, 1, 4, 135, 0, 0, 0, []),
  (53, .ireturn, 1, 0, 0, 0, 0, 0, 0, [])]
def M_X2_removeLastHole : MI := (yX2_removeLastHole, cX2_removeLastHole, 2, (some Jvm.ClassFile.FieldType.int), 0, 2, 48, false, 631, 629, 630, 87)
def k_X2_removeLastHole : List Ent := [(0, .aload_n 0, 1, 0, 0, 0, 0, 0, 0, []),
  (1, .getfield 30, 3, 1, 3, 130, 0, 0, 0, []),
  (4, .ifCond .ne 6, 3, 10, 0, 0, 0, 0, 0, []),
  (7, .bipush (-3), 2, 0, 0, 0, 0, -3, 0, []),
  (9, .ireturn, 1, 0, 0, 0, 0, 0, 0, []),
  (10, .aload_n 0, 1, 0, 0, 0, 0, 0, 0, []),
  (11, .dup, 1, 0, 0, 0, 0, 0, 0, []),
  (12, .getfield 30, 3, 1, 3, 130, 0, 0, 0, []),
  (15, .iconst 1, 1, 0, 0, 0, 0, 1, 0, []),
  (16, .isub, 1, 0, 0, 0, 0, 0, 0, []),
  (17, .putfield 30, 3, 1, 3, 130, 0, 0, 0, []),
  (20, .iconst 0, 1, 0, 0, 0, 0, 0, 0, []),
  (21, .istore_n 1, 1, 1, 0, 0, 0, 0, 0, []),
  (22, .iload_n 1, 1, 1, 0, 0, 0, 0, 0, []),
  (23, .aload_n 0, 1, 0, 0, 0, 0, 0, 0, []),
  (24, .getfield 30, 3, 1, 3, 130, 0, 0, 0, []),
  (27, .if_icmp .ge 33, 3, 60, 0, 0, 0, 0, 0, []),
  (30, .aload_n 0, 1, 0, 0, 0, 0, 0, 0, []),
  (31, .getfield 9, 3, 1, 0, 123, 2, 0, 0, []),
  (34, .iload_n 1, 1, 1, 0, 0, 0, 0, 0, []),
  (35, .bipush 9, 2, 0, 0, 0, 0, 9, 0, []),
  (37, .imul, 1, 0, 0, 0, 0, 0, 0, []),
  (38, .bipush 8, 2, 0, 0, 0, 0, 8, 0, []),
  (40, .iadd, 1, 0, 0, 0, 0, 0, 0, []),
  (41, .dup2, 1, 0, 0, 0, 0, 0, 0, []),
  (42, .iaload, 1, 0, 0, 0, 0, 0, 0, []),
  (43, .aload_n 0, 1, 0, 0, 0, 0, 0, 0, []),
  (44, .getfield 30, 3, 1, 3, 130, 0, 0, 0, []),
  (47, .invokestatic 67, 3, 140, 1, 5, 1, 0, 0, []),
  (50, .iconst (-1), 1, 0, 0, 0, 0, -1, 0, []),
  (51, .ixor, 1, 0, 0, 0, 0, 0, 0, []),
  (52, .iand, 1, 0, 0, 0, 0, 0, 0, []),
  (53, .iastore, 1, 0, 0, 0, 0, 0, 0, []),
  (54, .iinc 1 1, 3, 1, 0, 0, 0, 1, 0, []),
  (57, .goto (-35), 3, 22, 0, 0, 0, 0, 0, []),
  (60, .aload_n 0, 1, 0, 0, 0, 0, 0, 0, []),
  (61, .getfield 34, 3, 1, 4, 135, 0, 0, 0, []),
  (64, .iconst 1, 1, 0, 0, 0, 0, 1, 0, []),
  (65, .isub, 1, 0, 0, 0, 0, 0, 0, []),
  (66, .istore_n 1, 1, 1, 0, 0, 0, 0, 0, []),
  (67, .iload_n 1, 1, 1, 0, 0, 0, 0, 0, []),
  (68, .ifCond .lt 41, 3, 109, 0, 0, 0, 0, 0, []),
  (71, .aload_n 0, 1, 0, 0, 0, 0, 0, 0, []),
  (72, .iload_n 1, 1, 1, 0, 0, 0, 0, 0, []),
  (73, .iconst 0, 1, 0, 0, 0, 0, 0, 0, []),
  (74, .invokevirtual 84, 3, 28, 2, 632, 1, 0, 0, []),
  (77, .aload_n 0, 1, 0, 0, 0, 0, 0, 0, []),
  (78, .getfield 30, 3, 1, 3, 130, 0, 0, 0, []),
  (81, .if_icmp .eq 16, 3, 97, 0, 0, 0, 0, 0, []),
  (84, .aload_n 0, 1, 0, 0, 0, 0, 0, 0, []),
  (85, .iload_n 1, 1, 1, 0, 0, 0, 0, 0, []),
  (86, .iconst 1, 1, 0, 0, 0, 0, 1, 0, []),
  (87, .invokevirtual 84, 3, 28, 2, 632, 1, 0, 0, []),
  (90, .aload_n 0, 1, 0, 0, 0, 0, 0, 0, []),
  (91, .getfield 30, 3, 1, 3, 130, 0, 0, 0, []),
  (94, .if_icmp .ne 9, 3, 103, 0, 0, 0, 0, 0, []),
  (97, .aload_n 0, 1, 0, 0, 0, 0, 0, 0, []),
  (98, .iload_n 1, 1, 1, 0, 0, 0, 0, 0, []),
  (99, .invokevirtual 87, 3, 34, 1, 633, 1, 0, 0, []),
  (102, .pop, 1, 0, 0, 0, 0, 0, 0, []),
  (103, .iinc 1 (-1), 3, 1, 0, 0, 0, -1, 0, []),
  (106, .goto (-39), 3, 67, 0, 0, 0, 0, 0, []),
  (109, .aload_n 0, 1, 0, 0, 0, 0, 0, 0, []),
  (110, .getfield 30, 3, 1, 3, 130, 0, 0, 0, []),
  (113, .ireturn, 1, 0, 0, 0, 0, 0, 0, [])]
def M_X2_changeRule : MI := (yX2_changeRule, cX2_changeRule, 4, (some Jvm.ClassFile.FieldType.int), 2, 0, 0, false, 619, 617, 618, 87)
def k_X2_changeRule : List Ent := [(0, .iload_n 1, 1, 1, 0, 0, 0, 0, 0, []),
  (1, .ifCond .lt 8, 3, 9, 0, 0, 0, 0, 0, []),
  (4, .iload_n 1, 1, 1, 0, 0, 0, 0, 0, []),
  (5, .iconst 3, 1, 0, 0, 0, 0, 3, 0, []),
  (6, .if_icmp .lt 5, 3, 11, 0, 0, 0, 0, 0, []),
  (9, .iconst (-1), 1, 0, 0, 0, 0, -1, 0, []),
  (10, .ireturn, 1, 0, 0, 0, 0, 0, 0, []),
  (11, .iload_n 2, 1, 2, 0, 0, 0, 0, 0, []),
  (12, .getstatic 90, 3, 4, 1, 3, 0, 0, 0, []),
  (15, .iload_n 1, 1, 1, 0, 0, 0, 0, 0, []),
  (16, .iaload, 1, 0, 0, 0, 0, 0, 0, []),
  (17, .if_icmp .lt 12, 3, 29, 0, 0, 0, 0, 0, []),
  (20, .iload_n 2, 1, 2, 0, 0, 0, 0, 0, []),
  (21, .getstatic 93, 3, 5, 1, 4, 0, 0, 0, []),
  (24, .iload_n 1, 1, 1, 0, 0, 0, 0, 0, []),
  (25, .iaload, 1, 0, 0, 0, 0, 0, 0, []),
  (26, .if_icmp .le 6, 3, 32, 0, 0, 0, 0, 0, []),
  (29, .bipush (-2), 2, 0, 0, 0, 0, -2, 0, []),
  (31, .ireturn, 1, 0, 0, 0, 0, 0, 0, []),
  (32, .aload_n 0, 1, 0, 0, 0, 0, 0, 0, []),
  (33, .getfield 18, 3, 1, 2, 125, 2, 0, 0, []),
  (36, .iload_n 1, 1, 1, 0, 0, 0, 0, 0, []),
  (37, .iaload, 1, 0, 0, 0, 0, 0, 0, []),
  (38, .istore_n 3, 1, 3, 0, 0, 0, 0, 0, []),
  (39, .aload_n 0, 1, 0, 0, 0, 0, 0, 0, []),
  (40, .getfield 18, 3, 1, 2, 125, 2, 0, 0, []),
  (43, .iload_n 1, 1, 1, 0, 0, 0, 0, 0, []),
  (44, .iload_n 2, 1, 2, 0, 0, 0, 0, 0, []),
  (45, .iastore, 1, 0, 0, 0, 0, 0, 0, []),
  (46, .iload_n 3, 1, 3, 0, 0, 0, 0, 0, []),
  (47, .ireturn, 1, 0, 0, 0, 0, 0, 0, [])]
def M_X2_holeAt : MI := (yX2_holeAt, cX2_holeAt, 4, (some Jvm.ClassFile.FieldType.int), 2, 1, 22, false, 396, 394, 395, 87)
def k_X2_holeAt : List Ent := [(0, .iconst 0, 1, 0, 0, 0, 0, 0, 0, []),
  (1, .istore_n 3, 1, 3, 0, 0, 0, 0, 0, []),
  (2, .iload_n 3, 1, 3, 0, 0, 0, 0, 0, []),
  (3, .aload_n 0, 1, 0, 0, 0, 0, 0, 0, []),
  (4, .getfield 30, 3, 1, 3, 130, 0, 0, 0, []),
  (7, .if_icmp .ge 31, 3, 38, 0, 0, 0, 0, 0, []),
  (10, .aload_n 0, 1, 0, 0, 0, 0, 0, 0, []),
  (11, .iload_n 3, 1, 3, 0, 0, 0, 0, 0, []),
  (12, .iconst 0, 1, 0, 0, 0, 0, 0, 0, []),
  (13, .invokevirtual 71, 3, 27, 2, 397, 1, 0, 0, []),
  (16, .iload_n 1, 1, 1, 0, 0, 0, 0, 0, []),
  (17, .if_icmp .ne 15, 3, 32, 0, 0, 0, 0, 0, []),
  (20, .aload_n 0, 1, 0, 0, 0, 0, 0, 0, []),
  (21, .iload_n 3, 1, 3, 0, 0, 0, 0, 0, []),
  (22, .iconst 1, 1, 0, 0, 0, 0, 1, 0, []),
  (23, .invokevirtual 71, 3, 27, 2, 397, 1, 0, 0, []),
  (26, .iload_n 2, 1, 2, 0, 0, 0, 0, 0, []),
  (27, .if_icmp .ne 5, 3, 32, 0, 0, 0, 0, 0, []),
  (30, .iload_n 3, 1, 3, 0, 0, 0, 0, 0, []),
  (31, .ireturn, 1, 0, 0, 0, 0, 0, 0, []),
  (32, .iinc 3 1, 3, 3, 0, 0, 0, 1, 0, []),
  (35, .goto (-33), 3, 2, 0, 0, 0, 0, 0, []),
  (38, .iconst (-1), 1, 0, 0, 0, 0, -1, 0, []),
  (39, .ireturn, 1, 0, 0, 0, 0, 0, 0, [])]
def M_X2_deadBits : MI := (yX2_deadBits, cX2_deadBits, 3, (some Jvm.ClassFile.FieldType.int), 0, 1, 22, false, 518, 516, 517, 87)
def k_X2_deadBits : List Ent := [(0, .iconst 0, 1, 0, 0, 0, 0, 0, 0, []),
  (1, .istore_n 1, 1, 1, 0, 0, 0, 0, 0, []),
  (2, .iconst 0, 1, 0, 0, 0, 0, 0, 0, []),
  (3, .istore_n 2, 1, 2, 0, 0, 0, 0, 0, []),
  (4, .iload_n 2, 1, 2, 0, 0, 0, 0, 0, []),
  (5, .aload_n 0, 1, 0, 0, 0, 0, 0, 0, []),
  (6, .getfield 30, 3, 1, 3, 130, 0, 0, 0, []),
  (9, .if_icmp .ge 26, 3, 35, 0, 0, 0, 0, 0, []),
  (12, .aload_n 0, 1, 0, 0, 0, 0, 0, 0, []),
  (13, .iload_n 2, 1, 2, 0, 0, 0, 0, 0, []),
  (14, .bipush 6, 2, 0, 0, 0, 0, 6, 0, []),
  (16, .invokevirtual 71, 3, 27, 2, 397, 1, 0, 0, []),
  (19, .ifCond .eq 10, 3, 29, 0, 0, 0, 0, 0, []),
  (22, .iload_n 1, 1, 1, 0, 0, 0, 0, 0, []),
  (23, .iload_n 2, 1, 2, 0, 0, 0, 0, 0, []),
  (24, .invokestatic 67, 3, 140, 1, 5, 1, 0, 0, []),
  (27, .ior, 1, 0, 0, 0, 0, 0, 0, []),
  (28, .istore_n 1, 1, 1, 0, 0, 0, 0, 0, []),
  (29, .iinc 2 1, 3, 2, 0, 0, 0, 1, 0, []),
  (32, .goto (-28), 3, 4, 0, 0, 0, 0, 0, []),
  (35, .iload_n 1, 1, 1, 0, 0, 0, 0, 0, []),
  (36, .ireturn, 1, 0, 0, 0, 0, 0, 0, [])]
def M_X2_areNear : MI := (yX2_areNear, cX2_areNear, 3, (some Jvm.ClassFile.FieldType.boolean), 2, 2, 44, false, 602, 600, 601, 87)
def k_X2_areNear : List Ent := [(0, .aload_n 0, 1, 0, 0, 0, 0, 0, 0, []),
  (1, .iload_n 1, 1, 1, 0, 0, 0, 0, 0, []),
  (2, .iconst 0, 1, 0, 0, 0, 0, 0, 0, []),
  (3, .invokevirtual 71, 3, 27, 2, 397, 1, 0, 0, []),
  (6, .aload_n 0, 1, 0, 0, 0, 0, 0, 0, []),
  (7, .iload_n 2, 1, 2, 0, 0, 0, 0, 0, []),
  (8, .iconst 0, 1, 0, 0, 0, 0, 0, 0, []),
  (9, .invokevirtual 71, 3, 27, 2, 397, 1, 0, 0, []),
  (12, .isub, 1, 0, 0, 0, 0, 0, 0, []),
  (13, .invokestatic 96, 3, 0, 0, 421, 12, 0, 0, []),
  (16, .iconst 1, 1, 0, 0, 0, 0, 1, 0, []),
  (17, .if_icmp .gt 17, 3, 34, 0, 0, 0, 0, 0, []),
  (20, .aload_n 0, 1, 0, 0, 0, 0, 0, 0, []),
  (21, .iload_n 1, 1, 1, 0, 0, 0, 0, 0, []),
  (22, .iload_n 2, 1, 2, 0, 0, 0, 0, 0, []),
  (23, .invokevirtual 74, 3, 40, 2, 417, 1, 0, 0, []),
  (26, .iconst 1, 1, 0, 0, 0, 0, 1, 0, []),
  (27, .if_icmp .gt 7, 3, 34, 0, 0, 0, 0, 0, []),
  (30, .iconst 1, 1, 0, 0, 0, 0, 1, 0, []),
  (31, .goto 4, 3, 35, 0, 0, 0, 0, 0, []),
  (34, .iconst 0, 1, 0, 0, 0, 0, 0, 0, []),
  (35, .ireturn, 1, 1, 0, 0, 0, 0, 0, [])]
def M_X2_columnsOff : MI := (yX2_columnsOff, cX2_columnsOff, 3, (some Jvm.ClassFile.FieldType.int), 2, 1, 22, false, 420, 419, 2, 87)
def k_X2_columnsOff : List Ent := [(0, .aload_n 0, 1, 0, 0, 0, 0, 0, 0, []),
  (1, .iload_n 1, 1, 1, 0, 0, 0, 0, 0, []),
  (2, .iconst 1, 1, 0, 0, 0, 0, 1, 0, []),
  (3, .invokevirtual 71, 3, 27, 2, 397, 1, 0, 0, []),
  (6, .aload_n 0, 1, 0, 0, 0, 0, 0, 0, []),
  (7, .iload_n 2, 1, 2, 0, 0, 0, 0, 0, []),
  (8, .iconst 1, 1, 0, 0, 0, 0, 1, 0, []),
  (9, .invokevirtual 71, 3, 27, 2, 397, 1, 0, 0, []),
  (12, .isub, 1, 0, 0, 0, 0, 0, 0, []),
  (13, .invokestatic 96, 3, 0, 0, 421, 12, 0, 0, []),
  (16, .ireturn, 1, 0, 0, 0, 0, 0, 0, [])]
def M_X2_firstLoadOf : MI := (yX2_firstLoadOf, cX2_firstLoadOf, 2, (some Jvm.ClassFile.FieldType.int), 1, 1, 22, false, 451, 449, 450, 87)
def k_X2_firstLoadOf : List Ent := [(0, .aload_n 0, 1, 0, 0, 0, 0, 0, 0, []),
  (1, .iload_n 1, 1, 1, 0, 0, 0, 0, 0, []),
  (2, .iconst 2, 1, 0, 0, 0, 0, 2, 0, []),
  (3, .invokevirtual 71, 3, 27, 2, 397, 1, 0, 0, []),
  (6, .aload_n 0, 1, 0, 0, 0, 0, 0, 0, []),
  (7, .iload_n 1, 1, 1, 0, 0, 0, 0, 0, []),
  (8, .iconst 3, 1, 0, 0, 0, 0, 3, 0, []),
  (9, .invokevirtual 71, 3, 27, 2, 397, 1, 0, 0, []),
  (12, .invokestatic 101, 3, 17, 2, 452, 0, 0, 0, []),
  (15, .ireturn, 1, 0, 0, 0, 0, 0, 0, [])]
def M_X2_secondLoadOf : MI := (yX2_secondLoadOf, cX2_secondLoadOf, 2, (some Jvm.ClassFile.FieldType.int), 1, 1, 22, false, 458, 456, 457, 87)
def k_X2_secondLoadOf : List Ent := [(0, .aload_n 0, 1, 0, 0, 0, 0, 0, 0, []),
  (1, .iload_n 1, 1, 1, 0, 0, 0, 0, 0, []),
  (2, .iconst 2, 1, 0, 0, 0, 0, 2, 0, []),
  (3, .invokevirtual 71, 3, 27, 2, 397, 1, 0, 0, []),
  (6, .aload_n 0, 1, 0, 0, 0, 0, 0, 0, []),
  (7, .iload_n 1, 1, 1, 0, 0, 0, 0, 0, []),
  (8, .iconst 3, 1, 0, 0, 0, 0, 3, 0, []),
  (9, .invokevirtual 71, 3, 27, 2, 397, 1, 0, 0, []),
  (12, .invokestatic 104, 3, 18, 2, 459, 0, 0, 0, []),
  (15, .ireturn, 1, 0, 0, 0, 0, 0, 0, [])]
def M_X2_loadsOf : MI := (yX2_loadsOf, cX2_loadsOf, 2, (some Jvm.ClassFile.FieldType.int), 1, 2, 43, false, 447, 445, 446, 87)
def k_X2_loadsOf : List Ent := [(0, .aload_n 0, 1, 0, 0, 0, 0, 0, 0, []),
  (1, .iload_n 1, 1, 1, 0, 0, 0, 0, 0, []),
  (2, .invokevirtual 107, 3, 41, 1, 448, 1, 0, 0, []),
  (5, .aload_n 0, 1, 0, 0, 0, 0, 0, 0, []),
  (6, .iload_n 1, 1, 1, 0, 0, 0, 0, 0, []),
  (7, .invokevirtual 110, 3, 42, 1, 455, 1, 0, 0, []),
  (10, .iadd, 1, 0, 0, 0, 0, 0, 0, []),
  (11, .ireturn, 1, 0, 0, 0, 0, 0, 0, [])]
def M_X2_hasShots : MI := (yX2_hasShots, cX2_hasShots, 2, (some Jvm.ClassFile.FieldType.boolean), 1, 1, 22, false, 545, 543, 544, 87)
def k_X2_hasShots : List Ent := [(0, .aload_n 0, 1, 0, 0, 0, 0, 0, 0, []),
  (1, .iload_n 1, 1, 1, 0, 0, 0, 0, 0, []),
  (2, .iconst 2, 1, 0, 0, 0, 0, 2, 0, []),
  (3, .invokevirtual 71, 3, 27, 2, 397, 1, 0, 0, []),
  (6, .iconst 5, 1, 0, 0, 0, 0, 5, 0, []),
  (7, .if_icmp .eq 7, 3, 14, 0, 0, 0, 0, 0, []),
  (10, .iconst 1, 1, 0, 0, 0, 0, 1, 0, []),
  (11, .goto 4, 3, 15, 0, 0, 0, 0, 0, []),
  (14, .iconst 0, 1, 0, 0, 0, 0, 0, 0, []),
  (15, .ireturn, 1, 1, 0, 0, 0, 0, 0, [])]
def M_X2_rockOf : MI := (yX2_rockOf, cX2_rockOf, 2, (some Jvm.ClassFile.FieldType.int), 1, 2, 44, false, 465, 463, 464, 87)
def k_X2_rockOf : List Ent := [(0, .aload_n 0, 1, 0, 0, 0, 0, 0, 0, []),
  (1, .iload_n 1, 1, 1, 0, 0, 0, 0, 0, []),
  (2, .iconst 2, 1, 0, 0, 0, 0, 2, 0, []),
  (3, .invokevirtual 71, 3, 27, 2, 397, 1, 0, 0, []),
  (6, .aload_n 0, 1, 0, 0, 0, 0, 0, 0, []),
  (7, .iload_n 1, 1, 1, 0, 0, 0, 0, 0, []),
  (8, .iconst 4, 1, 0, 0, 0, 0, 4, 0, []),
  (9, .invokevirtual 71, 3, 27, 2, 397, 1, 0, 0, []),
  (12, .invokestatic 113, 3, 19, 2, 466, 0, 0, 0, []),
  (15, .ireturn, 1, 0, 0, 0, 0, 0, 0, [])]
def M_X2_needsOf : MI := (yX2_needsOf, cX2_needsOf, 2, (some Jvm.ClassFile.FieldType.int), 1, 1, 22, false, 472, 470, 471, 87)
def k_X2_needsOf : List Ent := [(0, .aload_n 0, 1, 0, 0, 0, 0, 0, 0, []),
  (1, .iload_n 1, 1, 1, 0, 0, 0, 0, 0, []),
  (2, .iconst 2, 1, 0, 0, 0, 0, 2, 0, []),
  (3, .invokevirtual 71, 3, 27, 2, 397, 1, 0, 0, []),
  (6, .aload_n 0, 1, 0, 0, 0, 0, 0, 0, []),
  (7, .iload_n 1, 1, 1, 0, 0, 0, 0, 0, []),
  (8, .iconst 4, 1, 0, 0, 0, 0, 4, 0, []),
  (9, .invokevirtual 71, 3, 27, 2, 397, 1, 0, 0, []),
  (12, .invokestatic 116, 3, 20, 2, 473, 0, 0, 0, []),
  (15, .ireturn, 1, 0, 0, 0, 0, 0, 0, [])]
def M_X2_reliefOf : MI := (yX2_reliefOf, cX2_reliefOf, 7, (some Jvm.ClassFile.FieldType.int), 3, 1, 22, false, 559, 557, 558, 87)
def k_X2_reliefOf : List Ent := [(0, .aload_n 0, 1, 0, 0, 0, 0, 0, 0, []),
  (1, .iload_n 1, 1, 1, 0, 0, 0, 0, 0, []),
  (2, .iconst 0, 1, 0, 0, 0, 0, 0, 0, []),
  (3, .invokevirtual 71, 3, 27, 2, 397, 1, 0, 0, []),
  (6, .ifCond .ne 5, 3, 11, 0, 0, 0, 0, 0, []),
  (9, .iconst 0, 1, 0, 0, 0, 0, 0, 0, []),
  (10, .ireturn, 1, 0, 0, 0, 0, 0, 0, []),
  (11, .aload_n 0, 1, 0, 0, 0, 0, 0, 0, []),
  (12, .iload_n 1, 1, 1, 0, 0, 0, 0, 0, []),
  (13, .bipush 8, 2, 0, 0, 0, 0, 8, 0, []),
  (15, .invokevirtual 71, 3, 27, 2, 397, 1, 0, 0, []),
  (18, .istore 4, 2, 4, 0, 0, 0, 0, 0, []),
  (20, .iload 4, 2, 4, 0, 0, 0, 0, 0, []),
  (22, .ifCond .eq 12, 3, 34, 0, 0, 0, 0, 0, []),
  (25, .iload 4, 2, 4, 0, 0, 0, 0, 0, []),
  (27, .iload_n 2, 1, 2, 0, 0, 0, 0, 0, []),
  (28, .iconst (-1), 1, 0, 0, 0, 0, -1, 0, []),
  (29, .ixor, 1, 0, 0, 0, 0, 0, 0, []),
  (30, .iand, 1, 0, 0, 0, 0, 0, 0, []),
  (31, .ifCond .eq 5, 3, 36, 0, 0, 0, 0, 0, []),
  (34, .iconst (-1), 1, 0, 0, 0, 0, -1, 0, []),
  (35, .ireturn, 1, 0, 0, 0, 0, 0, 0, []),
  (36, .iconst 0, 1, 0, 0, 0, 0, 0, 0, []),
  (37, .istore 5, 2, 5, 0, 0, 0, 0, 0, []),
  (39, .iconst 0, 1, 0, 0, 0, 0, 0, 0, []),
  (40, .istore 6, 2, 6, 0, 0, 0, 0, 0, []),
  (42, .iload 6, 2, 6, 0, 0, 0, 0, 0, []),
  (44, .aload_n 0, 1, 0, 0, 0, 0, 0, 0, []),
  (45, .getfield 30, 3, 1, 3, 130, 0, 0, 0, []),
  (48, .if_icmp .ge 30, 3, 78, 0, 0, 0, 0, 0, []),
  (51, .iload 4, 2, 4, 0, 0, 0, 0, 0, []),
  (53, .iload 6, 2, 6, 0, 0, 0, 0, 0, []),
  (55, .invokestatic 119, 3, 141, 2, 8, 1, 0, 0, []),
  (58, .ifCond .eq 14, 3, 72, 0, 0, 0, 0, 0, []),
  (61, .iload 5, 2, 5, 0, 0, 0, 0, 0, []),
  (63, .aload_n 3, 1, 3, 0, 0, 0, 0, 0, []),
  (64, .iload 6, 2, 6, 0, 0, 0, 0, 0, []),
  (66, .iaload, 1, 0, 0, 0, 0, 0, 0, []),
  (67, .invokestatic 122, 3, 0, 0, 561, 10, 0, 0, []),
  (70, .istore 5, 2, 5, 0, 0, 0, 0, 0, []),
  (72, .iinc 6 1, 3, 6, 0, 0, 0, 1, 0, []),
  (75, .goto (-33), 3, 42, 0, 0, 0, 0, 0, []),
  (78, .iload 5, 2, 5, 0, 0, 0, 0, 0, []),
  (80, .aload_n 0, 1, 0, 0, 0, 0, 0, 0, []),
  (81, .iload_n 1, 1, 1, 0, 0, 0, 0, 0, []),
  (82, .iconst 2, 1, 0, 0, 0, 0, 2, 0, []),
  (83, .invokevirtual 71, 3, 27, 2, 397, 1, 0, 0, []),
  (86, .aload_n 0, 1, 0, 0, 0, 0, 0, 0, []),
  (87, .iload_n 1, 1, 1, 0, 0, 0, 0, 0, []),
  (88, .iconst 4, 1, 0, 0, 0, 0, 4, 0, []),
  (89, .invokevirtual 71, 3, 27, 2, 397, 1, 0, 0, []),
  (92, .invokestatic 116, 3, 20, 2, 473, 0, 0, 0, []),
  (95, .iadd, 1, 0, 0, 0, 0, 0, 0, []),
  (96, .ireturn, 1, 0, 0, 0, 0, 0, 0, [])]
def M_X3_draw : MI := (yX3_draw, cX3_draw, 4, (none), 0, 4, 98, false, 759, 757, 758, 91)
def k_X3_draw : List Ent := [(0, .aload_n 0, 1, 0, 0, 0, 0, 0, 0, []),
  (1, .getfield 9, 3, 2, 2, 237, 2, 0, 0, []),
  (4, .iconst (-1), 1, 0, 0, 0, 0, -1, 0, []),
  (5, .invokestatic 33, 3, 243, 2, 760, 0, 0, 0, []),
  (8, .aload_n 0, 1, 0, 0, 0, 0, 0, 0, []),
  (9, .getfield 15, 3, 2, 3, 239, 2, 0, 0, []),
  (12, .iconst (-1), 1, 0, 0, 0, 0, -1, 0, []),
  (13, .invokestatic 33, 3, 243, 2, 760, 0, 0, 0, []),
  (16, .aload_n 0, 1, 0, 0, 0, 0, 0, 0, []),
  (17, .iconst 0, 1, 0, 0, 0, 0, 0, 0, []),
  (18, .putfield 39, 3, 2, 5, 242, 0, 0, 0, []),
  (21, .aload_n 0, 1, 0, 0, 0, 0, 0, 0, []),
  (22, .getfield 21, 3, 2, 4, 240, 2, 0, 0, []),
  (25, .invokevirtual 43, 3, 82, 0, 761, 6, 0, 0, []),
  (28, .iconst 0, 1, 0, 0, 0, 0, 0, 0, []),
  (29, .istore_n 1, 1, 1, 0, 0, 0, 0, 0, []),
  (30, .iload_n 1, 1, 1, 0, 0, 0, 0, 0, []),
  (31, .getstatic 46, 3, 2, 1, 5, 0, 0, 0, []),
  (34, .iconst 0, 1, 0, 0, 0, 0, 0, 0, []),
  (35, .iaload, 1, 0, 0, 0, 0, 0, 0, []),
  (36, .if_icmp .gt 57, 3, 93, 0, 0, 0, 0, 0, []),
  (39, .iconst 0, 1, 0, 0, 0, 0, 0, 0, []),
  (40, .istore_n 2, 1, 2, 0, 0, 0, 0, 0, []),
  (41, .iload_n 2, 1, 2, 0, 0, 0, 0, 0, []),
  (42, .getstatic 46, 3, 2, 1, 5, 0, 0, 0, []),
  (45, .iconst 1, 1, 0, 0, 0, 0, 1, 0, []),
  (46, .iaload, 1, 0, 0, 0, 0, 0, 0, []),
  (47, .if_icmp .gt 40, 3, 87, 0, 0, 0, 0, 0, []),
  (50, .aload_n 0, 1, 0, 0, 0, 0, 0, 0, []),
  (51, .getfield 25, 3, 2, 0, 235, 2, 0, 0, []),
  (54, .iload_n 1, 1, 1, 0, 0, 0, 0, 0, []),
  (55, .iload_n 2, 1, 2, 0, 0, 0, 0, 0, []),
  (56, .invokevirtual 49, 3, 37, 2, 763, 1, 0, 0, []),
  (59, .istore_n 3, 1, 3, 0, 0, 0, 0, 0, []),
  (60, .iload_n 3, 1, 3, 0, 0, 0, 0, 0, []),
  (61, .iconst (-1), 1, 0, 0, 0, 0, -1, 0, []),
  (62, .if_icmp .eq 19, 3, 81, 0, 0, 0, 0, 0, []),
  (65, .aload_n 0, 1, 0, 0, 0, 0, 0, 0, []),
  (66, .getfield 29, 3, 2, 1, 236, 2, 0, 0, []),
  (69, .iload_n 3, 1, 3, 0, 0, 0, 0, 0, []),
  (70, .invokevirtual 55, 3, 6, 1, 764, 0, 0, 0, []),
  (73, .ifCond .eq 8, 3, 81, 0, 0, 0, 0, 0, []),
  (76, .aload_n 0, 1, 0, 0, 0, 0, 0, 0, []),
  (77, .iload_n 3, 1, 3, 0, 0, 0, 0, 0, []),
  (78, .invokevirtual 61, 3, 49, 1, 765, 2, 0, 0, []),
  (81, .iinc 2 1, 3, 2, 0, 0, 0, 1, 0, []),
  (84, .goto (-43), 3, 41, 0, 0, 0, 0, 0, []),
  (87, .iinc 1 1, 3, 1, 0, 0, 0, 1, 0, []),
  (90, .goto (-60), 3, 30, 0, 0, 0, 0, 0, []),
  (93, .aload_n 0, 1, 0, 0, 0, 0, 0, 0, []),
  (94, .getfield 21, 3, 2, 4, 240, 2, 0, 0, []),
  (97, .aload_n 0, 1, 0, 0, 0, 0, 0, 0, []),
  (98, .getfield 25, 3, 2, 0, 235, 2, 0, 0, []),
  (101, .getfield 65, 3, 1, 2, 126, 2, 0, 0, []),
  (104, .iconst 0, 1, 0, 0, 0, 0, 0, 0, []),
  (105, .iaload, 1, 0, 0, 0, 0, 0, 0, []),
  (106, .aload_n 0, 1, 0, 0, 0, 0, 0, 0, []),
  (107, .getfield 25, 3, 2, 0, 235, 2, 0, 0, []),
  (110, .getfield 65, 3, 1, 2, 126, 2, 0, 0, []),
  (113, .iconst 1, 1, 0, 0, 0, 0, 1, 0, []),
  (114, .iaload, 1, 0, 0, 0, 0, 0, 0, []),
  (115, .invokevirtual 68, 3, 86, 2, 784, 6, 0, 0, []),
  (118, .return_, 1, 0, 0, 0, 0, 0, 0, [])]
def M_X3_settle : MI := (yX3_settle, cX3_settle, 6, (none), 1, 3, 73, false, 768, 767, 18, 91)
def k_X3_settle : List Ent := [(0, .aload_n 0, 1, 0, 0, 0, 0, 0, 0, []),
  (1, .getfield 25, 3, 2, 0, 235, 2, 0, 0, []),
  (4, .iload_n 1, 1, 1, 0, 0, 0, 0, 0, []),
  (5, .aload_n 0, 1, 0, 0, 0, 0, 0, 0, []),
  (6, .getfield 39, 3, 2, 5, 242, 0, 0, 0, []),
  (9, .aload_n 0, 1, 0, 0, 0, 0, 0, 0, []),
  (10, .getfield 15, 3, 2, 3, 239, 2, 0, 0, []),
  (13, .invokevirtual 72, 3, 47, 3, 769, 1, 0, 0, []),
  (16, .istore_n 2, 1, 2, 0, 0, 0, 0, 0, []),
  (17, .iload_n 2, 1, 2, 0, 0, 0, 0, 0, []),
  (18, .iconst (-1), 1, 0, 0, 0, 0, -1, 0, []),
  (19, .if_icmp .ne 4, 3, 23, 0, 0, 0, 0, 0, []),
  (22, .return_, 1, 0, 0, 0, 0, 0, 0, []),
  (23, .aload_n 0, 1, 0, 0, 0, 0, 0, 0, []),
  (24, .aload_n 0, 1, 0, 0, 0, 0, 0, 0, []),
  (25, .getfield 25, 3, 2, 0, 235, 2, 0, 0, []),
  (28, .iload_n 1, 1, 1, 0, 0, 0, 0, 0, []),
  (29, .invokevirtual 76, 3, 41, 1, 770, 1, 0, 0, []),
  (32, .putfield 80, 3, 2, 6, 244, 0, 0, 0, []),
  (35, .aload_n 0, 1, 0, 0, 0, 0, 0, 0, []),
  (36, .aload_n 0, 1, 0, 0, 0, 0, 0, 0, []),
  (37, .getfield 25, 3, 2, 0, 235, 2, 0, 0, []),
  (40, .iload_n 1, 1, 1, 0, 0, 0, 0, 0, []),
  (41, .invokevirtual 83, 3, 42, 1, 771, 1, 0, 0, []),
  (44, .putfield 86, 3, 2, 7, 245, 0, 0, 0, []),
  (47, .aload_n 0, 1, 0, 0, 0, 0, 0, 0, []),
  (48, .getfield 25, 3, 2, 0, 235, 2, 0, 0, []),
  (51, .getfield 65, 3, 1, 2, 126, 2, 0, 0, []),
  (54, .iconst 2, 1, 0, 0, 0, 0, 2, 0, []),
  (55, .iaload, 1, 0, 0, 0, 0, 0, 0, []),
  (56, .iconst 1, 1, 0, 0, 0, 0, 1, 0, []),
  (57, .invokestatic 89, 3, 0, 0, 772, 10, 0, 0, []),
  (60, .istore_n 3, 1, 3, 0, 0, 0, 0, 0, []),
  (61, .iconst 0, 1, 0, 0, 0, 0, 0, 0, []),
  (62, .istore 4, 2, 4, 0, 0, 0, 0, 0, []),
  (64, .iload 4, 2, 4, 0, 0, 0, 0, 0, []),
  (66, .sipush 999, 3, 0, 0, 0, 0, 999, 0, []),
  (69, .if_icmp .gt 85, 3, 154, 0, 0, 0, 0, 0, []),
  (72, .aload_n 0, 1, 0, 0, 0, 0, 0, 0, []),
  (73, .getfield 29, 3, 2, 1, 236, 2, 0, 0, []),
  (76, .getfield 94, 3, 0, 1, 201, 2, 0, 0, []),
  (79, .iload_n 1, 1, 1, 0, 0, 0, 0, 0, []),
  (80, .iaload, 1, 0, 0, 0, 0, 0, 0, []),
  (81, .iload 4, 2, 4, 0, 0, 0, 0, 0, []),
  (83, .iadd, 1, 0, 0, 0, 0, 0, 0, []),
  (84, .istore 5, 2, 5, 0, 0, 0, 0, 0, []),
  (86, .iload 5, 2, 5, 0, 0, 0, 0, 0, []),
  (88, .iload_n 2, 1, 2, 0, 0, 0, 0, 0, []),
  (89, .if_icmp .lt 56, 3, 145, 0, 0, 0, 0, 0, []),
  (92, .aload_n 0, 1, 0, 0, 0, 0, 0, 0, []),
  (93, .iload 5, 2, 5, 0, 0, 0, 0, 0, []),
  (95, .invokevirtual 97, 3, 50, 1, 773, 2, 0, 0, []),
  (98, .ifCond .eq 47, 3, 145, 0, 0, 0, 0, 0, []),
  (101, .aload_n 0, 1, 0, 0, 0, 0, 0, 0, []),
  (102, .getfield 9, 3, 2, 2, 237, 2, 0, 0, []),
  (105, .iload_n 1, 1, 1, 0, 0, 0, 0, 0, []),
  (106, .iload 4, 2, 4, 0, 0, 0, 0, 0, []),
  (108, .iastore, 1, 0, 0, 0, 0, 0, 0, []),
  (109, .aload_n 0, 1, 0, 0, 0, 0, 0, 0, []),
  (110, .getfield 15, 3, 2, 3, 239, 2, 0, 0, []),
  (113, .iload_n 1, 1, 1, 0, 0, 0, 0, 0, []),
  (114, .iload 5, 2, 5, 0, 0, 0, 0, 0, []),
  (116, .iastore, 1, 0, 0, 0, 0, 0, 0, []),
  (117, .aload_n 0, 1, 0, 0, 0, 0, 0, 0, []),
  (118, .dup, 1, 0, 0, 0, 0, 0, 0, []),
  (119, .getfield 39, 3, 2, 5, 242, 0, 0, 0, []),
  (122, .iload_n 1, 1, 1, 0, 0, 0, 0, 0, []),
  (123, .invokestatic 100, 3, 140, 1, 9, 1, 0, 0, []),
  (126, .ior, 1, 0, 0, 0, 0, 0, 0, []),
  (127, .putfield 39, 3, 2, 5, 242, 0, 0, 0, []),
  (130, .aload_n 0, 1, 0, 0, 0, 0, 0, 0, []),
  (131, .getfield 21, 3, 2, 4, 240, 2, 0, 0, []),
  (134, .aload_n 0, 1, 0, 0, 0, 0, 0, 0, []),
  (135, .getfield 25, 3, 2, 0, 235, 2, 0, 0, []),
  (138, .iload_n 1, 1, 1, 0, 0, 0, 0, 0, []),
  (139, .iload 5, 2, 5, 0, 0, 0, 0, 0, []),
  (141, .invokevirtual 103, 3, 83, 3, 783, 6, 0, 0, []),
  (144, .return_, 1, 0, 0, 0, 0, 0, 0, []),
  (145, .iload 4, 2, 4, 0, 0, 0, 0, 0, []),
  (147, .iload_n 3, 1, 3, 0, 0, 0, 0, 0, []),
  (148, .iadd, 1, 0, 0, 0, 0, 0, 0, []),
  (149, .istore 4, 2, 4, 0, 0, 0, 0, 0, []),
  (151, .goto (-87), 3, 64, 0, 0, 0, 0, 0, []),
  (154, .return_, 1, 0, 0, 0, 0, 0, 0, [])]
def M_X3_isQuiet : MI := (yX3_isQuiet, cX3_isQuiet, 6, (some Jvm.ClassFile.FieldType.boolean), 1, 2, 48, false, 776, 775, 19, 91)
def k_X3_isQuiet : List Ent := [(0, .aload_n 0, 1, 0, 0, 0, 0, 0, 0, []),
  (1, .getfield 25, 3, 2, 0, 235, 2, 0, 0, []),
  (4, .getfield 65, 3, 1, 2, 126, 2, 0, 0, []),
  (7, .iconst 1, 1, 0, 0, 0, 0, 1, 0, []),
  (8, .iaload, 1, 0, 0, 0, 0, 0, 0, []),
  (9, .istore_n 2, 1, 2, 0, 0, 0, 0, 0, []),
  (10, .iload_n 1, 1, 1, 0, 0, 0, 0, 0, []),
  (11, .bipush 17, 2, 0, 0, 0, 0, 17, 0, []),
  (13, .iadd, 1, 0, 0, 0, 0, 0, 0, []),
  (14, .istore_n 3, 1, 3, 0, 0, 0, 0, 0, []),
  (15, .aload_n 0, 1, 0, 0, 0, 0, 0, 0, []),
  (16, .iload_n 1, 1, 1, 0, 0, 0, 0, 0, []),
  (17, .iload_n 1, 1, 1, 0, 0, 0, 0, 0, []),
  (18, .invokevirtual 107, 3, 51, 2, 777, 2, 0, 0, []),
  (21, .iload_n 2, 1, 2, 0, 0, 0, 0, 0, []),
  (22, .if_icmp .le 5, 3, 27, 0, 0, 0, 0, 0, []),
  (25, .iconst 0, 1, 0, 0, 0, 0, 0, 0, []),
  (26, .ireturn, 1, 1, 0, 0, 0, 0, 0, []),
  (27, .aload_n 0, 1, 0, 0, 0, 0, 0, 0, []),
  (28, .getfield 86, 3, 2, 7, 245, 0, 0, 0, []),
  (31, .ifCond .le 15, 3, 46, 0, 0, 0, 0, 0, []),
  (34, .aload_n 0, 1, 0, 0, 0, 0, 0, 0, []),
  (35, .iload_n 1, 1, 1, 0, 0, 0, 0, 0, []),
  (36, .iload_n 3, 1, 3, 0, 0, 0, 0, 0, []),
  (37, .invokevirtual 107, 3, 51, 2, 777, 2, 0, 0, []),
  (40, .iload_n 2, 1, 2, 0, 0, 0, 0, 0, []),
  (41, .if_icmp .le 5, 3, 46, 0, 0, 0, 0, 0, []),
  (44, .iconst 0, 1, 0, 0, 0, 0, 0, 0, []),
  (45, .ireturn, 1, 1, 0, 0, 0, 0, 0, []),
  (46, .iconst 0, 1, 0, 0, 0, 0, 0, 0, []),
  (47, .istore 4, 2, 4, 0, 0, 0, 0, 0, []),
  (49, .iload 4, 2, 4, 0, 0, 0, 0, 0, []),
  (51, .aload_n 0, 1, 0, 0, 0, 0, 0, 0, []),
  (52, .getfield 21, 3, 2, 4, 240, 2, 0, 0, []),
  (55, .getfield 110, 3, 6, 3, 175, 0, 0, 0, []),
  (58, .if_icmp .ge 64, 3, 122, 0, 0, 0, 0, 0, []),
  (61, .aload_n 0, 1, 0, 0, 0, 0, 0, 0, []),
  (62, .getfield 21, 3, 2, 4, 240, 2, 0, 0, []),
  (65, .getfield 113, 3, 6, 0, 167, 2, 0, 0, []),
  (68, .iload 4, 2, 4, 0, 0, 0, 0, 0, []),
  (70, .iaload, 1, 0, 0, 0, 0, 0, 0, []),
  (71, .iload_n 3, 1, 3, 0, 0, 0, 0, 0, []),
  (72, .if_icmp .gt 50, 3, 122, 0, 0, 0, 0, 0, []),
  (75, .aload_n 0, 1, 0, 0, 0, 0, 0, 0, []),
  (76, .getfield 21, 3, 2, 4, 240, 2, 0, 0, []),
  (79, .getfield 113, 3, 6, 0, 167, 2, 0, 0, []),
  (82, .iload 4, 2, 4, 0, 0, 0, 0, 0, []),
  (84, .iaload, 1, 0, 0, 0, 0, 0, 0, []),
  (85, .istore 5, 2, 5, 0, 0, 0, 0, 0, []),
  (87, .iload 5, 2, 5, 0, 0, 0, 0, 0, []),
  (89, .iload_n 1, 1, 1, 0, 0, 0, 0, 0, []),
  (90, .aload_n 0, 1, 0, 0, 0, 0, 0, 0, []),
  (91, .getfield 25, 3, 2, 0, 235, 2, 0, 0, []),
  (94, .getfield 65, 3, 1, 2, 126, 2, 0, 0, []),
  (97, .iconst 0, 1, 0, 0, 0, 0, 0, 0, []),
  (98, .iaload, 1, 0, 0, 0, 0, 0, 0, []),
  (99, .isub, 1, 0, 0, 0, 0, 0, 0, []),
  (100, .if_icmp .le 16, 3, 116, 0, 0, 0, 0, 0, []),
  (103, .aload_n 0, 1, 0, 0, 0, 0, 0, 0, []),
  (104, .iload_n 1, 1, 1, 0, 0, 0, 0, 0, []),
  (105, .iload 5, 2, 5, 0, 0, 0, 0, 0, []),
  (107, .invokevirtual 107, 3, 51, 2, 777, 2, 0, 0, []),
  (110, .iload_n 2, 1, 2, 0, 0, 0, 0, 0, []),
  (111, .if_icmp .le 5, 3, 116, 0, 0, 0, 0, 0, []),
  (114, .iconst 0, 1, 0, 0, 0, 0, 0, 0, []),
  (115, .ireturn, 1, 1, 0, 0, 0, 0, 0, []),
  (116, .iinc 4 1, 3, 4, 0, 0, 0, 1, 0, []),
  (119, .goto (-70), 3, 49, 0, 0, 0, 0, 0, []),
  (122, .iconst 1, 1, 0, 0, 0, 0, 1, 0, []),
  (123, .ireturn, 1, 1, 0, 0, 0, 0, 0, [])]
def M_X3_shakeWith : MI := (yX3_shakeWith, cX3_shakeWith, 5, (some Jvm.ClassFile.FieldType.int), 2, 1, 24, false, 780, 779, 20, 91)
def k_X3_shakeWith : List Ent := [(0, .iload_n 2, 1, 2, 0, 0, 0, 0, 0, []),
  (1, .aload_n 0, 1, 0, 0, 0, 0, 0, 0, []),
  (2, .getfield 25, 3, 2, 0, 235, 2, 0, 0, []),
  (5, .getfield 65, 3, 1, 2, 126, 2, 0, 0, []),
  (8, .iconst 0, 1, 0, 0, 0, 0, 0, 0, []),
  (9, .iaload, 1, 0, 0, 0, 0, 0, 0, []),
  (10, .iadd, 1, 0, 0, 0, 0, 0, 0, []),
  (11, .istore_n 3, 1, 3, 0, 0, 0, 0, 0, []),
  (12, .aload_n 0, 1, 0, 0, 0, 0, 0, 0, []),
  (13, .getfield 21, 3, 2, 4, 240, 2, 0, 0, []),
  (16, .iload_n 2, 1, 2, 0, 0, 0, 0, 0, []),
  (17, .aload_n 0, 1, 0, 0, 0, 0, 0, 0, []),
  (18, .getfield 25, 3, 2, 0, 235, 2, 0, 0, []),
  (21, .getfield 65, 3, 1, 2, 126, 2, 0, 0, []),
  (24, .iconst 0, 1, 0, 0, 0, 0, 0, 0, []),
  (25, .iaload, 1, 0, 0, 0, 0, 0, 0, []),
  (26, .invokevirtual 114, 3, 85, 2, 781, 6, 0, 0, []),
  (29, .istore 4, 2, 4, 0, 0, 0, 0, 0, []),
  (31, .iload_n 1, 1, 1, 0, 0, 0, 0, 0, []),
  (32, .iload_n 2, 1, 2, 0, 0, 0, 0, 0, []),
  (33, .if_icmp .lt 17, 3, 50, 0, 0, 0, 0, 0, []),
  (36, .iload_n 1, 1, 1, 0, 0, 0, 0, 0, []),
  (37, .iload_n 3, 1, 3, 0, 0, 0, 0, 0, []),
  (38, .if_icmp .ge 12, 3, 50, 0, 0, 0, 0, 0, []),
  (41, .iload 4, 2, 4, 0, 0, 0, 0, 0, []),
  (43, .aload_n 0, 1, 0, 0, 0, 0, 0, 0, []),
  (44, .getfield 80, 3, 2, 6, 244, 0, 0, 0, []),
  (47, .iadd, 1, 0, 0, 0, 0, 0, 0, []),
  (48, .istore 4, 2, 4, 0, 0, 0, 0, 0, []),
  (50, .iload_n 1, 1, 1, 0, 0, 0, 0, 0, []),
  (51, .bipush 17, 2, 0, 0, 0, 0, 17, 0, []),
  (53, .iadd, 1, 0, 0, 0, 0, 0, 0, []),
  (54, .iload_n 2, 1, 2, 0, 0, 0, 0, 0, []),
  (55, .if_icmp .lt 20, 3, 75, 0, 0, 0, 0, 0, []),
  (58, .iload_n 1, 1, 1, 0, 0, 0, 0, 0, []),
  (59, .bipush 17, 2, 0, 0, 0, 0, 17, 0, []),
  (61, .iadd, 1, 0, 0, 0, 0, 0, 0, []),
  (62, .iload_n 3, 1, 3, 0, 0, 0, 0, 0, []),
  (63, .if_icmp .ge 12, 3, 75, 0, 0, 0, 0, 0, []),
  (66, .iload 4, 2, 4, 0, 0, 0, 0, 0, []),
  (68, .aload_n 0, 1, 0, 0, 0, 0, 0, 0, []),
  (69, .getfield 86, 3, 2, 7, 245, 0, 0, 0, []),
  (72, .iadd, 1, 0, 0, 0, 0, 0, 0, []),
  (73, .istore 4, 2, 4, 0, 0, 0, 0, 0, []),
  (75, .iload 4, 2, 4, 0, 0, 0, 0, 0, []),
  (77, .ireturn, 1, 0, 0, 0, 0, 0, 0, [])]
def M_X3_latest : MI := (yX3_latest, cX3_latest, 3, (some Jvm.ClassFile.FieldType.int), 0, 1, 21, false, 792, 790, 791, 91)
def k_X3_latest : List Ent := [(0, .iconst (-1), 1, 0, 0, 0, 0, -1, 0, []),
  (1, .istore_n 1, 1, 1, 0, 0, 0, 0, 0, []),
  (2, .iconst 0, 1, 0, 0, 0, 0, 0, 0, []),
  (3, .istore_n 2, 1, 2, 0, 0, 0, 0, 0, []),
  (4, .iload_n 2, 1, 2, 0, 0, 0, 0, 0, []),
  (5, .aload_n 0, 1, 0, 0, 0, 0, 0, 0, []),
  (6, .getfield 25, 3, 2, 0, 235, 2, 0, 0, []),
  (9, .getfield 117, 3, 1, 3, 132, 0, 0, 0, []),
  (12, .if_icmp .ge 20, 3, 32, 0, 0, 0, 0, 0, []),
  (15, .iload_n 1, 1, 1, 0, 0, 0, 0, 0, []),
  (16, .aload_n 0, 1, 0, 0, 0, 0, 0, 0, []),
  (17, .getfield 15, 3, 2, 3, 239, 2, 0, 0, []),
  (20, .iload_n 2, 1, 2, 0, 0, 0, 0, 0, []),
  (21, .iaload, 1, 0, 0, 0, 0, 0, 0, []),
  (22, .invokestatic 89, 3, 0, 0, 772, 10, 0, 0, []),
  (25, .istore_n 1, 1, 1, 0, 0, 0, 0, 0, []),
  (26, .iinc 2 1, 3, 2, 0, 0, 0, 1, 0, []),
  (29, .goto (-25), 3, 4, 0, 0, 0, 0, 0, []),
  (32, .iload_n 1, 1, 1, 0, 0, 0, 0, 0, []),
  (33, .ireturn, 1, 0, 0, 0, 0, 0, 0, [])]
def M_X4_takeByte : MI := (yX4_takeByte, cX4_takeByte, 2, (some Jvm.ClassFile.FieldType.int), 1, 0, 0, false, 804, 802, 803, 93)
def k_X4_takeByte : List Ent := [(0, .iload_n 1, 1, 1, 0, 0, 0, 0, 0, []),
  (1, .ifCond .lt 9, 3, 10, 0, 0, 0, 0, 0, []),
  (4, .iload_n 1, 1, 1, 0, 0, 0, 0, 0, []),
  (5, .bipush 127, 2, 0, 0, 0, 0, 127, 0, []),
  (7, .if_icmp .le 6, 3, 13, 0, 0, 0, 0, 0, []),
  (10, .bipush (-2), 2, 0, 0, 0, 0, -2, 0, []),
  (12, .ireturn, 1, 0, 0, 0, 0, 0, 0, []),
  (13, .aload_n 0, 1, 0, 0, 0, 0, 0, 0, []),
  (14, .getfield 25, 3, 3, 1, 286, 0, 0, 0, []),
  (17, .bipush 80, 2, 0, 0, 0, 0, 80, 0, []),
  (19, .if_icmp .lt 6, 3, 25, 0, 0, 0, 0, 0, []),
  (22, .bipush (-4), 2, 0, 0, 0, 0, -4, 0, []),
  (24, .ireturn, 1, 0, 0, 0, 0, 0, 0, []),
  (25, .aload_n 0, 1, 0, 0, 0, 0, 0, 0, []),
  (26, .getfield 11, 3, 3, 0, 285, 2, 0, 0, []),
  (29, .aload_n 0, 1, 0, 0, 0, 0, 0, 0, []),
  (30, .getfield 25, 3, 3, 1, 286, 0, 0, 0, []),
  (33, .iload_n 1, 1, 1, 0, 0, 0, 0, 0, []),
  (34, .i2b, 1, 0, 0, 0, 0, 0, 0, []),
  (35, .bastore, 1, 0, 0, 0, 0, 0, 0, []),
  (36, .aload_n 0, 1, 0, 0, 0, 0, 0, 0, []),
  (37, .dup, 1, 0, 0, 0, 0, 0, 0, []),
  (38, .getfield 25, 3, 3, 1, 286, 0, 0, 0, []),
  (41, .iconst 1, 1, 0, 0, 0, 0, 1, 0, []),
  (42, .iadd, 1, 0, 0, 0, 0, 0, 0, []),
  (43, .putfield 25, 3, 3, 1, 286, 0, 0, 0, []),
  (46, .aload_n 0, 1, 0, 0, 0, 0, 0, 0, []),
  (47, .getfield 25, 3, 3, 1, 286, 0, 0, 0, []),
  (50, .ireturn, 1, 0, 0, 0, 0, 0, 0, [])]
def M_X4_parse : MI := (yX4_parse, cX4_parse, 1, (some Jvm.ClassFile.FieldType.int), 0, 9, 194, false, 812, 810, 811, 93)
def k_X4_parse : List Ent := [(0, .aload_n 0, 1, 0, 0, 0, 0, 0, 0, []),
  (1, .iconst 0, 1, 0, 0, 0, 0, 0, 0, []),
  (2, .putfield 29, 3, 3, 2, 288, 0, 0, 0, []),
  (5, .aload_n 0, 1, 0, 0, 0, 0, 0, 0, []),
  (6, .iconst 0, 1, 0, 0, 0, 0, 0, 0, []),
  (7, .putfield 32, 3, 3, 8, 295, 0, 0, 0, []),
  (10, .aload_n 0, 1, 0, 0, 0, 0, 0, 0, []),
  (11, .getfield 29, 3, 3, 2, 288, 0, 0, 0, []),
  (14, .bipush 13, 2, 0, 0, 0, 0, 13, 0, []),
  (16, .if_icmp .ge 51, 3, 67, 0, 0, 0, 0, 0, []),
  (19, .aload_n 0, 1, 0, 0, 0, 0, 0, 0, []),
  (20, .invokevirtual 35, 3, 55, 0, 813, 3, 0, 0, []),
  (23, .ifCond .ne 8, 3, 31, 0, 0, 0, 0, 0, []),
  (26, .aload_n 0, 1, 0, 0, 0, 0, 0, 0, []),
  (27, .getfield 39, 3, 3, 7, 294, 0, 0, 0, []),
  (30, .ireturn, 1, 0, 0, 0, 0, 0, 0, []),
  (31, .aload_n 0, 1, 0, 0, 0, 0, 0, 0, []),
  (32, .dup, 1, 0, 0, 0, 0, 0, 0, []),
  (33, .getfield 29, 3, 3, 2, 288, 0, 0, 0, []),
  (36, .iconst 1, 1, 0, 0, 0, 0, 1, 0, []),
  (37, .iadd, 1, 0, 0, 0, 0, 0, 0, []),
  (38, .putfield 29, 3, 3, 2, 288, 0, 0, 0, []),
  (41, .aload_n 0, 1, 0, 0, 0, 0, 0, 0, []),
  (42, .invokevirtual 42, 3, 63, 0, 817, 3, 0, 0, []),
  (45, .aload_n 0, 1, 0, 0, 0, 0, 0, 0, []),
  (46, .getfield 45, 3, 3, 6, 293, 0, 0, 0, []),
  (49, .ifCond .ne 5, 3, 54, 0, 0, 0, 0, 0, []),
  (52, .iconst (-1), 1, 0, 0, 0, 0, -1, 0, []),
  (53, .ireturn, 1, 0, 0, 0, 0, 0, 0, []),
  (54, .aload_n 0, 1, 0, 0, 0, 0, 0, 0, []),
  (55, .getfield 45, 3, 3, 6, 293, 0, 0, 0, []),
  (58, .iconst 3, 1, 0, 0, 0, 0, 3, 0, []),
  (59, .if_icmp .eq (-49), 3, 10, 0, 0, 0, 0, 0, []),
  (62, .aload_n 0, 1, 0, 0, 0, 0, 0, 0, []),
  (63, .getfield 39, 3, 3, 7, 294, 0, 0, 0, []),
  (66, .ireturn, 1, 0, 0, 0, 0, 0, 0, []),
  (67, .aload_n 0, 1, 0, 0, 0, 0, 0, 0, []),
  (68, .invokevirtual 42, 3, 63, 0, 817, 3, 0, 0, []),
  (71, .aload_n 0, 1, 0, 0, 0, 0, 0, 0, []),
  (72, .getfield 39, 3, 3, 7, 294, 0, 0, 0, []),
  (75, .ireturn, 1, 0, 0, 0, 0, 0, 0, [])]
def M_X4_parseStatement : MI := (yX4_parseStatement, cX4_parseStatement, 5, (some Jvm.ClassFile.FieldType.boolean), 0, 8, 170, false, 816, 815, 21, 93)
def k_X4_parseStatement : List Ent := [(0, .aload_n 0, 1, 0, 0, 0, 0, 0, 0, []),
  (1, .invokevirtual 42, 3, 63, 0, 817, 3, 0, 0, []),
  (4, .aload_n 0, 1, 0, 0, 0, 0, 0, 0, []),
  (5, .invokevirtual 48, 3, 58, 0, 824, 3, 0, 0, []),
  (8, .istore_n 1, 1, 1, 0, 0, 0, 0, 0, []),
  (9, .iload_n 1, 1, 1, 0, 0, 0, 0, 0, []),
  (10, .bipush (-2), 2, 0, 0, 0, 0, -2, 0, []),
  (12, .if_icmp .ne 5, 3, 17, 0, 0, 0, 0, 0, []),
  (15, .iconst 0, 1, 0, 0, 0, 0, 0, 0, []),
  (16, .ireturn, 1, 1, 0, 0, 0, 0, 0, []),
  (17, .aload_n 0, 1, 0, 0, 0, 0, 0, 0, []),
  (18, .getfield 15, 3, 3, 3, 290, 2, 0, 0, []),
  (21, .aload_n 0, 1, 0, 0, 0, 0, 0, 0, []),
  (22, .getfield 29, 3, 3, 2, 288, 0, 0, 0, []),
  (25, .iload_n 1, 1, 1, 0, 0, 0, 0, 0, []),
  (26, .iastore, 1, 0, 0, 0, 0, 0, 0, []),
  (27, .aload_n 0, 1, 0, 0, 0, 0, 0, 0, []),
  (28, .getfield 19, 3, 3, 4, 291, 2, 0, 0, []),
  (31, .aload_n 0, 1, 0, 0, 0, 0, 0, 0, []),
  (32, .getfield 29, 3, 3, 2, 288, 0, 0, 0, []),
  (35, .aload_n 0, 1, 0, 0, 0, 0, 0, 0, []),
  (36, .getfield 39, 3, 3, 7, 294, 0, 0, 0, []),
  (39, .iastore, 1, 0, 0, 0, 0, 0, 0, []),
  (40, .iload_n 1, 1, 1, 0, 0, 0, 0, 0, []),
  (41, .invokestatic 52, 3, 57, 1, 889, 0, 0, 0, []),
  (44, .astore_n 2, 1, 2, 0, 0, 0, 0, 0, []),
  (45, .iconst 0, 1, 0, 0, 0, 0, 0, 0, []),
  (46, .istore_n 3, 1, 3, 0, 0, 0, 0, 0, []),
  (47, .iload_n 3, 1, 3, 0, 0, 0, 0, 0, []),
  (48, .aload_n 2, 1, 2, 0, 0, 0, 0, 0, []),
  (49, .invokevirtual 56, 3, 244, 0, 841, 99, 0, 0, []),
  (52, .if_icmp .ge 55, 3, 107, 0, 0, 0, 0, 0, []),
  (55, .iload_n 3, 1, 3, 0, 0, 0, 0, 0, []),
  (56, .bipush 6, 2, 0, 0, 0, 0, 6, 0, []),
  (58, .if_icmp .ge 49, 3, 107, 0, 0, 0, 0, 0, []),
  (61, .aload_n 0, 1, 0, 0, 0, 0, 0, 0, []),
  (62, .invokevirtual 42, 3, 63, 0, 817, 3, 0, 0, []),
  (65, .aload_n 0, 1, 0, 0, 0, 0, 0, 0, []),
  (66, .aload_n 2, 1, 2, 0, 0, 0, 0, 0, []),
  (67, .iload_n 3, 1, 3, 0, 0, 0, 0, 0, []),
  (68, .invokevirtual 61, 3, 245, 1, 851, 99, 0, 0, []),
  (71, .invokevirtual 65, 3, 59, 1, 895, 3, 0, 0, []),
  (74, .istore 4, 2, 4, 0, 0, 0, 0, 0, []),
  (76, .iload 4, 2, 4, 0, 0, 0, 0, 0, []),
  (78, .bipush (-2), 2, 0, 0, 0, 0, -2, 0, []),
  (80, .if_icmp .ne 5, 3, 85, 0, 0, 0, 0, 0, []),
  (83, .iconst 0, 1, 0, 0, 0, 0, 0, 0, []),
  (84, .ireturn, 1, 1, 0, 0, 0, 0, 0, []),
  (85, .aload_n 0, 1, 0, 0, 0, 0, 0, 0, []),
  (86, .getfield 22, 3, 3, 5, 292, 2, 0, 0, []),
  (89, .aload_n 0, 1, 0, 0, 0, 0, 0, 0, []),
  (90, .getfield 29, 3, 3, 2, 288, 0, 0, 0, []),
  (93, .bipush 6, 2, 0, 0, 0, 0, 6, 0, []),
  (95, .imul, 1, 0, 0, 0, 0, 0, 0, []),
  (96, .iload_n 3, 1, 3, 0, 0, 0, 0, 0, []),
  (97, .iadd, 1, 0, 0, 0, 0, 0, 0, []),
  (98, .iload 4, 2, 4, 0, 0, 0, 0, 0, []),
  (100, .iastore, 1, 0, 0, 0, 0, 0, 0, []),
  (101, .iinc 3 1, 3, 3, 0, 0, 0, 1, 0, []),
  (104, .goto (-57), 3, 47, 0, 0, 0, 0, 0, []),
  (107, .iconst 1, 1, 0, 0, 0, 0, 1, 0, []),
  (108, .ireturn, 1, 1, 0, 0, 0, 0, 0, [])]
def M_X4_verbWord : MI := (yX4_verbWord, cX4_verbWord, 1, (some (Jvm.ClassFile.FieldType.object "java/lang/String")), 1, 0, 0, true, 830, 829, 0, 93)
def k_X4_verbWord : List Ent := [(0, .iload_n 0, 1, 0, 0, 0, 0, 0, 0, []),
  (1, .tableswitch 50 0 4 #[35, 38, 41, 44, 47], 35, 51, 0, 0, 0, 0, 0, [(0, 36), (1, 39), (2, 42), (3, 45), (4, 48)]),
  (36, .ldc 69, 2, 1, 0, 0, 0, 0, 0, []),
  (38, .areturn, 1, 0, 0, 0, 0, 0, 0, []),
  (39, .ldc 71, 2, 1, 1, 1, 0, 0, 0, []),
  (41, .areturn, 1, 0, 0, 0, 0, 0, 0, []),
  (42, .ldc 73, 2, 1, 2, 2, 0, 0, 0, []),
  (44, .areturn, 1, 0, 0, 0, 0, 0, 0, []),
  (45, .ldc 75, 2, 1, 3, 3, 0, 0, 0, []),
  (47, .areturn, 1, 0, 0, 0, 0, 0, 0, []),
  (48, .ldc 77, 2, 1, 4, 4, 0, 0, 0, []),
  (50, .areturn, 1, 0, 0, 0, 0, 0, 0, []),
  (51, .ldc 79, 2, 1, 5, 5, 0, 0, 0, []),
  (53, .areturn, 1, 0, 0, 0, 0, 0, 0, [])]
def M_X4_shapeOf : MI := (yX4_shapeOf, cX4_shapeOf, 1, (some (Jvm.ClassFile.FieldType.object "java/lang/String")), 1, 0, 0, true, 891, 890, 0, 93)
def k_X4_shapeOf : List Ent := [(0, .iload_n 0, 1, 0, 0, 0, 0, 0, 0, []),
  (1, .lookupswitch 33 #[(0, 27), (1, 30)], 27, 34, 0, 0, 0, 0, 0, [(0, 28), (1, 31)]),
  (28, .ldc 81, 2, 1, 6, 6, 0, 0, 0, []),
  (30, .areturn, 1, 0, 0, 0, 0, 0, 0, []),
  (31, .ldc 83, 2, 1, 7, 7, 0, 0, 0, []),
  (33, .areturn, 1, 0, 0, 0, 0, 0, 0, []),
  (34, .ldc 85, 2, 1, 8, 8, 0, 0, 0, []),
  (36, .areturn, 1, 0, 0, 0, 0, 0, 0, [])]
def M_X4_verbHere : MI := (yX4_verbHere, cX4_verbHere, 2, (some Jvm.ClassFile.FieldType.int), 0, 6, 128, false, 827, 826, 23, 93)
def k_X4_verbHere : List Ent := [(0, .iconst 0, 1, 0, 0, 0, 0, 0, 0, []),
  (1, .istore_n 1, 1, 1, 0, 0, 0, 0, 0, []),
  (2, .iload_n 1, 1, 1, 0, 0, 0, 0, 0, []),
  (3, .bipush 6, 2, 0, 0, 0, 0, 6, 0, []),
  (5, .if_icmp .ge 22, 3, 27, 0, 0, 0, 0, 0, []),
  (8, .aload_n 0, 1, 0, 0, 0, 0, 0, 0, []),
  (9, .iload_n 1, 1, 1, 0, 0, 0, 0, 0, []),
  (10, .invokestatic 87, 3, 56, 1, 828, 0, 0, 0, []),
  (13, .invokevirtual 90, 3, 62, 1, 837, 3, 0, 0, []),
  (16, .ifCond .eq 5, 3, 21, 0, 0, 0, 0, 0, []),
  (19, .iload_n 1, 1, 1, 0, 0, 0, 0, 0, []),
  (20, .ireturn, 1, 0, 0, 0, 0, 0, 0, []),
  (21, .iinc 1 1, 3, 1, 0, 0, 0, 1, 0, []),
  (24, .goto (-22), 3, 2, 0, 0, 0, 0, 0, []),
  (27, .bipush (-2), 2, 0, 0, 0, 0, -2, 0, []),
  (29, .ireturn, 1, 0, 0, 0, 0, 0, 0, [])]
def M_X4_valueHere : MI := (yX4_valueHere, cX4_valueHere, 2, (some Jvm.ClassFile.FieldType.int), 1, 7, 149, false, 898, 897, 25, 93)
def k_X4_valueHere : List Ent := [(0, .iload_n 1, 1, 1, 0, 0, 0, 0, 0, []),
  (1, .bipush 107, 2, 0, 0, 0, 0, 107, 0, []),
  (3, .if_icmp .ne 8, 3, 11, 0, 0, 0, 0, 0, []),
  (6, .aload_n 0, 1, 0, 0, 0, 0, 0, 0, []),
  (7, .invokevirtual 94, 3, 60, 0, 899, 3, 0, 0, []),
  (10, .ireturn, 1, 0, 0, 0, 0, 0, 0, []),
  (11, .iload_n 1, 1, 1, 0, 0, 0, 0, 0, []),
  (12, .bipush 102, 2, 0, 0, 0, 0, 102, 0, []),
  (14, .if_icmp .ne 14, 3, 28, 0, 0, 0, 0, 0, []),
  (17, .aload_n 0, 1, 0, 0, 0, 0, 0, 0, []),
  (18, .ldc 97, 2, 1, 14, 15, 0, 0, 0, []),
  (20, .invokevirtual 90, 3, 62, 1, 837, 3, 0, 0, []),
  (23, .ifCond .eq 5, 3, 28, 0, 0, 0, 0, 0, []),
  (26, .iconst (-1), 1, 0, 0, 0, 0, -1, 0, []),
  (27, .ireturn, 1, 0, 0, 0, 0, 0, 0, []),
  (28, .aload_n 0, 1, 0, 0, 0, 0, 0, 0, []),
  (29, .getfield 45, 3, 3, 6, 293, 0, 0, 0, []),
  (32, .iconst 2, 1, 0, 0, 0, 0, 2, 0, []),
  (33, .if_icmp .ne 10, 3, 43, 0, 0, 0, 0, 0, []),
  (36, .aload_n 0, 1, 0, 0, 0, 0, 0, 0, []),
  (37, .invokevirtual 98, 3, 61, 0, 913, 3, 0, 0, []),
  (40, .goto 5, 3, 45, 0, 0, 0, 0, 0, []),
  (43, .bipush (-2), 2, 0, 0, 0, 0, -2, 0, []),
  (45, .ireturn, 1, 0, 0, 0, 0, 0, 0, [])]
def M_X4_kindHere : MI := (yX4_kindHere, cX4_kindHere, 2, (some Jvm.ClassFile.FieldType.int), 0, 6, 128, false, 902, 901, 26, 93)
def k_X4_kindHere : List Ent := [(0, .iconst 0, 1, 0, 0, 0, 0, 0, 0, []),
  (1, .istore_n 1, 1, 1, 0, 0, 0, 0, 0, []),
  (2, .iload_n 1, 1, 1, 0, 0, 0, 0, 0, []),
  (3, .bipush 6, 2, 0, 0, 0, 0, 6, 0, []),
  (5, .if_icmp .ge 22, 3, 27, 0, 0, 0, 0, 0, []),
  (8, .aload_n 0, 1, 0, 0, 0, 0, 0, 0, []),
  (9, .iload_n 1, 1, 1, 0, 0, 0, 0, 0, []),
  (10, .invokestatic 103, 3, 22, 1, 903, 0, 0, 0, []),
  (13, .invokevirtual 90, 3, 62, 1, 837, 3, 0, 0, []),
  (16, .ifCond .eq 5, 3, 21, 0, 0, 0, 0, 0, []),
  (19, .iload_n 1, 1, 1, 0, 0, 0, 0, 0, []),
  (20, .ireturn, 1, 0, 0, 0, 0, 0, 0, []),
  (21, .iinc 1 1, 3, 1, 0, 0, 0, 1, 0, []),
  (24, .goto (-22), 3, 2, 0, 0, 0, 0, 0, []),
  (27, .bipush (-2), 2, 0, 0, 0, 0, -2, 0, []),
  (29, .ireturn, 1, 0, 0, 0, 0, 0, 0, [])]
def M_X4_numberHere : MI := (yX4_numberHere, cX4_numberHere, 3, (some Jvm.ClassFile.FieldType.int), 0, 0, 0, false, 916, 915, 27, 93)
def k_X4_numberHere : List Ent := [(0, .iconst 0, 1, 0, 0, 0, 0, 0, 0, []),
  (1, .istore_n 1, 1, 1, 0, 0, 0, 0, 0, []),
  (2, .aload_n 0, 1, 0, 0, 0, 0, 0, 0, []),
  (3, .getfield 39, 3, 3, 7, 294, 0, 0, 0, []),
  (6, .istore_n 2, 1, 2, 0, 0, 0, 0, 0, []),
  (7, .iload_n 2, 1, 2, 0, 0, 0, 0, 0, []),
  (8, .aload_n 0, 1, 0, 0, 0, 0, 0, 0, []),
  (9, .getfield 32, 3, 3, 8, 295, 0, 0, 0, []),
  (12, .if_icmp .ge 32, 3, 44, 0, 0, 0, 0, 0, []),
  (15, .iload_n 2, 1, 2, 0, 0, 0, 0, 0, []),
  (16, .aload_n 0, 1, 0, 0, 0, 0, 0, 0, []),
  (17, .getfield 25, 3, 3, 1, 286, 0, 0, 0, []),
  (20, .if_icmp .ge 24, 3, 44, 0, 0, 0, 0, 0, []),
  (23, .iload_n 1, 1, 1, 0, 0, 0, 0, 0, []),
  (24, .bipush 10, 2, 0, 0, 0, 0, 10, 0, []),
  (26, .imul, 1, 0, 0, 0, 0, 0, 0, []),
  (27, .aload_n 0, 1, 0, 0, 0, 0, 0, 0, []),
  (28, .getfield 11, 3, 3, 0, 285, 2, 0, 0, []),
  (31, .iload_n 2, 1, 2, 0, 0, 0, 0, 0, []),
  (32, .baload, 1, 0, 0, 0, 0, 0, 0, []),
  (33, .iadd, 1, 0, 0, 0, 0, 0, 0, []),
  (34, .bipush 48, 2, 0, 0, 0, 0, 48, 0, []),
  (36, .isub, 1, 0, 0, 0, 0, 0, 0, []),
  (37, .istore_n 1, 1, 1, 0, 0, 0, 0, 0, []),
  (38, .iinc 2 1, 3, 2, 0, 0, 0, 1, 0, []),
  (41, .goto (-34), 3, 7, 0, 0, 0, 0, 0, []),
  (44, .iload_n 1, 1, 1, 0, 0, 0, 0, 0, []),
  (45, .ireturn, 1, 0, 0, 0, 0, 0, 0, [])]
def M_X4_isWordHere : MI := (yX4_isWordHere, cX4_isWordHere, 3, (some Jvm.ClassFile.FieldType.boolean), 1, 5, 106, false, 840, 839, 24, 93)
def k_X4_isWordHere : List Ent := [(0, .aload_n 0, 1, 0, 0, 0, 0, 0, 0, []),
  (1, .getfield 45, 3, 3, 6, 293, 0, 0, 0, []),
  (4, .iconst 1, 1, 0, 0, 0, 0, 1, 0, []),
  (5, .if_icmp .ne 19, 3, 24, 0, 0, 0, 0, 0, []),
  (8, .aload_n 0, 1, 0, 0, 0, 0, 0, 0, []),
  (9, .getfield 32, 3, 3, 8, 295, 0, 0, 0, []),
  (12, .aload_n 0, 1, 0, 0, 0, 0, 0, 0, []),
  (13, .getfield 39, 3, 3, 7, 294, 0, 0, 0, []),
  (16, .isub, 1, 0, 0, 0, 0, 0, 0, []),
  (17, .aload_n 1, 1, 1, 0, 0, 0, 0, 0, []),
  (18, .invokevirtual 56, 3, 244, 0, 841, 99, 0, 0, []),
  (21, .if_icmp .eq 5, 3, 26, 0, 0, 0, 0, 0, []),
  (24, .iconst 0, 1, 0, 0, 0, 0, 0, 0, []),
  (25, .ireturn, 1, 1, 0, 0, 0, 0, 0, []),
  (26, .iconst 0, 1, 0, 0, 0, 0, 0, 0, []),
  (27, .istore_n 2, 1, 2, 0, 0, 0, 0, 0, []),
  (28, .iload_n 2, 1, 2, 0, 0, 0, 0, 0, []),
  (29, .aload_n 1, 1, 1, 0, 0, 0, 0, 0, []),
  (30, .invokevirtual 56, 3, 244, 0, 841, 99, 0, 0, []),
  (33, .if_icmp .ge 43, 3, 76, 0, 0, 0, 0, 0, []),
  (36, .aload_n 0, 1, 0, 0, 0, 0, 0, 0, []),
  (37, .getfield 39, 3, 3, 7, 294, 0, 0, 0, []),
  (40, .iload_n 2, 1, 2, 0, 0, 0, 0, 0, []),
  (41, .iadd, 1, 0, 0, 0, 0, 0, 0, []),
  (42, .aload_n 0, 1, 0, 0, 0, 0, 0, 0, []),
  (43, .getfield 25, 3, 3, 1, 286, 0, 0, 0, []),
  (46, .if_icmp .ge 30, 3, 76, 0, 0, 0, 0, 0, []),
  (49, .aload_n 0, 1, 0, 0, 0, 0, 0, 0, []),
  (50, .getfield 11, 3, 3, 0, 285, 2, 0, 0, []),
  (53, .aload_n 0, 1, 0, 0, 0, 0, 0, 0, []),
  (54, .getfield 39, 3, 3, 7, 294, 0, 0, 0, []),
  (57, .iload_n 2, 1, 2, 0, 0, 0, 0, 0, []),
  (58, .iadd, 1, 0, 0, 0, 0, 0, 0, []),
  (59, .baload, 1, 0, 0, 0, 0, 0, 0, []),
  (60, .aload_n 1, 1, 1, 0, 0, 0, 0, 0, []),
  (61, .iload_n 2, 1, 2, 0, 0, 0, 0, 0, []),
  (62, .invokevirtual 61, 3, 245, 1, 851, 99, 0, 0, []),
  (65, .if_icmp .eq 5, 3, 70, 0, 0, 0, 0, 0, []),
  (68, .iconst 0, 1, 0, 0, 0, 0, 0, 0, []),
  (69, .ireturn, 1, 1, 0, 0, 0, 0, 0, []),
  (70, .iinc 2 1, 3, 2, 0, 0, 0, 1, 0, []),
  (73, .goto (-45), 3, 28, 0, 0, 0, 0, 0, []),
  (76, .iconst 1, 1, 0, 0, 0, 0, 1, 0, []),
  (77, .ireturn, 1, 1, 0, 0, 0, 0, 0, [])]
def M_X4_nextToken : MI := (yX4_nextToken, cX4_nextToken, 2, (none), 0, 1, 20, false, 820, 819, 22, 93)
def k_X4_nextToken : List Ent := [(0, .aload_n 0, 1, 0, 0, 0, 0, 0, 0, []),
  (1, .aload_n 0, 1, 0, 0, 0, 0, 0, 0, []),
  (2, .getfield 32, 3, 3, 8, 295, 0, 0, 0, []),
  (5, .putfield 39, 3, 3, 7, 294, 0, 0, 0, []),
  (8, .aload_n 0, 1, 0, 0, 0, 0, 0, 0, []),
  (9, .getfield 39, 3, 3, 7, 294, 0, 0, 0, []),
  (12, .aload_n 0, 1, 0, 0, 0, 0, 0, 0, []),
  (13, .getfield 25, 3, 3, 1, 286, 0, 0, 0, []),
  (16, .if_icmp .ge 30, 3, 46, 0, 0, 0, 0, 0, []),
  (19, .aload_n 0, 1, 0, 0, 0, 0, 0, 0, []),
  (20, .getfield 11, 3, 3, 0, 285, 2, 0, 0, []),
  (23, .aload_n 0, 1, 0, 0, 0, 0, 0, 0, []),
  (24, .getfield 39, 3, 3, 7, 294, 0, 0, 0, []),
  (27, .baload, 1, 0, 0, 0, 0, 0, 0, []),
  (28, .bipush 32, 2, 0, 0, 0, 0, 32, 0, []),
  (30, .if_icmp .ne 16, 3, 46, 0, 0, 0, 0, 0, []),
  (33, .aload_n 0, 1, 0, 0, 0, 0, 0, 0, []),
  (34, .dup, 1, 0, 0, 0, 0, 0, 0, []),
  (35, .getfield 39, 3, 3, 7, 294, 0, 0, 0, []),
  (38, .iconst 1, 1, 0, 0, 0, 0, 1, 0, []),
  (39, .iadd, 1, 0, 0, 0, 0, 0, 0, []),
  (40, .putfield 39, 3, 3, 7, 294, 0, 0, 0, []),
  (43, .goto (-35), 3, 8, 0, 0, 0, 0, 0, []),
  (46, .aload_n 0, 1, 0, 0, 0, 0, 0, 0, []),
  (47, .aload_n 0, 1, 0, 0, 0, 0, 0, 0, []),
  (48, .getfield 39, 3, 3, 7, 294, 0, 0, 0, []),
  (51, .putfield 32, 3, 3, 8, 295, 0, 0, 0, []),
  (54, .aload_n 0, 1, 0, 0, 0, 0, 0, 0, []),
  (55, .getfield 39, 3, 3, 7, 294, 0, 0, 0, []),
  (58, .aload_n 0, 1, 0, 0, 0, 0, 0, 0, []),
  (59, .getfield 25, 3, 3, 1, 286, 0, 0, 0, []),
  (62, .if_icmp .lt 9, 3, 71, 0, 0, 0, 0, 0, []),
  (65, .aload_n 0, 1, 0, 0, 0, 0, 0, 0, []),
  (66, .iconst 0, 1, 0, 0, 0, 0, 0, 0, []),
  (67, .putfield 45, 3, 3, 6, 293, 0, 0, 0, []),
  (70, .return_, 1, 0, 0, 0, 0, 0, 0, []),
  (71, .aload_n 0, 1, 0, 0, 0, 0, 0, 0, []),
  (72, .aload_n 0, 1, 0, 0, 0, 0, 0, 0, []),
  (73, .getfield 11, 3, 3, 0, 285, 2, 0, 0, []),
  (76, .aload_n 0, 1, 0, 0, 0, 0, 0, 0, []),
  (77, .getfield 39, 3, 3, 7, 294, 0, 0, 0, []),
  (80, .baload, 1, 0, 0, 0, 0, 0, 0, []),
  (81, .invokestatic 106, 3, 64, 1, 821, 0, 0, 0, []),
  (84, .putfield 45, 3, 3, 6, 293, 0, 0, 0, []),
  (87, .aload_n 0, 1, 0, 0, 0, 0, 0, 0, []),
  (88, .dup, 1, 0, 0, 0, 0, 0, 0, []),
  (89, .getfield 32, 3, 3, 8, 295, 0, 0, 0, []),
  (92, .iconst 1, 1, 0, 0, 0, 0, 1, 0, []),
  (93, .iadd, 1, 0, 0, 0, 0, 0, 0, []),
  (94, .putfield 32, 3, 3, 8, 295, 0, 0, 0, []),
  (97, .aload_n 0, 1, 0, 0, 0, 0, 0, 0, []),
  (98, .getfield 45, 3, 3, 6, 293, 0, 0, 0, []),
  (101, .iconst 1, 1, 0, 0, 0, 0, 1, 0, []),
  (102, .if_icmp .eq 11, 3, 113, 0, 0, 0, 0, 0, []),
  (105, .aload_n 0, 1, 0, 0, 0, 0, 0, 0, []),
  (106, .getfield 45, 3, 3, 6, 293, 0, 0, 0, []),
  (109, .iconst 2, 1, 0, 0, 0, 0, 2, 0, []),
  (110, .if_icmp .ne 7, 3, 117, 0, 0, 0, 0, 0, []),
  (113, .iconst 1, 1, 0, 0, 0, 0, 1, 0, []),
  (114, .goto 4, 3, 118, 0, 0, 0, 0, 0, []),
  (117, .iconst 0, 1, 0, 0, 0, 0, 0, 0, []),
  (118, .istore_n 1, 1, 1, 0, 0, 0, 0, 0, []),
  (119, .iload_n 1, 1, 1, 0, 0, 0, 0, 0, []),
  (120, .ifCond .eq 46, 3, 166, 0, 0, 0, 0, 0, []),
  (123, .aload_n 0, 1, 0, 0, 0, 0, 0, 0, []),
  (124, .getfield 32, 3, 3, 8, 295, 0, 0, 0, []),
  (127, .aload_n 0, 1, 0, 0, 0, 0, 0, 0, []),
  (128, .getfield 25, 3, 3, 1, 286, 0, 0, 0, []),
  (131, .if_icmp .ge 35, 3, 166, 0, 0, 0, 0, 0, []),
  (134, .aload_n 0, 1, 0, 0, 0, 0, 0, 0, []),
  (135, .getfield 11, 3, 3, 0, 285, 2, 0, 0, []),
  (138, .aload_n 0, 1, 0, 0, 0, 0, 0, 0, []),
  (139, .getfield 32, 3, 3, 8, 295, 0, 0, 0, []),
  (142, .baload, 1, 0, 0, 0, 0, 0, 0, []),
  (143, .invokestatic 106, 3, 64, 1, 821, 0, 0, 0, []),
  (146, .aload_n 0, 1, 0, 0, 0, 0, 0, 0, []),
  (147, .getfield 45, 3, 3, 6, 293, 0, 0, 0, []),
  (150, .if_icmp .ne 16, 3, 166, 0, 0, 0, 0, 0, []),
  (153, .aload_n 0, 1, 0, 0, 0, 0, 0, 0, []),
  (154, .dup, 1, 0, 0, 0, 0, 0, 0, []),
  (155, .getfield 32, 3, 3, 8, 295, 0, 0, 0, []),
  (158, .iconst 1, 1, 0, 0, 0, 0, 1, 0, []),
  (159, .iadd, 1, 0, 0, 0, 0, 0, 0, []),
  (160, .putfield 32, 3, 3, 8, 295, 0, 0, 0, []),
  (163, .goto (-44), 3, 119, 0, 0, 0, 0, 0, []),
  (166, .aload_n 0, 1, 0, 0, 0, 0, 0, 0, []),
  (167, .getfield 45, 3, 3, 6, 293, 0, 0, 0, []),
  (170, .iconst 2, 1, 0, 0, 0, 0, 2, 0, []),
  (171, .if_icmp .ne 21, 3, 192, 0, 0, 0, 0, 0, []),
  (174, .aload_n 0, 1, 0, 0, 0, 0, 0, 0, []),
  (175, .getfield 32, 3, 3, 8, 295, 0, 0, 0, []),
  (178, .aload_n 0, 1, 0, 0, 0, 0, 0, 0, []),
  (179, .getfield 39, 3, 3, 7, 294, 0, 0, 0, []),
  (182, .isub, 1, 0, 0, 0, 0, 0, 0, []),
  (183, .iconst 4, 1, 0, 0, 0, 0, 4, 0, []),
  (184, .if_icmp .le 8, 3, 192, 0, 0, 0, 0, 0, []),
  (187, .aload_n 0, 1, 0, 0, 0, 0, 0, 0, []),
  (188, .iconst 4, 1, 0, 0, 0, 0, 4, 0, []),
  (189, .putfield 45, 3, 3, 6, 293, 0, 0, 0, []),
  (192, .return_, 1, 0, 0, 0, 0, 0, 0, [])]
def M_X4_sortOf : MI := (yX4_sortOf, cX4_sortOf, 1, (some Jvm.ClassFile.FieldType.int), 1, 0, 0, true, 823, 822, 0, 93)
def k_X4_sortOf : List Ent := [(0, .iload_n 0, 1, 0, 0, 0, 0, 0, 0, []),
  (1, .bipush 97, 2, 0, 0, 0, 0, 97, 0, []),
  (3, .if_icmp .lt 11, 3, 14, 0, 0, 0, 0, 0, []),
  (6, .iload_n 0, 1, 0, 0, 0, 0, 0, 0, []),
  (7, .bipush 122, 2, 0, 0, 0, 0, 122, 0, []),
  (9, .if_icmp .gt 5, 3, 14, 0, 0, 0, 0, 0, []),
  (12, .iconst 1, 1, 0, 0, 0, 0, 1, 0, []),
  (13, .ireturn, 1, 0, 0, 0, 0, 0, 0, []),
  (14, .iload_n 0, 1, 0, 0, 0, 0, 0, 0, []),
  (15, .bipush 48, 2, 0, 0, 0, 0, 48, 0, []),
  (17, .if_icmp .lt 11, 3, 28, 0, 0, 0, 0, 0, []),
  (20, .iload_n 0, 1, 0, 0, 0, 0, 0, 0, []),
  (21, .bipush 57, 2, 0, 0, 0, 0, 57, 0, []),
  (23, .if_icmp .gt 5, 3, 28, 0, 0, 0, 0, 0, []),
  (26, .iconst 2, 1, 0, 0, 0, 0, 2, 0, []),
  (27, .ireturn, 1, 0, 0, 0, 0, 0, 0, []),
  (28, .iload_n 0, 1, 0, 0, 0, 0, 0, 0, []),
  (29, .bipush 59, 2, 0, 0, 0, 0, 59, 0, []),
  (31, .if_icmp .ne 7, 3, 38, 0, 0, 0, 0, 0, []),
  (34, .iconst 3, 1, 0, 0, 0, 0, 3, 0, []),
  (35, .goto 4, 3, 39, 0, 0, 0, 0, 0, []),
  (38, .iconst 4, 1, 0, 0, 0, 0, 4, 0, []),
  (39, .ireturn, 1, 0, 0, 0, 0, 0, 0, [])]
def M_X4_carryOut : MI := (yX4_carryOut, cX4_carryOut, 3, (some Jvm.ClassFile.FieldType.int), 1, 6, 141, false, 924, 922, 923, 93)
def k_X4_carryOut : List Ent := [(0, .iconst 0, 1, 0, 0, 0, 0, 0, 0, []),
  (1, .istore_n 2, 1, 2, 0, 0, 0, 0, 0, []),
  (2, .iload_n 2, 1, 2, 0, 0, 0, 0, 0, []),
  (3, .aload_n 0, 1, 0, 0, 0, 0, 0, 0, []),
  (4, .getfield 29, 3, 3, 2, 288, 0, 0, 0, []),
  (7, .if_icmp .ge 31, 3, 38, 0, 0, 0, 0, 0, []),
  (10, .iload_n 2, 1, 2, 0, 0, 0, 0, 0, []),
  (11, .bipush 13, 2, 0, 0, 0, 0, 13, 0, []),
  (13, .if_icmp .ge 25, 3, 38, 0, 0, 0, 0, 0, []),
  (16, .aload_n 0, 1, 0, 0, 0, 0, 0, 0, []),
  (17, .aload_n 1, 1, 1, 0, 0, 0, 0, 0, []),
  (18, .iload_n 2, 1, 2, 0, 0, 0, 0, 0, []),
  (19, .invokevirtual 110, 3, 66, 2, 925, 3, 0, 0, []),
  (22, .ifCond .ne 10, 3, 32, 0, 0, 0, 0, 0, []),
  (25, .aload_n 0, 1, 0, 0, 0, 0, 0, 0, []),
  (26, .getfield 19, 3, 3, 4, 291, 2, 0, 0, []),
  (29, .iload_n 2, 1, 2, 0, 0, 0, 0, 0, []),
  (30, .iaload, 1, 0, 0, 0, 0, 0, 0, []),
  (31, .ireturn, 1, 0, 0, 0, 0, 0, 0, []),
  (32, .iinc 2 1, 3, 2, 0, 0, 0, 1, 0, []),
  (35, .goto (-33), 3, 2, 0, 0, 0, 0, 0, []),
  (38, .iconst (-1), 1, 0, 0, 0, 0, -1, 0, []),
  (39, .ireturn, 1, 0, 0, 0, 0, 0, 0, [])]
def M_X4_isDone : MI := (yX4_isDone, cX4_isDone, 6, (some Jvm.ClassFile.FieldType.boolean), 2, 5, 116, false, 928, 927, 28, 93)
def k_X4_isDone : List Ent := [(0, .aload_n 0, 1, 0, 0, 0, 0, 0, 0, []),
  (1, .getfield 22, 3, 3, 5, 292, 2, 0, 0, []),
  (4, .astore_n 3, 1, 3, 0, 0, 0, 0, 0, []),
  (5, .iload_n 2, 1, 2, 0, 0, 0, 0, 0, []),
  (6, .bipush 6, 2, 0, 0, 0, 0, 6, 0, []),
  (8, .imul, 1, 0, 0, 0, 0, 0, 0, []),
  (9, .istore 4, 2, 4, 0, 0, 0, 0, 0, []),
  (11, .aload_n 0, 1, 0, 0, 0, 0, 0, 0, []),
  (12, .getfield 15, 3, 3, 3, 290, 2, 0, 0, []),
  (15, .iload_n 2, 1, 2, 0, 0, 0, 0, 0, []),
  (16, .iaload, 1, 0, 0, 0, 0, 0, 0, []),
  (17, .istore 5, 2, 5, 0, 0, 0, 0, 0, []),
  (19, .iload 5, 2, 5, 0, 0, 0, 0, 0, []),
  (21, .lookupswitch 131 #[(0, 35), (1, 82), (5, 111)], 35, 152, 0, 0, 0, 0, 0, [(0, 56), (1, 103), (5, 132)]),
  (56, .aload_n 1, 1, 1, 0, 0, 0, 0, 0, []),
  (57, .aload_n 3, 1, 3, 0, 0, 0, 0, 0, []),
  (58, .iload 4, 2, 4, 0, 0, 0, 0, 0, []),
  (60, .iaload, 1, 0, 0, 0, 0, 0, 0, []),
  (61, .aload_n 3, 1, 3, 0, 0, 0, 0, 0, []),
  (62, .iload 4, 2, 4, 0, 0, 0, 0, 0, []),
  (64, .iconst 1, 1, 0, 0, 0, 0, 1, 0, []),
  (65, .iadd, 1, 0, 0, 0, 0, 0, 0, []),
  (66, .iaload, 1, 0, 0, 0, 0, 0, 0, []),
  (67, .aload_n 3, 1, 3, 0, 0, 0, 0, 0, []),
  (68, .iload 4, 2, 4, 0, 0, 0, 0, 0, []),
  (70, .iconst 2, 1, 0, 0, 0, 0, 2, 0, []),
  (71, .iadd, 1, 0, 0, 0, 0, 0, 0, []),
  (72, .iaload, 1, 0, 0, 0, 0, 0, 0, []),
  (73, .aload_n 3, 1, 3, 0, 0, 0, 0, 0, []),
  (74, .iload 4, 2, 4, 0, 0, 0, 0, 0, []),
  (76, .iconst 3, 1, 0, 0, 0, 0, 3, 0, []),
  (77, .iadd, 1, 0, 0, 0, 0, 0, 0, []),
  (78, .iaload, 1, 0, 0, 0, 0, 0, 0, []),
  (79, .aload_n 3, 1, 3, 0, 0, 0, 0, 0, []),
  (80, .iload 4, 2, 4, 0, 0, 0, 0, 0, []),
  (82, .iconst 4, 1, 0, 0, 0, 0, 4, 0, []),
  (83, .iadd, 1, 0, 0, 0, 0, 0, 0, []),
  (84, .iaload, 1, 0, 0, 0, 0, 0, 0, []),
  (85, .aload_n 3, 1, 3, 0, 0, 0, 0, 0, []),
  (86, .iload 4, 2, 4, 0, 0, 0, 0, 0, []),
  (88, .iconst 5, 1, 0, 0, 0, 0, 5, 0, []),
  (89, .iadd, 1, 0, 0, 0, 0, 0, 0, []),
  (90, .iaload, 1, 0, 0, 0, 0, 0, 0, []),
  (91, .invokevirtual 114, 3, 29, 6, 929, 1, 0, 0, []),
  (94, .ifCond .lt 7, 3, 101, 0, 0, 0, 0, 0, []),
  (97, .iconst 1, 1, 0, 0, 0, 0, 1, 0, []),
  (98, .goto 4, 3, 102, 0, 0, 0, 0, 0, []),
  (101, .iconst 0, 1, 0, 0, 0, 0, 0, 0, []),
  (102, .ireturn, 1, 1, 0, 0, 0, 0, 0, []),
  (103, .aload_n 1, 1, 1, 0, 0, 0, 0, 0, []),
  (104, .aload_n 3, 1, 3, 0, 0, 0, 0, 0, []),
  (105, .iload 4, 2, 4, 0, 0, 0, 0, 0, []),
  (107, .iaload, 1, 0, 0, 0, 0, 0, 0, []),
  (108, .aload_n 3, 1, 3, 0, 0, 0, 0, 0, []),
  (109, .iload 4, 2, 4, 0, 0, 0, 0, 0, []),
  (111, .iconst 1, 1, 0, 0, 0, 0, 1, 0, []),
  (112, .iadd, 1, 0, 0, 0, 0, 0, 0, []),
  (113, .iaload, 1, 0, 0, 0, 0, 0, 0, []),
  (114, .aload_n 3, 1, 3, 0, 0, 0, 0, 0, []),
  (115, .iload 4, 2, 4, 0, 0, 0, 0, 0, []),
  (117, .iconst 2, 1, 0, 0, 0, 0, 2, 0, []),
  (118, .iadd, 1, 0, 0, 0, 0, 0, 0, []),
  (119, .iaload, 1, 0, 0, 0, 0, 0, 0, []),
  (120, .invokevirtual 120, 3, 33, 3, 930, 1, 0, 0, []),
  (123, .ifCond .lt 7, 3, 130, 0, 0, 0, 0, 0, []),
  (126, .iconst 1, 1, 0, 0, 0, 0, 1, 0, []),
  (127, .goto 4, 3, 131, 0, 0, 0, 0, 0, []),
  (130, .iconst 0, 1, 0, 0, 0, 0, 0, 0, []),
  (131, .ireturn, 1, 1, 0, 0, 0, 0, 0, []),
  (132, .aload_n 1, 1, 1, 0, 0, 0, 0, 0, []),
  (133, .aload_n 3, 1, 3, 0, 0, 0, 0, 0, []),
  (134, .iload 4, 2, 4, 0, 0, 0, 0, 0, []),
  (136, .iaload, 1, 0, 0, 0, 0, 0, 0, []),
  (137, .bipush 6, 2, 0, 0, 0, 0, 6, 0, []),
  (139, .iconst 1, 1, 0, 0, 0, 0, 1, 0, []),
  (140, .invokevirtual 124, 3, 32, 3, 931, 1, 0, 0, []),
  (143, .ifCond .ne 7, 3, 150, 0, 0, 0, 0, 0, []),
  (146, .iconst 1, 1, 0, 0, 0, 0, 1, 0, []),
  (147, .goto 4, 3, 151, 0, 0, 0, 0, 0, []),
  (150, .iconst 0, 1, 0, 0, 0, 0, 0, 0, []),
  (151, .ireturn, 1, 1, 0, 0, 0, 0, 0, []),
  (152, .aload_n 1, 1, 1, 0, 0, 0, 0, 0, []),
  (153, .iload 5, 2, 5, 0, 0, 0, 0, 0, []),
  (155, .iconst 2, 1, 0, 0, 0, 0, 2, 0, []),
  (156, .isub, 1, 0, 0, 0, 0, 0, 0, []),
  (157, .aload_n 3, 1, 3, 0, 0, 0, 0, 0, []),
  (158, .iload 4, 2, 4, 0, 0, 0, 0, 0, []),
  (160, .iaload, 1, 0, 0, 0, 0, 0, 0, []),
  (161, .invokevirtual 127, 3, 36, 2, 932, 1, 0, 0, []),
  (164, .ifCond .lt 7, 3, 171, 0, 0, 0, 0, 0, []),
  (167, .iconst 1, 1, 0, 0, 0, 0, 1, 0, []),
  (168, .goto 4, 3, 172, 0, 0, 0, 0, 0, []),
  (171, .iconst 0, 1, 0, 0, 0, 0, 0, 0, []),
  (172, .ireturn, 1, 1, 0, 0, 0, 0, 0, [])]
def M_X5_write : MI := (yX5_write, cX5_write, 3, (none), 1, 8, 171, false, 944, 942, 943, 92)
def k_X5_write : List Ent := [(0, .aload_n 0, 1, 0, 0, 0, 0, 0, 0, []),
  (1, .iconst 0, 1, 0, 0, 0, 0, 0, 0, []),
  (2, .putfield 15, 3, 4, 1, 271, 0, 0, 0, []),
  (5, .iconst 0, 1, 0, 0, 0, 0, 0, 0, []),
  (6, .istore_n 2, 1, 2, 0, 0, 0, 0, 0, []),
  (7, .iload_n 2, 1, 2, 0, 0, 0, 0, 0, []),
  (8, .aload_n 1, 1, 1, 0, 0, 0, 0, 0, []),
  (9, .getfield 19, 3, 1, 3, 129, 0, 0, 0, []),
  (12, .if_icmp .ge 15, 3, 27, 0, 0, 0, 0, 0, []),
  (15, .aload_n 0, 1, 0, 0, 0, 0, 0, 0, []),
  (16, .aload_n 1, 1, 1, 0, 0, 0, 0, 0, []),
  (17, .iload_n 2, 1, 2, 0, 0, 0, 0, 0, []),
  (18, .invokevirtual 24, 3, 68, 2, 945, 4, 0, 0, []),
  (21, .iinc 2 1, 3, 2, 0, 0, 0, 1, 0, []),
  (24, .goto (-17), 3, 7, 0, 0, 0, 0, 0, []),
  (27, .iconst 0, 1, 0, 0, 0, 0, 0, 0, []),
  (28, .istore_n 2, 1, 2, 0, 0, 0, 0, 0, []),
  (29, .iload_n 2, 1, 2, 0, 0, 0, 0, 0, []),
  (30, .aload_n 1, 1, 1, 0, 0, 0, 0, 0, []),
  (31, .getfield 28, 3, 1, 4, 134, 0, 0, 0, []),
  (34, .if_icmp .ge 15, 3, 49, 0, 0, 0, 0, 0, []),
  (37, .aload_n 0, 1, 0, 0, 0, 0, 0, 0, []),
  (38, .aload_n 1, 1, 1, 0, 0, 0, 0, 0, []),
  (39, .iload_n 2, 1, 2, 0, 0, 0, 0, 0, []),
  (40, .invokevirtual 31, 3, 69, 2, 974, 4, 0, 0, []),
  (43, .iinc 2 1, 3, 2, 0, 0, 0, 1, 0, []),
  (46, .goto (-17), 3, 29, 0, 0, 0, 0, 0, []),
  (49, .return_, 1, 0, 0, 0, 0, 0, 0, [])]
def M_X5_writeHole : MI := (yX5_writeHole, cX5_writeHole, 3, (none), 2, 7, 149, false, 948, 947, 30, 92)
def k_X5_writeHole : List Ent := [(0, .aload_n 0, 1, 0, 0, 0, 0, 0, 0, []),
  (1, .ldc 34, 2, 1, 0, 16, 0, 0, 0, []),
  (3, .invokevirtual 36, 3, 70, 1, 950, 4, 0, 0, []),
  (6, .aload_n 0, 1, 0, 0, 0, 0, 0, 0, []),
  (7, .aload_n 1, 1, 1, 0, 0, 0, 0, 0, []),
  (8, .iload_n 2, 1, 2, 0, 0, 0, 0, 0, []),
  (9, .iconst 0, 1, 0, 0, 0, 0, 0, 0, []),
  (10, .invokevirtual 40, 3, 27, 2, 964, 1, 0, 0, []),
  (13, .invokevirtual 44, 3, 73, 1, 965, 4, 0, 0, []),
  (16, .aload_n 0, 1, 0, 0, 0, 0, 0, 0, []),
  (17, .aload_n 1, 1, 1, 0, 0, 0, 0, 0, []),
  (18, .iload_n 2, 1, 2, 0, 0, 0, 0, 0, []),
  (19, .iconst 1, 1, 0, 0, 0, 0, 1, 0, []),
  (20, .invokevirtual 40, 3, 27, 2, 964, 1, 0, 0, []),
  (23, .invokevirtual 44, 3, 73, 1, 965, 4, 0, 0, []),
  (26, .aload_n 0, 1, 0, 0, 0, 0, 0, 0, []),
  (27, .aload_n 1, 1, 1, 0, 0, 0, 0, 0, []),
  (28, .iload_n 2, 1, 2, 0, 0, 0, 0, 0, []),
  (29, .iconst 2, 1, 0, 0, 0, 0, 2, 0, []),
  (30, .invokevirtual 40, 3, 27, 2, 964, 1, 0, 0, []),
  (33, .invokestatic 48, 3, 22, 1, 969, 0, 0, 0, []),
  (36, .invokevirtual 54, 3, 71, 1, 970, 4, 0, 0, []),
  (39, .aload_n 0, 1, 0, 0, 0, 0, 0, 0, []),
  (40, .aload_n 1, 1, 1, 0, 0, 0, 0, 0, []),
  (41, .iload_n 2, 1, 2, 0, 0, 0, 0, 0, []),
  (42, .iconst 3, 1, 0, 0, 0, 0, 3, 0, []),
  (43, .invokevirtual 40, 3, 27, 2, 964, 1, 0, 0, []),
  (46, .invokevirtual 44, 3, 73, 1, 965, 4, 0, 0, []),
  (49, .aload_n 0, 1, 0, 0, 0, 0, 0, 0, []),
  (50, .aload_n 1, 1, 1, 0, 0, 0, 0, 0, []),
  (51, .iload_n 2, 1, 2, 0, 0, 0, 0, 0, []),
  (52, .iconst 4, 1, 0, 0, 0, 0, 4, 0, []),
  (53, .invokevirtual 40, 3, 27, 2, 964, 1, 0, 0, []),
  (56, .invokevirtual 44, 3, 73, 1, 965, 4, 0, 0, []),
  (59, .aload_n 0, 1, 0, 0, 0, 0, 0, 0, []),
  (60, .aload_n 1, 1, 1, 0, 0, 0, 0, 0, []),
  (61, .iload_n 2, 1, 2, 0, 0, 0, 0, 0, []),
  (62, .iconst 5, 1, 0, 0, 0, 0, 5, 0, []),
  (63, .invokevirtual 40, 3, 27, 2, 964, 1, 0, 0, []),
  (66, .invokevirtual 44, 3, 73, 1, 965, 4, 0, 0, []),
  (69, .return_, 1, 0, 0, 0, 0, 0, 0, [])]
def M_X5_writeWire : MI := (yX5_writeWire, cX5_writeWire, 3, (none), 2, 7, 149, false, 977, 976, 36, 92)
def k_X5_writeWire : List Ent := [(0, .aload_n 0, 1, 0, 0, 0, 0, 0, 0, []),
  (1, .ldc 57, 2, 1, 1, 17, 0, 0, 0, []),
  (3, .invokevirtual 36, 3, 70, 1, 950, 4, 0, 0, []),
  (6, .aload_n 1, 1, 1, 0, 0, 0, 0, 0, []),
  (7, .iload_n 2, 1, 2, 0, 0, 0, 0, 0, []),
  (8, .iconst 0, 1, 0, 0, 0, 0, 0, 0, []),
  (9, .invokevirtual 59, 3, 28, 2, 979, 1, 0, 0, []),
  (12, .iconst (-1), 1, 0, 0, 0, 0, -1, 0, []),
  (13, .if_icmp .ne 12, 3, 25, 0, 0, 0, 0, 0, []),
  (16, .aload_n 0, 1, 0, 0, 0, 0, 0, 0, []),
  (17, .ldc 62, 2, 1, 14, 18, 0, 0, 0, []),
  (19, .invokevirtual 54, 3, 71, 1, 970, 4, 0, 0, []),
  (22, .goto 13, 3, 35, 0, 0, 0, 0, 0, []),
  (25, .aload_n 0, 1, 0, 0, 0, 0, 0, 0, []),
  (26, .aload_n 1, 1, 1, 0, 0, 0, 0, 0, []),
  (27, .iload_n 2, 1, 2, 0, 0, 0, 0, 0, []),
  (28, .iconst 0, 1, 0, 0, 0, 0, 0, 0, []),
  (29, .invokevirtual 59, 3, 28, 2, 979, 1, 0, 0, []),
  (32, .invokevirtual 44, 3, 73, 1, 965, 4, 0, 0, []),
  (35, .aload_n 0, 1, 0, 0, 0, 0, 0, 0, []),
  (36, .aload_n 1, 1, 1, 0, 0, 0, 0, 0, []),
  (37, .iload_n 2, 1, 2, 0, 0, 0, 0, 0, []),
  (38, .iconst 1, 1, 0, 0, 0, 0, 1, 0, []),
  (39, .invokevirtual 59, 3, 28, 2, 979, 1, 0, 0, []),
  (42, .invokevirtual 44, 3, 73, 1, 965, 4, 0, 0, []),
  (45, .aload_n 0, 1, 0, 0, 0, 0, 0, 0, []),
  (46, .aload_n 1, 1, 1, 0, 0, 0, 0, 0, []),
  (47, .iload_n 2, 1, 2, 0, 0, 0, 0, 0, []),
  (48, .iconst 2, 1, 0, 0, 0, 0, 2, 0, []),
  (49, .invokevirtual 59, 3, 28, 2, 979, 1, 0, 0, []),
  (52, .invokevirtual 44, 3, 73, 1, 965, 4, 0, 0, []),
  (55, .return_, 1, 0, 0, 0, 0, 0, 0, [])]
def M_X5_begin : MI := (yX5_begin, cX5_begin, 2, (none), 1, 6, 128, false, 953, 952, 31, 92)
def k_X5_begin : List Ent := [(0, .aload_n 0, 1, 0, 0, 0, 0, 0, 0, []),
  (1, .getfield 15, 3, 4, 1, 271, 0, 0, 0, []),
  (4, .ifCond .le 9, 3, 13, 0, 0, 0, 0, 0, []),
  (7, .aload_n 0, 1, 0, 0, 0, 0, 0, 0, []),
  (8, .bipush 59, 2, 0, 0, 0, 0, 59, 0, []),
  (10, .invokevirtual 64, 3, 74, 1, 954, 4, 0, 0, []),
  (13, .aload_n 0, 1, 0, 0, 0, 0, 0, 0, []),
  (14, .aload_n 1, 1, 1, 0, 0, 0, 0, 0, []),
  (15, .invokevirtual 67, 3, 72, 1, 958, 4, 0, 0, []),
  (18, .return_, 1, 0, 0, 0, 0, 0, 0, [])]
def M_X5_writeWord : MI := (yX5_writeWord, cX5_writeWord, 2, (none), 1, 6, 128, false, 973, 972, 35, 92)
def k_X5_writeWord : List Ent := [(0, .aload_n 0, 1, 0, 0, 0, 0, 0, 0, []),
  (1, .bipush 32, 2, 0, 0, 0, 0, 32, 0, []),
  (3, .invokevirtual 64, 3, 74, 1, 954, 4, 0, 0, []),
  (6, .aload_n 0, 1, 0, 0, 0, 0, 0, 0, []),
  (7, .aload_n 1, 1, 1, 0, 0, 0, 0, 0, []),
  (8, .invokevirtual 67, 3, 72, 1, 958, 4, 0, 0, []),
  (11, .return_, 1, 0, 0, 0, 0, 0, 0, [])]
def M_X5_writeLetters : MI := (yX5_writeLetters, cX5_writeLetters, 3, (none), 1, 5, 106, false, 961, 960, 33, 92)
def k_X5_writeLetters : List Ent := [(0, .iconst 0, 1, 0, 0, 0, 0, 0, 0, []),
  (1, .istore_n 2, 1, 2, 0, 0, 0, 0, 0, []),
  (2, .iload_n 2, 1, 2, 0, 0, 0, 0, 0, []),
  (3, .aload_n 1, 1, 1, 0, 0, 0, 0, 0, []),
  (4, .invokevirtual 70, 3, 244, 0, 962, 99, 0, 0, []),
  (7, .if_icmp .ge 18, 3, 25, 0, 0, 0, 0, 0, []),
  (10, .aload_n 0, 1, 0, 0, 0, 0, 0, 0, []),
  (11, .aload_n 1, 1, 1, 0, 0, 0, 0, 0, []),
  (12, .iload_n 2, 1, 2, 0, 0, 0, 0, 0, []),
  (13, .invokevirtual 76, 3, 245, 1, 963, 99, 0, 0, []),
  (16, .invokevirtual 64, 3, 74, 1, 954, 4, 0, 0, []),
  (19, .iinc 2 1, 3, 2, 0, 0, 0, 1, 0, []),
  (22, .goto (-20), 3, 2, 0, 0, 0, 0, 0, []),
  (25, .return_, 1, 0, 0, 0, 0, 0, 0, [])]
def M_X5_writeNumber : MI := (yX5_writeNumber, cX5_writeNumber, 2, (none), 1, 1, 21, false, 968, 967, 34, 92)
def k_X5_writeNumber : List Ent := [(0, .aload_n 0, 1, 0, 0, 0, 0, 0, 0, []),
  (1, .bipush 32, 2, 0, 0, 0, 0, 32, 0, []),
  (3, .invokevirtual 64, 3, 74, 1, 954, 4, 0, 0, []),
  (6, .iload_n 1, 1, 1, 0, 0, 0, 0, 0, []),
  (7, .bipush 100, 2, 0, 0, 0, 0, 100, 0, []),
  (9, .if_icmp .lt 17, 3, 26, 0, 0, 0, 0, 0, []),
  (12, .aload_n 0, 1, 0, 0, 0, 0, 0, 0, []),
  (13, .bipush 48, 2, 0, 0, 0, 0, 48, 0, []),
  (15, .iload_n 1, 1, 1, 0, 0, 0, 0, 0, []),
  (16, .bipush 100, 2, 0, 0, 0, 0, 100, 0, []),
  (18, .idiv, 1, 0, 0, 0, 0, 0, 0, []),
  (19, .bipush 10, 2, 0, 0, 0, 0, 10, 0, []),
  (21, .irem, 1, 0, 0, 0, 0, 0, 0, []),
  (22, .iadd, 1, 0, 0, 0, 0, 0, 0, []),
  (23, .invokevirtual 64, 3, 74, 1, 954, 4, 0, 0, []),
  (26, .iload_n 1, 1, 1, 0, 0, 0, 0, 0, []),
  (27, .bipush 10, 2, 0, 0, 0, 0, 10, 0, []),
  (29, .if_icmp .lt 17, 3, 46, 0, 0, 0, 0, 0, []),
  (32, .aload_n 0, 1, 0, 0, 0, 0, 0, 0, []),
  (33, .bipush 48, 2, 0, 0, 0, 0, 48, 0, []),
  (35, .iload_n 1, 1, 1, 0, 0, 0, 0, 0, []),
  (36, .bipush 10, 2, 0, 0, 0, 0, 10, 0, []),
  (38, .idiv, 1, 0, 0, 0, 0, 0, 0, []),
  (39, .bipush 10, 2, 0, 0, 0, 0, 10, 0, []),
  (41, .irem, 1, 0, 0, 0, 0, 0, 0, []),
  (42, .iadd, 1, 0, 0, 0, 0, 0, 0, []),
  (43, .invokevirtual 64, 3, 74, 1, 954, 4, 0, 0, []),
  (46, .aload_n 0, 1, 0, 0, 0, 0, 0, 0, []),
  (47, .bipush 48, 2, 0, 0, 0, 0, 48, 0, []),
  (49, .iload_n 1, 1, 1, 0, 0, 0, 0, 0, []),
  (50, .bipush 10, 2, 0, 0, 0, 0, 10, 0, []),
  (52, .irem, 1, 0, 0, 0, 0, 0, 0, []),
  (53, .iadd, 1, 0, 0, 0, 0, 0, 0, []),
  (54, .invokevirtual 64, 3, 74, 1, 954, 4, 0, 0, []),
  (57, .return_, 1, 0, 0, 0, 0, 0, 0, [])]
def M_X5_writeByte : MI := (yX5_writeByte, cX5_writeByte, 2, (none), 1, 0, 0, false, 957, 956, 32, 92)
def k_X5_writeByte : List Ent := [(0, .aload_n 0, 1, 0, 0, 0, 0, 0, 0, []),
  (1, .getfield 15, 3, 4, 1, 271, 0, 0, 0, []),
  (4, .sipush 1239, 3, 0, 0, 0, 0, 1239, 0, []),
  (7, .if_icmp .lt 4, 3, 11, 0, 0, 0, 0, 0, []),
  (10, .return_, 1, 0, 0, 0, 0, 0, 0, []),
  (11, .aload_n 0, 1, 0, 0, 0, 0, 0, 0, []),
  (12, .getfield 11, 3, 4, 0, 269, 2, 0, 0, []),
  (15, .aload_n 0, 1, 0, 0, 0, 0, 0, 0, []),
  (16, .getfield 15, 3, 4, 1, 271, 0, 0, 0, []),
  (19, .iload_n 1, 1, 1, 0, 0, 0, 0, 0, []),
  (20, .i2b, 1, 0, 0, 0, 0, 0, 0, []),
  (21, .bastore, 1, 0, 0, 0, 0, 0, 0, []),
  (22, .aload_n 0, 1, 0, 0, 0, 0, 0, 0, []),
  (23, .dup, 1, 0, 0, 0, 0, 0, 0, []),
  (24, .getfield 15, 3, 4, 1, 271, 0, 0, 0, []),
  (27, .iconst 1, 1, 0, 0, 0, 0, 1, 0, []),
  (28, .iadd, 1, 0, 0, 0, 0, 0, 0, []),
  (29, .putfield 15, 3, 4, 1, 271, 0, 0, 0, []),
  (32, .return_, 1, 0, 0, 0, 0, 0, 0, [])]
def M_X6_isList : MI := (yX6_isList, cX6_isList, 1, (some Jvm.ClassFile.FieldType.boolean), 1, 0, 0, true, 1013, 1012, 0, 94)
def k_X6_isList : List Ent := [(0, .iload_n 0, 1, 0, 0, 0, 0, 0, 0, []),
  (1, .ifCond .lt 12, 3, 13, 0, 0, 0, 0, 0, []),
  (4, .iload_n 0, 1, 0, 0, 0, 0, 0, 0, []),
  (5, .iconst 4, 1, 0, 0, 0, 0, 4, 0, []),
  (6, .if_icmp .ge 7, 3, 13, 0, 0, 0, 0, 0, []),
  (9, .iconst 1, 1, 0, 0, 0, 0, 1, 0, []),
  (10, .goto 4, 3, 14, 0, 0, 0, 0, 0, []),
  (13, .iconst 0, 1, 0, 0, 0, 0, 0, 0, []),
  (14, .ireturn, 1, 1, 0, 0, 0, 0, 0, [])]
def M_X6_isMissing : MI := (yX6_isMissing, cX6_isMissing, 2, (some Jvm.ClassFile.FieldType.boolean), 1, 0, 0, false, 1028, 1026, 1027, 94)
def k_X6_isMissing : List Ent := [(0, .aload_n 0, 1, 0, 0, 0, 0, 0, 0, []),
  (1, .getfield 16, 3, 5, 1, 325, 2, 0, 0, []),
  (4, .iload_n 1, 1, 1, 0, 0, 0, 0, 0, []),
  (5, .iaload, 1, 0, 0, 0, 0, 0, 0, []),
  (6, .iconst (-1), 1, 0, 0, 0, 0, -1, 0, []),
  (7, .if_icmp .ne 7, 3, 14, 0, 0, 0, 0, 0, []),
  (10, .iconst 1, 1, 0, 0, 0, 0, 1, 0, []),
  (11, .goto 4, 3, 15, 0, 0, 0, 0, 0, []),
  (14, .iconst 0, 1, 0, 0, 0, 0, 0, 0, []),
  (15, .ireturn, 1, 1, 0, 0, 0, 0, 0, [])]
def M_X6_hasPlace : MI := (yX6_hasPlace, cX6_hasPlace, 3, (some Jvm.ClassFile.FieldType.boolean), 2, 0, 0, false, 1032, 1030, 1031, 94)
def k_X6_hasPlace : List Ent := [(0, .iload_n 2, 1, 2, 0, 0, 0, 0, 0, []),
  (1, .ifCond .lt 17, 3, 18, 0, 0, 0, 0, 0, []),
  (4, .iload_n 2, 1, 2, 0, 0, 0, 0, 0, []),
  (5, .aload_n 0, 1, 0, 0, 0, 0, 0, 0, []),
  (6, .getfield 16, 3, 5, 1, 325, 2, 0, 0, []),
  (9, .iload_n 1, 1, 1, 0, 0, 0, 0, 0, []),
  (10, .iaload, 1, 0, 0, 0, 0, 0, 0, []),
  (11, .if_icmp .ge 7, 3, 18, 0, 0, 0, 0, 0, []),
  (14, .iconst 1, 1, 0, 0, 0, 0, 1, 0, []),
  (15, .goto 4, 3, 19, 0, 0, 0, 0, 0, []),
  (18, .iconst 0, 1, 0, 0, 0, 0, 0, 0, []),
  (19, .ireturn, 1, 1, 0, 0, 0, 0, 0, [])]
def M_X6_hasSpan : MI := (yX6_hasSpan, cX6_hasSpan, 4, (some Jvm.ClassFile.FieldType.boolean), 3, 0, 0, false, 1069, 1067, 1068, 94)
def k_X6_hasSpan : List Ent := [(0, .iload_n 2, 1, 2, 0, 0, 0, 0, 0, []),
  (1, .ifCond .lt 33, 3, 34, 0, 0, 0, 0, 0, []),
  (4, .iload_n 3, 1, 3, 0, 0, 0, 0, 0, []),
  (5, .ifCond .lt 29, 3, 34, 0, 0, 0, 0, 0, []),
  (8, .iload_n 2, 1, 2, 0, 0, 0, 0, 0, []),
  (9, .aload_n 0, 1, 0, 0, 0, 0, 0, 0, []),
  (10, .getfield 16, 3, 5, 1, 325, 2, 0, 0, []),
  (13, .iload_n 1, 1, 1, 0, 0, 0, 0, 0, []),
  (14, .iaload, 1, 0, 0, 0, 0, 0, 0, []),
  (15, .if_icmp .gt 19, 3, 34, 0, 0, 0, 0, 0, []),
  (18, .iload_n 3, 1, 3, 0, 0, 0, 0, 0, []),
  (19, .aload_n 0, 1, 0, 0, 0, 0, 0, 0, []),
  (20, .getfield 16, 3, 5, 1, 325, 2, 0, 0, []),
  (23, .iload_n 1, 1, 1, 0, 0, 0, 0, 0, []),
  (24, .iaload, 1, 0, 0, 0, 0, 0, 0, []),
  (25, .iload_n 2, 1, 2, 0, 0, 0, 0, 0, []),
  (26, .isub, 1, 0, 0, 0, 0, 0, 0, []),
  (27, .if_icmp .gt 7, 3, 34, 0, 0, 0, 0, 0, []),
  (30, .iconst 1, 1, 0, 0, 0, 0, 1, 0, []),
  (31, .goto 4, 3, 35, 0, 0, 0, 0, 0, []),
  (34, .iconst 0, 1, 0, 0, 0, 0, 0, 0, []),
  (35, .ireturn, 1, 1, 0, 0, 0, 0, 0, [])]
def M_X6_renew : MI := (yX6_renew, cX6_renew, 3, (none), 2, 1, 24, false, 1017, 1015, 1016, 94)
def k_X6_renew : List Ent := [(0, .aload_n 0, 1, 0, 0, 0, 0, 0, 0, []),
  (1, .getfield 16, 3, 5, 1, 325, 2, 0, 0, []),
  (4, .iload_n 1, 1, 1, 0, 0, 0, 0, 0, []),
  (5, .iload_n 2, 1, 2, 0, 0, 0, 0, 0, []),
  (6, .iastore, 1, 0, 0, 0, 0, 0, 0, []),
  (7, .aload_n 0, 1, 0, 0, 0, 0, 0, 0, []),
  (8, .getfield 13, 3, 5, 0, 323, 2, 0, 0, []),
  (11, .iload_n 1, 1, 1, 0, 0, 0, 0, 0, []),
  (12, .aaload, 1, 0, 0, 0, 0, 0, 0, []),
  (13, .lconst 0, 1, 0, 0, 0, 0, 0, 0, []),
  (14, .invokestatic 20, 3, 242, 2, 1018, 0, 0, 0, []),
  (17, .return_, 1, 0, 0, 0, 0, 0, 0, [])]
def M_X6_copyIn : MI := (yX6_copyIn, cX6_copyIn, 6, (some Jvm.ClassFile.FieldType.int), 3, 1, 21, false, 1052, 1050, 1051, 94)
def k_X6_copyIn : List Ent := [(0, .iload_n 3, 1, 3, 0, 0, 0, 0, 0, []),
  (1, .aload_n 0, 1, 0, 0, 0, 0, 0, 0, []),
  (2, .getfield 16, 3, 5, 1, 325, 2, 0, 0, []),
  (5, .iload_n 1, 1, 1, 0, 0, 0, 0, 0, []),
  (6, .iaload, 1, 0, 0, 0, 0, 0, 0, []),
  (7, .invokestatic 26, 3, 0, 0, 1053, 11, 0, 0, []),
  (10, .istore 4, 2, 4, 0, 0, 0, 0, 0, []),
  (12, .iconst 0, 1, 0, 0, 0, 0, 0, 0, []),
  (13, .istore 5, 2, 5, 0, 0, 0, 0, 0, []),
  (15, .iload 5, 2, 5, 0, 0, 0, 0, 0, []),
  (17, .iload 4, 2, 4, 0, 0, 0, 0, 0, []),
  (19, .if_icmp .ge 23, 3, 42, 0, 0, 0, 0, 0, []),
  (22, .aload_n 0, 1, 0, 0, 0, 0, 0, 0, []),
  (23, .getfield 13, 3, 5, 0, 323, 2, 0, 0, []),
  (26, .iload_n 1, 1, 1, 0, 0, 0, 0, 0, []),
  (27, .aaload, 1, 0, 0, 0, 0, 0, 0, []),
  (28, .iload 5, 2, 5, 0, 0, 0, 0, 0, []),
  (30, .aload_n 2, 1, 2, 0, 0, 0, 0, 0, []),
  (31, .iload 5, 2, 5, 0, 0, 0, 0, 0, []),
  (33, .iaload, 1, 0, 0, 0, 0, 0, 0, []),
  (34, .i2l, 1, 0, 0, 0, 0, 0, 0, []),
  (35, .lastore, 1, 0, 0, 0, 0, 0, 0, []),
  (36, .iinc 5 1, 3, 5, 0, 0, 0, 1, 0, []),
  (39, .goto (-24), 3, 15, 0, 0, 0, 0, 0, []),
  (42, .iload 4, 2, 4, 0, 0, 0, 0, 0, []),
  (44, .ireturn, 1, 0, 0, 0, 0, 0, 0, [])]
def M_X6_firstOther : MI := (yX6_firstOther, cX6_firstOther, 5, (some Jvm.ClassFile.FieldType.int), 3, 0, 0, false, 1061, 1059, 1060, 94)
def k_X6_firstOther : List Ent := [(0, .iconst 0, 1, 0, 0, 0, 0, 0, 0, []),
  (1, .istore 4, 2, 4, 0, 0, 0, 0, 0, []),
  (3, .iload 4, 2, 4, 0, 0, 0, 0, 0, []),
  (5, .aload_n 0, 1, 0, 0, 0, 0, 0, 0, []),
  (6, .getfield 16, 3, 5, 1, 325, 2, 0, 0, []),
  (9, .iload_n 1, 1, 1, 0, 0, 0, 0, 0, []),
  (10, .iaload, 1, 0, 0, 0, 0, 0, 0, []),
  (11, .if_icmp .ge 36, 3, 47, 0, 0, 0, 0, 0, []),
  (14, .iload 4, 2, 4, 0, 0, 0, 0, 0, []),
  (16, .iload_n 3, 1, 3, 0, 0, 0, 0, 0, []),
  (17, .if_icmp .ge 21, 3, 38, 0, 0, 0, 0, 0, []),
  (20, .aload_n 0, 1, 0, 0, 0, 0, 0, 0, []),
  (21, .getfield 13, 3, 5, 0, 323, 2, 0, 0, []),
  (24, .iload_n 1, 1, 1, 0, 0, 0, 0, 0, []),
  (25, .aaload, 1, 0, 0, 0, 0, 0, 0, []),
  (26, .iload 4, 2, 4, 0, 0, 0, 0, 0, []),
  (28, .laload, 1, 0, 0, 0, 0, 0, 0, []),
  (29, .aload_n 2, 1, 2, 0, 0, 0, 0, 0, []),
  (30, .iload 4, 2, 4, 0, 0, 0, 0, 0, []),
  (32, .iaload, 1, 0, 0, 0, 0, 0, 0, []),
  (33, .i2l, 1, 0, 0, 0, 0, 0, 0, []),
  (34, .lcmp, 1, 0, 0, 0, 0, 0, 0, []),
  (35, .ifCond .eq 6, 3, 41, 0, 0, 0, 0, 0, []),
  (38, .iload 4, 2, 4, 0, 0, 0, 0, 0, []),
  (40, .ireturn, 1, 0, 0, 0, 0, 0, 0, []),
  (41, .iinc 4 1, 3, 4, 0, 0, 0, 1, 0, []),
  (44, .goto (-41), 3, 3, 0, 0, 0, 0, 0, []),
  (47, .iconst (-1), 1, 0, 0, 0, 0, -1, 0, []),
  (48, .ireturn, 1, 0, 0, 0, 0, 0, 0, [])]
def M_X7_clear : MI := (yX7_clear, cX7_clear, 1, (none), 0, 0, 0, false, 571, 569, 570, 90)
def k_X7_clear : List Ent := [(0, .aload_n 0, 1, 0, 0, 0, 0, 0, 0, []),
  (1, .iconst 0, 1, 0, 0, 0, 0, 0, 0, []),
  (2, .putfield 21, 3, 6, 3, 174, 0, 0, 0, []),
  (5, .return_, 1, 0, 0, 0, 0, 0, 0, [])]
def M_X7_addAll : MI := (yX7_addAll, cX7_addAll, 4, (none), 3, 2, 43, false, 575, 573, 574, 90)
def k_X7_addAll : List Ent := [(0, .aload_n 0, 1, 0, 0, 0, 0, 0, 0, []),
  (1, .iload_n 3, 1, 3, 0, 0, 0, 0, 0, []),
  (2, .aload_n 1, 1, 1, 0, 0, 0, 0, 0, []),
  (3, .iload_n 2, 1, 2, 0, 0, 0, 0, 0, []),
  (4, .invokevirtual 25, 3, 41, 1, 576, 1, 0, 0, []),
  (7, .iload_n 2, 1, 2, 0, 0, 0, 0, 0, []),
  (8, .invokevirtual 31, 3, 84, 3, 577, 6, 0, 0, []),
  (11, .aload_n 0, 1, 0, 0, 0, 0, 0, 0, []),
  (12, .iload_n 3, 1, 3, 0, 0, 0, 0, 0, []),
  (13, .bipush 17, 2, 0, 0, 0, 0, 17, 0, []),
  (15, .iadd, 1, 0, 0, 0, 0, 0, 0, []),
  (16, .aload_n 1, 1, 1, 0, 0, 0, 0, 0, []),
  (17, .iload_n 2, 1, 2, 0, 0, 0, 0, 0, []),
  (18, .invokevirtual 35, 3, 42, 1, 581, 1, 0, 0, []),
  (21, .iload_n 2, 1, 2, 0, 0, 0, 0, 0, []),
  (22, .invokevirtual 31, 3, 84, 3, 577, 6, 0, 0, []),
  (25, .return_, 1, 0, 0, 0, 0, 0, 0, [])]
def M_X7_insert : MI := (yX7_insert, cX7_insert, 5, (none), 3, 0, 0, false, 580, 579, 9, 90)
def k_X7_insert : List Ent := [(0, .iload_n 2, 1, 2, 0, 0, 0, 0, 0, []),
  (1, .ifCond .eq 12, 3, 13, 0, 0, 0, 0, 0, []),
  (4, .aload_n 0, 1, 0, 0, 0, 0, 0, 0, []),
  (5, .getfield 21, 3, 6, 3, 174, 0, 0, 0, []),
  (8, .bipush 40, 2, 0, 0, 0, 0, 40, 0, []),
  (10, .if_icmp .lt 4, 3, 14, 0, 0, 0, 0, 0, []),
  (13, .return_, 1, 0, 0, 0, 0, 0, 0, []),
  (14, .aload_n 0, 1, 0, 0, 0, 0, 0, 0, []),
  (15, .getfield 21, 3, 6, 3, 174, 0, 0, 0, []),
  (18, .istore 4, 2, 4, 0, 0, 0, 0, 0, []),
  (20, .iload 4, 2, 4, 0, 0, 0, 0, 0, []),
  (22, .ifCond .le 70, 3, 92, 0, 0, 0, 0, 0, []),
  (25, .aload_n 0, 1, 0, 0, 0, 0, 0, 0, []),
  (26, .getfield 9, 3, 6, 0, 166, 2, 0, 0, []),
  (29, .iload 4, 2, 4, 0, 0, 0, 0, 0, []),
  (31, .iconst 1, 1, 0, 0, 0, 0, 1, 0, []),
  (32, .isub, 1, 0, 0, 0, 0, 0, 0, []),
  (33, .iaload, 1, 0, 0, 0, 0, 0, 0, []),
  (34, .iload_n 1, 1, 1, 0, 0, 0, 0, 0, []),
  (35, .if_icmp .le 57, 3, 92, 0, 0, 0, 0, 0, []),
  (38, .aload_n 0, 1, 0, 0, 0, 0, 0, 0, []),
  (39, .getfield 9, 3, 6, 0, 166, 2, 0, 0, []),
  (42, .iload 4, 2, 4, 0, 0, 0, 0, 0, []),
  (44, .aload_n 0, 1, 0, 0, 0, 0, 0, 0, []),
  (45, .getfield 9, 3, 6, 0, 166, 2, 0, 0, []),
  (48, .iload 4, 2, 4, 0, 0, 0, 0, 0, []),
  (50, .iconst 1, 1, 0, 0, 0, 0, 1, 0, []),
  (51, .isub, 1, 0, 0, 0, 0, 0, 0, []),
  (52, .iaload, 1, 0, 0, 0, 0, 0, 0, []),
  (53, .iastore, 1, 0, 0, 0, 0, 0, 0, []),
  (54, .aload_n 0, 1, 0, 0, 0, 0, 0, 0, []),
  (55, .getfield 15, 3, 6, 1, 170, 2, 0, 0, []),
  (58, .iload 4, 2, 4, 0, 0, 0, 0, 0, []),
  (60, .aload_n 0, 1, 0, 0, 0, 0, 0, 0, []),
  (61, .getfield 15, 3, 6, 1, 170, 2, 0, 0, []),
  (64, .iload 4, 2, 4, 0, 0, 0, 0, 0, []),
  (66, .iconst 1, 1, 0, 0, 0, 0, 1, 0, []),
  (67, .isub, 1, 0, 0, 0, 0, 0, 0, []),
  (68, .iaload, 1, 0, 0, 0, 0, 0, 0, []),
  (69, .iastore, 1, 0, 0, 0, 0, 0, 0, []),
  (70, .aload_n 0, 1, 0, 0, 0, 0, 0, 0, []),
  (71, .getfield 18, 3, 6, 2, 172, 2, 0, 0, []),
  (74, .iload 4, 2, 4, 0, 0, 0, 0, 0, []),
  (76, .aload_n 0, 1, 0, 0, 0, 0, 0, 0, []),
  (77, .getfield 18, 3, 6, 2, 172, 2, 0, 0, []),
  (80, .iload 4, 2, 4, 0, 0, 0, 0, 0, []),
  (82, .iconst 1, 1, 0, 0, 0, 0, 1, 0, []),
  (83, .isub, 1, 0, 0, 0, 0, 0, 0, []),
  (84, .iaload, 1, 0, 0, 0, 0, 0, 0, []),
  (85, .iastore, 1, 0, 0, 0, 0, 0, 0, []),
  (86, .iinc 4 (-1), 3, 4, 0, 0, 0, -1, 0, []),
  (89, .goto (-69), 3, 20, 0, 0, 0, 0, 0, []),
  (92, .aload_n 0, 1, 0, 0, 0, 0, 0, 0, []),
  (93, .getfield 9, 3, 6, 0, 166, 2, 0, 0, []),
  (96, .iload 4, 2, 4, 0, 0, 0, 0, 0, []),
  (98, .iload_n 1, 1, 1, 0, 0, 0, 0, 0, []),
  (99, .iastore, 1, 0, 0, 0, 0, 0, 0, []),
  (100, .aload_n 0, 1, 0, 0, 0, 0, 0, 0, []),
  (101, .getfield 15, 3, 6, 1, 170, 2, 0, 0, []),
  (104, .iload 4, 2, 4, 0, 0, 0, 0, 0, []),
  (106, .iload_n 2, 1, 2, 0, 0, 0, 0, 0, []),
  (107, .iastore, 1, 0, 0, 0, 0, 0, 0, []),
  (108, .aload_n 0, 1, 0, 0, 0, 0, 0, 0, []),
  (109, .getfield 18, 3, 6, 2, 172, 2, 0, 0, []),
  (112, .iload 4, 2, 4, 0, 0, 0, 0, 0, []),
  (114, .iload_n 3, 1, 3, 0, 0, 0, 0, 0, []),
  (115, .iastore, 1, 0, 0, 0, 0, 0, 0, []),
  (116, .aload_n 0, 1, 0, 0, 0, 0, 0, 0, []),
  (117, .dup, 1, 0, 0, 0, 0, 0, 0, []),
  (118, .getfield 21, 3, 6, 3, 174, 0, 0, 0, []),
  (121, .iconst 1, 1, 0, 0, 0, 0, 1, 0, []),
  (122, .iadd, 1, 0, 0, 0, 0, 0, 0, []),
  (123, .putfield 21, 3, 6, 3, 174, 0, 0, 0, []),
  (126, .return_, 1, 0, 0, 0, 0, 0, 0, [])]
def M_X7_shakeAt : MI := (yX7_shakeAt, cX7_shakeAt, 5, (some Jvm.ClassFile.FieldType.int), 2, 0, 0, false, 593, 591, 592, 90)
def k_X7_shakeAt : List Ent := [(0, .iconst 0, 1, 0, 0, 0, 0, 0, 0, []),
  (1, .istore_n 3, 1, 3, 0, 0, 0, 0, 0, []),
  (2, .iconst 0, 1, 0, 0, 0, 0, 0, 0, []),
  (3, .istore 4, 2, 4, 0, 0, 0, 0, 0, []),
  (5, .iload 4, 2, 4, 0, 0, 0, 0, 0, []),
  (7, .aload_n 0, 1, 0, 0, 0, 0, 0, 0, []),
  (8, .getfield 21, 3, 6, 3, 174, 0, 0, 0, []),
  (11, .if_icmp .ge 43, 3, 54, 0, 0, 0, 0, 0, []),
  (14, .aload_n 0, 1, 0, 0, 0, 0, 0, 0, []),
  (15, .getfield 9, 3, 6, 0, 166, 2, 0, 0, []),
  (18, .iload 4, 2, 4, 0, 0, 0, 0, 0, []),
  (20, .iaload, 1, 0, 0, 0, 0, 0, 0, []),
  (21, .iload_n 1, 1, 1, 0, 0, 0, 0, 0, []),
  (22, .iload_n 2, 1, 2, 0, 0, 0, 0, 0, []),
  (23, .iadd, 1, 0, 0, 0, 0, 0, 0, []),
  (24, .if_icmp .ge 30, 3, 54, 0, 0, 0, 0, 0, []),
  (27, .aload_n 0, 1, 0, 0, 0, 0, 0, 0, []),
  (28, .getfield 9, 3, 6, 0, 166, 2, 0, 0, []),
  (31, .iload 4, 2, 4, 0, 0, 0, 0, 0, []),
  (33, .iaload, 1, 0, 0, 0, 0, 0, 0, []),
  (34, .iload_n 1, 1, 1, 0, 0, 0, 0, 0, []),
  (35, .if_icmp .lt 13, 3, 48, 0, 0, 0, 0, 0, []),
  (38, .iload_n 3, 1, 3, 0, 0, 0, 0, 0, []),
  (39, .aload_n 0, 1, 0, 0, 0, 0, 0, 0, []),
  (40, .getfield 15, 3, 6, 1, 170, 2, 0, 0, []),
  (43, .iload 4, 2, 4, 0, 0, 0, 0, 0, []),
  (45, .iaload, 1, 0, 0, 0, 0, 0, 0, []),
  (46, .iadd, 1, 0, 0, 0, 0, 0, 0, []),
  (47, .istore_n 3, 1, 3, 0, 0, 0, 0, 0, []),
  (48, .iinc 4 1, 3, 4, 0, 0, 0, 1, 0, []),
  (51, .goto (-46), 3, 5, 0, 0, 0, 0, 0, []),
  (54, .iload_n 3, 1, 3, 0, 0, 0, 0, 0, []),
  (55, .ireturn, 1, 0, 0, 0, 0, 0, 0, [])]
def M_X7_weigh : MI := (yX7_weigh, cX7_weigh, 5, (none), 2, 2, 48, false, 585, 583, 584, 90)
def k_X7_weigh : List Ent := [(0, .aload_n 0, 1, 0, 0, 0, 0, 0, 0, []),
  (1, .iconst 0, 1, 0, 0, 0, 0, 0, 0, []),
  (2, .putfield 38, 3, 6, 4, 178, 0, 0, 0, []),
  (5, .aload_n 0, 1, 0, 0, 0, 0, 0, 0, []),
  (6, .iconst (-1), 1, 0, 0, 0, 0, -1, 0, []),
  (7, .putfield 41, 3, 6, 5, 180, 0, 0, 0, []),
  (10, .aload_n 0, 1, 0, 0, 0, 0, 0, 0, []),
  (11, .iconst 0, 1, 0, 0, 0, 0, 0, 0, []),
  (12, .putfield 44, 3, 6, 6, 182, 0, 0, 0, []),
  (15, .iconst 0, 1, 0, 0, 0, 0, 0, 0, []),
  (16, .istore_n 3, 1, 3, 0, 0, 0, 0, 0, []),
  (17, .iload_n 3, 1, 3, 0, 0, 0, 0, 0, []),
  (18, .aload_n 0, 1, 0, 0, 0, 0, 0, 0, []),
  (19, .getfield 21, 3, 6, 3, 174, 0, 0, 0, []),
  (22, .if_icmp .ge 54, 3, 76, 0, 0, 0, 0, 0, []),
  (25, .iload_n 3, 1, 3, 0, 0, 0, 0, 0, []),
  (26, .ifCond .eq 20, 3, 46, 0, 0, 0, 0, 0, []),
  (29, .aload_n 0, 1, 0, 0, 0, 0, 0, 0, []),
  (30, .getfield 9, 3, 6, 0, 166, 2, 0, 0, []),
  (33, .iload_n 3, 1, 3, 0, 0, 0, 0, 0, []),
  (34, .iaload, 1, 0, 0, 0, 0, 0, 0, []),
  (35, .aload_n 0, 1, 0, 0, 0, 0, 0, 0, []),
  (36, .getfield 9, 3, 6, 0, 166, 2, 0, 0, []),
  (39, .iload_n 3, 1, 3, 0, 0, 0, 0, 0, []),
  (40, .iconst 1, 1, 0, 0, 0, 0, 1, 0, []),
  (41, .isub, 1, 0, 0, 0, 0, 0, 0, []),
  (42, .iaload, 1, 0, 0, 0, 0, 0, 0, []),
  (43, .if_icmp .eq 7, 3, 50, 0, 0, 0, 0, 0, []),
  (46, .iconst 1, 1, 0, 0, 0, 0, 1, 0, []),
  (47, .goto 4, 3, 51, 0, 0, 0, 0, 0, []),
  (50, .iconst 0, 1, 0, 0, 0, 0, 0, 0, []),
  (51, .istore 4, 2, 4, 0, 0, 0, 0, 0, []),
  (53, .iload 4, 2, 4, 0, 0, 0, 0, 0, []),
  (55, .ifCond .eq 15, 3, 70, 0, 0, 0, 0, 0, []),
  (58, .aload_n 0, 1, 0, 0, 0, 0, 0, 0, []),
  (59, .aload_n 0, 1, 0, 0, 0, 0, 0, 0, []),
  (60, .getfield 9, 3, 6, 0, 166, 2, 0, 0, []),
  (63, .iload_n 3, 1, 3, 0, 0, 0, 0, 0, []),
  (64, .iaload, 1, 0, 0, 0, 0, 0, 0, []),
  (65, .iload_n 1, 1, 1, 0, 0, 0, 0, 0, []),
  (66, .iload_n 2, 1, 2, 0, 0, 0, 0, 0, []),
  (67, .invokevirtual 47, 3, 87, 3, 586, 6, 0, 0, []),
  (70, .iinc 3 1, 3, 3, 0, 0, 0, 1, 0, []),
  (73, .goto (-56), 3, 17, 0, 0, 0, 0, 0, []),
  (76, .return_, 1, 0, 0, 0, 0, 0, 0, [])]
def M_X7_weighAt : MI := (yX7_weighAt, cX7_weighAt, 5, (none), 3, 1, 24, false, 589, 588, 10, 90)
def k_X7_weighAt : List Ent := [(0, .aload_n 0, 1, 0, 0, 0, 0, 0, 0, []),
  (1, .iload_n 1, 1, 1, 0, 0, 0, 0, 0, []),
  (2, .iload_n 2, 1, 2, 0, 0, 0, 0, 0, []),
  (3, .invokevirtual 50, 3, 85, 2, 590, 6, 0, 0, []),
  (6, .istore 4, 2, 4, 0, 0, 0, 0, 0, []),
  (8, .iload 4, 2, 4, 0, 0, 0, 0, 0, []),
  (10, .iload_n 3, 1, 3, 0, 0, 0, 0, 0, []),
  (11, .if_icmp .le 13, 3, 24, 0, 0, 0, 0, 0, []),
  (14, .aload_n 0, 1, 0, 0, 0, 0, 0, 0, []),
  (15, .dup, 1, 0, 0, 0, 0, 0, 0, []),
  (16, .getfield 44, 3, 6, 6, 182, 0, 0, 0, []),
  (19, .iconst 1, 1, 0, 0, 0, 0, 1, 0, []),
  (20, .iadd, 1, 0, 0, 0, 0, 0, 0, []),
  (21, .putfield 44, 3, 6, 6, 182, 0, 0, 0, []),
  (24, .iload 4, 2, 4, 0, 0, 0, 0, 0, []),
  (26, .aload_n 0, 1, 0, 0, 0, 0, 0, 0, []),
  (27, .getfield 38, 3, 6, 4, 178, 0, 0, 0, []),
  (30, .if_icmp .le 14, 3, 44, 0, 0, 0, 0, 0, []),
  (33, .aload_n 0, 1, 0, 0, 0, 0, 0, 0, []),
  (34, .iload 4, 2, 4, 0, 0, 0, 0, 0, []),
  (36, .putfield 38, 3, 6, 4, 178, 0, 0, 0, []),
  (39, .aload_n 0, 1, 0, 0, 0, 0, 0, 0, []),
  (40, .iload_n 1, 1, 1, 0, 0, 0, 0, 0, []),
  (41, .putfield 41, 3, 6, 5, 180, 0, 0, 0, []),
  (44, .return_, 1, 0, 0, 0, 0, 0, 0, [])]
def M_X7_weightOfFirst : MI := (yX7_weightOfFirst, cX7_weightOfFirst, 4, (some Jvm.ClassFile.FieldType.int), 1, 0, 0, false, 996, 994, 995, 90)
def k_X7_weightOfFirst : List Ent := [(0, .iconst 0, 1, 0, 0, 0, 0, 0, 0, []),
  (1, .istore_n 2, 1, 2, 0, 0, 0, 0, 0, []),
  (2, .iconst 0, 1, 0, 0, 0, 0, 0, 0, []),
  (3, .istore_n 3, 1, 3, 0, 0, 0, 0, 0, []),
  (4, .iload_n 3, 1, 3, 0, 0, 0, 0, 0, []),
  (5, .iload_n 1, 1, 1, 0, 0, 0, 0, 0, []),
  (6, .if_icmp .ge 26, 3, 32, 0, 0, 0, 0, 0, []),
  (9, .iload_n 3, 1, 3, 0, 0, 0, 0, 0, []),
  (10, .aload_n 0, 1, 0, 0, 0, 0, 0, 0, []),
  (11, .getfield 21, 3, 6, 3, 174, 0, 0, 0, []),
  (14, .if_icmp .ge 18, 3, 32, 0, 0, 0, 0, 0, []),
  (17, .iload_n 2, 1, 2, 0, 0, 0, 0, 0, []),
  (18, .aload_n 0, 1, 0, 0, 0, 0, 0, 0, []),
  (19, .getfield 15, 3, 6, 1, 170, 2, 0, 0, []),
  (22, .iload_n 3, 1, 3, 0, 0, 0, 0, 0, []),
  (23, .iaload, 1, 0, 0, 0, 0, 0, 0, []),
  (24, .iadd, 1, 0, 0, 0, 0, 0, 0, []),
  (25, .istore_n 2, 1, 2, 0, 0, 0, 0, 0, []),
  (26, .iinc 3 1, 3, 3, 0, 0, 0, 1, 0, []),
  (29, .goto (-25), 3, 4, 0, 0, 0, 0, 0, []),
  (32, .iload_n 2, 1, 2, 0, 0, 0, 0, 0, []),
  (33, .ireturn, 1, 0, 0, 0, 0, 0, 0, [])]
def M_X7_lastTimeOfFirst : MI := (yX7_lastTimeOfFirst, cX7_lastTimeOfFirst, 2, (some Jvm.ClassFile.FieldType.int), 1, 0, 0, false, 1000, 998, 999, 90)
def k_X7_lastTimeOfFirst : List Ent := [(0, .iload_n 1, 1, 1, 0, 0, 0, 0, 0, []),
  (1, .ifCond .le 22, 3, 23, 0, 0, 0, 0, 0, []),
  (4, .iload_n 1, 1, 1, 0, 0, 0, 0, 0, []),
  (5, .aload_n 0, 1, 0, 0, 0, 0, 0, 0, []),
  (6, .getfield 21, 3, 6, 3, 174, 0, 0, 0, []),
  (9, .if_icmp .gt 14, 3, 23, 0, 0, 0, 0, 0, []),
  (12, .aload_n 0, 1, 0, 0, 0, 0, 0, 0, []),
  (13, .getfield 9, 3, 6, 0, 166, 2, 0, 0, []),
  (16, .iload_n 1, 1, 1, 0, 0, 0, 0, 0, []),
  (17, .iconst 1, 1, 0, 0, 0, 0, 1, 0, []),
  (18, .isub, 1, 0, 0, 0, 0, 0, 0, []),
  (19, .iaload, 1, 0, 0, 0, 0, 0, 0, []),
  (20, .goto 4, 3, 24, 0, 0, 0, 0, 0, []),
  (23, .iconst (-1), 1, 0, 0, 0, 0, -1, 0, []),
  (24, .ireturn, 1, 0, 0, 0, 0, 0, 0, [])]
def M_X7_holesBehind : MI := (yX7_holesBehind, cX7_holesBehind, 4, (some Jvm.ClassFile.FieldType.int), 1, 1, 21, false, 1004, 1002, 1003, 90)
def k_X7_holesBehind : List Ent := [(0, .iconst 0, 1, 0, 0, 0, 0, 0, 0, []),
  (1, .istore_n 2, 1, 2, 0, 0, 0, 0, 0, []),
  (2, .iload_n 1, 1, 1, 0, 0, 0, 0, 0, []),
  (3, .iconst 0, 1, 0, 0, 0, 0, 0, 0, []),
  (4, .invokestatic 54, 3, 0, 0, 1005, 10, 0, 0, []),
  (7, .istore_n 3, 1, 3, 0, 0, 0, 0, 0, []),
  (8, .iload_n 3, 1, 3, 0, 0, 0, 0, 0, []),
  (9, .aload_n 0, 1, 0, 0, 0, 0, 0, 0, []),
  (10, .getfield 21, 3, 6, 3, 174, 0, 0, 0, []),
  (13, .if_icmp .ge 21, 3, 34, 0, 0, 0, 0, 0, []),
  (16, .iload_n 2, 1, 2, 0, 0, 0, 0, 0, []),
  (17, .aload_n 0, 1, 0, 0, 0, 0, 0, 0, []),
  (18, .getfield 18, 3, 6, 2, 172, 2, 0, 0, []),
  (21, .iload_n 3, 1, 3, 0, 0, 0, 0, 0, []),
  (22, .iaload, 1, 0, 0, 0, 0, 0, 0, []),
  (23, .invokestatic 59, 3, 140, 1, 10, 1, 0, 0, []),
  (26, .ior, 1, 0, 0, 0, 0, 0, 0, []),
  (27, .istore_n 2, 1, 2, 0, 0, 0, 0, 0, []),
  (28, .iinc 3 1, 3, 3, 0, 0, 0, 1, 0, []),
  (31, .goto (-23), 3, 8, 0, 0, 0, 0, 0, []),
  (34, .iload_n 2, 1, 2, 0, 0, 0, 0, 0, []),
  (35, .ireturn, 1, 0, 0, 0, 0, 0, 0, [])]
def M_X8_hole : MI := (yX8_hole, cX8_hole, 7, (some Jvm.ClassFile.FieldType.int), 6, 5, 116, false, 381, 379, 380, 86)
def k_X8_hole : List Ent := [(0, .aload_n 0, 1, 0, 0, 0, 0, 0, 0, []),
  (1, .aload_n 0, 1, 0, 0, 0, 0, 0, 0, []),
  (2, .getfield 14, 3, 7, 0, 332, 2, 0, 0, []),
  (5, .iload_n 1, 1, 1, 0, 0, 0, 0, 0, []),
  (6, .iload_n 2, 1, 2, 0, 0, 0, 0, 0, []),
  (7, .iload_n 3, 1, 3, 0, 0, 0, 0, 0, []),
  (8, .iload 4, 2, 4, 0, 0, 0, 0, 0, []),
  (10, .iload 5, 2, 5, 0, 0, 0, 0, 0, []),
  (12, .iload 6, 2, 6, 0, 0, 0, 0, 0, []),
  (14, .invokevirtual 70, 3, 29, 6, 382, 1, 0, 0, []),
  (17, .invokevirtual 74, 3, 129, 1, 427, 7, 0, 0, []),
  (20, .ireturn, 1, 0, 0, 0, 0, 0, 0, [])]
def M_X8_of : MI := (yX8_of, cX8_of, 3, (some Jvm.ClassFile.FieldType.int), 2, 3, 65, false, 438, 436, 437, 86)
def k_X8_of : List Ent := [(0, .aload_n 0, 1, 0, 0, 0, 0, 0, 0, []),
  (1, .getfield 14, 3, 7, 0, 332, 2, 0, 0, []),
  (4, .iload_n 1, 1, 1, 0, 0, 0, 0, 0, []),
  (5, .invokevirtual 78, 3, 25, 1, 439, 1, 0, 0, []),
  (8, .ifCond .ne 5, 3, 13, 0, 0, 0, 0, 0, []),
  (11, .iconst (-1), 1, 0, 0, 0, 0, -1, 0, []),
  (12, .ireturn, 1, 0, 0, 0, 0, 0, 0, []),
  (13, .iload_n 2, 1, 2, 0, 0, 0, 0, 0, []),
  (14, .ifCond .lt 19, 3, 33, 0, 0, 0, 0, 0, []),
  (17, .iload_n 2, 1, 2, 0, 0, 0, 0, 0, []),
  (18, .bipush 6, 2, 0, 0, 0, 0, 6, 0, []),
  (20, .if_icmp .gt 13, 3, 33, 0, 0, 0, 0, 0, []),
  (23, .aload_n 0, 1, 0, 0, 0, 0, 0, 0, []),
  (24, .getfield 14, 3, 7, 0, 332, 2, 0, 0, []),
  (27, .iload_n 1, 1, 1, 0, 0, 0, 0, 0, []),
  (28, .iload_n 2, 1, 2, 0, 0, 0, 0, 0, []),
  (29, .invokevirtual 82, 3, 27, 2, 443, 1, 0, 0, []),
  (32, .ireturn, 1, 0, 0, 0, 0, 0, 0, []),
  (33, .iload_n 2, 1, 2, 0, 0, 0, 0, 0, []),
  (34, .tableswitch 83 7 11 #[34, 43, 52, 61, 72], 34, 117, 0, 0, 0, 0, 0, [(7, 68), (8, 77), (9, 86), (10, 95), (11, 106)]),
  (68, .aload_n 0, 1, 0, 0, 0, 0, 0, 0, []),
  (69, .getfield 14, 3, 7, 0, 332, 2, 0, 0, []),
  (72, .iload_n 1, 1, 1, 0, 0, 0, 0, 0, []),
  (73, .invokevirtual 86, 3, 43, 1, 444, 1, 0, 0, []),
  (76, .ireturn, 1, 0, 0, 0, 0, 0, 0, []),
  (77, .aload_n 0, 1, 0, 0, 0, 0, 0, 0, []),
  (78, .getfield 14, 3, 7, 0, 332, 2, 0, 0, []),
  (81, .iload_n 1, 1, 1, 0, 0, 0, 0, 0, []),
  (82, .invokevirtual 89, 3, 45, 1, 462, 1, 0, 0, []),
  (85, .ireturn, 1, 0, 0, 0, 0, 0, 0, []),
  (86, .aload_n 0, 1, 0, 0, 0, 0, 0, 0, []),
  (87, .getfield 14, 3, 7, 0, 332, 2, 0, 0, []),
  (90, .iload_n 1, 1, 1, 0, 0, 0, 0, 0, []),
  (91, .invokevirtual 92, 3, 46, 1, 469, 1, 0, 0, []),
  (94, .ireturn, 1, 0, 0, 0, 0, 0, 0, []),
  (95, .aload_n 0, 1, 0, 0, 0, 0, 0, 0, []),
  (96, .getfield 14, 3, 7, 0, 332, 2, 0, 0, []),
  (99, .iload_n 1, 1, 1, 0, 0, 0, 0, 0, []),
  (100, .bipush 7, 2, 0, 0, 0, 0, 7, 0, []),
  (102, .invokevirtual 82, 3, 27, 2, 443, 1, 0, 0, []),
  (105, .ireturn, 1, 0, 0, 0, 0, 0, 0, []),
  (106, .aload_n 0, 1, 0, 0, 0, 0, 0, 0, []),
  (107, .getfield 14, 3, 7, 0, 332, 2, 0, 0, []),
  (110, .iload_n 1, 1, 1, 0, 0, 0, 0, 0, []),
  (111, .bipush 8, 2, 0, 0, 0, 0, 8, 0, []),
  (113, .invokevirtual 82, 3, 27, 2, 443, 1, 0, 0, []),
  (116, .ireturn, 1, 0, 0, 0, 0, 0, 0, []),
  (117, .iconst (-1), 1, 0, 0, 0, 0, -1, 0, []),
  (118, .ireturn, 1, 0, 0, 0, 0, 0, 0, [])]
def M_X8_becomes : MI := (yX8_becomes, cX8_becomes, 4, (some Jvm.ClassFile.FieldType.int), 3, 2, 46, false, 479, 477, 478, 86)
def k_X8_becomes : List Ent := [(0, .aload_n 0, 1, 0, 0, 0, 0, 0, 0, []),
  (1, .aload_n 0, 1, 0, 0, 0, 0, 0, 0, []),
  (2, .getfield 14, 3, 7, 0, 332, 2, 0, 0, []),
  (5, .iload_n 1, 1, 1, 0, 0, 0, 0, 0, []),
  (6, .iload_n 2, 1, 2, 0, 0, 0, 0, 0, []),
  (7, .iload_n 3, 1, 3, 0, 0, 0, 0, 0, []),
  (8, .invokevirtual 95, 3, 32, 3, 480, 1, 0, 0, []),
  (11, .invokevirtual 74, 3, 129, 1, 427, 7, 0, 0, []),
  (14, .ireturn, 1, 0, 0, 0, 0, 0, 0, [])]
def M_X8_taken : MI := (yX8_taken, cX8_taken, 3, (some Jvm.ClassFile.FieldType.int), 2, 3, 64, false, 488, 486, 487, 86)
def k_X8_taken : List Ent := [(0, .aload_n 0, 1, 0, 0, 0, 0, 0, 0, []),
  (1, .getfield 14, 3, 7, 0, 332, 2, 0, 0, []),
  (4, .iload_n 1, 1, 1, 0, 0, 0, 0, 0, []),
  (5, .invokevirtual 78, 3, 25, 1, 439, 1, 0, 0, []),
  (8, .ifCond .ne 5, 3, 13, 0, 0, 0, 0, 0, []),
  (11, .iconst (-1), 1, 0, 0, 0, 0, -1, 0, []),
  (12, .ireturn, 1, 0, 0, 0, 0, 0, 0, []),
  (13, .iconst 2, 1, 0, 0, 0, 0, 2, 0, []),
  (14, .iload_n 2, 1, 2, 0, 0, 0, 0, 0, []),
  (15, .invokestatic 99, 3, 24, 2, 489, 0, 0, 0, []),
  (18, .ifCond .ne 6, 3, 24, 0, 0, 0, 0, 0, []),
  (21, .bipush (-2), 2, 0, 0, 0, 0, -2, 0, []),
  (23, .ireturn, 1, 0, 0, 0, 0, 0, 0, []),
  (24, .aload_n 0, 1, 0, 0, 0, 0, 0, 0, []),
  (25, .getfield 14, 3, 7, 0, 332, 2, 0, 0, []),
  (28, .iload_n 1, 1, 1, 0, 0, 0, 0, 0, []),
  (29, .iconst 2, 1, 0, 0, 0, 0, 2, 0, []),
  (30, .invokevirtual 82, 3, 27, 2, 443, 1, 0, 0, []),
  (33, .iload_n 2, 1, 2, 0, 0, 0, 0, 0, []),
  (34, .invokestatic 103, 3, 16, 2, 490, 0, 0, 0, []),
  (37, .ifCond .ne 6, 3, 43, 0, 0, 0, 0, 0, []),
  (40, .bipush (-3), 2, 0, 0, 0, 0, -3, 0, []),
  (42, .ireturn, 1, 0, 0, 0, 0, 0, 0, []),
  (43, .aload_n 0, 1, 0, 0, 0, 0, 0, 0, []),
  (44, .getfield 14, 3, 7, 0, 332, 2, 0, 0, []),
  (47, .iload_n 1, 1, 1, 0, 0, 0, 0, 0, []),
  (48, .invokevirtual 86, 3, 43, 1, 444, 1, 0, 0, []),
  (51, .ireturn, 1, 0, 0, 0, 0, 0, 0, [])]
def M_X8_wire : MI := (yX8_wire, cX8_wire, 4, (some Jvm.ClassFile.FieldType.int), 3, 2, 45, false, 494, 492, 493, 86)
def k_X8_wire : List Ent := [(0, .aload_n 0, 1, 0, 0, 0, 0, 0, 0, []),
  (1, .aload_n 0, 1, 0, 0, 0, 0, 0, 0, []),
  (2, .getfield 14, 3, 7, 0, 332, 2, 0, 0, []),
  (5, .iload_n 1, 1, 1, 0, 0, 0, 0, 0, []),
  (6, .iload_n 2, 1, 2, 0, 0, 0, 0, 0, []),
  (7, .iload_n 3, 1, 3, 0, 0, 0, 0, 0, []),
  (8, .invokevirtual 108, 3, 33, 3, 495, 1, 0, 0, []),
  (11, .invokevirtual 74, 3, 129, 1, 427, 7, 0, 0, []),
  (14, .ireturn, 1, 0, 0, 0, 0, 0, 0, [])]
def M_X8_wired : MI := (yX8_wired, cX8_wired, 3, (some Jvm.ClassFile.FieldType.int), 2, 5, 113, false, 502, 500, 501, 86)
def k_X8_wired : List Ent := [(0, .aload_n 0, 1, 0, 0, 0, 0, 0, 0, []),
  (1, .getfield 14, 3, 7, 0, 332, 2, 0, 0, []),
  (4, .iload_n 1, 1, 1, 0, 0, 0, 0, 0, []),
  (5, .invokevirtual 111, 3, 26, 1, 503, 1, 0, 0, []),
  (8, .ifCond .ne 5, 3, 13, 0, 0, 0, 0, 0, []),
  (11, .iconst (-1), 1, 0, 0, 0, 0, -1, 0, []),
  (12, .ireturn, 1, 0, 0, 0, 0, 0, 0, []),
  (13, .iload_n 2, 1, 2, 0, 0, 0, 0, 0, []),
  (14, .tableswitch 108 0 4 #[34, 62, 72, 82, 91], 34, 122, 0, 0, 0, 0, 0, [(0, 48), (1, 76), (2, 86), (3, 96), (4, 105)]),
  (48, .aload_n 0, 1, 0, 0, 0, 0, 0, 0, []),
  (49, .getfield 14, 3, 7, 0, 332, 2, 0, 0, []),
  (52, .iload_n 1, 1, 1, 0, 0, 0, 0, 0, []),
  (53, .iconst 0, 1, 0, 0, 0, 0, 0, 0, []),
  (54, .invokevirtual 114, 3, 28, 2, 507, 1, 0, 0, []),
  (57, .iconst (-1), 1, 0, 0, 0, 0, -1, 0, []),
  (58, .if_icmp .ne 8, 3, 66, 0, 0, 0, 0, 0, []),
  (61, .bipush 99, 2, 0, 0, 0, 0, 99, 0, []),
  (63, .goto 12, 3, 75, 0, 0, 0, 0, 0, []),
  (66, .aload_n 0, 1, 0, 0, 0, 0, 0, 0, []),
  (67, .getfield 14, 3, 7, 0, 332, 2, 0, 0, []),
  (70, .iload_n 1, 1, 1, 0, 0, 0, 0, 0, []),
  (71, .iconst 0, 1, 0, 0, 0, 0, 0, 0, []),
  (72, .invokevirtual 114, 3, 28, 2, 507, 1, 0, 0, []),
  (75, .ireturn, 1, 0, 0, 0, 0, 0, 0, []),
  (76, .aload_n 0, 1, 0, 0, 0, 0, 0, 0, []),
  (77, .getfield 14, 3, 7, 0, 332, 2, 0, 0, []),
  (80, .iload_n 1, 1, 1, 0, 0, 0, 0, 0, []),
  (81, .iconst 1, 1, 0, 0, 0, 0, 1, 0, []),
  (82, .invokevirtual 114, 3, 28, 2, 507, 1, 0, 0, []),
  (85, .ireturn, 1, 0, 0, 0, 0, 0, 0, []),
  (86, .aload_n 0, 1, 0, 0, 0, 0, 0, 0, []),
  (87, .getfield 14, 3, 7, 0, 332, 2, 0, 0, []),
  (90, .iload_n 1, 1, 1, 0, 0, 0, 0, 0, []),
  (91, .iconst 2, 1, 0, 0, 0, 0, 2, 0, []),
  (92, .invokevirtual 114, 3, 28, 2, 507, 1, 0, 0, []),
  (95, .ireturn, 1, 0, 0, 0, 0, 0, 0, []),
  (96, .aload_n 0, 1, 0, 0, 0, 0, 0, 0, []),
  (97, .invokevirtual 117, 3, 131, 0, 511, 7, 0, 0, []),
  (100, .iload_n 1, 1, 1, 0, 0, 0, 0, 0, []),
  (101, .invokevirtual 121, 3, 3, 1, 594, 0, 0, 0, []),
  (104, .ireturn, 1, 0, 0, 0, 0, 0, 0, []),
  (105, .aload_n 0, 1, 0, 0, 0, 0, 0, 0, []),
  (106, .invokevirtual 117, 3, 131, 0, 511, 7, 0, 0, []),
  (109, .iload_n 1, 1, 1, 0, 0, 0, 0, 0, []),
  (110, .invokevirtual 124, 3, 9, 1, 595, 0, 0, 0, []),
  (113, .ifCond .eq 7, 3, 120, 0, 0, 0, 0, 0, []),
  (116, .iconst 1, 1, 0, 0, 0, 0, 1, 0, []),
  (117, .goto 4, 3, 121, 0, 0, 0, 0, 0, []),
  (120, .iconst 0, 1, 0, 0, 0, 0, 0, 0, []),
  (121, .ireturn, 1, 0, 0, 0, 0, 0, 0, []),
  (122, .iconst (-1), 1, 0, 0, 0, 0, -1, 0, []),
  (123, .ireturn, 1, 0, 0, 0, 0, 0, 0, [])]
def M_X8_cut : MI := (yX8_cut, cX8_cut, 2, (some Jvm.ClassFile.FieldType.int), 1, 2, 48, false, 606, 604, 605, 86)
def k_X8_cut : List Ent := [(0, .aload_n 0, 1, 0, 0, 0, 0, 0, 0, []),
  (1, .aload_n 0, 1, 0, 0, 0, 0, 0, 0, []),
  (2, .getfield 14, 3, 7, 0, 332, 2, 0, 0, []),
  (5, .iload_n 1, 1, 1, 0, 0, 0, 0, 0, []),
  (6, .invokevirtual 127, 3, 34, 1, 607, 1, 0, 0, []),
  (9, .invokevirtual 74, 3, 129, 1, 427, 7, 0, 0, []),
  (12, .ireturn, 1, 0, 0, 0, 0, 0, 0, [])]
def M_X8_rule : MI := (yX8_rule, cX8_rule, 3, (some Jvm.ClassFile.FieldType.int), 2, 2, 41, false, 615, 613, 614, 86)
def k_X8_rule : List Ent := [(0, .aload_n 0, 1, 0, 0, 0, 0, 0, 0, []),
  (1, .aload_n 0, 1, 0, 0, 0, 0, 0, 0, []),
  (2, .getfield 14, 3, 7, 0, 332, 2, 0, 0, []),
  (5, .iload_n 1, 1, 1, 0, 0, 0, 0, 0, []),
  (6, .iload_n 2, 1, 2, 0, 0, 0, 0, 0, []),
  (7, .invokevirtual 130, 3, 36, 2, 616, 1, 0, 0, []),
  (10, .invokevirtual 74, 3, 129, 1, 427, 7, 0, 0, []),
  (13, .ireturn, 1, 0, 0, 0, 0, 0, 0, [])]
def M_X8_drop : MI := (yX8_drop, cX8_drop, 1, (some Jvm.ClassFile.FieldType.int), 0, 3, 69, false, 627, 625, 626, 86)
def k_X8_drop : List Ent := [(0, .aload_n 0, 1, 0, 0, 0, 0, 0, 0, []),
  (1, .aload_n 0, 1, 0, 0, 0, 0, 0, 0, []),
  (2, .getfield 14, 3, 7, 0, 332, 2, 0, 0, []),
  (5, .invokevirtual 133, 3, 35, 0, 628, 1, 0, 0, []),
  (8, .invokevirtual 74, 3, 129, 1, 427, 7, 0, 0, []),
  (11, .ireturn, 1, 0, 0, 0, 0, 0, 0, [])]
def M_X8_time : MI := (yX8_time, cX8_time, 4, (some Jvm.ClassFile.FieldType.int), 2, 5, 113, false, 637, 635, 636, 86)
def k_X8_time : List Ent := [(0, .aload_n 0, 1, 0, 0, 0, 0, 0, 0, []),
  (1, .getfield 14, 3, 7, 0, 332, 2, 0, 0, []),
  (4, .iload_n 1, 1, 1, 0, 0, 0, 0, 0, []),
  (5, .invokevirtual 78, 3, 25, 1, 439, 1, 0, 0, []),
  (8, .ifCond .ne 5, 3, 13, 0, 0, 0, 0, 0, []),
  (11, .iconst (-1), 1, 0, 0, 0, 0, -1, 0, []),
  (12, .ireturn, 1, 0, 0, 0, 0, 0, 0, []),
  (13, .aload_n 0, 1, 0, 0, 0, 0, 0, 0, []),
  (14, .invokevirtual 117, 3, 131, 0, 511, 7, 0, 0, []),
  (17, .astore_n 3, 1, 3, 0, 0, 0, 0, 0, []),
  (18, .iload_n 2, 1, 2, 0, 0, 0, 0, 0, []),
  (19, .ifCond .ne 10, 3, 29, 0, 0, 0, 0, 0, []),
  (22, .aload_n 3, 1, 3, 0, 0, 0, 0, 0, []),
  (23, .getfield 137, 3, 0, 1, 202, 2, 0, 0, []),
  (26, .iload_n 1, 1, 1, 0, 0, 0, 0, 0, []),
  (27, .iaload, 1, 0, 0, 0, 0, 0, 0, []),
  (28, .ireturn, 1, 0, 0, 0, 0, 0, 0, []),
  (29, .aload_n 3, 1, 3, 0, 0, 0, 0, 0, []),
  (30, .iload_n 1, 1, 1, 0, 0, 0, 0, 0, []),
  (31, .invokevirtual 140, 3, 6, 1, 638, 0, 0, 0, []),
  (34, .ifCond .ne 5, 3, 39, 0, 0, 0, 0, 0, []),
  (37, .iconst (-1), 1, 0, 0, 0, 0, -1, 0, []),
  (38, .ireturn, 1, 0, 0, 0, 0, 0, 0, []),
  (39, .iload_n 2, 1, 2, 0, 0, 0, 0, 0, []),
  (40, .tableswitch 55 1 3 #[28, 35, 49], 28, 95, 0, 0, 0, 0, 0, [(1, 68), (2, 75), (3, 89)]),
  (68, .aload_n 3, 1, 3, 0, 0, 0, 0, 0, []),
  (69, .getfield 143, 3, 0, 2, 204, 2, 0, 0, []),
  (72, .iload_n 1, 1, 1, 0, 0, 0, 0, 0, []),
  (73, .iaload, 1, 0, 0, 0, 0, 0, 0, []),
  (74, .ireturn, 1, 0, 0, 0, 0, 0, 0, []),
  (75, .aload_n 3, 1, 3, 0, 0, 0, 0, 0, []),
  (76, .iload_n 1, 1, 1, 0, 0, 0, 0, 0, []),
  (77, .invokevirtual 146, 3, 7, 1, 639, 0, 0, 0, []),
  (80, .ifCond .eq 7, 3, 87, 0, 0, 0, 0, 0, []),
  (83, .iconst 0, 1, 0, 0, 0, 0, 0, 0, []),
  (84, .goto 4, 3, 88, 0, 0, 0, 0, 0, []),
  (87, .iconst 1, 1, 0, 0, 0, 0, 1, 0, []),
  (88, .ireturn, 1, 0, 0, 0, 0, 0, 0, []),
  (89, .aload_n 3, 1, 3, 0, 0, 0, 0, 0, []),
  (90, .iload_n 1, 1, 1, 0, 0, 0, 0, 0, []),
  (91, .invokevirtual 149, 3, 11, 1, 643, 0, 0, 0, []),
  (94, .ireturn, 1, 0, 0, 0, 0, 0, 0, []),
  (95, .iconst (-1), 1, 0, 0, 0, 0, -1, 0, []),
  (96, .ireturn, 1, 0, 0, 0, 0, 0, 0, [])]
def M_X8_shot : MI := (yX8_shot, cX8_shot, 4, (some Jvm.ClassFile.FieldType.int), 2, 5, 113, false, 656, 654, 655, 86)
def k_X8_shot : List Ent := [(0, .aload_n 0, 1, 0, 0, 0, 0, 0, 0, []),
  (1, .invokevirtual 117, 3, 131, 0, 511, 7, 0, 0, []),
  (4, .getfield 152, 3, 0, 3, 206, 2, 0, 0, []),
  (7, .astore_n 3, 1, 3, 0, 0, 0, 0, 0, []),
  (8, .iload_n 1, 1, 1, 0, 0, 0, 0, 0, []),
  (9, .ifCond .lt 11, 3, 20, 0, 0, 0, 0, 0, []),
  (12, .iload_n 1, 1, 1, 0, 0, 0, 0, 0, []),
  (13, .aload_n 3, 1, 3, 0, 0, 0, 0, 0, []),
  (14, .getfield 156, 3, 6, 3, 176, 0, 0, 0, []),
  (17, .if_icmp .lt 5, 3, 22, 0, 0, 0, 0, 0, []),
  (20, .iconst (-1), 1, 0, 0, 0, 0, -1, 0, []),
  (21, .ireturn, 1, 0, 0, 0, 0, 0, 0, []),
  (22, .iload_n 2, 1, 2, 0, 0, 0, 0, 0, []),
  (23, .tableswitch 46 0 2 #[25, 32, 39], 25, 69, 0, 0, 0, 0, 0, [(0, 48), (1, 55), (2, 62)]),
  (48, .aload_n 3, 1, 3, 0, 0, 0, 0, 0, []),
  (49, .getfield 162, 3, 6, 0, 168, 2, 0, 0, []),
  (52, .iload_n 1, 1, 1, 0, 0, 0, 0, 0, []),
  (53, .iaload, 1, 0, 0, 0, 0, 0, 0, []),
  (54, .ireturn, 1, 0, 0, 0, 0, 0, 0, []),
  (55, .aload_n 3, 1, 3, 0, 0, 0, 0, 0, []),
  (56, .getfield 163, 3, 6, 1, 171, 2, 0, 0, []),
  (59, .iload_n 1, 1, 1, 0, 0, 0, 0, 0, []),
  (60, .iaload, 1, 0, 0, 0, 0, 0, 0, []),
  (61, .ireturn, 1, 0, 0, 0, 0, 0, 0, []),
  (62, .aload_n 3, 1, 3, 0, 0, 0, 0, 0, []),
  (63, .getfield 166, 3, 6, 2, 173, 2, 0, 0, []),
  (66, .iload_n 1, 1, 1, 0, 0, 0, 0, 0, []),
  (67, .iaload, 1, 0, 0, 0, 0, 0, 0, []),
  (68, .ireturn, 1, 0, 0, 0, 0, 0, 0, []),
  (69, .iconst (-1), 1, 0, 0, 0, 0, -1, 0, []),
  (70, .ireturn, 1, 0, 0, 0, 0, 0, 0, [])]
def M_X8_shake : MI := (yX8_shake, cX8_shake, 2, (some Jvm.ClassFile.FieldType.int), 1, 5, 113, false, 660, 658, 659, 86)
def k_X8_shake : List Ent := [(0, .iload_n 1, 1, 1, 0, 0, 0, 0, 0, []),
  (1, .ifCond .lt 9, 3, 10, 0, 0, 0, 0, 0, []),
  (4, .iload_n 1, 1, 1, 0, 0, 0, 0, 0, []),
  (5, .ldc 169, 2, 0, 0, 661, 0, 99999, 0, []),
  (7, .if_icmp .le 6, 3, 13, 0, 0, 0, 0, 0, []),
  (10, .bipush (-2), 2, 0, 0, 0, 0, -2, 0, []),
  (12, .ireturn, 1, 0, 0, 0, 0, 0, 0, []),
  (13, .aload_n 0, 1, 0, 0, 0, 0, 0, 0, []),
  (14, .invokevirtual 117, 3, 131, 0, 511, 7, 0, 0, []),
  (17, .getfield 152, 3, 0, 3, 206, 2, 0, 0, []),
  (20, .iload_n 1, 1, 1, 0, 0, 0, 0, 0, []),
  (21, .aload_n 0, 1, 0, 0, 0, 0, 0, 0, []),
  (22, .getfield 14, 3, 7, 0, 332, 2, 0, 0, []),
  (25, .getfield 170, 3, 1, 2, 128, 2, 0, 0, []),
  (28, .iconst 0, 1, 0, 0, 0, 0, 0, 0, []),
  (29, .iaload, 1, 0, 0, 0, 0, 0, 0, []),
  (30, .invokevirtual 173, 3, 85, 2, 662, 6, 0, 0, []),
  (33, .ireturn, 1, 0, 0, 0, 0, 0, 0, [])]
def M_X8_worst : MI := (yX8_worst, cX8_worst, 3, (some Jvm.ClassFile.FieldType.int), 1, 5, 113, false, 666, 664, 665, 86)
def k_X8_worst : List Ent := [(0, .aload_n 0, 1, 0, 0, 0, 0, 0, 0, []),
  (1, .invokevirtual 117, 3, 131, 0, 511, 7, 0, 0, []),
  (4, .getfield 152, 3, 0, 3, 206, 2, 0, 0, []),
  (7, .astore_n 2, 1, 2, 0, 0, 0, 0, 0, []),
  (8, .iload_n 1, 1, 1, 0, 0, 0, 0, 0, []),
  (9, .tableswitch 51 0 3 #[31, 36, 41, 46], 31, 60, 0, 0, 0, 0, 0, [(0, 40), (1, 45), (2, 50), (3, 55)]),
  (40, .aload_n 2, 1, 2, 0, 0, 0, 0, 0, []),
  (41, .getfield 176, 3, 6, 4, 179, 0, 0, 0, []),
  (44, .ireturn, 1, 0, 0, 0, 0, 0, 0, []),
  (45, .aload_n 2, 1, 2, 0, 0, 0, 0, 0, []),
  (46, .getfield 179, 3, 6, 5, 181, 0, 0, 0, []),
  (49, .ireturn, 1, 0, 0, 0, 0, 0, 0, []),
  (50, .aload_n 2, 1, 2, 0, 0, 0, 0, 0, []),
  (51, .getfield 182, 3, 6, 6, 183, 0, 0, 0, []),
  (54, .ireturn, 1, 0, 0, 0, 0, 0, 0, []),
  (55, .aload_n 2, 1, 2, 0, 0, 0, 0, 0, []),
  (56, .getfield 156, 3, 6, 3, 176, 0, 0, 0, []),
  (59, .ireturn, 1, 0, 0, 0, 0, 0, 0, []),
  (60, .iconst (-1), 1, 0, 0, 0, 0, -1, 0, []),
  (61, .ireturn, 1, 0, 0, 0, 0, 0, 0, [])]
def M_X8_safe : MI := (yX8_safe, cX8_safe, 2, (some Jvm.ClassFile.FieldType.int), 1, 5, 113, false, 670, 668, 669, 86)
def k_X8_safe : List Ent := [(0, .iload_n 1, 1, 1, 0, 0, 0, 0, 0, []),
  (1, .iconst 1, 1, 0, 0, 0, 0, 1, 0, []),
  (2, .if_icmp .lt 10, 3, 12, 0, 0, 0, 0, 0, []),
  (5, .iload_n 1, 1, 1, 0, 0, 0, 0, 0, []),
  (6, .sipush 1000, 3, 0, 0, 0, 0, 1000, 0, []),
  (9, .if_icmp .le 6, 3, 15, 0, 0, 0, 0, 0, []),
  (12, .bipush (-2), 2, 0, 0, 0, 0, -2, 0, []),
  (14, .ireturn, 1, 0, 0, 0, 0, 0, 0, []),
  (15, .iload_n 1, 1, 1, 0, 0, 0, 0, 0, []),
  (16, .aload_n 0, 1, 0, 0, 0, 0, 0, 0, []),
  (17, .invokevirtual 117, 3, 131, 0, 511, 7, 0, 0, []),
  (20, .getfield 152, 3, 0, 3, 206, 2, 0, 0, []),
  (23, .getfield 176, 3, 6, 4, 179, 0, 0, 0, []),
  (26, .imul, 1, 0, 0, 0, 0, 0, 0, []),
  (27, .invokestatic 185, 3, 142, 1, 671, 0, 0, 0, []),
  (30, .ireturn, 1, 0, 0, 0, 0, 0, 0, [])]
def M_X8_ring : MI := (yX8_ring, cX8_ring, 5, (some Jvm.ClassFile.FieldType.long), 1, 6, 133, false, 677, 675, 676, 86)
def k_X8_ring : List Ent := [(0, .iload_n 1, 1, 1, 0, 0, 0, 0, 0, []),
  (1, .iconst (-1), 1, 0, 0, 0, 0, -1, 0, []),
  (2, .if_icmp .lt 9, 3, 11, 0, 0, 0, 0, 0, []),
  (5, .iload_n 1, 1, 1, 0, 0, 0, 0, 0, []),
  (6, .bipush 9, 2, 0, 0, 0, 0, 9, 0, []),
  (8, .if_icmp .le 7, 3, 15, 0, 0, 0, 0, 0, []),
  (11, .ldc2_w 188, 3, 0, 0, 678, 0, 0, -9223372036854775808, []),
  (14, .lreturn, 1, 0, 0, 0, 0, 0, 0, []),
  (15, .iload_n 1, 1, 1, 0, 0, 0, 0, 0, []),
  (16, .ifCond .lt 13, 3, 29, 0, 0, 0, 0, 0, []),
  (19, .aload_n 0, 1, 0, 0, 0, 0, 0, 0, []),
  (20, .invokevirtual 117, 3, 131, 0, 511, 7, 0, 0, []),
  (23, .iload_n 1, 1, 1, 0, 0, 0, 0, 0, []),
  (24, .invokevirtual 190, 3, 12, 1, 679, 0, 0, 0, []),
  (27, .i2l, 1, 0, 0, 0, 0, 0, 0, []),
  (28, .lreturn, 1, 0, 0, 0, 0, 0, 0, []),
  (29, .lconst 0, 1, 0, 0, 0, 0, 0, 0, []),
  (30, .lstore_n 2, 1, 2, 0, 0, 0, 0, 0, []),
  (31, .iconst 1, 1, 0, 0, 0, 0, 1, 0, []),
  (32, .istore 4, 2, 4, 0, 0, 0, 0, 0, []),
  (34, .iload 4, 2, 4, 0, 0, 0, 0, 0, []),
  (36, .bipush 9, 2, 0, 0, 0, 0, 9, 0, []),
  (38, .if_icmp .gt 26, 3, 64, 0, 0, 0, 0, 0, []),
  (41, .lload_n 2, 1, 2, 0, 0, 0, 0, 0, []),
  (42, .iload 4, 2, 4, 0, 0, 0, 0, 0, []),
  (44, .i2l, 1, 0, 0, 0, 0, 0, 0, []),
  (45, .aload_n 0, 1, 0, 0, 0, 0, 0, 0, []),
  (46, .invokevirtual 117, 3, 131, 0, 511, 7, 0, 0, []),
  (49, .iload 4, 2, 4, 0, 0, 0, 0, 0, []),
  (51, .invokevirtual 190, 3, 12, 1, 679, 0, 0, 0, []),
  (54, .i2l, 1, 0, 0, 0, 0, 0, 0, []),
  (55, .lmul, 1, 0, 0, 0, 0, 0, 0, []),
  (56, .ladd, 1, 0, 0, 0, 0, 0, 0, []),
  (57, .lstore_n 2, 1, 2, 0, 0, 0, 0, 0, []),
  (58, .iinc 4 1, 3, 4, 0, 0, 0, 1, 0, []),
  (61, .goto (-27), 3, 34, 0, 0, 0, 0, 0, []),
  (64, .lload_n 2, 1, 2, 0, 0, 0, 0, 0, []),
  (65, .lreturn, 1, 0, 0, 0, 0, 0, 0, [])]
def M_X8_sets : MI := (yX8_sets, cX8_sets, 3, (some Jvm.ClassFile.FieldType.int), 1, 5, 113, false, 692, 690, 691, 86)
def k_X8_sets : List Ent := [(0, .aload_n 0, 1, 0, 0, 0, 0, 0, 0, []),
  (1, .invokevirtual 117, 3, 131, 0, 511, 7, 0, 0, []),
  (4, .astore_n 2, 1, 2, 0, 0, 0, 0, 0, []),
  (5, .iload_n 1, 1, 1, 0, 0, 0, 0, 0, []),
  (6, .tableswitch 62 0 4 #[34, 39, 44, 52, 57], 34, 68, 0, 0, 0, 0, 0, [(0, 40), (1, 45), (2, 50), (3, 58), (4, 63)]),
  (40, .aload_n 2, 1, 2, 0, 0, 0, 0, 0, []),
  (41, .getfield 193, 3, 0, 4, 208, 0, 0, 0, []),
  (44, .ireturn, 1, 0, 0, 0, 0, 0, 0, []),
  (45, .aload_n 2, 1, 2, 0, 0, 0, 0, 0, []),
  (46, .getfield 196, 3, 0, 5, 210, 0, 0, 0, []),
  (49, .ireturn, 1, 0, 0, 0, 0, 0, 0, []),
  (50, .aload_n 0, 1, 0, 0, 0, 0, 0, 0, []),
  (51, .getfield 14, 3, 7, 0, 332, 2, 0, 0, []),
  (54, .invokevirtual 199, 3, 38, 0, 515, 1, 0, 0, []),
  (57, .ireturn, 1, 0, 0, 0, 0, 0, 0, []),
  (58, .aload_n 2, 1, 2, 0, 0, 0, 0, 0, []),
  (59, .invokevirtual 202, 3, 8, 0, 693, 0, 0, 0, []),
  (62, .ireturn, 1, 0, 0, 0, 0, 0, 0, []),
  (63, .aload_n 2, 1, 2, 0, 0, 0, 0, 0, []),
  (64, .invokevirtual 205, 3, 10, 0, 697, 0, 0, 0, []),
  (67, .ireturn, 1, 0, 0, 0, 0, 0, 0, []),
  (68, .iconst (-1), 1, 0, 0, 0, 0, -1, 0, []),
  (69, .ireturn, 1, 0, 0, 0, 0, 0, 0, [])]
def M_X8_loads : MI := (yX8_loads, cX8_loads, 9, (some Jvm.ClassFile.FieldType.int), 5, 3, 64, false, 705, 703, 704, 86)
def k_X8_loads : List Ent := [(0, .iload_n 1, 1, 1, 0, 0, 0, 0, 0, []),
  (1, .ifCond .lt 8, 3, 9, 0, 0, 0, 0, 0, []),
  (4, .iload_n 1, 1, 1, 0, 0, 0, 0, 0, []),
  (5, .iconst 4, 1, 0, 0, 0, 0, 4, 0, []),
  (6, .if_icmp .le 6, 3, 12, 0, 0, 0, 0, 0, []),
  (9, .bipush (-2), 2, 0, 0, 0, 0, -2, 0, []),
  (11, .ireturn, 1, 0, 0, 0, 0, 0, 0, []),
  (12, .iconst 0, 1, 0, 0, 0, 0, 0, 0, []),
  (13, .istore 6, 2, 6, 0, 0, 0, 0, 0, []),
  (15, .iconst 0, 1, 0, 0, 0, 0, 0, 0, []),
  (16, .istore 7, 2, 7, 0, 0, 0, 0, 0, []),
  (18, .iload 7, 2, 7, 0, 0, 0, 0, 0, []),
  (20, .iload_n 1, 1, 1, 0, 0, 0, 0, 0, []),
  (21, .if_icmp .ge 71, 3, 92, 0, 0, 0, 0, 0, []),
  (24, .iload 7, 2, 7, 0, 0, 0, 0, 0, []),
  (26, .ifCond .ne 7, 3, 33, 0, 0, 0, 0, 0, []),
  (29, .iload_n 2, 1, 2, 0, 0, 0, 0, 0, []),
  (30, .goto 26, 3, 56, 0, 0, 0, 0, 0, []),
  (33, .iload 7, 2, 7, 0, 0, 0, 0, 0, []),
  (35, .iconst 1, 1, 0, 0, 0, 0, 1, 0, []),
  (36, .if_icmp .ne 7, 3, 43, 0, 0, 0, 0, 0, []),
  (39, .iload_n 3, 1, 3, 0, 0, 0, 0, 0, []),
  (40, .goto 16, 3, 56, 0, 0, 0, 0, 0, []),
  (43, .iload 7, 2, 7, 0, 0, 0, 0, 0, []),
  (45, .iconst 2, 1, 0, 0, 0, 0, 2, 0, []),
  (46, .if_icmp .ne 8, 3, 54, 0, 0, 0, 0, 0, []),
  (49, .iload 4, 2, 4, 0, 0, 0, 0, 0, []),
  (51, .goto 5, 3, 56, 0, 0, 0, 0, 0, []),
  (54, .iload 5, 2, 5, 0, 0, 0, 0, 0, []),
  (56, .istore 8, 2, 8, 0, 0, 0, 0, 0, []),
  (58, .aload_n 0, 1, 0, 0, 0, 0, 0, 0, []),
  (59, .getfield 14, 3, 7, 0, 332, 2, 0, 0, []),
  (62, .iload 8, 2, 8, 0, 0, 0, 0, 0, []),
  (64, .invokevirtual 78, 3, 25, 1, 439, 1, 0, 0, []),
  (67, .ifCond .ne 5, 3, 72, 0, 0, 0, 0, 0, []),
  (70, .iconst (-1), 1, 0, 0, 0, 0, -1, 0, []),
  (71, .ireturn, 1, 0, 0, 0, 0, 0, 0, []),
  (72, .iload 6, 2, 6, 0, 0, 0, 0, 0, []),
  (74, .aload_n 0, 1, 0, 0, 0, 0, 0, 0, []),
  (75, .getfield 14, 3, 7, 0, 332, 2, 0, 0, []),
  (78, .iload 8, 2, 8, 0, 0, 0, 0, 0, []),
  (80, .invokevirtual 86, 3, 43, 1, 444, 1, 0, 0, []),
  (83, .iadd, 1, 0, 0, 0, 0, 0, 0, []),
  (84, .istore 6, 2, 6, 0, 0, 0, 0, 0, []),
  (86, .iinc 7 1, 3, 7, 0, 0, 0, 1, 0, []),
  (89, .goto (-71), 3, 18, 0, 0, 0, 0, 0, []),
  (92, .iload 6, 2, 6, 0, 0, 0, 0, 0, []),
  (94, .ireturn, 1, 0, 0, 0, 0, 0, 0, [])]
def M_X8_misfire : MI := (yX8_misfire, cX8_misfire, 3, (some Jvm.ClassFile.FieldType.int), 2, 6, 138, false, 709, 707, 708, 86)
def k_X8_misfire : List Ent := [(0, .aload_n 0, 1, 0, 0, 0, 0, 0, 0, []),
  (1, .getfield 14, 3, 7, 0, 332, 2, 0, 0, []),
  (4, .iload_n 1, 1, 1, 0, 0, 0, 0, 0, []),
  (5, .invokevirtual 78, 3, 25, 1, 439, 1, 0, 0, []),
  (8, .ifCond .eq 20, 3, 28, 0, 0, 0, 0, 0, []),
  (11, .iload_n 2, 1, 2, 0, 0, 0, 0, 0, []),
  (12, .invokestatic 208, 3, 137, 1, 710, 0, 0, 0, []),
  (15, .ifCond .eq 13, 3, 28, 0, 0, 0, 0, 0, []),
  (18, .aload_n 0, 1, 0, 0, 0, 0, 0, 0, []),
  (19, .iload_n 1, 1, 1, 0, 0, 0, 0, 0, []),
  (20, .iconst (-1), 1, 0, 0, 0, 0, -1, 0, []),
  (21, .iload_n 2, 1, 2, 0, 0, 0, 0, 0, []),
  (22, .invokevirtual 211, 3, 138, 3, 713, 7, 0, 0, []),
  (25, .goto 4, 3, 29, 0, 0, 0, 0, 0, []),
  (28, .iconst (-1), 1, 0, 0, 0, 0, -1, 0, []),
  (29, .ireturn, 1, 0, 0, 0, 0, 0, 0, [])]
def M_X8_broken : MI := (yX8_broken, cX8_broken, 3, (some Jvm.ClassFile.FieldType.int), 2, 6, 138, false, 733, 731, 732, 86)
def k_X8_broken : List Ent := [(0, .aload_n 0, 1, 0, 0, 0, 0, 0, 0, []),
  (1, .getfield 14, 3, 7, 0, 332, 2, 0, 0, []),
  (4, .iload_n 1, 1, 1, 0, 0, 0, 0, 0, []),
  (5, .invokevirtual 111, 3, 26, 1, 503, 1, 0, 0, []),
  (8, .ifCond .eq 20, 3, 28, 0, 0, 0, 0, 0, []),
  (11, .iload_n 2, 1, 2, 0, 0, 0, 0, 0, []),
  (12, .invokestatic 208, 3, 137, 1, 710, 0, 0, 0, []),
  (15, .ifCond .eq 13, 3, 28, 0, 0, 0, 0, 0, []),
  (18, .aload_n 0, 1, 0, 0, 0, 0, 0, 0, []),
  (19, .iconst (-1), 1, 0, 0, 0, 0, -1, 0, []),
  (20, .iload_n 1, 1, 1, 0, 0, 0, 0, 0, []),
  (21, .iload_n 2, 1, 2, 0, 0, 0, 0, 0, []),
  (22, .invokevirtual 211, 3, 138, 3, 713, 7, 0, 0, []),
  (25, .goto 4, 3, 29, 0, 0, 0, 0, 0, []),
  (28, .iconst (-1), 1, 0, 0, 0, 0, -1, 0, []),
  (29, .ireturn, 1, 0, 0, 0, 0, 0, 0, [])]
def M_X8_critical : MI := (yX8_critical, cX8_critical, 2, (some Jvm.ClassFile.FieldType.int), 1, 6, 142, false, 737, 735, 736, 86)
def k_X8_critical : List Ent := [(0, .iload_n 1, 1, 1, 0, 0, 0, 0, 0, []),
  (1, .lookupswitch 53 #[(0, 27), (1, 40)], 27, 54, 0, 0, 0, 0, 0, [(0, 28), (1, 41)]),
  (28, .aload_n 0, 1, 0, 0, 0, 0, 0, 0, []),
  (29, .aload_n 0, 1, 0, 0, 0, 0, 0, 0, []),
  (30, .getfield 14, 3, 7, 0, 332, 2, 0, 0, []),
  (33, .getfield 214, 3, 1, 3, 133, 0, 0, 0, []),
  (36, .iconst 1, 1, 0, 0, 0, 0, 1, 0, []),
  (37, .invokevirtual 216, 3, 139, 2, 738, 7, 0, 0, []),
  (40, .ireturn, 1, 0, 0, 0, 0, 0, 0, []),
  (41, .aload_n 0, 1, 0, 0, 0, 0, 0, 0, []),
  (42, .aload_n 0, 1, 0, 0, 0, 0, 0, 0, []),
  (43, .getfield 14, 3, 7, 0, 332, 2, 0, 0, []),
  (46, .getfield 220, 3, 1, 4, 137, 0, 0, 0, []),
  (49, .iconst 0, 1, 0, 0, 0, 0, 0, 0, []),
  (50, .invokevirtual 216, 3, 139, 2, 738, 7, 0, 0, []),
  (53, .ireturn, 1, 0, 0, 0, 0, 0, 0, []),
  (54, .iconst (-1), 1, 0, 0, 0, 0, -1, 0, []),
  (55, .ireturn, 1, 0, 0, 0, 0, 0, 0, [])]
def M_X8_plan : MI := (yX8_plan, cX8_plan, 3, (some Jvm.ClassFile.FieldType.int), 1, 6, 141, false, 751, 749, 750, 86)
def k_X8_plan : List Ent := [(0, .aload_n 0, 1, 0, 0, 0, 0, 0, 0, []),
  (1, .getfield 14, 3, 7, 0, 332, 2, 0, 0, []),
  (4, .iload_n 1, 1, 1, 0, 0, 0, 0, 0, []),
  (5, .invokevirtual 78, 3, 25, 1, 439, 1, 0, 0, []),
  (8, .ifCond .ne 5, 3, 13, 0, 0, 0, 0, 0, []),
  (11, .iconst (-1), 1, 0, 0, 0, 0, -1, 0, []),
  (12, .ireturn, 1, 0, 0, 0, 0, 0, 0, []),
  (13, .aload_n 0, 1, 0, 0, 0, 0, 0, 0, []),
  (14, .invokevirtual 223, 3, 132, 0, 752, 7, 0, 0, []),
  (17, .getfield 227, 3, 2, 2, 238, 2, 0, 0, []),
  (20, .iload_n 1, 1, 1, 0, 0, 0, 0, 0, []),
  (21, .iaload, 1, 0, 0, 0, 0, 0, 0, []),
  (22, .istore_n 2, 1, 2, 0, 0, 0, 0, 0, []),
  (23, .iload_n 2, 1, 2, 0, 0, 0, 0, 0, []),
  (24, .iconst (-1), 1, 0, 0, 0, 0, -1, 0, []),
  (25, .if_icmp .ne 8, 3, 33, 0, 0, 0, 0, 0, []),
  (28, .bipush (-3), 2, 0, 0, 0, 0, -3, 0, []),
  (30, .goto 4, 3, 34, 0, 0, 0, 0, 0, []),
  (33, .iload_n 2, 1, 2, 0, 0, 0, 0, 0, []),
  (34, .ireturn, 1, 0, 0, 0, 0, 0, 0, [])]
def M_X8_planned : MI := (yX8_planned, cX8_planned, 2, (some Jvm.ClassFile.FieldType.int), 1, 6, 141, false, 788, 786, 787, 86)
def k_X8_planned : List Ent := [(0, .iload_n 1, 1, 1, 0, 0, 0, 0, 0, []),
  (1, .tableswitch 57 0 2 #[27, 38, 46], 27, 58, 0, 0, 0, 0, 0, [(0, 28), (1, 39), (2, 47)]),
  (28, .aload_n 0, 1, 0, 0, 0, 0, 0, 0, []),
  (29, .invokevirtual 223, 3, 132, 0, 752, 7, 0, 0, []),
  (32, .getfield 230, 3, 2, 5, 243, 0, 0, 0, []),
  (35, .invokestatic 233, 3, 237, 1, 742, 0, 0, 0, []),
  (38, .ireturn, 1, 0, 0, 0, 0, 0, 0, []),
  (39, .aload_n 0, 1, 0, 0, 0, 0, 0, 0, []),
  (40, .invokevirtual 223, 3, 132, 0, 752, 7, 0, 0, []),
  (43, .invokevirtual 238, 3, 52, 0, 789, 2, 0, 0, []),
  (46, .ireturn, 1, 0, 0, 0, 0, 0, 0, []),
  (47, .aload_n 0, 1, 0, 0, 0, 0, 0, 0, []),
  (48, .invokevirtual 223, 3, 132, 0, 752, 7, 0, 0, []),
  (51, .getfield 241, 3, 2, 4, 241, 2, 0, 0, []),
  (54, .getfield 176, 3, 6, 4, 179, 0, 0, 0, []),
  (57, .ireturn, 1, 0, 0, 0, 0, 0, 0, []),
  (58, .iconst (-1), 1, 0, 0, 0, 0, -1, 0, []),
  (59, .ireturn, 1, 0, 0, 0, 0, 0, 0, [])]
def M_X8_adopt : MI := (yX8_adopt, cX8_adopt, 4, (some Jvm.ClassFile.FieldType.int), 0, 6, 141, false, 796, 794, 795, 86)
def k_X8_adopt : List Ent := [(0, .aload_n 0, 1, 0, 0, 0, 0, 0, 0, []),
  (1, .invokevirtual 223, 3, 132, 0, 752, 7, 0, 0, []),
  (4, .getfield 227, 3, 2, 2, 238, 2, 0, 0, []),
  (7, .astore_n 1, 1, 1, 0, 0, 0, 0, 0, []),
  (8, .iconst 0, 1, 0, 0, 0, 0, 0, 0, []),
  (9, .istore_n 2, 1, 2, 0, 0, 0, 0, 0, []),
  (10, .iconst 0, 1, 0, 0, 0, 0, 0, 0, []),
  (11, .istore_n 3, 1, 3, 0, 0, 0, 0, 0, []),
  (12, .iload_n 3, 1, 3, 0, 0, 0, 0, 0, []),
  (13, .aload_n 0, 1, 0, 0, 0, 0, 0, 0, []),
  (14, .getfield 14, 3, 7, 0, 332, 2, 0, 0, []),
  (17, .getfield 214, 3, 1, 3, 133, 0, 0, 0, []),
  (20, .if_icmp .ge 32, 3, 52, 0, 0, 0, 0, 0, []),
  (23, .aload_n 1, 1, 1, 0, 0, 0, 0, 0, []),
  (24, .iload_n 3, 1, 3, 0, 0, 0, 0, 0, []),
  (25, .iaload, 1, 0, 0, 0, 0, 0, 0, []),
  (26, .iconst (-1), 1, 0, 0, 0, 0, -1, 0, []),
  (27, .if_icmp .eq 19, 3, 46, 0, 0, 0, 0, 0, []),
  (30, .aload_n 0, 1, 0, 0, 0, 0, 0, 0, []),
  (31, .getfield 14, 3, 7, 0, 332, 2, 0, 0, []),
  (34, .iload_n 3, 1, 3, 0, 0, 0, 0, 0, []),
  (35, .iconst 5, 1, 0, 0, 0, 0, 5, 0, []),
  (36, .aload_n 1, 1, 1, 0, 0, 0, 0, 0, []),
  (37, .iload_n 3, 1, 3, 0, 0, 0, 0, 0, []),
  (38, .iaload, 1, 0, 0, 0, 0, 0, 0, []),
  (39, .invokevirtual 95, 3, 32, 3, 480, 1, 0, 0, []),
  (42, .pop, 1, 0, 0, 0, 0, 0, 0, []),
  (43, .iinc 2 1, 3, 2, 0, 0, 0, 1, 0, []),
  (46, .iinc 3 1, 3, 3, 0, 0, 0, 1, 0, []),
  (49, .goto (-37), 3, 12, 0, 0, 0, 0, 0, []),
  (52, .aload_n 0, 1, 0, 0, 0, 0, 0, 0, []),
  (53, .iload_n 2, 1, 2, 0, 0, 0, 0, 0, []),
  (54, .invokevirtual 74, 3, 129, 1, 427, 7, 0, 0, []),
  (57, .ireturn, 1, 0, 0, 0, 0, 0, 0, [])]
def M_X8_feed : MI := (yX8_feed, cX8_feed, 2, (some Jvm.ClassFile.FieldType.int), 1, 1, 21, false, 800, 798, 799, 86)
def k_X8_feed : List Ent := [(0, .aload_n 0, 1, 0, 0, 0, 0, 0, 0, []),
  (1, .getfield 55, 3, 7, 7, 339, 2, 0, 0, []),
  (4, .iload_n 1, 1, 1, 0, 0, 0, 0, 0, []),
  (5, .invokevirtual 242, 3, 53, 1, 801, 3, 0, 0, []),
  (8, .ireturn, 1, 0, 0, 0, 0, 0, 0, [])]
def M_X8_read : MI := (yX8_read, cX8_read, 2, (some Jvm.ClassFile.FieldType.int), 0, 10, 214, false, 808, 806, 807, 86)
def k_X8_read : List Ent := [(0, .aload_n 0, 1, 0, 0, 0, 0, 0, 0, []),
  (1, .getfield 55, 3, 7, 7, 339, 2, 0, 0, []),
  (4, .invokevirtual 245, 3, 54, 0, 809, 3, 0, 0, []),
  (7, .istore_n 1, 1, 1, 0, 0, 0, 0, 0, []),
  (8, .aload_n 0, 1, 0, 0, 0, 0, 0, 0, []),
  (9, .getfield 55, 3, 7, 7, 339, 2, 0, 0, []),
  (12, .iconst 0, 1, 0, 0, 0, 0, 0, 0, []),
  (13, .putfield 248, 3, 3, 1, 287, 0, 0, 0, []),
  (16, .iload_n 1, 1, 1, 0, 0, 0, 0, 0, []),
  (17, .iconst (-1), 1, 0, 0, 0, 0, -1, 0, []),
  (18, .if_icmp .eq 8, 3, 26, 0, 0, 0, 0, 0, []),
  (21, .bipush (-100), 2, 0, 0, 0, 0, -100, 0, []),
  (23, .iload_n 1, 1, 1, 0, 0, 0, 0, 0, []),
  (24, .isub, 1, 0, 0, 0, 0, 0, 0, []),
  (25, .ireturn, 1, 0, 0, 0, 0, 0, 0, []),
  (26, .aload_n 0, 1, 0, 0, 0, 0, 0, 0, []),
  (27, .getfield 21, 3, 7, 2, 334, 2, 0, 0, []),
  (30, .aload_n 0, 1, 0, 0, 0, 0, 0, 0, []),
  (31, .getfield 14, 3, 7, 0, 332, 2, 0, 0, []),
  (34, .invokevirtual 249, 3, 23, 1, 917, 1, 0, 0, []),
  (37, .aload_n 0, 1, 0, 0, 0, 0, 0, 0, []),
  (38, .getfield 55, 3, 7, 7, 339, 2, 0, 0, []),
  (41, .aload_n 0, 1, 0, 0, 0, 0, 0, 0, []),
  (42, .getfield 21, 3, 7, 2, 334, 2, 0, 0, []),
  (45, .invokevirtual 252, 3, 65, 1, 921, 3, 0, 0, []),
  (48, .istore_n 1, 1, 1, 0, 0, 0, 0, 0, []),
  (49, .iload_n 1, 1, 1, 0, 0, 0, 0, 0, []),
  (50, .iconst (-1), 1, 0, 0, 0, 0, -1, 0, []),
  (51, .if_icmp .eq 9, 3, 60, 0, 0, 0, 0, 0, []),
  (54, .sipush (-300), 3, 0, 0, 0, 0, -300, 0, []),
  (57, .iload_n 1, 1, 1, 0, 0, 0, 0, 0, []),
  (58, .isub, 1, 0, 0, 0, 0, 0, 0, []),
  (59, .ireturn, 1, 0, 0, 0, 0, 0, 0, []),
  (60, .aload_n 0, 1, 0, 0, 0, 0, 0, 0, []),
  (61, .getfield 14, 3, 7, 0, 332, 2, 0, 0, []),
  (64, .aload_n 0, 1, 0, 0, 0, 0, 0, 0, []),
  (65, .getfield 21, 3, 7, 2, 334, 2, 0, 0, []),
  (68, .invokevirtual 249, 3, 23, 1, 917, 1, 0, 0, []),
  (71, .aload_n 0, 1, 0, 0, 0, 0, 0, 0, []),
  (72, .dup, 1, 0, 0, 0, 0, 0, 0, []),
  (73, .getfield 256, 3, 7, 14, 346, 0, 0, 0, []),
  (76, .iconst 1, 1, 0, 0, 0, 0, 1, 0, []),
  (77, .iadd, 1, 0, 0, 0, 0, 0, 0, []),
  (78, .putfield 256, 3, 7, 14, 346, 0, 0, 0, []),
  (81, .aload_n 0, 1, 0, 0, 0, 0, 0, 0, []),
  (82, .aload_n 0, 1, 0, 0, 0, 0, 0, 0, []),
  (83, .getfield 55, 3, 7, 7, 339, 2, 0, 0, []),
  (86, .getfield 259, 3, 3, 2, 289, 0, 0, 0, []),
  (89, .invokevirtual 74, 3, 129, 1, 427, 7, 0, 0, []),
  (92, .ireturn, 1, 0, 0, 0, 0, 0, 0, [])]
def M_X8_spell : MI := (yX8_spell, cX8_spell, 1, (some Jvm.ClassFile.FieldType.int), 0, 10, 213, false, 936, 934, 935, 86)
def k_X8_spell : List Ent := [(0, .aload_n 0, 1, 0, 0, 0, 0, 0, 0, []),
  (1, .invokevirtual 262, 3, 133, 0, 937, 7, 0, 0, []),
  (4, .getfield 266, 3, 4, 1, 272, 0, 0, 0, []),
  (7, .ireturn, 1, 0, 0, 0, 0, 0, 0, [])]
def M_X8_paper : MI := (yX8_paper, cX8_paper, 3, (some Jvm.ClassFile.FieldType.int), 1, 10, 213, false, 984, 982, 983, 86)
def k_X8_paper : List Ent := [(0, .aload_n 0, 1, 0, 0, 0, 0, 0, 0, []),
  (1, .invokevirtual 262, 3, 133, 0, 937, 7, 0, 0, []),
  (4, .astore_n 2, 1, 2, 0, 0, 0, 0, 0, []),
  (5, .iload_n 1, 1, 1, 0, 0, 0, 0, 0, []),
  (6, .ifCond .lt 11, 3, 17, 0, 0, 0, 0, 0, []),
  (9, .iload_n 1, 1, 1, 0, 0, 0, 0, 0, []),
  (10, .aload_n 2, 1, 2, 0, 0, 0, 0, 0, []),
  (11, .getfield 266, 3, 4, 1, 272, 0, 0, 0, []),
  (14, .if_icmp .lt 7, 3, 21, 0, 0, 0, 0, 0, []),
  (17, .iconst (-1), 1, 0, 0, 0, 0, -1, 0, []),
  (18, .goto 9, 3, 27, 0, 0, 0, 0, 0, []),
  (21, .aload_n 2, 1, 2, 0, 0, 0, 0, 0, []),
  (22, .getfield 267, 3, 4, 0, 270, 2, 0, 0, []),
  (25, .iload_n 1, 1, 1, 0, 0, 0, 0, 0, []),
  (26, .baload, 1, 0, 0, 0, 0, 0, 0, []),
  (27, .ireturn, 1, 0, 0, 0, 0, 0, 0, [])]
def M_X8_step : MI := (yX8_step, cX8_step, 3, (some Jvm.ClassFile.FieldType.int), 0, 5, 113, false, 988, 986, 987, 86)
def k_X8_step : List Ent := [(0, .aload_n 0, 1, 0, 0, 0, 0, 0, 0, []),
  (1, .invokevirtual 117, 3, 131, 0, 511, 7, 0, 0, []),
  (4, .getfield 152, 3, 0, 3, 206, 2, 0, 0, []),
  (7, .astore_n 1, 1, 1, 0, 0, 0, 0, 0, []),
  (8, .aload_n 0, 1, 0, 0, 0, 0, 0, 0, []),
  (9, .getfield 14, 3, 7, 0, 332, 2, 0, 0, []),
  (12, .getfield 271, 3, 1, 5, 139, 0, 0, 0, []),
  (15, .aload_n 1, 1, 1, 0, 0, 0, 0, 0, []),
  (16, .getfield 156, 3, 6, 3, 176, 0, 0, 0, []),
  (19, .if_icmp .lt 6, 3, 25, 0, 0, 0, 0, 0, []),
  (22, .bipush (-3), 2, 0, 0, 0, 0, -3, 0, []),
  (24, .ireturn, 1, 0, 0, 0, 0, 0, 0, []),
  (25, .aload_n 1, 1, 1, 0, 0, 0, 0, 0, []),
  (26, .getfield 166, 3, 6, 2, 173, 2, 0, 0, []),
  (29, .aload_n 0, 1, 0, 0, 0, 0, 0, 0, []),
  (30, .getfield 14, 3, 7, 0, 332, 2, 0, 0, []),
  (33, .getfield 271, 3, 1, 5, 139, 0, 0, 0, []),
  (36, .iaload, 1, 0, 0, 0, 0, 0, 0, []),
  (37, .istore_n 2, 1, 2, 0, 0, 0, 0, 0, []),
  (38, .aload_n 0, 1, 0, 0, 0, 0, 0, 0, []),
  (39, .getfield 14, 3, 7, 0, 332, 2, 0, 0, []),
  (42, .dup, 1, 0, 0, 0, 0, 0, 0, []),
  (43, .getfield 271, 3, 1, 5, 139, 0, 0, 0, []),
  (46, .iconst 1, 1, 0, 0, 0, 0, 1, 0, []),
  (47, .iadd, 1, 0, 0, 0, 0, 0, 0, []),
  (48, .putfield 271, 3, 1, 5, 139, 0, 0, 0, []),
  (51, .iload_n 2, 1, 2, 0, 0, 0, 0, 0, []),
  (52, .ireturn, 1, 0, 0, 0, 0, 0, 0, [])]
def M_X8_stepped : MI := (yX8_stepped, cX8_stepped, 3, (some Jvm.ClassFile.FieldType.int), 1, 5, 113, false, 992, 990, 991, 86)
def k_X8_stepped : List Ent := [(0, .aload_n 0, 1, 0, 0, 0, 0, 0, 0, []),
  (1, .invokevirtual 117, 3, 131, 0, 511, 7, 0, 0, []),
  (4, .astore_n 2, 1, 2, 0, 0, 0, 0, 0, []),
  (5, .iload_n 1, 1, 1, 0, 0, 0, 0, 0, []),
  (6, .tableswitch 90 0 3 #[30, 38, 53, 68], 30, 96, 0, 0, 0, 0, 0, [(0, 36), (1, 44), (2, 59), (3, 74)]),
  (36, .aload_n 0, 1, 0, 0, 0, 0, 0, 0, []),
  (37, .getfield 14, 3, 7, 0, 332, 2, 0, 0, []),
  (40, .getfield 271, 3, 1, 5, 139, 0, 0, 0, []),
  (43, .ireturn, 1, 0, 0, 0, 0, 0, 0, []),
  (44, .aload_n 2, 1, 2, 0, 0, 0, 0, 0, []),
  (45, .getfield 152, 3, 0, 3, 206, 2, 0, 0, []),
  (48, .aload_n 0, 1, 0, 0, 0, 0, 0, 0, []),
  (49, .getfield 14, 3, 7, 0, 332, 2, 0, 0, []),
  (52, .getfield 271, 3, 1, 5, 139, 0, 0, 0, []),
  (55, .invokevirtual 274, 3, 88, 1, 993, 6, 0, 0, []),
  (58, .ireturn, 1, 0, 0, 0, 0, 0, 0, []),
  (59, .aload_n 2, 1, 2, 0, 0, 0, 0, 0, []),
  (60, .getfield 152, 3, 0, 3, 206, 2, 0, 0, []),
  (63, .aload_n 0, 1, 0, 0, 0, 0, 0, 0, []),
  (64, .getfield 14, 3, 7, 0, 332, 2, 0, 0, []),
  (67, .getfield 271, 3, 1, 5, 139, 0, 0, 0, []),
  (70, .invokevirtual 277, 3, 89, 1, 997, 6, 0, 0, []),
  (73, .ireturn, 1, 0, 0, 0, 0, 0, 0, []),
  (74, .aload_n 2, 1, 2, 0, 0, 0, 0, 0, []),
  (75, .getfield 193, 3, 0, 4, 208, 0, 0, 0, []),
  (78, .aload_n 2, 1, 2, 0, 0, 0, 0, 0, []),
  (79, .getfield 152, 3, 0, 3, 206, 2, 0, 0, []),
  (82, .aload_n 0, 1, 0, 0, 0, 0, 0, 0, []),
  (83, .getfield 14, 3, 7, 0, 332, 2, 0, 0, []),
  (86, .getfield 271, 3, 1, 5, 139, 0, 0, 0, []),
  (89, .invokevirtual 280, 3, 90, 1, 1001, 6, 0, 0, []),
  (92, .iconst (-1), 1, 0, 0, 0, 0, -1, 0, []),
  (93, .ixor, 1, 0, 0, 0, 0, 0, 0, []),
  (94, .iand, 1, 0, 0, 0, 0, 0, 0, []),
  (95, .ireturn, 1, 0, 0, 0, 0, 0, 0, []),
  (96, .iconst (-1), 1, 0, 0, 0, 0, -1, 0, []),
  (97, .ireturn, 1, 0, 0, 0, 0, 0, 0, [])]
def M_X8_list : MI := (yX8_list, cX8_list, 3, (some Jvm.ClassFile.FieldType.int), 2, 2, 46, false, 1010, 1008, 1009, 86)
def k_X8_list : List Ent := [(0, .iload_n 1, 1, 1, 0, 0, 0, 0, 0, []),
  (1, .invokestatic 283, 3, 75, 1, 1011, 0, 0, 0, []),
  (4, .ifCond .ne 5, 3, 9, 0, 0, 0, 0, 0, []),
  (7, .iconst (-1), 1, 0, 0, 0, 0, -1, 0, []),
  (8, .ireturn, 1, 0, 0, 0, 0, 0, 0, []),
  (9, .iload_n 2, 1, 2, 0, 0, 0, 0, 0, []),
  (10, .bipush 40, 2, 0, 0, 0, 0, 40, 0, []),
  (12, .if_icmp .le 6, 3, 18, 0, 0, 0, 0, 0, []),
  (15, .bipush (-2), 2, 0, 0, 0, 0, -2, 0, []),
  (17, .ireturn, 1, 0, 0, 0, 0, 0, 0, []),
  (18, .iload_n 2, 1, 2, 0, 0, 0, 0, 0, []),
  (19, .iconst (-1), 1, 0, 0, 0, 0, -1, 0, []),
  (20, .if_icmp .ge 6, 3, 26, 0, 0, 0, 0, 0, []),
  (23, .bipush (-14), 2, 0, 0, 0, 0, -14, 0, []),
  (25, .ireturn, 1, 0, 0, 0, 0, 0, 0, []),
  (26, .aload_n 0, 1, 0, 0, 0, 0, 0, 0, []),
  (27, .getfield 62, 3, 7, 8, 340, 2, 0, 0, []),
  (30, .iload_n 1, 1, 1, 0, 0, 0, 0, 0, []),
  (31, .iload_n 2, 1, 2, 0, 0, 0, 0, 0, []),
  (32, .invokevirtual 286, 3, 79, 2, 1014, 5, 0, 0, []),
  (35, .iconst 1, 1, 0, 0, 0, 0, 1, 0, []),
  (36, .ireturn, 1, 0, 0, 0, 0, 0, 0, [])]
def M_X8_put : MI := (yX8_put, cX8_put, 5, (some Jvm.ClassFile.FieldType.int), 3, 1, 22, false, 1024, 1022, 1023, 86)
def k_X8_put : List Ent := [(0, .iload_n 1, 1, 1, 0, 0, 0, 0, 0, []),
  (1, .invokestatic 283, 3, 75, 1, 1011, 0, 0, 0, []),
  (4, .ifCond .ne 5, 3, 9, 0, 0, 0, 0, 0, []),
  (7, .iconst (-1), 1, 0, 0, 0, 0, -1, 0, []),
  (8, .ireturn, 1, 0, 0, 0, 0, 0, 0, []),
  (9, .aload_n 0, 1, 0, 0, 0, 0, 0, 0, []),
  (10, .getfield 62, 3, 7, 8, 340, 2, 0, 0, []),
  (13, .iload_n 1, 1, 1, 0, 0, 0, 0, 0, []),
  (14, .invokevirtual 290, 3, 76, 1, 1025, 5, 0, 0, []),
  (17, .ifCond .eq 6, 3, 23, 0, 0, 0, 0, 0, []),
  (20, .bipush (-11), 2, 0, 0, 0, 0, -11, 0, []),
  (22, .ireturn, 1, 0, 0, 0, 0, 0, 0, []),
  (23, .aload_n 0, 1, 0, 0, 0, 0, 0, 0, []),
  (24, .getfield 62, 3, 7, 8, 340, 2, 0, 0, []),
  (27, .iload_n 1, 1, 1, 0, 0, 0, 0, 0, []),
  (28, .iload_n 2, 1, 2, 0, 0, 0, 0, 0, []),
  (29, .invokevirtual 293, 3, 77, 2, 1029, 5, 0, 0, []),
  (32, .ifCond .ne 6, 3, 38, 0, 0, 0, 0, 0, []),
  (35, .bipush (-12), 2, 0, 0, 0, 0, -12, 0, []),
  (37, .ireturn, 1, 0, 0, 0, 0, 0, 0, []),
  (38, .aload_n 0, 1, 0, 0, 0, 0, 0, 0, []),
  (39, .getfield 62, 3, 7, 8, 340, 2, 0, 0, []),
  (42, .getfield 296, 3, 5, 0, 324, 2, 0, 0, []),
  (45, .iload_n 1, 1, 1, 0, 0, 0, 0, 0, []),
  (46, .aaload, 1, 0, 0, 0, 0, 0, 0, []),
  (47, .iload_n 2, 1, 2, 0, 0, 0, 0, 0, []),
  (48, .lload_n 3, 1, 3, 0, 0, 0, 0, 0, []),
  (49, .lastore, 1, 0, 0, 0, 0, 0, 0, []),
  (50, .iconst 1, 1, 0, 0, 0, 0, 1, 0, []),
  (51, .ireturn, 1, 0, 0, 0, 0, 0, 0, [])]
def M_X8_get : MI := (yX8_get, cX8_get, 3, (some Jvm.ClassFile.FieldType.long), 2, 1, 22, false, 1036, 1034, 1035, 86)
def k_X8_get : List Ent := [(0, .iload_n 1, 1, 1, 0, 0, 0, 0, 0, []),
  (1, .invokestatic 283, 3, 75, 1, 1011, 0, 0, 0, []),
  (4, .ifCond .eq 29, 3, 33, 0, 0, 0, 0, 0, []),
  (7, .aload_n 0, 1, 0, 0, 0, 0, 0, 0, []),
  (8, .getfield 62, 3, 7, 8, 340, 2, 0, 0, []),
  (11, .iload_n 1, 1, 1, 0, 0, 0, 0, 0, []),
  (12, .iload_n 2, 1, 2, 0, 0, 0, 0, 0, []),
  (13, .invokevirtual 293, 3, 77, 2, 1029, 5, 0, 0, []),
  (16, .ifCond .eq 17, 3, 33, 0, 0, 0, 0, 0, []),
  (19, .aload_n 0, 1, 0, 0, 0, 0, 0, 0, []),
  (20, .getfield 62, 3, 7, 8, 340, 2, 0, 0, []),
  (23, .getfield 296, 3, 5, 0, 324, 2, 0, 0, []),
  (26, .iload_n 1, 1, 1, 0, 0, 0, 0, 0, []),
  (27, .aaload, 1, 0, 0, 0, 0, 0, 0, []),
  (28, .iload_n 2, 1, 2, 0, 0, 0, 0, 0, []),
  (29, .laload, 1, 0, 0, 0, 0, 0, 0, []),
  (30, .goto 6, 3, 36, 0, 0, 0, 0, 0, []),
  (33, .ldc2_w 188, 3, 0, 0, 678, 0, 0, -9223372036854775808, []),
  (36, .lreturn, 1, 0, 0, 0, 0, 0, 0, [])]
def M_X8_fill : MI := (yX8_fill, cX8_fill, 3, (some Jvm.ClassFile.FieldType.int), 2, 5, 113, false, 1040, 1038, 1039, 86)
def k_X8_fill : List Ent := [(0, .iload_n 1, 1, 1, 0, 0, 0, 0, 0, []),
  (1, .invokestatic 283, 3, 75, 1, 1011, 0, 0, 0, []),
  (4, .ifCond .eq 10, 3, 14, 0, 0, 0, 0, 0, []),
  (7, .iload_n 2, 1, 2, 0, 0, 0, 0, 0, []),
  (8, .invokestatic 300, 3, 14, 1, 1041, 0, 0, 0, []),
  (11, .ifCond .ne 5, 3, 16, 0, 0, 0, 0, 0, []),
  (14, .iconst (-1), 1, 0, 0, 0, 0, -1, 0, []),
  (15, .ireturn, 1, 0, 0, 0, 0, 0, 0, []),
  (16, .aload_n 0, 1, 0, 0, 0, 0, 0, 0, []),
  (17, .getfield 62, 3, 7, 8, 340, 2, 0, 0, []),
  (20, .iload_n 1, 1, 1, 0, 0, 0, 0, 0, []),
  (21, .invokevirtual 290, 3, 76, 1, 1025, 5, 0, 0, []),
  (24, .ifCond .eq 6, 3, 30, 0, 0, 0, 0, 0, []),
  (27, .bipush (-11), 2, 0, 0, 0, 0, -11, 0, []),
  (29, .ireturn, 1, 0, 0, 0, 0, 0, 0, []),
  (30, .aload_n 0, 1, 0, 0, 0, 0, 0, 0, []),
  (31, .getfield 62, 3, 7, 8, 340, 2, 0, 0, []),
  (34, .iload_n 1, 1, 1, 0, 0, 0, 0, 0, []),
  (35, .aload_n 0, 1, 0, 0, 0, 0, 0, 0, []),
  (36, .getfield 66, 3, 7, 9, 341, 2, 0, 0, []),
  (39, .aload_n 0, 1, 0, 0, 0, 0, 0, 0, []),
  (40, .invokevirtual 117, 3, 131, 0, 511, 7, 0, 0, []),
  (43, .iload_n 2, 1, 2, 0, 0, 0, 0, 0, []),
  (44, .aload_n 0, 1, 0, 0, 0, 0, 0, 0, []),
  (45, .getfield 66, 3, 7, 9, 341, 2, 0, 0, []),
  (48, .invokevirtual 303, 3, 15, 2, 1044, 0, 0, 0, []),
  (51, .invokevirtual 307, 3, 80, 3, 1049, 5, 0, 0, []),
  (54, .ireturn, 1, 0, 0, 0, 0, 0, 0, [])]
def M_X8_judge : MI := (yX8_judge, cX8_judge, 3, (some Jvm.ClassFile.FieldType.int), 2, 5, 113, false, 1057, 1055, 1056, 86)
def k_X8_judge : List Ent := [(0, .iload_n 1, 1, 1, 0, 0, 0, 0, 0, []),
  (1, .invokestatic 283, 3, 75, 1, 1011, 0, 0, 0, []),
  (4, .ifCond .eq 10, 3, 14, 0, 0, 0, 0, 0, []),
  (7, .iload_n 2, 1, 2, 0, 0, 0, 0, 0, []),
  (8, .invokestatic 300, 3, 14, 1, 1041, 0, 0, 0, []),
  (11, .ifCond .ne 5, 3, 16, 0, 0, 0, 0, 0, []),
  (14, .iconst (-1), 1, 0, 0, 0, 0, -1, 0, []),
  (15, .ireturn, 1, 0, 0, 0, 0, 0, 0, []),
  (16, .aload_n 0, 1, 0, 0, 0, 0, 0, 0, []),
  (17, .getfield 62, 3, 7, 8, 340, 2, 0, 0, []),
  (20, .iload_n 1, 1, 1, 0, 0, 0, 0, 0, []),
  (21, .invokevirtual 290, 3, 76, 1, 1025, 5, 0, 0, []),
  (24, .ifCond .eq 6, 3, 30, 0, 0, 0, 0, 0, []),
  (27, .bipush (-11), 2, 0, 0, 0, 0, -11, 0, []),
  (29, .ireturn, 1, 0, 0, 0, 0, 0, 0, []),
  (30, .aload_n 0, 1, 0, 0, 0, 0, 0, 0, []),
  (31, .getfield 62, 3, 7, 8, 340, 2, 0, 0, []),
  (34, .iload_n 1, 1, 1, 0, 0, 0, 0, 0, []),
  (35, .aload_n 0, 1, 0, 0, 0, 0, 0, 0, []),
  (36, .getfield 66, 3, 7, 9, 341, 2, 0, 0, []),
  (39, .aload_n 0, 1, 0, 0, 0, 0, 0, 0, []),
  (40, .invokevirtual 117, 3, 131, 0, 511, 7, 0, 0, []),
  (43, .iload_n 2, 1, 2, 0, 0, 0, 0, 0, []),
  (44, .aload_n 0, 1, 0, 0, 0, 0, 0, 0, []),
  (45, .getfield 66, 3, 7, 9, 341, 2, 0, 0, []),
  (48, .invokevirtual 303, 3, 15, 2, 1044, 0, 0, 0, []),
  (51, .invokevirtual 311, 3, 81, 3, 1058, 5, 0, 0, []),
  (54, .ireturn, 1, 0, 0, 0, 0, 0, 0, [])]
def M_X8_move : MI := (yX8_move, cX8_move, 6, (some Jvm.ClassFile.FieldType.int), 5, 1, 26, false, 1065, 1063, 1064, 86)
def k_X8_move : List Ent := [(0, .iload_n 1, 1, 1, 0, 0, 0, 0, 0, []),
  (1, .invokestatic 283, 3, 75, 1, 1011, 0, 0, 0, []),
  (4, .ifCond .eq 10, 3, 14, 0, 0, 0, 0, 0, []),
  (7, .iload_n 3, 1, 3, 0, 0, 0, 0, 0, []),
  (8, .invokestatic 283, 3, 75, 1, 1011, 0, 0, 0, []),
  (11, .ifCond .ne 5, 3, 16, 0, 0, 0, 0, 0, []),
  (14, .iconst (-1), 1, 0, 0, 0, 0, -1, 0, []),
  (15, .ireturn, 1, 0, 0, 0, 0, 0, 0, []),
  (16, .aload_n 0, 1, 0, 0, 0, 0, 0, 0, []),
  (17, .getfield 62, 3, 7, 8, 340, 2, 0, 0, []),
  (20, .iload_n 1, 1, 1, 0, 0, 0, 0, 0, []),
  (21, .invokevirtual 290, 3, 76, 1, 1025, 5, 0, 0, []),
  (24, .ifCond .ne 14, 3, 38, 0, 0, 0, 0, 0, []),
  (27, .aload_n 0, 1, 0, 0, 0, 0, 0, 0, []),
  (28, .getfield 62, 3, 7, 8, 340, 2, 0, 0, []),
  (31, .iload_n 3, 1, 3, 0, 0, 0, 0, 0, []),
  (32, .invokevirtual 290, 3, 76, 1, 1025, 5, 0, 0, []),
  (35, .ifCond .eq 6, 3, 41, 0, 0, 0, 0, 0, []),
  (38, .bipush (-11), 2, 0, 0, 0, 0, -11, 0, []),
  (40, .ireturn, 1, 0, 0, 0, 0, 0, 0, []),
  (41, .aload_n 0, 1, 0, 0, 0, 0, 0, 0, []),
  (42, .getfield 62, 3, 7, 8, 340, 2, 0, 0, []),
  (45, .iload_n 1, 1, 1, 0, 0, 0, 0, 0, []),
  (46, .iload_n 2, 1, 2, 0, 0, 0, 0, 0, []),
  (47, .iload 5, 2, 5, 0, 0, 0, 0, 0, []),
  (49, .invokevirtual 314, 3, 78, 3, 1066, 5, 0, 0, []),
  (52, .ifCond .eq 18, 3, 70, 0, 0, 0, 0, 0, []),
  (55, .aload_n 0, 1, 0, 0, 0, 0, 0, 0, []),
  (56, .getfield 62, 3, 7, 8, 340, 2, 0, 0, []),
  (59, .iload_n 3, 1, 3, 0, 0, 0, 0, 0, []),
  (60, .iload 4, 2, 4, 0, 0, 0, 0, 0, []),
  (62, .iload 5, 2, 5, 0, 0, 0, 0, 0, []),
  (64, .invokevirtual 314, 3, 78, 3, 1066, 5, 0, 0, []),
  (67, .ifCond .ne 6, 3, 73, 0, 0, 0, 0, 0, []),
  (70, .bipush (-12), 2, 0, 0, 0, 0, -12, 0, []),
  (72, .ireturn, 1, 0, 0, 0, 0, 0, 0, []),
  (73, .aload_n 0, 1, 0, 0, 0, 0, 0, 0, []),
  (74, .getfield 62, 3, 7, 8, 340, 2, 0, 0, []),
  (77, .getfield 296, 3, 5, 0, 324, 2, 0, 0, []),
  (80, .iload_n 1, 1, 1, 0, 0, 0, 0, 0, []),
  (81, .aaload, 1, 0, 0, 0, 0, 0, 0, []),
  (82, .iload_n 2, 1, 2, 0, 0, 0, 0, 0, []),
  (83, .aload_n 0, 1, 0, 0, 0, 0, 0, 0, []),
  (84, .getfield 62, 3, 7, 8, 340, 2, 0, 0, []),
  (87, .getfield 296, 3, 5, 0, 324, 2, 0, 0, []),
  (90, .iload_n 3, 1, 3, 0, 0, 0, 0, 0, []),
  (91, .aaload, 1, 0, 0, 0, 0, 0, 0, []),
  (92, .iload 4, 2, 4, 0, 0, 0, 0, 0, []),
  (94, .iload 5, 2, 5, 0, 0, 0, 0, 0, []),
  (96, .invokestatic 318, 3, 0, 0, 1070, 8, 0, 0, []),
  (99, .iload 5, 2, 5, 0, 0, 0, 0, 0, []),
  (101, .ireturn, 1, 0, 0, 0, 0, 0, 0, [])]
def M_X8_count : MI := (yX8_count, cX8_count, 2, (some Jvm.ClassFile.FieldType.int), 1, 0, 0, false, 1074, 1072, 1073, 86)
def k_X8_count : List Ent := [(0, .iload_n 1, 1, 1, 0, 0, 0, 0, 0, []),
  (1, .tableswitch 102 0 6 #[43, 51, 59, 67, 72, 82, 92], 43, 103, 0, 0, 0, 0, 0, [(0, 44), (1, 52), (2, 60), (3, 68), (4, 73), (5, 83), (6, 93)]),
  (44, .aload_n 0, 1, 0, 0, 0, 0, 0, 0, []),
  (45, .getfield 14, 3, 7, 0, 332, 2, 0, 0, []),
  (48, .getfield 214, 3, 1, 3, 133, 0, 0, 0, []),
  (51, .ireturn, 1, 0, 0, 0, 0, 0, 0, []),
  (52, .aload_n 0, 1, 0, 0, 0, 0, 0, 0, []),
  (53, .getfield 14, 3, 7, 0, 332, 2, 0, 0, []),
  (56, .getfield 220, 3, 1, 4, 137, 0, 0, 0, []),
  (59, .ireturn, 1, 0, 0, 0, 0, 0, 0, []),
  (60, .aload_n 0, 1, 0, 0, 0, 0, 0, 0, []),
  (61, .getfield 55, 3, 7, 7, 339, 2, 0, 0, []),
  (64, .getfield 248, 3, 3, 1, 287, 0, 0, 0, []),
  (67, .ireturn, 1, 0, 0, 0, 0, 0, 0, []),
  (68, .aload_n 0, 1, 0, 0, 0, 0, 0, 0, []),
  (69, .getfield 256, 3, 7, 14, 346, 0, 0, 0, []),
  (72, .ireturn, 1, 0, 0, 0, 0, 0, 0, []),
  (73, .aload_n 0, 1, 0, 0, 0, 0, 0, 0, []),
  (74, .getfield 14, 3, 7, 0, 332, 2, 0, 0, []),
  (77, .getfield 170, 3, 1, 2, 128, 2, 0, 0, []),
  (80, .iconst 0, 1, 0, 0, 0, 0, 0, 0, []),
  (81, .iaload, 1, 0, 0, 0, 0, 0, 0, []),
  (82, .ireturn, 1, 0, 0, 0, 0, 0, 0, []),
  (83, .aload_n 0, 1, 0, 0, 0, 0, 0, 0, []),
  (84, .getfield 14, 3, 7, 0, 332, 2, 0, 0, []),
  (87, .getfield 170, 3, 1, 2, 128, 2, 0, 0, []),
  (90, .iconst 1, 1, 0, 0, 0, 0, 1, 0, []),
  (91, .iaload, 1, 0, 0, 0, 0, 0, 0, []),
  (92, .ireturn, 1, 0, 0, 0, 0, 0, 0, []),
  (93, .aload_n 0, 1, 0, 0, 0, 0, 0, 0, []),
  (94, .getfield 14, 3, 7, 0, 332, 2, 0, 0, []),
  (97, .getfield 170, 3, 1, 2, 128, 2, 0, 0, []),
  (100, .iconst 2, 1, 0, 0, 0, 0, 2, 0, []),
  (101, .iaload, 1, 0, 0, 0, 0, 0, 0, []),
  (102, .ireturn, 1, 0, 0, 0, 0, 0, 0, []),
  (103, .iconst (-1), 1, 0, 0, 0, 0, -1, 0, []),
  (104, .ireturn, 1, 0, 0, 0, 0, 0, 0, [])]
def M_X8_image : MI := (yX8_image, cX8_image, 1, (some Jvm.ClassFile.FieldType.int), 0, 2, 47, false, 1078, 1076, 1077, 86)
def k_X8_image : List Ent := [(0, .aload_n 0, 1, 0, 0, 0, 0, 0, 0, []),
  (1, .getfield 18, 3, 7, 1, 333, 2, 0, 0, []),
  (4, .aload_n 0, 1, 0, 0, 0, 0, 0, 0, []),
  (5, .getfield 14, 3, 7, 0, 332, 2, 0, 0, []),
  (8, .invokevirtual 249, 3, 23, 1, 917, 1, 0, 0, []),
  (11, .aload_n 0, 1, 0, 0, 0, 0, 0, 0, []),
  (12, .iconst 1, 1, 0, 0, 0, 0, 1, 0, []),
  (13, .putfield 324, 3, 7, 10, 342, 1, 0, 0, []),
  (16, .aload_n 0, 1, 0, 0, 0, 0, 0, 0, []),
  (17, .getfield 18, 3, 7, 1, 333, 2, 0, 0, []),
  (20, .getfield 214, 3, 1, 3, 133, 0, 0, 0, []),
  (23, .ireturn, 1, 0, 0, 0, 0, 0, 0, [])]
def M_X8_undo : MI := (yX8_undo, cX8_undo, 1, (some Jvm.ClassFile.FieldType.int), 0, 2, 47, false, 1082, 1080, 1081, 86)
def k_X8_undo : List Ent := [(0, .aload_n 0, 1, 0, 0, 0, 0, 0, 0, []),
  (1, .getfield 324, 3, 7, 10, 342, 1, 0, 0, []),
  (4, .ifCond .ne 6, 3, 10, 0, 0, 0, 0, 0, []),
  (7, .bipush (-3), 2, 0, 0, 0, 0, -3, 0, []),
  (9, .ireturn, 1, 0, 0, 0, 0, 0, 0, []),
  (10, .aload_n 0, 1, 0, 0, 0, 0, 0, 0, []),
  (11, .getfield 14, 3, 7, 0, 332, 2, 0, 0, []),
  (14, .aload_n 0, 1, 0, 0, 0, 0, 0, 0, []),
  (15, .getfield 18, 3, 7, 1, 333, 2, 0, 0, []),
  (18, .invokevirtual 249, 3, 23, 1, 917, 1, 0, 0, []),
  (21, .aload_n 0, 1, 0, 0, 0, 0, 0, 0, []),
  (22, .invokevirtual 328, 3, 130, 0, 431, 7, 0, 0, []),
  (25, .aload_n 0, 1, 0, 0, 0, 0, 0, 0, []),
  (26, .getfield 14, 3, 7, 0, 332, 2, 0, 0, []),
  (29, .getfield 214, 3, 1, 3, 133, 0, 0, 0, []),
  (32, .ireturn, 1, 0, 0, 0, 0, 0, 0, [])]
def M_X8_settled : MI := (yX8_settled, cX8_settled, 2, (some Jvm.ClassFile.FieldType.int), 1, 1, 20, false, 430, 429, 3, 86)
def k_X8_settled : List Ent := [(0, .iload_n 1, 1, 1, 0, 0, 0, 0, 0, []),
  (1, .ifCond .lt 15, 3, 16, 0, 0, 0, 0, 0, []),
  (4, .aload_n 0, 1, 0, 0, 0, 0, 0, 0, []),
  (5, .getfield 14, 3, 7, 0, 332, 2, 0, 0, []),
  (8, .iconst 0, 1, 0, 0, 0, 0, 0, 0, []),
  (9, .putfield 271, 3, 1, 5, 139, 0, 0, 0, []),
  (12, .aload_n 0, 1, 0, 0, 0, 0, 0, 0, []),
  (13, .invokevirtual 328, 3, 130, 0, 431, 7, 0, 0, []),
  (16, .iload_n 1, 1, 1, 0, 0, 0, 0, 0, []),
  (17, .ireturn, 1, 0, 0, 0, 0, 0, 0, [])]
def M_X8_forget : MI := (yX8_forget, cX8_forget, 1, (none), 0, 0, 0, false, 434, 433, 4, 86)
def k_X8_forget : List Ent := [(0, .aload_n 0, 1, 0, 0, 0, 0, 0, 0, []),
  (1, .iconst 0, 1, 0, 0, 0, 0, 0, 0, []),
  (2, .putfield 331, 3, 7, 11, 343, 1, 0, 0, []),
  (5, .aload_n 0, 1, 0, 0, 0, 0, 0, 0, []),
  (6, .iconst 0, 1, 0, 0, 0, 0, 0, 0, []),
  (7, .putfield 334, 3, 7, 12, 344, 1, 0, 0, []),
  (10, .aload_n 0, 1, 0, 0, 0, 0, 0, 0, []),
  (11, .iconst 0, 1, 0, 0, 0, 0, 0, 0, []),
  (12, .putfield 337, 3, 7, 13, 345, 1, 0, 0, []),
  (15, .return_, 1, 0, 0, 0, 0, 0, 0, [])]
def M_X8_reckoned : MI := (yX8_reckoned, cX8_reckoned, 1, (some (Jvm.ClassFile.FieldType.object "BlastFace$Blast")), 0, 4, 93, false, 514, 513, 5, 86)
def k_X8_reckoned : List Ent := [(0, .aload_n 0, 1, 0, 0, 0, 0, 0, 0, []),
  (1, .getfield 331, 3, 7, 11, 343, 1, 0, 0, []),
  (4, .ifCond .ne 30, 3, 34, 0, 0, 0, 0, 0, []),
  (7, .aload_n 0, 1, 0, 0, 0, 0, 0, 0, []),
  (8, .getfield 29, 3, 7, 3, 335, 2, 0, 0, []),
  (11, .aload_n 0, 1, 0, 0, 0, 0, 0, 0, []),
  (12, .getfield 14, 3, 7, 0, 332, 2, 0, 0, []),
  (15, .invokevirtual 199, 3, 38, 0, 515, 1, 0, 0, []),
  (18, .iconst (-1), 1, 0, 0, 0, 0, -1, 0, []),
  (19, .invokevirtual 340, 3, 0, 2, 519, 0, 0, 0, []),
  (22, .aload_n 0, 1, 0, 0, 0, 0, 0, 0, []),
  (23, .getfield 29, 3, 7, 3, 335, 2, 0, 0, []),
  (26, .invokevirtual 343, 3, 1, 0, 564, 0, 0, 0, []),
  (29, .aload_n 0, 1, 0, 0, 0, 0, 0, 0, []),
  (30, .iconst 1, 1, 0, 0, 0, 0, 1, 0, []),
  (31, .putfield 331, 3, 7, 11, 343, 1, 0, 0, []),
  (34, .aload_n 0, 1, 0, 0, 0, 0, 0, 0, []),
  (35, .getfield 29, 3, 7, 3, 335, 2, 0, 0, []),
  (38, .areturn, 1, 0, 0, 0, 0, 0, 0, [])]
def M_X8_drawn : MI := (yX8_drawn, cX8_drawn, 1, (some (Jvm.ClassFile.FieldType.object "BlastFace$Planner")), 0, 5, 121, false, 755, 754, 17, 86)
def k_X8_drawn : List Ent := [(0, .aload_n 0, 1, 0, 0, 0, 0, 0, 0, []),
  (1, .getfield 334, 3, 7, 12, 344, 1, 0, 0, []),
  (4, .ifCond .ne 20, 3, 24, 0, 0, 0, 0, 0, []),
  (7, .aload_n 0, 1, 0, 0, 0, 0, 0, 0, []),
  (8, .invokevirtual 117, 3, 131, 0, 511, 7, 0, 0, []),
  (11, .pop, 1, 0, 0, 0, 0, 0, 0, []),
  (12, .aload_n 0, 1, 0, 0, 0, 0, 0, 0, []),
  (13, .getfield 41, 3, 7, 5, 337, 2, 0, 0, []),
  (16, .invokevirtual 346, 3, 48, 0, 756, 2, 0, 0, []),
  (19, .aload_n 0, 1, 0, 0, 0, 0, 0, 0, []),
  (20, .iconst 1, 1, 0, 0, 0, 0, 1, 0, []),
  (21, .putfield 334, 3, 7, 12, 344, 1, 0, 0, []),
  (24, .aload_n 0, 1, 0, 0, 0, 0, 0, 0, []),
  (25, .getfield 41, 3, 7, 5, 337, 2, 0, 0, []),
  (28, .areturn, 1, 0, 0, 0, 0, 0, 0, [])]
def M_X8_written : MI := (yX8_written, cX8_written, 1, (some (Jvm.ClassFile.FieldType.object "BlastFace$Scribe")), 0, 9, 193, false, 940, 939, 29, 86)
def k_X8_written : List Ent := [(0, .aload_n 0, 1, 0, 0, 0, 0, 0, 0, []),
  (1, .getfield 337, 3, 7, 13, 345, 1, 0, 0, []),
  (4, .ifCond .ne 19, 3, 23, 0, 0, 0, 0, 0, []),
  (7, .aload_n 0, 1, 0, 0, 0, 0, 0, 0, []),
  (8, .getfield 48, 3, 7, 6, 338, 2, 0, 0, []),
  (11, .aload_n 0, 1, 0, 0, 0, 0, 0, 0, []),
  (12, .getfield 14, 3, 7, 0, 332, 2, 0, 0, []),
  (15, .invokevirtual 349, 3, 67, 1, 941, 4, 0, 0, []),
  (18, .aload_n 0, 1, 0, 0, 0, 0, 0, 0, []),
  (19, .iconst 1, 1, 0, 0, 0, 0, 1, 0, []),
  (20, .putfield 337, 3, 7, 13, 345, 1, 0, 0, []),
  (23, .aload_n 0, 1, 0, 0, 0, 0, 0, 0, []),
  (24, .getfield 48, 3, 7, 6, 338, 2, 0, 0, []),
  (27, .areturn, 1, 0, 0, 0, 0, 0, 0, [])]
def M_X8_think : MI := (yX8_think, cX8_think, 3, (none), 2, 4, 93, false, 720, 719, 13, 86)
def k_X8_think : List Ent := [(0, .aload_n 0, 1, 0, 0, 0, 0, 0, 0, []),
  (1, .getfield 33, 3, 7, 4, 336, 2, 0, 0, []),
  (4, .aload_n 0, 1, 0, 0, 0, 0, 0, 0, []),
  (5, .getfield 14, 3, 7, 0, 332, 2, 0, 0, []),
  (8, .invokevirtual 199, 3, 38, 0, 515, 1, 0, 0, []),
  (11, .iload_n 1, 1, 1, 0, 0, 0, 0, 0, []),
  (12, .invokestatic 352, 3, 140, 1, 721, 0, 0, 0, []),
  (15, .ior, 1, 0, 0, 0, 0, 0, 0, []),
  (16, .iload_n 2, 1, 2, 0, 0, 0, 0, 0, []),
  (17, .invokevirtual 340, 3, 0, 2, 519, 0, 0, 0, []),
  (20, .return_, 1, 0, 0, 0, 0, 0, 0, [])]
def M_X8_lostBy : MI := (yX8_lostBy, cX8_lostBy, 2, (some Jvm.ClassFile.FieldType.int), 1, 1, 20, false, 725, 724, 14, 86)
def k_X8_lostBy : List Ent := [(0, .aload_n 0, 1, 0, 0, 0, 0, 0, 0, []),
  (1, .getfield 29, 3, 7, 3, 335, 2, 0, 0, []),
  (4, .getfield 193, 3, 0, 4, 208, 0, 0, 0, []),
  (7, .aload_n 0, 1, 0, 0, 0, 0, 0, 0, []),
  (8, .getfield 33, 3, 7, 4, 336, 2, 0, 0, []),
  (11, .getfield 193, 3, 0, 4, 208, 0, 0, 0, []),
  (14, .iconst (-1), 1, 0, 0, 0, 0, -1, 0, []),
  (15, .ixor, 1, 0, 0, 0, 0, 0, 0, []),
  (16, .iand, 1, 0, 0, 0, 0, 0, 0, []),
  (17, .iload_n 1, 1, 1, 0, 0, 0, 0, 0, []),
  (18, .invokestatic 352, 3, 140, 1, 721, 0, 0, 0, []),
  (21, .iconst (-1), 1, 0, 0, 0, 0, -1, 0, []),
  (22, .ixor, 1, 0, 0, 0, 0, 0, 0, []),
  (23, .iand, 1, 0, 0, 0, 0, 0, 0, []),
  (24, .ireturn, 1, 0, 0, 0, 0, 0, 0, [])]
def M_X8_bared : MI := (yX8_bared, cX8_bared, 1, (some Jvm.ClassFile.FieldType.int), 0, 0, 0, false, 729, 728, 15, 86)
def k_X8_bared : List Ent := [(0, .aload_n 0, 1, 0, 0, 0, 0, 0, 0, []),
  (1, .getfield 33, 3, 7, 4, 336, 2, 0, 0, []),
  (4, .getfield 196, 3, 0, 5, 210, 0, 0, 0, []),
  (7, .aload_n 0, 1, 0, 0, 0, 0, 0, 0, []),
  (8, .getfield 29, 3, 7, 3, 335, 2, 0, 0, []),
  (11, .getfield 196, 3, 0, 5, 210, 0, 0, 0, []),
  (14, .iconst (-1), 1, 0, 0, 0, 0, -1, 0, []),
  (15, .ixor, 1, 0, 0, 0, 0, 0, 0, []),
  (16, .iand, 1, 0, 0, 0, 0, 0, 0, []),
  (17, .ireturn, 1, 0, 0, 0, 0, 0, 0, [])]
def M_X8_isHarm : MI := (yX8_isHarm, cX8_isHarm, 1, (some Jvm.ClassFile.FieldType.boolean), 1, 0, 0, true, 712, 711, 0, 86)
def k_X8_isHarm : List Ent := [(0, .iload_n 0, 1, 0, 0, 0, 0, 0, 0, []),
  (1, .ifCond .lt 12, 3, 13, 0, 0, 0, 0, 0, []),
  (4, .iload_n 0, 1, 0, 0, 0, 0, 0, 0, []),
  (5, .iconst 3, 1, 0, 0, 0, 0, 3, 0, []),
  (6, .if_icmp .gt 7, 3, 13, 0, 0, 0, 0, 0, []),
  (9, .iconst 1, 1, 0, 0, 0, 0, 1, 0, []),
  (10, .goto 4, 3, 14, 0, 0, 0, 0, 0, []),
  (13, .iconst 0, 1, 0, 0, 0, 0, 0, 0, []),
  (14, .ireturn, 1, 1, 0, 0, 0, 0, 0, [])]
def M_X8_harmTold : MI := (yX8_harmTold, cX8_harmTold, 4, (some Jvm.ClassFile.FieldType.int), 3, 5, 115, false, 716, 715, 12, 86)
def k_X8_harmTold : List Ent := [(0, .aload_n 0, 1, 0, 0, 0, 0, 0, 0, []),
  (1, .invokevirtual 117, 3, 131, 0, 511, 7, 0, 0, []),
  (4, .pop, 1, 0, 0, 0, 0, 0, 0, []),
  (5, .aload_n 0, 1, 0, 0, 0, 0, 0, 0, []),
  (6, .iload_n 1, 1, 1, 0, 0, 0, 0, 0, []),
  (7, .iload_n 2, 1, 2, 0, 0, 0, 0, 0, []),
  (8, .invokevirtual 355, 3, 134, 2, 717, 7, 0, 0, []),
  (11, .iload_n 3, 1, 3, 0, 0, 0, 0, 0, []),
  (12, .ifCond .ne 9, 3, 21, 0, 0, 0, 0, 0, []),
  (15, .aload_n 0, 1, 0, 0, 0, 0, 0, 0, []),
  (16, .iload_n 1, 1, 1, 0, 0, 0, 0, 0, []),
  (17, .invokevirtual 358, 3, 135, 1, 722, 7, 0, 0, []),
  (20, .ireturn, 1, 0, 0, 0, 0, 0, 0, []),
  (21, .iload_n 3, 1, 3, 0, 0, 0, 0, 0, []),
  (22, .iconst 1, 1, 0, 0, 0, 0, 1, 0, []),
  (23, .if_icmp .ne 8, 3, 31, 0, 0, 0, 0, 0, []),
  (26, .aload_n 0, 1, 0, 0, 0, 0, 0, 0, []),
  (27, .invokevirtual 361, 3, 136, 0, 726, 7, 0, 0, []),
  (30, .ireturn, 1, 0, 0, 0, 0, 0, 0, []),
  (31, .aload_n 0, 1, 0, 0, 0, 0, 0, 0, []),
  (32, .getfield 33, 3, 7, 4, 336, 2, 0, 0, []),
  (35, .invokevirtual 343, 3, 1, 0, 564, 0, 0, 0, []),
  (38, .iload_n 3, 1, 3, 0, 0, 0, 0, 0, []),
  (39, .iconst 2, 1, 0, 0, 0, 0, 2, 0, []),
  (40, .if_icmp .ne 16, 3, 56, 0, 0, 0, 0, 0, []),
  (43, .aload_n 0, 1, 0, 0, 0, 0, 0, 0, []),
  (44, .getfield 33, 3, 7, 4, 336, 2, 0, 0, []),
  (47, .getfield 152, 3, 0, 3, 206, 2, 0, 0, []),
  (50, .getfield 176, 3, 6, 4, 179, 0, 0, 0, []),
  (53, .goto 13, 3, 66, 0, 0, 0, 0, 0, []),
  (56, .aload_n 0, 1, 0, 0, 0, 0, 0, 0, []),
  (57, .getfield 33, 3, 7, 4, 336, 2, 0, 0, []),
  (60, .getfield 152, 3, 0, 3, 206, 2, 0, 0, []),
  (63, .getfield 182, 3, 6, 6, 183, 0, 0, 0, []),
  (66, .ireturn, 1, 0, 0, 0, 0, 0, 0, [])]
def M_X8_mostHarmful : MI := (yX8_mostHarmful, cX8_mostHarmful, 8, (some Jvm.ClassFile.FieldType.int), 2, 5, 115, false, 741, 740, 16, 86)
def k_X8_mostHarmful : List Ent := [(0, .aload_n 0, 1, 0, 0, 0, 0, 0, 0, []),
  (1, .invokevirtual 117, 3, 131, 0, 511, 7, 0, 0, []),
  (4, .pop, 1, 0, 0, 0, 0, 0, 0, []),
  (5, .iconst (-1), 1, 0, 0, 0, 0, -1, 0, []),
  (6, .istore_n 3, 1, 3, 0, 0, 0, 0, 0, []),
  (7, .iconst (-1), 1, 0, 0, 0, 0, -1, 0, []),
  (8, .istore 4, 2, 4, 0, 0, 0, 0, 0, []),
  (10, .iconst 0, 1, 0, 0, 0, 0, 0, 0, []),
  (11, .istore 5, 2, 5, 0, 0, 0, 0, 0, []),
  (13, .iload 5, 2, 5, 0, 0, 0, 0, 0, []),
  (15, .iload_n 1, 1, 1, 0, 0, 0, 0, 0, []),
  (16, .if_icmp .ge 70, 3, 86, 0, 0, 0, 0, 0, []),
  (19, .iload_n 2, 1, 2, 0, 0, 0, 0, 0, []),
  (20, .ifCond .eq 8, 3, 28, 0, 0, 0, 0, 0, []),
  (23, .iload 5, 2, 5, 0, 0, 0, 0, 0, []),
  (25, .goto 4, 3, 29, 0, 0, 0, 0, 0, []),
  (28, .iconst (-1), 1, 0, 0, 0, 0, -1, 0, []),
  (29, .istore 6, 2, 6, 0, 0, 0, 0, 0, []),
  (31, .aload_n 0, 1, 0, 0, 0, 0, 0, 0, []),
  (32, .iload 6, 2, 6, 0, 0, 0, 0, 0, []),
  (34, .iload_n 2, 1, 2, 0, 0, 0, 0, 0, []),
  (35, .ifCond .eq 7, 3, 42, 0, 0, 0, 0, 0, []),
  (38, .iconst (-1), 1, 0, 0, 0, 0, -1, 0, []),
  (39, .goto 5, 3, 44, 0, 0, 0, 0, 0, []),
  (42, .iload 5, 2, 5, 0, 0, 0, 0, 0, []),
  (44, .invokevirtual 355, 3, 134, 2, 717, 7, 0, 0, []),
  (47, .aload_n 0, 1, 0, 0, 0, 0, 0, 0, []),
  (48, .iload 6, 2, 6, 0, 0, 0, 0, 0, []),
  (50, .invokevirtual 358, 3, 135, 1, 722, 7, 0, 0, []),
  (53, .invokestatic 233, 3, 237, 1, 742, 0, 0, 0, []),
  (56, .aload_n 0, 1, 0, 0, 0, 0, 0, 0, []),
  (57, .invokevirtual 361, 3, 136, 0, 726, 7, 0, 0, []),
  (60, .invokestatic 233, 3, 237, 1, 742, 0, 0, 0, []),
  (63, .iadd, 1, 0, 0, 0, 0, 0, 0, []),
  (64, .istore 7, 2, 7, 0, 0, 0, 0, 0, []),
  (66, .iload 7, 2, 7, 0, 0, 0, 0, 0, []),
  (68, .iload 4, 2, 4, 0, 0, 0, 0, 0, []),
  (70, .if_icmp .le 10, 3, 80, 0, 0, 0, 0, 0, []),
  (73, .iload 7, 2, 7, 0, 0, 0, 0, 0, []),
  (75, .istore 4, 2, 4, 0, 0, 0, 0, 0, []),
  (77, .iload 5, 2, 5, 0, 0, 0, 0, 0, []),
  (79, .istore_n 3, 1, 3, 0, 0, 0, 0, 0, []),
  (80, .iinc 5 1, 3, 5, 0, 0, 0, 1, 0, []),
  (83, .goto (-70), 3, 13, 0, 0, 0, 0, 0, []),
  (86, .iload_n 3, 1, 3, 0, 0, 0, 0, 0, []),
  (87, .ireturn, 1, 0, 0, 0, 0, 0, 0, [])]
def M_X8_bitOf : MI := (yX8_bitOf, cX8_bitOf, 1, (some Jvm.ClassFile.FieldType.int), 1, 0, 0, true, 426, 425, 0, 86)
def k_X8_bitOf : List Ent := [(0, .iload_n 0, 1, 0, 0, 0, 0, 0, 0, []),
  (1, .ifCond .lt 15, 3, 16, 0, 0, 0, 0, 0, []),
  (4, .iload_n 0, 1, 0, 0, 0, 0, 0, 0, []),
  (5, .bipush 20, 2, 0, 0, 0, 0, 20, 0, []),
  (7, .if_icmp .ge 9, 3, 16, 0, 0, 0, 0, 0, []),
  (10, .iconst 1, 1, 0, 0, 0, 0, 1, 0, []),
  (11, .iload_n 0, 1, 0, 0, 0, 0, 0, 0, []),
  (12, .ishl, 1, 0, 0, 0, 0, 0, 0, []),
  (13, .goto 4, 3, 17, 0, 0, 0, 0, 0, []),
  (16, .iconst 0, 1, 0, 0, 0, 0, 0, 0, []),
  (17, .ireturn, 1, 0, 0, 0, 0, 0, 0, [])]
def M_X8_hasBit : MI := (yX8_hasBit, cX8_hasBit, 2, (some Jvm.ClassFile.FieldType.boolean), 2, 0, 0, true, 537, 536, 0, 86)
def k_X8_hasBit : List Ent := [(0, .iload_n 1, 1, 1, 0, 0, 0, 0, 0, []),
  (1, .ifCond .lt 21, 3, 22, 0, 0, 0, 0, 0, []),
  (4, .iload_n 1, 1, 1, 0, 0, 0, 0, 0, []),
  (5, .bipush 20, 2, 0, 0, 0, 0, 20, 0, []),
  (7, .if_icmp .ge 15, 3, 22, 0, 0, 0, 0, 0, []),
  (10, .iload_n 0, 1, 0, 0, 0, 0, 0, 0, []),
  (11, .iload_n 1, 1, 1, 0, 0, 0, 0, 0, []),
  (12, .ishr, 1, 0, 0, 0, 0, 0, 0, []),
  (13, .iconst 1, 1, 0, 0, 0, 0, 1, 0, []),
  (14, .iand, 1, 0, 0, 0, 0, 0, 0, []),
  (15, .ifCond .eq 7, 3, 22, 0, 0, 0, 0, 0, []),
  (18, .iconst 1, 1, 0, 0, 0, 0, 1, 0, []),
  (19, .goto 4, 3, 23, 0, 0, 0, 0, 0, []),
  (22, .iconst 0, 1, 0, 0, 0, 0, 0, 0, []),
  (23, .ireturn, 1, 1, 0, 0, 0, 0, 0, [])]
def M_X8_rootAbove : MI := (yX8_rootAbove, cX8_rootAbove, 5, (some Jvm.ClassFile.FieldType.int), 1, 0, 0, true, 673, 672, 0, 86)
def k_X8_rootAbove : List Ent := [(0, .iconst 0, 1, 0, 0, 0, 0, 0, 0, []),
  (1, .istore_n 1, 1, 1, 0, 0, 0, 0, 0, []),
  (2, .sipush 2000, 3, 0, 0, 0, 0, 2000, 0, []),
  (5, .istore_n 2, 1, 2, 0, 0, 0, 0, 0, []),
  (6, .iconst 0, 1, 0, 0, 0, 0, 0, 0, []),
  (7, .istore_n 3, 1, 3, 0, 0, 0, 0, 0, []),
  (8, .iload_n 3, 1, 3, 0, 0, 0, 0, 0, []),
  (9, .bipush 12, 2, 0, 0, 0, 0, 12, 0, []),
  (11, .if_icmp .ge 41, 3, 52, 0, 0, 0, 0, 0, []),
  (14, .iload_n 1, 1, 1, 0, 0, 0, 0, 0, []),
  (15, .iload_n 2, 1, 2, 0, 0, 0, 0, 0, []),
  (16, .if_icmp .ge 36, 3, 52, 0, 0, 0, 0, 0, []),
  (19, .iload_n 1, 1, 1, 0, 0, 0, 0, 0, []),
  (20, .iload_n 2, 1, 2, 0, 0, 0, 0, 0, []),
  (21, .iadd, 1, 0, 0, 0, 0, 0, 0, []),
  (22, .iconst 2, 1, 0, 0, 0, 0, 2, 0, []),
  (23, .idiv, 1, 0, 0, 0, 0, 0, 0, []),
  (24, .istore 4, 2, 4, 0, 0, 0, 0, 0, []),
  (26, .iload 4, 2, 4, 0, 0, 0, 0, 0, []),
  (28, .iload 4, 2, 4, 0, 0, 0, 0, 0, []),
  (30, .imul, 1, 0, 0, 0, 0, 0, 0, []),
  (31, .iload_n 0, 1, 0, 0, 0, 0, 0, 0, []),
  (32, .if_icmp .lt 9, 3, 41, 0, 0, 0, 0, 0, []),
  (35, .iload 4, 2, 4, 0, 0, 0, 0, 0, []),
  (37, .istore_n 2, 1, 2, 0, 0, 0, 0, 0, []),
  (38, .goto 8, 3, 46, 0, 0, 0, 0, 0, []),
  (41, .iload 4, 2, 4, 0, 0, 0, 0, 0, []),
  (43, .iconst 1, 1, 0, 0, 0, 0, 1, 0, []),
  (44, .iadd, 1, 0, 0, 0, 0, 0, 0, []),
  (45, .istore_n 1, 1, 1, 0, 0, 0, 0, 0, []),
  (46, .iinc 3 1, 3, 3, 0, 0, 0, 1, 0, []),
  (49, .goto (-41), 3, 8, 0, 0, 0, 0, 0, []),
  (52, .iload_n 1, 1, 1, 0, 0, 0, 0, 0, []),
  (53, .ireturn, 1, 0, 0, 0, 0, 0, 0, [])]
def M_X9_in : MI := (yX9_in, cX9_in, 6, (some Jvm.ClassFile.FieldType.boolean), 3, 0, 0, true, 1203, 1202, 0, 95)
def k_X9_in : List Ent := [(0, .lload_n 0, 1, 0, 0, 0, 0, 0, 0, []),
  (1, .lload_n 2, 1, 2, 0, 0, 0, 0, 0, []),
  (2, .lcmp, 1, 0, 0, 0, 0, 0, 0, []),
  (3, .ifCond .lt 14, 3, 17, 0, 0, 0, 0, 0, []),
  (6, .lload_n 0, 1, 0, 0, 0, 0, 0, 0, []),
  (7, .lload 4, 2, 4, 0, 0, 0, 0, 0, []),
  (9, .lcmp, 1, 0, 0, 0, 0, 0, 0, []),
  (10, .ifCond .gt 7, 3, 17, 0, 0, 0, 0, 0, []),
  (13, .iconst 1, 1, 0, 0, 0, 0, 1, 0, []),
  (14, .goto 4, 3, 18, 0, 0, 0, 0, 0, []),
  (17, .iconst 0, 1, 0, 0, 0, 0, 0, 0, []),
  (18, .ireturn, 1, 1, 0, 0, 0, 0, 0, [])]
def M_X9_less : MI := (yX9_less, cX9_less, 2, (some Jvm.ClassFile.FieldType.int), 2, 0, 0, true, 1242, 1241, 0, 95)
def k_X9_less : List Ent := [(0, .iload_n 0, 1, 0, 0, 0, 0, 0, 0, []),
  (1, .iload_n 1, 1, 1, 0, 0, 0, 0, 0, []),
  (2, .if_icmp .ge 7, 3, 9, 0, 0, 0, 0, 0, []),
  (5, .iload_n 0, 1, 0, 0, 0, 0, 0, 0, []),
  (6, .goto 4, 3, 10, 0, 0, 0, 0, 0, []),
  (9, .iload_n 1, 1, 1, 0, 0, 0, 0, 0, []),
  (10, .ireturn, 1, 0, 0, 0, 0, 0, 0, [])]
def M_X9_abs : MI := (yX9_abs, cX9_abs, 1, (some Jvm.ClassFile.FieldType.int), 1, 0, 0, true, 1261, 1260, 0, 95)
def k_X9_abs : List Ent := [(0, .iload_n 0, 1, 0, 0, 0, 0, 0, 0, []),
  (1, .ifCond .ge 8, 3, 9, 0, 0, 0, 0, 0, []),
  (4, .iload_n 0, 1, 0, 0, 0, 0, 0, 0, []),
  (5, .ineg, 1, 0, 0, 0, 0, 0, 0, []),
  (6, .goto 4, 3, 10, 0, 0, 0, 0, 0, []),
  (9, .iload_n 0, 1, 0, 0, 0, 0, 0, 0, []),
  (10, .ireturn, 1, 0, 0, 0, 0, 0, 0, [])]
def M_X9_copies : MI := (yX9_copies, cX9_copies, 3, (none), 2, 0, 0, true, 1413, 1412, 0, 95)
def k_X9_copies : List Ent := [(0, .iconst 0, 1, 0, 0, 0, 0, 0, 0, []),
  (1, .istore_n 2, 1, 2, 0, 0, 0, 0, 0, []),
  (2, .iload_n 2, 1, 2, 0, 0, 0, 0, 0, []),
  (3, .sipush 286, 3, 0, 0, 0, 0, 286, 0, []),
  (6, .if_icmp .ge 15, 3, 21, 0, 0, 0, 0, 0, []),
  (9, .aload_n 1, 1, 1, 0, 0, 0, 0, 0, []),
  (10, .iload_n 2, 1, 2, 0, 0, 0, 0, 0, []),
  (11, .aload_n 0, 1, 0, 0, 0, 0, 0, 0, []),
  (12, .iload_n 2, 1, 2, 0, 0, 0, 0, 0, []),
  (13, .iaload, 1, 0, 0, 0, 0, 0, 0, []),
  (14, .iastore, 1, 0, 0, 0, 0, 0, 0, []),
  (15, .iinc 2 1, 3, 2, 0, 0, 0, 1, 0, []),
  (18, .goto (-16), 3, 2, 0, 0, 0, 0, 0, []),
  (21, .return_, 1, 0, 0, 0, 0, 0, 0, [])]
def M_X9_countOf : MI := (yX9_countOf, cX9_countOf, 3, (some Jvm.ClassFile.FieldType.int), 1, 0, 0, true, 1436, 1435, 0, 95)
def k_X9_countOf : List Ent := [(0, .iconst 0, 1, 0, 0, 0, 0, 0, 0, []),
  (1, .istore_n 1, 1, 1, 0, 0, 0, 0, 0, []),
  (2, .iconst 0, 1, 0, 0, 0, 0, 0, 0, []),
  (3, .istore_n 2, 1, 2, 0, 0, 0, 0, 0, []),
  (4, .iload_n 2, 1, 2, 0, 0, 0, 0, 0, []),
  (5, .bipush 31, 2, 0, 0, 0, 0, 31, 0, []),
  (7, .if_icmp .ge 17, 3, 24, 0, 0, 0, 0, 0, []),
  (10, .iload_n 1, 1, 1, 0, 0, 0, 0, 0, []),
  (11, .iload_n 0, 1, 0, 0, 0, 0, 0, 0, []),
  (12, .iload_n 2, 1, 2, 0, 0, 0, 0, 0, []),
  (13, .ishr, 1, 0, 0, 0, 0, 0, 0, []),
  (14, .iconst 1, 1, 0, 0, 0, 0, 1, 0, []),
  (15, .iand, 1, 0, 0, 0, 0, 0, 0, []),
  (16, .iadd, 1, 0, 0, 0, 0, 0, 0, []),
  (17, .istore_n 1, 1, 1, 0, 0, 0, 0, 0, []),
  (18, .iinc 2 1, 3, 2, 0, 0, 0, 1, 0, []),
  (21, .goto (-17), 3, 4, 0, 0, 0, 0, 0, []),
  (24, .iload_n 1, 1, 1, 0, 0, 0, 0, 0, []),
  (25, .ireturn, 1, 0, 0, 0, 0, 0, 0, [])]
def M_X9_isHole : MI := (yX9_isHole, cX9_isHole, 2, (some Jvm.ClassFile.FieldType.boolean), 1, 1, 25, false, 1230, 1229, 39, 95)
def k_X9_isHole : List Ent := [(0, .iload_n 1, 1, 1, 0, 0, 0, 0, 0, []),
  (1, .i2l, 1, 0, 0, 0, 0, 0, 0, []),
  (2, .lconst 0, 1, 0, 0, 0, 0, 0, 0, []),
  (3, .aload_n 0, 1, 0, 0, 0, 0, 0, 0, []),
  (4, .getfield 11, 3, 8, 0, 1089, 2, 0, 0, []),
  (7, .sipush 280, 3, 0, 0, 0, 0, 280, 0, []),
  (10, .iaload, 1, 0, 0, 0, 0, 0, 0, []),
  (11, .iconst 1, 1, 0, 0, 0, 0, 1, 0, []),
  (12, .isub, 1, 0, 0, 0, 0, 0, 0, []),
  (13, .i2l, 1, 0, 0, 0, 0, 0, 0, []),
  (14, .invokestatic 68, 3, 143, 3, 1201, 0, 0, 0, []),
  (17, .ireturn, 1, 1, 0, 0, 0, 0, 0, [])]
def M_X9_isWire : MI := (yX9_isWire, cX9_isWire, 2, (some Jvm.ClassFile.FieldType.boolean), 1, 1, 25, false, 1282, 1281, 46, 95)
def k_X9_isWire : List Ent := [(0, .iload_n 1, 1, 1, 0, 0, 0, 0, 0, []),
  (1, .i2l, 1, 0, 0, 0, 0, 0, 0, []),
  (2, .lconst 0, 1, 0, 0, 0, 0, 0, 0, []),
  (3, .aload_n 0, 1, 0, 0, 0, 0, 0, 0, []),
  (4, .getfield 11, 3, 8, 0, 1089, 2, 0, 0, []),
  (7, .sipush 281, 3, 0, 0, 0, 0, 281, 0, []),
  (10, .iaload, 1, 0, 0, 0, 0, 0, 0, []),
  (11, .iconst 1, 1, 0, 0, 0, 0, 1, 0, []),
  (12, .isub, 1, 0, 0, 0, 0, 0, 0, []),
  (13, .i2l, 1, 0, 0, 0, 0, 0, 0, []),
  (14, .invokestatic 68, 3, 143, 3, 1201, 0, 0, 0, []),
  (17, .ireturn, 1, 1, 0, 0, 0, 0, 0, [])]
def M_X9_its : MI := (yX9_its, cX9_its, 3, (some Jvm.ClassFile.FieldType.int), 2, 0, 0, false, 1216, 1215, 38, 95)
def k_X9_its : List Ent := [(0, .aload_n 0, 1, 0, 0, 0, 0, 0, 0, []),
  (1, .getfield 11, 3, 8, 0, 1089, 2, 0, 0, []),
  (4, .bipush 8, 2, 0, 0, 0, 0, 8, 0, []),
  (6, .iload_n 1, 1, 1, 0, 0, 0, 0, 0, []),
  (7, .imul, 1, 0, 0, 0, 0, 0, 0, []),
  (8, .iload_n 2, 1, 2, 0, 0, 0, 0, 0, []),
  (9, .iadd, 1, 0, 0, 0, 0, 0, 0, []),
  (10, .iaload, 1, 0, 0, 0, 0, 0, 0, []),
  (11, .ireturn, 1, 0, 0, 0, 0, 0, 0, [])]
def M_X9_wires : MI := (yX9_wires, cX9_wires, 3, (some Jvm.ClassFile.FieldType.int), 2, 0, 0, false, 1300, 1299, 48, 95)
def k_X9_wires : List Ent := [(0, .aload_n 0, 1, 0, 0, 0, 0, 0, 0, []),
  (1, .getfield 11, 3, 8, 0, 1089, 2, 0, 0, []),
  (4, .sipush 160, 3, 0, 0, 0, 0, 160, 0, []),
  (7, .iconst 3, 1, 0, 0, 0, 0, 3, 0, []),
  (8, .iload_n 1, 1, 1, 0, 0, 0, 0, 0, []),
  (9, .imul, 1, 0, 0, 0, 0, 0, 0, []),
  (10, .iadd, 1, 0, 0, 0, 0, 0, 0, []),
  (11, .iload_n 2, 1, 2, 0, 0, 0, 0, 0, []),
  (12, .iadd, 1, 0, 0, 0, 0, 0, 0, []),
  (13, .iaload, 1, 0, 0, 0, 0, 0, 0, []),
  (14, .ireturn, 1, 0, 0, 0, 0, 0, 0, [])]
def M_X9_isDead : MI := (yX9_isDead, cX9_isDead, 2, (some Jvm.ClassFile.FieldType.boolean), 1, 1, 22, false, 1321, 1320, 52, 95)
def k_X9_isDead : List Ent := [(0, .aload_n 0, 1, 0, 0, 0, 0, 0, 0, []),
  (1, .iload_n 1, 1, 1, 0, 0, 0, 0, 0, []),
  (2, .bipush 6, 2, 0, 0, 0, 0, 6, 0, []),
  (4, .invokevirtual 72, 3, 150, 2, 1213, 8, 0, 0, []),
  (7, .iconst 1, 1, 0, 0, 0, 0, 1, 0, []),
  (8, .if_icmp .ne 7, 3, 15, 0, 0, 0, 0, 0, []),
  (11, .iconst 1, 1, 0, 0, 0, 0, 1, 0, []),
  (12, .goto 4, 3, 16, 0, 0, 0, 0, 0, []),
  (15, .iconst 0, 1, 0, 0, 0, 0, 0, 0, []),
  (16, .ireturn, 1, 1, 0, 0, 0, 0, 0, [])]
def M_X9_isUnder : MI := (yX9_isUnder, cX9_isUnder, 2, (some Jvm.ClassFile.FieldType.boolean), 2, 0, 0, true, 1222, 1221, 0, 95)
def k_X9_isUnder : List Ent := [(0, .iload_n 1, 1, 1, 0, 0, 0, 0, 0, []),
  (1, .ifCond .eq 38, 3, 39, 0, 0, 0, 0, 0, []),
  (4, .iload_n 0, 1, 0, 0, 0, 0, 0, 0, []),
  (5, .iload_n 1, 1, 1, 0, 0, 0, 0, 0, []),
  (6, .if_icmp .eq 33, 3, 39, 0, 0, 0, 0, 0, []),
  (9, .iload_n 1, 1, 1, 0, 0, 0, 0, 0, []),
  (10, .iconst 1, 1, 0, 0, 0, 0, 1, 0, []),
  (11, .if_icmp .ne 8, 3, 19, 0, 0, 0, 0, 0, []),
  (14, .iload_n 0, 1, 0, 0, 0, 0, 0, 0, []),
  (15, .iconst 3, 1, 0, 0, 0, 0, 3, 0, []),
  (16, .if_icmp .gt 23, 3, 39, 0, 0, 0, 0, 0, []),
  (19, .iload_n 1, 1, 1, 0, 0, 0, 0, 0, []),
  (20, .iconst 2, 1, 0, 0, 0, 0, 2, 0, []),
  (21, .if_icmp .ne 8, 3, 29, 0, 0, 0, 0, 0, []),
  (24, .iload_n 0, 1, 0, 0, 0, 0, 0, 0, []),
  (25, .iconst 3, 1, 0, 0, 0, 0, 3, 0, []),
  (26, .if_icmp .eq 13, 3, 39, 0, 0, 0, 0, 0, []),
  (29, .iload_n 1, 1, 1, 0, 0, 0, 0, 0, []),
  (30, .iconst 4, 1, 0, 0, 0, 0, 4, 0, []),
  (31, .if_icmp .ne 12, 3, 43, 0, 0, 0, 0, 0, []),
  (34, .iload_n 0, 1, 0, 0, 0, 0, 0, 0, []),
  (35, .iconst 5, 1, 0, 0, 0, 0, 5, 0, []),
  (36, .if_icmp .ne 7, 3, 43, 0, 0, 0, 0, 0, []),
  (39, .iconst 1, 1, 0, 0, 0, 0, 1, 0, []),
  (40, .goto 4, 3, 44, 0, 0, 0, 0, 0, []),
  (43, .iconst 0, 1, 0, 0, 0, 0, 0, 0, []),
  (44, .ireturn, 1, 1, 0, 0, 0, 0, 0, [])]
def M_X9_firstLoad : MI := (yX9_firstLoad, cX9_firstLoad, 3, (some Jvm.ClassFile.FieldType.int), 1, 1, 22, false, 1239, 1238, 41, 95)
def k_X9_firstLoad : List Ent := [(0, .aload_n 0, 1, 0, 0, 0, 0, 0, 0, []),
  (1, .iload_n 1, 1, 1, 0, 0, 0, 0, 0, []),
  (2, .iconst 3, 1, 0, 0, 0, 0, 3, 0, []),
  (3, .invokevirtual 72, 3, 150, 2, 1213, 8, 0, 0, []),
  (6, .istore_n 2, 1, 2, 0, 0, 0, 0, 0, []),
  (7, .aload_n 0, 1, 0, 0, 0, 0, 0, 0, []),
  (8, .iload_n 1, 1, 1, 0, 0, 0, 0, 0, []),
  (9, .iconst 2, 1, 0, 0, 0, 0, 2, 0, []),
  (10, .invokevirtual 72, 3, 150, 2, 1213, 8, 0, 0, []),
  (13, .tableswitch 68 0 4 #[35, 37, 43, 49, 57], 35, 81, 0, 0, 0, 0, 0, [(0, 48), (1, 50), (2, 56), (3, 62), (4, 70)]),
  (48, .iload_n 2, 1, 2, 0, 0, 0, 0, 0, []),
  (49, .ireturn, 1, 0, 0, 0, 0, 0, 0, []),
  (50, .iload_n 2, 1, 2, 0, 0, 0, 0, 0, []),
  (51, .iconst 2, 1, 0, 0, 0, 0, 2, 0, []),
  (52, .idiv, 1, 0, 0, 0, 0, 0, 0, []),
  (53, .iconst 1, 1, 0, 0, 0, 0, 1, 0, []),
  (54, .iadd, 1, 0, 0, 0, 0, 0, 0, []),
  (55, .ireturn, 1, 0, 0, 0, 0, 0, 0, []),
  (56, .iload_n 2, 1, 2, 0, 0, 0, 0, 0, []),
  (57, .iconst 1, 1, 0, 0, 0, 0, 1, 0, []),
  (58, .iadd, 1, 0, 0, 0, 0, 0, 0, []),
  (59, .iconst 2, 1, 0, 0, 0, 0, 2, 0, []),
  (60, .idiv, 1, 0, 0, 0, 0, 0, 0, []),
  (61, .ireturn, 1, 0, 0, 0, 0, 0, 0, []),
  (62, .iconst 2, 1, 0, 0, 0, 0, 2, 0, []),
  (63, .iload_n 2, 1, 2, 0, 0, 0, 0, 0, []),
  (64, .iconst 1, 1, 0, 0, 0, 0, 1, 0, []),
  (65, .iadd, 1, 0, 0, 0, 0, 0, 0, []),
  (66, .iconst 2, 1, 0, 0, 0, 0, 2, 0, []),
  (67, .idiv, 1, 0, 0, 0, 0, 0, 0, []),
  (68, .imul, 1, 0, 0, 0, 0, 0, 0, []),
  (69, .ireturn, 1, 0, 0, 0, 0, 0, 0, []),
  (70, .bipush 9, 2, 0, 0, 0, 0, 9, 0, []),
  (72, .iload_n 2, 1, 2, 0, 0, 0, 0, 0, []),
  (73, .iconst 2, 1, 0, 0, 0, 0, 2, 0, []),
  (74, .idiv, 1, 0, 0, 0, 0, 0, 0, []),
  (75, .iconst 1, 1, 0, 0, 0, 0, 1, 0, []),
  (76, .iadd, 1, 0, 0, 0, 0, 0, 0, []),
  (77, .invokestatic 76, 3, 144, 2, 1240, 0, 0, 0, []),
  (80, .ireturn, 1, 0, 0, 0, 0, 0, 0, []),
  (81, .iconst 0, 1, 0, 0, 0, 0, 0, 0, []),
  (82, .ireturn, 1, 0, 0, 0, 0, 0, 0, [])]
def M_X9_secondLoad : MI := (yX9_secondLoad, cX9_secondLoad, 3, (some Jvm.ClassFile.FieldType.int), 1, 1, 22, false, 1246, 1245, 42, 95)
def k_X9_secondLoad : List Ent := [(0, .aload_n 0, 1, 0, 0, 0, 0, 0, 0, []),
  (1, .iload_n 1, 1, 1, 0, 0, 0, 0, 0, []),
  (2, .iconst 2, 1, 0, 0, 0, 0, 2, 0, []),
  (3, .invokevirtual 72, 3, 150, 2, 1213, 8, 0, 0, []),
  (6, .istore_n 2, 1, 2, 0, 0, 0, 0, 0, []),
  (7, .iload_n 2, 1, 2, 0, 0, 0, 0, 0, []),
  (8, .iconst 2, 1, 0, 0, 0, 0, 2, 0, []),
  (9, .if_icmp .ne 14, 3, 23, 0, 0, 0, 0, 0, []),
  (12, .aload_n 0, 1, 0, 0, 0, 0, 0, 0, []),
  (13, .iload_n 1, 1, 1, 0, 0, 0, 0, 0, []),
  (14, .iconst 3, 1, 0, 0, 0, 0, 3, 0, []),
  (15, .invokevirtual 72, 3, 150, 2, 1213, 8, 0, 0, []),
  (18, .iconst 2, 1, 0, 0, 0, 0, 2, 0, []),
  (19, .idiv, 1, 0, 0, 0, 0, 0, 0, []),
  (20, .goto 22, 3, 42, 0, 0, 0, 0, 0, []),
  (23, .iload_n 2, 1, 2, 0, 0, 0, 0, 0, []),
  (24, .iconst 3, 1, 0, 0, 0, 0, 3, 0, []),
  (25, .if_icmp .ne 16, 3, 41, 0, 0, 0, 0, 0, []),
  (28, .iconst 2, 1, 0, 0, 0, 0, 2, 0, []),
  (29, .aload_n 0, 1, 0, 0, 0, 0, 0, 0, []),
  (30, .iload_n 1, 1, 1, 0, 0, 0, 0, 0, []),
  (31, .iconst 3, 1, 0, 0, 0, 0, 3, 0, []),
  (32, .invokevirtual 72, 3, 150, 2, 1213, 8, 0, 0, []),
  (35, .iconst 2, 1, 0, 0, 0, 0, 2, 0, []),
  (36, .idiv, 1, 0, 0, 0, 0, 0, 0, []),
  (37, .imul, 1, 0, 0, 0, 0, 0, 0, []),
  (38, .goto 4, 3, 42, 0, 0, 0, 0, 0, []),
  (41, .iconst 0, 1, 0, 0, 0, 0, 0, 0, []),
  (42, .ireturn, 1, 0, 0, 0, 0, 0, 0, [])]
def M_X9_loadsOf : MI := (yX9_loadsOf, cX9_loadsOf, 2, (some Jvm.ClassFile.FieldType.int), 1, 2, 44, false, 1235, 1234, 40, 95)
def k_X9_loadsOf : List Ent := [(0, .aload_n 0, 1, 0, 0, 0, 0, 0, 0, []),
  (1, .iload_n 1, 1, 1, 0, 0, 0, 0, 0, []),
  (2, .invokevirtual 79, 3, 154, 1, 1236, 8, 0, 0, []),
  (5, .aload_n 0, 1, 0, 0, 0, 0, 0, 0, []),
  (6, .iload_n 1, 1, 1, 0, 0, 0, 0, 0, []),
  (7, .invokevirtual 83, 3, 155, 1, 1243, 8, 0, 0, []),
  (10, .iadd, 1, 0, 0, 0, 0, 0, 0, []),
  (11, .ireturn, 1, 0, 0, 0, 0, 0, 0, [])]
def M_X9_rockOf : MI := (yX9_rockOf, cX9_rockOf, 3, (some Jvm.ClassFile.FieldType.int), 1, 1, 22, false, 1250, 1249, 43, 95)
def k_X9_rockOf : List Ent := [(0, .aload_n 0, 1, 0, 0, 0, 0, 0, 0, []),
  (1, .iload_n 1, 1, 1, 0, 0, 0, 0, 0, []),
  (2, .iconst 2, 1, 0, 0, 0, 0, 2, 0, []),
  (3, .invokevirtual 72, 3, 150, 2, 1213, 8, 0, 0, []),
  (6, .istore_n 2, 1, 2, 0, 0, 0, 0, 0, []),
  (7, .iload_n 2, 1, 2, 0, 0, 0, 0, 0, []),
  (8, .iconst 5, 1, 0, 0, 0, 0, 5, 0, []),
  (9, .if_icmp .ne 7, 3, 16, 0, 0, 0, 0, 0, []),
  (12, .iconst 0, 1, 0, 0, 0, 0, 0, 0, []),
  (13, .goto 25, 3, 38, 0, 0, 0, 0, 0, []),
  (16, .iload_n 2, 1, 2, 0, 0, 0, 0, 0, []),
  (17, .iconst 2, 1, 0, 0, 0, 0, 2, 0, []),
  (18, .if_icmp .eq 8, 3, 26, 0, 0, 0, 0, 0, []),
  (21, .iload_n 2, 1, 2, 0, 0, 0, 0, 0, []),
  (22, .iconst 3, 1, 0, 0, 0, 0, 3, 0, []),
  (23, .if_icmp .ne 7, 3, 30, 0, 0, 0, 0, 0, []),
  (26, .iconst 5, 1, 0, 0, 0, 0, 5, 0, []),
  (27, .goto 4, 3, 31, 0, 0, 0, 0, 0, []),
  (30, .iconst 4, 1, 0, 0, 0, 0, 4, 0, []),
  (31, .aload_n 0, 1, 0, 0, 0, 0, 0, 0, []),
  (32, .iload_n 1, 1, 1, 0, 0, 0, 0, 0, []),
  (33, .iconst 4, 1, 0, 0, 0, 0, 4, 0, []),
  (34, .invokevirtual 72, 3, 150, 2, 1213, 8, 0, 0, []),
  (37, .imul, 1, 0, 0, 0, 0, 0, 0, []),
  (38, .ireturn, 1, 0, 0, 0, 0, 0, 0, [])]
def M_X9_needsOf : MI := (yX9_needsOf, cX9_needsOf, 3, (some Jvm.ClassFile.FieldType.int), 1, 1, 22, false, 1254, 1253, 44, 95)
def k_X9_needsOf : List Ent := [(0, .aload_n 0, 1, 0, 0, 0, 0, 0, 0, []),
  (1, .iload_n 1, 1, 1, 0, 0, 0, 0, 0, []),
  (2, .iconst 4, 1, 0, 0, 0, 0, 4, 0, []),
  (3, .invokevirtual 72, 3, 150, 2, 1213, 8, 0, 0, []),
  (6, .istore_n 2, 1, 2, 0, 0, 0, 0, 0, []),
  (7, .aload_n 0, 1, 0, 0, 0, 0, 0, 0, []),
  (8, .iload_n 1, 1, 1, 0, 0, 0, 0, 0, []),
  (9, .iconst 2, 1, 0, 0, 0, 0, 2, 0, []),
  (10, .invokevirtual 72, 3, 150, 2, 1213, 8, 0, 0, []),
  (13, .tableswitch 47 1 5 #[35, 47, 41, 41, 45], 35, 60, 0, 0, 0, 0, 0, [(1, 48), (2, 60), (3, 54), (4, 54), (5, 58)]),
  (48, .iconst 2, 1, 0, 0, 0, 0, 2, 0, []),
  (49, .iload_n 2, 1, 2, 0, 0, 0, 0, 0, []),
  (50, .imul, 1, 0, 0, 0, 0, 0, 0, []),
  (51, .iconst 1, 1, 0, 0, 0, 0, 1, 0, []),
  (52, .isub, 1, 0, 0, 0, 0, 0, 0, []),
  (53, .ireturn, 1, 0, 0, 0, 0, 0, 0, []),
  (54, .iconst 3, 1, 0, 0, 0, 0, 3, 0, []),
  (55, .iload_n 2, 1, 2, 0, 0, 0, 0, 0, []),
  (56, .imul, 1, 0, 0, 0, 0, 0, 0, []),
  (57, .ireturn, 1, 0, 0, 0, 0, 0, 0, []),
  (58, .iconst 0, 1, 0, 0, 0, 0, 0, 0, []),
  (59, .ireturn, 1, 0, 0, 0, 0, 0, 0, []),
  (60, .iconst 2, 1, 0, 0, 0, 0, 2, 0, []),
  (61, .iload_n 2, 1, 2, 0, 0, 0, 0, 0, []),
  (62, .imul, 1, 0, 0, 0, 0, 0, 0, []),
  (63, .ireturn, 1, 0, 0, 0, 0, 0, 0, [])]
def M_X9_madeBy : MI := (yX9_madeBy, cX9_madeBy, 4, (some Jvm.ClassFile.FieldType.int), 3, 1, 21, true, 1219, 1218, 0, 95)
def k_X9_madeBy : List Ent := [(0, .iload_n 0, 1, 0, 0, 0, 0, 0, 0, []),
  (1, .ifCond .ne 8, 3, 9, 0, 0, 0, 0, 0, []),
  (4, .bipush 123, 2, 0, 0, 0, 0, 123, 0, []),
  (6, .goto 5, 3, 11, 0, 0, 0, 0, 0, []),
  (9, .bipush 13, 2, 0, 0, 0, 0, 13, 0, []),
  (11, .istore_n 3, 1, 3, 0, 0, 0, 0, 0, []),
  (12, .iload_n 1, 1, 1, 0, 0, 0, 0, 0, []),
  (13, .ifCond .le 13, 3, 26, 0, 0, 0, 0, 0, []),
  (16, .bipush 100, 2, 0, 0, 0, 0, 100, 0, []),
  (18, .iload_n 3, 1, 3, 0, 0, 0, 0, 0, []),
  (19, .imul, 1, 0, 0, 0, 0, 0, 0, []),
  (20, .bipush 45, 2, 0, 0, 0, 0, 45, 0, []),
  (22, .iadd, 1, 0, 0, 0, 0, 0, 0, []),
  (23, .goto 4, 3, 27, 0, 0, 0, 0, 0, []),
  (26, .iload_n 3, 1, 3, 0, 0, 0, 0, 0, []),
  (27, .istore_n 3, 1, 3, 0, 0, 0, 0, 0, []),
  (28, .iload_n 1, 1, 1, 0, 0, 0, 0, 0, []),
  (29, .iconst 3, 1, 0, 0, 0, 0, 3, 0, []),
  (30, .if_icmp .ne 13, 3, 43, 0, 0, 0, 0, 0, []),
  (33, .bipush 10, 2, 0, 0, 0, 0, 10, 0, []),
  (35, .iload_n 3, 1, 3, 0, 0, 0, 0, 0, []),
  (36, .imul, 1, 0, 0, 0, 0, 0, 0, []),
  (37, .bipush 6, 2, 0, 0, 0, 0, 6, 0, []),
  (39, .iadd, 1, 0, 0, 0, 0, 0, 0, []),
  (40, .goto 22, 3, 62, 0, 0, 0, 0, 0, []),
  (43, .iload_n 1, 1, 1, 0, 0, 0, 0, 0, []),
  (44, .iconst 4, 1, 0, 0, 0, 0, 4, 0, []),
  (45, .invokestatic 86, 3, 153, 2, 1220, 0, 0, 0, []),
  (48, .ifCond .eq 13, 3, 61, 0, 0, 0, 0, 0, []),
  (51, .bipush 10, 2, 0, 0, 0, 0, 10, 0, []),
  (53, .iload_n 3, 1, 3, 0, 0, 0, 0, 0, []),
  (54, .imul, 1, 0, 0, 0, 0, 0, 0, []),
  (55, .bipush 7, 2, 0, 0, 0, 0, 7, 0, []),
  (57, .iadd, 1, 0, 0, 0, 0, 0, 0, []),
  (58, .goto 4, 3, 62, 0, 0, 0, 0, 0, []),
  (61, .iload_n 3, 1, 3, 0, 0, 0, 0, 0, []),
  (62, .istore_n 3, 1, 3, 0, 0, 0, 0, 0, []),
  (63, .iload_n 1, 1, 1, 0, 0, 0, 0, 0, []),
  (64, .iconst 5, 1, 0, 0, 0, 0, 5, 0, []),
  (65, .if_icmp .ne 13, 3, 78, 0, 0, 0, 0, 0, []),
  (68, .bipush 10, 2, 0, 0, 0, 0, 10, 0, []),
  (70, .iload_n 3, 1, 3, 0, 0, 0, 0, 0, []),
  (71, .imul, 1, 0, 0, 0, 0, 0, 0, []),
  (72, .bipush 8, 2, 0, 0, 0, 0, 8, 0, []),
  (74, .iadd, 1, 0, 0, 0, 0, 0, 0, []),
  (75, .goto 4, 3, 79, 0, 0, 0, 0, 0, []),
  (78, .iload_n 3, 1, 3, 0, 0, 0, 0, 0, []),
  (79, .istore_n 3, 1, 3, 0, 0, 0, 0, 0, []),
  (80, .iload_n 1, 1, 1, 0, 0, 0, 0, 0, []),
  (81, .iconst 5, 1, 0, 0, 0, 0, 5, 0, []),
  (82, .if_icmp .ne 18, 3, 100, 0, 0, 0, 0, 0, []),
  (85, .iload_n 2, 1, 2, 0, 0, 0, 0, 0, []),
  (86, .iconst 1, 1, 0, 0, 0, 0, 1, 0, []),
  (87, .if_icmp .ne 13, 3, 100, 0, 0, 0, 0, 0, []),
  (90, .bipush 10, 2, 0, 0, 0, 0, 10, 0, []),
  (92, .iload_n 3, 1, 3, 0, 0, 0, 0, 0, []),
  (93, .imul, 1, 0, 0, 0, 0, 0, 0, []),
  (94, .bipush 9, 2, 0, 0, 0, 0, 9, 0, []),
  (96, .iadd, 1, 0, 0, 0, 0, 0, 0, []),
  (97, .goto 4, 3, 101, 0, 0, 0, 0, 0, []),
  (100, .iload_n 3, 1, 3, 0, 0, 0, 0, 0, []),
  (101, .ireturn, 1, 0, 0, 0, 0, 0, 0, [])]
def M_X9_isTaken : MI := (yX9_isTaken, cX9_isTaken, 4, (some Jvm.ClassFile.FieldType.boolean), 2, 1, 22, false, 1212, 1211, 37, 95)
def k_X9_isTaken : List Ent := [(0, .iconst 0, 1, 0, 0, 0, 0, 0, 0, []),
  (1, .istore_n 3, 1, 3, 0, 0, 0, 0, 0, []),
  (2, .iload_n 3, 1, 3, 0, 0, 0, 0, 0, []),
  (3, .aload_n 0, 1, 0, 0, 0, 0, 0, 0, []),
  (4, .getfield 11, 3, 8, 0, 1089, 2, 0, 0, []),
  (7, .sipush 280, 3, 0, 0, 0, 0, 280, 0, []),
  (10, .iaload, 1, 0, 0, 0, 0, 0, 0, []),
  (11, .if_icmp .ge 31, 3, 42, 0, 0, 0, 0, 0, []),
  (14, .aload_n 0, 1, 0, 0, 0, 0, 0, 0, []),
  (15, .iload_n 3, 1, 3, 0, 0, 0, 0, 0, []),
  (16, .iconst 0, 1, 0, 0, 0, 0, 0, 0, []),
  (17, .invokevirtual 72, 3, 150, 2, 1213, 8, 0, 0, []),
  (20, .iload_n 1, 1, 1, 0, 0, 0, 0, 0, []),
  (21, .if_icmp .ne 15, 3, 36, 0, 0, 0, 0, 0, []),
  (24, .aload_n 0, 1, 0, 0, 0, 0, 0, 0, []),
  (25, .iload_n 3, 1, 3, 0, 0, 0, 0, 0, []),
  (26, .iconst 1, 1, 0, 0, 0, 0, 1, 0, []),
  (27, .invokevirtual 72, 3, 150, 2, 1213, 8, 0, 0, []),
  (30, .iload_n 2, 1, 2, 0, 0, 0, 0, 0, []),
  (31, .if_icmp .ne 5, 3, 36, 0, 0, 0, 0, 0, []),
  (34, .iconst 1, 1, 0, 0, 0, 0, 1, 0, []),
  (35, .ireturn, 1, 1, 0, 0, 0, 0, 0, []),
  (36, .iinc 3 1, 3, 3, 0, 0, 0, 1, 0, []),
  (39, .goto (-37), 3, 2, 0, 0, 0, 0, 0, []),
  (42, .iconst 0, 1, 0, 0, 0, 0, 0, 0, []),
  (43, .ireturn, 1, 1, 0, 0, 0, 0, 0, [])]
def M_X9_hole : MI := (yX9_hole, cX9_hole, 8, (some Jvm.ClassFile.FieldType.int), 6, 2, 45, false, 1199, 1197, 1198, 95)
def k_X9_hole : List Ent := [(0, .iload_n 1, 1, 1, 0, 0, 0, 0, 0, []),
  (1, .i2l, 1, 0, 0, 0, 0, 0, 0, []),
  (2, .lconst 0, 1, 0, 0, 0, 0, 0, 0, []),
  (3, .ldc2_w 90, 3, 0, 0, 1200, 0, 0, 4, []),
  (6, .invokestatic 68, 3, 143, 3, 1201, 0, 0, 0, []),
  (9, .ifCond .eq 66, 3, 75, 0, 0, 0, 0, 0, []),
  (12, .iload_n 2, 1, 2, 0, 0, 0, 0, 0, []),
  (13, .i2l, 1, 0, 0, 0, 0, 0, 0, []),
  (14, .lconst 0, 1, 0, 0, 0, 0, 0, 0, []),
  (15, .ldc2_w 92, 3, 0, 0, 1204, 0, 0, 9, []),
  (18, .invokestatic 68, 3, 143, 3, 1201, 0, 0, 0, []),
  (21, .ifCond .eq 54, 3, 75, 0, 0, 0, 0, 0, []),
  (24, .iload_n 3, 1, 3, 0, 0, 0, 0, 0, []),
  (25, .i2l, 1, 0, 0, 0, 0, 0, 0, []),
  (26, .lconst 0, 1, 0, 0, 0, 0, 0, 0, []),
  (27, .ldc2_w 94, 3, 0, 0, 1205, 0, 0, 5, []),
  (30, .invokestatic 68, 3, 143, 3, 1201, 0, 0, 0, []),
  (33, .ifCond .eq 42, 3, 75, 0, 0, 0, 0, 0, []),
  (36, .iload 4, 2, 4, 0, 0, 0, 0, 0, []),
  (38, .i2l, 1, 0, 0, 0, 0, 0, 0, []),
  (39, .lconst 1, 1, 0, 0, 0, 0, 0, 0, []),
  (40, .ldc2_w 96, 3, 0, 0, 1206, 0, 0, 99, []),
  (43, .invokestatic 68, 3, 143, 3, 1201, 0, 0, 0, []),
  (46, .ifCond .eq 29, 3, 75, 0, 0, 0, 0, 0, []),
  (49, .iload 5, 2, 5, 0, 0, 0, 0, 0, []),
  (51, .i2l, 1, 0, 0, 0, 0, 0, 0, []),
  (52, .lconst 1, 1, 0, 0, 0, 0, 0, 0, []),
  (53, .ldc2_w 98, 3, 0, 0, 1207, 0, 0, 20, []),
  (56, .invokestatic 68, 3, 143, 3, 1201, 0, 0, 0, []),
  (59, .ifCond .eq 16, 3, 75, 0, 0, 0, 0, 0, []),
  (62, .iload 6, 2, 6, 0, 0, 0, 0, 0, []),
  (64, .i2l, 1, 0, 0, 0, 0, 0, 0, []),
  (65, .lconst 0, 1, 0, 0, 0, 0, 0, 0, []),
  (66, .ldc2_w 100, 3, 0, 0, 1208, 0, 0, 999, []),
  (69, .invokestatic 68, 3, 143, 3, 1201, 0, 0, 0, []),
  (72, .ifCond .ne 6, 3, 78, 0, 0, 0, 0, 0, []),
  (75, .bipush (-2), 2, 0, 0, 0, 0, -2, 0, []),
  (77, .ireturn, 1, 0, 0, 0, 0, 0, 0, []),
  (78, .aload_n 0, 1, 0, 0, 0, 0, 0, 0, []),
  (79, .iload_n 1, 1, 1, 0, 0, 0, 0, 0, []),
  (80, .iload_n 2, 1, 2, 0, 0, 0, 0, 0, []),
  (81, .invokevirtual 102, 3, 160, 2, 1209, 8, 0, 0, []),
  (84, .ifCond .eq 6, 3, 90, 0, 0, 0, 0, 0, []),
  (87, .bipush (-3), 2, 0, 0, 0, 0, -3, 0, []),
  (89, .ireturn, 1, 0, 0, 0, 0, 0, 0, []),
  (90, .aload_n 0, 1, 0, 0, 0, 0, 0, 0, []),
  (91, .getfield 11, 3, 8, 0, 1089, 2, 0, 0, []),
  (94, .sipush 280, 3, 0, 0, 0, 0, 280, 0, []),
  (97, .iaload, 1, 0, 0, 0, 0, 0, 0, []),
  (98, .bipush 20, 2, 0, 0, 0, 0, 20, 0, []),
  (100, .if_icmp .ne 6, 3, 106, 0, 0, 0, 0, 0, []),
  (103, .bipush (-4), 2, 0, 0, 0, 0, -4, 0, []),
  (105, .ireturn, 1, 0, 0, 0, 0, 0, 0, []),
  (106, .bipush 8, 2, 0, 0, 0, 0, 8, 0, []),
  (108, .aload_n 0, 1, 0, 0, 0, 0, 0, 0, []),
  (109, .getfield 11, 3, 8, 0, 1089, 2, 0, 0, []),
  (112, .sipush 280, 3, 0, 0, 0, 0, 280, 0, []),
  (115, .iaload, 1, 0, 0, 0, 0, 0, 0, []),
  (116, .imul, 1, 0, 0, 0, 0, 0, 0, []),
  (117, .istore 7, 2, 7, 0, 0, 0, 0, 0, []),
  (119, .aload_n 0, 1, 0, 0, 0, 0, 0, 0, []),
  (120, .getfield 11, 3, 8, 0, 1089, 2, 0, 0, []),
  (123, .iload 7, 2, 7, 0, 0, 0, 0, 0, []),
  (125, .iload_n 1, 1, 1, 0, 0, 0, 0, 0, []),
  (126, .iastore, 1, 0, 0, 0, 0, 0, 0, []),
  (127, .aload_n 0, 1, 0, 0, 0, 0, 0, 0, []),
  (128, .getfield 11, 3, 8, 0, 1089, 2, 0, 0, []),
  (131, .iload 7, 2, 7, 0, 0, 0, 0, 0, []),
  (133, .iconst 1, 1, 0, 0, 0, 0, 1, 0, []),
  (134, .iadd, 1, 0, 0, 0, 0, 0, 0, []),
  (135, .iload_n 2, 1, 2, 0, 0, 0, 0, 0, []),
  (136, .iastore, 1, 0, 0, 0, 0, 0, 0, []),
  (137, .aload_n 0, 1, 0, 0, 0, 0, 0, 0, []),
  (138, .getfield 11, 3, 8, 0, 1089, 2, 0, 0, []),
  (141, .iload 7, 2, 7, 0, 0, 0, 0, 0, []),
  (143, .iconst 2, 1, 0, 0, 0, 0, 2, 0, []),
  (144, .iadd, 1, 0, 0, 0, 0, 0, 0, []),
  (145, .iload_n 3, 1, 3, 0, 0, 0, 0, 0, []),
  (146, .iastore, 1, 0, 0, 0, 0, 0, 0, []),
  (147, .aload_n 0, 1, 0, 0, 0, 0, 0, 0, []),
  (148, .getfield 11, 3, 8, 0, 1089, 2, 0, 0, []),
  (151, .iload 7, 2, 7, 0, 0, 0, 0, 0, []),
  (153, .iconst 3, 1, 0, 0, 0, 0, 3, 0, []),
  (154, .iadd, 1, 0, 0, 0, 0, 0, 0, []),
  (155, .iload 4, 2, 4, 0, 0, 0, 0, 0, []),
  (157, .iastore, 1, 0, 0, 0, 0, 0, 0, []),
  (158, .aload_n 0, 1, 0, 0, 0, 0, 0, 0, []),
  (159, .getfield 11, 3, 8, 0, 1089, 2, 0, 0, []),
  (162, .iload 7, 2, 7, 0, 0, 0, 0, 0, []),
  (164, .iconst 4, 1, 0, 0, 0, 0, 4, 0, []),
  (165, .iadd, 1, 0, 0, 0, 0, 0, 0, []),
  (166, .iload 5, 2, 5, 0, 0, 0, 0, 0, []),
  (168, .iastore, 1, 0, 0, 0, 0, 0, 0, []),
  (169, .aload_n 0, 1, 0, 0, 0, 0, 0, 0, []),
  (170, .getfield 11, 3, 8, 0, 1089, 2, 0, 0, []),
  (173, .iload 7, 2, 7, 0, 0, 0, 0, 0, []),
  (175, .iconst 5, 1, 0, 0, 0, 0, 5, 0, []),
  (176, .iadd, 1, 0, 0, 0, 0, 0, 0, []),
  (177, .iload 6, 2, 6, 0, 0, 0, 0, 0, []),
  (179, .iastore, 1, 0, 0, 0, 0, 0, 0, []),
  (180, .aload_n 0, 1, 0, 0, 0, 0, 0, 0, []),
  (181, .getfield 11, 3, 8, 0, 1089, 2, 0, 0, []),
  (184, .iload 7, 2, 7, 0, 0, 0, 0, 0, []),
  (186, .bipush 6, 2, 0, 0, 0, 0, 6, 0, []),
  (188, .iadd, 1, 0, 0, 0, 0, 0, 0, []),
  (189, .iconst 0, 1, 0, 0, 0, 0, 0, 0, []),
  (190, .iastore, 1, 0, 0, 0, 0, 0, 0, []),
  (191, .aload_n 0, 1, 0, 0, 0, 0, 0, 0, []),
  (192, .getfield 11, 3, 8, 0, 1089, 2, 0, 0, []),
  (195, .iload 7, 2, 7, 0, 0, 0, 0, 0, []),
  (197, .bipush 7, 2, 0, 0, 0, 0, 7, 0, []),
  (199, .iadd, 1, 0, 0, 0, 0, 0, 0, []),
  (200, .iload_n 1, 1, 1, 0, 0, 0, 0, 0, []),
  (201, .iload_n 3, 1, 3, 0, 0, 0, 0, 0, []),
  (202, .iload 5, 2, 5, 0, 0, 0, 0, 0, []),
  (204, .invokestatic 105, 3, 159, 3, 1217, 0, 0, 0, []),
  (207, .iastore, 1, 0, 0, 0, 0, 0, 0, []),
  (208, .aload_n 0, 1, 0, 0, 0, 0, 0, 0, []),
  (209, .getfield 11, 3, 8, 0, 1089, 2, 0, 0, []),
  (212, .sipush 280, 3, 0, 0, 0, 0, 280, 0, []),
  (215, .dup2, 1, 0, 0, 0, 0, 0, 0, []),
  (216, .iaload, 1, 0, 0, 0, 0, 0, 0, []),
  (217, .iconst 1, 1, 0, 0, 0, 0, 1, 0, []),
  (218, .iadd, 1, 0, 0, 0, 0, 0, 0, []),
  (219, .iastore, 1, 0, 0, 0, 0, 0, 0, []),
  (220, .aload_n 0, 1, 0, 0, 0, 0, 0, 0, []),
  (221, .getfield 11, 3, 8, 0, 1089, 2, 0, 0, []),
  (224, .sipush 285, 3, 0, 0, 0, 0, 285, 0, []),
  (227, .iconst 0, 1, 0, 0, 0, 0, 0, 0, []),
  (228, .iastore, 1, 0, 0, 0, 0, 0, 0, []),
  (229, .aload_n 0, 1, 0, 0, 0, 0, 0, 0, []),
  (230, .getfield 11, 3, 8, 0, 1089, 2, 0, 0, []),
  (233, .sipush 280, 3, 0, 0, 0, 0, 280, 0, []),
  (236, .iaload, 1, 0, 0, 0, 0, 0, 0, []),
  (237, .iconst 1, 1, 0, 0, 0, 0, 1, 0, []),
  (238, .isub, 1, 0, 0, 0, 0, 0, 0, []),
  (239, .ireturn, 1, 0, 0, 0, 0, 0, 0, [])]
def M_X9_aheadOf : MI := (yX9_aheadOf, cX9_aheadOf, 5, (some Jvm.ClassFile.FieldType.int), 1, 1, 22, false, 1258, 1257, 45, 95)
def k_X9_aheadOf : List Ent := [(0, .iconst 0, 1, 0, 0, 0, 0, 0, 0, []),
  (1, .istore_n 2, 1, 2, 0, 0, 0, 0, 0, []),
  (2, .iconst 0, 1, 0, 0, 0, 0, 0, 0, []),
  (3, .istore_n 3, 1, 3, 0, 0, 0, 0, 0, []),
  (4, .iload_n 3, 1, 3, 0, 0, 0, 0, 0, []),
  (5, .aload_n 0, 1, 0, 0, 0, 0, 0, 0, []),
  (6, .getfield 11, 3, 8, 0, 1089, 2, 0, 0, []),
  (9, .sipush 280, 3, 0, 0, 0, 0, 280, 0, []),
  (12, .iaload, 1, 0, 0, 0, 0, 0, 0, []),
  (13, .if_icmp .ge 78, 3, 91, 0, 0, 0, 0, 0, []),
  (16, .aload_n 0, 1, 0, 0, 0, 0, 0, 0, []),
  (17, .iload_n 3, 1, 3, 0, 0, 0, 0, 0, []),
  (18, .iconst 2, 1, 0, 0, 0, 0, 2, 0, []),
  (19, .invokevirtual 72, 3, 150, 2, 1213, 8, 0, 0, []),
  (22, .iconst 5, 1, 0, 0, 0, 0, 5, 0, []),
  (23, .if_icmp .eq 44, 3, 67, 0, 0, 0, 0, 0, []),
  (26, .aload_n 0, 1, 0, 0, 0, 0, 0, 0, []),
  (27, .iload_n 3, 1, 3, 0, 0, 0, 0, 0, []),
  (28, .iconst 0, 1, 0, 0, 0, 0, 0, 0, []),
  (29, .invokevirtual 72, 3, 150, 2, 1213, 8, 0, 0, []),
  (32, .aload_n 0, 1, 0, 0, 0, 0, 0, 0, []),
  (33, .iload_n 1, 1, 1, 0, 0, 0, 0, 0, []),
  (34, .iconst 0, 1, 0, 0, 0, 0, 0, 0, []),
  (35, .invokevirtual 72, 3, 150, 2, 1213, 8, 0, 0, []),
  (38, .iconst 1, 1, 0, 0, 0, 0, 1, 0, []),
  (39, .isub, 1, 0, 0, 0, 0, 0, 0, []),
  (40, .if_icmp .ne 27, 3, 67, 0, 0, 0, 0, 0, []),
  (43, .aload_n 0, 1, 0, 0, 0, 0, 0, 0, []),
  (44, .iload_n 3, 1, 3, 0, 0, 0, 0, 0, []),
  (45, .iconst 1, 1, 0, 0, 0, 0, 1, 0, []),
  (46, .invokevirtual 72, 3, 150, 2, 1213, 8, 0, 0, []),
  (49, .aload_n 0, 1, 0, 0, 0, 0, 0, 0, []),
  (50, .iload_n 1, 1, 1, 0, 0, 0, 0, 0, []),
  (51, .iconst 1, 1, 0, 0, 0, 0, 1, 0, []),
  (52, .invokevirtual 72, 3, 150, 2, 1213, 8, 0, 0, []),
  (55, .isub, 1, 0, 0, 0, 0, 0, 0, []),
  (56, .invokestatic 109, 3, 145, 1, 1259, 0, 0, 0, []),
  (59, .iconst 2, 1, 0, 0, 0, 0, 2, 0, []),
  (60, .if_icmp .ge 7, 3, 67, 0, 0, 0, 0, 0, []),
  (63, .iconst 1, 1, 0, 0, 0, 0, 1, 0, []),
  (64, .goto 4, 3, 68, 0, 0, 0, 0, 0, []),
  (67, .iconst 0, 1, 0, 0, 0, 0, 0, 0, []),
  (68, .istore 4, 2, 4, 0, 0, 0, 0, 0, []),
  (70, .iload_n 2, 1, 2, 0, 0, 0, 0, 0, []),
  (71, .iload 4, 2, 4, 0, 0, 0, 0, 0, []),
  (73, .ifCond .eq 9, 3, 82, 0, 0, 0, 0, 0, []),
  (76, .iconst 1, 1, 0, 0, 0, 0, 1, 0, []),
  (77, .iload_n 3, 1, 3, 0, 0, 0, 0, 0, []),
  (78, .ishl, 1, 0, 0, 0, 0, 0, 0, []),
  (79, .goto 4, 3, 83, 0, 0, 0, 0, 0, []),
  (82, .iconst 0, 1, 0, 0, 0, 0, 0, 0, []),
  (83, .ior, 1, 0, 0, 0, 0, 0, 0, []),
  (84, .istore_n 2, 1, 2, 0, 0, 0, 0, 0, []),
  (85, .iinc 3 1, 3, 3, 0, 0, 0, 1, 0, []),
  (88, .goto (-84), 3, 4, 0, 0, 0, 0, 0, []),
  (91, .iload_n 2, 1, 2, 0, 0, 0, 0, 0, []),
  (92, .ireturn, 1, 0, 0, 0, 0, 0, 0, [])]
def M_X9_of : MI := (yX9_of, cX9_of, 3, (some Jvm.ClassFile.FieldType.int), 2, 3, 65, false, 1226, 1224, 1225, 95)
def k_X9_of : List Ent := [(0, .aload_n 0, 1, 0, 0, 0, 0, 0, 0, []),
  (1, .iload_n 1, 1, 1, 0, 0, 0, 0, 0, []),
  (2, .invokevirtual 112, 3, 148, 1, 1227, 8, 0, 0, []),
  (5, .ifCond .eq 15, 3, 20, 0, 0, 0, 0, 0, []),
  (8, .iload_n 2, 1, 2, 0, 0, 0, 0, 0, []),
  (9, .i2l, 1, 0, 0, 0, 0, 0, 0, []),
  (10, .lconst 0, 1, 0, 0, 0, 0, 0, 0, []),
  (11, .ldc2_w 116, 3, 0, 0, 1231, 0, 0, 11, []),
  (14, .invokestatic 68, 3, 143, 3, 1201, 0, 0, 0, []),
  (17, .ifCond .ne 5, 3, 22, 0, 0, 0, 0, 0, []),
  (20, .iconst (-1), 1, 0, 0, 0, 0, -1, 0, []),
  (21, .ireturn, 1, 0, 0, 0, 0, 0, 0, []),
  (22, .iload_n 2, 1, 2, 0, 0, 0, 0, 0, []),
  (23, .tableswitch 65 7 11 #[33, 39, 45, 51, 59], 33, 88, 0, 0, 0, 0, 0, [(7, 56), (8, 62), (9, 68), (10, 74), (11, 82)]),
  (56, .aload_n 0, 1, 0, 0, 0, 0, 0, 0, []),
  (57, .iload_n 1, 1, 1, 0, 0, 0, 0, 0, []),
  (58, .invokevirtual 118, 3, 156, 1, 1232, 8, 0, 0, []),
  (61, .ireturn, 1, 0, 0, 0, 0, 0, 0, []),
  (62, .aload_n 0, 1, 0, 0, 0, 0, 0, 0, []),
  (63, .iload_n 1, 1, 1, 0, 0, 0, 0, 0, []),
  (64, .invokevirtual 121, 3, 157, 1, 1247, 8, 0, 0, []),
  (67, .ireturn, 1, 0, 0, 0, 0, 0, 0, []),
  (68, .aload_n 0, 1, 0, 0, 0, 0, 0, 0, []),
  (69, .iload_n 1, 1, 1, 0, 0, 0, 0, 0, []),
  (70, .invokevirtual 124, 3, 158, 1, 1251, 8, 0, 0, []),
  (73, .ireturn, 1, 0, 0, 0, 0, 0, 0, []),
  (74, .aload_n 0, 1, 0, 0, 0, 0, 0, 0, []),
  (75, .iload_n 1, 1, 1, 0, 0, 0, 0, 0, []),
  (76, .bipush 7, 2, 0, 0, 0, 0, 7, 0, []),
  (78, .invokevirtual 72, 3, 150, 2, 1213, 8, 0, 0, []),
  (81, .ireturn, 1, 0, 0, 0, 0, 0, 0, []),
  (82, .aload_n 0, 1, 0, 0, 0, 0, 0, 0, []),
  (83, .iload_n 1, 1, 1, 0, 0, 0, 0, 0, []),
  (84, .invokevirtual 127, 3, 162, 1, 1255, 8, 0, 0, []),
  (87, .ireturn, 1, 0, 0, 0, 0, 0, 0, []),
  (88, .aload_n 0, 1, 0, 0, 0, 0, 0, 0, []),
  (89, .iload_n 1, 1, 1, 0, 0, 0, 0, 0, []),
  (90, .iload_n 2, 1, 2, 0, 0, 0, 0, 0, []),
  (91, .invokevirtual 72, 3, 150, 2, 1213, 8, 0, 0, []),
  (94, .ireturn, 1, 0, 0, 0, 0, 0, 0, [])]
def M_X9_becomes : MI := (yX9_becomes, cX9_becomes, 6, (some Jvm.ClassFile.FieldType.int), 3, 2, 46, false, 1265, 1263, 1264, 95)
def k_X9_becomes : List Ent := [(0, .aload_n 0, 1, 0, 0, 0, 0, 0, 0, []),
  (1, .iload_n 1, 1, 1, 0, 0, 0, 0, 0, []),
  (2, .invokevirtual 112, 3, 148, 1, 1227, 8, 0, 0, []),
  (5, .ifCond .ne 5, 3, 10, 0, 0, 0, 0, 0, []),
  (8, .iconst (-1), 1, 0, 0, 0, 0, -1, 0, []),
  (9, .ireturn, 1, 0, 0, 0, 0, 0, 0, []),
  (10, .iload_n 2, 1, 2, 0, 0, 0, 0, 0, []),
  (11, .iconst 3, 1, 0, 0, 0, 0, 3, 0, []),
  (12, .if_icmp .ne 15, 3, 27, 0, 0, 0, 0, 0, []),
  (15, .iload_n 3, 1, 3, 0, 0, 0, 0, 0, []),
  (16, .i2l, 1, 0, 0, 0, 0, 0, 0, []),
  (17, .lconst 1, 1, 0, 0, 0, 0, 0, 0, []),
  (18, .ldc2_w 96, 3, 0, 0, 1206, 0, 0, 99, []),
  (21, .invokestatic 68, 3, 143, 3, 1201, 0, 0, 0, []),
  (24, .goto 58, 3, 82, 0, 0, 0, 0, 0, []),
  (27, .iload_n 2, 1, 2, 0, 0, 0, 0, 0, []),
  (28, .iconst 4, 1, 0, 0, 0, 0, 4, 0, []),
  (29, .if_icmp .ne 15, 3, 44, 0, 0, 0, 0, 0, []),
  (32, .iload_n 3, 1, 3, 0, 0, 0, 0, 0, []),
  (33, .i2l, 1, 0, 0, 0, 0, 0, 0, []),
  (34, .lconst 1, 1, 0, 0, 0, 0, 0, 0, []),
  (35, .ldc2_w 98, 3, 0, 0, 1207, 0, 0, 20, []),
  (38, .invokestatic 68, 3, 143, 3, 1201, 0, 0, 0, []),
  (41, .goto 41, 3, 82, 0, 0, 0, 0, 0, []),
  (44, .iload_n 2, 1, 2, 0, 0, 0, 0, 0, []),
  (45, .iconst 5, 1, 0, 0, 0, 0, 5, 0, []),
  (46, .if_icmp .ne 15, 3, 61, 0, 0, 0, 0, 0, []),
  (49, .iload_n 3, 1, 3, 0, 0, 0, 0, 0, []),
  (50, .i2l, 1, 0, 0, 0, 0, 0, 0, []),
  (51, .lconst 0, 1, 0, 0, 0, 0, 0, 0, []),
  (52, .ldc2_w 100, 3, 0, 0, 1208, 0, 0, 999, []),
  (55, .invokestatic 68, 3, 143, 3, 1201, 0, 0, 0, []),
  (58, .goto 24, 3, 82, 0, 0, 0, 0, 0, []),
  (61, .iload_n 2, 1, 2, 0, 0, 0, 0, 0, []),
  (62, .bipush 6, 2, 0, 0, 0, 0, 6, 0, []),
  (64, .if_icmp .ne 17, 3, 81, 0, 0, 0, 0, 0, []),
  (67, .iload_n 3, 1, 3, 0, 0, 0, 0, 0, []),
  (68, .i2l, 1, 0, 0, 0, 0, 0, 0, []),
  (69, .lconst 0, 1, 0, 0, 0, 0, 0, 0, []),
  (70, .lconst 1, 1, 0, 0, 0, 0, 0, 0, []),
  (71, .invokestatic 68, 3, 143, 3, 1201, 0, 0, 0, []),
  (74, .ifCond .eq 7, 3, 81, 0, 0, 0, 0, 0, []),
  (77, .iconst 1, 1, 0, 0, 0, 0, 1, 0, []),
  (78, .goto 4, 3, 82, 0, 0, 0, 0, 0, []),
  (81, .iconst 0, 1, 0, 0, 0, 0, 0, 0, []),
  (82, .istore 4, 2, 4, 0, 0, 0, 0, 0, []),
  (84, .iload 4, 2, 4, 0, 0, 0, 0, 0, []),
  (86, .ifCond .ne 6, 3, 92, 0, 0, 0, 0, 0, []),
  (89, .bipush (-2), 2, 0, 0, 0, 0, -2, 0, []),
  (91, .ireturn, 1, 0, 0, 0, 0, 0, 0, []),
  (92, .aload_n 0, 1, 0, 0, 0, 0, 0, 0, []),
  (93, .iload_n 1, 1, 1, 0, 0, 0, 0, 0, []),
  (94, .iload_n 2, 1, 2, 0, 0, 0, 0, 0, []),
  (95, .invokevirtual 72, 3, 150, 2, 1213, 8, 0, 0, []),
  (98, .istore 5, 2, 5, 0, 0, 0, 0, 0, []),
  (100, .aload_n 0, 1, 0, 0, 0, 0, 0, 0, []),
  (101, .getfield 11, 3, 8, 0, 1089, 2, 0, 0, []),
  (104, .bipush 8, 2, 0, 0, 0, 0, 8, 0, []),
  (106, .iload_n 1, 1, 1, 0, 0, 0, 0, 0, []),
  (107, .imul, 1, 0, 0, 0, 0, 0, 0, []),
  (108, .iload_n 2, 1, 2, 0, 0, 0, 0, 0, []),
  (109, .iadd, 1, 0, 0, 0, 0, 0, 0, []),
  (110, .iload_n 3, 1, 3, 0, 0, 0, 0, 0, []),
  (111, .iastore, 1, 0, 0, 0, 0, 0, 0, []),
  (112, .aload_n 0, 1, 0, 0, 0, 0, 0, 0, []),
  (113, .getfield 11, 3, 8, 0, 1089, 2, 0, 0, []),
  (116, .sipush 285, 3, 0, 0, 0, 0, 285, 0, []),
  (119, .iconst 0, 1, 0, 0, 0, 0, 0, 0, []),
  (120, .iastore, 1, 0, 0, 0, 0, 0, 0, []),
  (121, .iload 5, 2, 5, 0, 0, 0, 0, 0, []),
  (123, .ireturn, 1, 0, 0, 0, 0, 0, 0, [])]
def M_X9_taken : MI := (yX9_taken, cX9_taken, 3, (some Jvm.ClassFile.FieldType.int), 2, 3, 65, false, 1269, 1267, 1268, 95)
def k_X9_taken : List Ent := [(0, .aload_n 0, 1, 0, 0, 0, 0, 0, 0, []),
  (1, .iload_n 1, 1, 1, 0, 0, 0, 0, 0, []),
  (2, .invokevirtual 112, 3, 148, 1, 1227, 8, 0, 0, []),
  (5, .ifCond .ne 5, 3, 10, 0, 0, 0, 0, 0, []),
  (8, .iconst (-1), 1, 0, 0, 0, 0, -1, 0, []),
  (9, .ireturn, 1, 0, 0, 0, 0, 0, 0, []),
  (10, .iload_n 2, 1, 2, 0, 0, 0, 0, 0, []),
  (11, .i2l, 1, 0, 0, 0, 0, 0, 0, []),
  (12, .lconst 0, 1, 0, 0, 0, 0, 0, 0, []),
  (13, .ldc2_w 94, 3, 0, 0, 1205, 0, 0, 5, []),
  (16, .invokestatic 68, 3, 143, 3, 1201, 0, 0, 0, []),
  (19, .ifCond .ne 6, 3, 25, 0, 0, 0, 0, 0, []),
  (22, .bipush (-2), 2, 0, 0, 0, 0, -2, 0, []),
  (24, .ireturn, 1, 0, 0, 0, 0, 0, 0, []),
  (25, .aload_n 0, 1, 0, 0, 0, 0, 0, 0, []),
  (26, .iload_n 1, 1, 1, 0, 0, 0, 0, 0, []),
  (27, .iconst 2, 1, 0, 0, 0, 0, 2, 0, []),
  (28, .invokevirtual 72, 3, 150, 2, 1213, 8, 0, 0, []),
  (31, .iload_n 2, 1, 2, 0, 0, 0, 0, 0, []),
  (32, .invokestatic 86, 3, 153, 2, 1220, 0, 0, 0, []),
  (35, .ifCond .eq 11, 3, 46, 0, 0, 0, 0, 0, []),
  (38, .aload_n 0, 1, 0, 0, 0, 0, 0, 0, []),
  (39, .iload_n 1, 1, 1, 0, 0, 0, 0, 0, []),
  (40, .invokevirtual 118, 3, 156, 1, 1232, 8, 0, 0, []),
  (43, .goto 5, 3, 48, 0, 0, 0, 0, 0, []),
  (46, .bipush (-3), 2, 0, 0, 0, 0, -3, 0, []),
  (48, .ireturn, 1, 0, 0, 0, 0, 0, 0, [])]
def M_X9_wire : MI := (yX9_wire, cX9_wire, 5, (some Jvm.ClassFile.FieldType.int), 3, 2, 46, false, 1273, 1271, 1272, 95)
def k_X9_wire : List Ent := [(0, .iload_n 1, 1, 1, 0, 0, 0, 0, 0, []),
  (1, .iconst (-1), 1, 0, 0, 0, 0, -1, 0, []),
  (2, .if_icmp .eq 11, 3, 13, 0, 0, 0, 0, 0, []),
  (5, .aload_n 0, 1, 0, 0, 0, 0, 0, 0, []),
  (6, .iload_n 1, 1, 1, 0, 0, 0, 0, 0, []),
  (7, .invokevirtual 112, 3, 148, 1, 1227, 8, 0, 0, []),
  (10, .ifCond .eq 16, 3, 26, 0, 0, 0, 0, 0, []),
  (13, .aload_n 0, 1, 0, 0, 0, 0, 0, 0, []),
  (14, .iload_n 2, 1, 2, 0, 0, 0, 0, 0, []),
  (15, .invokevirtual 112, 3, 148, 1, 1227, 8, 0, 0, []),
  (18, .ifCond .eq 8, 3, 26, 0, 0, 0, 0, 0, []),
  (21, .iload_n 1, 1, 1, 0, 0, 0, 0, 0, []),
  (22, .iload_n 2, 1, 2, 0, 0, 0, 0, 0, []),
  (23, .if_icmp .ne 5, 3, 28, 0, 0, 0, 0, 0, []),
  (26, .iconst (-1), 1, 0, 0, 0, 0, -1, 0, []),
  (27, .ireturn, 1, 0, 0, 0, 0, 0, 0, []),
  (28, .iload_n 3, 1, 3, 0, 0, 0, 0, 0, []),
  (29, .i2l, 1, 0, 0, 0, 0, 0, 0, []),
  (30, .lconst 0, 1, 0, 0, 0, 0, 0, 0, []),
  (31, .ldc2_w 130, 3, 0, 0, 1274, 0, 0, 500, []),
  (34, .invokestatic 68, 3, 143, 3, 1201, 0, 0, 0, []),
  (37, .ifCond .ne 6, 3, 43, 0, 0, 0, 0, 0, []),
  (40, .bipush (-2), 2, 0, 0, 0, 0, -2, 0, []),
  (42, .ireturn, 1, 0, 0, 0, 0, 0, 0, []),
  (43, .aload_n 0, 1, 0, 0, 0, 0, 0, 0, []),
  (44, .getfield 11, 3, 8, 0, 1089, 2, 0, 0, []),
  (47, .sipush 281, 3, 0, 0, 0, 0, 281, 0, []),
  (50, .iaload, 1, 0, 0, 0, 0, 0, 0, []),
  (51, .bipush 40, 2, 0, 0, 0, 0, 40, 0, []),
  (53, .if_icmp .ne 6, 3, 59, 0, 0, 0, 0, 0, []),
  (56, .bipush (-4), 2, 0, 0, 0, 0, -4, 0, []),
  (58, .ireturn, 1, 0, 0, 0, 0, 0, 0, []),
  (59, .sipush 160, 3, 0, 0, 0, 0, 160, 0, []),
  (62, .iconst 3, 1, 0, 0, 0, 0, 3, 0, []),
  (63, .aload_n 0, 1, 0, 0, 0, 0, 0, 0, []),
  (64, .getfield 11, 3, 8, 0, 1089, 2, 0, 0, []),
  (67, .sipush 281, 3, 0, 0, 0, 0, 281, 0, []),
  (70, .iaload, 1, 0, 0, 0, 0, 0, 0, []),
  (71, .imul, 1, 0, 0, 0, 0, 0, 0, []),
  (72, .iadd, 1, 0, 0, 0, 0, 0, 0, []),
  (73, .istore 4, 2, 4, 0, 0, 0, 0, 0, []),
  (75, .aload_n 0, 1, 0, 0, 0, 0, 0, 0, []),
  (76, .getfield 11, 3, 8, 0, 1089, 2, 0, 0, []),
  (79, .iload 4, 2, 4, 0, 0, 0, 0, 0, []),
  (81, .iload_n 1, 1, 1, 0, 0, 0, 0, 0, []),
  (82, .iastore, 1, 0, 0, 0, 0, 0, 0, []),
  (83, .aload_n 0, 1, 0, 0, 0, 0, 0, 0, []),
  (84, .getfield 11, 3, 8, 0, 1089, 2, 0, 0, []),
  (87, .iload 4, 2, 4, 0, 0, 0, 0, 0, []),
  (89, .iconst 1, 1, 0, 0, 0, 0, 1, 0, []),
  (90, .iadd, 1, 0, 0, 0, 0, 0, 0, []),
  (91, .iload_n 2, 1, 2, 0, 0, 0, 0, 0, []),
  (92, .iastore, 1, 0, 0, 0, 0, 0, 0, []),
  (93, .aload_n 0, 1, 0, 0, 0, 0, 0, 0, []),
  (94, .getfield 11, 3, 8, 0, 1089, 2, 0, 0, []),
  (97, .iload 4, 2, 4, 0, 0, 0, 0, 0, []),
  (99, .iconst 2, 1, 0, 0, 0, 0, 2, 0, []),
  (100, .iadd, 1, 0, 0, 0, 0, 0, 0, []),
  (101, .iload_n 3, 1, 3, 0, 0, 0, 0, 0, []),
  (102, .iastore, 1, 0, 0, 0, 0, 0, 0, []),
  (103, .aload_n 0, 1, 0, 0, 0, 0, 0, 0, []),
  (104, .getfield 11, 3, 8, 0, 1089, 2, 0, 0, []),
  (107, .sipush 281, 3, 0, 0, 0, 0, 281, 0, []),
  (110, .dup2, 1, 0, 0, 0, 0, 0, 0, []),
  (111, .iaload, 1, 0, 0, 0, 0, 0, 0, []),
  (112, .iconst 1, 1, 0, 0, 0, 0, 1, 0, []),
  (113, .iadd, 1, 0, 0, 0, 0, 0, 0, []),
  (114, .iastore, 1, 0, 0, 0, 0, 0, 0, []),
  (115, .aload_n 0, 1, 0, 0, 0, 0, 0, 0, []),
  (116, .getfield 11, 3, 8, 0, 1089, 2, 0, 0, []),
  (119, .sipush 285, 3, 0, 0, 0, 0, 285, 0, []),
  (122, .iconst 0, 1, 0, 0, 0, 0, 0, 0, []),
  (123, .iastore, 1, 0, 0, 0, 0, 0, 0, []),
  (124, .aload_n 0, 1, 0, 0, 0, 0, 0, 0, []),
  (125, .getfield 11, 3, 8, 0, 1089, 2, 0, 0, []),
  (128, .sipush 281, 3, 0, 0, 0, 0, 281, 0, []),
  (131, .iaload, 1, 0, 0, 0, 0, 0, 0, []),
  (132, .iconst 1, 1, 0, 0, 0, 0, 1, 0, []),
  (133, .isub, 1, 0, 0, 0, 0, 0, 0, []),
  (134, .ireturn, 1, 0, 0, 0, 0, 0, 0, [])]
def M_X9_cuts : MI := (yX9_cuts, cX9_cuts, 3, (none), 1, 0, 0, false, 1286, 1285, 47, 95)
def k_X9_cuts : List Ent := [(0, .aload_n 0, 1, 0, 0, 0, 0, 0, 0, []),
  (1, .getfield 11, 3, 8, 0, 1089, 2, 0, 0, []),
  (4, .sipush 281, 3, 0, 0, 0, 0, 281, 0, []),
  (7, .dup2, 1, 0, 0, 0, 0, 0, 0, []),
  (8, .iaload, 1, 0, 0, 0, 0, 0, 0, []),
  (9, .iconst 1, 1, 0, 0, 0, 0, 1, 0, []),
  (10, .isub, 1, 0, 0, 0, 0, 0, 0, []),
  (11, .iastore, 1, 0, 0, 0, 0, 0, 0, []),
  (12, .sipush 160, 3, 0, 0, 0, 0, 160, 0, []),
  (15, .iconst 3, 1, 0, 0, 0, 0, 3, 0, []),
  (16, .iload_n 1, 1, 1, 0, 0, 0, 0, 0, []),
  (17, .imul, 1, 0, 0, 0, 0, 0, 0, []),
  (18, .iadd, 1, 0, 0, 0, 0, 0, 0, []),
  (19, .istore_n 2, 1, 2, 0, 0, 0, 0, 0, []),
  (20, .iload_n 2, 1, 2, 0, 0, 0, 0, 0, []),
  (21, .sipush 160, 3, 0, 0, 0, 0, 160, 0, []),
  (24, .iconst 3, 1, 0, 0, 0, 0, 3, 0, []),
  (25, .aload_n 0, 1, 0, 0, 0, 0, 0, 0, []),
  (26, .getfield 11, 3, 8, 0, 1089, 2, 0, 0, []),
  (29, .sipush 281, 3, 0, 0, 0, 0, 281, 0, []),
  (32, .iaload, 1, 0, 0, 0, 0, 0, 0, []),
  (33, .imul, 1, 0, 0, 0, 0, 0, 0, []),
  (34, .iadd, 1, 0, 0, 0, 0, 0, 0, []),
  (35, .if_icmp .ge 23, 3, 58, 0, 0, 0, 0, 0, []),
  (38, .aload_n 0, 1, 0, 0, 0, 0, 0, 0, []),
  (39, .getfield 11, 3, 8, 0, 1089, 2, 0, 0, []),
  (42, .iload_n 2, 1, 2, 0, 0, 0, 0, 0, []),
  (43, .aload_n 0, 1, 0, 0, 0, 0, 0, 0, []),
  (44, .getfield 11, 3, 8, 0, 1089, 2, 0, 0, []),
  (47, .iload_n 2, 1, 2, 0, 0, 0, 0, 0, []),
  (48, .iconst 3, 1, 0, 0, 0, 0, 3, 0, []),
  (49, .iadd, 1, 0, 0, 0, 0, 0, 0, []),
  (50, .iaload, 1, 0, 0, 0, 0, 0, 0, []),
  (51, .iastore, 1, 0, 0, 0, 0, 0, 0, []),
  (52, .iinc 2 1, 3, 2, 0, 0, 0, 1, 0, []),
  (55, .goto (-35), 3, 20, 0, 0, 0, 0, 0, []),
  (58, .return_, 1, 0, 0, 0, 0, 0, 0, [])]
def M_X9_cut : MI := (yX9_cut, cX9_cut, 2, (some Jvm.ClassFile.FieldType.int), 1, 2, 46, false, 1278, 1276, 1277, 95)
def k_X9_cut : List Ent := [(0, .aload_n 0, 1, 0, 0, 0, 0, 0, 0, []),
  (1, .iload_n 1, 1, 1, 0, 0, 0, 0, 0, []),
  (2, .invokevirtual 132, 3, 149, 1, 1279, 8, 0, 0, []),
  (5, .ifCond .ne 5, 3, 10, 0, 0, 0, 0, 0, []),
  (8, .iconst (-1), 1, 0, 0, 0, 0, -1, 0, []),
  (9, .ireturn, 1, 0, 0, 0, 0, 0, 0, []),
  (10, .aload_n 0, 1, 0, 0, 0, 0, 0, 0, []),
  (11, .iload_n 1, 1, 1, 0, 0, 0, 0, 0, []),
  (12, .invokevirtual 135, 3, 167, 1, 1283, 8, 0, 0, []),
  (15, .aload_n 0, 1, 0, 0, 0, 0, 0, 0, []),
  (16, .getfield 11, 3, 8, 0, 1089, 2, 0, 0, []),
  (19, .sipush 285, 3, 0, 0, 0, 0, 285, 0, []),
  (22, .iconst 0, 1, 0, 0, 0, 0, 0, 0, []),
  (23, .iastore, 1, 0, 0, 0, 0, 0, 0, []),
  (24, .aload_n 0, 1, 0, 0, 0, 0, 0, 0, []),
  (25, .getfield 11, 3, 8, 0, 1089, 2, 0, 0, []),
  (28, .sipush 281, 3, 0, 0, 0, 0, 281, 0, []),
  (31, .iaload, 1, 0, 0, 0, 0, 0, 0, []),
  (32, .ireturn, 1, 0, 0, 0, 0, 0, 0, [])]
def M_X9_rule : MI := (yX9_rule, cX9_rule, 4, (some Jvm.ClassFile.FieldType.int), 2, 1, 25, false, 1290, 1288, 1289, 95)
def k_X9_rule : List Ent := [(0, .iload_n 1, 1, 1, 0, 0, 0, 0, 0, []),
  (1, .i2l, 1, 0, 0, 0, 0, 0, 0, []),
  (2, .lconst 0, 1, 0, 0, 0, 0, 0, 0, []),
  (3, .ldc2_w 139, 3, 0, 0, 1291, 0, 0, 2, []),
  (6, .invokestatic 68, 3, 143, 3, 1201, 0, 0, 0, []),
  (9, .ifCond .ne 5, 3, 14, 0, 0, 0, 0, 0, []),
  (12, .iconst (-1), 1, 0, 0, 0, 0, -1, 0, []),
  (13, .ireturn, 1, 0, 0, 0, 0, 0, 0, []),
  (14, .iload_n 2, 1, 2, 0, 0, 0, 0, 0, []),
  (15, .i2l, 1, 0, 0, 0, 0, 0, 0, []),
  (16, .iload_n 1, 1, 1, 0, 0, 0, 0, 0, []),
  (17, .iconst 2, 1, 0, 0, 0, 0, 2, 0, []),
  (18, .if_icmp .ne 9, 3, 27, 0, 0, 0, 0, 0, []),
  (21, .ldc2_w 94, 3, 0, 0, 1205, 0, 0, 5, []),
  (24, .goto 4, 3, 28, 0, 0, 0, 0, 0, []),
  (27, .lconst 1, 1, 0, 0, 0, 0, 0, 0, []),
  (28, .iload_n 1, 1, 1, 0, 0, 0, 0, 0, []),
  (29, .iconst 1, 1, 0, 0, 0, 0, 1, 0, []),
  (30, .if_icmp .ne 9, 3, 39, 0, 0, 0, 0, 0, []),
  (33, .ldc2_w 141, 3, 0, 0, 1292, 0, 0, 9999, []),
  (36, .goto 6, 3, 42, 0, 0, 0, 0, 0, []),
  (39, .ldc2_w 96, 3, 0, 0, 1206, 0, 0, 99, []),
  (42, .invokestatic 68, 3, 143, 3, 1201, 0, 0, 0, []),
  (45, .ifCond .ne 6, 3, 51, 0, 0, 0, 0, 0, []),
  (48, .bipush (-2), 2, 0, 0, 0, 0, -2, 0, []),
  (50, .ireturn, 1, 0, 0, 0, 0, 0, 0, []),
  (51, .aload_n 0, 1, 0, 0, 0, 0, 0, 0, []),
  (52, .getfield 11, 3, 8, 0, 1089, 2, 0, 0, []),
  (55, .sipush 282, 3, 0, 0, 0, 0, 282, 0, []),
  (58, .iload_n 1, 1, 1, 0, 0, 0, 0, 0, []),
  (59, .iadd, 1, 0, 0, 0, 0, 0, 0, []),
  (60, .iaload, 1, 0, 0, 0, 0, 0, 0, []),
  (61, .istore_n 3, 1, 3, 0, 0, 0, 0, 0, []),
  (62, .aload_n 0, 1, 0, 0, 0, 0, 0, 0, []),
  (63, .getfield 11, 3, 8, 0, 1089, 2, 0, 0, []),
  (66, .sipush 282, 3, 0, 0, 0, 0, 282, 0, []),
  (69, .iload_n 1, 1, 1, 0, 0, 0, 0, 0, []),
  (70, .iadd, 1, 0, 0, 0, 0, 0, 0, []),
  (71, .iload_n 2, 1, 2, 0, 0, 0, 0, 0, []),
  (72, .iastore, 1, 0, 0, 0, 0, 0, 0, []),
  (73, .aload_n 0, 1, 0, 0, 0, 0, 0, 0, []),
  (74, .getfield 11, 3, 8, 0, 1089, 2, 0, 0, []),
  (77, .sipush 285, 3, 0, 0, 0, 0, 285, 0, []),
  (80, .iconst 0, 1, 0, 0, 0, 0, 0, 0, []),
  (81, .iastore, 1, 0, 0, 0, 0, 0, 0, []),
  (82, .iload_n 3, 1, 3, 0, 0, 0, 0, 0, []),
  (83, .ireturn, 1, 0, 0, 0, 0, 0, 0, [])]
def M_X9_drop : MI := (yX9_drop, cX9_drop, 2, (some Jvm.ClassFile.FieldType.int), 0, 1, 22, false, 1296, 1294, 1295, 95)
def k_X9_drop : List Ent := [(0, .aload_n 0, 1, 0, 0, 0, 0, 0, 0, []),
  (1, .getfield 11, 3, 8, 0, 1089, 2, 0, 0, []),
  (4, .sipush 280, 3, 0, 0, 0, 0, 280, 0, []),
  (7, .iaload, 1, 0, 0, 0, 0, 0, 0, []),
  (8, .ifCond .ne 6, 3, 14, 0, 0, 0, 0, 0, []),
  (11, .bipush (-3), 2, 0, 0, 0, 0, -3, 0, []),
  (13, .ireturn, 1, 0, 0, 0, 0, 0, 0, []),
  (14, .aload_n 0, 1, 0, 0, 0, 0, 0, 0, []),
  (15, .getfield 11, 3, 8, 0, 1089, 2, 0, 0, []),
  (18, .sipush 280, 3, 0, 0, 0, 0, 280, 0, []),
  (21, .dup2, 1, 0, 0, 0, 0, 0, 0, []),
  (22, .iaload, 1, 0, 0, 0, 0, 0, 0, []),
  (23, .iconst 1, 1, 0, 0, 0, 0, 1, 0, []),
  (24, .isub, 1, 0, 0, 0, 0, 0, 0, []),
  (25, .iastore, 1, 0, 0, 0, 0, 0, 0, []),
  (26, .aload_n 0, 1, 0, 0, 0, 0, 0, 0, []),
  (27, .getfield 11, 3, 8, 0, 1089, 2, 0, 0, []),
  (30, .sipush 281, 3, 0, 0, 0, 0, 281, 0, []),
  (33, .iaload, 1, 0, 0, 0, 0, 0, 0, []),
  (34, .iconst 1, 1, 0, 0, 0, 0, 1, 0, []),
  (35, .isub, 1, 0, 0, 0, 0, 0, 0, []),
  (36, .istore_n 1, 1, 1, 0, 0, 0, 0, 0, []),
  (37, .iload_n 1, 1, 1, 0, 0, 0, 0, 0, []),
  (38, .ifCond .lt 48, 3, 86, 0, 0, 0, 0, 0, []),
  (41, .aload_n 0, 1, 0, 0, 0, 0, 0, 0, []),
  (42, .iload_n 1, 1, 1, 0, 0, 0, 0, 0, []),
  (43, .iconst 0, 1, 0, 0, 0, 0, 0, 0, []),
  (44, .invokevirtual 143, 3, 151, 2, 1297, 8, 0, 0, []),
  (47, .aload_n 0, 1, 0, 0, 0, 0, 0, 0, []),
  (48, .getfield 11, 3, 8, 0, 1089, 2, 0, 0, []),
  (51, .sipush 280, 3, 0, 0, 0, 0, 280, 0, []),
  (54, .iaload, 1, 0, 0, 0, 0, 0, 0, []),
  (55, .if_icmp .eq 20, 3, 75, 0, 0, 0, 0, 0, []),
  (58, .aload_n 0, 1, 0, 0, 0, 0, 0, 0, []),
  (59, .iload_n 1, 1, 1, 0, 0, 0, 0, 0, []),
  (60, .iconst 1, 1, 0, 0, 0, 0, 1, 0, []),
  (61, .invokevirtual 143, 3, 151, 2, 1297, 8, 0, 0, []),
  (64, .aload_n 0, 1, 0, 0, 0, 0, 0, 0, []),
  (65, .getfield 11, 3, 8, 0, 1089, 2, 0, 0, []),
  (68, .sipush 280, 3, 0, 0, 0, 0, 280, 0, []),
  (71, .iaload, 1, 0, 0, 0, 0, 0, 0, []),
  (72, .if_icmp .ne 8, 3, 80, 0, 0, 0, 0, 0, []),
  (75, .aload_n 0, 1, 0, 0, 0, 0, 0, 0, []),
  (76, .iload_n 1, 1, 1, 0, 0, 0, 0, 0, []),
  (77, .invokevirtual 135, 3, 167, 1, 1283, 8, 0, 0, []),
  (80, .iinc 1 (-1), 3, 1, 0, 0, 0, -1, 0, []),
  (83, .goto (-46), 3, 37, 0, 0, 0, 0, 0, []),
  (86, .aload_n 0, 1, 0, 0, 0, 0, 0, 0, []),
  (87, .getfield 11, 3, 8, 0, 1089, 2, 0, 0, []),
  (90, .sipush 285, 3, 0, 0, 0, 0, 285, 0, []),
  (93, .iconst 0, 1, 0, 0, 0, 0, 0, 0, []),
  (94, .iastore, 1, 0, 0, 0, 0, 0, 0, []),
  (95, .aload_n 0, 1, 0, 0, 0, 0, 0, 0, []),
  (96, .getfield 11, 3, 8, 0, 1089, 2, 0, 0, []),
  (99, .sipush 280, 3, 0, 0, 0, 0, 280, 0, []),
  (102, .iaload, 1, 0, 0, 0, 0, 0, 0, []),
  (103, .ireturn, 1, 0, 0, 0, 0, 0, 0, [])]
def M_X9_endOf : MI := (yX9_endOf, cX9_endOf, 3, (some Jvm.ClassFile.FieldType.int), 1, 2, 43, false, 1317, 1316, 51, 95)
def k_X9_endOf : List Ent := [(0, .aload_n 0, 1, 0, 0, 0, 0, 0, 0, []),
  (1, .iload_n 1, 1, 1, 0, 0, 0, 0, 0, []),
  (2, .iconst 0, 1, 0, 0, 0, 0, 0, 0, []),
  (3, .invokevirtual 143, 3, 151, 2, 1297, 8, 0, 0, []),
  (6, .istore_n 2, 1, 2, 0, 0, 0, 0, 0, []),
  (7, .iload_n 2, 1, 2, 0, 0, 0, 0, 0, []),
  (8, .ifCond .ge 10, 3, 18, 0, 0, 0, 0, 0, []),
  (11, .aload_n 0, 1, 0, 0, 0, 0, 0, 0, []),
  (12, .iload_n 1, 1, 1, 0, 0, 0, 0, 0, []),
  (13, .iconst 2, 1, 0, 0, 0, 0, 2, 0, []),
  (14, .invokevirtual 143, 3, 151, 2, 1297, 8, 0, 0, []),
  (17, .ireturn, 1, 0, 0, 0, 0, 0, 0, []),
  (18, .aload_n 0, 1, 0, 0, 0, 0, 0, 0, []),
  (19, .getfield 21, 3, 8, 5, 1094, 2, 0, 0, []),
  (22, .iload_n 2, 1, 2, 0, 0, 0, 0, 0, []),
  (23, .iaload, 1, 0, 0, 0, 0, 0, 0, []),
  (24, .ldc 146, 2, 0, 0, 1313, 0, 1000000, 0, []),
  (26, .if_icmp .eq 11, 3, 37, 0, 0, 0, 0, 0, []),
  (29, .aload_n 0, 1, 0, 0, 0, 0, 0, 0, []),
  (30, .iload_n 2, 1, 2, 0, 0, 0, 0, 0, []),
  (31, .invokevirtual 147, 3, 152, 1, 1318, 8, 0, 0, []),
  (34, .ifCond .eq 8, 3, 42, 0, 0, 0, 0, 0, []),
  (37, .ldc 146, 2, 0, 0, 1313, 0, 1000000, 0, []),
  (39, .goto 16, 3, 55, 0, 0, 0, 0, 0, []),
  (42, .aload_n 0, 1, 0, 0, 0, 0, 0, 0, []),
  (43, .getfield 21, 3, 8, 5, 1094, 2, 0, 0, []),
  (46, .iload_n 2, 1, 2, 0, 0, 0, 0, 0, []),
  (47, .iaload, 1, 0, 0, 0, 0, 0, 0, []),
  (48, .aload_n 0, 1, 0, 0, 0, 0, 0, 0, []),
  (49, .iload_n 1, 1, 1, 0, 0, 0, 0, 0, []),
  (50, .iconst 2, 1, 0, 0, 0, 0, 2, 0, []),
  (51, .invokevirtual 143, 3, 151, 2, 1297, 8, 0, 0, []),
  (54, .iadd, 1, 0, 0, 0, 0, 0, 0, []),
  (55, .ireturn, 1, 0, 0, 0, 0, 0, 0, [])]
def M_X9_signals : MI := (yX9_signals, cX9_signals, 4, (none), 0, 3, 65, false, 1312, 1311, 50, 95)
def k_X9_signals : List Ent := [(0, .iconst 0, 1, 0, 0, 0, 0, 0, 0, []),
  (1, .istore_n 1, 1, 1, 0, 0, 0, 0, 0, []),
  (2, .iload_n 1, 1, 1, 0, 0, 0, 0, 0, []),
  (3, .bipush 20, 2, 0, 0, 0, 0, 20, 0, []),
  (5, .if_icmp .ge 17, 3, 22, 0, 0, 0, 0, 0, []),
  (8, .aload_n 0, 1, 0, 0, 0, 0, 0, 0, []),
  (9, .getfield 21, 3, 8, 5, 1094, 2, 0, 0, []),
  (12, .iload_n 1, 1, 1, 0, 0, 0, 0, 0, []),
  (13, .ldc 146, 2, 0, 0, 1313, 0, 1000000, 0, []),
  (15, .iastore, 1, 0, 0, 0, 0, 0, 0, []),
  (16, .iinc 1 1, 3, 1, 0, 0, 0, 1, 0, []),
  (19, .goto (-17), 3, 2, 0, 0, 0, 0, 0, []),
  (22, .iconst 1, 1, 0, 0, 0, 0, 1, 0, []),
  (23, .istore_n 1, 1, 1, 0, 0, 0, 0, 0, []),
  (24, .iload_n 1, 1, 1, 0, 0, 0, 0, 0, []),
  (25, .ifCond .eq 63, 3, 88, 0, 0, 0, 0, 0, []),
  (28, .iconst 0, 1, 0, 0, 0, 0, 0, 0, []),
  (29, .istore_n 1, 1, 1, 0, 0, 0, 0, 0, []),
  (30, .iconst 0, 1, 0, 0, 0, 0, 0, 0, []),
  (31, .istore_n 2, 1, 2, 0, 0, 0, 0, 0, []),
  (32, .iload_n 2, 1, 2, 0, 0, 0, 0, 0, []),
  (33, .aload_n 0, 1, 0, 0, 0, 0, 0, 0, []),
  (34, .getfield 11, 3, 8, 0, 1089, 2, 0, 0, []),
  (37, .sipush 281, 3, 0, 0, 0, 0, 281, 0, []),
  (40, .iaload, 1, 0, 0, 0, 0, 0, 0, []),
  (41, .if_icmp .ge 44, 3, 85, 0, 0, 0, 0, 0, []),
  (44, .aload_n 0, 1, 0, 0, 0, 0, 0, 0, []),
  (45, .iload_n 2, 1, 2, 0, 0, 0, 0, 0, []),
  (46, .invokevirtual 150, 3, 171, 1, 1314, 8, 0, 0, []),
  (49, .istore_n 3, 1, 3, 0, 0, 0, 0, 0, []),
  (50, .iload_n 3, 1, 3, 0, 0, 0, 0, 0, []),
  (51, .aload_n 0, 1, 0, 0, 0, 0, 0, 0, []),
  (52, .getfield 21, 3, 8, 5, 1094, 2, 0, 0, []),
  (55, .aload_n 0, 1, 0, 0, 0, 0, 0, 0, []),
  (56, .iload_n 2, 1, 2, 0, 0, 0, 0, 0, []),
  (57, .iconst 1, 1, 0, 0, 0, 0, 1, 0, []),
  (58, .invokevirtual 143, 3, 151, 2, 1297, 8, 0, 0, []),
  (61, .iaload, 1, 0, 0, 0, 0, 0, 0, []),
  (62, .if_icmp .ge 17, 3, 79, 0, 0, 0, 0, 0, []),
  (65, .aload_n 0, 1, 0, 0, 0, 0, 0, 0, []),
  (66, .getfield 21, 3, 8, 5, 1094, 2, 0, 0, []),
  (69, .aload_n 0, 1, 0, 0, 0, 0, 0, 0, []),
  (70, .iload_n 2, 1, 2, 0, 0, 0, 0, 0, []),
  (71, .iconst 1, 1, 0, 0, 0, 0, 1, 0, []),
  (72, .invokevirtual 143, 3, 151, 2, 1297, 8, 0, 0, []),
  (75, .iload_n 3, 1, 3, 0, 0, 0, 0, 0, []),
  (76, .iastore, 1, 0, 0, 0, 0, 0, 0, []),
  (77, .iconst 1, 1, 0, 0, 0, 0, 1, 0, []),
  (78, .istore_n 1, 1, 1, 0, 0, 0, 0, 0, []),
  (79, .iinc 2 1, 3, 2, 0, 0, 0, 1, 0, []),
  (82, .goto (-50), 3, 32, 0, 0, 0, 0, 0, []),
  (85, .goto (-61), 3, 24, 0, 0, 0, 0, 0, []),
  (88, .return_, 1, 0, 0, 0, 0, 0, 0, [])]
def M_X9_has : MI := (yX9_has, cX9_has, 3, (some Jvm.ClassFile.FieldType.boolean), 2, 0, 0, false, 1325, 1324, 53, 95)
def k_X9_has : List Ent := [(0, .iload_n 1, 1, 1, 0, 0, 0, 0, 0, []),
  (1, .iload_n 2, 1, 2, 0, 0, 0, 0, 0, []),
  (2, .ishr, 1, 0, 0, 0, 0, 0, 0, []),
  (3, .iconst 1, 1, 0, 0, 0, 0, 1, 0, []),
  (4, .iand, 1, 0, 0, 0, 0, 0, 0, []),
  (5, .iconst 1, 1, 0, 0, 0, 0, 1, 0, []),
  (6, .if_icmp .ne 7, 3, 13, 0, 0, 0, 0, 0, []),
  (9, .iconst 1, 1, 0, 0, 0, 0, 1, 0, []),
  (10, .goto 4, 3, 14, 0, 0, 0, 0, 0, []),
  (13, .iconst 0, 1, 0, 0, 0, 0, 0, 0, []),
  (14, .ireturn, 1, 1, 0, 0, 0, 0, 0, [])]
def M_X9_isRelieved : MI := (yX9_isRelieved, cX9_isRelieved, 6, (some Jvm.ClassFile.FieldType.boolean), 2, 2, 46, false, 1329, 1328, 54, 95)
def k_X9_isRelieved : List Ent := [(0, .aload_n 0, 1, 0, 0, 0, 0, 0, 0, []),
  (1, .iload_n 1, 1, 1, 0, 0, 0, 0, 0, []),
  (2, .iconst 0, 1, 0, 0, 0, 0, 0, 0, []),
  (3, .invokevirtual 72, 3, 150, 2, 1213, 8, 0, 0, []),
  (6, .ifCond .ne 5, 3, 11, 0, 0, 0, 0, 0, []),
  (9, .iconst 1, 1, 0, 0, 0, 0, 1, 0, []),
  (10, .ireturn, 1, 1, 0, 0, 0, 0, 0, []),
  (11, .aload_n 0, 1, 0, 0, 0, 0, 0, 0, []),
  (12, .iload_n 1, 1, 1, 0, 0, 0, 0, 0, []),
  (13, .invokevirtual 127, 3, 162, 1, 1255, 8, 0, 0, []),
  (16, .istore_n 3, 1, 3, 0, 0, 0, 0, 0, []),
  (17, .iload_n 3, 1, 3, 0, 0, 0, 0, 0, []),
  (18, .ifCond .eq 7, 3, 25, 0, 0, 0, 0, 0, []),
  (21, .iconst 1, 1, 0, 0, 0, 0, 1, 0, []),
  (22, .goto 4, 3, 26, 0, 0, 0, 0, 0, []),
  (25, .iconst 0, 1, 0, 0, 0, 0, 0, 0, []),
  (26, .istore 4, 2, 4, 0, 0, 0, 0, 0, []),
  (28, .iconst 0, 1, 0, 0, 0, 0, 0, 0, []),
  (29, .istore 5, 2, 5, 0, 0, 0, 0, 0, []),
  (31, .iload 5, 2, 5, 0, 0, 0, 0, 0, []),
  (33, .aload_n 0, 1, 0, 0, 0, 0, 0, 0, []),
  (34, .getfield 11, 3, 8, 0, 1089, 2, 0, 0, []),
  (37, .sipush 280, 3, 0, 0, 0, 0, 280, 0, []),
  (40, .iaload, 1, 0, 0, 0, 0, 0, 0, []),
  (41, .if_icmp .ge 63, 3, 104, 0, 0, 0, 0, 0, []),
  (44, .iload 4, 2, 4, 0, 0, 0, 0, 0, []),
  (46, .ifCond .eq 49, 3, 95, 0, 0, 0, 0, 0, []),
  (49, .aload_n 0, 1, 0, 0, 0, 0, 0, 0, []),
  (50, .iload_n 3, 1, 3, 0, 0, 0, 0, 0, []),
  (51, .iload 5, 2, 5, 0, 0, 0, 0, 0, []),
  (53, .invokevirtual 153, 3, 173, 2, 1322, 8, 0, 0, []),
  (56, .ifCond .eq 35, 3, 91, 0, 0, 0, 0, 0, []),
  (59, .aload_n 0, 1, 0, 0, 0, 0, 0, 0, []),
  (60, .iload_n 2, 1, 2, 0, 0, 0, 0, 0, []),
  (61, .iload 5, 2, 5, 0, 0, 0, 0, 0, []),
  (63, .invokevirtual 153, 3, 173, 2, 1322, 8, 0, 0, []),
  (66, .ifCond .eq 29, 3, 95, 0, 0, 0, 0, 0, []),
  (69, .aload_n 0, 1, 0, 0, 0, 0, 0, 0, []),
  (70, .getfield 24, 3, 8, 6, 1095, 2, 0, 0, []),
  (73, .iload 5, 2, 5, 0, 0, 0, 0, 0, []),
  (75, .iaload, 1, 0, 0, 0, 0, 0, 0, []),
  (76, .aload_n 0, 1, 0, 0, 0, 0, 0, 0, []),
  (77, .getfield 24, 3, 8, 6, 1095, 2, 0, 0, []),
  (80, .iload_n 1, 1, 1, 0, 0, 0, 0, 0, []),
  (81, .iaload, 1, 0, 0, 0, 0, 0, 0, []),
  (82, .aload_n 0, 1, 0, 0, 0, 0, 0, 0, []),
  (83, .iload_n 1, 1, 1, 0, 0, 0, 0, 0, []),
  (84, .invokevirtual 124, 3, 158, 1, 1251, 8, 0, 0, []),
  (87, .isub, 1, 0, 0, 0, 0, 0, 0, []),
  (88, .if_icmp .gt 7, 3, 95, 0, 0, 0, 0, 0, []),
  (91, .iconst 1, 1, 0, 0, 0, 0, 1, 0, []),
  (92, .goto 4, 3, 96, 0, 0, 0, 0, 0, []),
  (95, .iconst 0, 1, 0, 0, 0, 0, 0, 0, []),
  (96, .istore 4, 2, 4, 0, 0, 0, 0, 0, []),
  (98, .iinc 5 1, 3, 5, 0, 0, 0, 1, 0, []),
  (101, .goto (-70), 3, 31, 0, 0, 0, 0, 0, []),
  (104, .iload 4, 2, 4, 0, 0, 0, 0, 0, []),
  (106, .ireturn, 1, 1, 0, 0, 0, 0, 0, [])]
def M_X9_fires : MI := (yX9_fires, cX9_fires, 2, (none), 0, 4, 88, false, 1308, 1307, 49, 95)
def k_X9_fires : List Ent := [(0, .aload_n 0, 1, 0, 0, 0, 0, 0, 0, []),
  (1, .invokevirtual 156, 3, 172, 0, 1309, 8, 0, 0, []),
  (4, .aload_n 0, 1, 0, 0, 0, 0, 0, 0, []),
  (5, .iconst 0, 1, 0, 0, 0, 0, 0, 0, []),
  (6, .putfield 159, 3, 8, 7, 1096, 0, 0, 0, []),
  (9, .iconst 0, 1, 0, 0, 0, 0, 0, 0, []),
  (10, .istore_n 1, 1, 1, 0, 0, 0, 0, 0, []),
  (11, .iload_n 1, 1, 1, 0, 0, 0, 0, 0, []),
  (12, .aload_n 0, 1, 0, 0, 0, 0, 0, 0, []),
  (13, .getfield 11, 3, 8, 0, 1089, 2, 0, 0, []),
  (16, .sipush 280, 3, 0, 0, 0, 0, 280, 0, []),
  (19, .iaload, 1, 0, 0, 0, 0, 0, 0, []),
  (20, .if_icmp .ge 67, 3, 87, 0, 0, 0, 0, 0, []),
  (23, .aload_n 0, 1, 0, 0, 0, 0, 0, 0, []),
  (24, .getfield 21, 3, 8, 5, 1094, 2, 0, 0, []),
  (27, .iload_n 1, 1, 1, 0, 0, 0, 0, 0, []),
  (28, .iaload, 1, 0, 0, 0, 0, 0, 0, []),
  (29, .ldc 146, 2, 0, 0, 1313, 0, 1000000, 0, []),
  (31, .if_icmp .ge 50, 3, 81, 0, 0, 0, 0, 0, []),
  (34, .aload_n 0, 1, 0, 0, 0, 0, 0, 0, []),
  (35, .iload_n 1, 1, 1, 0, 0, 0, 0, 0, []),
  (36, .invokevirtual 147, 3, 152, 1, 1318, 8, 0, 0, []),
  (39, .ifCond .ne 42, 3, 81, 0, 0, 0, 0, 0, []),
  (42, .aload_n 0, 1, 0, 0, 0, 0, 0, 0, []),
  (43, .iload_n 1, 1, 1, 0, 0, 0, 0, 0, []),
  (44, .invokevirtual 79, 3, 154, 1, 1236, 8, 0, 0, []),
  (47, .ifCond .le 34, 3, 81, 0, 0, 0, 0, 0, []),
  (50, .aload_n 0, 1, 0, 0, 0, 0, 0, 0, []),
  (51, .dup, 1, 0, 0, 0, 0, 0, 0, []),
  (52, .getfield 159, 3, 8, 7, 1096, 0, 0, 0, []),
  (55, .iconst 1, 1, 0, 0, 0, 0, 1, 0, []),
  (56, .iload_n 1, 1, 1, 0, 0, 0, 0, 0, []),
  (57, .ishl, 1, 0, 0, 0, 0, 0, 0, []),
  (58, .ior, 1, 0, 0, 0, 0, 0, 0, []),
  (59, .putfield 159, 3, 8, 7, 1096, 0, 0, 0, []),
  (62, .aload_n 0, 1, 0, 0, 0, 0, 0, 0, []),
  (63, .getfield 24, 3, 8, 6, 1095, 2, 0, 0, []),
  (66, .iload_n 1, 1, 1, 0, 0, 0, 0, 0, []),
  (67, .aload_n 0, 1, 0, 0, 0, 0, 0, 0, []),
  (68, .getfield 21, 3, 8, 5, 1094, 2, 0, 0, []),
  (71, .iload_n 1, 1, 1, 0, 0, 0, 0, 0, []),
  (72, .iaload, 1, 0, 0, 0, 0, 0, 0, []),
  (73, .aload_n 0, 1, 0, 0, 0, 0, 0, 0, []),
  (74, .iload_n 1, 1, 1, 0, 0, 0, 0, 0, []),
  (75, .iconst 5, 1, 0, 0, 0, 0, 5, 0, []),
  (76, .invokevirtual 72, 3, 150, 2, 1213, 8, 0, 0, []),
  (79, .iadd, 1, 0, 0, 0, 0, 0, 0, []),
  (80, .iastore, 1, 0, 0, 0, 0, 0, 0, []),
  (81, .iinc 1 1, 3, 1, 0, 0, 0, 1, 0, []),
  (84, .goto (-73), 3, 11, 0, 0, 0, 0, 0, []),
  (87, .aload_n 0, 1, 0, 0, 0, 0, 0, 0, []),
  (88, .iconst 0, 1, 0, 0, 0, 0, 0, 0, []),
  (89, .putfield 163, 3, 8, 8, 1097, 0, 0, 0, []),
  (92, .iconst 0, 1, 0, 0, 0, 0, 0, 0, []),
  (93, .istore_n 1, 1, 1, 0, 0, 0, 0, 0, []),
  (94, .iload_n 1, 1, 1, 0, 0, 0, 0, 0, []),
  (95, .aload_n 0, 1, 0, 0, 0, 0, 0, 0, []),
  (96, .getfield 11, 3, 8, 0, 1089, 2, 0, 0, []),
  (99, .sipush 280, 3, 0, 0, 0, 0, 280, 0, []),
  (102, .iaload, 1, 0, 0, 0, 0, 0, 0, []),
  (103, .if_icmp .ge 49, 3, 152, 0, 0, 0, 0, 0, []),
  (106, .aload_n 0, 1, 0, 0, 0, 0, 0, 0, []),
  (107, .dup, 1, 0, 0, 0, 0, 0, 0, []),
  (108, .getfield 163, 3, 8, 8, 1097, 0, 0, 0, []),
  (111, .aload_n 0, 1, 0, 0, 0, 0, 0, 0, []),
  (112, .aload_n 0, 1, 0, 0, 0, 0, 0, 0, []),
  (113, .getfield 159, 3, 8, 7, 1096, 0, 0, 0, []),
  (116, .iload_n 1, 1, 1, 0, 0, 0, 0, 0, []),
  (117, .invokevirtual 153, 3, 173, 2, 1322, 8, 0, 0, []),
  (120, .ifCond .eq 21, 3, 141, 0, 0, 0, 0, 0, []),
  (123, .aload_n 0, 1, 0, 0, 0, 0, 0, 0, []),
  (124, .iload_n 1, 1, 1, 0, 0, 0, 0, 0, []),
  (125, .aload_n 0, 1, 0, 0, 0, 0, 0, 0, []),
  (126, .getfield 159, 3, 8, 7, 1096, 0, 0, 0, []),
  (129, .invokevirtual 166, 3, 174, 2, 1326, 8, 0, 0, []),
  (132, .ifCond .ne 9, 3, 141, 0, 0, 0, 0, 0, []),
  (135, .iconst 1, 1, 0, 0, 0, 0, 1, 0, []),
  (136, .iload_n 1, 1, 1, 0, 0, 0, 0, 0, []),
  (137, .ishl, 1, 0, 0, 0, 0, 0, 0, []),
  (138, .goto 4, 3, 142, 0, 0, 0, 0, 0, []),
  (141, .iconst 0, 1, 0, 0, 0, 0, 0, 0, []),
  (142, .ior, 1, 0, 0, 0, 0, 0, 0, []),
  (143, .putfield 163, 3, 8, 8, 1097, 0, 0, 0, []),
  (146, .iinc 1 1, 3, 1, 0, 0, 0, 1, 0, []),
  (149, .goto (-55), 3, 94, 0, 0, 0, 0, 0, []),
  (152, .return_, 1, 0, 0, 0, 0, 0, 0, [])]
def M_X9_isTorn : MI := (yX9_isTorn, cX9_isTorn, 6, (some Jvm.ClassFile.FieldType.boolean), 1, 3, 65, false, 1333, 1332, 55, 95)
def k_X9_isTorn : List Ent := [(0, .aload_n 0, 1, 0, 0, 0, 0, 0, 0, []),
  (1, .iload_n 1, 1, 1, 0, 0, 0, 0, 0, []),
  (2, .invokevirtual 150, 3, 171, 1, 1314, 8, 0, 0, []),
  (5, .istore_n 2, 1, 2, 0, 0, 0, 0, 0, []),
  (6, .aload_n 0, 1, 0, 0, 0, 0, 0, 0, []),
  (7, .iload_n 1, 1, 1, 0, 0, 0, 0, 0, []),
  (8, .iconst 1, 1, 0, 0, 0, 0, 1, 0, []),
  (9, .invokevirtual 143, 3, 151, 2, 1297, 8, 0, 0, []),
  (12, .istore_n 3, 1, 3, 0, 0, 0, 0, 0, []),
  (13, .iconst 0, 1, 0, 0, 0, 0, 0, 0, []),
  (14, .istore 4, 2, 4, 0, 0, 0, 0, 0, []),
  (16, .iload 4, 2, 4, 0, 0, 0, 0, 0, []),
  (18, .aload_n 0, 1, 0, 0, 0, 0, 0, 0, []),
  (19, .getfield 11, 3, 8, 0, 1089, 2, 0, 0, []),
  (22, .sipush 280, 3, 0, 0, 0, 0, 280, 0, []),
  (25, .iaload, 1, 0, 0, 0, 0, 0, 0, []),
  (26, .if_icmp .ge 101, 3, 127, 0, 0, 0, 0, 0, []),
  (29, .iload_n 2, 1, 2, 0, 0, 0, 0, 0, []),
  (30, .ldc 146, 2, 0, 0, 1313, 0, 1000000, 0, []),
  (32, .if_icmp .ge 95, 3, 127, 0, 0, 0, 0, 0, []),
  (35, .iload 4, 2, 4, 0, 0, 0, 0, 0, []),
  (37, .iload_n 3, 1, 3, 0, 0, 0, 0, 0, []),
  (38, .if_icmp .eq 49, 3, 87, 0, 0, 0, 0, 0, []),
  (41, .aload_n 0, 1, 0, 0, 0, 0, 0, 0, []),
  (42, .iload 4, 2, 4, 0, 0, 0, 0, 0, []),
  (44, .iconst 0, 1, 0, 0, 0, 0, 0, 0, []),
  (45, .invokevirtual 72, 3, 150, 2, 1213, 8, 0, 0, []),
  (48, .aload_n 0, 1, 0, 0, 0, 0, 0, 0, []),
  (49, .iload_n 3, 1, 3, 0, 0, 0, 0, 0, []),
  (50, .iconst 0, 1, 0, 0, 0, 0, 0, 0, []),
  (51, .invokevirtual 72, 3, 150, 2, 1213, 8, 0, 0, []),
  (54, .isub, 1, 0, 0, 0, 0, 0, 0, []),
  (55, .invokestatic 109, 3, 145, 1, 1259, 0, 0, 0, []),
  (58, .iconst 2, 1, 0, 0, 0, 0, 2, 0, []),
  (59, .if_icmp .ge 28, 3, 87, 0, 0, 0, 0, 0, []),
  (62, .aload_n 0, 1, 0, 0, 0, 0, 0, 0, []),
  (63, .iload 4, 2, 4, 0, 0, 0, 0, 0, []),
  (65, .iconst 1, 1, 0, 0, 0, 0, 1, 0, []),
  (66, .invokevirtual 72, 3, 150, 2, 1213, 8, 0, 0, []),
  (69, .aload_n 0, 1, 0, 0, 0, 0, 0, 0, []),
  (70, .iload_n 3, 1, 3, 0, 0, 0, 0, 0, []),
  (71, .iconst 1, 1, 0, 0, 0, 0, 1, 0, []),
  (72, .invokevirtual 72, 3, 150, 2, 1213, 8, 0, 0, []),
  (75, .isub, 1, 0, 0, 0, 0, 0, 0, []),
  (76, .invokestatic 109, 3, 145, 1, 1259, 0, 0, 0, []),
  (79, .iconst 2, 1, 0, 0, 0, 0, 2, 0, []),
  (80, .if_icmp .ge 7, 3, 87, 0, 0, 0, 0, 0, []),
  (83, .iconst 1, 1, 0, 0, 0, 0, 1, 0, []),
  (84, .goto 4, 3, 88, 0, 0, 0, 0, 0, []),
  (87, .iconst 0, 1, 0, 0, 0, 0, 0, 0, []),
  (88, .istore 5, 2, 5, 0, 0, 0, 0, 0, []),
  (90, .iload 5, 2, 5, 0, 0, 0, 0, 0, []),
  (92, .ifCond .eq 29, 3, 121, 0, 0, 0, 0, 0, []),
  (95, .aload_n 0, 1, 0, 0, 0, 0, 0, 0, []),
  (96, .aload_n 0, 1, 0, 0, 0, 0, 0, 0, []),
  (97, .getfield 159, 3, 8, 7, 1096, 0, 0, 0, []),
  (100, .iload 4, 2, 4, 0, 0, 0, 0, 0, []),
  (102, .invokevirtual 153, 3, 173, 2, 1322, 8, 0, 0, []),
  (105, .ifCond .eq 16, 3, 121, 0, 0, 0, 0, 0, []),
  (108, .aload_n 0, 1, 0, 0, 0, 0, 0, 0, []),
  (109, .getfield 24, 3, 8, 6, 1095, 2, 0, 0, []),
  (112, .iload 4, 2, 4, 0, 0, 0, 0, 0, []),
  (114, .iaload, 1, 0, 0, 0, 0, 0, 0, []),
  (115, .iload_n 2, 1, 2, 0, 0, 0, 0, 0, []),
  (116, .if_icmp .ge 5, 3, 121, 0, 0, 0, 0, 0, []),
  (119, .iconst 1, 1, 0, 0, 0, 0, 1, 0, []),
  (120, .ireturn, 1, 1, 0, 0, 0, 0, 0, []),
  (121, .iinc 4 1, 3, 4, 0, 0, 0, 1, 0, []),
  (124, .goto (-108), 3, 16, 0, 0, 0, 0, 0, []),
  (127, .iconst 0, 1, 0, 0, 0, 0, 0, 0, []),
  (128, .ireturn, 1, 1, 0, 0, 0, 0, 0, [])]
def M_X9_wired : MI := (yX9_wired, cX9_wired, 3, (some Jvm.ClassFile.FieldType.int), 2, 5, 109, false, 1304, 1302, 1303, 95)
def k_X9_wired : List Ent := [(0, .aload_n 0, 1, 0, 0, 0, 0, 0, 0, []),
  (1, .iload_n 1, 1, 1, 0, 0, 0, 0, 0, []),
  (2, .invokevirtual 132, 3, 149, 1, 1279, 8, 0, 0, []),
  (5, .ifCond .eq 15, 3, 20, 0, 0, 0, 0, 0, []),
  (8, .iload_n 2, 1, 2, 0, 0, 0, 0, 0, []),
  (9, .i2l, 1, 0, 0, 0, 0, 0, 0, []),
  (10, .lconst 0, 1, 0, 0, 0, 0, 0, 0, []),
  (11, .ldc2_w 90, 3, 0, 0, 1200, 0, 0, 4, []),
  (14, .invokestatic 68, 3, 143, 3, 1201, 0, 0, 0, []),
  (17, .ifCond .ne 5, 3, 22, 0, 0, 0, 0, 0, []),
  (20, .iconst (-1), 1, 0, 0, 0, 0, -1, 0, []),
  (21, .ireturn, 1, 0, 0, 0, 0, 0, 0, []),
  (22, .aload_n 0, 1, 0, 0, 0, 0, 0, 0, []),
  (23, .invokevirtual 169, 3, 175, 0, 1305, 8, 0, 0, []),
  (26, .iload_n 2, 1, 2, 0, 0, 0, 0, 0, []),
  (27, .tableswitch 88 0 4 #[33, 88, 88, 54, 74], 33, 115, 0, 0, 0, 0, 0, [(0, 60), (1, 115), (2, 115), (3, 81), (4, 101)]),
  (60, .aload_n 0, 1, 0, 0, 0, 0, 0, 0, []),
  (61, .iload_n 1, 1, 1, 0, 0, 0, 0, 0, []),
  (62, .iconst 0, 1, 0, 0, 0, 0, 0, 0, []),
  (63, .invokevirtual 143, 3, 151, 2, 1297, 8, 0, 0, []),
  (66, .ifCond .ge 8, 3, 74, 0, 0, 0, 0, 0, []),
  (69, .bipush 99, 2, 0, 0, 0, 0, 99, 0, []),
  (71, .goto 9, 3, 80, 0, 0, 0, 0, 0, []),
  (74, .aload_n 0, 1, 0, 0, 0, 0, 0, 0, []),
  (75, .iload_n 1, 1, 1, 0, 0, 0, 0, 0, []),
  (76, .iconst 0, 1, 0, 0, 0, 0, 0, 0, []),
  (77, .invokevirtual 143, 3, 151, 2, 1297, 8, 0, 0, []),
  (80, .ireturn, 1, 0, 0, 0, 0, 0, 0, []),
  (81, .aload_n 0, 1, 0, 0, 0, 0, 0, 0, []),
  (82, .iload_n 1, 1, 1, 0, 0, 0, 0, 0, []),
  (83, .invokevirtual 150, 3, 171, 1, 1314, 8, 0, 0, []),
  (86, .ldc 146, 2, 0, 0, 1313, 0, 1000000, 0, []),
  (88, .if_icmp .ne 7, 3, 95, 0, 0, 0, 0, 0, []),
  (91, .iconst (-1), 1, 0, 0, 0, 0, -1, 0, []),
  (92, .goto 8, 3, 100, 0, 0, 0, 0, 0, []),
  (95, .aload_n 0, 1, 0, 0, 0, 0, 0, 0, []),
  (96, .iload_n 1, 1, 1, 0, 0, 0, 0, 0, []),
  (97, .invokevirtual 150, 3, 171, 1, 1314, 8, 0, 0, []),
  (100, .ireturn, 1, 0, 0, 0, 0, 0, 0, []),
  (101, .aload_n 0, 1, 0, 0, 0, 0, 0, 0, []),
  (102, .iload_n 1, 1, 1, 0, 0, 0, 0, 0, []),
  (103, .invokevirtual 172, 3, 176, 1, 1330, 8, 0, 0, []),
  (106, .ifCond .eq 7, 3, 113, 0, 0, 0, 0, 0, []),
  (109, .iconst 1, 1, 0, 0, 0, 0, 1, 0, []),
  (110, .goto 4, 3, 114, 0, 0, 0, 0, 0, []),
  (113, .iconst 0, 1, 0, 0, 0, 0, 0, 0, []),
  (114, .ireturn, 1, 0, 0, 0, 0, 0, 0, []),
  (115, .aload_n 0, 1, 0, 0, 0, 0, 0, 0, []),
  (116, .iload_n 1, 1, 1, 0, 0, 0, 0, 0, []),
  (117, .iload_n 2, 1, 2, 0, 0, 0, 0, 0, []),
  (118, .invokevirtual 143, 3, 151, 2, 1297, 8, 0, 0, []),
  (121, .ireturn, 1, 0, 0, 0, 0, 0, 0, [])]
def M_X9_ringOf : MI := (yX9_ringOf, cX9_ringOf, 3, (some Jvm.ClassFile.FieldType.int), 1, 3, 65, false, 1342, 1341, 56, 95)
def k_X9_ringOf : List Ent := [(0, .aload_n 0, 1, 0, 0, 0, 0, 0, 0, []),
  (1, .iload_n 1, 1, 1, 0, 0, 0, 0, 0, []),
  (2, .invokevirtual 118, 3, 156, 1, 1232, 8, 0, 0, []),
  (5, .aload_n 0, 1, 0, 0, 0, 0, 0, 0, []),
  (6, .iload_n 1, 1, 1, 0, 0, 0, 0, 0, []),
  (7, .iconst 4, 1, 0, 0, 0, 0, 4, 0, []),
  (8, .invokevirtual 72, 3, 150, 2, 1213, 8, 0, 0, []),
  (11, .idiv, 1, 0, 0, 0, 0, 0, 0, []),
  (12, .istore_n 2, 1, 2, 0, 0, 0, 0, 0, []),
  (13, .bipush 9, 2, 0, 0, 0, 0, 9, 0, []),
  (15, .aload_n 0, 1, 0, 0, 0, 0, 0, 0, []),
  (16, .aload_n 0, 1, 0, 0, 0, 0, 0, 0, []),
  (17, .getfield 163, 3, 8, 8, 1097, 0, 0, 0, []),
  (20, .iload_n 1, 1, 1, 0, 0, 0, 0, 0, []),
  (21, .invokevirtual 153, 3, 173, 2, 1322, 8, 0, 0, []),
  (24, .ifCond .eq 9, 3, 33, 0, 0, 0, 0, 0, []),
  (27, .iconst 2, 1, 0, 0, 0, 0, 2, 0, []),
  (28, .iload_n 2, 1, 2, 0, 0, 0, 0, 0, []),
  (29, .imul, 1, 0, 0, 0, 0, 0, 0, []),
  (30, .goto 4, 3, 34, 0, 0, 0, 0, 0, []),
  (33, .iload_n 2, 1, 2, 0, 0, 0, 0, 0, []),
  (34, .invokestatic 76, 3, 144, 2, 1240, 0, 0, 0, []),
  (37, .ireturn, 1, 0, 0, 0, 0, 0, 0, [])]
def M_X9_time : MI := (yX9_time, cX9_time, 3, (some Jvm.ClassFile.FieldType.int), 2, 5, 109, false, 1337, 1335, 1336, 95)
def k_X9_time : List Ent := [(0, .aload_n 0, 1, 0, 0, 0, 0, 0, 0, []),
  (1, .iload_n 1, 1, 1, 0, 0, 0, 0, 0, []),
  (2, .invokevirtual 112, 3, 148, 1, 1227, 8, 0, 0, []),
  (5, .ifCond .eq 15, 3, 20, 0, 0, 0, 0, 0, []),
  (8, .iload_n 2, 1, 2, 0, 0, 0, 0, 0, []),
  (9, .i2l, 1, 0, 0, 0, 0, 0, 0, []),
  (10, .lconst 0, 1, 0, 0, 0, 0, 0, 0, []),
  (11, .ldc2_w 175, 3, 0, 0, 1338, 0, 0, 3, []),
  (14, .invokestatic 68, 3, 143, 3, 1201, 0, 0, 0, []),
  (17, .ifCond .ne 5, 3, 22, 0, 0, 0, 0, 0, []),
  (20, .iconst (-1), 1, 0, 0, 0, 0, -1, 0, []),
  (21, .ireturn, 1, 0, 0, 0, 0, 0, 0, []),
  (22, .aload_n 0, 1, 0, 0, 0, 0, 0, 0, []),
  (23, .invokevirtual 169, 3, 175, 0, 1305, 8, 0, 0, []),
  (26, .iload_n 2, 1, 2, 0, 0, 0, 0, 0, []),
  (27, .ifCond .ne 25, 3, 52, 0, 0, 0, 0, 0, []),
  (30, .aload_n 0, 1, 0, 0, 0, 0, 0, 0, []),
  (31, .getfield 21, 3, 8, 5, 1094, 2, 0, 0, []),
  (34, .iload_n 1, 1, 1, 0, 0, 0, 0, 0, []),
  (35, .iaload, 1, 0, 0, 0, 0, 0, 0, []),
  (36, .ldc 146, 2, 0, 0, 1313, 0, 1000000, 0, []),
  (38, .if_icmp .ne 7, 3, 45, 0, 0, 0, 0, 0, []),
  (41, .iconst (-1), 1, 0, 0, 0, 0, -1, 0, []),
  (42, .goto 9, 3, 51, 0, 0, 0, 0, 0, []),
  (45, .aload_n 0, 1, 0, 0, 0, 0, 0, 0, []),
  (46, .getfield 21, 3, 8, 5, 1094, 2, 0, 0, []),
  (49, .iload_n 1, 1, 1, 0, 0, 0, 0, 0, []),
  (50, .iaload, 1, 0, 0, 0, 0, 0, 0, []),
  (51, .ireturn, 1, 0, 0, 0, 0, 0, 0, []),
  (52, .aload_n 0, 1, 0, 0, 0, 0, 0, 0, []),
  (53, .aload_n 0, 1, 0, 0, 0, 0, 0, 0, []),
  (54, .getfield 159, 3, 8, 7, 1096, 0, 0, 0, []),
  (57, .iload_n 1, 1, 1, 0, 0, 0, 0, 0, []),
  (58, .invokevirtual 153, 3, 173, 2, 1322, 8, 0, 0, []),
  (61, .ifCond .ne 5, 3, 66, 0, 0, 0, 0, 0, []),
  (64, .iconst (-1), 1, 0, 0, 0, 0, -1, 0, []),
  (65, .ireturn, 1, 0, 0, 0, 0, 0, 0, []),
  (66, .iload_n 2, 1, 2, 0, 0, 0, 0, 0, []),
  (67, .iconst 1, 1, 0, 0, 0, 0, 1, 0, []),
  (68, .if_icmp .ne 12, 3, 80, 0, 0, 0, 0, 0, []),
  (71, .aload_n 0, 1, 0, 0, 0, 0, 0, 0, []),
  (72, .getfield 24, 3, 8, 6, 1095, 2, 0, 0, []),
  (75, .iload_n 1, 1, 1, 0, 0, 0, 0, 0, []),
  (76, .iaload, 1, 0, 0, 0, 0, 0, 0, []),
  (77, .goto 33, 3, 110, 0, 0, 0, 0, 0, []),
  (80, .iload_n 2, 1, 2, 0, 0, 0, 0, 0, []),
  (81, .iconst 2, 1, 0, 0, 0, 0, 2, 0, []),
  (82, .if_icmp .ne 23, 3, 105, 0, 0, 0, 0, 0, []),
  (85, .aload_n 0, 1, 0, 0, 0, 0, 0, 0, []),
  (86, .aload_n 0, 1, 0, 0, 0, 0, 0, 0, []),
  (87, .getfield 163, 3, 8, 8, 1097, 0, 0, 0, []),
  (90, .iload_n 1, 1, 1, 0, 0, 0, 0, 0, []),
  (91, .invokevirtual 153, 3, 173, 2, 1322, 8, 0, 0, []),
  (94, .ifCond .eq 7, 3, 101, 0, 0, 0, 0, 0, []),
  (97, .iconst 0, 1, 0, 0, 0, 0, 0, 0, []),
  (98, .goto 12, 3, 110, 0, 0, 0, 0, 0, []),
  (101, .iconst 1, 1, 0, 0, 0, 0, 1, 0, []),
  (102, .goto 8, 3, 110, 0, 0, 0, 0, 0, []),
  (105, .aload_n 0, 1, 0, 0, 0, 0, 0, 0, []),
  (106, .iload_n 1, 1, 1, 0, 0, 0, 0, 0, []),
  (107, .invokevirtual 177, 3, 178, 1, 1339, 8, 0, 0, []),
  (110, .ireturn, 1, 0, 0, 0, 0, 0, 0, [])]
def M_X9_shoots : MI := (yX9_shoots, cX9_shoots, 5, (none), 3, 0, 0, false, 1358, 1357, 59, 95)
def k_X9_shoots : List Ent := [(0, .aload_n 0, 1, 0, 0, 0, 0, 0, 0, []),
  (1, .getfield 180, 3, 8, 12, 1101, 0, 0, 0, []),
  (4, .istore 4, 2, 4, 0, 0, 0, 0, 0, []),
  (6, .iload 4, 2, 4, 0, 0, 0, 0, 0, []),
  (8, .ifCond .le 70, 3, 78, 0, 0, 0, 0, 0, []),
  (11, .aload_n 0, 1, 0, 0, 0, 0, 0, 0, []),
  (12, .getfield 27, 3, 8, 9, 1098, 2, 0, 0, []),
  (15, .iload 4, 2, 4, 0, 0, 0, 0, 0, []),
  (17, .iconst 1, 1, 0, 0, 0, 0, 1, 0, []),
  (18, .isub, 1, 0, 0, 0, 0, 0, 0, []),
  (19, .iaload, 1, 0, 0, 0, 0, 0, 0, []),
  (20, .iload_n 2, 1, 2, 0, 0, 0, 0, 0, []),
  (21, .if_icmp .le 57, 3, 78, 0, 0, 0, 0, 0, []),
  (24, .aload_n 0, 1, 0, 0, 0, 0, 0, 0, []),
  (25, .getfield 27, 3, 8, 9, 1098, 2, 0, 0, []),
  (28, .iload 4, 2, 4, 0, 0, 0, 0, 0, []),
  (30, .aload_n 0, 1, 0, 0, 0, 0, 0, 0, []),
  (31, .getfield 27, 3, 8, 9, 1098, 2, 0, 0, []),
  (34, .iload 4, 2, 4, 0, 0, 0, 0, 0, []),
  (36, .iconst 1, 1, 0, 0, 0, 0, 1, 0, []),
  (37, .isub, 1, 0, 0, 0, 0, 0, 0, []),
  (38, .iaload, 1, 0, 0, 0, 0, 0, 0, []),
  (39, .iastore, 1, 0, 0, 0, 0, 0, 0, []),
  (40, .aload_n 0, 1, 0, 0, 0, 0, 0, 0, []),
  (41, .getfield 30, 3, 8, 10, 1099, 2, 0, 0, []),
  (44, .iload 4, 2, 4, 0, 0, 0, 0, 0, []),
  (46, .aload_n 0, 1, 0, 0, 0, 0, 0, 0, []),
  (47, .getfield 30, 3, 8, 10, 1099, 2, 0, 0, []),
  (50, .iload 4, 2, 4, 0, 0, 0, 0, 0, []),
  (52, .iconst 1, 1, 0, 0, 0, 0, 1, 0, []),
  (53, .isub, 1, 0, 0, 0, 0, 0, 0, []),
  (54, .iaload, 1, 0, 0, 0, 0, 0, 0, []),
  (55, .iastore, 1, 0, 0, 0, 0, 0, 0, []),
  (56, .aload_n 0, 1, 0, 0, 0, 0, 0, 0, []),
  (57, .getfield 33, 3, 8, 11, 1100, 2, 0, 0, []),
  (60, .iload 4, 2, 4, 0, 0, 0, 0, 0, []),
  (62, .aload_n 0, 1, 0, 0, 0, 0, 0, 0, []),
  (63, .getfield 33, 3, 8, 11, 1100, 2, 0, 0, []),
  (66, .iload 4, 2, 4, 0, 0, 0, 0, 0, []),
  (68, .iconst 1, 1, 0, 0, 0, 0, 1, 0, []),
  (69, .isub, 1, 0, 0, 0, 0, 0, 0, []),
  (70, .iaload, 1, 0, 0, 0, 0, 0, 0, []),
  (71, .iastore, 1, 0, 0, 0, 0, 0, 0, []),
  (72, .iinc 4 (-1), 3, 4, 0, 0, 0, -1, 0, []),
  (75, .goto (-69), 3, 6, 0, 0, 0, 0, 0, []),
  (78, .aload_n 0, 1, 0, 0, 0, 0, 0, 0, []),
  (79, .getfield 27, 3, 8, 9, 1098, 2, 0, 0, []),
  (82, .iload 4, 2, 4, 0, 0, 0, 0, 0, []),
  (84, .iload_n 2, 1, 2, 0, 0, 0, 0, 0, []),
  (85, .iastore, 1, 0, 0, 0, 0, 0, 0, []),
  (86, .aload_n 0, 1, 0, 0, 0, 0, 0, 0, []),
  (87, .getfield 30, 3, 8, 10, 1099, 2, 0, 0, []),
  (90, .iload 4, 2, 4, 0, 0, 0, 0, 0, []),
  (92, .iload_n 3, 1, 3, 0, 0, 0, 0, 0, []),
  (93, .iastore, 1, 0, 0, 0, 0, 0, 0, []),
  (94, .aload_n 0, 1, 0, 0, 0, 0, 0, 0, []),
  (95, .getfield 33, 3, 8, 11, 1100, 2, 0, 0, []),
  (98, .iload 4, 2, 4, 0, 0, 0, 0, 0, []),
  (100, .iload_n 1, 1, 1, 0, 0, 0, 0, 0, []),
  (101, .iastore, 1, 0, 0, 0, 0, 0, 0, []),
  (102, .aload_n 0, 1, 0, 0, 0, 0, 0, 0, []),
  (103, .dup, 1, 0, 0, 0, 0, 0, 0, []),
  (104, .getfield 180, 3, 8, 12, 1101, 0, 0, 0, []),
  (107, .iconst 1, 1, 0, 0, 0, 0, 1, 0, []),
  (108, .iadd, 1, 0, 0, 0, 0, 0, 0, []),
  (109, .putfield 180, 3, 8, 12, 1101, 0, 0, 0, []),
  (112, .return_, 1, 0, 0, 0, 0, 0, 0, [])]
def M_X9_laysShots : MI := (yX9_laysShots, cX9_laysShots, 3, (none), 1, 2, 44, false, 1354, 1353, 58, 95)
def k_X9_laysShots : List Ent := [(0, .aload_n 0, 1, 0, 0, 0, 0, 0, 0, []),
  (1, .iconst 0, 1, 0, 0, 0, 0, 0, 0, []),
  (2, .putfield 180, 3, 8, 12, 1101, 0, 0, 0, []),
  (5, .iconst 0, 1, 0, 0, 0, 0, 0, 0, []),
  (6, .istore_n 2, 1, 2, 0, 0, 0, 0, 0, []),
  (7, .iload_n 2, 1, 2, 0, 0, 0, 0, 0, []),
  (8, .aload_n 0, 1, 0, 0, 0, 0, 0, 0, []),
  (9, .getfield 11, 3, 8, 0, 1089, 2, 0, 0, []),
  (12, .sipush 280, 3, 0, 0, 0, 0, 280, 0, []),
  (15, .iaload, 1, 0, 0, 0, 0, 0, 0, []),
  (16, .if_icmp .ge 61, 3, 77, 0, 0, 0, 0, 0, []),
  (19, .aload_n 0, 1, 0, 0, 0, 0, 0, 0, []),
  (20, .iload_n 1, 1, 1, 0, 0, 0, 0, 0, []),
  (21, .iload_n 2, 1, 2, 0, 0, 0, 0, 0, []),
  (22, .invokevirtual 153, 3, 173, 2, 1322, 8, 0, 0, []),
  (25, .ifCond .eq 46, 3, 71, 0, 0, 0, 0, 0, []),
  (28, .aload_n 0, 1, 0, 0, 0, 0, 0, 0, []),
  (29, .iload_n 2, 1, 2, 0, 0, 0, 0, 0, []),
  (30, .aload_n 0, 1, 0, 0, 0, 0, 0, 0, []),
  (31, .getfield 24, 3, 8, 6, 1095, 2, 0, 0, []),
  (34, .iload_n 2, 1, 2, 0, 0, 0, 0, 0, []),
  (35, .iaload, 1, 0, 0, 0, 0, 0, 0, []),
  (36, .aload_n 0, 1, 0, 0, 0, 0, 0, 0, []),
  (37, .iload_n 2, 1, 2, 0, 0, 0, 0, 0, []),
  (38, .invokevirtual 79, 3, 154, 1, 1236, 8, 0, 0, []),
  (41, .invokevirtual 183, 3, 180, 3, 1355, 8, 0, 0, []),
  (44, .aload_n 0, 1, 0, 0, 0, 0, 0, 0, []),
  (45, .iload_n 2, 1, 2, 0, 0, 0, 0, 0, []),
  (46, .invokevirtual 83, 3, 155, 1, 1243, 8, 0, 0, []),
  (49, .ifCond .le 22, 3, 71, 0, 0, 0, 0, 0, []),
  (52, .aload_n 0, 1, 0, 0, 0, 0, 0, 0, []),
  (53, .iload_n 2, 1, 2, 0, 0, 0, 0, 0, []),
  (54, .aload_n 0, 1, 0, 0, 0, 0, 0, 0, []),
  (55, .getfield 24, 3, 8, 6, 1095, 2, 0, 0, []),
  (58, .iload_n 2, 1, 2, 0, 0, 0, 0, 0, []),
  (59, .iaload, 1, 0, 0, 0, 0, 0, 0, []),
  (60, .bipush 17, 2, 0, 0, 0, 0, 17, 0, []),
  (62, .iadd, 1, 0, 0, 0, 0, 0, 0, []),
  (63, .aload_n 0, 1, 0, 0, 0, 0, 0, 0, []),
  (64, .iload_n 2, 1, 2, 0, 0, 0, 0, 0, []),
  (65, .invokevirtual 83, 3, 155, 1, 1243, 8, 0, 0, []),
  (68, .invokevirtual 183, 3, 180, 3, 1355, 8, 0, 0, []),
  (71, .iinc 2 1, 3, 2, 0, 0, 0, 1, 0, []),
  (74, .goto (-67), 3, 7, 0, 0, 0, 0, 0, []),
  (77, .return_, 1, 0, 0, 0, 0, 0, 0, [])]
def M_X9_shakeAt : MI := (yX9_shakeAt, cX9_shakeAt, 4, (some Jvm.ClassFile.FieldType.int), 1, 0, 0, false, 1367, 1366, 60, 95)
def k_X9_shakeAt : List Ent := [(0, .iconst 0, 1, 0, 0, 0, 0, 0, 0, []),
  (1, .istore_n 2, 1, 2, 0, 0, 0, 0, 0, []),
  (2, .iconst 0, 1, 0, 0, 0, 0, 0, 0, []),
  (3, .istore_n 3, 1, 3, 0, 0, 0, 0, 0, []),
  (4, .iload_n 3, 1, 3, 0, 0, 0, 0, 0, []),
  (5, .aload_n 0, 1, 0, 0, 0, 0, 0, 0, []),
  (6, .getfield 180, 3, 8, 12, 1101, 0, 0, 0, []),
  (9, .if_icmp .ge 51, 3, 60, 0, 0, 0, 0, 0, []),
  (12, .iload_n 2, 1, 2, 0, 0, 0, 0, 0, []),
  (13, .aload_n 0, 1, 0, 0, 0, 0, 0, 0, []),
  (14, .getfield 27, 3, 8, 9, 1098, 2, 0, 0, []),
  (17, .iload_n 3, 1, 3, 0, 0, 0, 0, 0, []),
  (18, .iaload, 1, 0, 0, 0, 0, 0, 0, []),
  (19, .iload_n 1, 1, 1, 0, 0, 0, 0, 0, []),
  (20, .if_icmp .lt 31, 3, 51, 0, 0, 0, 0, 0, []),
  (23, .aload_n 0, 1, 0, 0, 0, 0, 0, 0, []),
  (24, .getfield 27, 3, 8, 9, 1098, 2, 0, 0, []),
  (27, .iload_n 3, 1, 3, 0, 0, 0, 0, 0, []),
  (28, .iaload, 1, 0, 0, 0, 0, 0, 0, []),
  (29, .iload_n 1, 1, 1, 0, 0, 0, 0, 0, []),
  (30, .aload_n 0, 1, 0, 0, 0, 0, 0, 0, []),
  (31, .getfield 11, 3, 8, 0, 1089, 2, 0, 0, []),
  (34, .sipush 282, 3, 0, 0, 0, 0, 282, 0, []),
  (37, .iaload, 1, 0, 0, 0, 0, 0, 0, []),
  (38, .iadd, 1, 0, 0, 0, 0, 0, 0, []),
  (39, .if_icmp .ge 12, 3, 51, 0, 0, 0, 0, 0, []),
  (42, .aload_n 0, 1, 0, 0, 0, 0, 0, 0, []),
  (43, .getfield 30, 3, 8, 10, 1099, 2, 0, 0, []),
  (46, .iload_n 3, 1, 3, 0, 0, 0, 0, 0, []),
  (47, .iaload, 1, 0, 0, 0, 0, 0, 0, []),
  (48, .goto 4, 3, 52, 0, 0, 0, 0, 0, []),
  (51, .iconst 0, 1, 0, 0, 0, 0, 0, 0, []),
  (52, .iadd, 1, 0, 0, 0, 0, 0, 0, []),
  (53, .istore_n 2, 1, 2, 0, 0, 0, 0, 0, []),
  (54, .iinc 3 1, 3, 3, 0, 0, 0, 1, 0, []),
  (57, .goto (-53), 3, 4, 0, 0, 0, 0, 0, []),
  (60, .iload_n 2, 1, 2, 0, 0, 0, 0, 0, []),
  (61, .ireturn, 1, 0, 0, 0, 0, 0, 0, [])]
def M_X9_worstTime : MI := (yX9_worstTime, cX9_worstTime, 3, (some Jvm.ClassFile.FieldType.int), 0, 1, 23, false, 1379, 1378, 62, 95)
def k_X9_worstTime : List Ent := [(0, .iconst (-1), 1, 0, 0, 0, 0, -1, 0, []),
  (1, .istore_n 1, 1, 1, 0, 0, 0, 0, 0, []),
  (2, .iconst 0, 1, 0, 0, 0, 0, 0, 0, []),
  (3, .istore_n 2, 1, 2, 0, 0, 0, 0, 0, []),
  (4, .iload_n 2, 1, 2, 0, 0, 0, 0, 0, []),
  (5, .aload_n 0, 1, 0, 0, 0, 0, 0, 0, []),
  (6, .getfield 180, 3, 8, 12, 1101, 0, 0, 0, []),
  (9, .if_icmp .ge 42, 3, 51, 0, 0, 0, 0, 0, []),
  (12, .iload_n 1, 1, 1, 0, 0, 0, 0, 0, []),
  (13, .ifCond .lt 21, 3, 34, 0, 0, 0, 0, 0, []),
  (16, .aload_n 0, 1, 0, 0, 0, 0, 0, 0, []),
  (17, .aload_n 0, 1, 0, 0, 0, 0, 0, 0, []),
  (18, .getfield 27, 3, 8, 9, 1098, 2, 0, 0, []),
  (21, .iload_n 2, 1, 2, 0, 0, 0, 0, 0, []),
  (22, .iaload, 1, 0, 0, 0, 0, 0, 0, []),
  (23, .invokevirtual 187, 3, 182, 1, 1364, 8, 0, 0, []),
  (26, .aload_n 0, 1, 0, 0, 0, 0, 0, 0, []),
  (27, .iload_n 1, 1, 1, 0, 0, 0, 0, 0, []),
  (28, .invokevirtual 187, 3, 182, 1, 1364, 8, 0, 0, []),
  (31, .if_icmp .le 12, 3, 43, 0, 0, 0, 0, 0, []),
  (34, .aload_n 0, 1, 0, 0, 0, 0, 0, 0, []),
  (35, .getfield 27, 3, 8, 9, 1098, 2, 0, 0, []),
  (38, .iload_n 2, 1, 2, 0, 0, 0, 0, 0, []),
  (39, .iaload, 1, 0, 0, 0, 0, 0, 0, []),
  (40, .goto 4, 3, 44, 0, 0, 0, 0, 0, []),
  (43, .iload_n 1, 1, 1, 0, 0, 0, 0, 0, []),
  (44, .istore_n 1, 1, 1, 0, 0, 0, 0, 0, []),
  (45, .iinc 2 1, 3, 2, 0, 0, 0, 1, 0, []),
  (48, .goto (-44), 3, 4, 0, 0, 0, 0, 0, []),
  (51, .iload_n 1, 1, 1, 0, 0, 0, 0, 0, []),
  (52, .ireturn, 1, 0, 0, 0, 0, 0, 0, [])]
def M_X9_worstShake : MI := (yX9_worstShake, cX9_worstShake, 1, (some Jvm.ClassFile.FieldType.int), 0, 2, 45, false, 1375, 1374, 61, 95)
def k_X9_worstShake : List Ent := [(0, .aload_n 0, 1, 0, 0, 0, 0, 0, 0, []),
  (1, .getfield 180, 3, 8, 12, 1101, 0, 0, 0, []),
  (4, .ifCond .ne 7, 3, 11, 0, 0, 0, 0, 0, []),
  (7, .iconst 0, 1, 0, 0, 0, 0, 0, 0, []),
  (8, .goto 11, 3, 19, 0, 0, 0, 0, 0, []),
  (11, .aload_n 0, 1, 0, 0, 0, 0, 0, 0, []),
  (12, .aload_n 0, 1, 0, 0, 0, 0, 0, 0, []),
  (13, .invokevirtual 190, 3, 183, 0, 1376, 8, 0, 0, []),
  (16, .invokevirtual 187, 3, 182, 1, 1364, 8, 0, 0, []),
  (19, .ireturn, 1, 0, 0, 0, 0, 0, 0, [])]
def M_X9_over : MI := (yX9_over, cX9_over, 4, (some Jvm.ClassFile.FieldType.int), 0, 1, 23, false, 1383, 1382, 63, 95)
def k_X9_over : List Ent := [(0, .iconst 0, 1, 0, 0, 0, 0, 0, 0, []),
  (1, .istore_n 1, 1, 1, 0, 0, 0, 0, 0, []),
  (2, .iconst 0, 1, 0, 0, 0, 0, 0, 0, []),
  (3, .istore_n 2, 1, 2, 0, 0, 0, 0, 0, []),
  (4, .iload_n 2, 1, 2, 0, 0, 0, 0, 0, []),
  (5, .aload_n 0, 1, 0, 0, 0, 0, 0, 0, []),
  (6, .getfield 180, 3, 8, 12, 1101, 0, 0, 0, []),
  (9, .if_icmp .ge 69, 3, 78, 0, 0, 0, 0, 0, []),
  (12, .iload_n 2, 1, 2, 0, 0, 0, 0, 0, []),
  (13, .ifCond .eq 20, 3, 33, 0, 0, 0, 0, 0, []),
  (16, .aload_n 0, 1, 0, 0, 0, 0, 0, 0, []),
  (17, .getfield 27, 3, 8, 9, 1098, 2, 0, 0, []),
  (20, .iload_n 2, 1, 2, 0, 0, 0, 0, 0, []),
  (21, .iaload, 1, 0, 0, 0, 0, 0, 0, []),
  (22, .aload_n 0, 1, 0, 0, 0, 0, 0, 0, []),
  (23, .getfield 27, 3, 8, 9, 1098, 2, 0, 0, []),
  (26, .iload_n 2, 1, 2, 0, 0, 0, 0, 0, []),
  (27, .iconst 1, 1, 0, 0, 0, 0, 1, 0, []),
  (28, .isub, 1, 0, 0, 0, 0, 0, 0, []),
  (29, .iaload, 1, 0, 0, 0, 0, 0, 0, []),
  (30, .if_icmp .eq 7, 3, 37, 0, 0, 0, 0, 0, []),
  (33, .iconst 1, 1, 0, 0, 0, 0, 1, 0, []),
  (34, .goto 4, 3, 38, 0, 0, 0, 0, 0, []),
  (37, .iconst 0, 1, 0, 0, 0, 0, 0, 0, []),
  (38, .istore_n 3, 1, 3, 0, 0, 0, 0, 0, []),
  (39, .iload_n 1, 1, 1, 0, 0, 0, 0, 0, []),
  (40, .iload_n 3, 1, 3, 0, 0, 0, 0, 0, []),
  (41, .ifCond .eq 28, 3, 69, 0, 0, 0, 0, 0, []),
  (44, .aload_n 0, 1, 0, 0, 0, 0, 0, 0, []),
  (45, .aload_n 0, 1, 0, 0, 0, 0, 0, 0, []),
  (46, .getfield 27, 3, 8, 9, 1098, 2, 0, 0, []),
  (49, .iload_n 2, 1, 2, 0, 0, 0, 0, 0, []),
  (50, .iaload, 1, 0, 0, 0, 0, 0, 0, []),
  (51, .invokevirtual 187, 3, 182, 1, 1364, 8, 0, 0, []),
  (54, .aload_n 0, 1, 0, 0, 0, 0, 0, 0, []),
  (55, .getfield 11, 3, 8, 0, 1089, 2, 0, 0, []),
  (58, .sipush 283, 3, 0, 0, 0, 0, 283, 0, []),
  (61, .iaload, 1, 0, 0, 0, 0, 0, 0, []),
  (62, .if_icmp .le 7, 3, 69, 0, 0, 0, 0, 0, []),
  (65, .iconst 1, 1, 0, 0, 0, 0, 1, 0, []),
  (66, .goto 4, 3, 70, 0, 0, 0, 0, 0, []),
  (69, .iconst 0, 1, 0, 0, 0, 0, 0, 0, []),
  (70, .iadd, 1, 0, 0, 0, 0, 0, 0, []),
  (71, .istore_n 1, 1, 1, 0, 0, 0, 0, 0, []),
  (72, .iinc 2 1, 3, 2, 0, 0, 0, 1, 0, []),
  (75, .goto (-71), 3, 4, 0, 0, 0, 0, 0, []),
  (78, .iload_n 1, 1, 1, 0, 0, 0, 0, 0, []),
  (79, .ireturn, 1, 0, 0, 0, 0, 0, 0, [])]
def M_X9_lays : MI := (yX9_lays, cX9_lays, 1, (none), 0, 5, 109, false, 1350, 1349, 57, 95)
def k_X9_lays : List Ent := [(0, .aload_n 0, 1, 0, 0, 0, 0, 0, 0, []),
  (1, .invokevirtual 169, 3, 175, 0, 1305, 8, 0, 0, []),
  (4, .aload_n 0, 1, 0, 0, 0, 0, 0, 0, []),
  (5, .aload_n 0, 1, 0, 0, 0, 0, 0, 0, []),
  (6, .getfield 159, 3, 8, 7, 1096, 0, 0, 0, []),
  (9, .invokevirtual 194, 3, 181, 1, 1351, 8, 0, 0, []),
  (12, .return_, 1, 0, 0, 0, 0, 0, 0, [])]
def M_X9_shot : MI := (yX9_shot, cX9_shot, 3, (some Jvm.ClassFile.FieldType.int), 2, 6, 129, false, 1346, 1344, 1345, 95)
def k_X9_shot : List Ent := [(0, .aload_n 0, 1, 0, 0, 0, 0, 0, 0, []),
  (1, .invokevirtual 197, 3, 186, 0, 1347, 8, 0, 0, []),
  (4, .iload_n 1, 1, 1, 0, 0, 0, 0, 0, []),
  (5, .i2l, 1, 0, 0, 0, 0, 0, 0, []),
  (6, .lconst 0, 1, 0, 0, 0, 0, 0, 0, []),
  (7, .aload_n 0, 1, 0, 0, 0, 0, 0, 0, []),
  (8, .getfield 180, 3, 8, 12, 1101, 0, 0, 0, []),
  (11, .iconst 1, 1, 0, 0, 0, 0, 1, 0, []),
  (12, .isub, 1, 0, 0, 0, 0, 0, 0, []),
  (13, .i2l, 1, 0, 0, 0, 0, 0, 0, []),
  (14, .invokestatic 68, 3, 143, 3, 1201, 0, 0, 0, []),
  (17, .ifCond .eq 15, 3, 32, 0, 0, 0, 0, 0, []),
  (20, .iload_n 2, 1, 2, 0, 0, 0, 0, 0, []),
  (21, .i2l, 1, 0, 0, 0, 0, 0, 0, []),
  (22, .lconst 0, 1, 0, 0, 0, 0, 0, 0, []),
  (23, .ldc2_w 139, 3, 0, 0, 1291, 0, 0, 2, []),
  (26, .invokestatic 68, 3, 143, 3, 1201, 0, 0, 0, []),
  (29, .ifCond .ne 5, 3, 34, 0, 0, 0, 0, 0, []),
  (32, .iconst (-1), 1, 0, 0, 0, 0, -1, 0, []),
  (33, .ireturn, 1, 0, 0, 0, 0, 0, 0, []),
  (34, .iload_n 2, 1, 2, 0, 0, 0, 0, 0, []),
  (35, .ifCond .ne 12, 3, 47, 0, 0, 0, 0, 0, []),
  (38, .aload_n 0, 1, 0, 0, 0, 0, 0, 0, []),
  (39, .getfield 27, 3, 8, 9, 1098, 2, 0, 0, []),
  (42, .iload_n 1, 1, 1, 0, 0, 0, 0, 0, []),
  (43, .iaload, 1, 0, 0, 0, 0, 0, 0, []),
  (44, .goto 23, 3, 67, 0, 0, 0, 0, 0, []),
  (47, .iload_n 2, 1, 2, 0, 0, 0, 0, 0, []),
  (48, .iconst 1, 1, 0, 0, 0, 0, 1, 0, []),
  (49, .if_icmp .ne 12, 3, 61, 0, 0, 0, 0, 0, []),
  (52, .aload_n 0, 1, 0, 0, 0, 0, 0, 0, []),
  (53, .getfield 30, 3, 8, 10, 1099, 2, 0, 0, []),
  (56, .iload_n 1, 1, 1, 0, 0, 0, 0, 0, []),
  (57, .iaload, 1, 0, 0, 0, 0, 0, 0, []),
  (58, .goto 9, 3, 67, 0, 0, 0, 0, 0, []),
  (61, .aload_n 0, 1, 0, 0, 0, 0, 0, 0, []),
  (62, .getfield 33, 3, 8, 11, 1100, 2, 0, 0, []),
  (65, .iload_n 1, 1, 1, 0, 0, 0, 0, 0, []),
  (66, .iaload, 1, 0, 0, 0, 0, 0, 0, []),
  (67, .ireturn, 1, 0, 0, 0, 0, 0, 0, [])]
def M_X9_shake : MI := (yX9_shake, cX9_shake, 2, (some Jvm.ClassFile.FieldType.int), 1, 6, 129, false, 1362, 1360, 1361, 95)
def k_X9_shake : List Ent := [(0, .iload_n 1, 1, 1, 0, 0, 0, 0, 0, []),
  (1, .i2l, 1, 0, 0, 0, 0, 0, 0, []),
  (2, .lconst 0, 1, 0, 0, 0, 0, 0, 0, []),
  (3, .ldc2_w 200, 3, 0, 0, 1363, 0, 0, 99999, []),
  (6, .invokestatic 68, 3, 143, 3, 1201, 0, 0, 0, []),
  (9, .ifCond .ne 6, 3, 15, 0, 0, 0, 0, 0, []),
  (12, .bipush (-2), 2, 0, 0, 0, 0, -2, 0, []),
  (14, .ireturn, 1, 0, 0, 0, 0, 0, 0, []),
  (15, .aload_n 0, 1, 0, 0, 0, 0, 0, 0, []),
  (16, .invokevirtual 197, 3, 186, 0, 1347, 8, 0, 0, []),
  (19, .aload_n 0, 1, 0, 0, 0, 0, 0, 0, []),
  (20, .iload_n 1, 1, 1, 0, 0, 0, 0, 0, []),
  (21, .invokevirtual 187, 3, 182, 1, 1364, 8, 0, 0, []),
  (24, .ireturn, 1, 0, 0, 0, 0, 0, 0, [])]
def M_X9_worst : MI := (yX9_worst, cX9_worst, 2, (some Jvm.ClassFile.FieldType.int), 1, 6, 129, false, 1371, 1369, 1370, 95)
def k_X9_worst : List Ent := [(0, .iload_n 1, 1, 1, 0, 0, 0, 0, 0, []),
  (1, .i2l, 1, 0, 0, 0, 0, 0, 0, []),
  (2, .lconst 0, 1, 0, 0, 0, 0, 0, 0, []),
  (3, .ldc2_w 175, 3, 0, 0, 1338, 0, 0, 3, []),
  (6, .invokestatic 68, 3, 143, 3, 1201, 0, 0, 0, []),
  (9, .ifCond .ne 5, 3, 14, 0, 0, 0, 0, 0, []),
  (12, .iconst (-1), 1, 0, 0, 0, 0, -1, 0, []),
  (13, .ireturn, 1, 0, 0, 0, 0, 0, 0, []),
  (14, .aload_n 0, 1, 0, 0, 0, 0, 0, 0, []),
  (15, .invokevirtual 197, 3, 186, 0, 1347, 8, 0, 0, []),
  (18, .iload_n 1, 1, 1, 0, 0, 0, 0, 0, []),
  (19, .ifCond .ne 10, 3, 29, 0, 0, 0, 0, 0, []),
  (22, .aload_n 0, 1, 0, 0, 0, 0, 0, 0, []),
  (23, .invokevirtual 202, 3, 184, 0, 1372, 8, 0, 0, []),
  (26, .goto 31, 3, 57, 0, 0, 0, 0, 0, []),
  (29, .iload_n 1, 1, 1, 0, 0, 0, 0, 0, []),
  (30, .iconst 1, 1, 0, 0, 0, 0, 1, 0, []),
  (31, .if_icmp .ne 10, 3, 41, 0, 0, 0, 0, 0, []),
  (34, .aload_n 0, 1, 0, 0, 0, 0, 0, 0, []),
  (35, .invokevirtual 190, 3, 183, 0, 1376, 8, 0, 0, []),
  (38, .goto 19, 3, 57, 0, 0, 0, 0, 0, []),
  (41, .iload_n 1, 1, 1, 0, 0, 0, 0, 0, []),
  (42, .iconst 2, 1, 0, 0, 0, 0, 2, 0, []),
  (43, .if_icmp .ne 10, 3, 53, 0, 0, 0, 0, 0, []),
  (46, .aload_n 0, 1, 0, 0, 0, 0, 0, 0, []),
  (47, .invokevirtual 205, 3, 185, 0, 1380, 8, 0, 0, []),
  (50, .goto 7, 3, 57, 0, 0, 0, 0, 0, []),
  (53, .aload_n 0, 1, 0, 0, 0, 0, 0, 0, []),
  (54, .getfield 180, 3, 8, 12, 1101, 0, 0, 0, []),
  (57, .ireturn, 1, 0, 0, 0, 0, 0, 0, [])]
def M_X9_safe : MI := (yX9_safe, cX9_safe, 3, (some Jvm.ClassFile.FieldType.int), 1, 6, 129, false, 1387, 1385, 1386, 95)
def k_X9_safe : List Ent := [(0, .iload_n 1, 1, 1, 0, 0, 0, 0, 0, []),
  (1, .i2l, 1, 0, 0, 0, 0, 0, 0, []),
  (2, .lconst 1, 1, 0, 0, 0, 0, 0, 0, []),
  (3, .ldc2_w 208, 3, 0, 0, 1388, 0, 0, 1000, []),
  (6, .invokestatic 68, 3, 143, 3, 1201, 0, 0, 0, []),
  (9, .ifCond .ne 6, 3, 15, 0, 0, 0, 0, 0, []),
  (12, .bipush (-2), 2, 0, 0, 0, 0, -2, 0, []),
  (14, .ireturn, 1, 0, 0, 0, 0, 0, 0, []),
  (15, .aload_n 0, 1, 0, 0, 0, 0, 0, 0, []),
  (16, .invokevirtual 197, 3, 186, 0, 1347, 8, 0, 0, []),
  (19, .iconst 0, 1, 0, 0, 0, 0, 0, 0, []),
  (20, .istore_n 2, 1, 2, 0, 0, 0, 0, 0, []),
  (21, .iload_n 2, 1, 2, 0, 0, 0, 0, 0, []),
  (22, .iload_n 2, 1, 2, 0, 0, 0, 0, 0, []),
  (23, .imul, 1, 0, 0, 0, 0, 0, 0, []),
  (24, .iload_n 1, 1, 1, 0, 0, 0, 0, 0, []),
  (25, .aload_n 0, 1, 0, 0, 0, 0, 0, 0, []),
  (26, .invokevirtual 202, 3, 184, 0, 1372, 8, 0, 0, []),
  (29, .imul, 1, 0, 0, 0, 0, 0, 0, []),
  (30, .if_icmp .ge 9, 3, 39, 0, 0, 0, 0, 0, []),
  (33, .iinc 2 1, 3, 2, 0, 0, 0, 1, 0, []),
  (36, .goto (-15), 3, 21, 0, 0, 0, 0, 0, []),
  (39, .iload_n 2, 1, 2, 0, 0, 0, 0, 0, []),
  (40, .ireturn, 1, 0, 0, 0, 0, 0, 0, [])]
def M_X9_ring : MI := (yX9_ring, cX9_ring, 7, (some Jvm.ClassFile.FieldType.long), 1, 5, 109, false, 1392, 1390, 1391, 95)
def k_X9_ring : List Ent := [(0, .iload_n 1, 1, 1, 0, 0, 0, 0, 0, []),
  (1, .i2l, 1, 0, 0, 0, 0, 0, 0, []),
  (2, .ldc2_w 210, 3, 0, 0, 1393, 0, 0, -1, []),
  (5, .ldc2_w 92, 3, 0, 0, 1204, 0, 0, 9, []),
  (8, .invokestatic 68, 3, 143, 3, 1201, 0, 0, 0, []),
  (11, .ifCond .ne 7, 3, 18, 0, 0, 0, 0, 0, []),
  (14, .ldc2_w 212, 3, 0, 0, 1394, 0, 0, -9223372036854775808, []),
  (17, .lreturn, 1, 0, 0, 0, 0, 0, 0, []),
  (18, .aload_n 0, 1, 0, 0, 0, 0, 0, 0, []),
  (19, .invokevirtual 169, 3, 175, 0, 1305, 8, 0, 0, []),
  (22, .lconst 0, 1, 0, 0, 0, 0, 0, 0, []),
  (23, .lstore_n 2, 1, 2, 0, 0, 0, 0, 0, []),
  (24, .iconst 0, 1, 0, 0, 0, 0, 0, 0, []),
  (25, .istore 4, 2, 4, 0, 0, 0, 0, 0, []),
  (27, .iload 4, 2, 4, 0, 0, 0, 0, 0, []),
  (29, .aload_n 0, 1, 0, 0, 0, 0, 0, 0, []),
  (30, .getfield 11, 3, 8, 0, 1089, 2, 0, 0, []),
  (33, .sipush 280, 3, 0, 0, 0, 0, 280, 0, []),
  (36, .iaload, 1, 0, 0, 0, 0, 0, 0, []),
  (37, .if_icmp .ge 101, 3, 138, 0, 0, 0, 0, 0, []),
  (40, .aload_n 0, 1, 0, 0, 0, 0, 0, 0, []),
  (41, .aload_n 0, 1, 0, 0, 0, 0, 0, 0, []),
  (42, .getfield 159, 3, 8, 7, 1096, 0, 0, 0, []),
  (45, .iload 4, 2, 4, 0, 0, 0, 0, 0, []),
  (47, .invokevirtual 153, 3, 173, 2, 1322, 8, 0, 0, []),
  (50, .ifCond .ne 6, 3, 56, 0, 0, 0, 0, 0, []),
  (53, .goto 79, 3, 132, 0, 0, 0, 0, 0, []),
  (56, .aload_n 0, 1, 0, 0, 0, 0, 0, 0, []),
  (57, .iload 4, 2, 4, 0, 0, 0, 0, 0, []),
  (59, .invokevirtual 177, 3, 178, 1, 1339, 8, 0, 0, []),
  (62, .istore 5, 2, 5, 0, 0, 0, 0, 0, []),
  (64, .aload_n 0, 1, 0, 0, 0, 0, 0, 0, []),
  (65, .iload 4, 2, 4, 0, 0, 0, 0, 0, []),
  (67, .invokevirtual 121, 3, 157, 1, 1247, 8, 0, 0, []),
  (70, .iload 5, 2, 5, 0, 0, 0, 0, 0, []),
  (72, .iconst 1, 1, 0, 0, 0, 0, 1, 0, []),
  (73, .iadd, 1, 0, 0, 0, 0, 0, 0, []),
  (74, .idiv, 1, 0, 0, 0, 0, 0, 0, []),
  (75, .istore 6, 2, 6, 0, 0, 0, 0, 0, []),
  (77, .iload_n 1, 1, 1, 0, 0, 0, 0, 0, []),
  (78, .ifCond .ge 22, 3, 100, 0, 0, 0, 0, 0, []),
  (81, .lload_n 2, 1, 2, 0, 0, 0, 0, 0, []),
  (82, .iload 6, 2, 6, 0, 0, 0, 0, 0, []),
  (84, .iload 5, 2, 5, 0, 0, 0, 0, 0, []),
  (86, .imul, 1, 0, 0, 0, 0, 0, 0, []),
  (87, .iload 5, 2, 5, 0, 0, 0, 0, 0, []),
  (89, .iconst 1, 1, 0, 0, 0, 0, 1, 0, []),
  (90, .iadd, 1, 0, 0, 0, 0, 0, 0, []),
  (91, .imul, 1, 0, 0, 0, 0, 0, 0, []),
  (92, .iconst 2, 1, 0, 0, 0, 0, 2, 0, []),
  (93, .idiv, 1, 0, 0, 0, 0, 0, 0, []),
  (94, .i2l, 1, 0, 0, 0, 0, 0, 0, []),
  (95, .ladd, 1, 0, 0, 0, 0, 0, 0, []),
  (96, .lstore_n 2, 1, 2, 0, 0, 0, 0, 0, []),
  (97, .goto 35, 3, 132, 0, 0, 0, 0, 0, []),
  (100, .iload_n 1, 1, 1, 0, 0, 0, 0, 0, []),
  (101, .iload 5, 2, 5, 0, 0, 0, 0, 0, []),
  (103, .if_icmp .gt 29, 3, 132, 0, 0, 0, 0, 0, []),
  (106, .lload_n 2, 1, 2, 0, 0, 0, 0, 0, []),
  (107, .iload_n 1, 1, 1, 0, 0, 0, 0, 0, []),
  (108, .ifCond .ne 19, 3, 127, 0, 0, 0, 0, 0, []),
  (111, .aload_n 0, 1, 0, 0, 0, 0, 0, 0, []),
  (112, .iload 4, 2, 4, 0, 0, 0, 0, 0, []),
  (114, .invokevirtual 121, 3, 157, 1, 1247, 8, 0, 0, []),
  (117, .iload 6, 2, 6, 0, 0, 0, 0, 0, []),
  (119, .iload 5, 2, 5, 0, 0, 0, 0, 0, []),
  (121, .imul, 1, 0, 0, 0, 0, 0, 0, []),
  (122, .isub, 1, 0, 0, 0, 0, 0, 0, []),
  (123, .i2l, 1, 0, 0, 0, 0, 0, 0, []),
  (124, .goto 6, 3, 130, 0, 0, 0, 0, 0, []),
  (127, .iload 6, 2, 6, 0, 0, 0, 0, 0, []),
  (129, .i2l, 1, 0, 0, 0, 0, 0, 0, []),
  (130, .ladd, 1, 0, 0, 0, 0, 0, 0, []),
  (131, .lstore_n 2, 1, 2, 0, 0, 0, 0, 0, []),
  (132, .iinc 4 1, 3, 4, 0, 0, 0, 1, 0, []),
  (135, .goto (-108), 3, 27, 0, 0, 0, 0, 0, []),
  (138, .lload_n 2, 1, 2, 0, 0, 0, 0, 0, []),
  (139, .lreturn, 1, 0, 0, 0, 0, 0, 0, [])]
def M_X9_sets : MI := (yX9_sets, cX9_sets, 5, (some Jvm.ClassFile.FieldType.int), 1, 5, 109, false, 1398, 1396, 1397, 95)
def k_X9_sets : List Ent := [(0, .iload_n 1, 1, 1, 0, 0, 0, 0, 0, []),
  (1, .i2l, 1, 0, 0, 0, 0, 0, 0, []),
  (2, .lconst 0, 1, 0, 0, 0, 0, 0, 0, []),
  (3, .ldc2_w 90, 3, 0, 0, 1200, 0, 0, 4, []),
  (6, .invokestatic 68, 3, 143, 3, 1201, 0, 0, 0, []),
  (9, .ifCond .ne 5, 3, 14, 0, 0, 0, 0, 0, []),
  (12, .iconst (-1), 1, 0, 0, 0, 0, -1, 0, []),
  (13, .ireturn, 1, 0, 0, 0, 0, 0, 0, []),
  (14, .aload_n 0, 1, 0, 0, 0, 0, 0, 0, []),
  (15, .invokevirtual 169, 3, 175, 0, 1305, 8, 0, 0, []),
  (18, .iconst 0, 1, 0, 0, 0, 0, 0, 0, []),
  (19, .istore_n 2, 1, 2, 0, 0, 0, 0, 0, []),
  (20, .iconst 0, 1, 0, 0, 0, 0, 0, 0, []),
  (21, .istore_n 3, 1, 3, 0, 0, 0, 0, 0, []),
  (22, .iload_n 3, 1, 3, 0, 0, 0, 0, 0, []),
  (23, .bipush 31, 2, 0, 0, 0, 0, 31, 0, []),
  (25, .if_icmp .ge 136, 3, 161, 0, 0, 0, 0, 0, []),
  (28, .iload_n 1, 1, 1, 0, 0, 0, 0, 0, []),
  (29, .iconst 4, 1, 0, 0, 0, 0, 4, 0, []),
  (30, .if_icmp .ne 29, 3, 59, 0, 0, 0, 0, 0, []),
  (33, .aload_n 0, 1, 0, 0, 0, 0, 0, 0, []),
  (34, .iload_n 3, 1, 3, 0, 0, 0, 0, 0, []),
  (35, .invokevirtual 132, 3, 149, 1, 1279, 8, 0, 0, []),
  (38, .ifCond .eq 15, 3, 53, 0, 0, 0, 0, 0, []),
  (41, .aload_n 0, 1, 0, 0, 0, 0, 0, 0, []),
  (42, .iload_n 3, 1, 3, 0, 0, 0, 0, 0, []),
  (43, .invokevirtual 172, 3, 176, 1, 1330, 8, 0, 0, []),
  (46, .ifCond .eq 7, 3, 53, 0, 0, 0, 0, 0, []),
  (49, .iconst 1, 1, 0, 0, 0, 0, 1, 0, []),
  (50, .goto 4, 3, 54, 0, 0, 0, 0, 0, []),
  (53, .iconst 0, 1, 0, 0, 0, 0, 0, 0, []),
  (54, .istore 4, 2, 4, 0, 0, 0, 0, 0, []),
  (56, .goto 84, 3, 140, 0, 0, 0, 0, 0, []),
  (59, .aload_n 0, 1, 0, 0, 0, 0, 0, 0, []),
  (60, .iload_n 3, 1, 3, 0, 0, 0, 0, 0, []),
  (61, .invokevirtual 112, 3, 148, 1, 1227, 8, 0, 0, []),
  (64, .ifCond .eq 73, 3, 137, 0, 0, 0, 0, 0, []),
  (67, .iload_n 1, 1, 1, 0, 0, 0, 0, 0, []),
  (68, .ifCond .ne 18, 3, 86, 0, 0, 0, 0, 0, []),
  (71, .aload_n 0, 1, 0, 0, 0, 0, 0, 0, []),
  (72, .aload_n 0, 1, 0, 0, 0, 0, 0, 0, []),
  (73, .getfield 159, 3, 8, 7, 1096, 0, 0, 0, []),
  (76, .iload_n 3, 1, 3, 0, 0, 0, 0, 0, []),
  (77, .invokevirtual 153, 3, 173, 2, 1322, 8, 0, 0, []),
  (80, .ifCond .eq 57, 3, 137, 0, 0, 0, 0, 0, []),
  (83, .goto 50, 3, 133, 0, 0, 0, 0, 0, []),
  (86, .iload_n 1, 1, 1, 0, 0, 0, 0, 0, []),
  (87, .iconst 1, 1, 0, 0, 0, 0, 1, 0, []),
  (88, .if_icmp .ne 18, 3, 106, 0, 0, 0, 0, 0, []),
  (91, .aload_n 0, 1, 0, 0, 0, 0, 0, 0, []),
  (92, .aload_n 0, 1, 0, 0, 0, 0, 0, 0, []),
  (93, .getfield 163, 3, 8, 8, 1097, 0, 0, 0, []),
  (96, .iload_n 3, 1, 3, 0, 0, 0, 0, 0, []),
  (97, .invokevirtual 153, 3, 173, 2, 1322, 8, 0, 0, []),
  (100, .ifCond .eq 37, 3, 137, 0, 0, 0, 0, 0, []),
  (103, .goto 30, 3, 133, 0, 0, 0, 0, 0, []),
  (106, .iload_n 1, 1, 1, 0, 0, 0, 0, 0, []),
  (107, .iconst 2, 1, 0, 0, 0, 0, 2, 0, []),
  (108, .if_icmp .ne 14, 3, 122, 0, 0, 0, 0, 0, []),
  (111, .aload_n 0, 1, 0, 0, 0, 0, 0, 0, []),
  (112, .iload_n 3, 1, 3, 0, 0, 0, 0, 0, []),
  (113, .invokevirtual 147, 3, 152, 1, 1318, 8, 0, 0, []),
  (116, .ifCond .eq 21, 3, 137, 0, 0, 0, 0, 0, []),
  (119, .goto 14, 3, 133, 0, 0, 0, 0, 0, []),
  (122, .aload_n 0, 1, 0, 0, 0, 0, 0, 0, []),
  (123, .getfield 21, 3, 8, 5, 1094, 2, 0, 0, []),
  (126, .iload_n 3, 1, 3, 0, 0, 0, 0, 0, []),
  (127, .iaload, 1, 0, 0, 0, 0, 0, 0, []),
  (128, .ldc 146, 2, 0, 0, 1313, 0, 1000000, 0, []),
  (130, .if_icmp .ne 7, 3, 137, 0, 0, 0, 0, 0, []),
  (133, .iconst 1, 1, 0, 0, 0, 0, 1, 0, []),
  (134, .goto 4, 3, 138, 0, 0, 0, 0, 0, []),
  (137, .iconst 0, 1, 0, 0, 0, 0, 0, 0, []),
  (138, .istore 4, 2, 4, 0, 0, 0, 0, 0, []),
  (140, .iload_n 2, 1, 2, 0, 0, 0, 0, 0, []),
  (141, .iload 4, 2, 4, 0, 0, 0, 0, 0, []),
  (143, .ifCond .eq 9, 3, 152, 0, 0, 0, 0, 0, []),
  (146, .iconst 1, 1, 0, 0, 0, 0, 1, 0, []),
  (147, .iload_n 3, 1, 3, 0, 0, 0, 0, 0, []),
  (148, .ishl, 1, 0, 0, 0, 0, 0, 0, []),
  (149, .goto 4, 3, 153, 0, 0, 0, 0, 0, []),
  (152, .iconst 0, 1, 0, 0, 0, 0, 0, 0, []),
  (153, .ior, 1, 0, 0, 0, 0, 0, 0, []),
  (154, .istore_n 2, 1, 2, 0, 0, 0, 0, 0, []),
  (155, .iinc 3 1, 3, 3, 0, 0, 0, 1, 0, []),
  (158, .goto (-136), 3, 22, 0, 0, 0, 0, 0, []),
  (161, .iload_n 2, 1, 2, 0, 0, 0, 0, 0, []),
  (162, .ireturn, 1, 0, 0, 0, 0, 0, 0, [])]
def M_X9_loads : MI := (yX9_loads, cX9_loads, 9, (some Jvm.ClassFile.FieldType.int), 5, 3, 65, false, 1402, 1400, 1401, 95)
def k_X9_loads : List Ent := [(0, .iload_n 1, 1, 1, 0, 0, 0, 0, 0, []),
  (1, .i2l, 1, 0, 0, 0, 0, 0, 0, []),
  (2, .lconst 0, 1, 0, 0, 0, 0, 0, 0, []),
  (3, .ldc2_w 90, 3, 0, 0, 1200, 0, 0, 4, []),
  (6, .invokestatic 68, 3, 143, 3, 1201, 0, 0, 0, []),
  (9, .ifCond .ne 6, 3, 15, 0, 0, 0, 0, 0, []),
  (12, .bipush (-2), 2, 0, 0, 0, 0, -2, 0, []),
  (14, .ireturn, 1, 0, 0, 0, 0, 0, 0, []),
  (15, .iconst 0, 1, 0, 0, 0, 0, 0, 0, []),
  (16, .istore 6, 2, 6, 0, 0, 0, 0, 0, []),
  (18, .iconst 0, 1, 0, 0, 0, 0, 0, 0, []),
  (19, .istore 7, 2, 7, 0, 0, 0, 0, 0, []),
  (21, .iload 7, 2, 7, 0, 0, 0, 0, 0, []),
  (23, .iload_n 1, 1, 1, 0, 0, 0, 0, 0, []),
  (24, .if_icmp .ge 65, 3, 89, 0, 0, 0, 0, 0, []),
  (27, .iload 7, 2, 7, 0, 0, 0, 0, 0, []),
  (29, .ifCond .ne 7, 3, 36, 0, 0, 0, 0, 0, []),
  (32, .iload_n 2, 1, 2, 0, 0, 0, 0, 0, []),
  (33, .goto 26, 3, 59, 0, 0, 0, 0, 0, []),
  (36, .iload 7, 2, 7, 0, 0, 0, 0, 0, []),
  (38, .iconst 1, 1, 0, 0, 0, 0, 1, 0, []),
  (39, .if_icmp .ne 7, 3, 46, 0, 0, 0, 0, 0, []),
  (42, .iload_n 3, 1, 3, 0, 0, 0, 0, 0, []),
  (43, .goto 16, 3, 59, 0, 0, 0, 0, 0, []),
  (46, .iload 7, 2, 7, 0, 0, 0, 0, 0, []),
  (48, .iconst 2, 1, 0, 0, 0, 0, 2, 0, []),
  (49, .if_icmp .ne 8, 3, 57, 0, 0, 0, 0, 0, []),
  (52, .iload 4, 2, 4, 0, 0, 0, 0, 0, []),
  (54, .goto 5, 3, 59, 0, 0, 0, 0, 0, []),
  (57, .iload 5, 2, 5, 0, 0, 0, 0, 0, []),
  (59, .istore 8, 2, 8, 0, 0, 0, 0, 0, []),
  (61, .aload_n 0, 1, 0, 0, 0, 0, 0, 0, []),
  (62, .iload 8, 2, 8, 0, 0, 0, 0, 0, []),
  (64, .invokevirtual 112, 3, 148, 1, 1227, 8, 0, 0, []),
  (67, .ifCond .ne 5, 3, 72, 0, 0, 0, 0, 0, []),
  (70, .iconst (-1), 1, 0, 0, 0, 0, -1, 0, []),
  (71, .ireturn, 1, 0, 0, 0, 0, 0, 0, []),
  (72, .iload 6, 2, 6, 0, 0, 0, 0, 0, []),
  (74, .aload_n 0, 1, 0, 0, 0, 0, 0, 0, []),
  (75, .iload 8, 2, 8, 0, 0, 0, 0, 0, []),
  (77, .invokevirtual 118, 3, 156, 1, 1232, 8, 0, 0, []),
  (80, .iadd, 1, 0, 0, 0, 0, 0, 0, []),
  (81, .istore 6, 2, 6, 0, 0, 0, 0, 0, []),
  (83, .iinc 7 1, 3, 7, 0, 0, 0, 1, 0, []),
  (86, .goto (-65), 3, 21, 0, 0, 0, 0, 0, []),
  (89, .iload 6, 2, 6, 0, 0, 0, 0, 0, []),
  (91, .ireturn, 1, 0, 0, 0, 0, 0, 0, [])]
def M_X9_compares : MI := (yX9_compares, cX9_compares, 4, (none), 3, 6, 129, false, 1417, 1416, 65, 95)
def k_X9_compares : List Ent := [(0, .aload_n 0, 1, 0, 0, 0, 0, 0, 0, []),
  (1, .invokevirtual 197, 3, 186, 0, 1347, 8, 0, 0, []),
  (4, .aload_n 0, 1, 0, 0, 0, 0, 0, 0, []),
  (5, .iload_n 1, 1, 1, 0, 0, 0, 0, 0, []),
  (6, .aload_n 0, 1, 0, 0, 0, 0, 0, 0, []),
  (7, .getfield 159, 3, 8, 7, 1096, 0, 0, 0, []),
  (10, .iconst (-1), 1, 0, 0, 0, 0, -1, 0, []),
  (11, .ixor, 1, 0, 0, 0, 0, 0, 0, []),
  (12, .iand, 1, 0, 0, 0, 0, 0, 0, []),
  (13, .iload_n 3, 1, 3, 0, 0, 0, 0, 0, []),
  (14, .iconst (-1), 1, 0, 0, 0, 0, -1, 0, []),
  (15, .ixor, 1, 0, 0, 0, 0, 0, 0, []),
  (16, .iand, 1, 0, 0, 0, 0, 0, 0, []),
  (17, .putfield 214, 3, 8, 13, 1102, 0, 0, 0, []),
  (20, .aload_n 0, 1, 0, 0, 0, 0, 0, 0, []),
  (21, .aload_n 0, 1, 0, 0, 0, 0, 0, 0, []),
  (22, .getfield 163, 3, 8, 8, 1097, 0, 0, 0, []),
  (25, .iload_n 2, 1, 2, 0, 0, 0, 0, 0, []),
  (26, .iconst (-1), 1, 0, 0, 0, 0, -1, 0, []),
  (27, .ixor, 1, 0, 0, 0, 0, 0, 0, []),
  (28, .iand, 1, 0, 0, 0, 0, 0, 0, []),
  (29, .putfield 217, 3, 8, 14, 1103, 0, 0, 0, []),
  (32, .return_, 1, 0, 0, 0, 0, 0, 0, [])]
def M_X9_misfires : MI := (yX9_misfires, cX9_misfires, 4, (none), 1, 7, 152, false, 1410, 1409, 64, 95)
def k_X9_misfires : List Ent := [(0, .aload_n 0, 1, 0, 0, 0, 0, 0, 0, []),
  (1, .invokevirtual 169, 3, 175, 0, 1305, 8, 0, 0, []),
  (4, .aload_n 0, 1, 0, 0, 0, 0, 0, 0, []),
  (5, .getfield 159, 3, 8, 7, 1096, 0, 0, 0, []),
  (8, .istore_n 2, 1, 2, 0, 0, 0, 0, 0, []),
  (9, .aload_n 0, 1, 0, 0, 0, 0, 0, 0, []),
  (10, .getfield 163, 3, 8, 8, 1097, 0, 0, 0, []),
  (13, .istore_n 3, 1, 3, 0, 0, 0, 0, 0, []),
  (14, .aload_n 0, 1, 0, 0, 0, 0, 0, 0, []),
  (15, .getfield 11, 3, 8, 0, 1089, 2, 0, 0, []),
  (18, .aload_n 0, 1, 0, 0, 0, 0, 0, 0, []),
  (19, .getfield 18, 3, 8, 2, 1091, 2, 0, 0, []),
  (22, .invokestatic 220, 3, 146, 2, 1411, 0, 0, 0, []),
  (25, .aload_n 0, 1, 0, 0, 0, 0, 0, 0, []),
  (26, .getfield 11, 3, 8, 0, 1089, 2, 0, 0, []),
  (29, .bipush 8, 2, 0, 0, 0, 0, 8, 0, []),
  (31, .iload_n 1, 1, 1, 0, 0, 0, 0, 0, []),
  (32, .imul, 1, 0, 0, 0, 0, 0, 0, []),
  (33, .bipush 6, 2, 0, 0, 0, 0, 6, 0, []),
  (35, .iadd, 1, 0, 0, 0, 0, 0, 0, []),
  (36, .iconst 1, 1, 0, 0, 0, 0, 1, 0, []),
  (37, .iastore, 1, 0, 0, 0, 0, 0, 0, []),
  (38, .aload_n 0, 1, 0, 0, 0, 0, 0, 0, []),
  (39, .iload_n 2, 1, 2, 0, 0, 0, 0, 0, []),
  (40, .iload_n 3, 1, 3, 0, 0, 0, 0, 0, []),
  (41, .iconst 1, 1, 0, 0, 0, 0, 1, 0, []),
  (42, .iload_n 1, 1, 1, 0, 0, 0, 0, 0, []),
  (43, .ishl, 1, 0, 0, 0, 0, 0, 0, []),
  (44, .invokevirtual 224, 3, 194, 3, 1414, 8, 0, 0, []),
  (47, .aload_n 0, 1, 0, 0, 0, 0, 0, 0, []),
  (48, .aload_n 0, 1, 0, 0, 0, 0, 0, 0, []),
  (49, .invokevirtual 202, 3, 184, 0, 1372, 8, 0, 0, []),
  (52, .putfield 227, 3, 8, 15, 1104, 0, 0, 0, []),
  (55, .aload_n 0, 1, 0, 0, 0, 0, 0, 0, []),
  (56, .aload_n 0, 1, 0, 0, 0, 0, 0, 0, []),
  (57, .invokevirtual 205, 3, 185, 0, 1380, 8, 0, 0, []),
  (60, .putfield 230, 3, 8, 16, 1105, 0, 0, 0, []),
  (63, .aload_n 0, 1, 0, 0, 0, 0, 0, 0, []),
  (64, .getfield 18, 3, 8, 2, 1091, 2, 0, 0, []),
  (67, .aload_n 0, 1, 0, 0, 0, 0, 0, 0, []),
  (68, .getfield 11, 3, 8, 0, 1089, 2, 0, 0, []),
  (71, .invokestatic 220, 3, 146, 2, 1411, 0, 0, 0, []),
  (74, .return_, 1, 0, 0, 0, 0, 0, 0, [])]
def M_X9_breaks : MI := (yX9_breaks, cX9_breaks, 4, (none), 1, 7, 152, false, 1429, 1428, 67, 95)
def k_X9_breaks : List Ent := [(0, .aload_n 0, 1, 0, 0, 0, 0, 0, 0, []),
  (1, .invokevirtual 169, 3, 175, 0, 1305, 8, 0, 0, []),
  (4, .aload_n 0, 1, 0, 0, 0, 0, 0, 0, []),
  (5, .getfield 159, 3, 8, 7, 1096, 0, 0, 0, []),
  (8, .istore_n 2, 1, 2, 0, 0, 0, 0, 0, []),
  (9, .aload_n 0, 1, 0, 0, 0, 0, 0, 0, []),
  (10, .getfield 163, 3, 8, 8, 1097, 0, 0, 0, []),
  (13, .istore_n 3, 1, 3, 0, 0, 0, 0, 0, []),
  (14, .aload_n 0, 1, 0, 0, 0, 0, 0, 0, []),
  (15, .getfield 11, 3, 8, 0, 1089, 2, 0, 0, []),
  (18, .aload_n 0, 1, 0, 0, 0, 0, 0, 0, []),
  (19, .getfield 18, 3, 8, 2, 1091, 2, 0, 0, []),
  (22, .invokestatic 220, 3, 146, 2, 1411, 0, 0, 0, []),
  (25, .aload_n 0, 1, 0, 0, 0, 0, 0, 0, []),
  (26, .iload_n 1, 1, 1, 0, 0, 0, 0, 0, []),
  (27, .invokevirtual 135, 3, 167, 1, 1283, 8, 0, 0, []),
  (30, .aload_n 0, 1, 0, 0, 0, 0, 0, 0, []),
  (31, .iload_n 2, 1, 2, 0, 0, 0, 0, 0, []),
  (32, .iload_n 3, 1, 3, 0, 0, 0, 0, 0, []),
  (33, .iconst 0, 1, 0, 0, 0, 0, 0, 0, []),
  (34, .invokevirtual 224, 3, 194, 3, 1414, 8, 0, 0, []),
  (37, .aload_n 0, 1, 0, 0, 0, 0, 0, 0, []),
  (38, .aload_n 0, 1, 0, 0, 0, 0, 0, 0, []),
  (39, .invokevirtual 202, 3, 184, 0, 1372, 8, 0, 0, []),
  (42, .putfield 227, 3, 8, 15, 1104, 0, 0, 0, []),
  (45, .aload_n 0, 1, 0, 0, 0, 0, 0, 0, []),
  (46, .aload_n 0, 1, 0, 0, 0, 0, 0, 0, []),
  (47, .invokevirtual 205, 3, 185, 0, 1380, 8, 0, 0, []),
  (50, .putfield 230, 3, 8, 16, 1105, 0, 0, 0, []),
  (53, .aload_n 0, 1, 0, 0, 0, 0, 0, 0, []),
  (54, .getfield 18, 3, 8, 2, 1091, 2, 0, 0, []),
  (57, .aload_n 0, 1, 0, 0, 0, 0, 0, 0, []),
  (58, .getfield 11, 3, 8, 0, 1089, 2, 0, 0, []),
  (61, .invokestatic 220, 3, 146, 2, 1411, 0, 0, 0, []),
  (64, .return_, 1, 0, 0, 0, 0, 0, 0, [])]
def M_X9_told : MI := (yX9_told, cX9_told, 2, (some Jvm.ClassFile.FieldType.int), 1, 0, 0, false, 1421, 1420, 66, 95)
def k_X9_told : List Ent := [(0, .iload_n 1, 1, 1, 0, 0, 0, 0, 0, []),
  (1, .ifCond .ne 10, 3, 11, 0, 0, 0, 0, 0, []),
  (4, .aload_n 0, 1, 0, 0, 0, 0, 0, 0, []),
  (5, .getfield 214, 3, 8, 13, 1102, 0, 0, 0, []),
  (8, .goto 31, 3, 39, 0, 0, 0, 0, 0, []),
  (11, .iload_n 1, 1, 1, 0, 0, 0, 0, 0, []),
  (12, .iconst 1, 1, 0, 0, 0, 0, 1, 0, []),
  (13, .if_icmp .ne 10, 3, 23, 0, 0, 0, 0, 0, []),
  (16, .aload_n 0, 1, 0, 0, 0, 0, 0, 0, []),
  (17, .getfield 217, 3, 8, 14, 1103, 0, 0, 0, []),
  (20, .goto 19, 3, 39, 0, 0, 0, 0, 0, []),
  (23, .iload_n 1, 1, 1, 0, 0, 0, 0, 0, []),
  (24, .iconst 2, 1, 0, 0, 0, 0, 2, 0, []),
  (25, .if_icmp .ne 10, 3, 35, 0, 0, 0, 0, 0, []),
  (28, .aload_n 0, 1, 0, 0, 0, 0, 0, 0, []),
  (29, .getfield 227, 3, 8, 15, 1104, 0, 0, 0, []),
  (32, .goto 7, 3, 39, 0, 0, 0, 0, 0, []),
  (35, .aload_n 0, 1, 0, 0, 0, 0, 0, 0, []),
  (36, .getfield 230, 3, 8, 16, 1105, 0, 0, 0, []),
  (39, .ireturn, 1, 0, 0, 0, 0, 0, 0, [])]
def M_X9_misfire : MI := (yX9_misfire, cX9_misfire, 3, (some Jvm.ClassFile.FieldType.int), 2, 8, 175, false, 1406, 1404, 1405, 95)
def k_X9_misfire : List Ent := [(0, .aload_n 0, 1, 0, 0, 0, 0, 0, 0, []),
  (1, .iload_n 1, 1, 1, 0, 0, 0, 0, 0, []),
  (2, .invokevirtual 112, 3, 148, 1, 1227, 8, 0, 0, []),
  (5, .ifCond .eq 15, 3, 20, 0, 0, 0, 0, 0, []),
  (8, .iload_n 2, 1, 2, 0, 0, 0, 0, 0, []),
  (9, .i2l, 1, 0, 0, 0, 0, 0, 0, []),
  (10, .lconst 0, 1, 0, 0, 0, 0, 0, 0, []),
  (11, .ldc2_w 175, 3, 0, 0, 1338, 0, 0, 3, []),
  (14, .invokestatic 68, 3, 143, 3, 1201, 0, 0, 0, []),
  (17, .ifCond .ne 5, 3, 22, 0, 0, 0, 0, 0, []),
  (20, .iconst (-1), 1, 0, 0, 0, 0, -1, 0, []),
  (21, .ireturn, 1, 0, 0, 0, 0, 0, 0, []),
  (22, .aload_n 0, 1, 0, 0, 0, 0, 0, 0, []),
  (23, .iload_n 1, 1, 1, 0, 0, 0, 0, 0, []),
  (24, .invokevirtual 233, 3, 195, 1, 1407, 8, 0, 0, []),
  (27, .aload_n 0, 1, 0, 0, 0, 0, 0, 0, []),
  (28, .iload_n 2, 1, 2, 0, 0, 0, 0, 0, []),
  (29, .invokevirtual 236, 3, 197, 1, 1418, 8, 0, 0, []),
  (32, .ireturn, 1, 0, 0, 0, 0, 0, 0, [])]
def M_X9_broken : MI := (yX9_broken, cX9_broken, 3, (some Jvm.ClassFile.FieldType.int), 2, 8, 175, false, 1425, 1423, 1424, 95)
def k_X9_broken : List Ent := [(0, .aload_n 0, 1, 0, 0, 0, 0, 0, 0, []),
  (1, .iload_n 1, 1, 1, 0, 0, 0, 0, 0, []),
  (2, .invokevirtual 132, 3, 149, 1, 1279, 8, 0, 0, []),
  (5, .ifCond .eq 15, 3, 20, 0, 0, 0, 0, 0, []),
  (8, .iload_n 2, 1, 2, 0, 0, 0, 0, 0, []),
  (9, .i2l, 1, 0, 0, 0, 0, 0, 0, []),
  (10, .lconst 0, 1, 0, 0, 0, 0, 0, 0, []),
  (11, .ldc2_w 175, 3, 0, 0, 1338, 0, 0, 3, []),
  (14, .invokestatic 68, 3, 143, 3, 1201, 0, 0, 0, []),
  (17, .ifCond .ne 5, 3, 22, 0, 0, 0, 0, 0, []),
  (20, .iconst (-1), 1, 0, 0, 0, 0, -1, 0, []),
  (21, .ireturn, 1, 0, 0, 0, 0, 0, 0, []),
  (22, .aload_n 0, 1, 0, 0, 0, 0, 0, 0, []),
  (23, .iload_n 1, 1, 1, 0, 0, 0, 0, 0, []),
  (24, .invokevirtual 239, 3, 196, 1, 1426, 8, 0, 0, []),
  (27, .aload_n 0, 1, 0, 0, 0, 0, 0, 0, []),
  (28, .iload_n 2, 1, 2, 0, 0, 0, 0, 0, []),
  (29, .invokevirtual 236, 3, 197, 1, 1418, 8, 0, 0, []),
  (32, .ireturn, 1, 0, 0, 0, 0, 0, 0, [])]
def M_X9_critical : MI := (yX9_critical, cX9_critical, 6, (some Jvm.ClassFile.FieldType.int), 1, 8, 175, false, 1433, 1431, 1432, 95)
def k_X9_critical : List Ent := [(0, .iload_n 1, 1, 1, 0, 0, 0, 0, 0, []),
  (1, .i2l, 1, 0, 0, 0, 0, 0, 0, []),
  (2, .lconst 0, 1, 0, 0, 0, 0, 0, 0, []),
  (3, .lconst 1, 1, 0, 0, 0, 0, 0, 0, []),
  (4, .invokestatic 68, 3, 143, 3, 1201, 0, 0, 0, []),
  (7, .ifCond .ne 5, 3, 12, 0, 0, 0, 0, 0, []),
  (10, .iconst (-1), 1, 0, 0, 0, 0, -1, 0, []),
  (11, .ireturn, 1, 0, 0, 0, 0, 0, 0, []),
  (12, .iconst (-1), 1, 0, 0, 0, 0, -1, 0, []),
  (13, .istore_n 2, 1, 2, 0, 0, 0, 0, 0, []),
  (14, .iconst (-1), 1, 0, 0, 0, 0, -1, 0, []),
  (15, .istore_n 3, 1, 3, 0, 0, 0, 0, 0, []),
  (16, .iconst 0, 1, 0, 0, 0, 0, 0, 0, []),
  (17, .istore 4, 2, 4, 0, 0, 0, 0, 0, []),
  (19, .iload 4, 2, 4, 0, 0, 0, 0, 0, []),
  (21, .aload_n 0, 1, 0, 0, 0, 0, 0, 0, []),
  (22, .getfield 11, 3, 8, 0, 1089, 2, 0, 0, []),
  (25, .iload_n 1, 1, 1, 0, 0, 0, 0, 0, []),
  (26, .ifCond .ne 9, 3, 35, 0, 0, 0, 0, 0, []),
  (29, .sipush 280, 3, 0, 0, 0, 0, 280, 0, []),
  (32, .goto 6, 3, 38, 0, 0, 0, 0, 0, []),
  (35, .sipush 281, 3, 0, 0, 0, 0, 281, 0, []),
  (38, .iaload, 1, 0, 0, 0, 0, 0, 0, []),
  (39, .if_icmp .ge 71, 3, 110, 0, 0, 0, 0, 0, []),
  (42, .iload_n 1, 1, 1, 0, 0, 0, 0, 0, []),
  (43, .ifCond .ne 12, 3, 55, 0, 0, 0, 0, 0, []),
  (46, .aload_n 0, 1, 0, 0, 0, 0, 0, 0, []),
  (47, .iload 4, 2, 4, 0, 0, 0, 0, 0, []),
  (49, .invokevirtual 233, 3, 195, 1, 1407, 8, 0, 0, []),
  (52, .goto 9, 3, 61, 0, 0, 0, 0, 0, []),
  (55, .aload_n 0, 1, 0, 0, 0, 0, 0, 0, []),
  (56, .iload 4, 2, 4, 0, 0, 0, 0, 0, []),
  (58, .invokevirtual 239, 3, 196, 1, 1426, 8, 0, 0, []),
  (61, .aload_n 0, 1, 0, 0, 0, 0, 0, 0, []),
  (62, .getfield 214, 3, 8, 13, 1102, 0, 0, 0, []),
  (65, .invokestatic 242, 3, 147, 1, 1434, 0, 0, 0, []),
  (68, .aload_n 0, 1, 0, 0, 0, 0, 0, 0, []),
  (69, .getfield 217, 3, 8, 14, 1103, 0, 0, 0, []),
  (72, .invokestatic 242, 3, 147, 1, 1434, 0, 0, 0, []),
  (75, .iadd, 1, 0, 0, 0, 0, 0, 0, []),
  (76, .istore 5, 2, 5, 0, 0, 0, 0, 0, []),
  (78, .iload 5, 2, 5, 0, 0, 0, 0, 0, []),
  (80, .iload_n 3, 1, 3, 0, 0, 0, 0, 0, []),
  (81, .if_icmp .le 8, 3, 89, 0, 0, 0, 0, 0, []),
  (84, .iload 4, 2, 4, 0, 0, 0, 0, 0, []),
  (86, .goto 4, 3, 90, 0, 0, 0, 0, 0, []),
  (89, .iload_n 2, 1, 2, 0, 0, 0, 0, 0, []),
  (90, .istore_n 2, 1, 2, 0, 0, 0, 0, 0, []),
  (91, .iload 5, 2, 5, 0, 0, 0, 0, 0, []),
  (93, .iload_n 3, 1, 3, 0, 0, 0, 0, 0, []),
  (94, .if_icmp .le 8, 3, 102, 0, 0, 0, 0, 0, []),
  (97, .iload 5, 2, 5, 0, 0, 0, 0, 0, []),
  (99, .goto 4, 3, 103, 0, 0, 0, 0, 0, []),
  (102, .iload_n 3, 1, 3, 0, 0, 0, 0, 0, []),
  (103, .istore_n 3, 1, 3, 0, 0, 0, 0, 0, []),
  (104, .iinc 4 1, 3, 4, 0, 0, 0, 1, 0, []),
  (107, .goto (-88), 3, 19, 0, 0, 0, 0, 0, []),
  (110, .iload_n 2, 1, 2, 0, 0, 0, 0, 0, []),
  (111, .ireturn, 1, 0, 0, 0, 0, 0, 0, [])]
def M_X9_fits : MI := (yX9_fits, cX9_fits, 2, (some Jvm.ClassFile.FieldType.boolean), 1, 3, 71, false, 1452, 1451, 70, 95)
def k_X9_fits : List Ent := [(0, .aload_n 0, 1, 0, 0, 0, 0, 0, 0, []),
  (1, .iload_n 1, 1, 1, 0, 0, 0, 0, 0, []),
  (2, .aload_n 0, 1, 0, 0, 0, 0, 0, 0, []),
  (3, .getfield 245, 3, 8, 18, 1107, 0, 0, 0, []),
  (6, .invokevirtual 166, 3, 174, 2, 1326, 8, 0, 0, []),
  (9, .ifCond .ne 5, 3, 14, 0, 0, 0, 0, 0, []),
  (12, .iconst 0, 1, 0, 0, 0, 0, 0, 0, []),
  (13, .ireturn, 1, 1, 0, 0, 0, 0, 0, []),
  (14, .aload_n 0, 1, 0, 0, 0, 0, 0, 0, []),
  (15, .aload_n 0, 1, 0, 0, 0, 0, 0, 0, []),
  (16, .getfield 245, 3, 8, 18, 1107, 0, 0, 0, []),
  (19, .iconst 1, 1, 0, 0, 0, 0, 1, 0, []),
  (20, .iload_n 1, 1, 1, 0, 0, 0, 0, 0, []),
  (21, .ishl, 1, 0, 0, 0, 0, 0, 0, []),
  (22, .ior, 1, 0, 0, 0, 0, 0, 0, []),
  (23, .invokevirtual 194, 3, 181, 1, 1351, 8, 0, 0, []),
  (26, .aload_n 0, 1, 0, 0, 0, 0, 0, 0, []),
  (27, .invokevirtual 202, 3, 184, 0, 1372, 8, 0, 0, []),
  (30, .aload_n 0, 1, 0, 0, 0, 0, 0, 0, []),
  (31, .getfield 11, 3, 8, 0, 1089, 2, 0, 0, []),
  (34, .sipush 283, 3, 0, 0, 0, 0, 283, 0, []),
  (37, .iaload, 1, 0, 0, 0, 0, 0, 0, []),
  (38, .if_icmp .gt 7, 3, 45, 0, 0, 0, 0, 0, []),
  (41, .iconst 1, 1, 0, 0, 0, 0, 1, 0, []),
  (42, .goto 4, 3, 46, 0, 0, 0, 0, 0, []),
  (45, .iconst 0, 1, 0, 0, 0, 0, 0, 0, []),
  (46, .ireturn, 1, 1, 0, 0, 0, 0, 0, [])]
def M_X9_plans : MI := (yX9_plans, cX9_plans, 3, (none), 1, 4, 92, false, 1448, 1447, 69, 95)
def k_X9_plans : List Ent := [(0, .iconst 0, 1, 0, 0, 0, 0, 0, 0, []),
  (1, .istore_n 2, 1, 2, 0, 0, 0, 0, 0, []),
  (2, .iload_n 2, 1, 2, 0, 0, 0, 0, 0, []),
  (3, .sipush 999, 3, 0, 0, 0, 0, 999, 0, []),
  (6, .if_icmp .gt 59, 3, 65, 0, 0, 0, 0, 0, []),
  (9, .aload_n 0, 1, 0, 0, 0, 0, 0, 0, []),
  (10, .getfield 24, 3, 8, 6, 1095, 2, 0, 0, []),
  (13, .iload_n 1, 1, 1, 0, 0, 0, 0, 0, []),
  (14, .aload_n 0, 1, 0, 0, 0, 0, 0, 0, []),
  (15, .getfield 21, 3, 8, 5, 1094, 2, 0, 0, []),
  (18, .iload_n 1, 1, 1, 0, 0, 0, 0, 0, []),
  (19, .iaload, 1, 0, 0, 0, 0, 0, 0, []),
  (20, .iload_n 2, 1, 2, 0, 0, 0, 0, 0, []),
  (21, .iadd, 1, 0, 0, 0, 0, 0, 0, []),
  (22, .iastore, 1, 0, 0, 0, 0, 0, 0, []),
  (23, .aload_n 0, 1, 0, 0, 0, 0, 0, 0, []),
  (24, .iload_n 1, 1, 1, 0, 0, 0, 0, 0, []),
  (25, .invokevirtual 248, 3, 201, 1, 1449, 8, 0, 0, []),
  (28, .ifCond .eq 23, 3, 51, 0, 0, 0, 0, 0, []),
  (31, .aload_n 0, 1, 0, 0, 0, 0, 0, 0, []),
  (32, .getfield 36, 3, 8, 17, 1106, 2, 0, 0, []),
  (35, .iload_n 1, 1, 1, 0, 0, 0, 0, 0, []),
  (36, .iload_n 2, 1, 2, 0, 0, 0, 0, 0, []),
  (37, .iastore, 1, 0, 0, 0, 0, 0, 0, []),
  (38, .aload_n 0, 1, 0, 0, 0, 0, 0, 0, []),
  (39, .dup, 1, 0, 0, 0, 0, 0, 0, []),
  (40, .getfield 245, 3, 8, 18, 1107, 0, 0, 0, []),
  (43, .iconst 1, 1, 0, 0, 0, 0, 1, 0, []),
  (44, .iload_n 1, 1, 1, 0, 0, 0, 0, 0, []),
  (45, .ishl, 1, 0, 0, 0, 0, 0, 0, []),
  (46, .ior, 1, 0, 0, 0, 0, 0, 0, []),
  (47, .putfield 245, 3, 8, 18, 1107, 0, 0, 0, []),
  (50, .return_, 1, 0, 0, 0, 0, 0, 0, []),
  (51, .iload_n 2, 1, 2, 0, 0, 0, 0, 0, []),
  (52, .aload_n 0, 1, 0, 0, 0, 0, 0, 0, []),
  (53, .getfield 11, 3, 8, 0, 1089, 2, 0, 0, []),
  (56, .sipush 284, 3, 0, 0, 0, 0, 284, 0, []),
  (59, .iaload, 1, 0, 0, 0, 0, 0, 0, []),
  (60, .iadd, 1, 0, 0, 0, 0, 0, 0, []),
  (61, .istore_n 2, 1, 2, 0, 0, 0, 0, 0, []),
  (62, .goto (-60), 3, 2, 0, 0, 0, 0, 0, []),
  (65, .return_, 1, 0, 0, 0, 0, 0, 0, [])]
def M_X9_plans_ : MI := (yX9_plans_, cX9_plans_, 3, (none), 0, 5, 114, false, 1444, 1443, 68, 95)
def k_X9_plans_ : List Ent := [(0, .aload_n 0, 1, 0, 0, 0, 0, 0, 0, []),
  (1, .invokevirtual 169, 3, 175, 0, 1305, 8, 0, 0, []),
  (4, .aload_n 0, 1, 0, 0, 0, 0, 0, 0, []),
  (5, .iconst 0, 1, 0, 0, 0, 0, 0, 0, []),
  (6, .putfield 245, 3, 8, 18, 1107, 0, 0, 0, []),
  (9, .iconst 0, 1, 0, 0, 0, 0, 0, 0, []),
  (10, .istore_n 1, 1, 1, 0, 0, 0, 0, 0, []),
  (11, .iload_n 1, 1, 1, 0, 0, 0, 0, 0, []),
  (12, .bipush 50, 2, 0, 0, 0, 0, 50, 0, []),
  (14, .if_icmp .ge 66, 3, 80, 0, 0, 0, 0, 0, []),
  (17, .iconst 0, 1, 0, 0, 0, 0, 0, 0, []),
  (18, .istore_n 2, 1, 2, 0, 0, 0, 0, 0, []),
  (19, .iload_n 2, 1, 2, 0, 0, 0, 0, 0, []),
  (20, .aload_n 0, 1, 0, 0, 0, 0, 0, 0, []),
  (21, .getfield 11, 3, 8, 0, 1089, 2, 0, 0, []),
  (24, .sipush 280, 3, 0, 0, 0, 0, 280, 0, []),
  (27, .iaload, 1, 0, 0, 0, 0, 0, 0, []),
  (28, .if_icmp .ge 46, 3, 74, 0, 0, 0, 0, 0, []),
  (31, .aload_n 0, 1, 0, 0, 0, 0, 0, 0, []),
  (32, .aload_n 0, 1, 0, 0, 0, 0, 0, 0, []),
  (33, .getfield 159, 3, 8, 7, 1096, 0, 0, 0, []),
  (36, .iload_n 2, 1, 2, 0, 0, 0, 0, 0, []),
  (37, .invokevirtual 153, 3, 173, 2, 1322, 8, 0, 0, []),
  (40, .ifCond .eq 28, 3, 68, 0, 0, 0, 0, 0, []),
  (43, .bipush 10, 2, 0, 0, 0, 0, 10, 0, []),
  (45, .aload_n 0, 1, 0, 0, 0, 0, 0, 0, []),
  (46, .iload_n 2, 1, 2, 0, 0, 0, 0, 0, []),
  (47, .iconst 0, 1, 0, 0, 0, 0, 0, 0, []),
  (48, .invokevirtual 72, 3, 150, 2, 1213, 8, 0, 0, []),
  (51, .imul, 1, 0, 0, 0, 0, 0, 0, []),
  (52, .aload_n 0, 1, 0, 0, 0, 0, 0, 0, []),
  (53, .iload_n 2, 1, 2, 0, 0, 0, 0, 0, []),
  (54, .iconst 1, 1, 0, 0, 0, 0, 1, 0, []),
  (55, .invokevirtual 72, 3, 150, 2, 1213, 8, 0, 0, []),
  (58, .iadd, 1, 0, 0, 0, 0, 0, 0, []),
  (59, .iload_n 1, 1, 1, 0, 0, 0, 0, 0, []),
  (60, .if_icmp .ne 8, 3, 68, 0, 0, 0, 0, 0, []),
  (63, .aload_n 0, 1, 0, 0, 0, 0, 0, 0, []),
  (64, .iload_n 2, 1, 2, 0, 0, 0, 0, 0, []),
  (65, .invokevirtual 251, 3, 202, 1, 1445, 8, 0, 0, []),
  (68, .iinc 2 1, 3, 2, 0, 0, 0, 1, 0, []),
  (71, .goto (-52), 3, 19, 0, 0, 0, 0, 0, []),
  (74, .iinc 1 1, 3, 1, 0, 0, 0, 1, 0, []),
  (77, .goto (-66), 3, 11, 0, 0, 0, 0, 0, []),
  (80, .return_, 1, 0, 0, 0, 0, 0, 0, [])]
def M_X9_plan : MI := (yX9_plan, cX9_plan, 2, (some Jvm.ClassFile.FieldType.int), 1, 6, 136, false, 1440, 1438, 1439, 95)
def k_X9_plan : List Ent := [(0, .aload_n 0, 1, 0, 0, 0, 0, 0, 0, []),
  (1, .iload_n 1, 1, 1, 0, 0, 0, 0, 0, []),
  (2, .invokevirtual 112, 3, 148, 1, 1227, 8, 0, 0, []),
  (5, .ifCond .ne 5, 3, 10, 0, 0, 0, 0, 0, []),
  (8, .iconst (-1), 1, 0, 0, 0, 0, -1, 0, []),
  (9, .ireturn, 1, 0, 0, 0, 0, 0, 0, []),
  (10, .aload_n 0, 1, 0, 0, 0, 0, 0, 0, []),
  (11, .invokevirtual 254, 3, 203, 0, 1441, 8, 0, 0, []),
  (14, .aload_n 0, 1, 0, 0, 0, 0, 0, 0, []),
  (15, .aload_n 0, 1, 0, 0, 0, 0, 0, 0, []),
  (16, .getfield 245, 3, 8, 18, 1107, 0, 0, 0, []),
  (19, .iload_n 1, 1, 1, 0, 0, 0, 0, 0, []),
  (20, .invokevirtual 153, 3, 173, 2, 1322, 8, 0, 0, []),
  (23, .ifCond .eq 12, 3, 35, 0, 0, 0, 0, 0, []),
  (26, .aload_n 0, 1, 0, 0, 0, 0, 0, 0, []),
  (27, .getfield 36, 3, 8, 17, 1106, 2, 0, 0, []),
  (30, .iload_n 1, 1, 1, 0, 0, 0, 0, 0, []),
  (31, .iaload, 1, 0, 0, 0, 0, 0, 0, []),
  (32, .goto 5, 3, 37, 0, 0, 0, 0, 0, []),
  (35, .bipush (-3), 2, 0, 0, 0, 0, -3, 0, []),
  (37, .ireturn, 1, 0, 0, 0, 0, 0, 0, [])]
def M_X9_planned : MI := (yX9_planned, cX9_planned, 4, (some Jvm.ClassFile.FieldType.int), 1, 6, 136, false, 1456, 1454, 1455, 95)
def k_X9_planned : List Ent := [(0, .iload_n 1, 1, 1, 0, 0, 0, 0, 0, []),
  (1, .i2l, 1, 0, 0, 0, 0, 0, 0, []),
  (2, .lconst 0, 1, 0, 0, 0, 0, 0, 0, []),
  (3, .ldc2_w 139, 3, 0, 0, 1291, 0, 0, 2, []),
  (6, .invokestatic 68, 3, 143, 3, 1201, 0, 0, 0, []),
  (9, .ifCond .ne 5, 3, 14, 0, 0, 0, 0, 0, []),
  (12, .iconst (-1), 1, 0, 0, 0, 0, -1, 0, []),
  (13, .ireturn, 1, 0, 0, 0, 0, 0, 0, []),
  (14, .aload_n 0, 1, 0, 0, 0, 0, 0, 0, []),
  (15, .invokevirtual 254, 3, 203, 0, 1441, 8, 0, 0, []),
  (18, .iload_n 1, 1, 1, 0, 0, 0, 0, 0, []),
  (19, .ifCond .ne 11, 3, 30, 0, 0, 0, 0, 0, []),
  (22, .aload_n 0, 1, 0, 0, 0, 0, 0, 0, []),
  (23, .getfield 245, 3, 8, 18, 1107, 0, 0, 0, []),
  (26, .invokestatic 242, 3, 147, 1, 1434, 0, 0, 0, []),
  (29, .ireturn, 1, 0, 0, 0, 0, 0, 0, []),
  (30, .iconst (-1), 1, 0, 0, 0, 0, -1, 0, []),
  (31, .istore_n 2, 1, 2, 0, 0, 0, 0, 0, []),
  (32, .iconst 0, 1, 0, 0, 0, 0, 0, 0, []),
  (33, .istore_n 3, 1, 3, 0, 0, 0, 0, 0, []),
  (34, .iload_n 3, 1, 3, 0, 0, 0, 0, 0, []),
  (35, .aload_n 0, 1, 0, 0, 0, 0, 0, 0, []),
  (36, .getfield 11, 3, 8, 0, 1089, 2, 0, 0, []),
  (39, .sipush 280, 3, 0, 0, 0, 0, 280, 0, []),
  (42, .iaload, 1, 0, 0, 0, 0, 0, 0, []),
  (43, .if_icmp .ge 42, 3, 85, 0, 0, 0, 0, 0, []),
  (46, .aload_n 0, 1, 0, 0, 0, 0, 0, 0, []),
  (47, .aload_n 0, 1, 0, 0, 0, 0, 0, 0, []),
  (48, .getfield 245, 3, 8, 18, 1107, 0, 0, 0, []),
  (51, .iload_n 3, 1, 3, 0, 0, 0, 0, 0, []),
  (52, .invokevirtual 153, 3, 173, 2, 1322, 8, 0, 0, []),
  (55, .ifCond .eq 22, 3, 77, 0, 0, 0, 0, 0, []),
  (58, .aload_n 0, 1, 0, 0, 0, 0, 0, 0, []),
  (59, .getfield 24, 3, 8, 6, 1095, 2, 0, 0, []),
  (62, .iload_n 3, 1, 3, 0, 0, 0, 0, 0, []),
  (63, .iaload, 1, 0, 0, 0, 0, 0, 0, []),
  (64, .iload_n 2, 1, 2, 0, 0, 0, 0, 0, []),
  (65, .if_icmp .le 12, 3, 77, 0, 0, 0, 0, 0, []),
  (68, .aload_n 0, 1, 0, 0, 0, 0, 0, 0, []),
  (69, .getfield 24, 3, 8, 6, 1095, 2, 0, 0, []),
  (72, .iload_n 3, 1, 3, 0, 0, 0, 0, 0, []),
  (73, .iaload, 1, 0, 0, 0, 0, 0, 0, []),
  (74, .goto 4, 3, 78, 0, 0, 0, 0, 0, []),
  (77, .iload_n 2, 1, 2, 0, 0, 0, 0, 0, []),
  (78, .istore_n 2, 1, 2, 0, 0, 0, 0, 0, []),
  (79, .iinc 3 1, 3, 3, 0, 0, 0, 1, 0, []),
  (82, .goto (-48), 3, 34, 0, 0, 0, 0, 0, []),
  (85, .aload_n 0, 1, 0, 0, 0, 0, 0, 0, []),
  (86, .aload_n 0, 1, 0, 0, 0, 0, 0, 0, []),
  (87, .getfield 245, 3, 8, 18, 1107, 0, 0, 0, []),
  (90, .invokevirtual 194, 3, 181, 1, 1351, 8, 0, 0, []),
  (93, .iload_n 1, 1, 1, 0, 0, 0, 0, 0, []),
  (94, .iconst 1, 1, 0, 0, 0, 0, 1, 0, []),
  (95, .if_icmp .ne 7, 3, 102, 0, 0, 0, 0, 0, []),
  (98, .iload_n 2, 1, 2, 0, 0, 0, 0, 0, []),
  (99, .goto 7, 3, 106, 0, 0, 0, 0, 0, []),
  (102, .aload_n 0, 1, 0, 0, 0, 0, 0, 0, []),
  (103, .invokevirtual 202, 3, 184, 0, 1372, 8, 0, 0, []),
  (106, .ireturn, 1, 0, 0, 0, 0, 0, 0, [])]
def M_X9_adopt : MI := (yX9_adopt, cX9_adopt, 2, (some Jvm.ClassFile.FieldType.int), 0, 6, 136, false, 1460, 1458, 1459, 95)
def k_X9_adopt : List Ent := [(0, .aload_n 0, 1, 0, 0, 0, 0, 0, 0, []),
  (1, .invokevirtual 254, 3, 203, 0, 1441, 8, 0, 0, []),
  (4, .iconst 0, 1, 0, 0, 0, 0, 0, 0, []),
  (5, .istore_n 1, 1, 1, 0, 0, 0, 0, 0, []),
  (6, .iload_n 1, 1, 1, 0, 0, 0, 0, 0, []),
  (7, .aload_n 0, 1, 0, 0, 0, 0, 0, 0, []),
  (8, .getfield 11, 3, 8, 0, 1089, 2, 0, 0, []),
  (11, .sipush 280, 3, 0, 0, 0, 0, 280, 0, []),
  (14, .iaload, 1, 0, 0, 0, 0, 0, 0, []),
  (15, .if_icmp .ge 38, 3, 53, 0, 0, 0, 0, 0, []),
  (18, .aload_n 0, 1, 0, 0, 0, 0, 0, 0, []),
  (19, .aload_n 0, 1, 0, 0, 0, 0, 0, 0, []),
  (20, .getfield 245, 3, 8, 18, 1107, 0, 0, 0, []),
  (23, .iload_n 1, 1, 1, 0, 0, 0, 0, 0, []),
  (24, .invokevirtual 153, 3, 173, 2, 1322, 8, 0, 0, []),
  (27, .ifCond .eq 20, 3, 47, 0, 0, 0, 0, 0, []),
  (30, .aload_n 0, 1, 0, 0, 0, 0, 0, 0, []),
  (31, .getfield 11, 3, 8, 0, 1089, 2, 0, 0, []),
  (34, .bipush 8, 2, 0, 0, 0, 0, 8, 0, []),
  (36, .iload_n 1, 1, 1, 0, 0, 0, 0, 0, []),
  (37, .imul, 1, 0, 0, 0, 0, 0, 0, []),
  (38, .iconst 5, 1, 0, 0, 0, 0, 5, 0, []),
  (39, .iadd, 1, 0, 0, 0, 0, 0, 0, []),
  (40, .aload_n 0, 1, 0, 0, 0, 0, 0, 0, []),
  (41, .getfield 36, 3, 8, 17, 1106, 2, 0, 0, []),
  (44, .iload_n 1, 1, 1, 0, 0, 0, 0, 0, []),
  (45, .iaload, 1, 0, 0, 0, 0, 0, 0, []),
  (46, .iastore, 1, 0, 0, 0, 0, 0, 0, []),
  (47, .iinc 1 1, 3, 1, 0, 0, 0, 1, 0, []),
  (50, .goto (-44), 3, 6, 0, 0, 0, 0, 0, []),
  (53, .aload_n 0, 1, 0, 0, 0, 0, 0, 0, []),
  (54, .getfield 11, 3, 8, 0, 1089, 2, 0, 0, []),
  (57, .sipush 285, 3, 0, 0, 0, 0, 285, 0, []),
  (60, .iconst 0, 1, 0, 0, 0, 0, 0, 0, []),
  (61, .iastore, 1, 0, 0, 0, 0, 0, 0, []),
  (62, .aload_n 0, 1, 0, 0, 0, 0, 0, 0, []),
  (63, .getfield 245, 3, 8, 18, 1107, 0, 0, 0, []),
  (66, .invokestatic 242, 3, 147, 1, 1434, 0, 0, 0, []),
  (69, .ireturn, 1, 0, 0, 0, 0, 0, 0, [])]
def M_X9_feed : MI := (yX9_feed, cX9_feed, 2, (some Jvm.ClassFile.FieldType.int), 1, 1, 25, false, 1464, 1462, 1463, 95)
def k_X9_feed : List Ent := [(0, .iload_n 1, 1, 1, 0, 0, 0, 0, 0, []),
  (1, .i2l, 1, 0, 0, 0, 0, 0, 0, []),
  (2, .lconst 0, 1, 0, 0, 0, 0, 0, 0, []),
  (3, .ldc2_w 256, 3, 0, 0, 1465, 0, 0, 127, []),
  (6, .invokestatic 68, 3, 143, 3, 1201, 0, 0, 0, []),
  (9, .ifCond .ne 6, 3, 15, 0, 0, 0, 0, 0, []),
  (12, .bipush (-2), 2, 0, 0, 0, 0, -2, 0, []),
  (14, .ireturn, 1, 0, 0, 0, 0, 0, 0, []),
  (15, .aload_n 0, 1, 0, 0, 0, 0, 0, 0, []),
  (16, .getfield 258, 3, 8, 20, 1109, 0, 0, 0, []),
  (19, .bipush 80, 2, 0, 0, 0, 0, 80, 0, []),
  (21, .if_icmp .ne 6, 3, 27, 0, 0, 0, 0, 0, []),
  (24, .bipush (-4), 2, 0, 0, 0, 0, -4, 0, []),
  (26, .ireturn, 1, 0, 0, 0, 0, 0, 0, []),
  (27, .aload_n 0, 1, 0, 0, 0, 0, 0, 0, []),
  (28, .getfield 39, 3, 8, 19, 1108, 2, 0, 0, []),
  (31, .aload_n 0, 1, 0, 0, 0, 0, 0, 0, []),
  (32, .getfield 258, 3, 8, 20, 1109, 0, 0, 0, []),
  (35, .iload_n 1, 1, 1, 0, 0, 0, 0, 0, []),
  (36, .iastore, 1, 0, 0, 0, 0, 0, 0, []),
  (37, .aload_n 0, 1, 0, 0, 0, 0, 0, 0, []),
  (38, .dup, 1, 0, 0, 0, 0, 0, 0, []),
  (39, .getfield 258, 3, 8, 20, 1109, 0, 0, 0, []),
  (42, .iconst 1, 1, 0, 0, 0, 0, 1, 0, []),
  (43, .iadd, 1, 0, 0, 0, 0, 0, 0, []),
  (44, .putfield 258, 3, 8, 20, 1109, 0, 0, 0, []),
  (47, .aload_n 0, 1, 0, 0, 0, 0, 0, 0, []),
  (48, .getfield 258, 3, 8, 20, 1109, 0, 0, 0, []),
  (51, .ireturn, 1, 0, 0, 0, 0, 0, 0, [])]
def M_X9_here : MI := (yX9_here, cX9_here, 1, (some Jvm.ClassFile.FieldType.int), 0, 0, 0, false, 1477, 1476, 72, 95)
def k_X9_here : List Ent := [(0, .aload_n 0, 1, 0, 0, 0, 0, 0, 0, []),
  (1, .getfield 261, 3, 8, 23, 1112, 0, 0, 0, []),
  (4, .aload_n 0, 1, 0, 0, 0, 0, 0, 0, []),
  (5, .getfield 258, 3, 8, 20, 1109, 0, 0, 0, []),
  (8, .if_icmp .ge 15, 3, 23, 0, 0, 0, 0, 0, []),
  (11, .aload_n 0, 1, 0, 0, 0, 0, 0, 0, []),
  (12, .getfield 39, 3, 8, 19, 1108, 2, 0, 0, []),
  (15, .aload_n 0, 1, 0, 0, 0, 0, 0, 0, []),
  (16, .getfield 261, 3, 8, 23, 1112, 0, 0, 0, []),
  (19, .iaload, 1, 0, 0, 0, 0, 0, 0, []),
  (20, .goto 4, 3, 24, 0, 0, 0, 0, 0, []),
  (23, .iconst (-1), 1, 0, 0, 0, 0, -1, 0, []),
  (24, .ireturn, 1, 0, 0, 0, 0, 0, 0, [])]
def M_X9_wordHere : MI := (yX9_wordHere, cX9_wordHere, 4, (some Jvm.ClassFile.FieldType.int), 0, 1, 25, false, 1483, 1482, 73, 95)
def k_X9_wordHere : List Ent := [(0, .aload_n 0, 1, 0, 0, 0, 0, 0, 0, []),
  (1, .invokevirtual 264, 3, 208, 0, 1474, 8, 0, 0, []),
  (4, .i2l, 1, 0, 0, 0, 0, 0, 0, []),
  (5, .ldc2_w 267, 3, 0, 0, 1478, 0, 0, 97, []),
  (8, .ldc2_w 269, 3, 0, 0, 1479, 0, 0, 122, []),
  (11, .invokestatic 68, 3, 143, 3, 1201, 0, 0, 0, []),
  (14, .ifCond .eq 16, 3, 30, 0, 0, 0, 0, 0, []),
  (17, .aload_n 0, 1, 0, 0, 0, 0, 0, 0, []),
  (18, .dup, 1, 0, 0, 0, 0, 0, 0, []),
  (19, .getfield 261, 3, 8, 23, 1112, 0, 0, 0, []),
  (22, .iconst 1, 1, 0, 0, 0, 0, 1, 0, []),
  (23, .iadd, 1, 0, 0, 0, 0, 0, 0, []),
  (24, .putfield 261, 3, 8, 23, 1112, 0, 0, 0, []),
  (27, .goto (-27), 3, 0, 0, 0, 0, 0, 0, []),
  (30, .iconst 0, 1, 0, 0, 0, 0, 0, 0, []),
  (31, .istore_n 1, 1, 1, 0, 0, 0, 0, 0, []),
  (32, .iload_n 1, 1, 1, 0, 0, 0, 0, 0, []),
  (33, .bipush 12, 2, 0, 0, 0, 0, 12, 0, []),
  (35, .if_icmp .ge 104, 3, 139, 0, 0, 0, 0, 0, []),
  (38, .aload_n 0, 1, 0, 0, 0, 0, 0, 0, []),
  (39, .getfield 261, 3, 8, 23, 1112, 0, 0, 0, []),
  (42, .aload_n 0, 1, 0, 0, 0, 0, 0, 0, []),
  (43, .getfield 271, 3, 8, 24, 1113, 0, 0, 0, []),
  (46, .isub, 1, 0, 0, 0, 0, 0, 0, []),
  (47, .aload_n 0, 1, 0, 0, 0, 0, 0, 0, []),
  (48, .getfield 46, 3, 8, 22, 1111, 2, 0, 0, []),
  (51, .iload_n 1, 1, 1, 0, 0, 0, 0, 0, []),
  (52, .iconst 1, 1, 0, 0, 0, 0, 1, 0, []),
  (53, .iadd, 1, 0, 0, 0, 0, 0, 0, []),
  (54, .iaload, 1, 0, 0, 0, 0, 0, 0, []),
  (55, .aload_n 0, 1, 0, 0, 0, 0, 0, 0, []),
  (56, .getfield 46, 3, 8, 22, 1111, 2, 0, 0, []),
  (59, .iload_n 1, 1, 1, 0, 0, 0, 0, 0, []),
  (60, .iaload, 1, 0, 0, 0, 0, 0, 0, []),
  (61, .isub, 1, 0, 0, 0, 0, 0, 0, []),
  (62, .if_icmp .ne 7, 3, 69, 0, 0, 0, 0, 0, []),
  (65, .iconst 1, 1, 0, 0, 0, 0, 1, 0, []),
  (66, .goto 4, 3, 70, 0, 0, 0, 0, 0, []),
  (69, .iconst 0, 1, 0, 0, 0, 0, 0, 0, []),
  (70, .istore_n 2, 1, 2, 0, 0, 0, 0, 0, []),
  (71, .aload_n 0, 1, 0, 0, 0, 0, 0, 0, []),
  (72, .getfield 271, 3, 8, 24, 1113, 0, 0, 0, []),
  (75, .istore_n 3, 1, 3, 0, 0, 0, 0, 0, []),
  (76, .iload_n 3, 1, 3, 0, 0, 0, 0, 0, []),
  (77, .aload_n 0, 1, 0, 0, 0, 0, 0, 0, []),
  (78, .getfield 261, 3, 8, 23, 1112, 0, 0, 0, []),
  (81, .if_icmp .ge 46, 3, 127, 0, 0, 0, 0, 0, []),
  (84, .iload_n 2, 1, 2, 0, 0, 0, 0, 0, []),
  (85, .ifCond .eq 42, 3, 127, 0, 0, 0, 0, 0, []),
  (88, .aload_n 0, 1, 0, 0, 0, 0, 0, 0, []),
  (89, .getfield 39, 3, 8, 19, 1108, 2, 0, 0, []),
  (92, .iload_n 3, 1, 3, 0, 0, 0, 0, 0, []),
  (93, .iaload, 1, 0, 0, 0, 0, 0, 0, []),
  (94, .aload_n 0, 1, 0, 0, 0, 0, 0, 0, []),
  (95, .getfield 42, 3, 8, 21, 1110, 2, 0, 0, []),
  (98, .aload_n 0, 1, 0, 0, 0, 0, 0, 0, []),
  (99, .getfield 46, 3, 8, 22, 1111, 2, 0, 0, []),
  (102, .iload_n 1, 1, 1, 0, 0, 0, 0, 0, []),
  (103, .iaload, 1, 0, 0, 0, 0, 0, 0, []),
  (104, .iload_n 3, 1, 3, 0, 0, 0, 0, 0, []),
  (105, .iadd, 1, 0, 0, 0, 0, 0, 0, []),
  (106, .aload_n 0, 1, 0, 0, 0, 0, 0, 0, []),
  (107, .getfield 271, 3, 8, 24, 1113, 0, 0, 0, []),
  (110, .isub, 1, 0, 0, 0, 0, 0, 0, []),
  (111, .caload, 1, 0, 0, 0, 0, 0, 0, []),
  (112, .if_icmp .ne 7, 3, 119, 0, 0, 0, 0, 0, []),
  (115, .iconst 1, 1, 0, 0, 0, 0, 1, 0, []),
  (116, .goto 4, 3, 120, 0, 0, 0, 0, 0, []),
  (119, .iconst 0, 1, 0, 0, 0, 0, 0, 0, []),
  (120, .istore_n 2, 1, 2, 0, 0, 0, 0, 0, []),
  (121, .iinc 3 1, 3, 3, 0, 0, 0, 1, 0, []),
  (124, .goto (-48), 3, 76, 0, 0, 0, 0, 0, []),
  (127, .iload_n 2, 1, 2, 0, 0, 0, 0, 0, []),
  (128, .ifCond .eq 5, 3, 133, 0, 0, 0, 0, 0, []),
  (131, .iload_n 1, 1, 1, 0, 0, 0, 0, 0, []),
  (132, .ireturn, 1, 0, 0, 0, 0, 0, 0, []),
  (133, .iinc 1 1, 3, 1, 0, 0, 0, 1, 0, []),
  (136, .goto (-104), 3, 32, 0, 0, 0, 0, 0, []),
  (139, .bipush 23, 2, 0, 0, 0, 0, 23, 0, []),
  (141, .ireturn, 1, 0, 0, 0, 0, 0, 0, [])]
def M_X9_numberHere : MI := (yX9_numberHere, cX9_numberHere, 1, (some Jvm.ClassFile.FieldType.int), 0, 1, 25, false, 1489, 1488, 74, 95)
def k_X9_numberHere : List Ent := [(0, .aload_n 0, 1, 0, 0, 0, 0, 0, 0, []),
  (1, .iconst 0, 1, 0, 0, 0, 0, 0, 0, []),
  (2, .putfield 274, 3, 8, 26, 1115, 0, 0, 0, []),
  (5, .aload_n 0, 1, 0, 0, 0, 0, 0, 0, []),
  (6, .invokevirtual 264, 3, 208, 0, 1474, 8, 0, 0, []),
  (9, .i2l, 1, 0, 0, 0, 0, 0, 0, []),
  (10, .ldc2_w 277, 3, 0, 0, 1484, 0, 0, 48, []),
  (13, .ldc2_w 279, 3, 0, 0, 1485, 0, 0, 57, []),
  (16, .invokestatic 68, 3, 143, 3, 1201, 0, 0, 0, []),
  (19, .ifCond .eq 55, 3, 74, 0, 0, 0, 0, 0, []),
  (22, .aload_n 0, 1, 0, 0, 0, 0, 0, 0, []),
  (23, .aload_n 0, 1, 0, 0, 0, 0, 0, 0, []),
  (24, .getfield 261, 3, 8, 23, 1112, 0, 0, 0, []),
  (27, .aload_n 0, 1, 0, 0, 0, 0, 0, 0, []),
  (28, .getfield 271, 3, 8, 24, 1113, 0, 0, 0, []),
  (31, .isub, 1, 0, 0, 0, 0, 0, 0, []),
  (32, .iconst 4, 1, 0, 0, 0, 0, 4, 0, []),
  (33, .if_icmp .ge 21, 3, 54, 0, 0, 0, 0, 0, []),
  (36, .bipush 10, 2, 0, 0, 0, 0, 10, 0, []),
  (38, .aload_n 0, 1, 0, 0, 0, 0, 0, 0, []),
  (39, .getfield 274, 3, 8, 26, 1115, 0, 0, 0, []),
  (42, .imul, 1, 0, 0, 0, 0, 0, 0, []),
  (43, .aload_n 0, 1, 0, 0, 0, 0, 0, 0, []),
  (44, .invokevirtual 264, 3, 208, 0, 1474, 8, 0, 0, []),
  (47, .iadd, 1, 0, 0, 0, 0, 0, 0, []),
  (48, .bipush 48, 2, 0, 0, 0, 0, 48, 0, []),
  (50, .isub, 1, 0, 0, 0, 0, 0, 0, []),
  (51, .goto 7, 3, 58, 0, 0, 0, 0, 0, []),
  (54, .aload_n 0, 1, 0, 0, 0, 0, 0, 0, []),
  (55, .getfield 274, 3, 8, 26, 1115, 0, 0, 0, []),
  (58, .putfield 274, 3, 8, 26, 1115, 0, 0, 0, []),
  (61, .aload_n 0, 1, 0, 0, 0, 0, 0, 0, []),
  (62, .dup, 1, 0, 0, 0, 0, 0, 0, []),
  (63, .getfield 261, 3, 8, 23, 1112, 0, 0, 0, []),
  (66, .iconst 1, 1, 0, 0, 0, 0, 1, 0, []),
  (67, .iadd, 1, 0, 0, 0, 0, 0, 0, []),
  (68, .putfield 261, 3, 8, 23, 1112, 0, 0, 0, []),
  (71, .goto (-66), 3, 5, 0, 0, 0, 0, 0, []),
  (74, .aload_n 0, 1, 0, 0, 0, 0, 0, 0, []),
  (75, .getfield 261, 3, 8, 23, 1112, 0, 0, 0, []),
  (78, .aload_n 0, 1, 0, 0, 0, 0, 0, 0, []),
  (79, .getfield 271, 3, 8, 24, 1113, 0, 0, 0, []),
  (82, .isub, 1, 0, 0, 0, 0, 0, 0, []),
  (83, .iconst 4, 1, 0, 0, 0, 0, 4, 0, []),
  (84, .if_icmp .le 8, 3, 92, 0, 0, 0, 0, 0, []),
  (87, .bipush 23, 2, 0, 0, 0, 0, 23, 0, []),
  (89, .goto 5, 3, 94, 0, 0, 0, 0, 0, []),
  (92, .bipush 20, 2, 0, 0, 0, 0, 20, 0, []),
  (94, .ireturn, 1, 0, 0, 0, 0, 0, 0, [])]
def M_X9_next : MI := (yX9_next, cX9_next, 2, (none), 0, 2, 48, false, 1473, 1472, 71, 95)
def k_X9_next : List Ent := [(0, .aload_n 0, 1, 0, 0, 0, 0, 0, 0, []),
  (1, .invokevirtual 264, 3, 208, 0, 1474, 8, 0, 0, []),
  (4, .bipush 32, 2, 0, 0, 0, 0, 32, 0, []),
  (6, .if_icmp .ne 16, 3, 22, 0, 0, 0, 0, 0, []),
  (9, .aload_n 0, 1, 0, 0, 0, 0, 0, 0, []),
  (10, .dup, 1, 0, 0, 0, 0, 0, 0, []),
  (11, .getfield 261, 3, 8, 23, 1112, 0, 0, 0, []),
  (14, .iconst 1, 1, 0, 0, 0, 0, 1, 0, []),
  (15, .iadd, 1, 0, 0, 0, 0, 0, 0, []),
  (16, .putfield 261, 3, 8, 23, 1112, 0, 0, 0, []),
  (19, .goto (-19), 3, 0, 0, 0, 0, 0, 0, []),
  (22, .aload_n 0, 1, 0, 0, 0, 0, 0, 0, []),
  (23, .aload_n 0, 1, 0, 0, 0, 0, 0, 0, []),
  (24, .getfield 261, 3, 8, 23, 1112, 0, 0, 0, []),
  (27, .putfield 271, 3, 8, 24, 1113, 0, 0, 0, []),
  (30, .aload_n 0, 1, 0, 0, 0, 0, 0, 0, []),
  (31, .invokevirtual 264, 3, 208, 0, 1474, 8, 0, 0, []),
  (34, .istore_n 1, 1, 1, 0, 0, 0, 0, 0, []),
  (35, .iload_n 1, 1, 1, 0, 0, 0, 0, 0, []),
  (36, .i2l, 1, 0, 0, 0, 0, 0, 0, []),
  (37, .ldc2_w 267, 3, 0, 0, 1478, 0, 0, 97, []),
  (40, .ldc2_w 269, 3, 0, 0, 1479, 0, 0, 122, []),
  (43, .invokestatic 68, 3, 143, 3, 1201, 0, 0, 0, []),
  (46, .ifCond .eq 14, 3, 60, 0, 0, 0, 0, 0, []),
  (49, .aload_n 0, 1, 0, 0, 0, 0, 0, 0, []),
  (50, .aload_n 0, 1, 0, 0, 0, 0, 0, 0, []),
  (51, .invokevirtual 281, 3, 209, 0, 1480, 8, 0, 0, []),
  (54, .putfield 284, 3, 8, 25, 1114, 0, 0, 0, []),
  (57, .goto 69, 3, 126, 0, 0, 0, 0, 0, []),
  (60, .iload_n 1, 1, 1, 0, 0, 0, 0, 0, []),
  (61, .i2l, 1, 0, 0, 0, 0, 0, 0, []),
  (62, .ldc2_w 277, 3, 0, 0, 1484, 0, 0, 48, []),
  (65, .ldc2_w 279, 3, 0, 0, 1485, 0, 0, 57, []),
  (68, .invokestatic 68, 3, 143, 3, 1201, 0, 0, 0, []),
  (71, .ifCond .eq 14, 3, 85, 0, 0, 0, 0, 0, []),
  (74, .aload_n 0, 1, 0, 0, 0, 0, 0, 0, []),
  (75, .aload_n 0, 1, 0, 0, 0, 0, 0, 0, []),
  (76, .invokevirtual 287, 3, 210, 0, 1486, 8, 0, 0, []),
  (79, .putfield 284, 3, 8, 25, 1114, 0, 0, 0, []),
  (82, .goto 44, 3, 126, 0, 0, 0, 0, 0, []),
  (85, .iload_n 1, 1, 1, 0, 0, 0, 0, 0, []),
  (86, .bipush 59, 2, 0, 0, 0, 0, 59, 0, []),
  (88, .if_icmp .ne 22, 3, 110, 0, 0, 0, 0, 0, []),
  (91, .aload_n 0, 1, 0, 0, 0, 0, 0, 0, []),
  (92, .bipush 21, 2, 0, 0, 0, 0, 21, 0, []),
  (94, .putfield 284, 3, 8, 25, 1114, 0, 0, 0, []),
  (97, .aload_n 0, 1, 0, 0, 0, 0, 0, 0, []),
  (98, .dup, 1, 0, 0, 0, 0, 0, 0, []),
  (99, .getfield 261, 3, 8, 23, 1112, 0, 0, 0, []),
  (102, .iconst 1, 1, 0, 0, 0, 0, 1, 0, []),
  (103, .iadd, 1, 0, 0, 0, 0, 0, 0, []),
  (104, .putfield 261, 3, 8, 23, 1112, 0, 0, 0, []),
  (107, .goto 19, 3, 126, 0, 0, 0, 0, 0, []),
  (110, .aload_n 0, 1, 0, 0, 0, 0, 0, 0, []),
  (111, .iload_n 1, 1, 1, 0, 0, 0, 0, 0, []),
  (112, .iconst (-1), 1, 0, 0, 0, 0, -1, 0, []),
  (113, .if_icmp .ne 8, 3, 121, 0, 0, 0, 0, 0, []),
  (116, .bipush 22, 2, 0, 0, 0, 0, 22, 0, []),
  (118, .goto 5, 3, 123, 0, 0, 0, 0, 0, []),
  (121, .bipush 23, 2, 0, 0, 0, 0, 23, 0, []),
  (123, .putfield 284, 3, 8, 25, 1114, 0, 0, 0, []),
  (126, .return_, 1, 0, 0, 0, 0, 0, 0, [])]
def M_X9_takesNumber : MI := (yX9_takesNumber, cX9_takesNumber, 2, (some Jvm.ClassFile.FieldType.boolean), 1, 3, 69, false, 1506, 1505, 78, 95)
def k_X9_takesNumber : List Ent := [(0, .aload_n 0, 1, 0, 0, 0, 0, 0, 0, []),
  (1, .getfield 284, 3, 8, 25, 1114, 0, 0, 0, []),
  (4, .bipush 20, 2, 0, 0, 0, 0, 20, 0, []),
  (6, .if_icmp .eq 5, 3, 11, 0, 0, 0, 0, 0, []),
  (9, .iconst 0, 1, 0, 0, 0, 0, 0, 0, []),
  (10, .ireturn, 1, 1, 0, 0, 0, 0, 0, []),
  (11, .aload_n 0, 1, 0, 0, 0, 0, 0, 0, []),
  (12, .getfield 49, 3, 8, 28, 1117, 2, 0, 0, []),
  (15, .iload_n 1, 1, 1, 0, 0, 0, 0, 0, []),
  (16, .aload_n 0, 1, 0, 0, 0, 0, 0, 0, []),
  (17, .getfield 274, 3, 8, 26, 1115, 0, 0, 0, []),
  (20, .iastore, 1, 0, 0, 0, 0, 0, 0, []),
  (21, .aload_n 0, 1, 0, 0, 0, 0, 0, 0, []),
  (22, .invokevirtual 290, 3, 211, 0, 1470, 8, 0, 0, []),
  (25, .iconst 1, 1, 0, 0, 0, 0, 1, 0, []),
  (26, .ireturn, 1, 1, 0, 0, 0, 0, 0, [])]
def M_X9_takesNumbers : MI := (yX9_takesNumbers, cX9_takesNumbers, 4, (some Jvm.ClassFile.FieldType.boolean), 2, 4, 90, false, 1502, 1501, 77, 95)
def k_X9_takesNumbers : List Ent := [(0, .iload_n 1, 1, 1, 0, 0, 0, 0, 0, []),
  (1, .istore_n 3, 1, 3, 0, 0, 0, 0, 0, []),
  (2, .iload_n 3, 1, 3, 0, 0, 0, 0, 0, []),
  (3, .iload_n 1, 1, 1, 0, 0, 0, 0, 0, []),
  (4, .iload_n 2, 1, 2, 0, 0, 0, 0, 0, []),
  (5, .iadd, 1, 0, 0, 0, 0, 0, 0, []),
  (6, .if_icmp .ge 19, 3, 25, 0, 0, 0, 0, 0, []),
  (9, .aload_n 0, 1, 0, 0, 0, 0, 0, 0, []),
  (10, .iload_n 3, 1, 3, 0, 0, 0, 0, 0, []),
  (11, .invokevirtual 293, 3, 212, 1, 1503, 8, 0, 0, []),
  (14, .ifCond .ne 5, 3, 19, 0, 0, 0, 0, 0, []),
  (17, .iconst 0, 1, 0, 0, 0, 0, 0, 0, []),
  (18, .ireturn, 1, 1, 0, 0, 0, 0, 0, []),
  (19, .iinc 3 1, 3, 3, 0, 0, 0, 1, 0, []),
  (22, .goto (-20), 3, 2, 0, 0, 0, 0, 0, []),
  (25, .iconst 1, 1, 0, 0, 0, 0, 1, 0, []),
  (26, .ireturn, 1, 1, 0, 0, 0, 0, 0, [])]
def M_X9_takesHole : MI := (yX9_takesHole, cX9_takesHole, 1, (some Jvm.ClassFile.FieldType.boolean), 0, 5, 113, false, 1498, 1497, 76, 95)
def k_X9_takesHole : List Ent := [(0, .aload_n 0, 1, 0, 0, 0, 0, 0, 0, []),
  (1, .iconst 0, 1, 0, 0, 0, 0, 0, 0, []),
  (2, .iconst 2, 1, 0, 0, 0, 0, 2, 0, []),
  (3, .invokevirtual 296, 3, 213, 2, 1499, 8, 0, 0, []),
  (6, .ifCond .eq 11, 3, 17, 0, 0, 0, 0, 0, []),
  (9, .aload_n 0, 1, 0, 0, 0, 0, 0, 0, []),
  (10, .getfield 284, 3, 8, 25, 1114, 0, 0, 0, []),
  (13, .iconst 5, 1, 0, 0, 0, 0, 5, 0, []),
  (14, .if_icmp .le 5, 3, 19, 0, 0, 0, 0, 0, []),
  (17, .iconst 0, 1, 0, 0, 0, 0, 0, 0, []),
  (18, .ireturn, 1, 1, 0, 0, 0, 0, 0, []),
  (19, .aload_n 0, 1, 0, 0, 0, 0, 0, 0, []),
  (20, .getfield 49, 3, 8, 28, 1117, 2, 0, 0, []),
  (23, .iconst 2, 1, 0, 0, 0, 0, 2, 0, []),
  (24, .aload_n 0, 1, 0, 0, 0, 0, 0, 0, []),
  (25, .getfield 284, 3, 8, 25, 1114, 0, 0, 0, []),
  (28, .iastore, 1, 0, 0, 0, 0, 0, 0, []),
  (29, .aload_n 0, 1, 0, 0, 0, 0, 0, 0, []),
  (30, .invokevirtual 290, 3, 211, 0, 1470, 8, 0, 0, []),
  (33, .aload_n 0, 1, 0, 0, 0, 0, 0, 0, []),
  (34, .iconst 3, 1, 0, 0, 0, 0, 3, 0, []),
  (35, .iconst 3, 1, 0, 0, 0, 0, 3, 0, []),
  (36, .invokevirtual 296, 3, 213, 2, 1499, 8, 0, 0, []),
  (39, .ireturn, 1, 1, 0, 0, 0, 0, 0, [])]
def M_X9_takesWire : MI := (yX9_takesWire, cX9_takesWire, 1, (some Jvm.ClassFile.FieldType.boolean), 0, 5, 113, false, 1510, 1509, 79, 95)
def k_X9_takesWire : List Ent := [(0, .aload_n 0, 1, 0, 0, 0, 0, 0, 0, []),
  (1, .getfield 284, 3, 8, 25, 1114, 0, 0, 0, []),
  (4, .bipush 7, 2, 0, 0, 0, 0, 7, 0, []),
  (6, .if_icmp .ne 21, 3, 27, 0, 0, 0, 0, 0, []),
  (9, .aload_n 0, 1, 0, 0, 0, 0, 0, 0, []),
  (10, .getfield 49, 3, 8, 28, 1117, 2, 0, 0, []),
  (13, .iconst 0, 1, 0, 0, 0, 0, 0, 0, []),
  (14, .iconst (-1), 1, 0, 0, 0, 0, -1, 0, []),
  (15, .iastore, 1, 0, 0, 0, 0, 0, 0, []),
  (16, .aload_n 0, 1, 0, 0, 0, 0, 0, 0, []),
  (17, .invokevirtual 290, 3, 211, 0, 1470, 8, 0, 0, []),
  (20, .aload_n 0, 1, 0, 0, 0, 0, 0, 0, []),
  (21, .iconst 1, 1, 0, 0, 0, 0, 1, 0, []),
  (22, .iconst 2, 1, 0, 0, 0, 0, 2, 0, []),
  (23, .invokevirtual 296, 3, 213, 2, 1499, 8, 0, 0, []),
  (26, .ireturn, 1, 1, 0, 0, 0, 0, 0, []),
  (27, .aload_n 0, 1, 0, 0, 0, 0, 0, 0, []),
  (28, .iconst 0, 1, 0, 0, 0, 0, 0, 0, []),
  (29, .iconst 3, 1, 0, 0, 0, 0, 3, 0, []),
  (30, .invokevirtual 296, 3, 213, 2, 1499, 8, 0, 0, []),
  (33, .ireturn, 1, 1, 0, 0, 0, 0, 0, [])]
def M_X9_does : MI := (yX9_does, cX9_does, 2, (some Jvm.ClassFile.FieldType.boolean), 1, 3, 72, false, 1514, 1513, 80, 95)
def k_X9_does : List Ent := [(0, .iload_n 1, 1, 1, 0, 0, 0, 0, 0, []),
  (1, .lookupswitch 163 #[(0, 35), (6, 84), (11, 115)], 35, 164, 0, 0, 0, 0, 0, [(0, 36), (6, 85), (11, 116)]),
  (36, .aload_n 0, 1, 0, 0, 0, 0, 0, 0, []),
  (37, .aload_n 0, 1, 0, 0, 0, 0, 0, 0, []),
  (38, .getfield 49, 3, 8, 28, 1117, 2, 0, 0, []),
  (41, .iconst 0, 1, 0, 0, 0, 0, 0, 0, []),
  (42, .iaload, 1, 0, 0, 0, 0, 0, 0, []),
  (43, .aload_n 0, 1, 0, 0, 0, 0, 0, 0, []),
  (44, .getfield 49, 3, 8, 28, 1117, 2, 0, 0, []),
  (47, .iconst 1, 1, 0, 0, 0, 0, 1, 0, []),
  (48, .iaload, 1, 0, 0, 0, 0, 0, 0, []),
  (49, .aload_n 0, 1, 0, 0, 0, 0, 0, 0, []),
  (50, .getfield 49, 3, 8, 28, 1117, 2, 0, 0, []),
  (53, .iconst 2, 1, 0, 0, 0, 0, 2, 0, []),
  (54, .iaload, 1, 0, 0, 0, 0, 0, 0, []),
  (55, .aload_n 0, 1, 0, 0, 0, 0, 0, 0, []),
  (56, .getfield 49, 3, 8, 28, 1117, 2, 0, 0, []),
  (59, .iconst 3, 1, 0, 0, 0, 0, 3, 0, []),
  (60, .iaload, 1, 0, 0, 0, 0, 0, 0, []),
  (61, .aload_n 0, 1, 0, 0, 0, 0, 0, 0, []),
  (62, .getfield 49, 3, 8, 28, 1117, 2, 0, 0, []),
  (65, .iconst 4, 1, 0, 0, 0, 0, 4, 0, []),
  (66, .iaload, 1, 0, 0, 0, 0, 0, 0, []),
  (67, .aload_n 0, 1, 0, 0, 0, 0, 0, 0, []),
  (68, .getfield 49, 3, 8, 28, 1117, 2, 0, 0, []),
  (71, .iconst 5, 1, 0, 0, 0, 0, 5, 0, []),
  (72, .iaload, 1, 0, 0, 0, 0, 0, 0, []),
  (73, .invokevirtual 299, 3, 161, 6, 1515, 8, 0, 0, []),
  (76, .ifCond .lt 7, 3, 83, 0, 0, 0, 0, 0, []),
  (79, .iconst 1, 1, 0, 0, 0, 0, 1, 0, []),
  (80, .goto 4, 3, 84, 0, 0, 0, 0, 0, []),
  (83, .iconst 0, 1, 0, 0, 0, 0, 0, 0, []),
  (84, .ireturn, 1, 1, 0, 0, 0, 0, 0, []),
  (85, .aload_n 0, 1, 0, 0, 0, 0, 0, 0, []),
  (86, .aload_n 0, 1, 0, 0, 0, 0, 0, 0, []),
  (87, .getfield 49, 3, 8, 28, 1117, 2, 0, 0, []),
  (90, .iconst 0, 1, 0, 0, 0, 0, 0, 0, []),
  (91, .iaload, 1, 0, 0, 0, 0, 0, 0, []),
  (92, .aload_n 0, 1, 0, 0, 0, 0, 0, 0, []),
  (93, .getfield 49, 3, 8, 28, 1117, 2, 0, 0, []),
  (96, .iconst 1, 1, 0, 0, 0, 0, 1, 0, []),
  (97, .iaload, 1, 0, 0, 0, 0, 0, 0, []),
  (98, .aload_n 0, 1, 0, 0, 0, 0, 0, 0, []),
  (99, .getfield 49, 3, 8, 28, 1117, 2, 0, 0, []),
  (102, .iconst 2, 1, 0, 0, 0, 0, 2, 0, []),
  (103, .iaload, 1, 0, 0, 0, 0, 0, 0, []),
  (104, .invokevirtual 303, 3, 166, 3, 1516, 8, 0, 0, []),
  (107, .ifCond .lt 7, 3, 114, 0, 0, 0, 0, 0, []),
  (110, .iconst 1, 1, 0, 0, 0, 0, 1, 0, []),
  (111, .goto 4, 3, 115, 0, 0, 0, 0, 0, []),
  (114, .iconst 0, 1, 0, 0, 0, 0, 0, 0, []),
  (115, .ireturn, 1, 1, 0, 0, 0, 0, 0, []),
  (116, .aload_n 0, 1, 0, 0, 0, 0, 0, 0, []),
  (117, .aload_n 0, 1, 0, 0, 0, 0, 0, 0, []),
  (118, .getfield 49, 3, 8, 28, 1117, 2, 0, 0, []),
  (121, .iconst 0, 1, 0, 0, 0, 0, 0, 0, []),
  (122, .iaload, 1, 0, 0, 0, 0, 0, 0, []),
  (123, .invokevirtual 112, 3, 148, 1, 1227, 8, 0, 0, []),
  (126, .ifCond .eq 36, 3, 162, 0, 0, 0, 0, 0, []),
  (129, .aload_n 0, 1, 0, 0, 0, 0, 0, 0, []),
  (130, .aload_n 0, 1, 0, 0, 0, 0, 0, 0, []),
  (131, .getfield 49, 3, 8, 28, 1117, 2, 0, 0, []),
  (134, .iconst 0, 1, 0, 0, 0, 0, 0, 0, []),
  (135, .iaload, 1, 0, 0, 0, 0, 0, 0, []),
  (136, .invokevirtual 147, 3, 152, 1, 1318, 8, 0, 0, []),
  (139, .ifCond .ne 23, 3, 162, 0, 0, 0, 0, 0, []),
  (142, .aload_n 0, 1, 0, 0, 0, 0, 0, 0, []),
  (143, .aload_n 0, 1, 0, 0, 0, 0, 0, 0, []),
  (144, .getfield 49, 3, 8, 28, 1117, 2, 0, 0, []),
  (147, .iconst 0, 1, 0, 0, 0, 0, 0, 0, []),
  (148, .iaload, 1, 0, 0, 0, 0, 0, 0, []),
  (149, .bipush 6, 2, 0, 0, 0, 0, 6, 0, []),
  (151, .iconst 1, 1, 0, 0, 0, 0, 1, 0, []),
  (152, .invokevirtual 306, 3, 164, 3, 1517, 8, 0, 0, []),
  (155, .ifCond .lt 7, 3, 162, 0, 0, 0, 0, 0, []),
  (158, .iconst 1, 1, 0, 0, 0, 0, 1, 0, []),
  (159, .goto 4, 3, 163, 0, 0, 0, 0, 0, []),
  (162, .iconst 0, 1, 0, 0, 0, 0, 0, 0, []),
  (163, .ireturn, 1, 1, 0, 0, 0, 0, 0, []),
  (164, .aload_n 0, 1, 0, 0, 0, 0, 0, 0, []),
  (165, .iload_n 1, 1, 1, 0, 0, 0, 0, 0, []),
  (166, .bipush 8, 2, 0, 0, 0, 0, 8, 0, []),
  (168, .isub, 1, 0, 0, 0, 0, 0, 0, []),
  (169, .aload_n 0, 1, 0, 0, 0, 0, 0, 0, []),
  (170, .getfield 49, 3, 8, 28, 1117, 2, 0, 0, []),
  (173, .iconst 0, 1, 0, 0, 0, 0, 0, 0, []),
  (174, .iaload, 1, 0, 0, 0, 0, 0, 0, []),
  (175, .invokevirtual 309, 3, 169, 2, 1518, 8, 0, 0, []),
  (178, .ifCond .lt 7, 3, 185, 0, 0, 0, 0, 0, []),
  (181, .iconst 1, 1, 0, 0, 0, 0, 1, 0, []),
  (182, .goto 4, 3, 186, 0, 0, 0, 0, 0, []),
  (185, .iconst 0, 1, 0, 0, 0, 0, 0, 0, []),
  (186, .ireturn, 1, 1, 0, 0, 0, 0, 0, [])]
def M_X9_takesStatement : MI := (yX9_takesStatement, cX9_takesStatement, 5, (some Jvm.ClassFile.FieldType.boolean), 0, 6, 133, false, 1493, 1492, 75, 95)
def k_X9_takesStatement : List Ent := [(0, .aload_n 0, 1, 0, 0, 0, 0, 0, 0, []),
  (1, .getfield 271, 3, 8, 24, 1113, 0, 0, 0, []),
  (4, .istore_n 1, 1, 1, 0, 0, 0, 0, 0, []),
  (5, .aload_n 0, 1, 0, 0, 0, 0, 0, 0, []),
  (6, .getfield 284, 3, 8, 25, 1114, 0, 0, 0, []),
  (9, .istore_n 2, 1, 2, 0, 0, 0, 0, 0, []),
  (10, .iload_n 2, 1, 2, 0, 0, 0, 0, 0, []),
  (11, .ifCond .eq 23, 3, 34, 0, 0, 0, 0, 0, []),
  (14, .iload_n 2, 1, 2, 0, 0, 0, 0, 0, []),
  (15, .bipush 6, 2, 0, 0, 0, 0, 6, 0, []),
  (17, .if_icmp .eq 17, 3, 34, 0, 0, 0, 0, 0, []),
  (20, .iload_n 2, 1, 2, 0, 0, 0, 0, 0, []),
  (21, .i2l, 1, 0, 0, 0, 0, 0, 0, []),
  (22, .ldc2_w 312, 3, 0, 0, 1494, 0, 0, 8, []),
  (25, .ldc2_w 116, 3, 0, 0, 1231, 0, 0, 11, []),
  (28, .invokestatic 68, 3, 143, 3, 1201, 0, 0, 0, []),
  (31, .ifCond .eq 7, 3, 38, 0, 0, 0, 0, 0, []),
  (34, .iconst 1, 1, 0, 0, 0, 0, 1, 0, []),
  (35, .goto 4, 3, 39, 0, 0, 0, 0, 0, []),
  (38, .iconst 0, 1, 0, 0, 0, 0, 0, 0, []),
  (39, .istore_n 3, 1, 3, 0, 0, 0, 0, 0, []),
  (40, .iload_n 3, 1, 3, 0, 0, 0, 0, 0, []),
  (41, .ifCond .ne 5, 3, 46, 0, 0, 0, 0, 0, []),
  (44, .iconst 0, 1, 0, 0, 0, 0, 0, 0, []),
  (45, .ireturn, 1, 1, 0, 0, 0, 0, 0, []),
  (46, .aload_n 0, 1, 0, 0, 0, 0, 0, 0, []),
  (47, .invokevirtual 290, 3, 211, 0, 1470, 8, 0, 0, []),
  (50, .iload_n 2, 1, 2, 0, 0, 0, 0, 0, []),
  (51, .ifCond .ne 10, 3, 61, 0, 0, 0, 0, 0, []),
  (54, .aload_n 0, 1, 0, 0, 0, 0, 0, 0, []),
  (55, .invokevirtual 314, 3, 214, 0, 1495, 8, 0, 0, []),
  (58, .goto 21, 3, 79, 0, 0, 0, 0, 0, []),
  (61, .iload_n 2, 1, 2, 0, 0, 0, 0, 0, []),
  (62, .bipush 6, 2, 0, 0, 0, 0, 6, 0, []),
  (64, .if_icmp .ne 10, 3, 74, 0, 0, 0, 0, 0, []),
  (67, .aload_n 0, 1, 0, 0, 0, 0, 0, 0, []),
  (68, .invokevirtual 318, 3, 215, 0, 1507, 8, 0, 0, []),
  (71, .goto 8, 3, 79, 0, 0, 0, 0, 0, []),
  (74, .aload_n 0, 1, 0, 0, 0, 0, 0, 0, []),
  (75, .iconst 0, 1, 0, 0, 0, 0, 0, 0, []),
  (76, .invokevirtual 293, 3, 212, 1, 1503, 8, 0, 0, []),
  (79, .istore 4, 2, 4, 0, 0, 0, 0, 0, []),
  (81, .iload 4, 2, 4, 0, 0, 0, 0, 0, []),
  (83, .ifCond .eq 23, 3, 106, 0, 0, 0, 0, 0, []),
  (86, .aload_n 0, 1, 0, 0, 0, 0, 0, 0, []),
  (87, .getfield 321, 3, 8, 27, 1116, 0, 0, 0, []),
  (90, .ifCond .ge 16, 3, 106, 0, 0, 0, 0, 0, []),
  (93, .aload_n 0, 1, 0, 0, 0, 0, 0, 0, []),
  (94, .iload_n 2, 1, 2, 0, 0, 0, 0, 0, []),
  (95, .invokevirtual 324, 3, 216, 1, 1511, 8, 0, 0, []),
  (98, .ifCond .ne 8, 3, 106, 0, 0, 0, 0, 0, []),
  (101, .aload_n 0, 1, 0, 0, 0, 0, 0, 0, []),
  (102, .iload_n 1, 1, 1, 0, 0, 0, 0, 0, []),
  (103, .putfield 321, 3, 8, 27, 1116, 0, 0, 0, []),
  (106, .iload 4, 2, 4, 0, 0, 0, 0, 0, []),
  (108, .ireturn, 1, 1, 0, 0, 0, 0, 0, [])]
def M_X9_read : MI := (yX9_read, cX9_read, 3, (some Jvm.ClassFile.FieldType.int), 0, 7, 157, false, 1469, 1467, 1468, 95)
def k_X9_read : List Ent := [(0, .aload_n 0, 1, 0, 0, 0, 0, 0, 0, []),
  (1, .getfield 11, 3, 8, 0, 1089, 2, 0, 0, []),
  (4, .aload_n 0, 1, 0, 0, 0, 0, 0, 0, []),
  (5, .getfield 18, 3, 8, 2, 1091, 2, 0, 0, []),
  (8, .invokestatic 220, 3, 146, 2, 1411, 0, 0, 0, []),
  (11, .aload_n 0, 1, 0, 0, 0, 0, 0, 0, []),
  (12, .iconst 0, 1, 0, 0, 0, 0, 0, 0, []),
  (13, .putfield 261, 3, 8, 23, 1112, 0, 0, 0, []),
  (16, .aload_n 0, 1, 0, 0, 0, 0, 0, 0, []),
  (17, .iconst (-1), 1, 0, 0, 0, 0, -1, 0, []),
  (18, .putfield 321, 3, 8, 27, 1116, 0, 0, 0, []),
  (21, .iconst 0, 1, 0, 0, 0, 0, 0, 0, []),
  (22, .istore_n 1, 1, 1, 0, 0, 0, 0, 0, []),
  (23, .aload_n 0, 1, 0, 0, 0, 0, 0, 0, []),
  (24, .invokevirtual 290, 3, 211, 0, 1470, 8, 0, 0, []),
  (27, .aload_n 0, 1, 0, 0, 0, 0, 0, 0, []),
  (28, .invokevirtual 327, 3, 217, 0, 1490, 8, 0, 0, []),
  (31, .istore_n 2, 1, 2, 0, 0, 0, 0, 0, []),
  (32, .iload_n 2, 1, 2, 0, 0, 0, 0, 0, []),
  (33, .ifCond .eq 27, 3, 60, 0, 0, 0, 0, 0, []),
  (36, .aload_n 0, 1, 0, 0, 0, 0, 0, 0, []),
  (37, .getfield 284, 3, 8, 25, 1114, 0, 0, 0, []),
  (40, .bipush 21, 2, 0, 0, 0, 0, 21, 0, []),
  (42, .if_icmp .ne 18, 3, 60, 0, 0, 0, 0, 0, []),
  (45, .iinc 1 1, 3, 1, 0, 0, 0, 1, 0, []),
  (48, .aload_n 0, 1, 0, 0, 0, 0, 0, 0, []),
  (49, .invokevirtual 290, 3, 211, 0, 1470, 8, 0, 0, []),
  (52, .aload_n 0, 1, 0, 0, 0, 0, 0, 0, []),
  (53, .invokevirtual 327, 3, 217, 0, 1490, 8, 0, 0, []),
  (56, .istore_n 2, 1, 2, 0, 0, 0, 0, 0, []),
  (57, .goto (-25), 3, 32, 0, 0, 0, 0, 0, []),
  (60, .aload_n 0, 1, 0, 0, 0, 0, 0, 0, []),
  (61, .iconst 0, 1, 0, 0, 0, 0, 0, 0, []),
  (62, .putfield 258, 3, 8, 20, 1109, 0, 0, 0, []),
  (65, .iload_n 2, 1, 2, 0, 0, 0, 0, 0, []),
  (66, .ifCond .eq 42, 3, 108, 0, 0, 0, 0, 0, []),
  (69, .aload_n 0, 1, 0, 0, 0, 0, 0, 0, []),
  (70, .getfield 284, 3, 8, 25, 1114, 0, 0, 0, []),
  (73, .bipush 22, 2, 0, 0, 0, 0, 22, 0, []),
  (75, .if_icmp .ne 33, 3, 108, 0, 0, 0, 0, 0, []),
  (78, .aload_n 0, 1, 0, 0, 0, 0, 0, 0, []),
  (79, .getfield 321, 3, 8, 27, 1116, 0, 0, 0, []),
  (82, .ifCond .ge 26, 3, 108, 0, 0, 0, 0, 0, []),
  (85, .aload_n 0, 1, 0, 0, 0, 0, 0, 0, []),
  (86, .dup, 1, 0, 0, 0, 0, 0, 0, []),
  (87, .getfield 330, 3, 8, 4, 1093, 0, 0, 0, []),
  (90, .iconst 1, 1, 0, 0, 0, 0, 1, 0, []),
  (91, .iadd, 1, 0, 0, 0, 0, 0, 0, []),
  (92, .putfield 330, 3, 8, 4, 1093, 0, 0, 0, []),
  (95, .aload_n 0, 1, 0, 0, 0, 0, 0, 0, []),
  (96, .getfield 11, 3, 8, 0, 1089, 2, 0, 0, []),
  (99, .sipush 285, 3, 0, 0, 0, 0, 285, 0, []),
  (102, .iconst 0, 1, 0, 0, 0, 0, 0, 0, []),
  (103, .iastore, 1, 0, 0, 0, 0, 0, 0, []),
  (104, .iload_n 1, 1, 1, 0, 0, 0, 0, 0, []),
  (105, .iconst 1, 1, 0, 0, 0, 0, 1, 0, []),
  (106, .iadd, 1, 0, 0, 0, 0, 0, 0, []),
  (107, .ireturn, 1, 0, 0, 0, 0, 0, 0, []),
  (108, .aload_n 0, 1, 0, 0, 0, 0, 0, 0, []),
  (109, .getfield 18, 3, 8, 2, 1091, 2, 0, 0, []),
  (112, .aload_n 0, 1, 0, 0, 0, 0, 0, 0, []),
  (113, .getfield 11, 3, 8, 0, 1089, 2, 0, 0, []),
  (116, .invokestatic 220, 3, 146, 2, 1411, 0, 0, 0, []),
  (119, .iload_n 2, 1, 2, 0, 0, 0, 0, 0, []),
  (120, .ifCond .eq 23, 3, 143, 0, 0, 0, 0, 0, []),
  (123, .aload_n 0, 1, 0, 0, 0, 0, 0, 0, []),
  (124, .getfield 284, 3, 8, 25, 1114, 0, 0, 0, []),
  (127, .bipush 22, 2, 0, 0, 0, 0, 22, 0, []),
  (129, .if_icmp .ne 14, 3, 143, 0, 0, 0, 0, 0, []),
  (132, .sipush (-300), 3, 0, 0, 0, 0, -300, 0, []),
  (135, .aload_n 0, 1, 0, 0, 0, 0, 0, 0, []),
  (136, .getfield 321, 3, 8, 27, 1116, 0, 0, 0, []),
  (139, .isub, 1, 0, 0, 0, 0, 0, 0, []),
  (140, .goto 10, 3, 150, 0, 0, 0, 0, 0, []),
  (143, .bipush (-100), 2, 0, 0, 0, 0, -100, 0, []),
  (145, .aload_n 0, 1, 0, 0, 0, 0, 0, 0, []),
  (146, .getfield 271, 3, 8, 24, 1113, 0, 0, 0, []),
  (149, .isub, 1, 0, 0, 0, 0, 0, 0, []),
  (150, .ireturn, 1, 0, 0, 0, 0, 0, 0, [])]
def M_X9_sign : MI := (yX9_sign, cX9_sign, 2, (none), 1, 0, 0, false, 1526, 1525, 81, 95)
def k_X9_sign : List Ent := [(0, .aload_n 0, 1, 0, 0, 0, 0, 0, 0, []),
  (1, .getfield 52, 3, 8, 29, 1118, 2, 0, 0, []),
  (4, .aload_n 0, 1, 0, 0, 0, 0, 0, 0, []),
  (5, .getfield 333, 3, 8, 30, 1119, 0, 0, 0, []),
  (8, .iload_n 1, 1, 1, 0, 0, 0, 0, 0, []),
  (9, .iastore, 1, 0, 0, 0, 0, 0, 0, []),
  (10, .aload_n 0, 1, 0, 0, 0, 0, 0, 0, []),
  (11, .dup, 1, 0, 0, 0, 0, 0, 0, []),
  (12, .getfield 333, 3, 8, 30, 1119, 0, 0, 0, []),
  (15, .iconst 1, 1, 0, 0, 0, 0, 1, 0, []),
  (16, .iadd, 1, 0, 0, 0, 0, 0, 0, []),
  (17, .putfield 333, 3, 8, 30, 1119, 0, 0, 0, []),
  (20, .return_, 1, 0, 0, 0, 0, 0, 0, [])]
def M_X9_spells : MI := (yX9_spells, cX9_spells, 3, (none), 1, 1, 21, false, 1530, 1529, 82, 95)
def k_X9_spells : List Ent := [(0, .aload_n 0, 1, 0, 0, 0, 0, 0, 0, []),
  (1, .getfield 46, 3, 8, 22, 1111, 2, 0, 0, []),
  (4, .iload_n 1, 1, 1, 0, 0, 0, 0, 0, []),
  (5, .iaload, 1, 0, 0, 0, 0, 0, 0, []),
  (6, .istore_n 2, 1, 2, 0, 0, 0, 0, 0, []),
  (7, .iload_n 2, 1, 2, 0, 0, 0, 0, 0, []),
  (8, .aload_n 0, 1, 0, 0, 0, 0, 0, 0, []),
  (9, .getfield 46, 3, 8, 22, 1111, 2, 0, 0, []),
  (12, .iload_n 1, 1, 1, 0, 0, 0, 0, 0, []),
  (13, .iconst 1, 1, 0, 0, 0, 0, 1, 0, []),
  (14, .iadd, 1, 0, 0, 0, 0, 0, 0, []),
  (15, .iaload, 1, 0, 0, 0, 0, 0, 0, []),
  (16, .if_icmp .ge 19, 3, 35, 0, 0, 0, 0, 0, []),
  (19, .aload_n 0, 1, 0, 0, 0, 0, 0, 0, []),
  (20, .aload_n 0, 1, 0, 0, 0, 0, 0, 0, []),
  (21, .getfield 42, 3, 8, 21, 1110, 2, 0, 0, []),
  (24, .iload_n 2, 1, 2, 0, 0, 0, 0, 0, []),
  (25, .caload, 1, 0, 0, 0, 0, 0, 0, []),
  (26, .invokevirtual 336, 3, 219, 1, 1523, 8, 0, 0, []),
  (29, .iinc 2 1, 3, 2, 0, 0, 0, 1, 0, []),
  (32, .goto (-25), 3, 7, 0, 0, 0, 0, 0, []),
  (35, .return_, 1, 0, 0, 0, 0, 0, 0, [])]
def M_X9_number : MI := (yX9_number, cX9_number, 3, (none), 1, 1, 21, false, 1534, 1533, 83, 95)
def k_X9_number : List Ent := [(0, .aload_n 0, 1, 0, 0, 0, 0, 0, 0, []),
  (1, .bipush 32, 2, 0, 0, 0, 0, 32, 0, []),
  (3, .invokevirtual 336, 3, 219, 1, 1523, 8, 0, 0, []),
  (6, .iconst 1, 1, 0, 0, 0, 0, 1, 0, []),
  (7, .istore_n 2, 1, 2, 0, 0, 0, 0, 0, []),
  (8, .iload_n 2, 1, 2, 0, 0, 0, 0, 0, []),
  (9, .bipush 10, 2, 0, 0, 0, 0, 10, 0, []),
  (11, .imul, 1, 0, 0, 0, 0, 0, 0, []),
  (12, .iload_n 1, 1, 1, 0, 0, 0, 0, 0, []),
  (13, .if_icmp .gt 11, 3, 24, 0, 0, 0, 0, 0, []),
  (16, .iload_n 2, 1, 2, 0, 0, 0, 0, 0, []),
  (17, .bipush 10, 2, 0, 0, 0, 0, 10, 0, []),
  (19, .imul, 1, 0, 0, 0, 0, 0, 0, []),
  (20, .istore_n 2, 1, 2, 0, 0, 0, 0, 0, []),
  (21, .goto (-13), 3, 8, 0, 0, 0, 0, 0, []),
  (24, .iload_n 2, 1, 2, 0, 0, 0, 0, 0, []),
  (25, .ifCond .le 24, 3, 49, 0, 0, 0, 0, 0, []),
  (28, .aload_n 0, 1, 0, 0, 0, 0, 0, 0, []),
  (29, .bipush 48, 2, 0, 0, 0, 0, 48, 0, []),
  (31, .iload_n 1, 1, 1, 0, 0, 0, 0, 0, []),
  (32, .iload_n 2, 1, 2, 0, 0, 0, 0, 0, []),
  (33, .idiv, 1, 0, 0, 0, 0, 0, 0, []),
  (34, .bipush 10, 2, 0, 0, 0, 0, 10, 0, []),
  (36, .irem, 1, 0, 0, 0, 0, 0, 0, []),
  (37, .iadd, 1, 0, 0, 0, 0, 0, 0, []),
  (38, .invokevirtual 336, 3, 219, 1, 1523, 8, 0, 0, []),
  (41, .iload_n 2, 1, 2, 0, 0, 0, 0, 0, []),
  (42, .bipush 10, 2, 0, 0, 0, 0, 10, 0, []),
  (44, .idiv, 1, 0, 0, 0, 0, 0, 0, []),
  (45, .istore_n 2, 1, 2, 0, 0, 0, 0, 0, []),
  (46, .goto (-22), 3, 24, 0, 0, 0, 0, 0, []),
  (49, .return_, 1, 0, 0, 0, 0, 0, 0, [])]
def M_X9_spell : MI := (yX9_spell, cX9_spell, 2, (some Jvm.ClassFile.FieldType.int), 0, 2, 43, false, 1522, 1520, 1521, 95)
def k_X9_spell : List Ent := [(0, .aload_n 0, 1, 0, 0, 0, 0, 0, 0, []),
  (1, .iconst 0, 1, 0, 0, 0, 0, 0, 0, []),
  (2, .putfield 333, 3, 8, 30, 1119, 0, 0, 0, []),
  (5, .iconst 0, 1, 0, 0, 0, 0, 0, 0, []),
  (6, .istore_n 1, 1, 1, 0, 0, 0, 0, 0, []),
  (7, .iload_n 1, 1, 1, 0, 0, 0, 0, 0, []),
  (8, .aload_n 0, 1, 0, 0, 0, 0, 0, 0, []),
  (9, .getfield 11, 3, 8, 0, 1089, 2, 0, 0, []),
  (12, .sipush 280, 3, 0, 0, 0, 0, 280, 0, []),
  (15, .iaload, 1, 0, 0, 0, 0, 0, 0, []),
  (16, .if_icmp .ge 90, 3, 106, 0, 0, 0, 0, 0, []),
  (19, .iload_n 1, 1, 1, 0, 0, 0, 0, 0, []),
  (20, .ifCond .le 9, 3, 29, 0, 0, 0, 0, 0, []),
  (23, .aload_n 0, 1, 0, 0, 0, 0, 0, 0, []),
  (24, .bipush 59, 2, 0, 0, 0, 0, 59, 0, []),
  (26, .invokevirtual 336, 3, 219, 1, 1523, 8, 0, 0, []),
  (29, .aload_n 0, 1, 0, 0, 0, 0, 0, 0, []),
  (30, .iconst 0, 1, 0, 0, 0, 0, 0, 0, []),
  (31, .invokevirtual 339, 3, 220, 1, 1527, 8, 0, 0, []),
  (34, .aload_n 0, 1, 0, 0, 0, 0, 0, 0, []),
  (35, .aload_n 0, 1, 0, 0, 0, 0, 0, 0, []),
  (36, .iload_n 1, 1, 1, 0, 0, 0, 0, 0, []),
  (37, .iconst 0, 1, 0, 0, 0, 0, 0, 0, []),
  (38, .invokevirtual 72, 3, 150, 2, 1213, 8, 0, 0, []),
  (41, .invokevirtual 342, 3, 221, 1, 1531, 8, 0, 0, []),
  (44, .aload_n 0, 1, 0, 0, 0, 0, 0, 0, []),
  (45, .aload_n 0, 1, 0, 0, 0, 0, 0, 0, []),
  (46, .iload_n 1, 1, 1, 0, 0, 0, 0, 0, []),
  (47, .iconst 1, 1, 0, 0, 0, 0, 1, 0, []),
  (48, .invokevirtual 72, 3, 150, 2, 1213, 8, 0, 0, []),
  (51, .invokevirtual 342, 3, 221, 1, 1531, 8, 0, 0, []),
  (54, .aload_n 0, 1, 0, 0, 0, 0, 0, 0, []),
  (55, .bipush 32, 2, 0, 0, 0, 0, 32, 0, []),
  (57, .invokevirtual 336, 3, 219, 1, 1523, 8, 0, 0, []),
  (60, .aload_n 0, 1, 0, 0, 0, 0, 0, 0, []),
  (61, .aload_n 0, 1, 0, 0, 0, 0, 0, 0, []),
  (62, .iload_n 1, 1, 1, 0, 0, 0, 0, 0, []),
  (63, .iconst 2, 1, 0, 0, 0, 0, 2, 0, []),
  (64, .invokevirtual 72, 3, 150, 2, 1213, 8, 0, 0, []),
  (67, .invokevirtual 339, 3, 220, 1, 1527, 8, 0, 0, []),
  (70, .aload_n 0, 1, 0, 0, 0, 0, 0, 0, []),
  (71, .aload_n 0, 1, 0, 0, 0, 0, 0, 0, []),
  (72, .iload_n 1, 1, 1, 0, 0, 0, 0, 0, []),
  (73, .iconst 3, 1, 0, 0, 0, 0, 3, 0, []),
  (74, .invokevirtual 72, 3, 150, 2, 1213, 8, 0, 0, []),
  (77, .invokevirtual 342, 3, 221, 1, 1531, 8, 0, 0, []),
  (80, .aload_n 0, 1, 0, 0, 0, 0, 0, 0, []),
  (81, .aload_n 0, 1, 0, 0, 0, 0, 0, 0, []),
  (82, .iload_n 1, 1, 1, 0, 0, 0, 0, 0, []),
  (83, .iconst 4, 1, 0, 0, 0, 0, 4, 0, []),
  (84, .invokevirtual 72, 3, 150, 2, 1213, 8, 0, 0, []),
  (87, .invokevirtual 342, 3, 221, 1, 1531, 8, 0, 0, []),
  (90, .aload_n 0, 1, 0, 0, 0, 0, 0, 0, []),
  (91, .aload_n 0, 1, 0, 0, 0, 0, 0, 0, []),
  (92, .iload_n 1, 1, 1, 0, 0, 0, 0, 0, []),
  (93, .iconst 5, 1, 0, 0, 0, 0, 5, 0, []),
  (94, .invokevirtual 72, 3, 150, 2, 1213, 8, 0, 0, []),
  (97, .invokevirtual 342, 3, 221, 1, 1531, 8, 0, 0, []),
  (100, .iinc 1 1, 3, 1, 0, 0, 0, 1, 0, []),
  (103, .goto (-96), 3, 7, 0, 0, 0, 0, 0, []),
  (106, .iconst 0, 1, 0, 0, 0, 0, 0, 0, []),
  (107, .istore_n 1, 1, 1, 0, 0, 0, 0, 0, []),
  (108, .iload_n 1, 1, 1, 0, 0, 0, 0, 0, []),
  (109, .aload_n 0, 1, 0, 0, 0, 0, 0, 0, []),
  (110, .getfield 11, 3, 8, 0, 1089, 2, 0, 0, []),
  (113, .sipush 281, 3, 0, 0, 0, 0, 281, 0, []),
  (116, .iaload, 1, 0, 0, 0, 0, 0, 0, []),
  (117, .if_icmp .ge 82, 3, 199, 0, 0, 0, 0, 0, []),
  (120, .aload_n 0, 1, 0, 0, 0, 0, 0, 0, []),
  (121, .getfield 333, 3, 8, 30, 1119, 0, 0, 0, []),
  (124, .ifCond .le 9, 3, 133, 0, 0, 0, 0, 0, []),
  (127, .aload_n 0, 1, 0, 0, 0, 0, 0, 0, []),
  (128, .bipush 59, 2, 0, 0, 0, 0, 59, 0, []),
  (130, .invokevirtual 336, 3, 219, 1, 1523, 8, 0, 0, []),
  (133, .aload_n 0, 1, 0, 0, 0, 0, 0, 0, []),
  (134, .bipush 6, 2, 0, 0, 0, 0, 6, 0, []),
  (136, .invokevirtual 339, 3, 220, 1, 1527, 8, 0, 0, []),
  (139, .aload_n 0, 1, 0, 0, 0, 0, 0, 0, []),
  (140, .iload_n 1, 1, 1, 0, 0, 0, 0, 0, []),
  (141, .iconst 0, 1, 0, 0, 0, 0, 0, 0, []),
  (142, .invokevirtual 143, 3, 151, 2, 1297, 8, 0, 0, []),
  (145, .ifCond .ge 18, 3, 163, 0, 0, 0, 0, 0, []),
  (148, .aload_n 0, 1, 0, 0, 0, 0, 0, 0, []),
  (149, .bipush 32, 2, 0, 0, 0, 0, 32, 0, []),
  (151, .invokevirtual 336, 3, 219, 1, 1523, 8, 0, 0, []),
  (154, .aload_n 0, 1, 0, 0, 0, 0, 0, 0, []),
  (155, .bipush 7, 2, 0, 0, 0, 0, 7, 0, []),
  (157, .invokevirtual 339, 3, 220, 1, 1527, 8, 0, 0, []),
  (160, .goto 13, 3, 173, 0, 0, 0, 0, 0, []),
  (163, .aload_n 0, 1, 0, 0, 0, 0, 0, 0, []),
  (164, .aload_n 0, 1, 0, 0, 0, 0, 0, 0, []),
  (165, .iload_n 1, 1, 1, 0, 0, 0, 0, 0, []),
  (166, .iconst 0, 1, 0, 0, 0, 0, 0, 0, []),
  (167, .invokevirtual 143, 3, 151, 2, 1297, 8, 0, 0, []),
  (170, .invokevirtual 342, 3, 221, 1, 1531, 8, 0, 0, []),
  (173, .aload_n 0, 1, 0, 0, 0, 0, 0, 0, []),
  (174, .aload_n 0, 1, 0, 0, 0, 0, 0, 0, []),
  (175, .iload_n 1, 1, 1, 0, 0, 0, 0, 0, []),
  (176, .iconst 1, 1, 0, 0, 0, 0, 1, 0, []),
  (177, .invokevirtual 143, 3, 151, 2, 1297, 8, 0, 0, []),
  (180, .invokevirtual 342, 3, 221, 1, 1531, 8, 0, 0, []),
  (183, .aload_n 0, 1, 0, 0, 0, 0, 0, 0, []),
  (184, .aload_n 0, 1, 0, 0, 0, 0, 0, 0, []),
  (185, .iload_n 1, 1, 1, 0, 0, 0, 0, 0, []),
  (186, .iconst 2, 1, 0, 0, 0, 0, 2, 0, []),
  (187, .invokevirtual 143, 3, 151, 2, 1297, 8, 0, 0, []),
  (190, .invokevirtual 342, 3, 221, 1, 1531, 8, 0, 0, []),
  (193, .iinc 1 1, 3, 1, 0, 0, 0, 1, 0, []),
  (196, .goto (-88), 3, 108, 0, 0, 0, 0, 0, []),
  (199, .aload_n 0, 1, 0, 0, 0, 0, 0, 0, []),
  (200, .getfield 333, 3, 8, 30, 1119, 0, 0, 0, []),
  (203, .ireturn, 1, 0, 0, 0, 0, 0, 0, [])]
def M_X9_paper : MI := (yX9_paper, cX9_paper, 2, (some Jvm.ClassFile.FieldType.int), 1, 3, 64, false, 1538, 1536, 1537, 95)
def k_X9_paper : List Ent := [(0, .iload_n 1, 1, 1, 0, 0, 0, 0, 0, []),
  (1, .ifCond .lt 20, 3, 21, 0, 0, 0, 0, 0, []),
  (4, .iload_n 1, 1, 1, 0, 0, 0, 0, 0, []),
  (5, .aload_n 0, 1, 0, 0, 0, 0, 0, 0, []),
  (6, .invokevirtual 344, 3, 222, 0, 1539, 8, 0, 0, []),
  (9, .if_icmp .ge 12, 3, 21, 0, 0, 0, 0, 0, []),
  (12, .aload_n 0, 1, 0, 0, 0, 0, 0, 0, []),
  (13, .getfield 52, 3, 8, 29, 1118, 2, 0, 0, []),
  (16, .iload_n 1, 1, 1, 0, 0, 0, 0, 0, []),
  (17, .iaload, 1, 0, 0, 0, 0, 0, 0, []),
  (18, .goto 4, 3, 22, 0, 0, 0, 0, 0, []),
  (21, .iconst (-1), 1, 0, 0, 0, 0, -1, 0, []),
  (22, .ireturn, 1, 0, 0, 0, 0, 0, 0, [])]
def M_X9_step : MI := (yX9_step, cX9_step, 1, (some Jvm.ClassFile.FieldType.int), 0, 6, 129, false, 1543, 1541, 1542, 95)
def k_X9_step : List Ent := [(0, .aload_n 0, 1, 0, 0, 0, 0, 0, 0, []),
  (1, .invokevirtual 197, 3, 186, 0, 1347, 8, 0, 0, []),
  (4, .aload_n 0, 1, 0, 0, 0, 0, 0, 0, []),
  (5, .getfield 11, 3, 8, 0, 1089, 2, 0, 0, []),
  (8, .sipush 285, 3, 0, 0, 0, 0, 285, 0, []),
  (11, .iaload, 1, 0, 0, 0, 0, 0, 0, []),
  (12, .aload_n 0, 1, 0, 0, 0, 0, 0, 0, []),
  (13, .getfield 180, 3, 8, 12, 1101, 0, 0, 0, []),
  (16, .if_icmp .lt 6, 3, 22, 0, 0, 0, 0, 0, []),
  (19, .bipush (-3), 2, 0, 0, 0, 0, -3, 0, []),
  (21, .ireturn, 1, 0, 0, 0, 0, 0, 0, []),
  (22, .aload_n 0, 1, 0, 0, 0, 0, 0, 0, []),
  (23, .getfield 11, 3, 8, 0, 1089, 2, 0, 0, []),
  (26, .sipush 285, 3, 0, 0, 0, 0, 285, 0, []),
  (29, .dup2, 1, 0, 0, 0, 0, 0, 0, []),
  (30, .iaload, 1, 0, 0, 0, 0, 0, 0, []),
  (31, .iconst 1, 1, 0, 0, 0, 0, 1, 0, []),
  (32, .iadd, 1, 0, 0, 0, 0, 0, 0, []),
  (33, .iastore, 1, 0, 0, 0, 0, 0, 0, []),
  (34, .aload_n 0, 1, 0, 0, 0, 0, 0, 0, []),
  (35, .getfield 33, 3, 8, 11, 1100, 2, 0, 0, []),
  (38, .aload_n 0, 1, 0, 0, 0, 0, 0, 0, []),
  (39, .getfield 11, 3, 8, 0, 1089, 2, 0, 0, []),
  (42, .sipush 285, 3, 0, 0, 0, 0, 285, 0, []),
  (45, .iaload, 1, 0, 0, 0, 0, 0, 0, []),
  (46, .iconst 1, 1, 0, 0, 0, 0, 1, 0, []),
  (47, .isub, 1, 0, 0, 0, 0, 0, 0, []),
  (48, .iaload, 1, 0, 0, 0, 0, 0, 0, []),
  (49, .ireturn, 1, 0, 0, 0, 0, 0, 0, [])]
def M_X9_stepped : MI := (yX9_stepped, cX9_stepped, 6, (some Jvm.ClassFile.FieldType.int), 1, 6, 129, false, 1547, 1545, 1546, 95)
def k_X9_stepped : List Ent := [(0, .iload_n 1, 1, 1, 0, 0, 0, 0, 0, []),
  (1, .i2l, 1, 0, 0, 0, 0, 0, 0, []),
  (2, .lconst 0, 1, 0, 0, 0, 0, 0, 0, []),
  (3, .ldc2_w 175, 3, 0, 0, 1338, 0, 0, 3, []),
  (6, .invokestatic 68, 3, 143, 3, 1201, 0, 0, 0, []),
  (9, .ifCond .ne 5, 3, 14, 0, 0, 0, 0, 0, []),
  (12, .iconst (-1), 1, 0, 0, 0, 0, -1, 0, []),
  (13, .ireturn, 1, 0, 0, 0, 0, 0, 0, []),
  (14, .aload_n 0, 1, 0, 0, 0, 0, 0, 0, []),
  (15, .invokevirtual 197, 3, 186, 0, 1347, 8, 0, 0, []),
  (18, .aload_n 0, 1, 0, 0, 0, 0, 0, 0, []),
  (19, .getfield 11, 3, 8, 0, 1089, 2, 0, 0, []),
  (22, .sipush 285, 3, 0, 0, 0, 0, 285, 0, []),
  (25, .iaload, 1, 0, 0, 0, 0, 0, 0, []),
  (26, .istore_n 2, 1, 2, 0, 0, 0, 0, 0, []),
  (27, .iconst 0, 1, 0, 0, 0, 0, 0, 0, []),
  (28, .istore_n 3, 1, 3, 0, 0, 0, 0, 0, []),
  (29, .aload_n 0, 1, 0, 0, 0, 0, 0, 0, []),
  (30, .getfield 159, 3, 8, 7, 1096, 0, 0, 0, []),
  (33, .istore 4, 2, 4, 0, 0, 0, 0, 0, []),
  (35, .iconst 0, 1, 0, 0, 0, 0, 0, 0, []),
  (36, .istore 5, 2, 5, 0, 0, 0, 0, 0, []),
  (38, .iload 5, 2, 5, 0, 0, 0, 0, 0, []),
  (40, .aload_n 0, 1, 0, 0, 0, 0, 0, 0, []),
  (41, .getfield 180, 3, 8, 12, 1101, 0, 0, 0, []),
  (44, .if_icmp .ge 55, 3, 99, 0, 0, 0, 0, 0, []),
  (47, .iload_n 3, 1, 3, 0, 0, 0, 0, 0, []),
  (48, .iload 5, 2, 5, 0, 0, 0, 0, 0, []),
  (50, .iload_n 2, 1, 2, 0, 0, 0, 0, 0, []),
  (51, .if_icmp .ge 13, 3, 64, 0, 0, 0, 0, 0, []),
  (54, .aload_n 0, 1, 0, 0, 0, 0, 0, 0, []),
  (55, .getfield 30, 3, 8, 10, 1099, 2, 0, 0, []),
  (58, .iload 5, 2, 5, 0, 0, 0, 0, 0, []),
  (60, .iaload, 1, 0, 0, 0, 0, 0, 0, []),
  (61, .goto 4, 3, 65, 0, 0, 0, 0, 0, []),
  (64, .iconst 0, 1, 0, 0, 0, 0, 0, 0, []),
  (65, .iadd, 1, 0, 0, 0, 0, 0, 0, []),
  (66, .istore_n 3, 1, 3, 0, 0, 0, 0, 0, []),
  (67, .iload 4, 2, 4, 0, 0, 0, 0, 0, []),
  (69, .iload 5, 2, 5, 0, 0, 0, 0, 0, []),
  (71, .iload_n 2, 1, 2, 0, 0, 0, 0, 0, []),
  (72, .if_icmp .ge 7, 3, 79, 0, 0, 0, 0, 0, []),
  (75, .iconst (-1), 1, 0, 0, 0, 0, -1, 0, []),
  (76, .goto 14, 3, 90, 0, 0, 0, 0, 0, []),
  (79, .iconst 1, 1, 0, 0, 0, 0, 1, 0, []),
  (80, .aload_n 0, 1, 0, 0, 0, 0, 0, 0, []),
  (81, .getfield 33, 3, 8, 11, 1100, 2, 0, 0, []),
  (84, .iload 5, 2, 5, 0, 0, 0, 0, 0, []),
  (86, .iaload, 1, 0, 0, 0, 0, 0, 0, []),
  (87, .ishl, 1, 0, 0, 0, 0, 0, 0, []),
  (88, .iconst (-1), 1, 0, 0, 0, 0, -1, 0, []),
  (89, .ixor, 1, 0, 0, 0, 0, 0, 0, []),
  (90, .iand, 1, 0, 0, 0, 0, 0, 0, []),
  (91, .istore 4, 2, 4, 0, 0, 0, 0, 0, []),
  (93, .iinc 5 1, 3, 5, 0, 0, 0, 1, 0, []),
  (96, .goto (-58), 3, 38, 0, 0, 0, 0, 0, []),
  (99, .iload_n 1, 1, 1, 0, 0, 0, 0, 0, []),
  (100, .ifCond .ne 7, 3, 107, 0, 0, 0, 0, 0, []),
  (103, .iload_n 2, 1, 2, 0, 0, 0, 0, 0, []),
  (104, .goto 38, 3, 142, 0, 0, 0, 0, 0, []),
  (107, .iload_n 1, 1, 1, 0, 0, 0, 0, 0, []),
  (108, .iconst 1, 1, 0, 0, 0, 0, 1, 0, []),
  (109, .if_icmp .ne 7, 3, 116, 0, 0, 0, 0, 0, []),
  (112, .iload_n 3, 1, 3, 0, 0, 0, 0, 0, []),
  (113, .goto 29, 3, 142, 0, 0, 0, 0, 0, []),
  (116, .iload_n 1, 1, 1, 0, 0, 0, 0, 0, []),
  (117, .iconst 2, 1, 0, 0, 0, 0, 2, 0, []),
  (118, .if_icmp .ne 22, 3, 140, 0, 0, 0, 0, 0, []),
  (121, .iload_n 2, 1, 2, 0, 0, 0, 0, 0, []),
  (122, .ifCond .ne 7, 3, 129, 0, 0, 0, 0, 0, []),
  (125, .iconst (-1), 1, 0, 0, 0, 0, -1, 0, []),
  (126, .goto 16, 3, 142, 0, 0, 0, 0, 0, []),
  (129, .aload_n 0, 1, 0, 0, 0, 0, 0, 0, []),
  (130, .getfield 27, 3, 8, 9, 1098, 2, 0, 0, []),
  (133, .iload_n 2, 1, 2, 0, 0, 0, 0, 0, []),
  (134, .iconst 1, 1, 0, 0, 0, 0, 1, 0, []),
  (135, .isub, 1, 0, 0, 0, 0, 0, 0, []),
  (136, .iaload, 1, 0, 0, 0, 0, 0, 0, []),
  (137, .goto 5, 3, 142, 0, 0, 0, 0, 0, []),
  (140, .iload 4, 2, 4, 0, 0, 0, 0, 0, []),
  (142, .ireturn, 1, 0, 0, 0, 0, 0, 0, [])]
def M_X9_isList : MI := (yX9_isList, cX9_isList, 1, (some Jvm.ClassFile.FieldType.boolean), 1, 1, 25, true, 1554, 1553, 0, 95)
def k_X9_isList : List Ent := [(0, .iload_n 0, 1, 0, 0, 0, 0, 0, 0, []),
  (1, .i2l, 1, 0, 0, 0, 0, 0, 0, []),
  (2, .lconst 0, 1, 0, 0, 0, 0, 0, 0, []),
  (3, .ldc2_w 175, 3, 0, 0, 1338, 0, 0, 3, []),
  (6, .invokestatic 68, 3, 143, 3, 1201, 0, 0, 0, []),
  (9, .ireturn, 1, 1, 0, 0, 0, 0, 0, [])]
def M_X9_list : MI := (yX9_list, cX9_list, 4, (some Jvm.ClassFile.FieldType.int), 2, 2, 45, false, 1551, 1549, 1550, 95)
def k_X9_list : List Ent := [(0, .iload_n 1, 1, 1, 0, 0, 0, 0, 0, []),
  (1, .invokestatic 347, 3, 226, 1, 1552, 0, 0, 0, []),
  (4, .ifCond .ne 5, 3, 9, 0, 0, 0, 0, 0, []),
  (7, .iconst (-1), 1, 0, 0, 0, 0, -1, 0, []),
  (8, .ireturn, 1, 0, 0, 0, 0, 0, 0, []),
  (9, .iload_n 2, 1, 2, 0, 0, 0, 0, 0, []),
  (10, .bipush 40, 2, 0, 0, 0, 0, 40, 0, []),
  (12, .if_icmp .le 6, 3, 18, 0, 0, 0, 0, 0, []),
  (15, .bipush (-2), 2, 0, 0, 0, 0, -2, 0, []),
  (17, .ireturn, 1, 0, 0, 0, 0, 0, 0, []),
  (18, .iload_n 2, 1, 2, 0, 0, 0, 0, 0, []),
  (19, .iconst (-1), 1, 0, 0, 0, 0, -1, 0, []),
  (20, .if_icmp .ge 6, 3, 26, 0, 0, 0, 0, 0, []),
  (23, .bipush (-14), 2, 0, 0, 0, 0, -14, 0, []),
  (25, .ireturn, 1, 0, 0, 0, 0, 0, 0, []),
  (26, .aload_n 0, 1, 0, 0, 0, 0, 0, 0, []),
  (27, .getfield 59, 3, 8, 32, 1121, 2, 0, 0, []),
  (30, .iload_n 1, 1, 1, 0, 0, 0, 0, 0, []),
  (31, .iload_n 2, 1, 2, 0, 0, 0, 0, 0, []),
  (32, .iastore, 1, 0, 0, 0, 0, 0, 0, []),
  (33, .iconst 0, 1, 0, 0, 0, 0, 0, 0, []),
  (34, .istore_n 3, 1, 3, 0, 0, 0, 0, 0, []),
  (35, .iload_n 3, 1, 3, 0, 0, 0, 0, 0, []),
  (36, .bipush 40, 2, 0, 0, 0, 0, 40, 0, []),
  (38, .if_icmp .ge 21, 3, 59, 0, 0, 0, 0, 0, []),
  (41, .aload_n 0, 1, 0, 0, 0, 0, 0, 0, []),
  (42, .getfield 55, 3, 8, 31, 1120, 2, 0, 0, []),
  (45, .bipush 40, 2, 0, 0, 0, 0, 40, 0, []),
  (47, .iload_n 1, 1, 1, 0, 0, 0, 0, 0, []),
  (48, .imul, 1, 0, 0, 0, 0, 0, 0, []),
  (49, .iload_n 3, 1, 3, 0, 0, 0, 0, 0, []),
  (50, .iadd, 1, 0, 0, 0, 0, 0, 0, []),
  (51, .lconst 0, 1, 0, 0, 0, 0, 0, 0, []),
  (52, .lastore, 1, 0, 0, 0, 0, 0, 0, []),
  (53, .iinc 3 1, 3, 3, 0, 0, 0, 1, 0, []),
  (56, .goto (-21), 3, 35, 0, 0, 0, 0, 0, []),
  (59, .iconst 1, 1, 0, 0, 0, 0, 1, 0, []),
  (60, .ireturn, 1, 0, 0, 0, 0, 0, 0, [])]
def M_X9_put : MI := (yX9_put, cX9_put, 5, (some Jvm.ClassFile.FieldType.int), 3, 2, 45, false, 1558, 1556, 1557, 95)
def k_X9_put : List Ent := [(0, .iload_n 1, 1, 1, 0, 0, 0, 0, 0, []),
  (1, .invokestatic 347, 3, 226, 1, 1552, 0, 0, 0, []),
  (4, .ifCond .ne 5, 3, 9, 0, 0, 0, 0, 0, []),
  (7, .iconst (-1), 1, 0, 0, 0, 0, -1, 0, []),
  (8, .ireturn, 1, 0, 0, 0, 0, 0, 0, []),
  (9, .aload_n 0, 1, 0, 0, 0, 0, 0, 0, []),
  (10, .getfield 59, 3, 8, 32, 1121, 2, 0, 0, []),
  (13, .iload_n 1, 1, 1, 0, 0, 0, 0, 0, []),
  (14, .iaload, 1, 0, 0, 0, 0, 0, 0, []),
  (15, .ifCond .ge 6, 3, 21, 0, 0, 0, 0, 0, []),
  (18, .bipush (-11), 2, 0, 0, 0, 0, -11, 0, []),
  (20, .ireturn, 1, 0, 0, 0, 0, 0, 0, []),
  (21, .iload_n 2, 1, 2, 0, 0, 0, 0, 0, []),
  (22, .i2l, 1, 0, 0, 0, 0, 0, 0, []),
  (23, .lconst 0, 1, 0, 0, 0, 0, 0, 0, []),
  (24, .aload_n 0, 1, 0, 0, 0, 0, 0, 0, []),
  (25, .getfield 59, 3, 8, 32, 1121, 2, 0, 0, []),
  (28, .iload_n 1, 1, 1, 0, 0, 0, 0, 0, []),
  (29, .iaload, 1, 0, 0, 0, 0, 0, 0, []),
  (30, .iconst 1, 1, 0, 0, 0, 0, 1, 0, []),
  (31, .isub, 1, 0, 0, 0, 0, 0, 0, []),
  (32, .i2l, 1, 0, 0, 0, 0, 0, 0, []),
  (33, .invokestatic 68, 3, 143, 3, 1201, 0, 0, 0, []),
  (36, .ifCond .ne 6, 3, 42, 0, 0, 0, 0, 0, []),
  (39, .bipush (-12), 2, 0, 0, 0, 0, -12, 0, []),
  (41, .ireturn, 1, 0, 0, 0, 0, 0, 0, []),
  (42, .aload_n 0, 1, 0, 0, 0, 0, 0, 0, []),
  (43, .getfield 55, 3, 8, 31, 1120, 2, 0, 0, []),
  (46, .bipush 40, 2, 0, 0, 0, 0, 40, 0, []),
  (48, .iload_n 1, 1, 1, 0, 0, 0, 0, 0, []),
  (49, .imul, 1, 0, 0, 0, 0, 0, 0, []),
  (50, .iload_n 2, 1, 2, 0, 0, 0, 0, 0, []),
  (51, .iadd, 1, 0, 0, 0, 0, 0, 0, []),
  (52, .lload_n 3, 1, 3, 0, 0, 0, 0, 0, []),
  (53, .lastore, 1, 0, 0, 0, 0, 0, 0, []),
  (54, .iconst 1, 1, 0, 0, 0, 0, 1, 0, []),
  (55, .ireturn, 1, 0, 0, 0, 0, 0, 0, [])]
def M_X9_get : MI := (yX9_get, cX9_get, 3, (some Jvm.ClassFile.FieldType.long), 2, 2, 45, false, 1562, 1560, 1561, 95)
def k_X9_get : List Ent := [(0, .iload_n 1, 1, 1, 0, 0, 0, 0, 0, []),
  (1, .invokestatic 347, 3, 226, 1, 1552, 0, 0, 0, []),
  (4, .ifCond .eq 35, 3, 39, 0, 0, 0, 0, 0, []),
  (7, .iload_n 2, 1, 2, 0, 0, 0, 0, 0, []),
  (8, .i2l, 1, 0, 0, 0, 0, 0, 0, []),
  (9, .lconst 0, 1, 0, 0, 0, 0, 0, 0, []),
  (10, .aload_n 0, 1, 0, 0, 0, 0, 0, 0, []),
  (11, .getfield 59, 3, 8, 32, 1121, 2, 0, 0, []),
  (14, .iload_n 1, 1, 1, 0, 0, 0, 0, 0, []),
  (15, .iaload, 1, 0, 0, 0, 0, 0, 0, []),
  (16, .iconst 1, 1, 0, 0, 0, 0, 1, 0, []),
  (17, .isub, 1, 0, 0, 0, 0, 0, 0, []),
  (18, .i2l, 1, 0, 0, 0, 0, 0, 0, []),
  (19, .invokestatic 68, 3, 143, 3, 1201, 0, 0, 0, []),
  (22, .ifCond .eq 17, 3, 39, 0, 0, 0, 0, 0, []),
  (25, .aload_n 0, 1, 0, 0, 0, 0, 0, 0, []),
  (26, .getfield 55, 3, 8, 31, 1120, 2, 0, 0, []),
  (29, .bipush 40, 2, 0, 0, 0, 0, 40, 0, []),
  (31, .iload_n 1, 1, 1, 0, 0, 0, 0, 0, []),
  (32, .imul, 1, 0, 0, 0, 0, 0, 0, []),
  (33, .iload_n 2, 1, 2, 0, 0, 0, 0, 0, []),
  (34, .iadd, 1, 0, 0, 0, 0, 0, 0, []),
  (35, .laload, 1, 0, 0, 0, 0, 0, 0, []),
  (36, .goto 6, 3, 42, 0, 0, 0, 0, 0, []),
  (39, .ldc2_w 212, 3, 0, 0, 1394, 0, 0, -9223372036854775808, []),
  (42, .lreturn, 1, 0, 0, 0, 0, 0, 0, [])]
def M_X9_layable : MI := (yX9_layable, cX9_layable, 4, (some Jvm.ClassFile.FieldType.int), 1, 6, 129, false, 1570, 1569, 84, 95)
def k_X9_layable : List Ent := [(0, .aload_n 0, 1, 0, 0, 0, 0, 0, 0, []),
  (1, .invokevirtual 197, 3, 186, 0, 1347, 8, 0, 0, []),
  (4, .iconst 0, 1, 0, 0, 0, 0, 0, 0, []),
  (5, .istore_n 2, 1, 2, 0, 0, 0, 0, 0, []),
  (6, .iconst 0, 1, 0, 0, 0, 0, 0, 0, []),
  (7, .istore_n 3, 1, 3, 0, 0, 0, 0, 0, []),
  (8, .iload_n 3, 1, 3, 0, 0, 0, 0, 0, []),
  (9, .iload_n 1, 1, 1, 0, 0, 0, 0, 0, []),
  (10, .iconst 2, 1, 0, 0, 0, 0, 2, 0, []),
  (11, .if_icmp .ne 10, 3, 21, 0, 0, 0, 0, 0, []),
  (14, .aload_n 0, 1, 0, 0, 0, 0, 0, 0, []),
  (15, .getfield 180, 3, 8, 12, 1101, 0, 0, 0, []),
  (18, .goto 11, 3, 29, 0, 0, 0, 0, 0, []),
  (21, .aload_n 0, 1, 0, 0, 0, 0, 0, 0, []),
  (22, .getfield 11, 3, 8, 0, 1089, 2, 0, 0, []),
  (25, .sipush 280, 3, 0, 0, 0, 0, 280, 0, []),
  (28, .iaload, 1, 0, 0, 0, 0, 0, 0, []),
  (29, .if_icmp .ge 67, 3, 96, 0, 0, 0, 0, 0, []),
  (32, .iload_n 1, 1, 1, 0, 0, 0, 0, 0, []),
  (33, .iconst 2, 1, 0, 0, 0, 0, 2, 0, []),
  (34, .if_icmp .eq 15, 3, 49, 0, 0, 0, 0, 0, []),
  (37, .aload_n 0, 1, 0, 0, 0, 0, 0, 0, []),
  (38, .aload_n 0, 1, 0, 0, 0, 0, 0, 0, []),
  (39, .getfield 159, 3, 8, 7, 1096, 0, 0, 0, []),
  (42, .iload_n 3, 1, 3, 0, 0, 0, 0, 0, []),
  (43, .invokevirtual 153, 3, 173, 2, 1322, 8, 0, 0, []),
  (46, .ifCond .eq 44, 3, 90, 0, 0, 0, 0, 0, []),
  (49, .aload_n 0, 1, 0, 0, 0, 0, 0, 0, []),
  (50, .getfield 62, 3, 8, 33, 1122, 2, 0, 0, []),
  (53, .iload_n 2, 1, 2, 0, 0, 0, 0, 0, []),
  (54, .iload_n 1, 1, 1, 0, 0, 0, 0, 0, []),
  (55, .ifCond .ne 12, 3, 67, 0, 0, 0, 0, 0, []),
  (58, .aload_n 0, 1, 0, 0, 0, 0, 0, 0, []),
  (59, .getfield 24, 3, 8, 6, 1095, 2, 0, 0, []),
  (62, .iload_n 3, 1, 3, 0, 0, 0, 0, 0, []),
  (63, .iaload, 1, 0, 0, 0, 0, 0, 0, []),
  (64, .goto 22, 3, 86, 0, 0, 0, 0, 0, []),
  (67, .iload_n 1, 1, 1, 0, 0, 0, 0, 0, []),
  (68, .iconst 1, 1, 0, 0, 0, 0, 1, 0, []),
  (69, .if_icmp .ne 11, 3, 80, 0, 0, 0, 0, 0, []),
  (72, .aload_n 0, 1, 0, 0, 0, 0, 0, 0, []),
  (73, .iload_n 3, 1, 3, 0, 0, 0, 0, 0, []),
  (74, .invokevirtual 118, 3, 156, 1, 1232, 8, 0, 0, []),
  (77, .goto 9, 3, 86, 0, 0, 0, 0, 0, []),
  (80, .aload_n 0, 1, 0, 0, 0, 0, 0, 0, []),
  (81, .getfield 27, 3, 8, 9, 1098, 2, 0, 0, []),
  (84, .iload_n 3, 1, 3, 0, 0, 0, 0, 0, []),
  (85, .iaload, 1, 0, 0, 0, 0, 0, 0, []),
  (86, .iastore, 1, 0, 0, 0, 0, 0, 0, []),
  (87, .iinc 2 1, 3, 2, 0, 0, 0, 1, 0, []),
  (90, .iinc 3 1, 3, 3, 0, 0, 0, 1, 0, []),
  (93, .goto (-85), 3, 8, 0, 0, 0, 0, 0, []),
  (96, .iload_n 2, 1, 2, 0, 0, 0, 0, 0, []),
  (97, .ireturn, 1, 0, 0, 0, 0, 0, 0, [])]
def M_X9_fill : MI := (yX9_fill, cX9_fill, 5, (some Jvm.ClassFile.FieldType.int), 2, 7, 152, false, 1566, 1564, 1565, 95)
def k_X9_fill : List Ent := [(0, .iload_n 1, 1, 1, 0, 0, 0, 0, 0, []),
  (1, .invokestatic 347, 3, 226, 1, 1552, 0, 0, 0, []),
  (4, .ifCond .eq 15, 3, 19, 0, 0, 0, 0, 0, []),
  (7, .iload_n 2, 1, 2, 0, 0, 0, 0, 0, []),
  (8, .i2l, 1, 0, 0, 0, 0, 0, 0, []),
  (9, .lconst 0, 1, 0, 0, 0, 0, 0, 0, []),
  (10, .ldc2_w 139, 3, 0, 0, 1291, 0, 0, 2, []),
  (13, .invokestatic 68, 3, 143, 3, 1201, 0, 0, 0, []),
  (16, .ifCond .ne 5, 3, 21, 0, 0, 0, 0, 0, []),
  (19, .iconst (-1), 1, 0, 0, 0, 0, -1, 0, []),
  (20, .ireturn, 1, 0, 0, 0, 0, 0, 0, []),
  (21, .aload_n 0, 1, 0, 0, 0, 0, 0, 0, []),
  (22, .getfield 59, 3, 8, 32, 1121, 2, 0, 0, []),
  (25, .iload_n 1, 1, 1, 0, 0, 0, 0, 0, []),
  (26, .iaload, 1, 0, 0, 0, 0, 0, 0, []),
  (27, .ifCond .ge 6, 3, 33, 0, 0, 0, 0, 0, []),
  (30, .bipush (-11), 2, 0, 0, 0, 0, -11, 0, []),
  (32, .ireturn, 1, 0, 0, 0, 0, 0, 0, []),
  (33, .aload_n 0, 1, 0, 0, 0, 0, 0, 0, []),
  (34, .iload_n 2, 1, 2, 0, 0, 0, 0, 0, []),
  (35, .invokevirtual 350, 3, 230, 1, 1567, 8, 0, 0, []),
  (38, .aload_n 0, 1, 0, 0, 0, 0, 0, 0, []),
  (39, .getfield 59, 3, 8, 32, 1121, 2, 0, 0, []),
  (42, .iload_n 1, 1, 1, 0, 0, 0, 0, 0, []),
  (43, .iaload, 1, 0, 0, 0, 0, 0, 0, []),
  (44, .invokestatic 76, 3, 144, 2, 1240, 0, 0, 0, []),
  (47, .istore_n 3, 1, 3, 0, 0, 0, 0, 0, []),
  (48, .iconst 0, 1, 0, 0, 0, 0, 0, 0, []),
  (49, .istore 4, 2, 4, 0, 0, 0, 0, 0, []),
  (51, .iload 4, 2, 4, 0, 0, 0, 0, 0, []),
  (53, .iload_n 3, 1, 3, 0, 0, 0, 0, 0, []),
  (54, .if_icmp .ge 29, 3, 83, 0, 0, 0, 0, 0, []),
  (57, .aload_n 0, 1, 0, 0, 0, 0, 0, 0, []),
  (58, .getfield 55, 3, 8, 31, 1120, 2, 0, 0, []),
  (61, .bipush 40, 2, 0, 0, 0, 0, 40, 0, []),
  (63, .iload_n 1, 1, 1, 0, 0, 0, 0, 0, []),
  (64, .imul, 1, 0, 0, 0, 0, 0, 0, []),
  (65, .iload 4, 2, 4, 0, 0, 0, 0, 0, []),
  (67, .iadd, 1, 0, 0, 0, 0, 0, 0, []),
  (68, .aload_n 0, 1, 0, 0, 0, 0, 0, 0, []),
  (69, .getfield 62, 3, 8, 33, 1122, 2, 0, 0, []),
  (72, .iload 4, 2, 4, 0, 0, 0, 0, 0, []),
  (74, .iaload, 1, 0, 0, 0, 0, 0, 0, []),
  (75, .i2l, 1, 0, 0, 0, 0, 0, 0, []),
  (76, .lastore, 1, 0, 0, 0, 0, 0, 0, []),
  (77, .iinc 4 1, 3, 4, 0, 0, 0, 1, 0, []),
  (80, .goto (-29), 3, 51, 0, 0, 0, 0, 0, []),
  (83, .iload_n 3, 1, 3, 0, 0, 0, 0, 0, []),
  (84, .ireturn, 1, 0, 0, 0, 0, 0, 0, [])]
def M_X9_judge : MI := (yX9_judge, cX9_judge, 5, (some Jvm.ClassFile.FieldType.int), 2, 7, 152, false, 1574, 1572, 1573, 95)
def k_X9_judge : List Ent := [(0, .iload_n 1, 1, 1, 0, 0, 0, 0, 0, []),
  (1, .invokestatic 347, 3, 226, 1, 1552, 0, 0, 0, []),
  (4, .ifCond .eq 15, 3, 19, 0, 0, 0, 0, 0, []),
  (7, .iload_n 2, 1, 2, 0, 0, 0, 0, 0, []),
  (8, .i2l, 1, 0, 0, 0, 0, 0, 0, []),
  (9, .lconst 0, 1, 0, 0, 0, 0, 0, 0, []),
  (10, .ldc2_w 139, 3, 0, 0, 1291, 0, 0, 2, []),
  (13, .invokestatic 68, 3, 143, 3, 1201, 0, 0, 0, []),
  (16, .ifCond .ne 5, 3, 21, 0, 0, 0, 0, 0, []),
  (19, .iconst (-1), 1, 0, 0, 0, 0, -1, 0, []),
  (20, .ireturn, 1, 0, 0, 0, 0, 0, 0, []),
  (21, .aload_n 0, 1, 0, 0, 0, 0, 0, 0, []),
  (22, .getfield 59, 3, 8, 32, 1121, 2, 0, 0, []),
  (25, .iload_n 1, 1, 1, 0, 0, 0, 0, 0, []),
  (26, .iaload, 1, 0, 0, 0, 0, 0, 0, []),
  (27, .ifCond .ge 6, 3, 33, 0, 0, 0, 0, 0, []),
  (30, .bipush (-11), 2, 0, 0, 0, 0, -11, 0, []),
  (32, .ireturn, 1, 0, 0, 0, 0, 0, 0, []),
  (33, .aload_n 0, 1, 0, 0, 0, 0, 0, 0, []),
  (34, .iload_n 2, 1, 2, 0, 0, 0, 0, 0, []),
  (35, .invokevirtual 350, 3, 230, 1, 1567, 8, 0, 0, []),
  (38, .istore_n 3, 1, 3, 0, 0, 0, 0, 0, []),
  (39, .iconst 0, 1, 0, 0, 0, 0, 0, 0, []),
  (40, .istore 4, 2, 4, 0, 0, 0, 0, 0, []),
  (42, .iload 4, 2, 4, 0, 0, 0, 0, 0, []),
  (44, .aload_n 0, 1, 0, 0, 0, 0, 0, 0, []),
  (45, .getfield 59, 3, 8, 32, 1121, 2, 0, 0, []),
  (48, .iload_n 1, 1, 1, 0, 0, 0, 0, 0, []),
  (49, .iaload, 1, 0, 0, 0, 0, 0, 0, []),
  (50, .if_icmp .ge 42, 3, 92, 0, 0, 0, 0, 0, []),
  (53, .iload 4, 2, 4, 0, 0, 0, 0, 0, []),
  (55, .iload_n 3, 1, 3, 0, 0, 0, 0, 0, []),
  (56, .if_icmp .ge 27, 3, 83, 0, 0, 0, 0, 0, []),
  (59, .aload_n 0, 1, 0, 0, 0, 0, 0, 0, []),
  (60, .getfield 55, 3, 8, 31, 1120, 2, 0, 0, []),
  (63, .bipush 40, 2, 0, 0, 0, 0, 40, 0, []),
  (65, .iload_n 1, 1, 1, 0, 0, 0, 0, 0, []),
  (66, .imul, 1, 0, 0, 0, 0, 0, 0, []),
  (67, .iload 4, 2, 4, 0, 0, 0, 0, 0, []),
  (69, .iadd, 1, 0, 0, 0, 0, 0, 0, []),
  (70, .laload, 1, 0, 0, 0, 0, 0, 0, []),
  (71, .aload_n 0, 1, 0, 0, 0, 0, 0, 0, []),
  (72, .getfield 62, 3, 8, 33, 1122, 2, 0, 0, []),
  (75, .iload 4, 2, 4, 0, 0, 0, 0, 0, []),
  (77, .iaload, 1, 0, 0, 0, 0, 0, 0, []),
  (78, .i2l, 1, 0, 0, 0, 0, 0, 0, []),
  (79, .lcmp, 1, 0, 0, 0, 0, 0, 0, []),
  (80, .ifCond .eq 6, 3, 86, 0, 0, 0, 0, 0, []),
  (83, .iload 4, 2, 4, 0, 0, 0, 0, 0, []),
  (85, .ireturn, 1, 0, 0, 0, 0, 0, 0, []),
  (86, .iinc 4 1, 3, 4, 0, 0, 0, 1, 0, []),
  (89, .goto (-47), 3, 42, 0, 0, 0, 0, 0, []),
  (92, .iconst (-1), 1, 0, 0, 0, 0, -1, 0, []),
  (93, .ireturn, 1, 0, 0, 0, 0, 0, 0, [])]
def M_X9_move : MI := (yX9_move, cX9_move, 7, (some Jvm.ClassFile.FieldType.int), 5, 2, 45, false, 1578, 1576, 1577, 95)
def k_X9_move : List Ent := [(0, .iload_n 1, 1, 1, 0, 0, 0, 0, 0, []),
  (1, .invokestatic 347, 3, 226, 1, 1552, 0, 0, 0, []),
  (4, .ifCond .eq 10, 3, 14, 0, 0, 0, 0, 0, []),
  (7, .iload_n 3, 1, 3, 0, 0, 0, 0, 0, []),
  (8, .invokestatic 347, 3, 226, 1, 1552, 0, 0, 0, []),
  (11, .ifCond .ne 5, 3, 16, 0, 0, 0, 0, 0, []),
  (14, .iconst (-1), 1, 0, 0, 0, 0, -1, 0, []),
  (15, .ireturn, 1, 0, 0, 0, 0, 0, 0, []),
  (16, .aload_n 0, 1, 0, 0, 0, 0, 0, 0, []),
  (17, .getfield 59, 3, 8, 32, 1121, 2, 0, 0, []),
  (20, .iload_n 1, 1, 1, 0, 0, 0, 0, 0, []),
  (21, .iaload, 1, 0, 0, 0, 0, 0, 0, []),
  (22, .ifCond .lt 12, 3, 34, 0, 0, 0, 0, 0, []),
  (25, .aload_n 0, 1, 0, 0, 0, 0, 0, 0, []),
  (26, .getfield 59, 3, 8, 32, 1121, 2, 0, 0, []),
  (29, .iload_n 3, 1, 3, 0, 0, 0, 0, 0, []),
  (30, .iaload, 1, 0, 0, 0, 0, 0, 0, []),
  (31, .ifCond .ge 6, 3, 37, 0, 0, 0, 0, 0, []),
  (34, .bipush (-11), 2, 0, 0, 0, 0, -11, 0, []),
  (36, .ireturn, 1, 0, 0, 0, 0, 0, 0, []),
  (37, .iload 5, 2, 5, 0, 0, 0, 0, 0, []),
  (39, .ifCond .lt 47, 3, 86, 0, 0, 0, 0, 0, []),
  (42, .iload_n 2, 1, 2, 0, 0, 0, 0, 0, []),
  (43, .ifCond .lt 43, 3, 86, 0, 0, 0, 0, 0, []),
  (46, .iload 4, 2, 4, 0, 0, 0, 0, 0, []),
  (48, .ifCond .lt 38, 3, 86, 0, 0, 0, 0, 0, []),
  (51, .iload_n 2, 1, 2, 0, 0, 0, 0, 0, []),
  (52, .i2l, 1, 0, 0, 0, 0, 0, 0, []),
  (53, .iload 5, 2, 5, 0, 0, 0, 0, 0, []),
  (55, .i2l, 1, 0, 0, 0, 0, 0, 0, []),
  (56, .ladd, 1, 0, 0, 0, 0, 0, 0, []),
  (57, .aload_n 0, 1, 0, 0, 0, 0, 0, 0, []),
  (58, .getfield 59, 3, 8, 32, 1121, 2, 0, 0, []),
  (61, .iload_n 1, 1, 1, 0, 0, 0, 0, 0, []),
  (62, .iaload, 1, 0, 0, 0, 0, 0, 0, []),
  (63, .i2l, 1, 0, 0, 0, 0, 0, 0, []),
  (64, .lcmp, 1, 0, 0, 0, 0, 0, 0, []),
  (65, .ifCond .gt 21, 3, 86, 0, 0, 0, 0, 0, []),
  (68, .iload 4, 2, 4, 0, 0, 0, 0, 0, []),
  (70, .i2l, 1, 0, 0, 0, 0, 0, 0, []),
  (71, .iload 5, 2, 5, 0, 0, 0, 0, 0, []),
  (73, .i2l, 1, 0, 0, 0, 0, 0, 0, []),
  (74, .ladd, 1, 0, 0, 0, 0, 0, 0, []),
  (75, .aload_n 0, 1, 0, 0, 0, 0, 0, 0, []),
  (76, .getfield 59, 3, 8, 32, 1121, 2, 0, 0, []),
  (79, .iload_n 3, 1, 3, 0, 0, 0, 0, 0, []),
  (80, .iaload, 1, 0, 0, 0, 0, 0, 0, []),
  (81, .i2l, 1, 0, 0, 0, 0, 0, 0, []),
  (82, .lcmp, 1, 0, 0, 0, 0, 0, 0, []),
  (83, .ifCond .le 6, 3, 89, 0, 0, 0, 0, 0, []),
  (86, .bipush (-12), 2, 0, 0, 0, 0, -12, 0, []),
  (88, .ireturn, 1, 0, 0, 0, 0, 0, 0, []),
  (89, .iconst 0, 1, 0, 0, 0, 0, 0, 0, []),
  (90, .istore 6, 2, 6, 0, 0, 0, 0, 0, []),
  (92, .iload 6, 2, 6, 0, 0, 0, 0, 0, []),
  (94, .iload 5, 2, 5, 0, 0, 0, 0, 0, []),
  (96, .if_icmp .ge 30, 3, 126, 0, 0, 0, 0, 0, []),
  (99, .aload_n 0, 1, 0, 0, 0, 0, 0, 0, []),
  (100, .getfield 65, 3, 8, 34, 1123, 2, 0, 0, []),
  (103, .iload 6, 2, 6, 0, 0, 0, 0, 0, []),
  (105, .aload_n 0, 1, 0, 0, 0, 0, 0, 0, []),
  (106, .getfield 55, 3, 8, 31, 1120, 2, 0, 0, []),
  (109, .bipush 40, 2, 0, 0, 0, 0, 40, 0, []),
  (111, .iload_n 1, 1, 1, 0, 0, 0, 0, 0, []),
  (112, .imul, 1, 0, 0, 0, 0, 0, 0, []),
  (113, .iload_n 2, 1, 2, 0, 0, 0, 0, 0, []),
  (114, .iadd, 1, 0, 0, 0, 0, 0, 0, []),
  (115, .iload 6, 2, 6, 0, 0, 0, 0, 0, []),
  (117, .iadd, 1, 0, 0, 0, 0, 0, 0, []),
  (118, .laload, 1, 0, 0, 0, 0, 0, 0, []),
  (119, .lastore, 1, 0, 0, 0, 0, 0, 0, []),
  (120, .iinc 6 1, 3, 6, 0, 0, 0, 1, 0, []),
  (123, .goto (-31), 3, 92, 0, 0, 0, 0, 0, []),
  (126, .iconst 0, 1, 0, 0, 0, 0, 0, 0, []),
  (127, .istore 6, 2, 6, 0, 0, 0, 0, 0, []),
  (129, .iload 6, 2, 6, 0, 0, 0, 0, 0, []),
  (131, .iload 5, 2, 5, 0, 0, 0, 0, 0, []),
  (133, .if_icmp .ge 31, 3, 164, 0, 0, 0, 0, 0, []),
  (136, .aload_n 0, 1, 0, 0, 0, 0, 0, 0, []),
  (137, .getfield 55, 3, 8, 31, 1120, 2, 0, 0, []),
  (140, .bipush 40, 2, 0, 0, 0, 0, 40, 0, []),
  (142, .iload_n 3, 1, 3, 0, 0, 0, 0, 0, []),
  (143, .imul, 1, 0, 0, 0, 0, 0, 0, []),
  (144, .iload 4, 2, 4, 0, 0, 0, 0, 0, []),
  (146, .iadd, 1, 0, 0, 0, 0, 0, 0, []),
  (147, .iload 6, 2, 6, 0, 0, 0, 0, 0, []),
  (149, .iadd, 1, 0, 0, 0, 0, 0, 0, []),
  (150, .aload_n 0, 1, 0, 0, 0, 0, 0, 0, []),
  (151, .getfield 65, 3, 8, 34, 1123, 2, 0, 0, []),
  (154, .iload 6, 2, 6, 0, 0, 0, 0, 0, []),
  (156, .laload, 1, 0, 0, 0, 0, 0, 0, []),
  (157, .lastore, 1, 0, 0, 0, 0, 0, 0, []),
  (158, .iinc 6 1, 3, 6, 0, 0, 0, 1, 0, []),
  (161, .goto (-32), 3, 129, 0, 0, 0, 0, 0, []),
  (164, .iload 5, 2, 5, 0, 0, 0, 0, 0, []),
  (166, .ireturn, 1, 0, 0, 0, 0, 0, 0, [])]
def M_X9_count : MI := (yX9_count, cX9_count, 2, (some Jvm.ClassFile.FieldType.int), 1, 0, 0, false, 1582, 1580, 1581, 95)
def k_X9_count : List Ent := [(0, .iload_n 1, 1, 1, 0, 0, 0, 0, 0, []),
  (1, .tableswitch 84 0 6 #[43, 52, 61, 66, 71, 71, 71], 43, 85, 0, 0, 0, 0, 0, [(0, 44), (1, 53), (2, 62), (3, 67), (4, 72), (5, 72), (6, 72)]),
  (44, .aload_n 0, 1, 0, 0, 0, 0, 0, 0, []),
  (45, .getfield 11, 3, 8, 0, 1089, 2, 0, 0, []),
  (48, .sipush 280, 3, 0, 0, 0, 0, 280, 0, []),
  (51, .iaload, 1, 0, 0, 0, 0, 0, 0, []),
  (52, .ireturn, 1, 0, 0, 0, 0, 0, 0, []),
  (53, .aload_n 0, 1, 0, 0, 0, 0, 0, 0, []),
  (54, .getfield 11, 3, 8, 0, 1089, 2, 0, 0, []),
  (57, .sipush 281, 3, 0, 0, 0, 0, 281, 0, []),
  (60, .iaload, 1, 0, 0, 0, 0, 0, 0, []),
  (61, .ireturn, 1, 0, 0, 0, 0, 0, 0, []),
  (62, .aload_n 0, 1, 0, 0, 0, 0, 0, 0, []),
  (63, .getfield 258, 3, 8, 20, 1109, 0, 0, 0, []),
  (66, .ireturn, 1, 0, 0, 0, 0, 0, 0, []),
  (67, .aload_n 0, 1, 0, 0, 0, 0, 0, 0, []),
  (68, .getfield 330, 3, 8, 4, 1093, 0, 0, 0, []),
  (71, .ireturn, 1, 0, 0, 0, 0, 0, 0, []),
  (72, .aload_n 0, 1, 0, 0, 0, 0, 0, 0, []),
  (73, .getfield 11, 3, 8, 0, 1089, 2, 0, 0, []),
  (76, .sipush 282, 3, 0, 0, 0, 0, 282, 0, []),
  (79, .iload_n 1, 1, 1, 0, 0, 0, 0, 0, []),
  (80, .iadd, 1, 0, 0, 0, 0, 0, 0, []),
  (81, .iconst 4, 1, 0, 0, 0, 0, 4, 0, []),
  (82, .isub, 1, 0, 0, 0, 0, 0, 0, []),
  (83, .iaload, 1, 0, 0, 0, 0, 0, 0, []),
  (84, .ireturn, 1, 0, 0, 0, 0, 0, 0, []),
  (85, .iconst (-1), 1, 0, 0, 0, 0, -1, 0, []),
  (86, .ireturn, 1, 0, 0, 0, 0, 0, 0, [])]
def M_X9_image : MI := (yX9_image, cX9_image, 1, (some Jvm.ClassFile.FieldType.int), 0, 1, 22, false, 1586, 1584, 1585, 95)
def k_X9_image : List Ent := [(0, .aload_n 0, 1, 0, 0, 0, 0, 0, 0, []),
  (1, .iconst 1, 1, 0, 0, 0, 0, 1, 0, []),
  (2, .putfield 353, 3, 8, 3, 1092, 1, 0, 0, []),
  (5, .aload_n 0, 1, 0, 0, 0, 0, 0, 0, []),
  (6, .getfield 11, 3, 8, 0, 1089, 2, 0, 0, []),
  (9, .aload_n 0, 1, 0, 0, 0, 0, 0, 0, []),
  (10, .getfield 15, 3, 8, 1, 1090, 2, 0, 0, []),
  (13, .invokestatic 220, 3, 146, 2, 1411, 0, 0, 0, []),
  (16, .aload_n 0, 1, 0, 0, 0, 0, 0, 0, []),
  (17, .getfield 11, 3, 8, 0, 1089, 2, 0, 0, []),
  (20, .sipush 280, 3, 0, 0, 0, 0, 280, 0, []),
  (23, .iaload, 1, 0, 0, 0, 0, 0, 0, []),
  (24, .ireturn, 1, 0, 0, 0, 0, 0, 0, [])]
def M_X9_undo : MI := (yX9_undo, cX9_undo, 1, (some Jvm.ClassFile.FieldType.int), 0, 1, 22, false, 1590, 1588, 1589, 95)
def k_X9_undo : List Ent := [(0, .aload_n 0, 1, 0, 0, 0, 0, 0, 0, []),
  (1, .getfield 353, 3, 8, 3, 1092, 1, 0, 0, []),
  (4, .ifCond .ne 6, 3, 10, 0, 0, 0, 0, 0, []),
  (7, .bipush (-3), 2, 0, 0, 0, 0, -3, 0, []),
  (9, .ireturn, 1, 0, 0, 0, 0, 0, 0, []),
  (10, .aload_n 0, 1, 0, 0, 0, 0, 0, 0, []),
  (11, .getfield 15, 3, 8, 1, 1090, 2, 0, 0, []),
  (14, .aload_n 0, 1, 0, 0, 0, 0, 0, 0, []),
  (15, .getfield 11, 3, 8, 0, 1089, 2, 0, 0, []),
  (18, .invokestatic 220, 3, 146, 2, 1411, 0, 0, 0, []),
  (21, .aload_n 0, 1, 0, 0, 0, 0, 0, 0, []),
  (22, .getfield 11, 3, 8, 0, 1089, 2, 0, 0, []),
  (25, .sipush 280, 3, 0, 0, 0, 0, 280, 0, []),
  (28, .iaload, 1, 0, 0, 0, 0, 0, 0, []),
  (29, .ireturn, 1, 0, 0, 0, 0, 0, 0, [])]
def M_J6_bitCount_0f7a4 : MI := (yJ6_bitCount_0f7a4, cJ6_bitCount_0f7a4, 1, (some Jvm.ClassFile.FieldType.int), 1, 0, 0, true, 744, 743, 0, 99)
def k_J6_bitCount_0f7a4 : List Ent := [(0, .iload_n 0, 1, 0, 0, 0, 0, 0, 0, []),
  (1, .iload_n 0, 1, 0, 0, 0, 0, 0, 0, []),
  (2, .iconst 1, 1, 0, 0, 0, 0, 1, 0, []),
  (3, .iushr, 1, 0, 0, 0, 0, 0, 0, []),
  (4, .ldc_w 265, 3, 0, 0, 745, 0, 1431655765, 0, []),
  (7, .iand, 1, 0, 0, 0, 0, 0, 0, []),
  (8, .isub, 1, 0, 0, 0, 0, 0, 0, []),
  (9, .istore_n 0, 1, 0, 0, 0, 0, 0, 0, []),
  (10, .iload_n 0, 1, 0, 0, 0, 0, 0, 0, []),
  (11, .ldc_w 266, 3, 0, 0, 746, 0, 858993459, 0, []),
  (14, .iand, 1, 0, 0, 0, 0, 0, 0, []),
  (15, .iload_n 0, 1, 0, 0, 0, 0, 0, 0, []),
  (16, .iconst 2, 1, 0, 0, 0, 0, 2, 0, []),
  (17, .iushr, 1, 0, 0, 0, 0, 0, 0, []),
  (18, .ldc_w 266, 3, 0, 0, 746, 0, 858993459, 0, []),
  (21, .iand, 1, 0, 0, 0, 0, 0, 0, []),
  (22, .iadd, 1, 0, 0, 0, 0, 0, 0, []),
  (23, .istore_n 0, 1, 0, 0, 0, 0, 0, 0, []),
  (24, .iload_n 0, 1, 0, 0, 0, 0, 0, 0, []),
  (25, .iload_n 0, 1, 0, 0, 0, 0, 0, 0, []),
  (26, .iconst 4, 1, 0, 0, 0, 0, 4, 0, []),
  (27, .iushr, 1, 0, 0, 0, 0, 0, 0, []),
  (28, .iadd, 1, 0, 0, 0, 0, 0, 0, []),
  (29, .ldc_w 267, 3, 0, 0, 747, 0, 252645135, 0, []),
  (32, .iand, 1, 0, 0, 0, 0, 0, 0, []),
  (33, .istore_n 0, 1, 0, 0, 0, 0, 0, 0, []),
  (34, .iload_n 0, 1, 0, 0, 0, 0, 0, 0, []),
  (35, .iload_n 0, 1, 0, 0, 0, 0, 0, 0, []),
  (36, .bipush 8, 2, 0, 0, 0, 0, 8, 0, []),
  (38, .iushr, 1, 0, 0, 0, 0, 0, 0, []),
  (39, .iadd, 1, 0, 0, 0, 0, 0, 0, []),
  (40, .istore_n 0, 1, 0, 0, 0, 0, 0, 0, []),
  (41, .iload_n 0, 1, 0, 0, 0, 0, 0, 0, []),
  (42, .iload_n 0, 1, 0, 0, 0, 0, 0, 0, []),
  (43, .bipush 16, 2, 0, 0, 0, 0, 16, 0, []),
  (45, .iushr, 1, 0, 0, 0, 0, 0, 0, []),
  (46, .iadd, 1, 0, 0, 0, 0, 0, 0, []),
  (47, .istore_n 0, 1, 0, 0, 0, 0, 0, 0, []),
  (48, .iload_n 0, 1, 0, 0, 0, 0, 0, 0, []),
  (49, .bipush 63, 2, 0, 0, 0, 0, 63, 0, []),
  (51, .iand, 1, 0, 0, 0, 0, 0, 0, []),
  (52, .ireturn, 1, 0, 0, 0, 0, 0, 0, [])]
def M_J1_charAt_3b067 : MI := (yJ1_charAt_3b067, cJ1_charAt_3b067, 2, (some Jvm.ClassFile.FieldType.char), 2, 2, 43, true, 861, 860, 0, 101)
def k_J1_charAt_3b067 : List Ent := [(0, .iload_n 1, 1, 1, 0, 0, 0, 0, 0, []),
  (1, .aload_n 0, 1, 0, 0, 0, 0, 0, 0, []),
  (2, .arraylength, 1, 0, 0, 0, 0, 0, 0, []),
  (3, .invokestatic 9, 3, 248, 2, 862, 0, 0, 0, []),
  (6, .aload_n 0, 1, 0, 0, 0, 0, 0, 0, []),
  (7, .iload_n 1, 1, 1, 0, 0, 0, 0, 0, []),
  (8, .baload, 1, 0, 0, 0, 0, 0, 0, []),
  (9, .sipush 255, 3, 0, 0, 0, 0, 255, 0, []),
  (12, .iand, 1, 0, 0, 0, 0, 0, 0, []),
  (13, .i2c, 1, 0, 0, 0, 0, 0, 0, []),
  (14, .ireturn, 1, 2, 0, 0, 0, 0, 0, [])]
def M_J2_length_9d52b : MI := (yJ2_length_9d52b, cJ2_length_9d52b, 1, (some Jvm.ClassFile.FieldType.int), 1, 0, 0, true, 878, 877, 0, 103)
def k_J2_length_9d52b : List Ent := [(0, .aload_n 0, 1, 0, 0, 0, 0, 0, 0, []),
  (1, .arraylength, 1, 0, 0, 0, 0, 0, 0, []),
  (2, .iconst 1, 1, 0, 0, 0, 0, 1, 0, []),
  (3, .ishr, 1, 0, 0, 0, 0, 0, 0, []),
  (4, .ireturn, 1, 0, 0, 0, 0, 0, 0, [])]
def M_J2_charAt_3b067 : MI := (yJ2_charAt_3b067, cJ2_charAt_3b067, 2, (some Jvm.ClassFile.FieldType.char), 2, 3, 64, true, 872, 871, 0, 103)
def k_J2_charAt_3b067 : List Ent := [(0, .iload_n 1, 1, 1, 0, 0, 0, 0, 0, []),
  (1, .aload_n 0, 1, 0, 0, 0, 0, 0, 0, []),
  (2, .invokestatic 67, 3, 241, 2, 873, 0, 0, 0, []),
  (5, .aload_n 0, 1, 0, 0, 0, 0, 0, 0, []),
  (6, .iload_n 1, 1, 1, 0, 0, 0, 0, 0, []),
  (7, .invokestatic 71, 3, 249, 2, 880, 0, 0, 0, []),
  (10, .ireturn, 1, 2, 0, 0, 0, 0, 0, [])]
def M_J2_checkIndex_2214a : MI := (yJ2_checkIndex_2214a, cJ2_checkIndex_2214a, 2, (none), 2, 2, 43, true, 875, 874, 0, 103)
def k_J2_checkIndex_2214a : List Ent := [(0, .iload_n 0, 1, 0, 0, 0, 0, 0, 0, []),
  (1, .aload_n 1, 1, 1, 0, 0, 0, 0, 0, []),
  (2, .invokestatic 48, 3, 239, 1, 876, 0, 0, 0, []),
  (5, .invokestatic 414, 3, 248, 2, 879, 0, 0, 0, []),
  (8, .return_, 1, 0, 0, 0, 0, 0, 0, [])]
def M_J7_fill_d0a16 : MI := (yJ7_fill_d0a16, cJ7_fill_d0a16, 5, (none), 2, 0, 0, true, 1020, 1019, 0, 98)
def k_J7_fill_d0a16 : List Ent := [(0, .iconst 0, 1, 0, 0, 0, 0, 0, 0, []),
  (1, .istore_n 3, 1, 3, 0, 0, 0, 0, 0, []),
  (2, .aload_n 0, 1, 0, 0, 0, 0, 0, 0, []),
  (3, .arraylength, 1, 0, 0, 0, 0, 0, 0, []),
  (4, .istore 4, 2, 4, 0, 0, 0, 0, 0, []),
  (6, .iload_n 3, 1, 3, 0, 0, 0, 0, 0, []),
  (7, .iload 4, 2, 4, 0, 0, 0, 0, 0, []),
  (9, .if_icmp .ge 13, 3, 22, 0, 0, 0, 0, 0, []),
  (12, .aload_n 0, 1, 0, 0, 0, 0, 0, 0, []),
  (13, .iload_n 3, 1, 3, 0, 0, 0, 0, 0, []),
  (14, .lload_n 1, 1, 1, 0, 0, 0, 0, 0, []),
  (15, .lastore, 1, 0, 0, 0, 0, 0, 0, []),
  (16, .iinc 3 1, 3, 3, 0, 0, 0, 1, 0, []),
  (19, .goto (-13), 3, 6, 0, 0, 0, 0, 0, []),
  (22, .return_, 1, 0, 0, 0, 0, 0, 0, [])]
def M_J7_fill_53178 : MI := (yJ7_fill_53178, cJ7_fill_53178, 4, (none), 2, 0, 0, true, 529, 528, 0, 98)
def k_J7_fill_53178 : List Ent := [(0, .iconst 0, 1, 0, 0, 0, 0, 0, 0, []),
  (1, .istore_n 2, 1, 2, 0, 0, 0, 0, 0, []),
  (2, .aload_n 0, 1, 0, 0, 0, 0, 0, 0, []),
  (3, .arraylength, 1, 0, 0, 0, 0, 0, 0, []),
  (4, .istore_n 3, 1, 3, 0, 0, 0, 0, 0, []),
  (5, .iload_n 2, 1, 2, 0, 0, 0, 0, 0, []),
  (6, .iload_n 3, 1, 3, 0, 0, 0, 0, 0, []),
  (7, .if_icmp .ge 13, 3, 20, 0, 0, 0, 0, 0, []),
  (10, .aload_n 0, 1, 0, 0, 0, 0, 0, 0, []),
  (11, .iload_n 2, 1, 2, 0, 0, 0, 0, 0, []),
  (12, .iload_n 1, 1, 1, 0, 0, 0, 0, 0, []),
  (13, .iastore, 1, 0, 0, 0, 0, 0, 0, []),
  (14, .iinc 2 1, 3, 2, 0, 0, 0, 1, 0, []),
  (17, .goto (-12), 3, 5, 0, 0, 0, 0, 0, []),
  (20, .return_, 1, 0, 0, 0, 0, 0, 0, [])]
def M_J0_length_8abf5 : MI := (yJ0_length_8abf5, cJ0_length_8abf5, 1, (some Jvm.ClassFile.FieldType.int), 0, 1, 20, false, 844, 842, 843, 100)
def M_J0_charAt_5068e : MI := (yJ0_charAt_5068e, cJ0_charAt_5068e, 2, (some Jvm.ClassFile.FieldType.char), 1, 4, 85, false, 854, 852, 853, 100)
def M_J0_coder_7d493 : MI := (yJ0_coder_7d493, cJ0_coder_7d493, 1, (some Jvm.ClassFile.FieldType.byte), 0, 0, 0, false, 848, 846, 847, 100)
def M_J0_isLatin1_aae02 : MI := (yJ0_isLatin1_aae02, cJ0_isLatin1_aae02, 1, (some Jvm.ClassFile.FieldType.boolean), 0, 0, 0, false, 858, 856, 857, 100)
def M_J0_checkIndex_df160 : MI := (yJ0_checkIndex_df160, cJ0_checkIndex_df160, 2, (none), 2, 1, 22, true, 864, 863, 0, 100)
def M_J2_getChar_3b067 : MI := (yJ2_getChar_3b067, cJ2_getChar_3b067, 2, (some Jvm.ClassFile.FieldType.char), 2, 1, 20, true, 882, 881, 0, 103)
def M_J3_checkIndex_8e157 : MI := (yJ3_checkIndex_8e157, cJ3_checkIndex_8e157, 3, (some Jvm.ClassFile.FieldType.int), 3, 0, 0, true, 869, 868, 0, 102)
def mk1 : List (MI × List Ent) := [(M_X0_reckon, k_X0_reckon), (M_X0_reckonShots, k_X0_reckonShots), (M_X0_findSignals, k_X0_findSignals), (M_X0_endOf, k_X0_endOf), (M_X0_findFiring, k_X0_findFiring), (M_X0_findBuried, k_X0_findBuried), (M_X0_doesFire, k_X0_doesFire), (M_X0_isBuried, k_X0_isBuried), (M_X0_unsignalled, k_X0_unsignalled), (M_X0_isTorn, k_X0_isTorn), (M_X0_tornBits, k_X0_tornBits), (M_X0_ringOf, k_X0_ringOf), (M_X0_rockInRing, k_X0_rockInRing), (M_X0_rockOfIn, k_X0_rockOfIn), (M_X0_canLayOut, k_X0_canLayOut), (M_X0_layOut, k_X0_layOut), (M_X1_isUnder, k_X1_isUnder), (M_X1_firstLoad, k_X1_firstLoad), (M_X1_secondLoad, k_X1_secondLoad), (M_X1_rock, k_X1_rock), (M_X1_needs, k_X1_needs), (M_X1_made, k_X1_made), (M_X1_word, k_X1_word), (M_X2_copyFrom, k_X2_copyFrom), (M_X2_fits, k_X2_fits), (M_X2_isHole, k_X2_isHole), (M_X2_isWire, k_X2_isWire), (M_X2_mark, k_X2_mark), (M_X2_cord, k_X2_cord), (M_X2_addHole, k_X2_addHole), (M_X2_markAhead, k_X2_markAhead), (M_X2_isAhead, k_X2_isAhead), (M_X2_changeMark, k_X2_changeMark), (M_X2_addWire, k_X2_addWire), (M_X2_removeWire, k_X2_removeWire), (M_X2_removeLastHole, k_X2_removeLastHole), (M_X2_changeRule, k_X2_changeRule), (M_X2_holeAt, k_X2_holeAt), (M_X2_deadBits, k_X2_deadBits), (M_X2_areNear, k_X2_areNear), (M_X2_columnsOff, k_X2_columnsOff), (M_X2_firstLoadOf, k_X2_firstLoadOf), (M_X2_secondLoadOf, k_X2_secondLoadOf), (M_X2_loadsOf, k_X2_loadsOf), (M_X2_hasShots, k_X2_hasShots), (M_X2_rockOf, k_X2_rockOf), (M_X2_needsOf, k_X2_needsOf), (M_X2_reliefOf, k_X2_reliefOf), (M_X3_draw, k_X3_draw), (M_X3_settle, k_X3_settle)]
def mk2 : List (MI × List Ent) := [(M_X3_isQuiet, k_X3_isQuiet), (M_X3_shakeWith, k_X3_shakeWith), (M_X3_latest, k_X3_latest), (M_X4_takeByte, k_X4_takeByte), (M_X4_parse, k_X4_parse), (M_X4_parseStatement, k_X4_parseStatement), (M_X4_verbWord, k_X4_verbWord), (M_X4_shapeOf, k_X4_shapeOf), (M_X4_verbHere, k_X4_verbHere), (M_X4_valueHere, k_X4_valueHere), (M_X4_kindHere, k_X4_kindHere), (M_X4_numberHere, k_X4_numberHere), (M_X4_isWordHere, k_X4_isWordHere), (M_X4_nextToken, k_X4_nextToken), (M_X4_sortOf, k_X4_sortOf), (M_X4_carryOut, k_X4_carryOut), (M_X4_isDone, k_X4_isDone), (M_X5_write, k_X5_write), (M_X5_writeHole, k_X5_writeHole), (M_X5_writeWire, k_X5_writeWire), (M_X5_begin, k_X5_begin), (M_X5_writeWord, k_X5_writeWord), (M_X5_writeLetters, k_X5_writeLetters), (M_X5_writeNumber, k_X5_writeNumber), (M_X5_writeByte, k_X5_writeByte), (M_X6_isList, k_X6_isList), (M_X6_isMissing, k_X6_isMissing), (M_X6_hasPlace, k_X6_hasPlace), (M_X6_hasSpan, k_X6_hasSpan), (M_X6_renew, k_X6_renew), (M_X6_copyIn, k_X6_copyIn), (M_X6_firstOther, k_X6_firstOther), (M_X7_clear, k_X7_clear), (M_X7_addAll, k_X7_addAll), (M_X7_insert, k_X7_insert), (M_X7_shakeAt, k_X7_shakeAt), (M_X7_weigh, k_X7_weigh), (M_X7_weighAt, k_X7_weighAt), (M_X7_weightOfFirst, k_X7_weightOfFirst), (M_X7_lastTimeOfFirst, k_X7_lastTimeOfFirst), (M_X7_holesBehind, k_X7_holesBehind), (M_X8_hole, k_X8_hole), (M_X8_of, k_X8_of), (M_X8_becomes, k_X8_becomes), (M_X8_taken, k_X8_taken), (M_X8_wire, k_X8_wire), (M_X8_wired, k_X8_wired), (M_X8_cut, k_X8_cut), (M_X8_rule, k_X8_rule), (M_X8_drop, k_X8_drop)]
def mk3 : List (MI × List Ent) := [(M_X8_time, k_X8_time), (M_X8_shot, k_X8_shot), (M_X8_shake, k_X8_shake), (M_X8_worst, k_X8_worst), (M_X8_safe, k_X8_safe), (M_X8_ring, k_X8_ring), (M_X8_sets, k_X8_sets), (M_X8_loads, k_X8_loads), (M_X8_misfire, k_X8_misfire), (M_X8_broken, k_X8_broken), (M_X8_critical, k_X8_critical), (M_X8_plan, k_X8_plan), (M_X8_planned, k_X8_planned), (M_X8_adopt, k_X8_adopt), (M_X8_feed, k_X8_feed), (M_X8_read, k_X8_read), (M_X8_spell, k_X8_spell), (M_X8_paper, k_X8_paper), (M_X8_step, k_X8_step), (M_X8_stepped, k_X8_stepped), (M_X8_list, k_X8_list), (M_X8_put, k_X8_put), (M_X8_get, k_X8_get), (M_X8_fill, k_X8_fill), (M_X8_judge, k_X8_judge), (M_X8_move, k_X8_move), (M_X8_count, k_X8_count), (M_X8_image, k_X8_image), (M_X8_undo, k_X8_undo), (M_X8_settled, k_X8_settled), (M_X8_forget, k_X8_forget), (M_X8_reckoned, k_X8_reckoned), (M_X8_drawn, k_X8_drawn), (M_X8_written, k_X8_written), (M_X8_think, k_X8_think), (M_X8_lostBy, k_X8_lostBy), (M_X8_bared, k_X8_bared), (M_X8_isHarm, k_X8_isHarm), (M_X8_harmTold, k_X8_harmTold), (M_X8_mostHarmful, k_X8_mostHarmful), (M_X8_bitOf, k_X8_bitOf), (M_X8_hasBit, k_X8_hasBit), (M_X8_rootAbove, k_X8_rootAbove), (M_X9_in, k_X9_in), (M_X9_less, k_X9_less), (M_X9_abs, k_X9_abs), (M_X9_copies, k_X9_copies), (M_X9_countOf, k_X9_countOf), (M_X9_isHole, k_X9_isHole), (M_X9_isWire, k_X9_isWire)]
def mk4 : List (MI × List Ent) := [(M_X9_its, k_X9_its), (M_X9_wires, k_X9_wires), (M_X9_isDead, k_X9_isDead), (M_X9_isUnder, k_X9_isUnder), (M_X9_firstLoad, k_X9_firstLoad), (M_X9_secondLoad, k_X9_secondLoad), (M_X9_loadsOf, k_X9_loadsOf), (M_X9_rockOf, k_X9_rockOf), (M_X9_needsOf, k_X9_needsOf), (M_X9_madeBy, k_X9_madeBy), (M_X9_isTaken, k_X9_isTaken), (M_X9_hole, k_X9_hole), (M_X9_aheadOf, k_X9_aheadOf), (M_X9_of, k_X9_of), (M_X9_becomes, k_X9_becomes), (M_X9_taken, k_X9_taken), (M_X9_wire, k_X9_wire), (M_X9_cuts, k_X9_cuts), (M_X9_cut, k_X9_cut), (M_X9_rule, k_X9_rule), (M_X9_drop, k_X9_drop), (M_X9_endOf, k_X9_endOf), (M_X9_signals, k_X9_signals), (M_X9_has, k_X9_has), (M_X9_isRelieved, k_X9_isRelieved), (M_X9_fires, k_X9_fires), (M_X9_isTorn, k_X9_isTorn), (M_X9_wired, k_X9_wired), (M_X9_ringOf, k_X9_ringOf), (M_X9_time, k_X9_time), (M_X9_shoots, k_X9_shoots), (M_X9_laysShots, k_X9_laysShots), (M_X9_shakeAt, k_X9_shakeAt), (M_X9_worstTime, k_X9_worstTime), (M_X9_worstShake, k_X9_worstShake), (M_X9_over, k_X9_over), (M_X9_lays, k_X9_lays), (M_X9_shot, k_X9_shot), (M_X9_shake, k_X9_shake), (M_X9_worst, k_X9_worst), (M_X9_safe, k_X9_safe), (M_X9_ring, k_X9_ring), (M_X9_sets, k_X9_sets), (M_X9_loads, k_X9_loads), (M_X9_compares, k_X9_compares), (M_X9_misfires, k_X9_misfires), (M_X9_breaks, k_X9_breaks), (M_X9_told, k_X9_told), (M_X9_misfire, k_X9_misfire), (M_X9_broken, k_X9_broken)]
def mk5 : List (MI × List Ent) := [(M_X9_critical, k_X9_critical), (M_X9_fits, k_X9_fits), (M_X9_plans, k_X9_plans), (M_X9_plans_, k_X9_plans_), (M_X9_plan, k_X9_plan), (M_X9_planned, k_X9_planned), (M_X9_adopt, k_X9_adopt), (M_X9_feed, k_X9_feed), (M_X9_here, k_X9_here), (M_X9_wordHere, k_X9_wordHere), (M_X9_numberHere, k_X9_numberHere), (M_X9_next, k_X9_next), (M_X9_takesNumber, k_X9_takesNumber), (M_X9_takesNumbers, k_X9_takesNumbers), (M_X9_takesHole, k_X9_takesHole), (M_X9_takesWire, k_X9_takesWire), (M_X9_does, k_X9_does), (M_X9_takesStatement, k_X9_takesStatement), (M_X9_read, k_X9_read), (M_X9_sign, k_X9_sign), (M_X9_spells, k_X9_spells), (M_X9_number, k_X9_number), (M_X9_spell, k_X9_spell), (M_X9_paper, k_X9_paper), (M_X9_step, k_X9_step), (M_X9_stepped, k_X9_stepped), (M_X9_isList, k_X9_isList), (M_X9_list, k_X9_list), (M_X9_put, k_X9_put), (M_X9_get, k_X9_get), (M_X9_layable, k_X9_layable), (M_X9_fill, k_X9_fill), (M_X9_judge, k_X9_judge), (M_X9_move, k_X9_move), (M_X9_count, k_X9_count), (M_X9_image, k_X9_image), (M_X9_undo, k_X9_undo), (M_J6_bitCount_0f7a4, k_J6_bitCount_0f7a4), (M_J1_charAt_3b067, k_J1_charAt_3b067), (M_J2_length_9d52b, k_J2_length_9d52b), (M_J2_charAt_3b067, k_J2_charAt_3b067), (M_J2_checkIndex_2214a, k_J2_checkIndex_2214a), (M_J7_fill_d0a16, k_J7_fill_d0a16), (M_J7_fill_53178, k_J7_fill_53178)]
def mktab : List (MI × List Ent) := mk1 ++ mk2 ++ mk3 ++ mk4 ++ mk5
def mtab : List MI := [M_X0_reckon, M_X0_reckonShots, M_X0_findSignals, M_X0_endOf, M_X0_findFiring, M_X0_findBuried, M_X0_doesFire, M_X0_isBuried, M_X0_unsignalled, M_X0_isTorn, M_X0_tornBits, M_X0_ringOf, M_X0_rockInRing, M_X0_rockOfIn, M_X0_canLayOut, M_X0_layOut, M_X1_isUnder, M_X1_firstLoad, M_X1_secondLoad, M_X1_rock, M_X1_needs, M_X1_made, M_X1_word, M_X2_copyFrom, M_X2_fits, M_X2_isHole, M_X2_isWire, M_X2_mark, M_X2_cord, M_X2_addHole, M_X2_markAhead, M_X2_isAhead, M_X2_changeMark, M_X2_addWire, M_X2_removeWire, M_X2_removeLastHole, M_X2_changeRule, M_X2_holeAt, M_X2_deadBits, M_X2_areNear, M_X2_columnsOff, M_X2_firstLoadOf, M_X2_secondLoadOf, M_X2_loadsOf, M_X2_hasShots, M_X2_rockOf, M_X2_needsOf, M_X2_reliefOf, M_X3_draw, M_X3_settle, M_X3_isQuiet, M_X3_shakeWith, M_X3_latest, M_X4_takeByte, M_X4_parse, M_X4_parseStatement, M_X4_verbWord, M_X4_shapeOf, M_X4_verbHere, M_X4_valueHere, M_X4_kindHere, M_X4_numberHere, M_X4_isWordHere, M_X4_nextToken, M_X4_sortOf, M_X4_carryOut, M_X4_isDone, M_X5_write, M_X5_writeHole, M_X5_writeWire, M_X5_begin, M_X5_writeWord, M_X5_writeLetters, M_X5_writeNumber, M_X5_writeByte, M_X6_isList, M_X6_isMissing, M_X6_hasPlace, M_X6_hasSpan, M_X6_renew, M_X6_copyIn, M_X6_firstOther, M_X7_clear, M_X7_addAll, M_X7_insert, M_X7_shakeAt, M_X7_weigh, M_X7_weighAt, M_X7_weightOfFirst, M_X7_lastTimeOfFirst, M_X7_holesBehind, M_X8_hole, M_X8_of, M_X8_becomes, M_X8_taken, M_X8_wire, M_X8_wired, M_X8_cut, M_X8_rule, M_X8_drop, M_X8_time, M_X8_shot, M_X8_shake, M_X8_worst, M_X8_safe, M_X8_ring, M_X8_sets, M_X8_loads, M_X8_misfire, M_X8_broken, M_X8_critical, M_X8_plan, M_X8_planned, M_X8_adopt, M_X8_feed, M_X8_read, M_X8_spell, M_X8_paper, M_X8_step, M_X8_stepped, M_X8_list, M_X8_put, M_X8_get, M_X8_fill, M_X8_judge, M_X8_move, M_X8_count, M_X8_image, M_X8_undo, M_X8_settled, M_X8_forget, M_X8_reckoned, M_X8_drawn, M_X8_written, M_X8_think, M_X8_lostBy, M_X8_bared, M_X8_isHarm, M_X8_harmTold, M_X8_mostHarmful, M_X8_bitOf, M_X8_hasBit, M_X8_rootAbove, M_X9_in, M_X9_less, M_X9_abs, M_X9_copies, M_X9_countOf, M_X9_isHole, M_X9_isWire, M_X9_its, M_X9_wires, M_X9_isDead, M_X9_isUnder, M_X9_firstLoad, M_X9_secondLoad, M_X9_loadsOf, M_X9_rockOf, M_X9_needsOf, M_X9_madeBy, M_X9_isTaken, M_X9_hole, M_X9_aheadOf, M_X9_of, M_X9_becomes, M_X9_taken, M_X9_wire, M_X9_cuts, M_X9_cut, M_X9_rule, M_X9_drop, M_X9_endOf, M_X9_signals, M_X9_has, M_X9_isRelieved, M_X9_fires, M_X9_isTorn, M_X9_wired, M_X9_ringOf, M_X9_time, M_X9_shoots, M_X9_laysShots, M_X9_shakeAt, M_X9_worstTime, M_X9_worstShake, M_X9_over, M_X9_lays, M_X9_shot, M_X9_shake, M_X9_worst, M_X9_safe, M_X9_ring, M_X9_sets, M_X9_loads, M_X9_compares, M_X9_misfires, M_X9_breaks, M_X9_told, M_X9_misfire, M_X9_broken, M_X9_critical, M_X9_fits, M_X9_plans, M_X9_plans_, M_X9_plan, M_X9_planned, M_X9_adopt, M_X9_feed, M_X9_here, M_X9_wordHere, M_X9_numberHere, M_X9_next, M_X9_takesNumber, M_X9_takesNumbers, M_X9_takesHole, M_X9_takesWire, M_X9_does, M_X9_takesStatement, M_X9_read, M_X9_sign, M_X9_spells, M_X9_number, M_X9_spell, M_X9_paper, M_X9_step, M_X9_stepped, M_X9_isList, M_X9_list, M_X9_put, M_X9_get, M_X9_layable, M_X9_fill, M_X9_judge, M_X9_move, M_X9_count, M_X9_image, M_X9_undo, M_J6_bitCount_0f7a4, M_J1_charAt_3b067, M_J2_length_9d52b, M_J2_charAt_3b067, M_J2_checkIndex_2214a, M_J7_fill_d0a16, M_J7_fill_53178, M_J0_length_8abf5, M_J0_charAt_5068e, M_J0_coder_7d493, M_J0_isLatin1_aae02, M_J0_checkIndex_df160, M_J2_getChar_3b067, M_J3_checkIndex_8e157]
end
section
abbrev Kt : Type := Nat → Lo → List AV → St → Prop
abbrev Rs : Type := List AV → St → Prop
abbrev Sp : Type := Nat → List AV → St → Rs → Prop
/-! reading the shape -/
def oc (k : Nat) : Option Nat := match shape[k]? with
  | some c => if c.1 = 0 then some c.2.1 else none
  | none => none
def fo (k j : Nat) : Option (Option Nat) := match shape[k]? with
  | some c => if c.1 = 0 then c.2.2[j]? else none
  | none => none
def al (k : Nat) : Option (Nat × Nat) := match shape[k]? with
  | some c => if c.1 = 0 then none else some (c.1, c.2.1)
  | none => match stA[k - 100]? with
    | some q => if k < 100 then none else some (7, q.2.2.length)
    | none => none
def sv (k j : Nat) : Int32 := match stA[k - 100]? with
  | some q => q.2.2.getD j 0
  | none => 0
/-- the place that a reference field names -/
def ch (k j : Nat) : Nat := match fo k j with
  | some (some r) => r
  | _ => 0
/-- kind and length of an array -/
def tag (k : Nat) : Nat := match al k with
  | some q => q.1
  | none => 0
def ln (k : Nat) : Nat := match al k with
  | some q => q.2
  | none => 0
/-- what an int array holds -/
def rd (σ : St) (k j : Nat) : Int32 := bif Nat.blt k 100 then σ.1 k j else sv k j
def rcv (k x : Nat) : Prop := if x = 99 then 200 ≤ k ∧ k < 200 + strN else oc k = some x
/-! writing -/
def upI (σ : St) (a j : Nat) (x : Int32) : St := (fun k => if k = a then upd (σ.1 a) j x else σ.1 k, σ.2)
def upJ (σ : St) (a j : Nat) (x : Int64) : St := (σ.1, fun k => if k = a then vp_updL (σ.2 a) j x else σ.2 k)
def cpI (σ : St) (k0 k1 sp dp n : Nat) : St := (fun k => if k = k1 then va_cpy (σ.1 k0) (σ.1 k1) sp dp n else σ.1 k, σ.2)
def cpJ (σ : St) (k0 k1 sp dp n : Nat) : St := (σ.1, fun k => if k = k1 then va_cpy (σ.2 k0) (σ.2 k1) sp dp n else σ.2 k)
/-! locals and stack -/
def gI (k : Int32 → Prop) : Lo → Nat → Prop
  | [], _ => False
  | some (.inl x) :: _, 0 => k x
  | some (.inr _) :: _, 0 => False
  | none :: _, 0 => False
  | _ :: t, n + 1 => gI k t n
def gL (k : Int64 → Prop) : Lo → Nat → Prop
  | [], _ => False
  | some (.inr (.inl x)) :: _, 0 => k x
  | some (.inl _) :: _, 0 => False
  | some (.inr (.inr _)) :: _, 0 => False
  | none :: _, 0 => False
  | _ :: t, n + 1 => gL k t n
def gR (k : Nat → Prop) : Lo → Nat → Prop
  | [], _ => False
  | some (.inr (.inr x)) :: _, 0 => k x
  | some (.inl _) :: _, 0 => False
  | some (.inr (.inl _)) :: _, 0 => False
  | none :: _, 0 => False
  | _ :: t, n + 1 => gR k t n
def q1 (st : List AV) (k : Int32 → List AV → Prop) : Prop := match st with
  | .inl x :: t => k x t
  | _ => False
def q2 (st : List AV) (k : Int32 → Int32 → List AV → Prop) : Prop := match st with
  | .inl y :: .inl x :: t => k x y t
  | _ => False
def qL (st : List AV) (k : Int64 → List AV → Prop) : Prop := match st with
  | .inr (.inl x) :: t => k x t
  | _ => False
def qLL (st : List AV) (k : Int64 → Int64 → List AV → Prop) : Prop := match st with
  | .inr (.inl y) :: .inr (.inl x) :: t => k x y t
  | _ => False
def qIL (st : List AV) (k : Int64 → Int32 → List AV → Prop) : Prop := match st with
  | .inl y :: .inr (.inl x) :: t => k x y t
  | _ => False
def qR (st : List AV) (k : Nat → List AV → Prop) : Prop := match st with
  | .inr (.inr a) :: t => k a t
  | _ => False
def qIR (st : List AV) (k : Nat → Int32 → List AV → Prop) : Prop := match st with
  | .inl i :: .inr (.inr a) :: t => k a i t
  | _ => False
def qIIR (st : List AV) (k : Nat → Int32 → Int32 → List AV → Prop) : Prop := match st with
  | .inl x :: .inl i :: .inr (.inr a) :: t => k a i x t
  | _ => False
def qLIR (st : List AV) (k : Nat → Int32 → Int64 → List AV → Prop) : Prop := match st with
  | .inr (.inl x) :: .inl i :: .inr (.inr a) :: t => k a i x t
  | _ => False
def qIV (st : List AV) (k : Nat → Int32 → List AV → Prop) : Prop := match st with
  | .inl x :: .inr (.inr a) :: t => k a x t
  | _ => False
def qC (st : List AV) (k : Nat → Int32 → Nat → Int32 → Int32 → List AV → Prop) : Prop := match st with
  | .inl n :: .inl dp :: .inr (.inr b) :: .inl sp :: .inr (.inr a) :: t => k a sp b dp n t
  | _ => False
def isC1 (v : AV) : Prop := match v with
  | .inr (.inl _) => False
  | _ => True
def wsum : List AV → Nat
  | [] => 0
  | .inr (.inl _) :: t => 2 + wsum t
  | _ :: t => 1 + wsum t
/-- no more than n words -/
def w8 : List AV → Nat → Prop
  | [], _ => True
  | .inr (.inl _) :: t, n + 2 => w8 t n
  | .inl _ :: t, n + 1 => w8 t n
  | .inr (.inr _) :: t, n + 1 => w8 t n
  | _, _ => False
/-- n arguments off the stack -/
def spl (k : List AV → List AV → Prop) : Nat → List AV → List AV → Prop
  | 0, acc, st => k acc st
  | n + 1, acc, v :: t => spl k n (v :: acc) t
  | _ + 1, _, [] => False
/-! branches -/
def br (c : ClassFile.Cond) (x y : Int32) (kt kf : Prop) : Prop := match c with
  | .eq => (x = y → kt) ∧ (¬ x = y → kf)
  | .ne => (¬ x = y → kt) ∧ (x = y → kf)
  | .lt => (x < y → kt) ∧ (¬ x < y → kf)
  | .ge => (y ≤ x → kt) ∧ (¬ y ≤ x → kf)
  | .gt => (y < x → kt) ∧ (¬ y < x → kf)
  | .le => (x ≤ y → kt) ∧ (¬ x ≤ y → kf)
def sw (k : Nat → Prop) (x : Int32) (d : Nat) : List (Int32 × Nat) → Prop
  | [] => k d
  | q :: t => (x = q.1 → k q.2) ∧ (¬ x = q.1 → sw k x d t)
/-- what an instruction asks, given what the places behind it ask -/
def sem (S : Sp) (Rt : Rs) (K : Kt) (e : Ent) (lo : Lo) (st : List AV) (σ : St) : Prop := match e with
  | (pc, i, len, x1, x2, _, x4, zi, zl, ks) => match i with
    | .iconst _ => K (pc + 1) lo (aI zi :: st) σ
    | .bipush _ => K (pc + 2) lo (aI zi :: st) σ
    | .sipush _ => K (pc + 3) lo (aI zi :: st) σ
    | .lconst _ => K (pc + 1) lo (aL zl :: st) σ
    | .ldc _ => bif x1 == 1 then K (pc + 2) lo (aR (200 + x2) :: st) σ else K (pc + 2) lo (aI zi :: st) σ
    | .ldc_w _ => K (pc + 3) lo (aI zi :: st) σ
    | .ldc2_w _ => K (pc + 3) lo (aL zl :: st) σ
    | .iload_n _ => gI (fun x => K (pc + 1) lo (aI x :: st) σ) lo x1
    | .iload _ => gI (fun x => K (pc + 2) lo (aI x :: st) σ) lo x1
    | .lload_n _ => gL (fun x => K (pc + 1) lo (aL x :: st) σ) lo x1
    | .lload _ => gL (fun x => K (pc + 2) lo (aL x :: st) σ) lo x1
    | .aload_n _ => gR (fun x => K (pc + 1) lo (aR x :: st) σ) lo x1
    | .aload _ => gR (fun x => K (pc + 2) lo (aR x :: st) σ) lo x1
    | .istore_n _ => q1 st fun x t => K (pc + 1) (sto lo x1 (aI x)) t σ
    | .istore _ => q1 st fun x t => K (pc + 2) (sto lo x1 (aI x)) t σ
    | .lstore_n _ => qL st fun x t => K (pc + 1) (stoL lo x1 (aL x)) t σ
    | .lstore _ => qL st fun x t => K (pc + 2) (stoL lo x1 (aL x)) t σ
    | .astore_n _ => qR st fun x t => K (pc + 1) (sto lo x1 (aR x)) t σ
    | .astore _ => qR st fun x t => K (pc + 2) (sto lo x1 (aR x)) t σ
    | .iinc _ _ => gI (fun x => K (pc + 3) (sto lo x1 (aI (x + zi))) st σ) lo x1
    | .iadd => q2 st fun x y t => K (pc + 1) lo (aI (x + y) :: t) σ
    | .isub => q2 st fun x y t => K (pc + 1) lo (aI (x - y) :: t) σ
    | .imul => q2 st fun x y t => K (pc + 1) lo (aI (x * y) :: t) σ
    | .idiv => q2 st fun x y t => ¬ y = 0 ∧ K (pc + 1) lo (aI (x / y) :: t) σ
    | .irem => q2 st fun x y t => ¬ y = 0 ∧ K (pc + 1) lo (aI (x - x / y * y) :: t) σ
    | .ineg => q1 st fun x t => K (pc + 1) lo (aI (-x) :: t) σ
    | .iand => q2 st fun x y t => K (pc + 1) lo (aI (x &&& y) :: t) σ
    | .ior => q2 st fun x y t => K (pc + 1) lo (aI (x ||| y) :: t) σ
    | .ixor => q2 st fun x y t => K (pc + 1) lo (aI (x ^^^ y) :: t) σ
    | .ishl => q2 st fun x y t => K (pc + 1) lo (aI (x <<< (y &&& 31)) :: t) σ
    | .ishr => q2 st fun x y t => K (pc + 1) lo (aI (x >>> (y &&& 31)) :: t) σ
    | .iushr => q2 st fun x y t => K (pc + 1) lo (aI (x.toUInt32 >>> (y.toUInt32 &&& Int32.toUInt32 31)).toInt32 :: t) σ
    | .i2l => q1 st fun x t => K (pc + 1) lo (aL x.toInt64 :: t) σ
    | .i2b => q1 st fun x t => K (pc + 1) lo (aI x.toInt8.toInt32 :: t) σ
    | .ladd => qLL st fun x y t => K (pc + 1) lo (aL (x + y) :: t) σ
    | .lmul => qLL st fun x y t => K (pc + 1) lo (aL (x * y) :: t) σ
    | .land => qLL st fun x y t => K (pc + 1) lo (aL (x &&& y) :: t) σ
    | .lor => qLL st fun x y t => K (pc + 1) lo (aL (x ||| y) :: t) σ
    | .lshl => qIL st fun x y t => K (pc + 1) lo (aL (x <<< (y.toInt64 &&& 63)) :: t) σ
    | .lcmp => qLL st fun x y t => K (pc + 1) lo (aI (lg_cmp x y) :: t) σ
    | .dup => match st with
      | v :: t => isC1 v ∧ K (pc + 1) lo (v :: v :: t) σ
      | _ => False
    | .dup2 => match st with
      | v :: u :: t => isC1 v ∧ isC1 u ∧ K (pc + 1) lo (v :: u :: v :: u :: t) σ
      | _ => False
    | .pop => match st with
      | v :: t => isC1 v ∧ K (pc + 1) lo t σ
      | _ => False
    | .ifCond c _ => q1 st fun x t => br c x 0 (K x1 lo t σ) (K (pc + 3) lo t σ)
    | .if_icmp c _ => q2 st fun x y t => br c x y (K x1 lo t σ) (K (pc + 3) lo t σ)
    | .goto _ => K x1 lo st σ
    | .tableswitch _ _ _ _ => q1 st fun x t => sw (fun q => K q lo t σ) x x1 ks
    | .lookupswitch _ _ => q1 st fun x t => sw (fun q => K q lo t σ) x x1 ks
    | .getfield _ => qR st fun a t => oc a = some x1 ∧ (bif x4 == 2 then K (pc + 3) lo (aR (ch a x2) :: t) σ else K (pc + 3) lo (aI (σ.1 a x2) :: t) σ)
    | .putfield _ => qIV st fun a x t => oc a = some x1 ∧ (bif x4 == 1 then (x = 0 ∨ x = 1) ∧ K (pc + 3) lo t (upI σ a x2 x) else K (pc + 3) lo t (upI σ a x2 x))
    | .getstatic _ => K (pc + 3) lo (aR (100 + x1) :: st) σ
    | .iaload => qIR st fun a i t => (tag a = 1 ∨ tag a = 7) ∧ vp_in i (ln a) ∧ K (pc + 1) lo (aI (rd σ a i.toNatClampNeg) :: t) σ
    | .baload => qIR st fun a i t => tag a = 2 ∧ vp_in i (ln a) ∧ K (pc + 1) lo (aI (σ.1 a i.toNatClampNeg) :: t) σ
    | .caload => qIR st fun a i t => tag a = 3 ∧ vp_in i (ln a) ∧ K (pc + 1) lo (aI (σ.1 a i.toNatClampNeg) :: t) σ
    | .laload => qIR st fun a i t => tag a = 4 ∧ vp_in i (ln a) ∧ K (pc + 1) lo (aL (σ.2 a i.toNatClampNeg) :: t) σ
    | .aaload => qIR st fun a i t => a = 42 ∧ vp_in i 4 ∧ K (pc + 1) lo (aR (43 + i.toNatClampNeg) :: t) σ
    | .arraylength => qR st fun a t => tag a ≠ 0 ∧ K (pc + 1) lo (aI (Int32.ofNat (ln a)) :: t) σ
    | .iastore => qIIR st fun a i x t => tag a = 1 ∧ vp_in i (ln a) ∧ K (pc + 1) lo t (upI σ a i.toNatClampNeg x)
    | .bastore => qIIR st fun a i x t => tag a = 2 ∧ vp_in i (ln a) ∧ K (pc + 1) lo t (upI σ a i.toNatClampNeg x.toInt8.toInt32)
    | .lastore => qLIR st fun a i x t => tag a = 4 ∧ vp_in i (ln a) ∧ K (pc + 1) lo t (upJ σ a i.toNatClampNeg x)
    | .invokevirtual _ => spl (fun av st => qR st fun a t => rcv a x4 ∧ w8 t 8 ∧ S x1 (aR a :: av) σ (fun r σ' => K (pc + 3) lo (r ++ t) σ')) x2 [] st
    | .invokestatic _ => bif x4 == 9 then (qC st fun a sp b dp n t => (tag a = 1 ∧ tag b = 1) ∧ ¬ sp < 0 ∧ ¬ dp < 0 ∧ ¬ n < 0 ∧ sp.toNatClampNeg + n.toNatClampNeg ≤ ln a ∧ dp.toNatClampNeg + n.toNatClampNeg ≤ ln b ∧ w8 t 8 ∧ K (pc + 3) lo t (cpI σ a b sp.toNatClampNeg dp.toNatClampNeg n.toNatClampNeg))
      else bif x4 == 8 then (qC st fun a sp b dp n t => (tag a = 4 ∧ tag b = 4) ∧ ¬ sp < 0 ∧ ¬ dp < 0 ∧ ¬ n < 0 ∧ sp.toNatClampNeg + n.toNatClampNeg ≤ ln a ∧ dp.toNatClampNeg + n.toNatClampNeg ≤ ln b ∧ w8 t 8 ∧ K (pc + 3) lo t (cpJ σ a b sp.toNatClampNeg dp.toNatClampNeg n.toNatClampNeg))
      else bif x4 == 10 then q2 st fun x y t => w8 t 8 ∧ K (pc + 3) lo (aI (if x < y then y else x) :: t) σ
      else bif x4 == 11 then q2 st fun x y t => w8 t 8 ∧ K (pc + 3) lo (aI (if y < x then y else x) :: t) σ
      else bif x4 == 12 then q1 st fun x t => w8 t 8 ∧ K (pc + 3) lo (aI (if 0 ≤ x then x else 0 - x) :: t) σ
      else spl (fun av t => w8 t 8 ∧ S x1 av σ (fun r σ' => K (pc + 3) lo (r ++ t) σ')) x2 [] st
    | .ireturn => q1 st fun x t => t = [] ∧ (bif x1 == 1 then (x = 0 ∨ x = 1) ∧ Rt [aI x] σ else Rt [aI x] σ)
    | .lreturn => qL st fun x t => t = [] ∧ Rt [aL x] σ
    | .areturn => qR st fun a t => t = [] ∧ Rt [aR a] σ
    | .return_ => st = [] ∧ Rt [] σ
    | _ => False
/-- the table's words that any callee may have -/
def tg : List Jvm.Cond := lw_tbl.filter goodWord
/-- a word by its place -/
def atW (i : Nat) (w : Jvm.Cond) : Bool := decide (lw_tbl[i]? = some w) && goodWord w
theorem atW_in {i : Nat} {w : Jvm.Cond} (h : atW i w = true) : w ∈ tg := by
  simp only [atW, Bool.and_eq_true, decide_eq_true_eq] at h
  exact List.mem_filter.mpr ⟨List.mem_of_getElem? h.1, h.2⟩
theorem tg_good : GoodIn tg tg := fun w h => ⟨h, good_of_word (List.mem_filter.mp h).2⟩
/-- a descriptor of a reference -/
def isRd (d : String) : Bool := d != "I" && d != "Z"
/-- the method's own words are right -/
def okM (M : MI) : Bool := match M with
  | (y, b, mL, r, n, _, _, stt, p1, p2, p3, p4) => atW p1 (.code y b mL r) && (if stt then atW p2 (.static y) else atW p2 (.instanceMethod y) && atW p3 (.selects y.cls y y)) && atW p4 (.initialized y.cls) && decide (y.cls ≠ "java/lang/invoke/MethodHandle") && decide (y.cls ≠ "java/lang/invoke/VarHandle") && decide ((parseMethodDescriptor y.desc).map (fun d => d.parameters.length) = some n) && plainName y.cls
/-- the decoded row is right: its bytes, its links, its room -/
def okE (own : String) (cc : ByteArray) (nL fr lc : Nat) (rt : Option FieldType) (e : Ent) : Bool := match e with
  | (pc, i, len, x1, x2, x3, x4, zi, zl, ks) => decide (decode cc pc = .ok (i, len)) && match i with
    | .iconst n => decide (Int32.ofInt n = zi) && len == 1
    | .bipush n => decide ((Int8.ofInt n).toInt32 = zi) && len == 2
    | .sipush n => decide ((Int16.ofInt n).toInt32 = zi) && len == 3
    | .lconst n => decide (Int64.ofNat (n : Nat) = zl) && len == 1
    | .ldc idx => len == 2 && (if x1 = 1 then (match strR[x3]? with
        | some q => q.1 == own && q.2.1 == idx && q.2.2.2 == x2
        | none => false) else atW x3 (.constant own idx zi))
    | .ldc_w idx => len == 3 && atW x3 (.constant own idx zi)
    | .ldc2_w idx => len == 3 && atW x3 (.constantLong own idx zl)
    | .iload_n k => len == 1 && decide ((k : Nat) = x1)
    | .lload_n k => len == 1 && decide ((k : Nat) = x1)
    | .aload_n k => len == 1 && decide ((k : Nat) = x1)
    | .iload k => len == 2 && decide ((k : Nat) = x1)
    | .lload k => len == 2 && decide ((k : Nat) = x1)
    | .aload k => len == 2 && decide ((k : Nat) = x1)
    | .istore_n k => len == 1 && decide ((k : Nat) = x1) && decide ((k : Nat) < nL)
    | .astore_n k => len == 1 && decide ((k : Nat) = x1) && decide ((k : Nat) < nL)
    | .lstore_n k => len == 1 && decide ((k : Nat) = x1) && decide ((k : Nat) + 1 < nL)
    | .istore k => len == 2 && decide ((k : Nat) = x1) && decide (k < nL)
    | .astore k => len == 2 && decide ((k : Nat) = x1) && decide (k < nL)
    | .lstore k => len == 2 && decide ((k : Nat) = x1) && decide (k + 1 < nL)
    | .iinc k n => len == 3 && decide (k = x1) && decide (k < nL) && decide (Int32.ofInt n = zi)
    | .ifCond _ off => len == 3 && decide ((pc : Int) + off = (x1 : Int))
    | .if_icmp _ off => len == 3 && decide ((pc : Int) + off = (x1 : Int))
    | .goto off => len == 3 && decide ((pc : Int) + off = (x1 : Int))
    | .tableswitch d a b os => decide ((pc : Int) + d = (x1 : Int)) && decide ((os.size : Int) = b - a + 1) && decide (ks.map (fun q => q.1.toInt) = (List.range os.size).map (fun (j : Nat) => a + (j : Int))) && decide (ks.map (fun q => (q.2 : Int)) = os.toList.map (fun o => (pc : Int) + o))
    | .lookupswitch d ps => decide ((pc : Int) + d = (x1 : Int)) && decide (ks.map (fun q => q.1.toInt) = ps.toList.map (fun o => o.1)) && decide (ks.map (fun q => (q.2 : Int)) = ps.toList.map (fun o => (pc : Int) + o.2)) && (ps.toList.zip (ps.toList.drop 1)).all (fun (a, next) => a.1 < next.1)
    | .getfield idx => len == 3 && (match vwCl[x1]? with
      | some (C, F, N) => decide (x2 < N) && decide ((F x2).1 = C) && atW x3 (.fieldLink own idx C (F x2).2.1 (F x2).2.2.1) && ((x4 == 2) == isRd (F x2).2.2.1)
      | none => false)
    | .putfield idx => len == 3 && (match vwCl[x1]? with
      | some (C, F, N) => decide (x2 < N) && decide ((F x2).1 = C) && atW x3 (.fieldLink own idx C (F x2).2.1 (F x2).2.2.1) && decide ((F x2).2.2.2 = false) && (isRd (F x2).2.2.1 == false) && (if x4 = 1 then decide (parseFieldDescriptor (F x2).2.2.1 = some .boolean) else decide (parseFieldDescriptor (F x2).2.2.1 = some .int))
      | none => false)
    | .getstatic idx => len == 3 && (match stA[x1]? with
      | some q => if x2 = 1 then (match nestF[x3]? with
          | some f => f.1 == own && f.2.1 == idx && f.2.2.1 == q.1 && f.2.2.2.1 == q.2.1 && f.2.2.2.2.1 == "[I"
          | none => false) else atW x3 (.fieldLink own idx q.1 q.2.1 "[I")
      | none => false)
    | .invokevirtual idx => len == 3 && (match mtab[x1]? with
      | some M => atW x3 (.methodLink own idx M.1) && okM M && decide (M.2.2.2.2.1 = x2) && (M.2.2.2.2.2.2.2.1 == false) && decide (M.2.2.2.2.2.1 + 1 ≤ fr) && decide (8 + (M.2.2.1 + 11) + M.2.2.2.2.2.2.1 ≤ lc) && (if x4 = 99 then M.1.cls == "java/lang/String" else match vwCl[x4]? with
          | some q => q.1 == M.1.cls
          | none => false)
      | none => false)
    | .invokestatic idx => len == 3 && (if x4 = 9 ∨ x4 = 8 then atW x3 (.methodLink own idx arraycopyName) && decide (1 ≤ fr) && decide (8 + (nativeFrameWords "java/lang/System" "arraycopy" 5 + 11) ≤ lc) else if x4 = 10 then atW x3 (.methodLink own idx Lib.Math.max.name) && decide (1 ≤ fr) && decide (21 ≤ lc) else if x4 = 11 then atW x3 (.methodLink own idx Lib.Math.min.name) && decide (1 ≤ fr) && decide (21 ≤ lc) else if x4 = 12 then atW x3 (.methodLink own idx Lib.Math.abs.name) && decide (1 ≤ fr) && decide (21 ≤ lc) else match mtab[x1]? with
      | some M => (if x4 = 1 then (match nestM[x3]? with
          | some f => f.1 == own && f.2.1 == idx && decide (f.2.2.1 = M.1)
          | none => false) else atW x3 (.methodLink own idx M.1)) && okM M && decide (M.2.2.2.2.1 = x2) && (M.2.2.2.2.2.2.2.1 == true) && decide (M.2.2.2.2.2.1 + 1 ≤ fr) && decide (8 + (M.2.2.1 + 11) + M.2.2.2.2.2.2.1 ≤ lc)
      | none => false)
    | .ireturn => len == 1 && (match rt with
      | some .int => true
      | some .boolean => x1 == 1
      | _ => false)
    | .lreturn => len == 1 && decide (rt = some .long)
    | .areturn => len == 1 && (match rt with
      | some (.object _) => true
      | some (.array _) => true
      | _ => false)
    | .return_ => len == 1 && decide (rt = none)
    | _ => len == 1
end
section
/-! what the readers say -/
theorem gI_e {k : Int32 → Prop} : ∀ {lo : Lo} {i : Nat}, gI k lo i → ∃ x, lo[i]? = some (some (aI x)) ∧ k x
  | [], i, h => by simp [gI] at h
  | some (.inl x) :: t, 0, h => ⟨x, rfl, h⟩
  | some (.inr x) :: t, 0, h => by simp [gI] at h
  | none :: t, 0, h => by simp [gI] at h
  | a :: t, n + 1, h => by
    obtain ⟨x, h1, h2⟩ := gI_e (lo := t) (i := n) (by simpa [gI] using h)
    exact ⟨x, by simpa using h1, h2⟩
theorem gL_e {k : Int64 → Prop} : ∀ {lo : Lo} {i : Nat}, gL k lo i → ∃ x, lo[i]? = some (some (aL x)) ∧ k x
  | [], i, h => by simp [gL] at h
  | some (.inr (.inl x)) :: t, 0, h => ⟨x, rfl, h⟩
  | some (.inl x) :: t, 0, h => by simp [gL] at h
  | some (.inr (.inr x)) :: t, 0, h => by simp [gL] at h
  | none :: t, 0, h => by simp [gL] at h
  | a :: t, n + 1, h => by
    obtain ⟨x, h1, h2⟩ := gL_e (lo := t) (i := n) (by simpa [gL] using h)
    exact ⟨x, by simpa using h1, h2⟩
theorem gR_e {k : Nat → Prop} : ∀ {lo : Lo} {i : Nat}, gR k lo i → ∃ x, lo[i]? = some (some (aR x)) ∧ k x
  | [], i, h => by simp [gR] at h
  | some (.inr (.inr x)) :: t, 0, h => ⟨x, rfl, h⟩
  | some (.inl x) :: t, 0, h => by simp [gR] at h
  | some (.inr (.inl x)) :: t, 0, h => by simp [gR] at h
  | none :: t, 0, h => by simp [gR] at h
  | a :: t, n + 1, h => by
    obtain ⟨x, h1, h2⟩ := gR_e (lo := t) (i := n) (by simpa [gR] using h)
    exact ⟨x, by simpa using h1, h2⟩
theorem q1_e {st : List AV} {k : Int32 → List AV → Prop} (h : q1 st k) : ∃ x t, st = aI x :: t ∧ k x t := by
  unfold q1 at h; split at h
  · exact ⟨_, _, rfl, h⟩
  · exact h.elim
theorem q2_e {st : List AV} {k : Int32 → Int32 → List AV → Prop} (h : q2 st k) : ∃ x y t, st = aI y :: aI x :: t ∧ k x y t := by
  unfold q2 at h; split at h
  · exact ⟨_, _, _, rfl, h⟩
  · exact h.elim
theorem qL_e {st : List AV} {k : Int64 → List AV → Prop} (h : qL st k) : ∃ x t, st = aL x :: t ∧ k x t := by
  unfold qL at h; split at h
  · exact ⟨_, _, rfl, h⟩
  · exact h.elim
theorem qLL_e {st : List AV} {k : Int64 → Int64 → List AV → Prop} (h : qLL st k) : ∃ x y t, st = aL y :: aL x :: t ∧ k x y t := by
  unfold qLL at h; split at h
  · exact ⟨_, _, _, rfl, h⟩
  · exact h.elim
theorem qIL_e {st : List AV} {k : Int64 → Int32 → List AV → Prop} (h : qIL st k) : ∃ x y t, st = aI y :: aL x :: t ∧ k x y t := by
  unfold qIL at h; split at h
  · exact ⟨_, _, _, rfl, h⟩
  · exact h.elim
theorem qR_e {st : List AV} {k : Nat → List AV → Prop} (h : qR st k) : ∃ a t, st = aR a :: t ∧ k a t := by
  unfold qR at h; split at h
  · exact ⟨_, _, rfl, h⟩
  · exact h.elim
theorem qIR_e {st : List AV} {k : Nat → Int32 → List AV → Prop} (h : qIR st k) : ∃ a i t, st = aI i :: aR a :: t ∧ k a i t := by
  unfold qIR at h; split at h
  · exact ⟨_, _, _, rfl, h⟩
  · exact h.elim
theorem qIV_e {st : List AV} {k : Nat → Int32 → List AV → Prop} (h : qIV st k) : ∃ a i t, st = aI i :: aR a :: t ∧ k a i t := by
  unfold qIV at h; split at h
  · exact ⟨_, _, _, rfl, h⟩
  · exact h.elim
theorem qIIR_e {st : List AV} {k : Nat → Int32 → Int32 → List AV → Prop} (h : qIIR st k) : ∃ a i x t, st = aI x :: aI i :: aR a :: t ∧ k a i x t := by
  unfold qIIR at h; split at h
  · exact ⟨_, _, _, _, rfl, h⟩
  · exact h.elim
theorem qLIR_e {st : List AV} {k : Nat → Int32 → Int64 → List AV → Prop} (h : qLIR st k) : ∃ a i x t, st = aL x :: aI i :: aR a :: t ∧ k a i x t := by
  unfold qLIR at h; split at h
  · exact ⟨_, _, _, _, rfl, h⟩
  · exact h.elim
theorem qC_e {st : List AV} {k : Nat → Int32 → Nat → Int32 → Int32 → List AV → Prop} (h : qC st k) : ∃ a sp b dp n t, st = aI n :: aI dp :: aR b :: aI sp :: aR a :: t ∧ k a sp b dp n t := by
  unfold qC at h; split at h
  · exact ⟨_, _, _, _, _, _, rfl, h⟩
  · exact h.elim
theorem isC1_e {ad : Nat → Nat} {v : AV} (h : isC1 v) : (cv ad v).category = 1 := by
  rcases v with x | x | x
  · rfl
  · exact h.elim
  · rfl
theorem wsum_e {ad : Nat → Nat} : ∀ t : List AV, ((t.map (cv ad)).map fun v => v.category).sum = wsum t
  | [] => rfl
  | .inl x :: t => by
    have := wsum_e (ad := ad) t
    simp only [List.map_cons, List.sum_cons, wsum, this]; rfl
  | .inr (.inl x) :: t => by
    have := wsum_e (ad := ad) t
    simp only [List.map_cons, List.sum_cons, wsum, this]; rfl
  | .inr (.inr x) :: t => by
    have := wsum_e (ad := ad) t
    simp only [List.map_cons, List.sum_cons, wsum, this]; rfl
theorem w8_e : ∀ {t : List AV} {n : Nat}, w8 t n → wsum t ≤ n
  | [], n, h => Nat.zero_le n
  | .inr (.inl _) :: t, 0, h => by simp [w8] at h
  | .inr (.inl _) :: t, 1, h => by simp [w8] at h
  | .inr (.inl _) :: t, n + 2, h => by
    have := w8_e (t := t) (n := n) (by simpa [w8] using h)
    simp only [wsum]; omega
  | .inl _ :: t, 0, h => by simp [w8] at h
  | .inl _ :: t, n + 1, h => by
    have := w8_e (t := t) (n := n) (by simpa [w8] using h)
    simp only [wsum]; omega
  | .inr (.inr _) :: t, 0, h => by simp [w8] at h
  | .inr (.inr _) :: t, n + 1, h => by
    have := w8_e (t := t) (n := n) (by simpa [w8] using h)
    simp only [wsum]; omega
theorem spl_e {k : List AV → List AV → Prop} : ∀ {n : Nat} {acc st : List AV}, spl k n acc st → ∃ l t, st = l ++ t ∧ l.length = n ∧ k (l.reverse ++ acc) t
  | 0, acc, st, h => ⟨[], st, rfl, rfl, h⟩
  | n + 1, acc, [], h => by simp [spl] at h
  | n + 1, acc, v :: t, h => by
    obtain ⟨l, t', h1, h2, h3⟩ := spl_e (n := n) (acc := v :: acc) (st := t) h
    exact ⟨v :: l, t', by rw [h1]; rfl, by simp [h2], by simpa using h3⟩
theorem spl_m {k k' : List AV → List AV → Prop} (h : ∀ a t, k a t → k' a t) : ∀ {n : Nat} {acc st : List AV}, spl k n acc st → spl k' n acc st
  | 0, acc, st, g => h _ _ g
  | n + 1, acc, [], g => g
  | n + 1, acc, v :: t, g => spl_m h (n := n) (acc := v :: acc) (st := t) g
theorem oc_e {k ci : Nat} (h : oc k = some ci) : ∃ c, shape[k]? = some c ∧ c.1 = 0 ∧ c.2.1 = ci := by
  unfold oc at h; split at h
  · rename_i c hc
    split at h
    · exact ⟨c, hc, by assumption, Option.some.inj h⟩
    · cases h
  · cases h
theorem fo_e {k j : Nat} {o : Option Nat} (h : fo k j = some o) : ∃ c, shape[k]? = some c ∧ c.1 = 0 ∧ c.2.2[j]? = some o := by
  unfold fo at h; split at h
  · rename_i c hc
    split at h
    · exact ⟨c, hc, by assumption, h⟩
    · cases h
  · cases h
theorem shape_tag : ∀ c ∈ shape, c.1 ≤ 5 := by decide
theorem al_e {k : Nat} {q : Nat × Nat} (h : al k = some q) (h7 : q.1 ≠ 7) : ∃ c, shape[k]? = some c ∧ c.1 ≠ 0 ∧ c.1 = q.1 ∧ c.2.1 = q.2 := by
  unfold al at h; split at h
  · rename_i c hc
    split at h
    · cases h
    · cases h; exact ⟨c, hc, by assumption, rfl, rfl⟩
  · split at h
    · split at h
      · cases h
      · cases h; exact absurd rfl h7
    · cases h
theorem al_7 {k : Nat} {q : Nat × Nat} (h : al k = some q) (h7 : q.1 = 7) : ∃ f, stA[k - 100]? = some f ∧ 100 ≤ k ∧ q.2 = f.2.2.length := by
  unfold al at h; split at h
  · rename_i c hc
    split at h
    · cases h
    · cases h
      have := shape_tag c (List.mem_of_getElem? hc)
      exact absurd h7 (by show c.1 ≠ 7; omega)
  · split at h
    · rename_i f hf
      split at h
      · cases h
      · cases h; exact ⟨f, hf, by omega, rfl⟩
    · cases h
def chkS (k : Nat) : Bool := match shape[k]? with
  | some c => if c.1 = 0 then (match vwCl[c.2.1]? with
    | some q => (c.2.2.length == q.2.2) && (List.range q.2.2).all (fun j => match c.2.2[j]? with
      | some none => !isRd (q.2.1 j).2.2.1
      | some (some _) => isRd (q.2.1 j).2.2.1
      | none => false)
    | none => false) else true
  | none => true
theorem chkS_ok : (List.range NP).all chkS = true := by decide +kernel
theorem fo_of {a ci j : Nat} {C : String} {F : u_T} {N : Nat} (ho : oc a = some ci) (hc : vwCl[ci]? = some (C, F, N)) (hj : j < N) : (isRd (F j).2.2.1 = false → fo a j = some none) ∧ (isRd (F j).2.2.1 = true → fo a j = some (some (ch a j))) := by
  obtain ⟨c, h1, h2, h3⟩ := oc_e ho
  have hk := List.all_eq_true.mp chkS_ok a (List.mem_range.mpr (shape_lt h1))
  simp only [chkS, h1, h2, if_true, h3, hc, Bool.and_eq_true, List.all_eq_true, beq_iff_eq] at hk
  have hk := hk.2 j (List.mem_range.mpr hj)
  have hf : fo a j = c.2.2[j]? := by simp only [fo, h1, h2, if_true]
  refine ⟨fun q => ?_, fun q => ?_⟩
  · split at hk
    · rename_i e; rw [hf, e]
    · rw [q] at hk; cases hk
    · cases hk
  · split at hk
    · rw [q] at hk; cases hk
    · rename_i r e; simp only [ch, hf, e]
    · cases hk
theorem tag_e {a t : Nat} (h : tag a = t) (ht : t ≠ 0) : ∃ q, al a = some q ∧ q.1 = t ∧ q.2 = ln a := by
  unfold tag at h
  split at h
  · rename_i q hq
    exact ⟨q, hq, h, by simp only [ln, hq]⟩
  · exact absurd h.symm ht
theorem rd_lt {σ : St} {a j : Nat} (h : a < 100) : rd σ a j = σ.1 a j := by
  unfold rd
  rw [show Nat.blt a 100 = true from Nat.ble_eq.mpr (by omega)]
  rfl
theorem rd_ge {σ : St} {a j : Nat} (h : 100 ≤ a) : rd σ a j = sv a j := by
  unfold rd
  cases hb : Nat.blt a 100 with
  | false => rfl
  | true => have := Nat.ble_eq.mp hb; omega
theorem flds_get {ad : Nat → Nat} {f : Nat → Int32} : ∀ {fs : List (Option Nat)} {i j : Nat} {o : Option Nat}, fs[j]? = some o → (flds ad f i fs)[j]? = some (match o with
    | none => Value.int (f (i + j))
    | some r => Value.ref (ad r))
  | [], i, j, o, h => by simp at h
  | none :: t, i, 0, o, h => by simp only [List.getElem?_cons_zero, Option.some.injEq] at h; subst h; rfl
  | some r :: t, i, 0, o, h => by simp only [List.getElem?_cons_zero, Option.some.injEq] at h; subst h; rfl
  | none :: t, i, j + 1, o, h => by
    have := flds_get (ad := ad) (f := f) (fs := t) (i := i + 1) (j := j) (by simpa using h)
    rw [show i + 1 + j = i + (j + 1) by omega] at this
    simpa [flds] using this
  | some r :: t, i, j + 1, o, h => by
    have := flds_get (ad := ad) (f := f) (fs := t) (i := i + 1) (j := j) (by simpa using h)
    rw [show i + 1 + j = i + (j + 1) by omega] at this
    simpa [flds] using this
theorem flds_len {ad : Nat → Nat} {f : Nat → Int32} : ∀ {fs : List (Option Nat)} {i : Nat}, (flds ad f i fs).length = fs.length
  | [], i => rfl
  | none :: t, i => by simp [flds, flds_len (fs := t)]
  | some r :: t, i => by simp [flds, flds_len (fs := t)]
theorem flds_congr {ad : Nat → Nat} {f g : Nat → Int32} : ∀ {fs : List (Option Nat)} {i : Nat}, (∀ k, i ≤ k → f k = g k) → flds ad f i fs = flds ad g i fs
  | [], i, h => rfl
  | none :: t, i, h => by simp only [flds, h i (Nat.le_refl i), flds_congr (fs := t) (i := i + 1) (fun k hk => h k (by omega))]
  | some r :: t, i, h => by simp only [flds, flds_congr (fs := t) (i := i + 1) (fun k hk => h k (by omega))]
theorem flds_set {ad : Nat → Nat} {f : Nat → Int32} {x : Int32} : ∀ {fs : List (Option Nat)} {i j : Nat}, fs[j]? = some none → flds ad (upd f (i + j) x) i fs = (flds ad f i fs).set j (.int x)
  | [], i, j, h => by simp at h
  | none :: t, i, 0, h => by
    simp only [flds, Nat.add_zero, List.set_cons_zero]
    rw [flds_congr (f := upd f i x) (g := f) (fun k hk => by simp only [upd]; rw [if_neg (by omega)])]
    simp [upd]
  | some r :: t, i, 0, h => by simp at h
  | none :: t, i, j + 1, h => by
    have := flds_set (ad := ad) (f := f) (x := x) (fs := t) (i := i + 1) (j := j) (by simpa using h)
    rw [show i + 1 + j = i + (j + 1) by omega] at this
    simp only [flds, this, List.set_cons_succ]
    simp only [upd]
    rw [if_neg (by omega)]
  | some r :: t, i, j + 1, h => by
    have := flds_set (ad := ad) (f := f) (x := x) (fs := t) (i := i + 1) (j := j) (by simpa using h)
    rw [show i + 1 + j = i + (j + 1) by omega] at this
    simp only [flds, this, List.set_cons_succ]
/-! the judgement -/
def Vd (D : va_G) (cy : Nat → ClassId) (ad : Nat → Nat) (A : Nat → Prop) (nL : Nat) (p : Program) (l : Launch) (e : Env) (R : Room) (s : State) (m : MethodId) (args : Array Value) (below : List Frame) (meth : Method) (c : Code) (cells slots : Nat) (Q : State → Prop) : Kt := fun pc lo st σ =>
  ∀ (H : Heap) (locs : List Loc) (ls : Array Slot), va_P D vwCl (WS cy ad σ) H → va_S A s.heap H locs → lv_has ls nL (prs ad 0 lo) → W p l e R s m args below meth c H locs cells slots Q (F0 m pc ls (st.map (cv ad)))
def Post (D : va_G) (cy : Nat → ClassId) (ad : Nat → Nat) (A : Nat → Prop) (Φ : Rs) : State → Outcome → State → Prop := fun st oc t =>
  (∃ (r : List AV) (σ' : St), r.length ≤ 1 ∧ oc = .returned ((r.map (cv ad)).head?) ∧ Φ r σ' ∧ va_P D vwCl (WS cy ad σ') t.heap) ∧ va_F A st t
def Prec (D : va_G) (cy : Nat → ClassId) (ad : Nat → Nat) (A : Nat → Prop) (av : List AV) (σ : St) : Array Value → State → Prop :=
  va_Pc (av.map (cv ad)) (fun U => va_P D vwCl (WS cy ad σ) U.heap ∧ va_K D vwCl (tysOf cy) U ∧ Ex ad A U U.heap)
def wsM (M : MI) : List Jvm.Cond := Jvm.Cond.code M.1 M.2.1 M.2.2.1 M.2.2.2.1 :: tg
def rmM (M : MI) : Room := { frames := M.2.2.2.2.2.1, cells := 0, slots := 0, locals := M.2.2.2.2.2.2.1 }
/-- a method's contract -/
def MetV (l : Launch) (D : va_G) (cy : Nat → ClassId) (ad : Nat → Nat) (A : Nat → Prop) (M : MI) (av : List AV) (σ : St) (Φ : Rs) : Prop :=
  Met l M.1 (wsM M) (rmM M) (Prec D cy ad A av σ) (fun _ => Post D cy ad A Φ) 0 0 A
theorem Prec_blind {D : va_G} {cy : Nat → ClassId} {ad : Nat → Nat} {A : Nat → Prop} {av : List AV} {σ : St} : FrameBlind (Prec D cy ad A av σ) := by
  intro a U g mk q
  obtain ⟨q0, qP, qK, qE⟩ := q
  exact ⟨q0, qP, va_K.moved (u := U) (U := U.calling g mk a) (Vm.Alike.refl U.vm) qK, qE.calling⟩
section SND
variable {p : Program} {l : Launch} {e : Env} {R : Room} {s : State} {m : MethodId} {args : Array Value} {below : List Frame} {meth : Method} {c : Code} {cells slots : Nat} {Q : State → Prop}
variable {D : va_G} {cy : Nat → ClassId} {ad : Nat → Nat} {A : Nat → Prop} {nL : Nat} {own : String} {cc : ByteArray}
theorem x_run {Φ : Rs} {rest : List AV} {H : Heap} {locs : List Loc} {ls : Array Slot} {lo : Lo} {pc : Nat} {st0 : List Value} (hr : va_Run p l e R s m args below meth c H locs cells slots 0 0 (F0 m pc ls st0) (rest.map (cv ad)) (Post D cy ad A Φ) A) (hS : va_S A s.heap H locs) (hl : lv_has ls nL (prs ad 0 lo))
    (kk : ∀ r σ', Φ r σ' → Vd D cy ad A nL p l e R s m args below meth c cells slots Q (pc + 3) lo (r ++ rest) σ') : W p l e R s m args below meth c H locs cells slots Q (F0 m pc ls st0) := by
  intro T hT X
  obtain ⟨v, st₀, t, T', L, h0, X', hL, e1, e2, ⟨⟨r, σ', hlen, hv, hp, hb⟩, hz, hk⟩, st⟩ := hr T hT X
  rw [h0] at hz hk
  have hv : v = (r.map (cv ad)).head? := by injection hv
  obtain ⟨t2, a1, b1⟩ := kk r σ' hp T'.heap (locs ++ L) ls (by rw [e1]; exact hb)
    ⟨Nat.le_trans hS.1 (by rw [e1]; exact hz), fun q h1 h2 => by rw [e1, hk q (Nat.lt_of_lt_of_le h1 hS.1) h2]; exact hS.2.1 q h1 h2, fun q hq => by
      rcases List.mem_append.mp hq with h | h
      · exact hS.2.2 q h
      · exact hL q h⟩ hl T' rfl X'
  refine ⟨t2, st t2 ?_, b1⟩
  have he : v.toList ++ rest.map (cv ad) = (r ++ rest).map (cv ad) := by
    rw [hv]
    match r, hlen with
    | [], _ => rfl
    | [x], _ => rfl
    | _ :: _ :: _, h => exact absurd h (by simp)
  show Steps p.tables e below (T'.setTop { F0 m pc ls st0 with pc := pc + 3, stack := v.toList ++ rest.map (cv ad) }) t2
  rw [he]
  exact a1
/-- what a method's frame has -/
def Cx (D : va_G) (cy : Nat → ClassId) (ad : Nat → Nat) (A : Nat → Prop) (nL : Nat) (p : Program) (R : Room) (s : State) (m : MethodId) (args : Array Value) (c : Code) (cells slots : Nat) (own : String) (cc : ByteArray) : Prop :=
  p.tables.exec = Jvm.exec ∧ c.code = cc ∧ c.maxLocals = nL ∧ s.vm.findClass own = some m.cls ∧ (∀ w ∈ tg, w.before args s = true) ∧ va_K D vwCl (tysOf cy) s ∧ Apart ad A ∧ Ex ad A s s.heap ∧ cells ≤ R.cells ∧ slots ≤ R.slots
def RetH (rt : Option FieldType) (cc : ByteArray) (Rt : Rs) (V : Kt) : Prop :=
  (∀ pc lo x σ, decode cc pc = .ok (.ireturn, 1) → (∃ ty, rt = some ty ∧ narrow ty (.int x) = .int x) → Rt [aI x] σ → V pc lo [aI x] σ)
  ∧ (∀ pc lo x σ, decode cc pc = .ok (.lreturn, 1) → rt = some .long → Rt [aL x] σ → V pc lo [aL x] σ)
  ∧ (∀ pc lo a σ, decode cc pc = .ok (.areturn, 1) → (∃ ty, rt = some ty ∧ ((∃ n, ty = .object n) ∨ ∃ t, ty = .array t)) → Rt [aR a] σ → V pc lo [aR a] σ)
  ∧ (∀ pc lo σ, decode cc pc = .ok (.return_, 1) → rt = none → Rt [] σ → V pc lo [] σ)
def SpH (l : Launch) (D : va_G) (cy : Nat → ClassId) (ad : Nat → Nat) (A : Nat → Prop) (S : Sp) : Prop := ∀ q av σ Φ M, mtab[q]? = some M → S q av σ Φ → MetV l D cy ad A M av σ Φ
end SND
end
section
theorem cl_facts : ∀ (ci : Nat) (q : vw_C), vwCl[ci]? = some q → (∀ w ∈ u_ws q.1 q.2.1 q.2.2, w ∈ tg) ∧ (∃ ty0 : Nat → FieldType, ∀ k, k < q.2.2 → parseFieldDescriptor (q.2.1 k).2.2.1 = some (ty0 k)) ∧ (∀ a, a < q.2.2 → ∀ b, b < q.2.2 → a ≠ b → (q.2.1 a).2.1 ≠ (q.2.1 b).2.1) := by
  have hg : ∀ (ws : List Jvm.Cond), (∀ w ∈ ws, w ∈ lw_tbl) → ws.all goodWord = true → ∀ w ∈ ws, w ∈ tg := fun ws h1 h2 w hw => List.mem_filter.mpr ⟨h1 w hw, List.all_eq_true.mp h2 w hw⟩
  intro ci q h
  match ci, h with
  | 0, h => cases h; exact ⟨hg _ inX0 (by decide +kernel), ⟨tyX0, tyX0_ok⟩, nmX0⟩
  | 1, h => cases h; exact ⟨hg _ inX2 (by decide +kernel), ⟨tyX2, tyX2_ok⟩, nmX2⟩
  | 2, h => cases h; exact ⟨hg _ inX3 (by decide +kernel), ⟨tyX3, tyX3_ok⟩, nmX3⟩
  | 3, h => cases h; exact ⟨hg _ inX4 (by decide +kernel), ⟨tyX4, tyX4_ok⟩, nmX4⟩
  | 4, h => cases h; exact ⟨hg _ inX5 (by decide +kernel), ⟨tyX5, tyX5_ok⟩, nmX5⟩
  | 5, h => cases h; exact ⟨hg _ inX6 (by decide +kernel), ⟨tyX6, tyX6_ok⟩, nmX6⟩
  | 6, h => cases h; exact ⟨hg _ inX7 (by decide +kernel), ⟨tyX7, tyX7_ok⟩, nmX7⟩
  | 7, h => cases h; exact ⟨hg _ inX8 (by decide +kernel), ⟨tyX8, tyX8_ok⟩, nmX8⟩
  | 8, h => cases h; exact ⟨hg _ inX9 (by decide +kernel), ⟨tyX9, tyX9_ok⟩, nmX9⟩
  | k + 9, h => simp [vwCl] at h
theorem arr_tg : Jvm.Cond.native arraycopyName ∈ tg ∧ Jvm.Cond.static arraycopyName ∈ tg ∧ Jvm.Cond.initialized "java/lang/System" ∈ tg := ⟨atW_in (i := 122) (by decide +kernel), atW_in (i := 121) (by decide +kernel), atW_in (i := 88) (by decide +kernel)⟩
theorem math_tg : (Jvm.Cond.static Lib.Math.max.name ∈ tg ∧ Jvm.Cond.static Lib.Math.min.name ∈ tg ∧ Jvm.Cond.static Lib.Math.abs.name ∈ tg) ∧ Jvm.Cond.initialized "java/lang/Math" ∈ tg ∧ (Jvm.Cond.code Lib.Math.max.name Lib.Math.max.code 2 (some .int) ∈ tg ∧ Jvm.Cond.code Lib.Math.min.name Lib.Math.min.code 2 (some .int) ∈ tg ∧ Jvm.Cond.code Lib.Math.abs.name Lib.Math.abs.code 1 (some .int) ∈ tg) := ⟨⟨atW_in (i := 562) (by decide +kernel), atW_in (i := 651) (by decide +kernel), atW_in (i := 422) (by decide +kernel)⟩, atW_in (i := 97) (by decide +kernel), ⟨atW_in (i := 563) (by decide +kernel), atW_in (i := 652) (by decide +kernel), atW_in (i := 423) (by decide +kernel)⟩⟩
theorem sw_e {k : Nat → Prop} {x : Int32} {d : Nat} : ∀ {ks : List (Int32 × Nat)}, sw k x d ks → (∀ (j : Nat) (q : Int32 × Nat), ks[j]? = some q → x = q.1 → (∀ (i : Nat) (r : Int32 × Nat), i < j → ks[i]? = some r → ¬ x = r.1) → k q.2) ∧ ((∀ q ∈ ks, ¬ x = q.1) → k d)
  | [], h => ⟨fun j q hj => by simp at hj, fun _ => h⟩
  | a :: t, h => by
    refine ⟨fun j q hj hx hn => ?_, fun hn => ?_⟩
    · cases j with
      | zero =>
        simp only [List.getElem?_cons_zero, Option.some.injEq] at hj
        subst hj
        exact h.1 hx
      | succ j =>
        have h0 : ¬ x = a.1 := hn 0 a (by omega) rfl
        exact (sw_e (h.2 h0)).1 j q (by simpa using hj) hx (fun i r hi hr => hn (i + 1) r (by omega) (by simpa using hr))
    · exact (sw_e (h.2 (hn a List.mem_cons_self))).2 (fun q hq => hn q (List.mem_cons_of_mem _ hq))
theorem cell0 {cy : Nat → ClassId} {ad : Nat → Nat} {σ : St} {k : Nat} {c : Cel} (h : c.1 = 0) : cellV cy ad σ k c = .inr (c.2.1, flds ad (σ.1 k) 0 c.2.2) := by simp [cellV, h]
theorem cellI {cy : Nat → ClassId} {ad : Nat → Nat} {σ : St} {k : Nat} {c : Cel} (t : Nat) (ht : t = 1 ∨ t = 2 ∨ t = 3) (h : c.1 = t) : cellV cy ad σ k c = .inl (cy t, c.2.1, .inl (σ.1 k)) := by
  rcases ht with rfl | rfl | rfl <;> simp [cellV, h]
theorem cellJ {cy : Nat → ClassId} {ad : Nat → Nat} {σ : St} {k : Nat} {c : Cel} (h : c.1 = 4) : cellV cy ad σ k c = .inl (cy 4, c.2.1, .inr (.inl (σ.2 k))) := by simp [cellV, h]
theorem cell_ne {cy : Nat → ClassId} {ad : Nat → Nat} {σ σ' : St} {j : Nat} (d : Cel) (h1 : σ'.1 j = σ.1 j) (h2 : σ'.2 j = σ.2 j) : cellV cy ad σ' j d = cellV cy ad σ j d := by simp only [cellV, h1, h2]
theorem upI_ne {σ : St} {a j : Nat} {x : Int32} {k : Nat} (h : k ≠ a) : (upI σ a j x).1 k = σ.1 k ∧ (upI σ a j x).2 k = σ.2 k := ⟨if_neg h, rfl⟩
theorem upI_eq {σ : St} {a j : Nat} {x : Int32} : (upI σ a j x).1 a = upd (σ.1 a) j x := if_pos rfl
theorem upJ_ne {σ : St} {a j : Nat} {x : Int64} {k : Nat} (h : k ≠ a) : (upJ σ a j x).1 k = σ.1 k ∧ (upJ σ a j x).2 k = σ.2 k := ⟨rfl, if_neg h⟩
theorem upJ_eq {σ : St} {a j : Nat} {x : Int64} : (upJ σ a j x).2 a = vp_updL (σ.2 a) j x := if_pos rfl
section SND2
variable {p : Program} {l : Launch} {e : Env} {R : Room} {s : State} {m : MethodId} {args : Array Value} {below : List Frame} {meth : Method} {c : Code} {cells slots : Nat} {Q : State → Prop}
variable {D : va_G} {cy : Nat → ClassId} {ad : Nat → Nat} {A : Nat → Prop} {nL : Nat} {own : String} {cc : ByteArray} {rt : Option FieldType} {S : Sp} {Rt : Rs}
variable {pc x1 x2 x3 x4 len : Nat} {zi : Int32} {zl : Int64} {lo : Lo} {st : List AV} {σ : St}
theorem snd_getf (C : Cx D cy ad A nL p R s m args c cells slots own cc) {idx : Nat} (hdg : decode cc pc = .ok (.getfield idx, 3)) {Cn : String} {F : u_T} {N : Nat} (hc : vwCl[x1]? = some (Cn, F, N)) (hx2 : x2 < N) (hF : (F x2).1 = Cn) (hw : Jvm.Cond.fieldLink own idx Cn (F x2).2.1 (F x2).2.2.1 ∈ tg) {a : Nat} {t : List AV} (ho : oc a = some x1) {o : Option Nat} (hf : fo a x2 = some o)
    (kk : Vd D cy ad A nL p l e R s m args below meth c cells slots Q (pc + 3) lo ((match o with
      | none => aI (σ.1 a x2)
      | some r => aR r) :: t) σ) : Vd D cy ad A nL p l e R s m args below meth c cells slots Q pc lo (aR a :: t) σ := by
  obtain ⟨hx, hb, hml, hown, hts, hK, hAp, hE, hcs⟩ := C
  intro H locs ls hP hS hl
  obtain ⟨c1, s1, t1, u1⟩ := oc_e ho
  obtain ⟨c2, s2, t2, u2⟩ := fo_e hf
  have : c1 = c2 := Option.some.inj (s1.symm.trans s2)
  subst this
  have he := WS_get (cy := cy) (ad := ad) (σ := σ) s1
  rw [cell0 t1, u1] at he
  have hv := flds_get (ad := ad) (f := σ.1 a) (i := 0) u2
  rw [Nat.zero_add] at hv
  refine va_get hx hb hts (cl_facts _ _ hc).1 hown hK hP a he hc x2 hx2 (hts _ hw) (fun x h => by rw [hF] at h; exact h) hv hdg ?_
  have := kk H locs ls hP hS hl
  cases o <;> exact this
theorem snd_putf (C : Cx D cy ad A nL p R s m args c cells slots own cc) {idx : Nat} (hdg : decode cc pc = .ok (.putfield idx, 3)) {Cn : String} {F : u_T} {N : Nat} (hc : vwCl[x1]? = some (Cn, F, N)) (hx2 : x2 < N) (hF : (F x2).1 = Cn) (hw : Jvm.Cond.fieldLink own idx Cn (F x2).2.1 (F x2).2.2.1 ∈ tg) (hfin : (F x2).2.2.2 = false) {x : Int32} {ty : FieldType} (hd : parseFieldDescriptor (F x2).2.2.1 = some ty) (hn : narrow ty (.int x) = .int x) (hfit : fits ty (.int x) = true) {a : Nat} {t : List AV} (ho : oc a = some x1) (hf : fo a x2 = some none)
    (kk : Vd D cy ad A nL p l e R s m args below meth c cells slots Q (pc + 3) lo t (upI σ a x2 x)) : Vd D cy ad A nL p l e R s m args below meth c cells slots Q pc lo (aI x :: aR a :: t) σ := by
  obtain ⟨hx, hb, hml, hown, hts, hK, hAp, hE, hcs⟩ := C
  intro H locs ls hP hS hl
  obtain ⟨c1, s1, t1, u1⟩ := oc_e ho
  obtain ⟨c2, s2, t2, u2⟩ := fo_e hf
  have : c1 = c2 := Option.some.inj (s1.symm.trans s2)
  subst this
  have he := WS_get (cy := cy) (ad := ad) (σ := σ) s1
  rw [cell0 t1, u1] at he
  obtain ⟨h1, ⟨ty0, h2⟩, h3⟩ := cl_facts _ _ hc
  refine va_put hx hb hts h1 ty0 h2 h3 hown hK hP (WS_D hAp) hS a he hc x2 hx2 (hts _ hw) (fun x h => by rw [hF] at h; exact h) hfin hd hn hfit (by rw [flds_len]; exact (List.getElem?_eq_some_iff.mp u2).1) hdg (fun H1 locs1 hP1 _ hS1 => ?_)
  rw [WS_set (σ' := upI σ a x2 x) s1 (by
    rw [cell0 t1, u1, upI_eq]
    have := flds_set (ad := ad) (f := σ.1 a) (x := x) (i := 0) u2
    rw [Nat.zero_add] at this
    rw [this]; rfl) (fun j d hj => cell_ne d (upI_ne hj).1 (upI_ne hj).2)] at hP1
  exact kk H1 locs1 ls hP1 hS1 hl
/-- int, byte and char rows -/
theorem al_cell {a : Nat} {q : Nat × Nat} (t : Nat) (ht : t = 1 ∨ t = 2 ∨ t = 3) (ha : al a = some q) (h : q.1 = t) : ∃ d : Cel, shape[a]? = some d ∧ d.1 = t ∧ d.2.1 = q.2 ∧ (WS cy ad σ)[a]? = some (ad a, .inl (cy t, q.2, .inl (σ.1 a))) := by
  obtain ⟨d, h1, h2, h3, h4⟩ := al_e ha (by rcases ht with rfl | rfl | rfl <;> omega)
  have hd : d.1 = t := by omega
  exact ⟨d, h1, hd, h4, by rw [WS_get h1, cellI t ht hd, h4]⟩
theorem al_cellJ {a : Nat} {q : Nat × Nat} (ha : al a = some q) (h : q.1 = 4) : ∃ d : Cel, shape[a]? = some d ∧ d.1 = 4 ∧ d.2.1 = q.2 ∧ (WS cy ad σ)[a]? = some (ad a, .inl (cy 4, q.2, .inr (.inl (σ.2 a)))) := by
  obtain ⟨d, h1, h2, h3, h4⟩ := al_e ha (by omega)
  have hd : d.1 = 4 := by omega
  exact ⟨d, h1, hd, h4, by rw [WS_get h1, cellJ hd, h4]⟩
theorem set_I {a j : Nat} {x : Int32} {q : Nat × Nat} {d : Cel} (t : Nat) (ht : t = 1 ∨ t = 2 ∨ t = 3) (h1 : shape[a]? = some d) (hd : d.1 = t) (h4 : d.2.1 = q.2) : (WS cy ad σ).set a (ad a, .inl (cy t, q.2, .inl (upd (σ.1 a) j x))) = WS cy ad (upI σ a j x) :=
  WS_set h1 (by rw [cellI t ht hd, h4, upI_eq]) (fun j d hj => cell_ne d (upI_ne hj).1 (upI_ne hj).2)
theorem set_J {a j : Nat} {x : Int64} {q : Nat × Nat} {d : Cel} (h1 : shape[a]? = some d) (hd : d.1 = 4) (h4 : d.2.1 = q.2) : (WS cy ad σ).set a (ad a, .inl (cy 4, q.2, .inr (.inl (vp_updL (σ.2 a) j x)))) = WS cy ad (upJ σ a j x) :=
  WS_set h1 (by rw [cellJ hd, h4, upJ_eq]) (fun j d hj => cell_ne d (upJ_ne hj).1 (upJ_ne hj).2)
theorem snd_iald (C : Cx D cy ad A nL p R s m args c cells slots own cc) (hdg : decode cc pc = .ok (.iaload, 1)) {a : Nat} {i : Int32} {t : List AV} (h : tag a = 1 ∨ tag a = 7) (hin : vp_in i (ln a)) (kk : Vd D cy ad A nL p l e R s m args below meth c cells slots Q (pc + 1) lo (aI (rd σ a i.toNatClampNeg) :: t) σ) : Vd D cy ad A nL p l e R s m args below meth c cells slots Q pc lo (aI i :: aR a :: t) σ := by
  obtain ⟨hx, hb, hml, hown, hts, hK, hAp, hE, hcs⟩ := C
  intro H locs ls hP hS hl
  rcases h with h | h
  · obtain ⟨q, ha, h1, h2⟩ := tag_e h (by omega)
    rw [← h2] at hin
    obtain ⟨d, hd, -, -, he⟩ := al_cell (cy := cy) (ad := ad) (σ := σ) 1 (by omega) ha h1
    rw [rd_lt (by have := shape_lt hd; unfold NP at this; omega)] at kk
    exact va_iald hx hb hK hP a 0 he rfl hin hdg (kk H locs ls hP hS hl)
  · obtain ⟨q, ha, h1, h0⟩ := tag_e h (by omega)
    obtain ⟨f, h2, h3, h4⟩ := al_7 ha h1
    rw [← h0, h4] at hin
    have hT := (hE.1 (a - 100) f h2).2
    have ea : 100 + (a - 100) = a := by omega
    rw [ea] at hT
    have hv : rd σ a i.toNatClampNeg = f.2.2.getD i.toNatClampNeg 0 := by rw [rd_ge h3]; unfold sv; rw [h2]
    rw [hv] at kk
    have k2 := kk H locs ls hP hS hl
    exact va_ti (t := ad a) (N := f.2.2.length) (f := fun j => .int (f.2.2.getD j 0)) hx hb hT hS hin (v := .int (f.2.2.getD i.toNatClampNeg 0)) rfl hdg k2
theorem snd_bald (C : Cx D cy ad A nL p R s m args c cells slots own cc) (hdg : decode cc pc = .ok (.baload, 1)) {a : Nat} {i : Int32} {t : List AV} (hg : tag a = 2) (hin : vp_in i (ln a)) (kk : Vd D cy ad A nL p l e R s m args below meth c cells slots Q (pc + 1) lo (aI (σ.1 a i.toNatClampNeg) :: t) σ) : Vd D cy ad A nL p l e R s m args below meth c cells slots Q pc lo (aI i :: aR a :: t) σ := by
  obtain ⟨hx, hb, hml, hown, hts, hK, hAp, hE, hcs⟩ := C
  intro H locs ls hP hS hl
  obtain ⟨q, ha, h1, h0⟩ := tag_e hg (by omega)
  rw [← h0] at hin
  obtain ⟨d, -, -, -, he⟩ := al_cell (cy := cy) (ad := ad) (σ := σ) 2 (by omega) ha h1
  exact va_bald hx hb hK hP a 1 he rfl hin hdg (kk H locs ls hP hS hl)
theorem snd_cald (C : Cx D cy ad A nL p R s m args c cells slots own cc) (hdg : decode cc pc = .ok (.caload, 1)) {a : Nat} {i : Int32} {t : List AV} (hg : tag a = 3) (hin : vp_in i (ln a)) (kk : Vd D cy ad A nL p l e R s m args below meth c cells slots Q (pc + 1) lo (aI (σ.1 a i.toNatClampNeg) :: t) σ) : Vd D cy ad A nL p l e R s m args below meth c cells slots Q pc lo (aI i :: aR a :: t) σ := by
  obtain ⟨hx, hb, hml, hown, hts, hK, hAp, hE, hcs⟩ := C
  intro H locs ls hP hS hl
  obtain ⟨q, ha, h1, h0⟩ := tag_e hg (by omega)
  rw [← h0] at hin
  obtain ⟨d, -, -, -, he⟩ := al_cell (cy := cy) (ad := ad) (σ := σ) 3 (by omega) ha h1
  exact va_cald hx hb hK hP a 2 he rfl hin hdg (kk H locs ls hP hS hl)
theorem snd_lald (C : Cx D cy ad A nL p R s m args c cells slots own cc) (hdg : decode cc pc = .ok (.laload, 1)) {a : Nat} {i : Int32} {t : List AV} (hg : tag a = 4) (hin : vp_in i (ln a)) (kk : Vd D cy ad A nL p l e R s m args below meth c cells slots Q (pc + 1) lo (aL (σ.2 a i.toNatClampNeg) :: t) σ) : Vd D cy ad A nL p l e R s m args below meth c cells slots Q pc lo (aI i :: aR a :: t) σ := by
  obtain ⟨hx, hb, hml, hown, hts, hK, hAp, hE, hcs⟩ := C
  intro H locs ls hP hS hl
  obtain ⟨q, ha, h1, h0⟩ := tag_e hg (by omega)
  rw [← h0] at hin
  obtain ⟨d, -, -, -, he⟩ := al_cellJ (cy := cy) (ad := ad) (σ := σ) ha h1
  exact va_lald hx hb hK hP a 3 he rfl hin hdg (kk H locs ls hP hS hl)
theorem snd_aald (C : Cx D cy ad A nL p R s m args c cells slots own cc) (hdg : decode cc pc = .ok (.aaload, 1)) {a : Nat} {i : Int32} {t : List AV} (ha : a = 42) (hin : vp_in i 4) (kk : Vd D cy ad A nL p l e R s m args below meth c cells slots Q (pc + 1) lo (aR (43 + i.toNatClampNeg) :: t) σ) : Vd D cy ad A nL p l e R s m args below meth c cells slots Q pc lo (aI i :: aR a :: t) σ := by
  obtain ⟨hx, hb, hml, hown, hts, hK, hAp, hE, hcs⟩ := C
  intro H locs ls hP hS hl
  subst ha
  have he : (WS cy ad σ)[42]? = some (ad 42, .inl (cy 5, 4, .inr (.inr (.inr (.inr (fun i => (([some 43, some 44, some 45, some 46] : List (Option Nat)).getD i none).map ad)))))) := WS_get (c := (5, 4, [some 43, some 44, some 45, some 46])) rfl
  have hlt : i.toNatClampNeg < 4 := Nat.not_le.mp fun q => hin (Or.inr q)
  refine W.aald (v := .ref (ad (43 + i.toNatClampNeg))) (ty := .array .long) hx hb (hP 42 _ he) ((hK.2 4 _ rfl).1 4 (fun j => va_rf ((([some 43, some 44, some 45, some 46] : List (Option Nat)).getD j none).map ad))) rfl (fun q => by cases q) (by show ¬ (i < 0 ∨ (arrV _ _ _).slots.size ≤ _); rw [arrV_size]; exact hin) (by
    show (arrV _ _ _).slots[_]? = _
    rw [arrV_read _ _ hlt]
    generalize i.toNatClampNeg = n at hlt ⊢
    match n, hlt with
    | 0, _ => rfl
    | 1, _ => rfl
    | 2, _ => rfl
    | 3, _ => rfl) rfl rfl hdg (kk H locs ls hP hS hl)
theorem snd_alen (C : Cx D cy ad A nL p R s m args c cells slots own cc) (hdg : decode cc pc = .ok (.arraylength, 1)) {a : Nat} {t : List AV} (hg : tag a ≠ 0) (kk : Vd D cy ad A nL p l e R s m args below meth c cells slots Q (pc + 1) lo (aI (Int32.ofNat (ln a)) :: t) σ) : Vd D cy ad A nL p l e R s m args below meth c cells slots Q pc lo (aR a :: t) σ := by
  obtain ⟨hx, hb, hml, hown, hts, hK, hAp, hE, hcs⟩ := C
  intro H locs ls hP hS hl
  obtain ⟨q, ha, -, h0⟩ := tag_e (t := tag a) rfl hg
  rw [← h0] at kk
  by_cases h7 : q.1 = 7
  · obtain ⟨f, h2, h3, h4⟩ := al_7 ha h7
    have hT := (hE.1 (a - 100) f h2).2
    have ea : 100 + (a - 100) = a := by omega
    rw [ea] at hT
    exact va_tlen hx hb hT hS (by rw [h4]) hdg (kk H locs ls hP hS hl)
  · obtain ⟨d, h1, h2, h3, h4⟩ := al_e ha h7
    have h5 := shape_tag d (List.mem_of_getElem? h1)
    have hc : ∃ (t0 : Nat) (cA : ClassId) (ty : FieldType) (r : (Nat → Int32) ⊕ (Nat → Int64) ⊕ (Nat → UInt32) ⊕ (Nat → UInt64) ⊕ (Nat → Option Nat)), (tysOf cy)[t0]? = some (cA, ty) ∧ cellV cy ad σ a d = .inl (cA, d.2.1, r) := by
      rcases (show d.1 = 1 ∨ d.1 = 2 ∨ d.1 = 3 ∨ d.1 = 4 ∨ d.1 = 5 by omega) with h | h | h | h | h
      · exact ⟨0, _, _, _, rfl, cellI 1 (by omega) h⟩
      · exact ⟨1, _, _, _, rfl, cellI 2 (by omega) h⟩
      · exact ⟨2, _, _, _, rfl, cellI 3 (by omega) h⟩
      · exact ⟨3, _, _, _, rfl, cellJ h⟩
      · exact ⟨4, _, _, .inr (.inr (.inr (.inr (fun i => (d.2.2.getD i none).map ad)))), rfl, by simp [cellV, h]⟩
    obtain ⟨t0, cA, ty, r, g1, g2⟩ := hc
    have he := WS_get (cy := cy) (ad := ad) (σ := σ) h1
    rw [g2] at he
    exact va_alen hx hb hK hP a t0 he g1 (v := Int32.ofNat q.2) (by rw [← h4]) hdg (kk H locs ls hP hS hl)
theorem snd_iast (C : Cx D cy ad A nL p R s m args c cells slots own cc) (hdg : decode cc pc = .ok (.iastore, 1)) {a : Nat} {i x : Int32} {t : List AV} (hg : tag a = 1) (hin : vp_in i (ln a)) (kk : Vd D cy ad A nL p l e R s m args below meth c cells slots Q (pc + 1) lo t (upI σ a i.toNatClampNeg x)) : Vd D cy ad A nL p l e R s m args below meth c cells slots Q pc lo (aI x :: aI i :: aR a :: t) σ := by
  obtain ⟨hx, hb, hml, hown, hts, hK, hAp, hE, hcs⟩ := C
  intro H locs ls hP hS hl
  obtain ⟨q, ha, h1, h0⟩ := tag_e hg (by omega)
  rw [← h0] at hin
  obtain ⟨d, g1, g2, g3, he⟩ := al_cell (cy := cy) (ad := ad) (σ := σ) 1 (by omega) ha h1
  refine va_iast hx hb hK hP (WS_D hAp) hS a 0 he rfl hin hdg (fun H1 locs1 hP1 _ hS1 => ?_)
  rw [set_I 1 (by omega) g1 g2 g3] at hP1
  exact kk H1 locs1 ls hP1 hS1 hl
theorem snd_bast (C : Cx D cy ad A nL p R s m args c cells slots own cc) (hdg : decode cc pc = .ok (.bastore, 1)) {a : Nat} {i x : Int32} {t : List AV} (hg : tag a = 2) (hin : vp_in i (ln a)) (kk : Vd D cy ad A nL p l e R s m args below meth c cells slots Q (pc + 1) lo t (upI σ a i.toNatClampNeg x.toInt8.toInt32)) : Vd D cy ad A nL p l e R s m args below meth c cells slots Q pc lo (aI x :: aI i :: aR a :: t) σ := by
  obtain ⟨hx, hb, hml, hown, hts, hK, hAp, hE, hcs⟩ := C
  intro H locs ls hP hS hl
  obtain ⟨q, ha, h1, h0⟩ := tag_e hg (by omega)
  rw [← h0] at hin
  obtain ⟨d, g1, g2, g3, he⟩ := al_cell (cy := cy) (ad := ad) (σ := σ) 2 (by omega) ha h1
  refine va_bast hx hb hK hP (WS_D hAp) hS a 1 he rfl hin hdg (fun H1 locs1 hP1 _ hS1 => ?_)
  rw [vp_nar_byte, set_I 2 (by omega) g1 g2 g3] at hP1
  exact kk H1 locs1 ls hP1 hS1 hl
theorem snd_last (C : Cx D cy ad A nL p R s m args c cells slots own cc) (hdg : decode cc pc = .ok (.lastore, 1)) {a : Nat} {i : Int32} {x : Int64} {t : List AV} (hg : tag a = 4) (hin : vp_in i (ln a)) (kk : Vd D cy ad A nL p l e R s m args below meth c cells slots Q (pc + 1) lo t (upJ σ a i.toNatClampNeg x)) : Vd D cy ad A nL p l e R s m args below meth c cells slots Q pc lo (aL x :: aI i :: aR a :: t) σ := by
  obtain ⟨hx, hb, hml, hown, hts, hK, hAp, hE, hcs⟩ := C
  intro H locs ls hP hS hl
  obtain ⟨q, ha, h1, h0⟩ := tag_e hg (by omega)
  rw [← h0] at hin
  obtain ⟨d, g1, g2, g3, he⟩ := al_cellJ (cy := cy) (ad := ad) (σ := σ) ha h1
  refine va_last hx hb hK hP (WS_D hAp) hS a 3 he rfl hin hdg (fun H1 locs1 hP1 _ hS1 => ?_)
  rw [set_J g1 g2 g3] at hP1
  exact kk H1 locs1 ls hP1 hS1 hl
theorem snd_copy (C : Cx D cy ad A nL p R s m args c cells slots own cc) {idx : Nat} (hdg : decode cc pc = .ok (.invokestatic idx, 3)) (hw : Jvm.Cond.methodLink own idx arraycopyName ∈ tg) (hfr : 1 ≤ R.frames) (hlc : 8 + (nativeFrameWords "java/lang/System" "arraycopy" 5 + 11) ≤ R.locals) {a b : Nat} {sp dp n : Int32} {t : List AV} (h1 : ¬ sp < 0) (h2 : ¬ dp < 0) (h3 : ¬ n < 0) (h4 : sp.toNatClampNeg + n.toNatClampNeg ≤ ln a) (h5 : dp.toNatClampNeg + n.toNatClampNeg ≤ ln b) (hws : wsum t ≤ 8)
    (h : (tag a = 1 ∧ tag b = 1 ∧ Vd D cy ad A nL p l e R s m args below meth c cells slots Q (pc + 3) lo t (cpI σ a b sp.toNatClampNeg dp.toNatClampNeg n.toNatClampNeg)) ∨ (tag a = 4 ∧ tag b = 4 ∧ Vd D cy ad A nL p l e R s m args below meth c cells slots Q (pc + 3) lo t (cpJ σ a b sp.toNatClampNeg dp.toNatClampNeg n.toNatClampNeg))) : Vd D cy ad A nL p l e R s m args below meth c cells slots Q pc lo (aI n :: aI dp :: aR b :: aI sp :: aR a :: t) σ := by
  obtain ⟨hx, hb, hml, hown, hts, hK, hAp, hE, hcs⟩ := C
  intro H locs ls hP hS hl
  have hloc : ((t.map (cv ad)).map fun v => v.category).sum + (nativeFrameWords "java/lang/System" "arraycopy" 5 + 11) ≤ R.locals := by rw [wsum_e]; omega
  rcases h with ⟨g1, g2, kk⟩ | ⟨g1, g2, kk⟩
  · obtain ⟨qa, ha, g1, ga⟩ := tag_e g1 (by omega)
    obtain ⟨qb, hb', g2, gb⟩ := tag_e g2 (by omega)
    rw [← ga] at h4
    rw [← gb] at h5
    obtain ⟨da, -, -, -, hea⟩ := al_cell (cy := cy) (ad := ad) (σ := σ) 1 (by omega) ha g1
    obtain ⟨db, b1, b2, b3, heb⟩ := al_cell (cy := cy) (ad := ad) (σ := σ) 1 (by omega) hb' g2
    refine va_copyi hx hb (hml.trans hl.1.symm) hown (hts _ hw) (hts _ arr_tg.1) (hts _ arr_tg.2.1) (hts _ arr_tg.2.2) hK hP (WS_D hAp) hS a b 0 0 hea heb rfl rfl rfl h1 h2 h3 h4 h5 (fun i _ => rfl) hfr hloc hdg (fun H1 locs1 hP1 _ hS1 => ?_)
    rw [WS_set (σ' := cpI σ a b sp.toNatClampNeg dp.toNatClampNeg n.toNatClampNeg) b1 (by rw [cellI 1 (by omega) b2, b3]; simp [cpI]) (fun j d hj => cell_ne (σ := σ) (σ' := cpI σ a b sp.toNatClampNeg dp.toNatClampNeg n.toNatClampNeg) d (if_neg hj) rfl)] at hP1
    exact kk H1 locs1 ls hP1 hS1 hl
  · obtain ⟨qa, ha, g1, ga⟩ := tag_e g1 (by omega)
    obtain ⟨qb, hb', g2, gb⟩ := tag_e g2 (by omega)
    rw [← ga] at h4
    rw [← gb] at h5
    obtain ⟨da, -, -, -, hea⟩ := al_cellJ (cy := cy) (ad := ad) (σ := σ) ha g1
    obtain ⟨db, b1, b2, b3, heb⟩ := al_cellJ (cy := cy) (ad := ad) (σ := σ) hb' g2
    refine va_copyl hx hb (hml.trans hl.1.symm) hown (hts _ hw) (hts _ arr_tg.1) (hts _ arr_tg.2.1) (hts _ arr_tg.2.2) hK hP (WS_D hAp) hS a b 3 3 hea heb rfl rfl rfl h1 h2 h3 h4 h5 (fun i _ => rfl) hfr hloc hdg (fun H1 locs1 hP1 _ hS1 => ?_)
    rw [WS_set (σ' := cpJ σ a b sp.toNatClampNeg dp.toNatClampNeg n.toNatClampNeg) b1 (by rw [cellJ b2, b3]; simp [cpJ]) (fun j d hj => cell_ne (σ := σ) (σ' := cpJ σ a b sp.toNatClampNeg dp.toNatClampNeg n.toNatClampNeg) d rfl (if_neg hj))] at hP1
    exact kk H1 locs1 ls hP1 hS1 hl
end SND2
end
section
theorem good_all {ws : List Jvm.Cond} (h : ∀ w ∈ ws, w ∈ tg) : GoodIn tg ws := fun w hw => tg_good w (h w hw)
theorem okM_e {M : MI} (h : okM M = true) : Jvm.Cond.code M.1 M.2.1 M.2.2.1 M.2.2.2.1 ∈ tg ∧ (M.2.2.2.2.2.2.2.1 = true → Jvm.Cond.static M.1 ∈ tg) ∧ (M.2.2.2.2.2.2.2.1 = false → Jvm.Cond.instanceMethod M.1 ∈ tg ∧ Jvm.Cond.selects M.1.cls M.1 M.1 ∈ tg) ∧ Jvm.Cond.initialized M.1.cls ∈ tg ∧ (M.1.cls ≠ "java/lang/invoke/MethodHandle" ∧ M.1.cls ≠ "java/lang/invoke/VarHandle" ∧ (parseMethodDescriptor M.1.desc).map (fun d => d.parameters.length) = some M.2.2.2.2.1) ∧ plainName M.1.cls = true := by
  obtain ⟨y, b, mL, r, n, fr, lc, stt, p1, p2, p3, p4⟩ := M
  simp only [okM, Bool.and_eq_true, decide_eq_true_eq] at h
  obtain ⟨⟨⟨⟨⟨⟨h1, h2⟩, h3⟩, h4⟩, h5⟩, h6⟩, h7⟩ := h
  refine ⟨atW_in h1, fun hs => ?_, fun hs => ?_, atW_in h3, ⟨h4, h5, h6⟩, h7⟩
  · simp only at hs
    subst hs
    simp only [if_true] at h2
    exact atW_in h2
  · simp only at hs
    subst hs
    simp only [Bool.false_eq_true, if_false, Bool.and_eq_true] at h2
    exact ⟨atW_in h2.1, atW_in h2.2⟩
theorem wsM_in {M : MI} (h : Jvm.Cond.code M.1 M.2.1 M.2.2.1 M.2.2.2.1 ∈ tg) : ∀ w ∈ wsM M, w ∈ tg := fun w hw => (List.mem_cons.mp hw).elim (fun q => by rw [q]; exact h) id
section SND3
variable {p : Program} {l : Launch} {e : Env} {R : Room} {s : State} {m : MethodId} {args : Array Value} {below : List Frame} {meth : Method} {c : Code} {cells slots : Nat} {Q : State → Prop}
variable {D : va_G} {cy : Nat → ClassId} {ad : Nat → Nat} {A : Nat → Prop} {nL : Nat} {own : String} {cc : ByteArray} {rt : Option FieldType} {S : Sp} {Rt : Rs}
variable {pc x1 x2 x3 x4 len : Nat} {zi : Int32} {zl : Int64} {lo : Lo} {st : List AV} {σ : St}
theorem Prec_at {av : List AV} {H : Heap} {locs : List Loc} (hK : va_K D vwCl (tysOf cy) s) (hE : Ex ad A s s.heap) (hP : va_P D vwCl (WS cy ad σ) H) (hS : va_S A s.heap H locs) (U : State) (hU : U.heap = H) (hW : s.WarmedH U.vm) : Prec D cy ad A av σ (av.map (cv ad)).toArray U :=
  ⟨rfl, by rw [hU]; exact hP, va_K.moved hW.alike hK, by rw [hU]; exact (hE.kept (fun q h1 h2 => hS.2.1 q h1 h2)).warm hW⟩
theorem rcv_e {H : Heap} {locs : List Loc} (hK : va_K D vwCl (tysOf cy) s) (hE : Ex ad A s s.heap) (hP : va_P D vwCl (WS cy ad σ) H) (hS : va_S A s.heap H locs) {a : Nat} {C : String} (h : rcv a x4) (hC : (if x4 = 99 then C == "java/lang/String" else match vwCl[x4]? with
          | some q => q.1 == C
          | none => false) = true) : ∃ cellB : Cell, H[ad a]? = some cellB ∧ cellB.vm.isStatics = false ∧ s.vm.findClass C = some cellB.cls := by
  unfold rcv at h
  split at h
  · rename_i h9
    rw [if_pos h9] at hC
    have hC := eq_of_beq hC
    subst hC
    have := vk_recv (i := a - 200) hE.2.1 (by omega) hS
    simp only [show 200 + (a - 200) = a by omega] at this
    exact this
  · rename_i h9
    rw [if_neg h9] at hC
    split at hC
    · rename_i q hq
      have hC := eq_of_beq hC
      subst hC
      obtain ⟨c1, s1, t1, u1⟩ := oc_e h
      have he := WS_get (cy := cy) (ad := ad) (σ := σ) s1
      rw [cell0 t1, u1] at he
      exact va_recv hK hP hq he
    · cases hC
theorem snd_callV (C : Cx D cy ad A nL p R s m args c cells slots own cc) (hSp : SpH l D cy ad A S) {idx : Nat} (hdg : decode cc pc = .ok (.invokevirtual idx, 3)) {M : MI} (hM : mtab[x1]? = some M) (hok : okM M = true) (hlk : Jvm.Cond.methodLink own idx M.1 ∈ tg) (hn : M.2.2.2.2.1 = x2) (hst : M.2.2.2.2.2.2.2.1 = false) (hfr : M.2.2.2.2.2.1 + 1 ≤ R.frames) (hlc : 8 + (M.2.2.1 + 11) + M.2.2.2.2.2.2.1 ≤ R.locals) (hC : (if x4 = 99 then M.1.cls == "java/lang/String" else match vwCl[x4]? with
          | some q => q.1 == M.1.cls
          | none => false) = true) {a : Nat} {av t : List AV} (hav : av.length = x2) (hrc : rcv a x4) (hws : wsum t ≤ 8) {Φ : Rs} (hcall : S x1 (aR a :: av) σ Φ)
    (kk : ∀ r σ', Φ r σ' → Vd D cy ad A nL p l e R s m args below meth c cells slots Q (pc + 3) lo (r ++ t) σ') : Vd D cy ad A nL p l e R s m args below meth c cells slots Q pc lo (av.reverse ++ aR a :: t) σ := by
  obtain ⟨hx, hb, hml, hown, hts, hK, hAp, hE, hcs⟩ := C
  intro H locs ls hP hS hl
  obtain ⟨g1, -, g3, g4, g5, -⟩ := okM_e hok
  have hMet : Met l M.1 (wsM M) (rmM M) (Prec D cy ad A (aR a :: av) σ) (fun _ => Post D cy ad A Φ) 0 0 A := hSp _ _ _ _ _ hM hcall
  have hG : GoodIn tg (wsV own idx M.1.cls M.1 (wsM M)) := good_all (fun w hw => by
    rcases List.mem_append.mp hw with h | h
    · simp only [List.mem_cons, List.not_mem_nil, or_false] at h
      rcases h with rfl | rfl | rfl | rfl
      · exact hlk
      · exact (g3 hst).1
      · exact (g3 hst).2
      · exact g4
    · exact wsM_in g1 w h)
  have hcw : CallW R s args own M.1.cls idx M.1 M.2.1 M.2.2.1 M.2.2.2.1 (wsM M) (rmM M) 0 0 x2 := cwV x2 hts hG rfl rfl rfl ⟨rfl, g5.1, g5.2.1, by rw [← hn]; exact g5.2.2⟩ ⟨hfr, hlc⟩
  have hrun := va_runV (g := F0 m pc ls ((av.reverse ++ aR a :: t).map (cv ad))) (H := H) (locs := locs) (cells := cells) (slots := slots) (e := e) (below := below) (meth := meth) (As := av.map (cv ad)) (rest := t.map (cv ad)) ⟨hx, hb, hml, hown, hts⟩ hMet hcw ⟨Prec_blind, rcv_e hK hE hP hS hrc hC, Prec_at hK hE hP hS⟩ rfl (by rw [List.length_map]; exact hav) hl.1 (by simp [cv]) (by rw [wsum_e]; show 2 * 0 + wsum t ≤ 8; omega) hdg hcs
  exact x_run hrun hS hl kk
theorem snd_callS (C : Cx D cy ad A nL p R s m args c cells slots own cc) (hSp : SpH l D cy ad A S) {idx : Nat} (hdg : decode cc pc = .ok (.invokestatic idx, 3)) {M : MI} (hM : mtab[x1]? = some M) (hok : okM M = true) (hlk : Jvm.Cond.methodLink own idx M.1 ∈ tg ∨ ∃ f ∈ nestM, f.1 = own ∧ f.2.1 = idx ∧ f.2.2.1 = M.1) (hn : M.2.2.2.2.1 = x2) (hst : M.2.2.2.2.2.2.2.1 = true) (hfr : M.2.2.2.2.2.1 + 1 ≤ R.frames) (hlc : 8 + (M.2.2.1 + 11) + M.2.2.2.2.2.2.1 ≤ R.locals) {av t : List AV} (hav : av.length = x2) (hws : wsum t ≤ 8) {Φ : Rs} (hcall : S x1 av σ Φ)
    (kk : ∀ r σ', Φ r σ' → Vd D cy ad A nL p l e R s m args below meth c cells slots Q (pc + 3) lo (r ++ t) σ') : Vd D cy ad A nL p l e R s m args below meth c cells slots Q pc lo (av.reverse ++ t) σ := by
  obtain ⟨hx, hb, hml, hown, hts, hK, hAp, hE, hcs⟩ := C
  intro H locs ls hP hS hl
  obtain ⟨g1, g2, -, g4, g5, -⟩ := okM_e hok
  have hMet : Met l M.1 (wsM M) (rmM M) (Prec D cy ad A av σ) (fun _ => Post D cy ad A Φ) 0 0 A := hSp _ _ _ _ _ hM hcall
  rcases hlk with hlk | ⟨f, hf, f1, f2, f3⟩
  · have hG : GoodIn tg (va_wsS own idx M.1 (wsM M)) := good_all (fun w hw => by
      rcases List.mem_append.mp hw with h | h
      · simp only [List.mem_cons, List.not_mem_nil, or_false] at h
        rcases h with rfl | rfl | rfl
        · exact hlk
        · exact g2 hst
        · exact g4
      · exact wsM_in g1 w h)
    have hcw := va_cwS (R := R) (s := s) (args := args) (own := own) (index := idx) (y := M.1) (bytes := M.2.1) (maxL := M.2.2.1) (ret := M.2.2.2.1) (ws := wsM M) (rm := rmM M) (mc := 0) (ms := 0) x2 hts hG rfl rfl rfl ⟨g5.1, g5.2.1, by rw [← hn]; exact g5.2.2⟩ ⟨hfr, hlc⟩
    have hrun := va_runS (g := F0 m pc ls ((av.reverse ++ t).map (cv ad))) (H := H) (locs := locs) (cells := cells) (slots := slots) (e := e) (below := below) (meth := meth) (As := av.map (cv ad)) (rest := t.map (cv ad)) ⟨hx, hb, hml, hown, hts⟩ hMet hcw ⟨Prec_blind, Prec_at hK hE hP hS⟩ rfl (by rw [List.length_map]; exact hav) hl.1 (by simp) (by rw [wsum_e]; show 2 * 0 + wsum t ≤ 8; omega) hdg hcs
    exact x_run hrun hS hl kk
  · have hnw := hE.2.2.2.2.1 f hf
    rw [f1, f2, f3] at hnw
    have hcn := va_cnB (R := R) (s := s) (args := args) (own := own) (host := f.2.2.2) (index := idx) (y := M.1) (bytes := M.2.1) (maxL := M.2.2.1) (ret := M.2.2.2.1) (ws := wsM M) (rm := rmM M) (mc := 0) (ms := 0) x2 hts (good_all (wsM_in g1)) rfl rfl rfl hnw (hts _ g4) ⟨g5.1, g5.2.1, by rw [← hn]; exact g5.2.2⟩ ⟨hfr, hlc⟩
    have hrun := va_runSN (g := F0 m pc ls ((av.reverse ++ t).map (cv ad))) (H := H) (locs := locs) (cells := cells) (slots := slots) (e := e) (below := below) (meth := meth) (As := av.map (cv ad)) (rest := t.map (cv ad)) ⟨hx, hb, hml, hown, hts⟩ hMet ⟨hcn, hts _ (g2 hst), trivial⟩ ⟨Prec_blind, Prec_at hK hE hP hS⟩ rfl (by rw [List.length_map]; exact hav) hl.1 (by simp) (by rw [wsum_e]; show 2 * 0 + wsum t ≤ 8; omega) hdg hcs
    exact x_run hrun hS hl kk
theorem snd_br (C : Cx D cy ad A nL p R s m args c cells slots own cc) {cd : ClassFile.Cond} {off : Int} (hdg : decode cc pc = .ok (.if_icmp cd off, 3)) (ht : (pc : Int) + off = (x1 : Int)) {x y : Int32} {t : List AV} (h : br cd x y (Vd D cy ad A nL p l e R s m args below meth c cells slots Q x1 lo t σ) (Vd D cy ad A nL p l e R s m args below meth c cells slots Q (pc + 3) lo t σ)) : Vd D cy ad A nL p l e R s m args below meth c cells slots Q pc lo (aI y :: aI x :: t) σ := by
  obtain ⟨hx, hb, -⟩ := C
  intro H locs ls hP hS hl
  cases cd with
  | eq => exact lv_icmp_eq hx hb hdg ht (fun q => h.1 q H locs ls hP hS hl) (fun q => h.2 q H locs ls hP hS hl)
  | ne => exact lv_icmp_ne hx hb hdg ht (fun q => h.1 q H locs ls hP hS hl) (fun q => h.2 q H locs ls hP hS hl)
  | lt => exact lv_icmp_lt hx hb hdg ht (fun q => h.1 q H locs ls hP hS hl) (fun q => h.2 q H locs ls hP hS hl)
  | ge => exact lv_icmp_ge hx hb hdg ht (fun q => h.1 q H locs ls hP hS hl) (fun q => h.2 q H locs ls hP hS hl)
  | gt => exact lv_icmp_gt hx hb hdg ht (fun q => h.1 q H locs ls hP hS hl) (fun q => h.2 q H locs ls hP hS hl)
  | le => exact lv_icmp_le hx hb hdg ht (fun q => h.1 q H locs ls hP hS hl) (fun q => h.2 q H locs ls hP hS hl)
theorem snd_br0 (C : Cx D cy ad A nL p R s m args c cells slots own cc) {cd : ClassFile.Cond} {off : Int} (hdg : decode cc pc = .ok (.ifCond cd off, 3)) (ht : (pc : Int) + off = (x1 : Int)) {x : Int32} {t : List AV} (h : br cd x 0 (Vd D cy ad A nL p l e R s m args below meth c cells slots Q x1 lo t σ) (Vd D cy ad A nL p l e R s m args below meth c cells slots Q (pc + 3) lo t σ)) : Vd D cy ad A nL p l e R s m args below meth c cells slots Q pc lo (aI x :: t) σ := by
  obtain ⟨hx, hb, -⟩ := C
  intro H locs ls hP hS hl
  cases cd with
  | eq => exact lv_if_eq hx hb hdg ht (fun q => h.1 q H locs ls hP hS hl) (fun q => h.2 q H locs ls hP hS hl)
  | ne => exact lv_if_ne hx hb hdg ht (fun q => h.1 q H locs ls hP hS hl) (fun q => h.2 q H locs ls hP hS hl)
  | lt => exact lv_if_lt hx hb hdg ht (fun q => h.1 q H locs ls hP hS hl) (fun q => h.2 q H locs ls hP hS hl)
  | ge => exact lv_if_ge hx hb hdg ht (fun q => h.1 q H locs ls hP hS hl) (fun q => h.2 q H locs ls hP hS hl)
  | gt => exact lv_if_gt hx hb hdg ht (fun q => h.1 q H locs ls hP hS hl) (fun q => h.2 q H locs ls hP hS hl)
  | le => exact lv_if_le hx hb hdg ht (fun q => h.1 q H locs ls hP hS hl) (fun q => h.2 q H locs ls hP hS hl)
theorem snd_tab (C : Cx D cy ad A nL p R s m args c cells slots own cc) {d a b : Int} {os : Array Int} (hdg : decode cc pc = .ok (.tableswitch d a b os, len)) (h0 : (pc : Int) + d = (x1 : Int)) (h2 : (os.size : Int) = b - a + 1) {ks : List (Int32 × Nat)} (h3 : ks.map (fun q => q.1.toInt) = (List.range os.size).map (fun (j : Nat) => a + (j : Int))) (h4 : ks.map (fun q => (q.2 : Int)) = os.toList.map (fun o => (pc : Int) + o)) {x : Int32} {t : List AV} (k2 : sw (fun q => Vd D cy ad A nL p l e R s m args below meth c cells slots Q q lo t σ) x x1 ks) : Vd D cy ad A nL p l e R s m args below meth c cells slots Q pc lo (aI x :: t) σ := by
  obtain ⟨hx, hb, -⟩ := C
  intro H locs ls hP hS hl
  have hlen : ks.length = os.size := by have := congrArg List.length h3; simpa using this
  have key : ∀ (j : Nat) (q : Int32 × Nat), ks[j]? = some q → q.1.toInt = a + (j : Int) := by
    intro j q hq
    have h5 : (ks.map (fun q => q.1.toInt))[j]? = some q.1.toInt := by rw [List.getElem?_map, hq]; rfl
    have hj : j < os.size := by rw [← hlen]; exact (List.getElem?_eq_some_iff.mp hq).1
    rw [h3, List.getElem?_map, List.getElem?_range hj] at h5
    exact (Option.some.inj h5).symm
  by_cases hr : x.toInt < a ∨ b < x.toInt
  · refine lv_tableOut hx hb hdg hr h0 ((sw_e k2).2 (fun q hq he => ?_) H locs ls hP hS hl)
    obtain ⟨j, hj⟩ := List.getElem?_of_mem hq
    have h5 := key j q hj
    have hj2 : j < os.size := by rw [← hlen]; exact (List.getElem?_eq_some_iff.mp hj).1
    rw [← he] at h5
    omega
  · have hlt : (x.toInt - a).toNat < os.size := by omega
    have ho : os[(x.toInt - a).toNat]? = some os[(x.toInt - a).toNat] := Array.getElem?_eq_getElem hlt
    have hk : (x.toInt - a).toNat < ks.length := by omega
    have hq : ks[(x.toInt - a).toNat]? = some ks[(x.toInt - a).toNat] := List.getElem?_eq_getElem hk
    have h5 := key _ _ hq
    have hxe : x = ks[(x.toInt - a).toNat].1 := by apply Int32.toInt_inj.mp; omega
    have ht : (pc : Int) + os[(x.toInt - a).toNat] = ((ks[(x.toInt - a).toNat].2 : Nat) : Int) := by
      have h6 : (ks.map (fun q => (q.2 : Int)))[(x.toInt - a).toNat]? = some ((ks[(x.toInt - a).toNat].2 : Nat) : Int) := by rw [List.getElem?_map, hq]; rfl
      rw [h4, List.getElem?_map, Array.getElem?_toList, ho] at h6
      exact Option.some.inj h6
    exact lv_tableIn hx hb hdg (fun q => hr (Or.inl q)) (fun q => hr (Or.inr q)) ho ht ((sw_e k2).1 _ _ hq hxe (fun i r hi hr2 he => by
      have h7 := key i r hr2
      rw [← he] at h7
      omega) H locs ls hP hS hl)
theorem sw_off {pc : Nat} {k : Nat → Prop} {x : Int32} {d : Int} (h0 : (pc : Int) + d = (x1 : Int)) : ∀ {ps : List (Int × Int)} {ks : List (Int32 × Nat)}, ks.map (fun q => q.1.toInt) = ps.map (fun o => o.1) → ks.map (fun q => (q.2 : Int)) = ps.map (fun o => (pc : Int) + o.2) → sw k x x1 ks → ∃ tgt : Nat, (pc : Int) + Op.lookupswitch.offset ps d x.toInt = (tgt : Int) ∧ k tgt
  | [], [], _, _, h => ⟨x1, h0, h⟩
  | [], _ :: _, h1, _, _ => by simp at h1
  | _ :: _, [], h1, _, _ => by simp at h1
  | (a, o) :: ps, q :: ks, h1, h2, h => by
    simp only [List.map_cons, List.cons.injEq] at h1 h2
    by_cases hx : x = q.1
    · refine ⟨q.2, ?_, h.1 hx⟩
      rw [Op.lookupswitch.offset_cons, if_pos (by rw [hx]; exact h1.1.symm)]
      exact h2.1.symm
    · obtain ⟨tgt, g1, g2⟩ := sw_off h0 h1.2 h2.2 (h.2 hx)
      refine ⟨tgt, ?_, g2⟩
      rw [Op.lookupswitch.offset_cons, if_neg (fun e => hx (Int32.toInt_inj.mp (by omega)))]
      exact g1
end SND3
end
section
section SND4
variable {p : Program} {l : Launch} {e : Env} {R : Room} {s : State} {m : MethodId} {args : Array Value} {below : List Frame} {meth : Method} {c : Code} {cells slots : Nat} {Q : State → Prop}
variable {D : va_G} {cy : Nat → ClassId} {ad : Nat → Nat} {A : Nat → Prop} {nL : Nat} {own : String} {cc : ByteArray} {rt : Option FieldType} {S : Sp} {Rt : Rs}
set_option maxHeartbeats 4000000 in
theorem sem_sound {fr lc : Nat} (C : Cx D cy ad A nL p R s m args c cells slots own cc) (hSp : SpH l D cy ad A S) (hR : RetH rt cc Rt (Vd D cy ad A nL p l e R s m args below meth c cells slots Q)) (hfr : fr ≤ R.frames) (hlc : lc ≤ R.locals) {en : Ent} (hok : okE own cc nL fr lc rt en = true) {lo : Lo} {st : List AV} {σ : St} (h : sem S Rt (Vd D cy ad A nL p l e R s m args below meth c cells slots Q) en lo st σ) : Vd D cy ad A nL p l e R s m args below meth c cells slots Q en.1 lo st σ := by
  have C0 := C
  obtain ⟨hx, hb, hml, hown, hts, hK, hAp, hE, hcs⟩ := C0
  obtain ⟨pc, i, len, x1, x2, x3, x4, zi, zl, ks⟩ := en
  show Vd D cy ad A nL p l e R s m args below meth c cells slots Q pc lo st σ
  cases i with
  | iconst n =>
    simp only [okE, Bool.and_eq_true, decide_eq_true_eq, beq_iff_eq] at hok
    obtain ⟨hd, hz, rfl⟩ := hok
    exact fun H locs ls hP hS hl => lv_iconst hx hb hd hz (h H locs ls hP hS hl)
  | bipush n =>
    simp only [okE, Bool.and_eq_true, decide_eq_true_eq, beq_iff_eq] at hok
    obtain ⟨hd, hz, rfl⟩ := hok
    exact fun H locs ls hP hS hl => lv_bipush hx hb hd hz (h H locs ls hP hS hl)
  | sipush n =>
    simp only [okE, Bool.and_eq_true, decide_eq_true_eq, beq_iff_eq] at hok
    obtain ⟨hd, hz, rfl⟩ := hok
    exact fun H locs ls hP hS hl => lv_sipush hx hb hd hz (h H locs ls hP hS hl)
  | lconst n =>
    simp only [okE, Bool.and_eq_true, decide_eq_true_eq, beq_iff_eq] at hok
    obtain ⟨hd, hz, rfl⟩ := hok
    exact fun H locs ls hP hS hl => lv_lconst hx hb hd hz (h H locs ls hP hS hl)
  | ldc idx =>
    simp only [okE, Bool.and_eq_true, decide_eq_true_eq, beq_iff_eq] at hok
    obtain ⟨hd, rfl, hz⟩ := hok
    simp only [sem] at h
    by_cases h1 : x1 = 1
    · rw [if_pos h1] at hz
      subst h1
      have h : Vd D cy ad A nL p l e R s m args below meth c cells slots Q (pc + 2) lo (aR (200 + x2) :: st) σ := h
      split at hz
      · rename_i q hq
        simp only [Bool.and_eq_true, beq_iff_eq] at hz
        obtain ⟨⟨z1, z2⟩, z3⟩ := hz
        have hr := hE.2.2.1 q (List.mem_of_getElem? hq)
        rw [z1, z2, z3] at hr
        exact fun H locs ls hP hS hl => va_ldcS hx hb hown hr hd (h H locs ls hP hS hl)
      · cases hz
    · rw [if_neg h1] at hz
      rw [show (x1 == 1) = false from beq_eq_false_iff_ne.mpr h1] at h
      have h : Vd D cy ad A nL p l e R s m args below meth c cells slots Q (pc + 2) lo (aI zi :: st) σ := h
      exact fun H locs ls hP hS hl => lv_ldc hx hb hown (hts _ (atW_in hz)) hd (h H locs ls hP hS hl)
  | ldc_w idx =>
    simp only [okE, Bool.and_eq_true, decide_eq_true_eq, beq_iff_eq] at hok
    obtain ⟨hd, rfl, hz⟩ := hok
    exact fun H locs ls hP hS hl => lv_ldcw hx hb hown (hts _ (atW_in hz)) hd (h H locs ls hP hS hl)
  | ldc2_w idx =>
    simp only [okE, Bool.and_eq_true, decide_eq_true_eq, beq_iff_eq] at hok
    obtain ⟨hd, rfl, hz⟩ := hok
    exact fun H locs ls hP hS hl => lv_ldc2 hx hb hown (hts _ (atW_in hz)) hd (h H locs ls hP hS hl)
  | iload_n k =>
    simp only [okE, Bool.and_eq_true, decide_eq_true_eq, beq_iff_eq] at hok
    obtain ⟨hd, rfl, hk1⟩ := hok
    subst hk1
    obtain ⟨x, hg, hk⟩ := gI_e h
    exact fun H locs ls hP hS hl => lv_iload_n hx hb hd rfl (lo_at hl hg) (hk H locs ls hP hS hl)
  | iload k =>
    simp only [okE, Bool.and_eq_true, decide_eq_true_eq, beq_iff_eq] at hok
    obtain ⟨hd, rfl, hk1⟩ := hok
    subst hk1
    obtain ⟨x, hg, hk⟩ := gI_e h
    exact fun H locs ls hP hS hl => lv_iload hx hb hd (lo_at hl hg) (hk H locs ls hP hS hl)
  | lload_n k =>
    simp only [okE, Bool.and_eq_true, decide_eq_true_eq, beq_iff_eq] at hok
    obtain ⟨hd, rfl, hk1⟩ := hok
    subst hk1
    obtain ⟨x, hg, hk⟩ := gL_e h
    exact fun H locs ls hP hS hl => lv_lload_n hx hb hd rfl (lo_at hl hg) (hk H locs ls hP hS hl)
  | lload k =>
    simp only [okE, Bool.and_eq_true, decide_eq_true_eq, beq_iff_eq] at hok
    obtain ⟨hd, rfl, hk1⟩ := hok
    subst hk1
    obtain ⟨x, hg, hk⟩ := gL_e h
    exact fun H locs ls hP hS hl => lv_lload hx hb hd (lo_at hl hg) (hk H locs ls hP hS hl)
  | aload_n k =>
    simp only [okE, Bool.and_eq_true, decide_eq_true_eq, beq_iff_eq] at hok
    obtain ⟨hd, rfl, hk1⟩ := hok
    subst hk1
    obtain ⟨x, hg, hk⟩ := gR_e h
    exact fun H locs ls hP hS hl => lv_aload_n hx hb hd rfl (lo_at hl hg) (hk H locs ls hP hS hl)
  | aload k =>
    simp only [okE, Bool.and_eq_true, decide_eq_true_eq, beq_iff_eq] at hok
    obtain ⟨hd, rfl, hk1⟩ := hok
    subst hk1
    obtain ⟨x, hg, hk⟩ := gR_e h
    exact fun H locs ls hP hS hl => lv_aload hx hb hd (lo_at hl hg) (hk H locs ls hP hS hl)
  | istore_n k =>
    simp only [okE, Bool.and_eq_true, decide_eq_true_eq, beq_iff_eq] at hok
    obtain ⟨hd, ⟨rfl, hk1⟩, hn⟩ := hok
    subst hk1
    obtain ⟨x, t, rfl, hk⟩ := q1_e h
    exact fun H locs ls hP hS hl => lv_istore_n hx hb hd rfl hl hn rfl (fun ls' hl' => hk H locs ls' hP hS (lo_sto (v := aI x) hl'))
  | istore k =>
    simp only [okE, Bool.and_eq_true, decide_eq_true_eq, beq_iff_eq] at hok
    obtain ⟨hd, ⟨rfl, hk1⟩, hn⟩ := hok
    subst hk1
    obtain ⟨x, t, rfl, hk⟩ := q1_e h
    exact fun H locs ls hP hS hl => lv_istore hx hb hd hl hn rfl (fun ls' hl' => hk H locs ls' hP hS (lo_sto (v := aI x) hl'))
  | astore_n k =>
    simp only [okE, Bool.and_eq_true, decide_eq_true_eq, beq_iff_eq] at hok
    obtain ⟨hd, ⟨rfl, hk1⟩, hn⟩ := hok
    subst hk1
    obtain ⟨x, t, rfl, hk⟩ := qR_e h
    exact fun H locs ls hP hS hl => lv_astore_n hx hb hd rfl hl hn rfl (fun ls' hl' => hk H locs ls' hP hS (lo_sto (v := aR x) hl'))
  | astore k =>
    simp only [okE, Bool.and_eq_true, decide_eq_true_eq, beq_iff_eq] at hok
    obtain ⟨hd, ⟨rfl, hk1⟩, hn⟩ := hok
    subst hk1
    obtain ⟨x, t, rfl, hk⟩ := qR_e h
    exact fun H locs ls hP hS hl => lv_astore hx hb hd hl hn rfl (fun ls' hl' => hk H locs ls' hP hS (lo_sto (v := aR x) hl'))
  | lstore_n k =>
    simp only [okE, Bool.and_eq_true, decide_eq_true_eq, beq_iff_eq] at hok
    obtain ⟨hd, ⟨rfl, hk1⟩, hn⟩ := hok
    subst hk1
    obtain ⟨x, t, rfl, hk⟩ := qL_e h
    exact fun H locs ls hP hS hl => lv_lstore_n hx hb hd rfl hl hn rfl (fun ls' hl' => hk H locs ls' hP hS (lo_stoL (v := aL x) hl'))
  | lstore k =>
    simp only [okE, Bool.and_eq_true, decide_eq_true_eq, beq_iff_eq] at hok
    obtain ⟨hd, ⟨rfl, hk1⟩, hn⟩ := hok
    subst hk1
    obtain ⟨x, t, rfl, hk⟩ := qL_e h
    exact fun H locs ls hP hS hl => lv_lstore hx hb hd hl hn rfl (fun ls' hl' => hk H locs ls' hP hS (lo_stoL (v := aL x) hl'))
  | iinc k n =>
    simp only [okE, Bool.and_eq_true, decide_eq_true_eq, beq_iff_eq] at hok
    obtain ⟨hd, ⟨⟨rfl, hk1⟩, hn⟩, hz⟩ := hok
    subst hk1
    obtain ⟨x, hg, hk⟩ := gI_e h
    obtain ⟨j, hj⟩ := List.getElem?_of_mem (prs_mem (ad := ad) (i := 0) hg)
    rw [Nat.zero_add] at hj
    exact fun H locs ls hP hS hl => lv_iinc hx hb hd hl hj (by rw [hz]) hn rfl (fun ls' hl' => hk H locs ls' hP hS (lo_sto (v := aI (x + zi)) hl'))
  | iadd =>
    simp only [okE, Bool.and_eq_true, decide_eq_true_eq, beq_iff_eq] at hok
    obtain ⟨hd, rfl⟩ := hok
    obtain ⟨x, y, t, rfl, hk⟩ := q2_e h
    exact fun H locs ls hP hS hl => lv_iadd hx hb hd (hk H locs ls hP hS hl)
  | isub =>
    simp only [okE, Bool.and_eq_true, decide_eq_true_eq, beq_iff_eq] at hok
    obtain ⟨hd, rfl⟩ := hok
    obtain ⟨x, y, t, rfl, hk⟩ := q2_e h
    exact fun H locs ls hP hS hl => lv_isub hx hb hd (hk H locs ls hP hS hl)
  | imul =>
    simp only [okE, Bool.and_eq_true, decide_eq_true_eq, beq_iff_eq] at hok
    obtain ⟨hd, rfl⟩ := hok
    obtain ⟨x, y, t, rfl, hk⟩ := q2_e h
    exact fun H locs ls hP hS hl => lv_imul hx hb hd (hk H locs ls hP hS hl)
  | iand =>
    simp only [okE, Bool.and_eq_true, decide_eq_true_eq, beq_iff_eq] at hok
    obtain ⟨hd, rfl⟩ := hok
    obtain ⟨x, y, t, rfl, hk⟩ := q2_e h
    exact fun H locs ls hP hS hl => lv_iand hx hb hd (hk H locs ls hP hS hl)
  | ior =>
    simp only [okE, Bool.and_eq_true, decide_eq_true_eq, beq_iff_eq] at hok
    obtain ⟨hd, rfl⟩ := hok
    obtain ⟨x, y, t, rfl, hk⟩ := q2_e h
    exact fun H locs ls hP hS hl => lv_ior hx hb hd (hk H locs ls hP hS hl)
  | ixor =>
    simp only [okE, Bool.and_eq_true, decide_eq_true_eq, beq_iff_eq] at hok
    obtain ⟨hd, rfl⟩ := hok
    obtain ⟨x, y, t, rfl, hk⟩ := q2_e h
    exact fun H locs ls hP hS hl => lv_ixor hx hb hd (hk H locs ls hP hS hl)
  | ishl =>
    simp only [okE, Bool.and_eq_true, decide_eq_true_eq, beq_iff_eq] at hok
    obtain ⟨hd, rfl⟩ := hok
    obtain ⟨x, y, t, rfl, hk⟩ := q2_e h
    exact fun H locs ls hP hS hl => lv_ishl hx hb hd (hk H locs ls hP hS hl)
  | ishr =>
    simp only [okE, Bool.and_eq_true, decide_eq_true_eq, beq_iff_eq] at hok
    obtain ⟨hd, rfl⟩ := hok
    obtain ⟨x, y, t, rfl, hk⟩ := q2_e h
    exact fun H locs ls hP hS hl => lv_ishr hx hb hd (hk H locs ls hP hS hl)
  | ladd =>
    simp only [okE, Bool.and_eq_true, decide_eq_true_eq, beq_iff_eq] at hok
    obtain ⟨hd, rfl⟩ := hok
    obtain ⟨x, y, t, rfl, hk⟩ := qLL_e h
    exact fun H locs ls hP hS hl => lv_ladd hx hb hd (hk H locs ls hP hS hl)
  | lmul =>
    simp only [okE, Bool.and_eq_true, decide_eq_true_eq, beq_iff_eq] at hok
    obtain ⟨hd, rfl⟩ := hok
    obtain ⟨x, y, t, rfl, hk⟩ := qLL_e h
    exact fun H locs ls hP hS hl => lv_lmul hx hb hd (hk H locs ls hP hS hl)
  | land =>
    simp only [okE, Bool.and_eq_true, decide_eq_true_eq, beq_iff_eq] at hok
    obtain ⟨hd, rfl⟩ := hok
    obtain ⟨x, y, t, rfl, hk⟩ := qLL_e h
    exact fun H locs ls hP hS hl => lv_land hx hb hd (hk H locs ls hP hS hl)
  | lor =>
    simp only [okE, Bool.and_eq_true, decide_eq_true_eq, beq_iff_eq] at hok
    obtain ⟨hd, rfl⟩ := hok
    obtain ⟨x, y, t, rfl, hk⟩ := qLL_e h
    exact fun H locs ls hP hS hl => lv_lor hx hb hd (hk H locs ls hP hS hl)
  | idiv =>
    simp only [okE, Bool.and_eq_true, decide_eq_true_eq, beq_iff_eq] at hok
    obtain ⟨hd, rfl⟩ := hok
    obtain ⟨x, y, t, rfl, hy, hk⟩ := q2_e h
    exact fun H locs ls hP hS hl => lv_idiv hx hb hd hy (hk H locs ls hP hS hl)
  | irem =>
    simp only [okE, Bool.and_eq_true, decide_eq_true_eq, beq_iff_eq] at hok
    obtain ⟨hd, rfl⟩ := hok
    obtain ⟨x, y, t, rfl, hy, hk⟩ := q2_e h
    exact fun H locs ls hP hS hl => lv_irem hx hb hd hy (hk H locs ls hP hS hl)
  | ineg =>
    simp only [okE, Bool.and_eq_true, decide_eq_true_eq, beq_iff_eq] at hok
    obtain ⟨hd, rfl⟩ := hok
    obtain ⟨x, t, rfl, hk⟩ := q1_e h
    exact fun H locs ls hP hS hl => lv_ineg hx hb hd (hk H locs ls hP hS hl)
  | iushr =>
    simp only [okE, Bool.and_eq_true, decide_eq_true_eq, beq_iff_eq] at hok
    obtain ⟨hd, rfl⟩ := hok
    obtain ⟨x, y, t, rfl, hk⟩ := q2_e h
    exact fun H locs ls hP hS hl => lv_iushr hx hb hd rfl (hk H locs ls hP hS hl)
  | i2l =>
    simp only [okE, Bool.and_eq_true, decide_eq_true_eq, beq_iff_eq] at hok
    obtain ⟨hd, rfl⟩ := hok
    obtain ⟨x, t, rfl, hk⟩ := q1_e h
    exact fun H locs ls hP hS hl => lv_i2l hx hb hd rfl (hk H locs ls hP hS hl)
  | i2b =>
    simp only [okE, Bool.and_eq_true, decide_eq_true_eq, beq_iff_eq] at hok
    obtain ⟨hd, rfl⟩ := hok
    obtain ⟨x, t, rfl, hk⟩ := q1_e h
    exact fun H locs ls hP hS hl => lv_i2b hx hb hd rfl (hk H locs ls hP hS hl)
  | lshl =>
    simp only [okE, Bool.and_eq_true, decide_eq_true_eq, beq_iff_eq] at hok
    obtain ⟨hd, rfl⟩ := hok
    obtain ⟨x, y, t, rfl, hk⟩ := qIL_e h
    exact fun H locs ls hP hS hl => lv_lshl hx hb hd rfl (hk H locs ls hP hS hl)
  | lcmp =>
    simp only [okE, Bool.and_eq_true, decide_eq_true_eq, beq_iff_eq] at hok
    obtain ⟨hd, rfl⟩ := hok
    obtain ⟨x, y, t, rfl, hk⟩ := qLL_e h
    exact fun H locs ls hP hS hl => W.lcmp hx hb hd (hk H locs ls hP hS hl)
  | dup =>
    simp only [okE, Bool.and_eq_true, decide_eq_true_eq, beq_iff_eq] at hok
    obtain ⟨hd, rfl⟩ := hok
    simp only [sem] at h
    split at h
    · exact fun H locs ls hP hS hl => lv_dup hx hb hd (isC1_e h.1) (h.2 H locs ls hP hS hl)
    · exact h.elim
  | dup2 =>
    simp only [okE, Bool.and_eq_true, decide_eq_true_eq, beq_iff_eq] at hok
    obtain ⟨hd, rfl⟩ := hok
    simp only [sem] at h
    split at h
    · exact fun H locs ls hP hS hl => lv_dup2_11 hx hb hd (isC1_e h.1) (isC1_e h.2.1) (h.2.2 H locs ls hP hS hl)
    · exact h.elim
  | pop =>
    simp only [okE, Bool.and_eq_true, decide_eq_true_eq, beq_iff_eq] at hok
    obtain ⟨hd, rfl⟩ := hok
    simp only [sem] at h
    split at h
    · exact fun H locs ls hP hS hl => lv_pop hx hb hd (isC1_e h.1) (h.2 H locs ls hP hS hl)
    · exact h.elim
  | ifCond cd off =>
    simp only [okE, Bool.and_eq_true, decide_eq_true_eq, beq_iff_eq] at hok
    obtain ⟨hd, rfl, ht⟩ := hok
    obtain ⟨x, t, rfl, hk⟩ := q1_e h
    exact snd_br0 C hd ht hk
  | if_icmp cd off =>
    simp only [okE, Bool.and_eq_true, decide_eq_true_eq, beq_iff_eq] at hok
    obtain ⟨hd, rfl, ht⟩ := hok
    obtain ⟨x, y, t, rfl, hk⟩ := q2_e h
    exact snd_br C hd ht hk
  | goto off =>
    simp only [okE, Bool.and_eq_true, decide_eq_true_eq, beq_iff_eq] at hok
    obtain ⟨hd, rfl, ht⟩ := hok
    exact fun H locs ls hP hS hl => lv_goto hx hb hd ht (h H locs ls hP hS hl)
  | tableswitch d a b os =>
    simp only [okE, Bool.and_eq_true, decide_eq_true_eq] at hok
    obtain ⟨hd, ⟨⟨h0, h2⟩, h3⟩, h4⟩ := hok
    obtain ⟨x, t, rfl, k2⟩ := q1_e h
    exact snd_tab C hd h0 h2 h3 h4 k2
  | lookupswitch d ps =>
    simp only [okE, Bool.and_eq_true, decide_eq_true_eq] at hok
    obtain ⟨hd, ⟨⟨h0, h1⟩, h2⟩, h3⟩ := hok
    obtain ⟨x, t, rfl, k1⟩ := q1_e h
    obtain ⟨tgt, g1, g2⟩ := sw_off h0 h1 h2 k1
    exact fun H locs ls hP hS hl => lv_lookup hx hb hd h3 rfl g1 (g2 H locs ls hP hS hl)
  | getfield idx =>
    simp only [okE, Bool.and_eq_true, decide_eq_true_eq, beq_iff_eq] at hok
    obtain ⟨hd, rfl, hz⟩ := hok
    obtain ⟨a, t, rfl, ho, hk⟩ := qR_e h
    split at hz
    · rename_i Cn F N hc
      simp only [Bool.and_eq_true, decide_eq_true_eq, beq_iff_eq] at hz
      obtain ⟨⟨⟨z1, z2⟩, z3⟩, z4⟩ := hz
      cases hx4 : (x4 == 2) with
      | true =>
        rw [hx4] at z4 hk
        exact snd_getf C hd hc z1 z2 (atW_in z3) ho ((fo_of ho hc z1).2 z4.symm) hk
      | false =>
        rw [hx4] at z4 hk
        exact snd_getf C hd hc z1 z2 (atW_in z3) ho ((fo_of ho hc z1).1 z4.symm) hk
    · cases hz
  | putfield idx =>
    simp only [okE, Bool.and_eq_true, decide_eq_true_eq, beq_iff_eq] at hok
    obtain ⟨hd, rfl, hz⟩ := hok
    obtain ⟨a, x, t, rfl, ho, hk⟩ := qIV_e h
    split at hz
    · rename_i Cn F N hc
      simp only [Bool.and_eq_true, decide_eq_true_eq, beq_iff_eq] at hz
      obtain ⟨⟨⟨⟨⟨z1, z2⟩, z3⟩, z4⟩, z6⟩, z5⟩ := hz
      have hf := (fo_of ho hc z1).1 z6
      by_cases h1 : x4 = 1
      · rw [if_pos h1] at z5
        simp only [decide_eq_true_eq] at z5
        rw [show (x4 == 1) = true from beq_iff_eq.mpr h1] at hk
        obtain ⟨hzo, hk⟩ := hk
        rcases hzo with rfl | rfl
        · exact snd_putf C hd hc z1 z2 (atW_in z3) z4 z5 (by decide) (by decide) ho hf hk
        · exact snd_putf C hd hc z1 z2 (atW_in z3) z4 z5 (by decide) (by decide) ho hf hk
      · rw [if_neg h1] at z5
        simp only [decide_eq_true_eq] at z5
        rw [show (x4 == 1) = false from beq_eq_false_iff_ne.mpr h1] at hk
        exact snd_putf C hd hc z1 z2 (atW_in z3) z4 z5 rfl rfl ho hf hk
    · cases hz
  | getstatic idx =>
    simp only [okE, Bool.and_eq_true, decide_eq_true_eq, beq_iff_eq] at hok
    obtain ⟨hd, rfl, hz⟩ := hok
    split at hz
    · rename_i q hq
      have hZ := (hE.1 x1 q hq).1
      by_cases h1 : x2 = 1
      · rw [if_pos h1] at hz
        split at hz
        · rename_i f hf
          simp only [Bool.and_eq_true, beq_iff_eq] at hz
          obtain ⟨⟨⟨⟨z1, z2⟩, z3⟩, z4⟩, z5⟩ := hz
          have hnw := hE.2.2.2.1 f (List.mem_of_getElem? hf)
          rw [z1, z2, z3, z4, z5] at hnw
          exact fun H locs ls hP hS hl => va_getsN hx hb hZ hS hown (va_Nw.use rfl hnw) (fun x h => h) hd (h H locs ls hP hS hl)
        · cases hz
      · rw [if_neg h1] at hz
        exact fun H locs ls hP hS hl => va_gets hx hb hZ hS hown (hts _ (atW_in hz)) (fun x h => h) hd (h H locs ls hP hS hl)
    · cases hz
  | iaload =>
    simp only [okE, Bool.and_eq_true, decide_eq_true_eq, beq_iff_eq] at hok
    obtain ⟨hd, rfl⟩ := hok
    obtain ⟨a, i, t, rfl, g1, g2, hk⟩ := qIR_e h
    exact snd_iald C hd g1 g2 hk
  | baload =>
    simp only [okE, Bool.and_eq_true, decide_eq_true_eq, beq_iff_eq] at hok
    obtain ⟨hd, rfl⟩ := hok
    obtain ⟨a, i, t, rfl, hk⟩ := qIR_e h
    exact snd_bald C hd hk.1 hk.2.1 hk.2.2
  | caload =>
    simp only [okE, Bool.and_eq_true, decide_eq_true_eq, beq_iff_eq] at hok
    obtain ⟨hd, rfl⟩ := hok
    obtain ⟨a, i, t, rfl, hk⟩ := qIR_e h
    exact snd_cald C hd hk.1 hk.2.1 hk.2.2
  | laload =>
    simp only [okE, Bool.and_eq_true, decide_eq_true_eq, beq_iff_eq] at hok
    obtain ⟨hd, rfl⟩ := hok
    obtain ⟨a, i, t, rfl, hk⟩ := qIR_e h
    exact snd_lald C hd hk.1 hk.2.1 hk.2.2
  | iastore =>
    simp only [okE, Bool.and_eq_true, decide_eq_true_eq, beq_iff_eq] at hok
    obtain ⟨hd, rfl⟩ := hok
    obtain ⟨a, i, x, t, rfl, hk⟩ := qIIR_e h
    exact snd_iast C hd hk.1 hk.2.1 hk.2.2
  | bastore =>
    simp only [okE, Bool.and_eq_true, decide_eq_true_eq, beq_iff_eq] at hok
    obtain ⟨hd, rfl⟩ := hok
    obtain ⟨a, i, x, t, rfl, hk⟩ := qIIR_e h
    exact snd_bast C hd hk.1 hk.2.1 hk.2.2
  | lastore =>
    simp only [okE, Bool.and_eq_true, decide_eq_true_eq, beq_iff_eq] at hok
    obtain ⟨hd, rfl⟩ := hok
    obtain ⟨a, i, x, t, rfl, hk⟩ := qLIR_e h
    exact snd_last C hd hk.1 hk.2.1 hk.2.2
  | aaload =>
    simp only [okE, Bool.and_eq_true, decide_eq_true_eq, beq_iff_eq] at hok
    obtain ⟨hd, rfl⟩ := hok
    obtain ⟨a, i, t, rfl, g1, g2, hk⟩ := qIR_e h
    exact snd_aald C hd g1 g2 hk
  | arraylength =>
    simp only [okE, Bool.and_eq_true, decide_eq_true_eq, beq_iff_eq] at hok
    obtain ⟨hd, rfl⟩ := hok
    obtain ⟨a, t, rfl, g1, hk⟩ := qR_e h
    exact snd_alen C hd g1 hk
  | invokevirtual idx =>
    simp only [okE, Bool.and_eq_true, decide_eq_true_eq, beq_iff_eq] at hok
    obtain ⟨hd, rfl, hz⟩ := hok
    simp only [sem] at h
    obtain ⟨l0, t0, rfl, hln, h⟩ := spl_e h
    obtain ⟨a, t, rfl, hrc, hws, hcall⟩ := qR_e h
    rw [List.append_nil] at hcall
    split at hz
    · rename_i M hM
      simp only [Bool.and_eq_true, decide_eq_true_eq, beq_iff_eq] at hz
      obtain ⟨⟨⟨⟨⟨⟨z1, z2⟩, z3⟩, z4⟩, z5⟩, z6⟩, z7⟩ := hz
      have := snd_callV (Q := Q) (e := e) (below := below) (meth := meth) (lo := lo) C hSp hd hM z2 (atW_in z1) z3 z4 (Nat.le_trans z5 hfr) (Nat.le_trans z6 hlc) z7 (av := l0.reverse) (by rw [List.length_reverse]; exact hln) hrc (w8_e hws) hcall (fun r σ' q => q)
      rw [List.reverse_reverse] at this
      exact this
    · cases hz
  | invokestatic idx =>
    simp only [okE, Bool.and_eq_true, decide_eq_true_eq, beq_iff_eq] at hok
    obtain ⟨hd, rfl, hz⟩ := hok
    simp only [sem] at h
    by_cases h9 : x4 = 9
    · subst h9
      rw [if_pos (Or.inl rfl)] at hz
      simp only [Bool.and_eq_true, decide_eq_true_eq] at hz
      obtain ⟨⟨z1, z2⟩, z3⟩ := hz
      obtain ⟨a, sp, b, dp, n, t, rfl, k0, k1, k2, k3, k4, k5, k6, k7⟩ := qC_e h
      exact snd_copy C hd (atW_in z1) (Nat.le_trans z2 hfr) (Nat.le_trans z3 hlc) k1 k2 k3 k4 k5 (w8_e k6) (Or.inl ⟨k0.1, k0.2, k7⟩)
    rw [show (x4 == 9) = false from beq_eq_false_iff_ne.mpr h9] at h
    by_cases h8 : x4 = 8
    · subst h8
      rw [if_pos (Or.inr rfl)] at hz
      simp only [Bool.and_eq_true, decide_eq_true_eq] at hz
      obtain ⟨⟨z1, z2⟩, z3⟩ := hz
      obtain ⟨a, sp, b, dp, n, t, rfl, k0, k1, k2, k3, k4, k5, k6, k7⟩ := qC_e h
      exact snd_copy C hd (atW_in z1) (Nat.le_trans z2 hfr) (Nat.le_trans z3 hlc) k1 k2 k3 k4 k5 (w8_e k6) (Or.inr ⟨k0.1, k0.2, k7⟩)
    rw [show (x4 == 8) = false from beq_eq_false_iff_ne.mpr h8] at h
    rw [if_neg (fun q => q.elim h9 h8)] at hz
    by_cases h10 : x4 = 10
    · subst h10
      rw [if_pos rfl] at hz
      simp only [Bool.and_eq_true, decide_eq_true_eq] at hz
      obtain ⟨⟨z1, z2⟩, z3⟩ := hz
      obtain ⟨x, y, t, rfl, hws, hk⟩ := q2_e h
      have hws := w8_e hws
      exact fun H locs ls hP hS hl => va_mmax hx hb (hml.trans hl.1.symm) hown (hts _ (atW_in z1)) (hts _ math_tg.1.1) (hts _ math_tg.2.1) (hts _ math_tg.2.2.1) (Nat.le_trans z2 hfr) (by rw [wsum_e]; omega) hcs.1 hcs.2 hd (hk H locs ls hP hS hl)
    rw [show (x4 == 10) = false from beq_eq_false_iff_ne.mpr h10] at h
    rw [if_neg h10] at hz
    by_cases h11 : x4 = 11
    · subst h11
      rw [if_pos rfl] at hz
      simp only [Bool.and_eq_true, decide_eq_true_eq] at hz
      obtain ⟨⟨z1, z2⟩, z3⟩ := hz
      obtain ⟨x, y, t, rfl, hws, hk⟩ := q2_e h
      have hws := w8_e hws
      exact fun H locs ls hP hS hl => va_mmin hx hb (hml.trans hl.1.symm) hown (hts _ (atW_in z1)) (hts _ math_tg.1.2.1) (hts _ math_tg.2.1) (hts _ math_tg.2.2.2.1) (Nat.le_trans z2 hfr) (by rw [wsum_e]; omega) hcs.1 hcs.2 hd (hk H locs ls hP hS hl)
    rw [show (x4 == 11) = false from beq_eq_false_iff_ne.mpr h11] at h
    rw [if_neg h11] at hz
    by_cases h12 : x4 = 12
    · subst h12
      rw [if_pos rfl] at hz
      simp only [Bool.and_eq_true, decide_eq_true_eq] at hz
      obtain ⟨⟨z1, z2⟩, z3⟩ := hz
      obtain ⟨x, t, rfl, hws, hk⟩ := q1_e h
      have hws := w8_e hws
      exact fun H locs ls hP hS hl => va_mabs hx hb (hml.trans hl.1.symm) hown (hts _ (atW_in z1)) (hts _ math_tg.1.2.2) (hts _ math_tg.2.1) (hts _ math_tg.2.2.2.2) (Nat.le_trans z2 hfr) (by rw [wsum_e]; omega) hcs.1 hcs.2 hd (hk H locs ls hP hS hl)
    rw [show (x4 == 12) = false from beq_eq_false_iff_ne.mpr h12] at h
    rw [if_neg h12] at hz
    simp only [cond_false] at h
    obtain ⟨l0, t, rfl, hln, hws, hcall⟩ := spl_e h
    rw [List.append_nil] at hcall
    split at hz
    · rename_i M hM
      simp only [Bool.and_eq_true, decide_eq_true_eq, beq_iff_eq] at hz
      obtain ⟨⟨⟨⟨⟨z1, z2⟩, z3⟩, z4⟩, z5⟩, z6⟩ := hz
      have hlk : Jvm.Cond.methodLink own idx M.1 ∈ tg ∨ ∃ f ∈ nestM, f.1 = own ∧ f.2.1 = idx ∧ f.2.2.1 = M.1 := by
        by_cases h1 : x4 = 1
        · rw [if_pos h1] at z1
          split at z1
          · rename_i f hf
            simp only [Bool.and_eq_true, beq_iff_eq, decide_eq_true_eq] at z1
            exact Or.inr ⟨f, List.mem_of_getElem? hf, z1.1.1, z1.1.2, z1.2⟩
          · cases z1
        · rw [if_neg h1] at z1
          exact Or.inl (atW_in z1)
      have := snd_callS (Q := Q) (e := e) (below := below) (meth := meth) (lo := lo) C hSp hd hM z2 hlk z3 z4 (Nat.le_trans z5 hfr) (Nat.le_trans z6 hlc) (av := l0.reverse) (by rw [List.length_reverse]; exact hln) (w8_e hws) hcall (fun r σ' q => q)
      rw [List.reverse_reverse] at this
      exact this
    · cases hz
  | ireturn =>
    simp only [okE, Bool.and_eq_true, decide_eq_true_eq, beq_iff_eq] at hok
    obtain ⟨hd, rfl, hz⟩ := hok
    obtain ⟨x, t, rfl, rfl, hb1⟩ := q1_e h
    split at hz
    · have hk : Rt [aI x] σ := by
        cases h1 : (x1 == 1) with
        | true => rw [h1] at hb1; exact hb1.2
        | false => rw [h1] at hb1; exact hb1
      exact hR.1 _ _ _ _ hd ⟨_, rfl, rfl⟩ hk
    · rw [hz] at hb1
      obtain ⟨hb1, hk⟩ := hb1
      refine hR.1 _ _ _ _ hd ?_ hk
      rcases hb1 with rfl | rfl
      · exact ⟨_, rfl, by decide⟩
      · exact ⟨_, rfl, by decide⟩
    · cases hz
  | lreturn =>
    simp only [okE, Bool.and_eq_true, decide_eq_true_eq, beq_iff_eq] at hok
    obtain ⟨hd, rfl, hz⟩ := hok
    obtain ⟨x, t, rfl, rfl, hk⟩ := qL_e h
    exact hR.2.1 _ _ _ _ hd hz hk
  | areturn =>
    simp only [okE, Bool.and_eq_true, decide_eq_true_eq, beq_iff_eq] at hok
    obtain ⟨hd, rfl, hz⟩ := hok
    obtain ⟨x, t, rfl, rfl, hk⟩ := qR_e h
    refine hR.2.2.1 _ _ _ _ hd ?_ hk
    split at hz
    · exact ⟨_, rfl, Or.inl ⟨_, rfl⟩⟩
    · exact ⟨_, rfl, Or.inr ⟨_, rfl⟩⟩
    · cases hz
  | return_ =>
    simp only [okE, Bool.and_eq_true, decide_eq_true_eq, beq_iff_eq] at hok
    obtain ⟨hd, rfl, hz⟩ := hok
    obtain ⟨rfl, hk⟩ := h
    exact hR.2.2.2 _ _ _ hd hz hk
  | _ => exact h.elim
end SND4
end
section
/-! the locals at a method's entry -/
def lay : List AV → Lo
  | [] => []
  | .inr (.inl x) :: t => some (aL x) :: none :: lay t
  | .inl x :: t => some (aI x) :: lay t
  | .inr (.inr x) :: t => some (aR x) :: lay t
def pad : Nat → Lo → Lo
  | 0, _ => []
  | n + 1, [] => none :: pad n []
  | n + 1, a :: t => a :: pad n t
def ent0 (nL : Nat) (av : List AV) : Lo := pad nL (lay av)
theorem pad_e : ∀ (n : Nat) (lo : Lo), lo.length ≤ n → pad n lo = lo ++ List.replicate (n - lo.length) none
  | 0, [], _ => rfl
  | 0, _ :: _, h => absurd h (by simp)
  | n + 1, [], _ => by
    have := pad_e n [] (Nat.zero_le n)
    simp only [pad, this]
    simp [List.replicate_succ]
  | n + 1, a :: t, h => by
    have := pad_e n t (by simpa using h)
    simp only [pad, this]
    simp
theorem lay_len {ad : Nat → Nat} : ∀ av : List AV, (lg_sl (av.map (cv ad))).length = (lay av).length
  | [] => rfl
  | .inr (.inl x) :: t => by
    have := lay_len (ad := ad) t
    simp only [List.map_cons, lay, List.length_cons, ← this]
    simp [lg_sl, cv, Value.category]
  | .inl x :: t => by
    have := lay_len (ad := ad) t
    simp only [List.map_cons, lay, List.length_cons, ← this]
    simp [lg_sl, cv, Value.category]
  | .inr (.inr x) :: t => by
    have := lay_len (ad := ad) t
    simp only [List.map_cons, lay, List.length_cons, ← this]
    simp [lg_sl, cv, Value.category]
theorem prs_nil {ad : Nat → Nat} : ∀ (n i : Nat), prs ad i (List.replicate n none) = []
  | 0, i => rfl
  | n + 1, i => by rw [List.replicate_succ]; exact prs_nil n (i + 1)
theorem prs_lay {ad : Nat → Nat} {n : Nat} : ∀ (av : List AV) (i : Nat), prs ad i (lay av ++ List.replicate n none) = lv_args i (av.map (cv ad))
  | [], i => prs_nil n i
  | .inr (.inl x) :: t, i => by
    have := prs_lay (ad := ad) (n := n) t (i + 1 + 1)
    simp only [lay, List.cons_append, prs, List.map_cons, lv_args, this]
    simp [cv, Value.category]
  | .inl x :: t, i => by
    have := prs_lay (ad := ad) (n := n) t (i + 1)
    simp only [lay, List.cons_append, prs, List.map_cons, lv_args, this]
    simp [cv, Value.category]
  | .inr (.inr x) :: t, i => by
    have := prs_lay (ad := ad) (n := n) t (i + 1)
    simp only [lay, List.cons_append, prs, List.map_cons, lv_args, this]
    simp [cv, Value.category]
/-- what a frame's judgement is closed under: its instructions -/
def Cl (S : Sp) (Φ : Rs) (kc : List Ent) (v : Kt) : Prop := ∀ en ∈ kc, ∀ lo st σ, sem S Φ v en lo st σ → v en.1 lo st σ
/-- less is known of the locals -/
def lw : Lo → Lo → Prop
  | [], [] => True
  | none :: a, _ :: b => lw a b
  | some x :: a, some y :: b => x = y ∧ lw a b
  | _, _ => False
def Wk (v : Kt) : Prop := ∀ pc (lo' lo : Lo) st σ, lw lo' lo → v pc lo' st σ → v pc lo st σ
theorem prs_lw {ad : Nat → Nat} : ∀ {a b : Lo} {i : Nat} {q : Nat × Value}, lw a b → q ∈ prs ad i a → q ∈ prs ad i b
  | [], [], i, q, h, hq => hq
  | [], _ :: _, i, q, h, hq => by simp [prs] at hq
  | none :: a, [], i, q, h, hq => by simp [lw] at h
  | some x :: a, [], i, q, h, hq => by simp [lw] at h
  | none :: a, none :: b, i, q, h, hq => prs_lw (a := a) (b := b) (i := i + 1) (by simpa [lw] using h) hq
  | none :: a, some y :: b, i, q, h, hq => List.mem_cons_of_mem _ (prs_lw (a := a) (b := b) (i := i + 1) (by simpa [lw] using h) hq)
  | some x :: a, none :: b, i, q, h, hq => by simp [lw] at h
  | some x :: a, some y :: b, i, q, h, hq => by
    obtain ⟨h1, h2⟩ : x = y ∧ lw a b := by simpa [lw] using h
    subst h1
    rcases List.mem_cons.mp hq with g | g
    · rw [g]; exact List.mem_cons_self
    · exact List.mem_cons_of_mem _ (prs_lw h2 g)
def okK (M : MI) (kc : List Ent) : Bool := okM M && kc.all (okE M.1.cls M.2.1 M.2.2.1 M.2.2.2.2.2.1 M.2.2.2.2.2.2.1 M.2.2.2.1)
set_option maxHeartbeats 1000000 in
theorem met_of {l : Launch} {D : va_G} {cy : Nat → ClassId} {ad : Nat → Nat} {A : Nat → Prop} {M : MI} {kc : List Ent} (hok : okK M kc = true) {S : Sp} (hSp : SpH l D cy ad A S) (hAp : Apart ad A) {av : List AV} {σ : St} {Φ : Rs} (hlen : (lay av).length ≤ M.2.2.1)
    (h : ∀ v : Kt, Cl S Φ kc v → Wk v → v 0 (ent0 M.2.2.1 av) [] σ) : MetV l D cy ad A M av σ Φ := by
  simp only [okK, Bool.and_eq_true, List.all_eq_true] at hok
  obtain ⟨hokM, hokE⟩ := hok
  obtain ⟨g1, -, -, g4, g5, g6⟩ := okM_e hokM
  refine Met.ofW (cc := M.2.1) (maxL := M.2.2.1) (ret := M.2.2.2.1) g6 rfl ?_
  intro p e s m args below meth c s₁ B hml hv
  obtain ⟨rfl, hP, hK, hE⟩ := hv
  have hx := B.exec
  have hb := B.bytes
  have hr := B.returns
  have hts := atoms_spec (ws := wsM M) B.pre
  have hown : s.vm.findClass M.1.cls = some m.cls := findClass_of_methodNamed B.named
  have hlocks := B.notSynchronized
  have C : Cx D cy ad A M.2.2.1 p (rmM M) s m (av.map (cv ad)).toArray c 0 0 M.1.cls M.2.1 := ⟨hx, hb, hml, hown, fun w hw => hts w (List.mem_cons_of_mem _ hw), hK, hAp, hE, Nat.le_refl _, Nat.le_refl _⟩
  have hl := lv_entry (av.map (cv ad)) (n := M.2.2.1) (by rw [lay_len]; exact hlen)
  rw [lg_entry_eq]
  generalize (lg_sl (av.map (cv ad)) ++ List.replicate (M.2.2.1 - (lg_sl (av.map (cv ad))).length) Slot.unset).toArray = ls at hl ⊢
  have hl' : lv_has ls M.2.2.1 (prs ad 0 (ent0 M.2.2.1 av)) := by
    unfold ent0
    rw [pad_e _ _ hlen, prs_lay]
    exact hl
  have hR : RetH M.2.2.2.1 M.2.1 Φ (Vd D cy ad A M.2.2.1 p l e (rmM M) s m (av.map (cv ad)).toArray below meth c 0 0 (MQ below (fun _ => Post D cy ad A Φ) (av.map (cv ad)).toArray s 0 0 A)) := by
    refine ⟨fun pc lo x σ hd ⟨ty, h1, h2⟩ hΦ => ?_, fun pc lo x σ hd h1 hΦ => ?_, fun pc lo a σ hd ⟨ty, h1, h2⟩ hΦ => ?_, fun pc lo σ hd h1 hΦ => ?_⟩
    · intro H locs ls hP hS hl
      exact W.zret hx hb (hr.trans h1) h2 (fun t ht hW => ⟨⟨[aI x], σ, by simp, rfl, hΦ, by rw [ht]; exact hP⟩, hS.F ht⟩) hS.2.2 hd
    · intro H locs ls hP hS hl
      exact W.lret hx hb (hr.trans h1) (fun t ht hW => ⟨⟨[aL x], σ, by simp, rfl, hΦ, by rw [ht]; exact hP⟩, hS.F ht⟩) hS.2.2 hd
    · intro H locs ls hP hS hl
      exact W.aret hx hb (hr.trans h1) h2 (Or.inr ⟨ad a, rfl⟩) (fun t ht hW => ⟨⟨[aR a], σ, by simp, rfl, hΦ, by rw [ht]; exact hP⟩, hS.F ht⟩) hS.2.2 hd
    · intro H locs ls hP hS hl
      exact W.vret hx hb (hr.trans h1) (fun t ht hW => ⟨⟨[], σ, by simp, rfl, hΦ, by rw [ht]; exact hP⟩, hS.F ht⟩) hS.2.2 hd
  have hV := h (Vd D cy ad A M.2.2.1 p l e (rmM M) s m (av.map (cv ad)).toArray below meth c 0 0 (MQ below (fun _ => Post D cy ad A Φ) (av.map (cv ad)).toArray s 0 0 A)) (fun en hen lo st σ hs => sem_sound C hSp hR (Nat.le_refl _) (Nat.le_refl _) (hokE en hen) hs) (fun pc lo' lo st σ hlw h1 H locs ls hP hS hl => h1 H locs ls hP hS ⟨hl.1, hl.2.1, fun q hq => hl.2.2 q (prs_lw hlw hq)⟩)
  exact hV s.heap [] ls hP va_S.rf hl'
def SpM (S : Sp) : Prop := ∀ q av σ (Φ Φ' : Rs), (∀ r σ', Φ r σ' → Φ' r σ') → S q av σ Φ → S q av σ Φ'
theorem cl_at {S : Sp} {Φ : Rs} {kc : List Ent} {v : Kt} (hv : Cl S Φ kc v) (i : Nat) {en : Ent} (he : kc[i]? = some en) {lo : Lo} {st : List AV} {σ : St} (h : sem S Φ v en lo st σ) : v en.1 lo st σ := hv en (List.mem_of_getElem? he) lo st σ h
end
section
/-! what the pure side may use: a predicate on calls, monotone, closed under the methods' code -/
def Sys (S : Sp) : Prop := SpM S ∧ (∀ (q : Nat) (M : MI) (kc : List Ent) (av : List AV) (σ : St) (Φ : Rs), mktab[q]? = some (M, kc) → (lay av).length ≤ M.2.2.1 → (∀ v : Kt, Cl S Φ kc v → Wk v → v 0 (ent0 M.2.2.1 av) [] σ) → S q av σ Φ)
def Mt (l : Launch) (D : va_G) (cy : Nat → ClassId) (ad : Nat → Nat) (A : Nat → Prop) : Sp := fun q av σ Φ => ∀ M, mtab[q]? = some M → MetV l D cy ad A M av σ Φ
theorem MetV_mono {l : Launch} {D : va_G} {cy : Nat → ClassId} {ad : Nat → Nat} {A : Nat → Prop} {M : MI} {av : List AV} {σ : St} {Φ Φ' : Rs} (hΦ : ∀ r σ', Φ r σ' → Φ' r σ') (h : MetV l D cy ad A M av σ Φ) : MetV l D cy ad A M av σ Φ' := by
  unfold MetV Met at h ⊢
  refine MetFree.mono h (fun a s q => q) (fun _ _ _ _ _ q => q) (fun a s o t hp q => ⟨⟨?_, q.1.2⟩, q.2⟩)
  obtain ⟨r, σ', h1, h2, h3, h4⟩ := q.1.1
  exact ⟨r, σ', h1, h2, hΦ r σ' h3, h4⟩
end
section
theorem mkt_X0_reckon : mktab[0]? = some (M_X0_reckon, k_X0_reckon) := rfl
theorem mkt_X0_reckonShots : mktab[1]? = some (M_X0_reckonShots, k_X0_reckonShots) := rfl
theorem mkt_X0_findSignals : mktab[2]? = some (M_X0_findSignals, k_X0_findSignals) := rfl
theorem mkt_X0_endOf : mktab[3]? = some (M_X0_endOf, k_X0_endOf) := rfl
theorem mkt_X0_findFiring : mktab[4]? = some (M_X0_findFiring, k_X0_findFiring) := rfl
theorem mkt_X0_findBuried : mktab[5]? = some (M_X0_findBuried, k_X0_findBuried) := rfl
theorem mkt_X0_doesFire : mktab[6]? = some (M_X0_doesFire, k_X0_doesFire) := rfl
theorem mkt_X0_isBuried : mktab[7]? = some (M_X0_isBuried, k_X0_isBuried) := rfl
theorem mkt_X0_unsignalled : mktab[8]? = some (M_X0_unsignalled, k_X0_unsignalled) := rfl
theorem mkt_X0_isTorn : mktab[9]? = some (M_X0_isTorn, k_X0_isTorn) := rfl
theorem mkt_X0_tornBits : mktab[10]? = some (M_X0_tornBits, k_X0_tornBits) := rfl
theorem mkt_X0_ringOf : mktab[11]? = some (M_X0_ringOf, k_X0_ringOf) := rfl
theorem mkt_X0_rockInRing : mktab[12]? = some (M_X0_rockInRing, k_X0_rockInRing) := rfl
theorem mkt_X0_rockOfIn : mktab[13]? = some (M_X0_rockOfIn, k_X0_rockOfIn) := rfl
theorem mkt_X0_canLayOut : mktab[14]? = some (M_X0_canLayOut, k_X0_canLayOut) := rfl
theorem mkt_X0_layOut : mktab[15]? = some (M_X0_layOut, k_X0_layOut) := rfl
theorem mkt_X1_isUnder : mktab[16]? = some (M_X1_isUnder, k_X1_isUnder) := rfl
theorem mkt_X1_firstLoad : mktab[17]? = some (M_X1_firstLoad, k_X1_firstLoad) := rfl
theorem mkt_X1_secondLoad : mktab[18]? = some (M_X1_secondLoad, k_X1_secondLoad) := rfl
theorem mkt_X1_rock : mktab[19]? = some (M_X1_rock, k_X1_rock) := rfl
theorem mkt_X1_needs : mktab[20]? = some (M_X1_needs, k_X1_needs) := rfl
theorem mkt_X1_made : mktab[21]? = some (M_X1_made, k_X1_made) := rfl
theorem mkt_X1_word : mktab[22]? = some (M_X1_word, k_X1_word) := rfl
theorem mkt_X2_copyFrom : mktab[23]? = some (M_X2_copyFrom, k_X2_copyFrom) := rfl
theorem mkt_X2_fits : mktab[24]? = some (M_X2_fits, k_X2_fits) := rfl
theorem mkt_X2_isHole : mktab[25]? = some (M_X2_isHole, k_X2_isHole) := rfl
theorem mkt_X2_isWire : mktab[26]? = some (M_X2_isWire, k_X2_isWire) := rfl
theorem mkt_X2_mark : mktab[27]? = some (M_X2_mark, k_X2_mark) := rfl
theorem mkt_X2_cord : mktab[28]? = some (M_X2_cord, k_X2_cord) := rfl
theorem mkt_X2_addHole : mktab[29]? = some (M_X2_addHole, k_X2_addHole) := rfl
theorem mkt_X2_markAhead : mktab[30]? = some (M_X2_markAhead, k_X2_markAhead) := rfl
theorem mkt_X2_isAhead : mktab[31]? = some (M_X2_isAhead, k_X2_isAhead) := rfl
theorem mkt_X2_changeMark : mktab[32]? = some (M_X2_changeMark, k_X2_changeMark) := rfl
theorem mkt_X2_addWire : mktab[33]? = some (M_X2_addWire, k_X2_addWire) := rfl
theorem mkt_X2_removeWire : mktab[34]? = some (M_X2_removeWire, k_X2_removeWire) := rfl
theorem mkt_X2_removeLastHole : mktab[35]? = some (M_X2_removeLastHole, k_X2_removeLastHole) := rfl
theorem mkt_X2_changeRule : mktab[36]? = some (M_X2_changeRule, k_X2_changeRule) := rfl
theorem mkt_X2_holeAt : mktab[37]? = some (M_X2_holeAt, k_X2_holeAt) := rfl
theorem mkt_X2_deadBits : mktab[38]? = some (M_X2_deadBits, k_X2_deadBits) := rfl
theorem mkt_X2_areNear : mktab[39]? = some (M_X2_areNear, k_X2_areNear) := rfl
theorem mkt_X2_columnsOff : mktab[40]? = some (M_X2_columnsOff, k_X2_columnsOff) := rfl
theorem mkt_X2_firstLoadOf : mktab[41]? = some (M_X2_firstLoadOf, k_X2_firstLoadOf) := rfl
theorem mkt_X2_secondLoadOf : mktab[42]? = some (M_X2_secondLoadOf, k_X2_secondLoadOf) := rfl
theorem mkt_X2_loadsOf : mktab[43]? = some (M_X2_loadsOf, k_X2_loadsOf) := rfl
theorem mkt_X2_hasShots : mktab[44]? = some (M_X2_hasShots, k_X2_hasShots) := rfl
theorem mkt_X2_rockOf : mktab[45]? = some (M_X2_rockOf, k_X2_rockOf) := rfl
theorem mkt_X2_needsOf : mktab[46]? = some (M_X2_needsOf, k_X2_needsOf) := rfl
theorem mkt_X2_reliefOf : mktab[47]? = some (M_X2_reliefOf, k_X2_reliefOf) := rfl
theorem mkt_X3_draw : mktab[48]? = some (M_X3_draw, k_X3_draw) := rfl
theorem mkt_X3_settle : mktab[49]? = some (M_X3_settle, k_X3_settle) := rfl
theorem mkt_X3_isQuiet : mktab[50]? = some (M_X3_isQuiet, k_X3_isQuiet) := rfl
theorem mkt_X3_shakeWith : mktab[51]? = some (M_X3_shakeWith, k_X3_shakeWith) := rfl
theorem mkt_X3_latest : mktab[52]? = some (M_X3_latest, k_X3_latest) := rfl
theorem mkt_X4_takeByte : mktab[53]? = some (M_X4_takeByte, k_X4_takeByte) := rfl
theorem mkt_X4_parse : mktab[54]? = some (M_X4_parse, k_X4_parse) := rfl
theorem mkt_X4_parseStatement : mktab[55]? = some (M_X4_parseStatement, k_X4_parseStatement) := rfl
theorem mkt_X4_verbWord : mktab[56]? = some (M_X4_verbWord, k_X4_verbWord) := rfl
theorem mkt_X4_shapeOf : mktab[57]? = some (M_X4_shapeOf, k_X4_shapeOf) := rfl
theorem mkt_X4_verbHere : mktab[58]? = some (M_X4_verbHere, k_X4_verbHere) := rfl
theorem mkt_X4_valueHere : mktab[59]? = some (M_X4_valueHere, k_X4_valueHere) := rfl
theorem mkt_X4_kindHere : mktab[60]? = some (M_X4_kindHere, k_X4_kindHere) := rfl
theorem mkt_X4_numberHere : mktab[61]? = some (M_X4_numberHere, k_X4_numberHere) := rfl
theorem mkt_X4_isWordHere : mktab[62]? = some (M_X4_isWordHere, k_X4_isWordHere) := rfl
theorem mkt_X4_nextToken : mktab[63]? = some (M_X4_nextToken, k_X4_nextToken) := rfl
theorem mkt_X4_sortOf : mktab[64]? = some (M_X4_sortOf, k_X4_sortOf) := rfl
theorem mkt_X4_carryOut : mktab[65]? = some (M_X4_carryOut, k_X4_carryOut) := rfl
theorem mkt_X4_isDone : mktab[66]? = some (M_X4_isDone, k_X4_isDone) := rfl
theorem mkt_X5_write : mktab[67]? = some (M_X5_write, k_X5_write) := rfl
theorem mkt_X5_writeHole : mktab[68]? = some (M_X5_writeHole, k_X5_writeHole) := rfl
theorem mkt_X5_writeWire : mktab[69]? = some (M_X5_writeWire, k_X5_writeWire) := rfl
theorem mkt_X5_begin : mktab[70]? = some (M_X5_begin, k_X5_begin) := rfl
theorem mkt_X5_writeWord : mktab[71]? = some (M_X5_writeWord, k_X5_writeWord) := rfl
theorem mkt_X5_writeLetters : mktab[72]? = some (M_X5_writeLetters, k_X5_writeLetters) := rfl
theorem mkt_X5_writeNumber : mktab[73]? = some (M_X5_writeNumber, k_X5_writeNumber) := rfl
theorem mkt_X5_writeByte : mktab[74]? = some (M_X5_writeByte, k_X5_writeByte) := rfl
theorem mkt_X6_isList : mktab[75]? = some (M_X6_isList, k_X6_isList) := rfl
theorem mkt_X6_isMissing : mktab[76]? = some (M_X6_isMissing, k_X6_isMissing) := rfl
theorem mkt_X6_hasPlace : mktab[77]? = some (M_X6_hasPlace, k_X6_hasPlace) := rfl
theorem mkt_X6_hasSpan : mktab[78]? = some (M_X6_hasSpan, k_X6_hasSpan) := rfl
theorem mkt_X6_renew : mktab[79]? = some (M_X6_renew, k_X6_renew) := rfl
theorem mkt_X6_copyIn : mktab[80]? = some (M_X6_copyIn, k_X6_copyIn) := rfl
theorem mkt_X6_firstOther : mktab[81]? = some (M_X6_firstOther, k_X6_firstOther) := rfl
theorem mkt_X7_clear : mktab[82]? = some (M_X7_clear, k_X7_clear) := rfl
theorem mkt_X7_addAll : mktab[83]? = some (M_X7_addAll, k_X7_addAll) := rfl
theorem mkt_X7_insert : mktab[84]? = some (M_X7_insert, k_X7_insert) := rfl
theorem mkt_X7_shakeAt : mktab[85]? = some (M_X7_shakeAt, k_X7_shakeAt) := rfl
theorem mkt_X7_weigh : mktab[86]? = some (M_X7_weigh, k_X7_weigh) := rfl
theorem mkt_X7_weighAt : mktab[87]? = some (M_X7_weighAt, k_X7_weighAt) := rfl
theorem mkt_X7_weightOfFirst : mktab[88]? = some (M_X7_weightOfFirst, k_X7_weightOfFirst) := rfl
theorem mkt_X7_lastTimeOfFirst : mktab[89]? = some (M_X7_lastTimeOfFirst, k_X7_lastTimeOfFirst) := rfl
theorem mkt_X7_holesBehind : mktab[90]? = some (M_X7_holesBehind, k_X7_holesBehind) := rfl
theorem mkt_X8_hole : mktab[91]? = some (M_X8_hole, k_X8_hole) := rfl
theorem mkt_X8_of : mktab[92]? = some (M_X8_of, k_X8_of) := rfl
theorem mkt_X8_becomes : mktab[93]? = some (M_X8_becomes, k_X8_becomes) := rfl
theorem mkt_X8_taken : mktab[94]? = some (M_X8_taken, k_X8_taken) := rfl
theorem mkt_X8_wire : mktab[95]? = some (M_X8_wire, k_X8_wire) := rfl
theorem mkt_X8_wired : mktab[96]? = some (M_X8_wired, k_X8_wired) := rfl
theorem mkt_X8_cut : mktab[97]? = some (M_X8_cut, k_X8_cut) := rfl
theorem mkt_X8_rule : mktab[98]? = some (M_X8_rule, k_X8_rule) := rfl
theorem mkt_X8_drop : mktab[99]? = some (M_X8_drop, k_X8_drop) := rfl
theorem mkt_X8_time : mktab[100]? = some (M_X8_time, k_X8_time) := rfl
theorem mkt_X8_shot : mktab[101]? = some (M_X8_shot, k_X8_shot) := rfl
theorem mkt_X8_shake : mktab[102]? = some (M_X8_shake, k_X8_shake) := rfl
theorem mkt_X8_worst : mktab[103]? = some (M_X8_worst, k_X8_worst) := rfl
theorem mkt_X8_safe : mktab[104]? = some (M_X8_safe, k_X8_safe) := rfl
theorem mkt_X8_ring : mktab[105]? = some (M_X8_ring, k_X8_ring) := rfl
theorem mkt_X8_sets : mktab[106]? = some (M_X8_sets, k_X8_sets) := rfl
theorem mkt_X8_loads : mktab[107]? = some (M_X8_loads, k_X8_loads) := rfl
theorem mkt_X8_misfire : mktab[108]? = some (M_X8_misfire, k_X8_misfire) := rfl
theorem mkt_X8_broken : mktab[109]? = some (M_X8_broken, k_X8_broken) := rfl
theorem mkt_X8_critical : mktab[110]? = some (M_X8_critical, k_X8_critical) := rfl
theorem mkt_X8_plan : mktab[111]? = some (M_X8_plan, k_X8_plan) := rfl
theorem mkt_X8_planned : mktab[112]? = some (M_X8_planned, k_X8_planned) := rfl
theorem mkt_X8_adopt : mktab[113]? = some (M_X8_adopt, k_X8_adopt) := rfl
theorem mkt_X8_feed : mktab[114]? = some (M_X8_feed, k_X8_feed) := rfl
theorem mkt_X8_read : mktab[115]? = some (M_X8_read, k_X8_read) := rfl
theorem mkt_X8_spell : mktab[116]? = some (M_X8_spell, k_X8_spell) := rfl
theorem mkt_X8_paper : mktab[117]? = some (M_X8_paper, k_X8_paper) := rfl
theorem mkt_X8_step : mktab[118]? = some (M_X8_step, k_X8_step) := rfl
theorem mkt_X8_stepped : mktab[119]? = some (M_X8_stepped, k_X8_stepped) := rfl
theorem mkt_X8_list : mktab[120]? = some (M_X8_list, k_X8_list) := rfl
theorem mkt_X8_put : mktab[121]? = some (M_X8_put, k_X8_put) := rfl
theorem mkt_X8_get : mktab[122]? = some (M_X8_get, k_X8_get) := rfl
theorem mkt_X8_fill : mktab[123]? = some (M_X8_fill, k_X8_fill) := rfl
theorem mkt_X8_judge : mktab[124]? = some (M_X8_judge, k_X8_judge) := rfl
theorem mkt_X8_move : mktab[125]? = some (M_X8_move, k_X8_move) := rfl
theorem mkt_X8_count : mktab[126]? = some (M_X8_count, k_X8_count) := rfl
theorem mkt_X8_image : mktab[127]? = some (M_X8_image, k_X8_image) := rfl
theorem mkt_X8_undo : mktab[128]? = some (M_X8_undo, k_X8_undo) := rfl
theorem mkt_X8_settled : mktab[129]? = some (M_X8_settled, k_X8_settled) := rfl
theorem mkt_X8_forget : mktab[130]? = some (M_X8_forget, k_X8_forget) := rfl
theorem mkt_X8_reckoned : mktab[131]? = some (M_X8_reckoned, k_X8_reckoned) := rfl
theorem mkt_X8_drawn : mktab[132]? = some (M_X8_drawn, k_X8_drawn) := rfl
theorem mkt_X8_written : mktab[133]? = some (M_X8_written, k_X8_written) := rfl
theorem mkt_X8_think : mktab[134]? = some (M_X8_think, k_X8_think) := rfl
theorem mkt_X8_lostBy : mktab[135]? = some (M_X8_lostBy, k_X8_lostBy) := rfl
theorem mkt_X8_bared : mktab[136]? = some (M_X8_bared, k_X8_bared) := rfl
theorem mkt_X8_isHarm : mktab[137]? = some (M_X8_isHarm, k_X8_isHarm) := rfl
theorem mkt_X8_harmTold : mktab[138]? = some (M_X8_harmTold, k_X8_harmTold) := rfl
theorem mkt_X8_mostHarmful : mktab[139]? = some (M_X8_mostHarmful, k_X8_mostHarmful) := rfl
theorem mkt_X8_bitOf : mktab[140]? = some (M_X8_bitOf, k_X8_bitOf) := rfl
theorem mkt_X8_hasBit : mktab[141]? = some (M_X8_hasBit, k_X8_hasBit) := rfl
theorem mkt_X8_rootAbove : mktab[142]? = some (M_X8_rootAbove, k_X8_rootAbove) := rfl
theorem mkt_X9_in : mktab[143]? = some (M_X9_in, k_X9_in) := rfl
theorem mkt_X9_less : mktab[144]? = some (M_X9_less, k_X9_less) := rfl
theorem mkt_X9_abs : mktab[145]? = some (M_X9_abs, k_X9_abs) := rfl
theorem mkt_X9_copies : mktab[146]? = some (M_X9_copies, k_X9_copies) := rfl
theorem mkt_X9_countOf : mktab[147]? = some (M_X9_countOf, k_X9_countOf) := rfl
theorem mkt_X9_isHole : mktab[148]? = some (M_X9_isHole, k_X9_isHole) := rfl
theorem mkt_X9_isWire : mktab[149]? = some (M_X9_isWire, k_X9_isWire) := rfl
theorem mkt_X9_its : mktab[150]? = some (M_X9_its, k_X9_its) := rfl
theorem mkt_X9_wires : mktab[151]? = some (M_X9_wires, k_X9_wires) := rfl
theorem mkt_X9_isDead : mktab[152]? = some (M_X9_isDead, k_X9_isDead) := rfl
theorem mkt_X9_isUnder : mktab[153]? = some (M_X9_isUnder, k_X9_isUnder) := rfl
theorem mkt_X9_firstLoad : mktab[154]? = some (M_X9_firstLoad, k_X9_firstLoad) := rfl
theorem mkt_X9_secondLoad : mktab[155]? = some (M_X9_secondLoad, k_X9_secondLoad) := rfl
theorem mkt_X9_loadsOf : mktab[156]? = some (M_X9_loadsOf, k_X9_loadsOf) := rfl
theorem mkt_X9_rockOf : mktab[157]? = some (M_X9_rockOf, k_X9_rockOf) := rfl
theorem mkt_X9_needsOf : mktab[158]? = some (M_X9_needsOf, k_X9_needsOf) := rfl
theorem mkt_X9_madeBy : mktab[159]? = some (M_X9_madeBy, k_X9_madeBy) := rfl
theorem mkt_X9_isTaken : mktab[160]? = some (M_X9_isTaken, k_X9_isTaken) := rfl
theorem mkt_X9_hole : mktab[161]? = some (M_X9_hole, k_X9_hole) := rfl
theorem mkt_X9_aheadOf : mktab[162]? = some (M_X9_aheadOf, k_X9_aheadOf) := rfl
theorem mkt_X9_of : mktab[163]? = some (M_X9_of, k_X9_of) := rfl
theorem mkt_X9_becomes : mktab[164]? = some (M_X9_becomes, k_X9_becomes) := rfl
theorem mkt_X9_taken : mktab[165]? = some (M_X9_taken, k_X9_taken) := rfl
theorem mkt_X9_wire : mktab[166]? = some (M_X9_wire, k_X9_wire) := rfl
theorem mkt_X9_cuts : mktab[167]? = some (M_X9_cuts, k_X9_cuts) := rfl
theorem mkt_X9_cut : mktab[168]? = some (M_X9_cut, k_X9_cut) := rfl
theorem mkt_X9_rule : mktab[169]? = some (M_X9_rule, k_X9_rule) := rfl
theorem mkt_X9_drop : mktab[170]? = some (M_X9_drop, k_X9_drop) := rfl
theorem mkt_X9_endOf : mktab[171]? = some (M_X9_endOf, k_X9_endOf) := rfl
theorem mkt_X9_signals : mktab[172]? = some (M_X9_signals, k_X9_signals) := rfl
theorem mkt_X9_has : mktab[173]? = some (M_X9_has, k_X9_has) := rfl
theorem mkt_X9_isRelieved : mktab[174]? = some (M_X9_isRelieved, k_X9_isRelieved) := rfl
theorem mkt_X9_fires : mktab[175]? = some (M_X9_fires, k_X9_fires) := rfl
theorem mkt_X9_isTorn : mktab[176]? = some (M_X9_isTorn, k_X9_isTorn) := rfl
theorem mkt_X9_wired : mktab[177]? = some (M_X9_wired, k_X9_wired) := rfl
theorem mkt_X9_ringOf : mktab[178]? = some (M_X9_ringOf, k_X9_ringOf) := rfl
theorem mkt_X9_time : mktab[179]? = some (M_X9_time, k_X9_time) := rfl
theorem mkt_X9_shoots : mktab[180]? = some (M_X9_shoots, k_X9_shoots) := rfl
theorem mkt_X9_laysShots : mktab[181]? = some (M_X9_laysShots, k_X9_laysShots) := rfl
theorem mkt_X9_shakeAt : mktab[182]? = some (M_X9_shakeAt, k_X9_shakeAt) := rfl
theorem mkt_X9_worstTime : mktab[183]? = some (M_X9_worstTime, k_X9_worstTime) := rfl
theorem mkt_X9_worstShake : mktab[184]? = some (M_X9_worstShake, k_X9_worstShake) := rfl
theorem mkt_X9_over : mktab[185]? = some (M_X9_over, k_X9_over) := rfl
theorem mkt_X9_lays : mktab[186]? = some (M_X9_lays, k_X9_lays) := rfl
theorem mkt_X9_shot : mktab[187]? = some (M_X9_shot, k_X9_shot) := rfl
theorem mkt_X9_shake : mktab[188]? = some (M_X9_shake, k_X9_shake) := rfl
theorem mkt_X9_worst : mktab[189]? = some (M_X9_worst, k_X9_worst) := rfl
theorem mkt_X9_safe : mktab[190]? = some (M_X9_safe, k_X9_safe) := rfl
theorem mkt_X9_ring : mktab[191]? = some (M_X9_ring, k_X9_ring) := rfl
theorem mkt_X9_sets : mktab[192]? = some (M_X9_sets, k_X9_sets) := rfl
theorem mkt_X9_loads : mktab[193]? = some (M_X9_loads, k_X9_loads) := rfl
theorem mkt_X9_compares : mktab[194]? = some (M_X9_compares, k_X9_compares) := rfl
theorem mkt_X9_misfires : mktab[195]? = some (M_X9_misfires, k_X9_misfires) := rfl
theorem mkt_X9_breaks : mktab[196]? = some (M_X9_breaks, k_X9_breaks) := rfl
theorem mkt_X9_told : mktab[197]? = some (M_X9_told, k_X9_told) := rfl
theorem mkt_X9_misfire : mktab[198]? = some (M_X9_misfire, k_X9_misfire) := rfl
theorem mkt_X9_broken : mktab[199]? = some (M_X9_broken, k_X9_broken) := rfl
theorem mkt_X9_critical : mktab[200]? = some (M_X9_critical, k_X9_critical) := rfl
theorem mkt_X9_fits : mktab[201]? = some (M_X9_fits, k_X9_fits) := rfl
theorem mkt_X9_plans : mktab[202]? = some (M_X9_plans, k_X9_plans) := rfl
theorem mkt_X9_plans_ : mktab[203]? = some (M_X9_plans_, k_X9_plans_) := rfl
theorem mkt_X9_plan : mktab[204]? = some (M_X9_plan, k_X9_plan) := rfl
theorem mkt_X9_planned : mktab[205]? = some (M_X9_planned, k_X9_planned) := rfl
theorem mkt_X9_adopt : mktab[206]? = some (M_X9_adopt, k_X9_adopt) := rfl
theorem mkt_X9_feed : mktab[207]? = some (M_X9_feed, k_X9_feed) := rfl
theorem mkt_X9_here : mktab[208]? = some (M_X9_here, k_X9_here) := rfl
theorem mkt_X9_wordHere : mktab[209]? = some (M_X9_wordHere, k_X9_wordHere) := rfl
theorem mkt_X9_numberHere : mktab[210]? = some (M_X9_numberHere, k_X9_numberHere) := rfl
theorem mkt_X9_next : mktab[211]? = some (M_X9_next, k_X9_next) := rfl
theorem mkt_X9_takesNumber : mktab[212]? = some (M_X9_takesNumber, k_X9_takesNumber) := rfl
theorem mkt_X9_takesNumbers : mktab[213]? = some (M_X9_takesNumbers, k_X9_takesNumbers) := rfl
theorem mkt_X9_takesHole : mktab[214]? = some (M_X9_takesHole, k_X9_takesHole) := rfl
theorem mkt_X9_takesWire : mktab[215]? = some (M_X9_takesWire, k_X9_takesWire) := rfl
theorem mkt_X9_does : mktab[216]? = some (M_X9_does, k_X9_does) := rfl
theorem mkt_X9_takesStatement : mktab[217]? = some (M_X9_takesStatement, k_X9_takesStatement) := rfl
theorem mkt_X9_read : mktab[218]? = some (M_X9_read, k_X9_read) := rfl
theorem mkt_X9_sign : mktab[219]? = some (M_X9_sign, k_X9_sign) := rfl
theorem mkt_X9_spells : mktab[220]? = some (M_X9_spells, k_X9_spells) := rfl
theorem mkt_X9_number : mktab[221]? = some (M_X9_number, k_X9_number) := rfl
theorem mkt_X9_spell : mktab[222]? = some (M_X9_spell, k_X9_spell) := rfl
theorem mkt_X9_paper : mktab[223]? = some (M_X9_paper, k_X9_paper) := rfl
theorem mkt_X9_step : mktab[224]? = some (M_X9_step, k_X9_step) := rfl
theorem mkt_X9_stepped : mktab[225]? = some (M_X9_stepped, k_X9_stepped) := rfl
theorem mkt_X9_isList : mktab[226]? = some (M_X9_isList, k_X9_isList) := rfl
theorem mkt_X9_list : mktab[227]? = some (M_X9_list, k_X9_list) := rfl
theorem mkt_X9_put : mktab[228]? = some (M_X9_put, k_X9_put) := rfl
theorem mkt_X9_get : mktab[229]? = some (M_X9_get, k_X9_get) := rfl
theorem mkt_X9_layable : mktab[230]? = some (M_X9_layable, k_X9_layable) := rfl
theorem mkt_X9_fill : mktab[231]? = some (M_X9_fill, k_X9_fill) := rfl
theorem mkt_X9_judge : mktab[232]? = some (M_X9_judge, k_X9_judge) := rfl
theorem mkt_X9_move : mktab[233]? = some (M_X9_move, k_X9_move) := rfl
theorem mkt_X9_count : mktab[234]? = some (M_X9_count, k_X9_count) := rfl
theorem mkt_X9_image : mktab[235]? = some (M_X9_image, k_X9_image) := rfl
theorem mkt_X9_undo : mktab[236]? = some (M_X9_undo, k_X9_undo) := rfl
theorem mkt_J6_bitCount_0f7a4 : mktab[237]? = some (M_J6_bitCount_0f7a4, k_J6_bitCount_0f7a4) := rfl
theorem mkt_J1_charAt_3b067 : mktab[238]? = some (M_J1_charAt_3b067, k_J1_charAt_3b067) := rfl
theorem mkt_J2_length_9d52b : mktab[239]? = some (M_J2_length_9d52b, k_J2_length_9d52b) := rfl
theorem mkt_J2_charAt_3b067 : mktab[240]? = some (M_J2_charAt_3b067, k_J2_charAt_3b067) := rfl
theorem mkt_J2_checkIndex_2214a : mktab[241]? = some (M_J2_checkIndex_2214a, k_J2_checkIndex_2214a) := rfl
theorem mkt_J7_fill_d0a16 : mktab[242]? = some (M_J7_fill_d0a16, k_J7_fill_d0a16) := rfl
theorem mkt_J7_fill_53178 : mktab[243]? = some (M_J7_fill_53178, k_J7_fill_53178) := rfl
end
section
theorem gI_i {k : Int32 → Prop} {x : Int32} : ∀ {lo : Lo} {i : Nat}, lo[i]? = some (some (aI x)) → k x → gI k lo i
  | [], i, h, hk => by simp at h
  | a :: t, 0, h, hk => by
    simp only [List.getElem?_cons_zero, Option.some.injEq] at h
    subst h
    exact hk
  | a :: t, n + 1, h, hk => by
    have := gI_i (lo := t) (i := n) (by simpa using h) hk
    simpa [gI] using this
theorem gL_i {k : Int64 → Prop} {x : Int64} : ∀ {lo : Lo} {i : Nat}, lo[i]? = some (some (aL x)) → k x → gL k lo i
  | [], i, h, hk => by simp at h
  | a :: t, 0, h, hk => by
    simp only [List.getElem?_cons_zero, Option.some.injEq] at h
    subst h
    exact hk
  | a :: t, n + 1, h, hk => by
    have := gL_i (lo := t) (i := n) (by simpa using h) hk
    simpa [gL] using this
theorem gR_i {k : Nat → Prop} {x : Nat} : ∀ {lo : Lo} {i : Nat}, lo[i]? = some (some (aR x)) → k x → gR k lo i
  | [], i, h, hk => by simp at h
  | a :: t, 0, h, hk => by
    simp only [List.getElem?_cons_zero, Option.some.injEq] at h
    subst h
    exact hk
  | a :: t, n + 1, h, hk => by
    have := gR_i (lo := t) (i := n) (by simpa using h) hk
    simpa [gR] using this
theorem spl_i {k : List AV → List AV → Prop} : ∀ {l acc t : List AV}, k (l.reverse ++ acc) t → spl k l.length acc (l ++ t)
  | [], acc, t, h => h
  | v :: l, acc, t, h => by
    have := spl_i (k := k) (l := l) (acc := v :: acc) (t := t) (by simpa using h)
    exact this
section RUL
variable {S : Sp} {Φ : Rs} {kc : List Ent} {v : Kt} {lo lo' : Lo} {st t : List AV} {σ : St} {x1 x2 x3 x4 : Nat} {zi : Int32} {zl : Int64} {ks : List (Int32 × Nat)} {a b : Nat} {x y i0 : Int32} {X Y : Int64}
theorem r_iconst {n : Int} (hv : Cl S Φ kc v) (i : Nat) {pc : Nat} (he : kc[i]? = some (pc, .iconst n, 1, x1, x2, x3, x4, zi, zl, ks)) (h : v (pc + 1) lo (aI zi :: st) σ) : v pc lo (st) σ := cl_at hv i he (h)
theorem r_bipush {n : Int} (hv : Cl S Φ kc v) (i : Nat) {pc : Nat} (he : kc[i]? = some (pc, .bipush n, 2, x1, x2, x3, x4, zi, zl, ks)) (h : v (pc + 2) lo (aI zi :: st) σ) : v pc lo (st) σ := cl_at hv i he (h)
theorem r_sipush {n : Int} (hv : Cl S Φ kc v) (i : Nat) {pc : Nat} (he : kc[i]? = some (pc, .sipush n, 3, x1, x2, x3, x4, zi, zl, ks)) (h : v (pc + 3) lo (aI zi :: st) σ) : v pc lo (st) σ := cl_at hv i he (h)
theorem r_lconst {n : Fin 2} (hv : Cl S Φ kc v) (i : Nat) {pc : Nat} (he : kc[i]? = some (pc, .lconst n, 1, x1, x2, x3, x4, zi, zl, ks)) (h : v (pc + 1) lo (aL zl :: st) σ) : v pc lo (st) σ := cl_at hv i he (h)
theorem r_ldcS {n : Nat} (hv : Cl S Φ kc v) (i : Nat) {pc : Nat} (he : kc[i]? = some (pc, .ldc n, 2, x1, x2, x3, x4, zi, zl, ks)) (h1 : x1 = 1) (h : v (pc + 2) lo (aR (200 + x2) :: st) σ) : v pc lo (st) σ := cl_at hv i he (by subst h1; exact h)
theorem r_ldc {n : Nat} (hv : Cl S Φ kc v) (i : Nat) {pc : Nat} (he : kc[i]? = some (pc, .ldc n, 2, x1, x2, x3, x4, zi, zl, ks)) (h1 : x1 = 0) (h : v (pc + 2) lo (aI zi :: st) σ) : v pc lo (st) σ := cl_at hv i he (by subst h1; exact h)
theorem r_ldc_w {n : Nat} (hv : Cl S Φ kc v) (i : Nat) {pc : Nat} (he : kc[i]? = some (pc, .ldc_w n, 3, x1, x2, x3, x4, zi, zl, ks)) (h : v (pc + 3) lo (aI zi :: st) σ) : v pc lo (st) σ := cl_at hv i he (h)
theorem r_ldc2_w {n : Nat} (hv : Cl S Φ kc v) (i : Nat) {pc : Nat} (he : kc[i]? = some (pc, .ldc2_w n, 3, x1, x2, x3, x4, zi, zl, ks)) (h : v (pc + 3) lo (aL zl :: st) σ) : v pc lo (st) σ := cl_at hv i he (h)
theorem r_iload_n {k : Fin 4} (hv : Cl S Φ kc v) (i : Nat) {pc : Nat} (he : kc[i]? = some (pc, .iload_n k, 1, x1, x2, x3, x4, zi, zl, ks)) (hl : lo[x1]? = some (some (aI x))) (h : v (pc + 1) lo (aI x :: st) σ) : v pc lo (st) σ := cl_at hv i he (gI_i hl h)
theorem r_iload {k : Nat} (hv : Cl S Φ kc v) (i : Nat) {pc : Nat} (he : kc[i]? = some (pc, .iload k, 2, x1, x2, x3, x4, zi, zl, ks)) (hl : lo[x1]? = some (some (aI x))) (h : v (pc + 2) lo (aI x :: st) σ) : v pc lo (st) σ := cl_at hv i he (gI_i hl h)
theorem r_istore_n {k : Fin 4} (hv : Cl S Φ kc v) (i : Nat) {pc : Nat} (he : kc[i]? = some (pc, .istore_n k, 1, x1, x2, x3, x4, zi, zl, ks)) (hl : sto lo x1 (aI x) = lo') (h : v (pc + 1) lo' t σ) : v pc lo (aI x :: t) σ := cl_at hv i he (by subst hl; exact h)
theorem r_istore {k : Nat} (hv : Cl S Φ kc v) (i : Nat) {pc : Nat} (he : kc[i]? = some (pc, .istore k, 2, x1, x2, x3, x4, zi, zl, ks)) (hl : sto lo x1 (aI x) = lo') (h : v (pc + 2) lo' t σ) : v pc lo (aI x :: t) σ := cl_at hv i he (by subst hl; exact h)
theorem r_lload_n {k : Fin 4} (hv : Cl S Φ kc v) (i : Nat) {pc : Nat} (he : kc[i]? = some (pc, .lload_n k, 1, x1, x2, x3, x4, zi, zl, ks)) (hl : lo[x1]? = some (some (aL X))) (h : v (pc + 1) lo (aL X :: st) σ) : v pc lo (st) σ := cl_at hv i he (gL_i hl h)
theorem r_lload {k : Nat} (hv : Cl S Φ kc v) (i : Nat) {pc : Nat} (he : kc[i]? = some (pc, .lload k, 2, x1, x2, x3, x4, zi, zl, ks)) (hl : lo[x1]? = some (some (aL X))) (h : v (pc + 2) lo (aL X :: st) σ) : v pc lo (st) σ := cl_at hv i he (gL_i hl h)
theorem r_lstore_n {k : Fin 4} (hv : Cl S Φ kc v) (i : Nat) {pc : Nat} (he : kc[i]? = some (pc, .lstore_n k, 1, x1, x2, x3, x4, zi, zl, ks)) (hl : stoL lo x1 (aL X) = lo') (h : v (pc + 1) lo' t σ) : v pc lo (aL X :: t) σ := cl_at hv i he (by subst hl; exact h)
theorem r_lstore {k : Nat} (hv : Cl S Φ kc v) (i : Nat) {pc : Nat} (he : kc[i]? = some (pc, .lstore k, 2, x1, x2, x3, x4, zi, zl, ks)) (hl : stoL lo x1 (aL X) = lo') (h : v (pc + 2) lo' t σ) : v pc lo (aL X :: t) σ := cl_at hv i he (by subst hl; exact h)
theorem r_aload_n {k : Fin 4} (hv : Cl S Φ kc v) (i : Nat) {pc : Nat} (he : kc[i]? = some (pc, .aload_n k, 1, x1, x2, x3, x4, zi, zl, ks)) (hl : lo[x1]? = some (some (aR a))) (h : v (pc + 1) lo (aR a :: st) σ) : v pc lo (st) σ := cl_at hv i he (gR_i hl h)
theorem r_aload {k : Nat} (hv : Cl S Φ kc v) (i : Nat) {pc : Nat} (he : kc[i]? = some (pc, .aload k, 2, x1, x2, x3, x4, zi, zl, ks)) (hl : lo[x1]? = some (some (aR a))) (h : v (pc + 2) lo (aR a :: st) σ) : v pc lo (st) σ := cl_at hv i he (gR_i hl h)
theorem r_astore_n {k : Fin 4} (hv : Cl S Φ kc v) (i : Nat) {pc : Nat} (he : kc[i]? = some (pc, .astore_n k, 1, x1, x2, x3, x4, zi, zl, ks)) (hl : sto lo x1 (aR a) = lo') (h : v (pc + 1) lo' t σ) : v pc lo (aR a :: t) σ := cl_at hv i he (by subst hl; exact h)
theorem r_astore {k : Nat} (hv : Cl S Φ kc v) (i : Nat) {pc : Nat} (he : kc[i]? = some (pc, .astore k, 2, x1, x2, x3, x4, zi, zl, ks)) (hl : sto lo x1 (aR a) = lo') (h : v (pc + 2) lo' t σ) : v pc lo (aR a :: t) σ := cl_at hv i he (by subst hl; exact h)
theorem r_iinc {k : Nat} {n : Int} (hv : Cl S Φ kc v) (i : Nat) {pc : Nat} (he : kc[i]? = some (pc, .iinc k n, 3, x1, x2, x3, x4, zi, zl, ks)) (hl : lo[x1]? = some (some (aI x))) (hs : sto lo x1 (aI (x + zi)) = lo') (h : v (pc + 3) lo' st σ) : v pc lo (st) σ := cl_at hv i he (gI_i hl (by rw [hs]; exact h))
theorem r_iadd (hv : Cl S Φ kc v) (i : Nat) {pc : Nat} (he : kc[i]? = some (pc, .iadd, 1, x1, x2, x3, x4, zi, zl, ks)) (h : v (pc + 1) lo (aI (x + y) :: t) σ) : v pc lo (aI y :: aI x :: t) σ := cl_at hv i he (h)
theorem r_isub (hv : Cl S Φ kc v) (i : Nat) {pc : Nat} (he : kc[i]? = some (pc, .isub, 1, x1, x2, x3, x4, zi, zl, ks)) (h : v (pc + 1) lo (aI (x - y) :: t) σ) : v pc lo (aI y :: aI x :: t) σ := cl_at hv i he (h)
theorem r_imul (hv : Cl S Φ kc v) (i : Nat) {pc : Nat} (he : kc[i]? = some (pc, .imul, 1, x1, x2, x3, x4, zi, zl, ks)) (h : v (pc + 1) lo (aI (x * y) :: t) σ) : v pc lo (aI y :: aI x :: t) σ := cl_at hv i he (h)
theorem r_iand (hv : Cl S Φ kc v) (i : Nat) {pc : Nat} (he : kc[i]? = some (pc, .iand, 1, x1, x2, x3, x4, zi, zl, ks)) (h : v (pc + 1) lo (aI (x &&& y) :: t) σ) : v pc lo (aI y :: aI x :: t) σ := cl_at hv i he (h)
theorem r_ior (hv : Cl S Φ kc v) (i : Nat) {pc : Nat} (he : kc[i]? = some (pc, .ior, 1, x1, x2, x3, x4, zi, zl, ks)) (h : v (pc + 1) lo (aI (x ||| y) :: t) σ) : v pc lo (aI y :: aI x :: t) σ := cl_at hv i he (h)
theorem r_ixor (hv : Cl S Φ kc v) (i : Nat) {pc : Nat} (he : kc[i]? = some (pc, .ixor, 1, x1, x2, x3, x4, zi, zl, ks)) (h : v (pc + 1) lo (aI (x ^^^ y) :: t) σ) : v pc lo (aI y :: aI x :: t) σ := cl_at hv i he (h)
theorem r_ishl (hv : Cl S Φ kc v) (i : Nat) {pc : Nat} (he : kc[i]? = some (pc, .ishl, 1, x1, x2, x3, x4, zi, zl, ks)) (h : v (pc + 1) lo (aI (x <<< (y &&& 31)) :: t) σ) : v pc lo (aI y :: aI x :: t) σ := cl_at hv i he (h)
theorem r_ishr (hv : Cl S Φ kc v) (i : Nat) {pc : Nat} (he : kc[i]? = some (pc, .ishr, 1, x1, x2, x3, x4, zi, zl, ks)) (h : v (pc + 1) lo (aI (x >>> (y &&& 31)) :: t) σ) : v pc lo (aI y :: aI x :: t) σ := cl_at hv i he (h)
theorem r_iushr (hv : Cl S Φ kc v) (i : Nat) {pc : Nat} (he : kc[i]? = some (pc, .iushr, 1, x1, x2, x3, x4, zi, zl, ks)) (h : v (pc + 1) lo (aI ((x.toUInt32 >>> (y.toUInt32 &&& Int32.toUInt32 31)).toInt32) :: t) σ) : v pc lo (aI y :: aI x :: t) σ := cl_at hv i he (h)
theorem r_idiv (hv : Cl S Φ kc v) (i : Nat) {pc : Nat} (he : kc[i]? = some (pc, .idiv, 1, x1, x2, x3, x4, zi, zl, ks)) (h0 : ¬ y = 0) (h : v (pc + 1) lo (aI (x / y) :: t) σ) : v pc lo (aI y :: aI x :: t) σ := cl_at hv i he (⟨h0, h⟩)
theorem r_irem (hv : Cl S Φ kc v) (i : Nat) {pc : Nat} (he : kc[i]? = some (pc, .irem, 1, x1, x2, x3, x4, zi, zl, ks)) (h0 : ¬ y = 0) (h : v (pc + 1) lo (aI (x - x / y * y) :: t) σ) : v pc lo (aI y :: aI x :: t) σ := cl_at hv i he (⟨h0, h⟩)
theorem r_ineg (hv : Cl S Φ kc v) (i : Nat) {pc : Nat} (he : kc[i]? = some (pc, .ineg, 1, x1, x2, x3, x4, zi, zl, ks)) (h : v (pc + 1) lo (aI (-x) :: t) σ) : v pc lo (aI x :: t) σ := cl_at hv i he (h)
theorem r_i2l (hv : Cl S Φ kc v) (i : Nat) {pc : Nat} (he : kc[i]? = some (pc, .i2l, 1, x1, x2, x3, x4, zi, zl, ks)) (h : v (pc + 1) lo (aL x.toInt64 :: t) σ) : v pc lo (aI x :: t) σ := cl_at hv i he (h)
theorem r_i2b (hv : Cl S Φ kc v) (i : Nat) {pc : Nat} (he : kc[i]? = some (pc, .i2b, 1, x1, x2, x3, x4, zi, zl, ks)) (h : v (pc + 1) lo (aI x.toInt8.toInt32 :: t) σ) : v pc lo (aI x :: t) σ := cl_at hv i he (h)
theorem r_ladd (hv : Cl S Φ kc v) (i : Nat) {pc : Nat} (he : kc[i]? = some (pc, .ladd, 1, x1, x2, x3, x4, zi, zl, ks)) (h : v (pc + 1) lo (aL (X + Y) :: t) σ) : v pc lo (aL Y :: aL X :: t) σ := cl_at hv i he (h)
theorem r_lmul (hv : Cl S Φ kc v) (i : Nat) {pc : Nat} (he : kc[i]? = some (pc, .lmul, 1, x1, x2, x3, x4, zi, zl, ks)) (h : v (pc + 1) lo (aL (X * Y) :: t) σ) : v pc lo (aL Y :: aL X :: t) σ := cl_at hv i he (h)
theorem r_land (hv : Cl S Φ kc v) (i : Nat) {pc : Nat} (he : kc[i]? = some (pc, .land, 1, x1, x2, x3, x4, zi, zl, ks)) (h : v (pc + 1) lo (aL (X &&& Y) :: t) σ) : v pc lo (aL Y :: aL X :: t) σ := cl_at hv i he (h)
theorem r_lor (hv : Cl S Φ kc v) (i : Nat) {pc : Nat} (he : kc[i]? = some (pc, .lor, 1, x1, x2, x3, x4, zi, zl, ks)) (h : v (pc + 1) lo (aL (X ||| Y) :: t) σ) : v pc lo (aL Y :: aL X :: t) σ := cl_at hv i he (h)
theorem r_lshl (hv : Cl S Φ kc v) (i : Nat) {pc : Nat} (he : kc[i]? = some (pc, .lshl, 1, x1, x2, x3, x4, zi, zl, ks)) (h : v (pc + 1) lo (aL (X <<< (y.toInt64 &&& 63)) :: t) σ) : v pc lo (aI y :: aL X :: t) σ := cl_at hv i he (h)
theorem r_lcmp (hv : Cl S Φ kc v) (i : Nat) {pc : Nat} (he : kc[i]? = some (pc, .lcmp, 1, x1, x2, x3, x4, zi, zl, ks)) (h : v (pc + 1) lo (aI (lg_cmp X Y) :: t) σ) : v pc lo (aL Y :: aL X :: t) σ := cl_at hv i he (h)
theorem r_dup {u : AV} (hv : Cl S Φ kc v) (i : Nat) {pc : Nat} (he : kc[i]? = some (pc, .dup, 1, x1, x2, x3, x4, zi, zl, ks)) (h0 : isC1 u) (h : v (pc + 1) lo (u :: u :: t) σ) : v pc lo (u :: t) σ := cl_at hv i he (⟨h0, h⟩)
theorem r_dup2 {u z : AV} (hv : Cl S Φ kc v) (i : Nat) {pc : Nat} (he : kc[i]? = some (pc, .dup2, 1, x1, x2, x3, x4, zi, zl, ks)) (h0 : isC1 u) (h1 : isC1 z) (h : v (pc + 1) lo (u :: z :: u :: z :: t) σ) : v pc lo (u :: z :: t) σ := cl_at hv i he (⟨h0, h1, h⟩)
theorem r_pop {u : AV} (hv : Cl S Φ kc v) (i : Nat) {pc : Nat} (he : kc[i]? = some (pc, .pop, 1, x1, x2, x3, x4, zi, zl, ks)) (h0 : isC1 u) (h : v (pc + 1) lo t σ) : v pc lo (u :: t) σ := cl_at hv i he (⟨h0, h⟩)
theorem r_icmp_eq {off : Int} (hv : Cl S Φ kc v) (i : Nat) {pc : Nat} (he : kc[i]? = some (pc, .if_icmp .eq off, 3, x1, x2, x3, x4, zi, zl, ks)) (ht : x = y → v x1 lo t σ) (hf : ¬ x = y → v (pc + 3) lo t σ) : v pc lo (aI y :: aI x :: t) σ := cl_at hv i he (⟨ht, hf⟩)
theorem r_if_eq {off : Int} (hv : Cl S Φ kc v) (i : Nat) {pc : Nat} (he : kc[i]? = some (pc, .ifCond .eq off, 3, x1, x2, x3, x4, zi, zl, ks)) (ht : x = 0 → v x1 lo t σ) (hf : ¬ x = 0 → v (pc + 3) lo t σ) : v pc lo (aI x :: t) σ := cl_at hv i he (⟨ht, hf⟩)
theorem r_icmp_ne {off : Int} (hv : Cl S Φ kc v) (i : Nat) {pc : Nat} (he : kc[i]? = some (pc, .if_icmp .ne off, 3, x1, x2, x3, x4, zi, zl, ks)) (ht : ¬ x = y → v x1 lo t σ) (hf : x = y → v (pc + 3) lo t σ) : v pc lo (aI y :: aI x :: t) σ := cl_at hv i he (⟨ht, hf⟩)
theorem r_if_ne {off : Int} (hv : Cl S Φ kc v) (i : Nat) {pc : Nat} (he : kc[i]? = some (pc, .ifCond .ne off, 3, x1, x2, x3, x4, zi, zl, ks)) (ht : ¬ x = 0 → v x1 lo t σ) (hf : x = 0 → v (pc + 3) lo t σ) : v pc lo (aI x :: t) σ := cl_at hv i he (⟨ht, hf⟩)
theorem r_icmp_lt {off : Int} (hv : Cl S Φ kc v) (i : Nat) {pc : Nat} (he : kc[i]? = some (pc, .if_icmp .lt off, 3, x1, x2, x3, x4, zi, zl, ks)) (ht : x < y → v x1 lo t σ) (hf : ¬ x < y → v (pc + 3) lo t σ) : v pc lo (aI y :: aI x :: t) σ := cl_at hv i he (⟨ht, hf⟩)
theorem r_if_lt {off : Int} (hv : Cl S Φ kc v) (i : Nat) {pc : Nat} (he : kc[i]? = some (pc, .ifCond .lt off, 3, x1, x2, x3, x4, zi, zl, ks)) (ht : x < 0 → v x1 lo t σ) (hf : ¬ x < 0 → v (pc + 3) lo t σ) : v pc lo (aI x :: t) σ := cl_at hv i he (⟨ht, hf⟩)
theorem r_icmp_ge {off : Int} (hv : Cl S Φ kc v) (i : Nat) {pc : Nat} (he : kc[i]? = some (pc, .if_icmp .ge off, 3, x1, x2, x3, x4, zi, zl, ks)) (ht : y ≤ x → v x1 lo t σ) (hf : ¬ y ≤ x → v (pc + 3) lo t σ) : v pc lo (aI y :: aI x :: t) σ := cl_at hv i he (⟨ht, hf⟩)
theorem r_if_ge {off : Int} (hv : Cl S Φ kc v) (i : Nat) {pc : Nat} (he : kc[i]? = some (pc, .ifCond .ge off, 3, x1, x2, x3, x4, zi, zl, ks)) (ht : 0 ≤ x → v x1 lo t σ) (hf : ¬ 0 ≤ x → v (pc + 3) lo t σ) : v pc lo (aI x :: t) σ := cl_at hv i he (⟨ht, hf⟩)
theorem r_icmp_gt {off : Int} (hv : Cl S Φ kc v) (i : Nat) {pc : Nat} (he : kc[i]? = some (pc, .if_icmp .gt off, 3, x1, x2, x3, x4, zi, zl, ks)) (ht : y < x → v x1 lo t σ) (hf : ¬ y < x → v (pc + 3) lo t σ) : v pc lo (aI y :: aI x :: t) σ := cl_at hv i he (⟨ht, hf⟩)
theorem r_if_gt {off : Int} (hv : Cl S Φ kc v) (i : Nat) {pc : Nat} (he : kc[i]? = some (pc, .ifCond .gt off, 3, x1, x2, x3, x4, zi, zl, ks)) (ht : 0 < x → v x1 lo t σ) (hf : ¬ 0 < x → v (pc + 3) lo t σ) : v pc lo (aI x :: t) σ := cl_at hv i he (⟨ht, hf⟩)
theorem r_icmp_le {off : Int} (hv : Cl S Φ kc v) (i : Nat) {pc : Nat} (he : kc[i]? = some (pc, .if_icmp .le off, 3, x1, x2, x3, x4, zi, zl, ks)) (ht : x ≤ y → v x1 lo t σ) (hf : ¬ x ≤ y → v (pc + 3) lo t σ) : v pc lo (aI y :: aI x :: t) σ := cl_at hv i he (⟨ht, hf⟩)
theorem r_if_le {off : Int} (hv : Cl S Φ kc v) (i : Nat) {pc : Nat} (he : kc[i]? = some (pc, .ifCond .le off, 3, x1, x2, x3, x4, zi, zl, ks)) (ht : x ≤ 0 → v x1 lo t σ) (hf : ¬ x ≤ 0 → v (pc + 3) lo t σ) : v pc lo (aI x :: t) σ := cl_at hv i he (⟨ht, hf⟩)
theorem r_goto {off : Int} (hv : Cl S Φ kc v) (i : Nat) {pc : Nat} (he : kc[i]? = some (pc, .goto off, 3, x1, x2, x3, x4, zi, zl, ks)) (h : v x1 lo st σ) : v pc lo (st) σ := cl_at hv i he (h)
theorem r_tab {d p q : Int} {os : Array Int} {len : Nat} (hv : Cl S Φ kc v) (i : Nat) {pc : Nat} (he : kc[i]? = some (pc, .tableswitch d p q os, len, x1, x2, x3, x4, zi, zl, ks)) (h : sw (fun q => v q lo t σ) x x1 ks) : v pc lo (aI x :: t) σ := cl_at hv i he h
theorem r_look {d : Int} {ps : Array (Int × Int)} {len : Nat} (hv : Cl S Φ kc v) (i : Nat) {pc : Nat} (he : kc[i]? = some (pc, .lookupswitch d ps, len, x1, x2, x3, x4, zi, zl, ks)) (h : sw (fun q => v q lo t σ) x x1 ks) : v pc lo (aI x :: t) σ := cl_at hv i he h
theorem r_getR {n : Nat} (hv : Cl S Φ kc v) (i : Nat) {pc : Nat} (he : kc[i]? = some (pc, .getfield n, 3, x1, x2, x3, x4, zi, zl, ks)) (h4 : x4 = 2) (ho : oc a = some x1) (hc : ch a x2 = b) (h : v (pc + 3) lo (aR b :: t) σ) : v pc lo (aR a :: t) σ := cl_at hv i he (by subst h4; subst hc; exact ⟨ho, h⟩)
theorem r_getI {n : Nat} (hv : Cl S Φ kc v) (i : Nat) {pc : Nat} (he : kc[i]? = some (pc, .getfield n, 3, x1, x2, x3, x4, zi, zl, ks)) (h4 : (x4 == 2) = false) (ho : oc a = some x1) (h : v (pc + 3) lo (aI (σ.1 a x2) :: t) σ) : v pc lo (aR a :: t) σ := cl_at hv i he (⟨ho, by rw [h4]; exact h⟩)
theorem r_putI {n : Nat} (hv : Cl S Φ kc v) (i : Nat) {pc : Nat} (he : kc[i]? = some (pc, .putfield n, 3, x1, x2, x3, x4, zi, zl, ks)) (h4 : x4 = 0) (ho : oc a = some x1) (h : v (pc + 3) lo t (upI σ a x2 x)) : v pc lo (aI x :: aR a :: t) σ := cl_at hv i he (by subst h4; exact ⟨ho, h⟩)
theorem r_putZ {n : Nat} (hv : Cl S Φ kc v) (i : Nat) {pc : Nat} (he : kc[i]? = some (pc, .putfield n, 3, x1, x2, x3, x4, zi, zl, ks)) (h4 : x4 = 1) (ho : oc a = some x1) (hz : x = 0 ∨ x = 1) (h : v (pc + 3) lo t (upI σ a x2 x)) : v pc lo (aI x :: aR a :: t) σ := cl_at hv i he (by subst h4; exact ⟨ho, hz, h⟩)
theorem r_gets {n : Nat} (hv : Cl S Φ kc v) (i : Nat) {pc : Nat} (he : kc[i]? = some (pc, .getstatic n, 3, x1, x2, x3, x4, zi, zl, ks)) (h : v (pc + 3) lo (aR (100 + x1) :: st) σ) : v pc lo (st) σ := cl_at hv i he (h)
theorem r_iaload {N : Nat} (hv : Cl S Φ kc v) (i : Nat) {pc : Nat} (he : kc[i]? = some (pc, .iaload, 1, x1, x2, x3, x4, zi, zl, ks)) (ht : tag a = 1) (hn : ln a = N) (ha : a < 100) (hi : vp_in i0 N) (h : v (pc + 1) lo (aI (σ.1 a i0.toNatClampNeg) :: t) σ) : v pc lo (aI i0 :: aR a :: t) σ := cl_at hv i he (⟨Or.inl ht, by rw [hn]; exact hi, by rw [rd_lt ha]; exact h⟩)
theorem r_ialoadS {N : Nat} (hv : Cl S Φ kc v) (i : Nat) {pc : Nat} (he : kc[i]? = some (pc, .iaload, 1, x1, x2, x3, x4, zi, zl, ks)) (ht : tag a = 7) (hn : ln a = N) (ha : 100 ≤ a) (hi : vp_in i0 N) (h : v (pc + 1) lo (aI (sv a i0.toNatClampNeg) :: t) σ) : v pc lo (aI i0 :: aR a :: t) σ := cl_at hv i he (⟨Or.inr ht, by rw [hn]; exact hi, by rw [rd_ge ha]; exact h⟩)
theorem r_baload {N : Nat} (hv : Cl S Φ kc v) (i : Nat) {pc : Nat} (he : kc[i]? = some (pc, .baload, 1, x1, x2, x3, x4, zi, zl, ks)) (ht : tag a = 2) (hn : ln a = N) (hi : vp_in i0 N) (h : v (pc + 1) lo (aI (σ.1 a i0.toNatClampNeg) :: t) σ) : v pc lo (aI i0 :: aR a :: t) σ := cl_at hv i he (⟨ht, by rw [hn]; exact hi, h⟩)
theorem r_caload {N : Nat} (hv : Cl S Φ kc v) (i : Nat) {pc : Nat} (he : kc[i]? = some (pc, .caload, 1, x1, x2, x3, x4, zi, zl, ks)) (ht : tag a = 3) (hn : ln a = N) (hi : vp_in i0 N) (h : v (pc + 1) lo (aI (σ.1 a i0.toNatClampNeg) :: t) σ) : v pc lo (aI i0 :: aR a :: t) σ := cl_at hv i he (⟨ht, by rw [hn]; exact hi, h⟩)
theorem r_laload {N : Nat} (hv : Cl S Φ kc v) (i : Nat) {pc : Nat} (he : kc[i]? = some (pc, .laload, 1, x1, x2, x3, x4, zi, zl, ks)) (ht : tag a = 4) (hn : ln a = N) (hi : vp_in i0 N) (h : v (pc + 1) lo (aL (σ.2 a i0.toNatClampNeg) :: t) σ) : v pc lo (aI i0 :: aR a :: t) σ := cl_at hv i he (⟨ht, by rw [hn]; exact hi, h⟩)
theorem r_aaload (hv : Cl S Φ kc v) (i : Nat) {pc : Nat} (he : kc[i]? = some (pc, .aaload, 1, x1, x2, x3, x4, zi, zl, ks)) (ht : a = 42) (hi : vp_in i0 4) (h : v (pc + 1) lo (aR (43 + i0.toNatClampNeg) :: t) σ) : v pc lo (aI i0 :: aR a :: t) σ := cl_at hv i he (⟨ht, hi, h⟩)
theorem r_alen {N : Nat} (hv : Cl S Φ kc v) (i : Nat) {pc : Nat} (he : kc[i]? = some (pc, .arraylength, 1, x1, x2, x3, x4, zi, zl, ks)) (ht : tag a ≠ 0) (hn : ln a = N) (h : v (pc + 1) lo (aI (Int32.ofNat N) :: t) σ) : v pc lo (aR a :: t) σ := cl_at hv i he (⟨ht, by rw [hn]; exact h⟩)
theorem r_iastore {N : Nat} (hv : Cl S Φ kc v) (i : Nat) {pc : Nat} (he : kc[i]? = some (pc, .iastore, 1, x1, x2, x3, x4, zi, zl, ks)) (ht : tag a = 1) (hn : ln a = N) (hi : vp_in i0 N) (h : v (pc + 1) lo t (upI σ a i0.toNatClampNeg x)) : v pc lo (aI x :: aI i0 :: aR a :: t) σ := cl_at hv i he (⟨ht, by rw [hn]; exact hi, h⟩)
theorem r_bastore {N : Nat} (hv : Cl S Φ kc v) (i : Nat) {pc : Nat} (he : kc[i]? = some (pc, .bastore, 1, x1, x2, x3, x4, zi, zl, ks)) (ht : tag a = 2) (hn : ln a = N) (hi : vp_in i0 N) (h : v (pc + 1) lo t (upI σ a i0.toNatClampNeg x.toInt8.toInt32)) : v pc lo (aI x :: aI i0 :: aR a :: t) σ := cl_at hv i he (⟨ht, by rw [hn]; exact hi, h⟩)
theorem r_lastore {N : Nat} (hv : Cl S Φ kc v) (i : Nat) {pc : Nat} (he : kc[i]? = some (pc, .lastore, 1, x1, x2, x3, x4, zi, zl, ks)) (ht : tag a = 4) (hn : ln a = N) (hi : vp_in i0 N) (h : v (pc + 1) lo t (upJ σ a i0.toNatClampNeg X)) : v pc lo (aL X :: aI i0 :: aR a :: t) σ := cl_at hv i he (⟨ht, by rw [hn]; exact hi, h⟩)
theorem r_callV {n : Nat} {av l : List AV} (hv : Cl S Φ kc v) (i : Nat) {pc : Nat} (he : kc[i]? = some (pc, .invokevirtual n, 3, x1, x2, x3, x4, zi, zl, ks)) (hn : l.length = x2) (hr : l.reverse = av) (hst : st = l ++ aR a :: t) (hc : rcv a x4) (h8 : w8 t 8) (h : S x1 (aR a :: av) σ (fun r σ' => v (pc + 3) lo (r ++ t) σ')) : v pc lo st σ := cl_at hv i he (by subst hn; subst hr; subst hst; exact spl_i (l := l) (acc := []) (t := aR a :: t) (by rw [List.append_nil]; exact ⟨hc, h8, h⟩))
theorem r_callS {n : Nat} {av l : List AV} (hv : Cl S Φ kc v) (i : Nat) {pc : Nat} (he : kc[i]? = some (pc, .invokestatic n, 3, x1, x2, x3, x4, zi, zl, ks)) (h4 : x4 = 0 ∨ x4 = 1) (hn : l.length = x2) (hr : l.reverse = av) (hst : st = l ++ t) (h8 : w8 t 8) (h : S x1 av σ (fun r σ' => v (pc + 3) lo (r ++ t) σ')) : v pc lo st σ := cl_at hv i he (by
  have g := spl_i (k := fun av t => w8 t 8 ∧ S x1 av σ (fun r σ' => v (pc + 3) lo (r ++ t) σ')) (l := l) (acc := []) (t := t) (by rw [List.append_nil, hr]; exact ⟨h8, h⟩)
  rw [hn, ← hst] at g
  rcases h4 with h4 | h4 <;> subst h4 <;> exact g)
theorem r_copyI {n : Nat} {sp dp m : Int32} {Na Nb : Nat} (hv : Cl S Φ kc v) (i : Nat) {pc : Nat} (he : kc[i]? = some (pc, .invokestatic n, 3, x1, x2, x3, x4, zi, zl, ks)) (h4 : x4 = 9) (ha : tag a = 1) (hb : tag b = 1) (hNa : ln a = Na) (hNb : ln b = Nb) (h8 : w8 t 8) (h1 : ¬ sp < 0) (h2 : ¬ dp < 0) (h3 : ¬ m < 0) (h5 : sp.toNatClampNeg + m.toNatClampNeg ≤ Na) (h6 : dp.toNatClampNeg + m.toNatClampNeg ≤ Nb) (h : v (pc + 3) lo t (cpI σ a b sp.toNatClampNeg dp.toNatClampNeg m.toNatClampNeg)) : v pc lo (aI m :: aI dp :: aR b :: aI sp :: aR a :: t) σ := cl_at hv i he (by subst h4; subst hNa; subst hNb; exact ⟨⟨ha, hb⟩, h1, h2, h3, h5, h6, h8, h⟩)
theorem r_copyJ {n : Nat} {sp dp m : Int32} {Na Nb : Nat} (hv : Cl S Φ kc v) (i : Nat) {pc : Nat} (he : kc[i]? = some (pc, .invokestatic n, 3, x1, x2, x3, x4, zi, zl, ks)) (h4 : x4 = 8) (ha : tag a = 4) (hb : tag b = 4) (hNa : ln a = Na) (hNb : ln b = Nb) (h8 : w8 t 8) (h1 : ¬ sp < 0) (h2 : ¬ dp < 0) (h3 : ¬ m < 0) (h5 : sp.toNatClampNeg + m.toNatClampNeg ≤ Na) (h6 : dp.toNatClampNeg + m.toNatClampNeg ≤ Nb) (h : v (pc + 3) lo t (cpJ σ a b sp.toNatClampNeg dp.toNatClampNeg m.toNatClampNeg)) : v pc lo (aI m :: aI dp :: aR b :: aI sp :: aR a :: t) σ := cl_at hv i he (by subst h4; subst hNa; subst hNb; exact ⟨⟨ha, hb⟩, h1, h2, h3, h5, h6, h8, h⟩)
theorem r_max {n : Nat} (hv : Cl S Φ kc v) (i : Nat) {pc : Nat} (he : kc[i]? = some (pc, .invokestatic n, 3, x1, x2, x3, x4, zi, zl, ks)) (h4 : x4 = 10) (h8 : w8 t 8) (h : v (pc + 3) lo (aI (if x < y then y else x) :: t) σ) : v pc lo (aI y :: aI x :: t) σ := cl_at hv i he (by subst h4; exact ⟨h8, h⟩)
theorem r_min {n : Nat} (hv : Cl S Φ kc v) (i : Nat) {pc : Nat} (he : kc[i]? = some (pc, .invokestatic n, 3, x1, x2, x3, x4, zi, zl, ks)) (h4 : x4 = 11) (h8 : w8 t 8) (h : v (pc + 3) lo (aI (if y < x then y else x) :: t) σ) : v pc lo (aI y :: aI x :: t) σ := cl_at hv i he (by subst h4; exact ⟨h8, h⟩)
theorem r_abs {n : Nat} (hv : Cl S Φ kc v) (i : Nat) {pc : Nat} (he : kc[i]? = some (pc, .invokestatic n, 3, x1, x2, x3, x4, zi, zl, ks)) (h4 : x4 = 12) (h8 : w8 t 8) (h : v (pc + 3) lo (aI (if 0 ≤ x then x else 0 - x) :: t) σ) : v pc lo (aI x :: t) σ := cl_at hv i he (by subst h4; exact ⟨h8, h⟩)
theorem r_ireturn (hv : Cl S Φ kc v) (i : Nat) {pc : Nat} (he : kc[i]? = some (pc, .ireturn, 1, x1, x2, x3, x4, zi, zl, ks)) (h1 : (x1 == 1) = false) (h : Φ [aI x] σ) : v pc lo ([aI x]) σ := cl_at hv i he (⟨rfl, by rw [h1]; exact h⟩)
theorem r_zreturn (hv : Cl S Φ kc v) (i : Nat) {pc : Nat} (he : kc[i]? = some (pc, .ireturn, 1, x1, x2, x3, x4, zi, zl, ks)) (h1 : x1 = 1) (hz : x = 0 ∨ x = 1) (h : Φ [aI x] σ) : v pc lo ([aI x]) σ := cl_at hv i he (⟨rfl, by subst h1; exact ⟨hz, h⟩⟩)
theorem r_lreturn (hv : Cl S Φ kc v) (i : Nat) {pc : Nat} (he : kc[i]? = some (pc, .lreturn, 1, x1, x2, x3, x4, zi, zl, ks)) (h : Φ [aL X] σ) : v pc lo ([aL X]) σ := cl_at hv i he (⟨rfl, h⟩)
theorem r_areturn (hv : Cl S Φ kc v) (i : Nat) {pc : Nat} (he : kc[i]? = some (pc, .areturn, 1, x1, x2, x3, x4, zi, zl, ks)) (h : Φ [aR a] σ) : v pc lo ([aR a]) σ := cl_at hv i he (⟨rfl, h⟩)
theorem r_return (hv : Cl S Φ kc v) (i : Nat) {pc : Nat} (he : kc[i]? = some (pc, .return_, 1, x1, x2, x3, x4, zi, zl, ks)) (h : Φ [] σ) : v pc lo ([]) σ := cl_at hv i he (⟨rfl, h⟩)
end RUL
end
section
/-! the kinds of places that methods are called on -/
def isPat (p : Nat) : Prop := oc p = some 1 ∧ (ch p 0 = p + 1 ∧ ch p 1 = p + 2 ∧ ch p 2 = p + 3) ∧ (tag (p + 1) = 1 ∧ ln (p + 1) = 180) ∧ (tag (p + 2) = 1 ∧ ln (p + 2) = 120) ∧ (tag (p + 3) = 1 ∧ ln (p + 3) = 3) ∧ p < 12
theorem isPat_oc {p : Nat} (h : isPat p) : oc p = some 1 := h.1
theorem isPat_c0 {p : Nat} (h : isPat p) : ch p 0 = p + 1 := h.2.1.1
theorem isPat_c1 {p : Nat} (h : isPat p) : ch p 1 = p + 2 := h.2.1.2.1
theorem isPat_c2 {p : Nat} (h : isPat p) : ch p 2 = p + 3 := h.2.1.2.2
theorem isPat_t1 {p : Nat} (h : isPat p) : tag (p + 1) = 1 := h.2.2.1.1
theorem isPat_t2 {p : Nat} (h : isPat p) : tag (p + 2) = 1 := h.2.2.2.1.1
theorem isPat_t3 {p : Nat} (h : isPat p) : tag (p + 3) = 1 := h.2.2.2.2.1.1
theorem isPat_l1 {p : Nat} (h : isPat p) : ln (p + 1) = 180 := h.2.2.1.2
theorem isPat_l2 {p : Nat} (h : isPat p) : ln (p + 2) = 120 := h.2.2.2.1.2
theorem isPat_l3 {p : Nat} (h : isPat p) : ln (p + 3) = 3 := h.2.2.2.2.1.2
theorem isPat_lt1 {p : Nat} (h : isPat p) : p + 1 < 100 := by have := h.2.2.2.2.2; omega
theorem isPat_lt2 {p : Nat} (h : isPat p) : p + 2 < 100 := by have := h.2.2.2.2.2; omega
theorem isPat_lt3 {p : Nat} (h : isPat p) : p + 3 < 100 := by have := h.2.2.2.2.2; omega
theorem isPat_1 : isPat 1 := by unfold isPat; decide
theorem isPat_5 : isPat 5 := by unfold isPat; decide
theorem isPat_9 : isPat 9 := by unfold isPat; decide
def isSh (s : Nat) : Prop := oc s = some 6 ∧ (ch s 0 = s + 1 ∧ ch s 1 = s + 2 ∧ ch s 2 = s + 3) ∧ (tag (s + 1) = 1 ∧ ln (s + 1) = 40) ∧ (tag (s + 2) = 1 ∧ ln (s + 2) = 40) ∧ (tag (s + 3) = 1 ∧ ln (s + 3) = 40) ∧ (13 ≤ s ∧ s < 40)
theorem isSh_oc {s : Nat} (h : isSh s) : oc s = some 6 := h.1
theorem isSh_c0 {s : Nat} (h : isSh s) : ch s 0 = s + 1 := h.2.1.1
theorem isSh_c1 {s : Nat} (h : isSh s) : ch s 1 = s + 2 := h.2.1.2.1
theorem isSh_c2 {s : Nat} (h : isSh s) : ch s 2 = s + 3 := h.2.1.2.2
theorem isSh_t1 {s : Nat} (h : isSh s) : tag (s + 1) = 1 := h.2.2.1.1
theorem isSh_t2 {s : Nat} (h : isSh s) : tag (s + 2) = 1 := h.2.2.2.1.1
theorem isSh_t3 {s : Nat} (h : isSh s) : tag (s + 3) = 1 := h.2.2.2.2.1.1
theorem isSh_l1 {s : Nat} (h : isSh s) : ln (s + 1) = 40 := h.2.2.1.2
theorem isSh_l2 {s : Nat} (h : isSh s) : ln (s + 2) = 40 := h.2.2.2.1.2
theorem isSh_l3 {s : Nat} (h : isSh s) : ln (s + 3) = 40 := h.2.2.2.2.1.2
theorem isSh_lt1 {s : Nat} (h : isSh s) : s + 1 < 100 := by have := h.2.2.2.2.2; omega
theorem isSh_lt2 {s : Nat} (h : isSh s) : s + 2 < 100 := by have := h.2.2.2.2.2; omega
theorem isSh_lt3 {s : Nat} (h : isSh s) : s + 3 < 100 := by have := h.2.2.2.2.2; omega
theorem isSh_16 : isSh 16 := by unfold isSh; decide
theorem isSh_23 : isSh 23 := by unfold isSh; decide
theorem isSh_30 : isSh 30 := by unfold isSh; decide
def isBl (b : Nat) : Prop := oc b = some 0 ∧ (ch b 0 = 1 ∧ ch b 1 = b + 1 ∧ ch b 2 = b + 2 ∧ ch b 3 = b + 3) ∧ (tag (b + 1) = 1 ∧ ln (b + 1) = 20) ∧ (tag (b + 2) = 1 ∧ ln (b + 2) = 20) ∧ (13 ≤ b ∧ b < 27) ∧ isSh (b + 3)
theorem isBl_oc {b : Nat} (h : isBl b) : oc b = some 0 := h.1
theorem isBl_c0 {b : Nat} (h : isBl b) : ch b 0 = 1 := h.2.1.1
theorem isBl_c1 {b : Nat} (h : isBl b) : ch b 1 = b + 1 := h.2.1.2.1
theorem isBl_c2 {b : Nat} (h : isBl b) : ch b 2 = b + 2 := h.2.1.2.2.1
theorem isBl_c3 {b : Nat} (h : isBl b) : ch b 3 = b + 3 := h.2.1.2.2.2
theorem isBl_t1 {b : Nat} (h : isBl b) : tag (b + 1) = 1 := h.2.2.1.1
theorem isBl_t2 {b : Nat} (h : isBl b) : tag (b + 2) = 1 := h.2.2.2.1.1
theorem isBl_l1 {b : Nat} (h : isBl b) : ln (b + 1) = 20 := h.2.2.1.2
theorem isBl_l2 {b : Nat} (h : isBl b) : ln (b + 2) = 20 := h.2.2.2.1.2
theorem isBl_lt1 {b : Nat} (h : isBl b) : b + 1 < 100 := by have := h.2.2.2.2.1; omega
theorem isBl_lt2 {b : Nat} (h : isBl b) : b + 2 < 100 := by have := h.2.2.2.2.1; omega
theorem isBl_sh {b : Nat} (h : isBl b) : isSh (b + 3) := h.2.2.2.2.2
theorem isBl_s0 {b : Nat} (h : isBl b) : ch (b + 3) 0 = b + 4 := isSh_c0 (isBl_sh h)
theorem isBl_s1 {b : Nat} (h : isBl b) : ch (b + 3) 1 = b + 5 := isSh_c1 (isBl_sh h)
theorem isBl_s2 {b : Nat} (h : isBl b) : ch (b + 3) 2 = b + 6 := isSh_c2 (isBl_sh h)
theorem isBl_t4 {b : Nat} (h : isBl b) : tag (b + 4) = 1 := isSh_t1 (isBl_sh h)
theorem isBl_t5 {b : Nat} (h : isBl b) : tag (b + 5) = 1 := isSh_t2 (isBl_sh h)
theorem isBl_t6 {b : Nat} (h : isBl b) : tag (b + 6) = 1 := isSh_t3 (isBl_sh h)
theorem isBl_l4 {b : Nat} (h : isBl b) : ln (b + 4) = 40 := isSh_l1 (isBl_sh h)
theorem isBl_l5 {b : Nat} (h : isBl b) : ln (b + 5) = 40 := isSh_l2 (isBl_sh h)
theorem isBl_l6 {b : Nat} (h : isBl b) : ln (b + 6) = 40 := isSh_l3 (isBl_sh h)
theorem isBl_lt4 {b : Nat} (h : isBl b) : b + 4 < 100 := by have := h.2.2.2.2.1; omega
theorem isBl_lt5 {b : Nat} (h : isBl b) : b + 5 < 100 := by have := h.2.2.2.2.1; omega
theorem isBl_lt6 {b : Nat} (h : isBl b) : b + 6 < 100 := by have := h.2.2.2.2.1; omega
theorem isBl_13 : isBl 13 := by unfold isBl isSh; decide
theorem isBl_20 : isBl 20 := by unfold isBl isSh; decide
def isArr (t a n : Nat) : Prop := tag a = t ∧ ln a = n ∧ a < 100
def isStr (w : Nat) : Prop := 200 ≤ w ∧ w < 200 + strN
theorem rcv_o {a x : Nat} (h9 : x ≠ 99) (h : oc a = some x) : rcv a x := by unfold rcv; rw [if_neg h9]; exact h
theorem rcv_s {a : Nat} (h : isStr a) : rcv a 99 := by unfold rcv; rw [if_pos rfl]; exact h
theorem row_t {i : Int32} (h : vp_in i 4) : tag (43 + i.toNatClampNeg) = 4 := by
  have hlt : i.toNatClampNeg < 4 := Nat.not_le.mp fun q => h (Or.inr q)
  generalize i.toNatClampNeg = n at hlt ⊢
  match n, hlt with
  | 0, _ => rfl
  | 1, _ => rfl
  | 2, _ => rfl
  | 3, _ => rfl
theorem row_l {i : Int32} (h : vp_in i 4) : ln (43 + i.toNatClampNeg) = 40 := by
  have hlt : i.toNatClampNeg < 4 := Nat.not_le.mp fun q => h (Or.inr q)
  generalize i.toNatClampNeg = n at hlt ⊢
  match n, hlt with
  | 0, _ => rfl
  | 1, _ => rfl
  | 2, _ => rfl
  | 3, _ => rfl
end
section
/-- a truth as an int -/
def b2 (c : Prop) [Decidable c] : Int32 := if c then 1 else 0
theorem b2_0 (c : Prop) [Decidable c] : (b2 c = 0) = ¬ c := by
  unfold b2; split <;> simp_all
theorem b2_1 (c : Prop) [Decidable c] : (b2 c = 1) = c := by
  unfold b2; split <;> simp_all
theorem b2_01 (c : Prop) [Decidable c] : b2 c = 0 ∨ b2 c = 1 := by
  unfold b2; split <;> simp
theorem b2_t {c : Prop} [Decidable c] (h : c) : b2 c = 1 := if_pos h
theorem b2_f {c : Prop} [Decidable c] (h : ¬ c) : b2 c = 0 := if_neg h
theorem b2_congr {c d : Prop} [Decidable c] [Decidable d] (h : c ↔ d) : b2 c = b2 d := by
  unfold b2; by_cases hc : c
  · rw [if_pos hc, if_pos (h.mp hc)]
  · rw [if_neg hc, if_neg (fun q => hc (h.mpr q))]
theorem z10 : ((1 : Int32) = 0) = False := by decide
theorem z01 : ((0 : Int32) = 1) = False := by decide
theorem nlt (x y : Int32) : (¬ x < y) = (y ≤ x) := by rw [Int32.not_lt]
theorem nle (x y : Int32) : (¬ x ≤ y) = (y < x) := by rw [Int32.not_le]
theorem toI_lt {x y : Int32} : x < y ↔ x.toInt < y.toInt := Int32.lt_iff_toInt_lt
theorem toI_le {x y : Int32} : x ≤ y ↔ x.toInt ≤ y.toInt := Int32.le_iff_toInt_le
/-- an int between 0 and a small number is that number's -/
theorem ex_nI {x : Int32} (h0 : 0 ≤ x) : ∃ k : Nat, k < 2 ^ 31 ∧ x = nI k := by
  have h : (0 : Int) ≤ x.toInt := by simpa using toI_le.mp h0
  refine ⟨x.toInt.toNat, ?_, ?_⟩
  · have := Int32.toInt_lt x; omega
  · apply Int32.toInt_inj.mp
    rw [nI_toInt (by have := Int32.toInt_lt x; omega)]
    omega
theorem ex_nI_lt {x : Int32} {n : Nat} (h0 : 0 ≤ x) (hn : n < 2 ^ 31) (h : x < nI n) : ∃ k : Nat, k < n ∧ x = nI k := by
  obtain ⟨k, hk, rfl⟩ := ex_nI h0
  exact ⟨k, (nI_ltI hk hn).mp h, rfl⟩
theorem ex_nI_le {x : Int32} {n : Nat} (h0 : 0 ≤ x) (hn : n < 2 ^ 31) (h : x ≤ nI n) : ∃ k : Nat, k ≤ n ∧ x = nI k := by
  obtain ⟨k, hk, rfl⟩ := ex_nI h0
  exact ⟨k, (nI_leI hk hn).mp h, rfl⟩
theorem vp_inN {n N : Nat} (hn : n < 2 ^ 31) : vp_in (nI n) N ↔ n < N := by
  unfold vp_in
  rw [nI_clamp hn]
  have := nI_pos' hn
  constructor
  · intro h; exact Nat.not_le.mp (fun q => h (Or.inr q))
  · intro h q
    rcases q with q | q
    · exact absurd q (Int32.not_lt.mpr this)
    · omega
theorem nI_mul (a b : Nat) : nI a * nI b = nI (a * b) := by
  unfold nI
  exact (Int32.ofNat_mul a b).symm
theorem nI_sub {a b : Nat} (h : b ≤ a) : nI a - nI b = nI (a - b) := by
  have : nI a = nI (a - b) + nI b := by rw [nI_add]; congr 1; omega
  rw [this]
  exact Int32.add_sub_cancel _ _
theorem nI_div {a b : Nat} (ha : a < 2 ^ 31) (hb : b < 2 ^ 31) : nI a / nI b = nI (a / b) := by
  apply Int32.toInt_inj.mp
  have hd : a / b < 2 ^ 31 := Nat.lt_of_le_of_lt (Nat.div_le_self a b) ha
  rw [Int32.toInt_div, nI_toInt ha, nI_toInt hb, nI_toInt hd]
  rw [show ((a : Int).tdiv (b : Int)) = ((a / b : Nat) : Int) from rfl]
  generalize a / b = q at hd ⊢
  rw [Int.bmod_eq_of_le] <;> omega
theorem i32_l0 : (0 : Int64) = (0 : Int32).toInt64 := by decide
end
section
/-! ints as whole numbers -/
def iI (z : Int) : Int32 := Int32.ofInt z
def iL (z : Int) : Int64 := Int64.ofInt z
theorem iI_lit (n : Nat) : (OfNat.ofNat n : Int32) = iI (OfNat.ofNat n) := (Int32.ofInt_eq_ofNat (n := n)).symm
theorem iL_lit (n : Nat) : (OfNat.ofNat n : Int64) = iL (OfNat.ofNat n) := (Int64.ofInt_eq_ofNat (n := n)).symm
theorem iI_toInt {z : Int} (h : -2147483648 ≤ z ∧ z < 2147483648) : (iI z).toInt = z := Int32.toInt_ofInt_of_le (by omega) (by omega)
theorem iL_toInt {z : Int} (h : -9223372036854775808 ≤ z ∧ z < 9223372036854775808) : (iL z).toInt = z := Int64.toInt_ofInt_of_le (by omega) (by omega)
theorem iI_of (x : Int32) : ∃ z : Int, (-2147483648 ≤ z ∧ z < 2147483648) ∧ x = iI z := ⟨x.toInt, ⟨by have := Int32.le_toInt x; omega, by have := Int32.toInt_lt x; omega⟩, (Int32.ofInt_toInt x).symm⟩
theorem iI_add (a b : Int) : iI a + iI b = iI (a + b) := (Int32.ofInt_add a b).symm
theorem iI_sub (a b : Int) : iI a - iI b = iI (a - b) := (Int32.ofInt_sub a b).symm
theorem iI_mul (a b : Int) : iI a * iI b = iI (a * b) := (Int32.ofInt_mul a b).symm
theorem iI_neg (a : Int) : -iI a = iI (-a) := (Int32.ofInt_neg a).symm
theorem iI_lt {a b : Int} (h : (-2147483648 ≤ a ∧ a < 2147483648) ∧ (-2147483648 ≤ b ∧ b < 2147483648)) : (iI a < iI b) ↔ a < b := by rw [toI_lt, iI_toInt h.1, iI_toInt h.2]
theorem iI_le {a b : Int} (h : (-2147483648 ≤ a ∧ a < 2147483648) ∧ (-2147483648 ≤ b ∧ b < 2147483648)) : (iI a ≤ iI b) ↔ a ≤ b := by rw [toI_le, iI_toInt h.1, iI_toInt h.2]
theorem iI_eq {a b : Int} (h : (-2147483648 ≤ a ∧ a < 2147483648) ∧ (-2147483648 ≤ b ∧ b < 2147483648)) : (iI a = iI b) ↔ a = b := by rw [← Int32.toInt_inj, iI_toInt h.1, iI_toInt h.2]
theorem iI_tn {z : Int} (h : 0 ≤ z ∧ z < 2147483648) : (iI z).toNatClampNeg = z.toNat := Int32.toNatClampNeg_ofInt_of_le (by omega) (by omega)
theorem vp_iI {z : Int} {N : Nat} (h : -2147483648 ≤ z ∧ z < 2147483648) : vp_in (iI z) N ↔ 0 ≤ z ∧ z < (N : Int) := by rw [vp_in_iff, iI_toInt h]
theorem iI_div {a b : Int} (h : (0 ≤ a ∧ a < 2147483648) ∧ (0 < b ∧ b < 2147483648)) : iI a / iI b = iI (a / b) := by
  obtain ⟨⟨h1, h2⟩, h3, h4⟩ := h
  have e := Int32.ofInt_tdiv (a := a) (b := b) (by show (-2147483648 : Int) ≤ a; omega) (by show a ≤ (2147483647 : Int); omega) (by show (-2147483648 : Int) ≤ b; omega) (by show b ≤ (2147483647 : Int); omega)
  rw [Int.tdiv_eq_ediv_of_nonneg h1] at e
  exact e.symm
theorem iI_l {z : Int} (h : -2147483648 ≤ z ∧ z < 2147483648) : (iI z).toInt64 = iL z := Int32.toInt64_ofInt (by show (-2147483648 : Int) ≤ z; omega) (by show z ≤ (2147483647 : Int); omega)
theorem iL_add (a b : Int) : iL a + iL b = iL (a + b) := (Int64.ofInt_add a b).symm
theorem iL_sub (a b : Int) : iL a - iL b = iL (a - b) := (Int64.ofInt_sub a b).symm
theorem iL_mul (a b : Int) : iL a * iL b = iL (a * b) := (Int64.ofInt_mul a b).symm
theorem iL_neg (a : Int) : -iL a = iL (-a) := (Int64.ofInt_neg a).symm
theorem iL_le {a b : Int} (h : (-9223372036854775808 ≤ a ∧ a < 9223372036854775808) ∧ (-9223372036854775808 ≤ b ∧ b < 9223372036854775808)) : (iL a ≤ iL b) ↔ a ≤ b := by rw [Int64.le_iff_toInt_le, iL_toInt h.1, iL_toInt h.2]
theorem iL_lt {a b : Int} (h : (-9223372036854775808 ≤ a ∧ a < 9223372036854775808) ∧ (-9223372036854775808 ≤ b ∧ b < 9223372036854775808)) : (iL a < iL b) ↔ a < b := by rw [Int64.lt_iff_toInt_lt, iL_toInt h.1, iL_toInt h.2]
theorem iL_eq {a b : Int} (h : (-9223372036854775808 ≤ a ∧ a < 9223372036854775808) ∧ (-9223372036854775808 ≤ b ∧ b < 9223372036854775808)) : (iL a = iL b) ↔ a = b := by rw [← Int64.toInt_inj, iL_toInt h.1, iL_toInt h.2]
theorem iI_ite (c : Prop) [Decidable c] (a b : Int) : (if c then iI a else iI b) = iI (if c then a else b) := by split <;> rfl
theorem iL_ite (c : Prop) [Decidable c] (a b : Int) : (if c then iL a else iL b) = iL (if c then a else b) := by split <;> rfl
theorem iI_byte {z : Int} (h : -128 ≤ z ∧ z < 128) : (iI z).toInt8.toInt32 = iI z := by
  have e : (iI z).toInt8 = Int8.ofInt z := Int32.toInt8_ofInt
  rw [e]
  apply Int32.toInt_inj.mp
  rw [Int8.toInt_toInt32, iI_toInt (by omega), Int8.toInt_ofInt_of_le (by omega) (by omega)]
theorem nI_iI (n : Nat) : nI n = iI (n : Int) := Int32.ofInt_eq_ofNat.symm
theorem ofNat_iI (n : Nat) : Int32.ofNat n = iI (n : Int) := Int32.ofInt_eq_ofNat.symm
theorem nn_imp (p : Prop) : (¬ ¬ p) = p := by simp
theorem b2_ne0 (c : Prop) [Decidable c] : (b2 c = iI 0) = ¬ c := by rw [← iI_lit]; exact b2_0 c
theorem b2_eq1 (c : Prop) [Decidable c] : (b2 c = iI 1) = c := by rw [← iI_lit]; exact b2_1 c
theorem b2_tt {c : Prop} [Decidable c] (h : c) : iI 1 = b2 c := (iI_lit 1).symm.trans (b2_t h).symm
theorem b2_ff {c : Prop} [Decidable c] (h : ¬ c) : iI 0 = b2 c := (iI_lit 0).symm.trans (b2_f h).symm
/-! loops -/
def lpN {α : Type} (f : Int → α → α) : Int → Nat → α → α
  | _, 0, a => a
  | h, d + 1, a => lpN f (h + 1) d (f h a)
def lp {α : Type} (f : Int → α → α) (h n : Int) (a : α) : α := lpN f h (n - h).toNat a
theorem lp_z {α : Type} (f : Int → α → α) {h n : Int} (a : α) (hh : n ≤ h) : lp f h n a = a := by
  unfold lp; rw [show (n - h).toNat = 0 by omega]; rfl
theorem lp_s {α : Type} (f : Int → α → α) {h n : Int} (a : α) (hh : h < n) : lp f h n a = lp f (h + 1) n (f h a) := by
  unfold lp; rw [show (n - h).toNat = (n - (h + 1)).toNat + 1 by omega]; rfl
theorem lpN_l {α : Type} (f : Int → α → α) : ∀ (d : Nat) (h : Int) (a : α), lpN f h (d + 1) a = f (h + d) (lpN f h d a)
  | 0, h, a => by show f h a = f (h + ((0 : Nat) : Int)) a; rw [show h + ((0 : Nat) : Int) = h by omega]
  | d + 1, h, a => by
    show lpN f (h + 1) (d + 1) (f h a) = _
    rw [lpN_l f d (h + 1) (f h a)]
    show f (h + 1 + (d : Int)) _ = f (h + ((d + 1 : Nat) : Int)) _
    rw [show h + 1 + (d : Int) = h + ((d + 1 : Nat) : Int) by omega]
    rfl
/-- the last round -/
theorem lp_l {α : Type} (f : Int → α → α) {h n : Int} (a : α) (hh : h ≤ n) : lp f h (n + 1) a = f n (lp f h n a) := by
  unfold lp
  rw [show (n + 1 - h).toNat = (n - h).toNat + 1 by omega, lpN_l, show h + (((n - h).toNat : Nat) : Int) = n by omega]
theorem lpN_c {α : Type} {f g : Int → α → α} : ∀ (d : Nat) (h : Int) (a : α), (∀ k a, h ≤ k → k < h + d → f k a = g k a) → lpN f h d a = lpN g h d a
  | 0, _, _, _ => rfl
  | d + 1, h, a, hfg => by
    show lpN f (h + 1) d (f h a) = lpN g (h + 1) d (g h a)
    rw [hfg h a (by omega) (by omega)]
    exact lpN_c d (h + 1) _ (fun k a h1 h2 => hfg k a (by omega) (by omega))
theorem lp_c {α : Type} {f g : Int → α → α} {h n : Int} {a : α} (hfg : ∀ k a, h ≤ k → k < n → f k a = g k a) : lp f h n a = lp g h n a := by
  unfold lp
  by_cases q : h ≤ n
  · exact lpN_c _ h a (fun k a h1 h2 => hfg k a h1 (by omega))
  · rw [show (n - h).toNat = 0 by omega]; rfl
/-- what holds at the start and is kept, holds at the end -/
theorem lp_inv {α : Type} {f : Int → α → α} (I : Int → α → Prop) : ∀ (d : Nat) {h n : Int} {a : α}, (n - h).toNat = d → h ≤ n → I h a → (∀ k a, h ≤ k → k < n → I k a → I (k + 1) (f k a)) → I n (lp f h n a)
  | 0, h, n, a, hd, hn, h0, hs => by rw [lp_z f a (by omega)]; rw [show n = h by omega]; exact h0
  | d + 1, h, n, a, hd, hn, h0, hs => by
    rw [lp_s f a (by omega)]
    exact lp_inv I d (by omega) (by omega) (hs h a (by omega) (by omega) h0) (fun k a h1 h2 h3 => hs k a (by omega) h2 h3)
/-! bits -/
def bt (x : Int32) (i : Nat) : Bool := x.toBitVec.getLsbD i
theorem b_ext {x y : Int32} (h : ∀ i, i < 32 → bt x i = bt y i) : x = y := Int32.toBitVec_inj.mp (BitVec.eq_of_getLsbD_eq (fun i hi => h i hi))
theorem b_or (x y : Int32) (i : Nat) : bt (x ||| y) i = (bt x i || bt y i) := by unfold bt; rw [Int32.toBitVec_or, BitVec.getLsbD_or]
theorem b_and (x y : Int32) (i : Nat) : bt (x &&& y) i = (bt x i && bt y i) := by unfold bt; rw [Int32.toBitVec_and, BitVec.getLsbD_and]
theorem b_xor (x y : Int32) (i : Nat) : bt (x ^^^ y) i = (bt x i ^^ bt y i) := by unfold bt; rw [Int32.toBitVec_xor, BitVec.getLsbD_xor]
theorem b_big {x : Int32} {i : Nat} (h : 32 ≤ i) : bt x i = false := BitVec.getLsbD_of_ge _ _ h
theorem b_m1 : ∀ i, i < 32 → bt (-1) i = true := by decide +kernel
theorem b_0 (i : Nat) : bt 0 i = false := BitVec.getLsbD_zero
theorem b_1 : ∀ i, i < 32 → bt 1 i = decide (i = 0) := by decide +kernel
theorem s_l : ∀ n, n < 32 → ((nI n &&& 31).toBitVec.smod 32).toNat = n := by decide +kernel
theorem b_shl (n : Nat) (hn : n < 32) (x : Int32) {i : Nat} (hi : i < 32) : bt (x <<< (nI n &&& 31)) i = (decide (n ≤ i) && bt x (i - n)) := by
  unfold bt
  rw [Int32.toBitVec_shiftLeft, BitVec.shiftLeft_eq', s_l n hn, BitVec.getLsbD_shiftLeft]
  by_cases h : n ≤ i
  · simp [h, hi]
  · simp [h]
theorem b_sshr (n : Nat) (hn : n < 32) (x : Int32) {i : Nat} (hi : i < 32) : bt (x >>> (nI n &&& 31)) i = if n + i < 32 then bt x (n + i) else bt x 31 := by
  unfold bt
  rw [Int32.toBitVec_shiftRight, BitVec.sshiftRight_eq', s_l n hn, BitVec.getLsbD_sshiftRight]
  by_cases h : n + i < 32
  · simp [h, hi]
  · simp [h, hi, BitVec.msb_eq_getLsbD_last]
/-- the bit k of a set -/
def bs (x : Int32) (k : Int) : Bool := bt x k.toNat
theorem nI_of' {k : Int} (h : 0 ≤ k) : iI k = nI k.toNat := by
  rw [nI_iI]; congr 1; omega
theorem bs_v {s : Int32} {k : Int} (h : 0 ≤ k ∧ k < 31) : (s >>> (iI k &&& iI 31)) &&& iI 1 = if bs s k then 1 else 0 := by
  rw [nI_of' h.1, ← iI_lit, ← iI_lit]
  apply b_ext
  intro i hi
  rw [b_and, b_1 i hi, b_sshr _ (by omega) _ hi]
  unfold bs
  by_cases h0 : i = 0
  · subst h0
    rw [if_pos (by omega)]
    cases hb : bt s (k.toNat + 0)
    · rw [Nat.add_zero] at hb; rfl
    · rw [Nat.add_zero] at hb; rw [if_pos rfl, b_1 0 (by omega)]; rfl
  · rw [decide_eq_false h0, Bool.and_false]
    split
    · rw [b_1 i hi, decide_eq_false h0]
    · rw [b_0]
theorem bs_0 {s : Int32} {k : Int} (h : 0 ≤ k ∧ k < 31) : ((s >>> (iI k &&& iI 31)) &&& iI 1 = iI 0) ↔ bs s k = false := by
  rw [bs_v h, ← iI_lit]
  cases bs s k <;> decide
theorem bs_1 {s : Int32} {k : Int} (h : 0 ≤ k ∧ k < 31) : ((s >>> (iI k &&& iI 31)) &&& iI 1 = iI 1) ↔ bs s k = true := by
  rw [bs_v h, ← iI_lit]
  cases bs s k <;> decide
/-- the set of those below n of a kind -/
def bmN (p : Int → Bool) : Nat → Int32
  | 0 => 0
  | n + 1 => if p n then bmN p n ||| (1 <<< (nI n &&& 31)) else bmN p n
def bm (p : Int → Bool) (n : Int) : Int32 := bmN p n.toNat
theorem bt_one (n : Nat) (hn : n < 32) {i : Nat} (hi : i < 32) : bt ((1 : Int32) <<< (nI n &&& 31)) i = decide (i = n) := by
  rw [b_shl n hn 1 hi, b_1 (i - n) (by omega)]
  by_cases h : i = n
  · subst h; simp
  · rw [decide_eq_false h]
    by_cases h2 : n ≤ i
    · rw [decide_eq_false (show ¬ i - n = 0 by omega), Bool.and_false]
    · rw [decide_eq_false h2, Bool.false_and]
theorem bt_bmN (p : Int → Bool) : ∀ (n : Nat), n ≤ 32 → ∀ i, i < 32 → bt (bmN p n) i = (decide (i < n) && p i)
  | 0, _, i, _ => by show bt 0 i = _; rw [b_0]; simp
  | n + 1, hn, i, hi => by
    have e := bt_bmN p n (by omega) i hi
    unfold bmN
    by_cases hp : p n
    · rw [if_pos hp, b_or, e, bt_one n (by omega) hi]
      by_cases h : i = n
      · subst h; simp [hp]
      · rw [decide_eq_false h, Bool.or_false]; congr 1; exact decide_eq_decide.mpr (by omega)
    · rw [if_neg hp, e]
      by_cases h : i = n
      · subst h; simp only [Bool.not_eq_true] at hp; rw [hp]; simp
      · congr 1; exact decide_eq_decide.mpr (by omega)
theorem bs_bm {p : Int → Bool} {n k : Int} (h : 0 ≤ k ∧ k < 32 ∧ n ≤ 32) : bs (bm p n) k = (decide (k < n) && p k) := by
  unfold bs bm
  rw [bt_bmN p _ (by omega) _ (by omega), show ((k.toNat : Nat) : Int) = k by omega]
  congr 1; exact decide_eq_decide.mpr (by omega)
theorem bm_ext {p q : Int → Bool} {n : Int} (hn : n ≤ 32) (h : ∀ k, 0 ≤ k → k < n → p k = q k) : bm p n = bm q n := by
  unfold bm
  apply b_ext
  intro i hi
  rw [bt_bmN p _ (by omega) _ hi, bt_bmN q _ (by omega) _ hi]
  by_cases c : i < n.toNat
  · rw [h i (by omega) (by omega)]
  · rw [decide_eq_false c]; rfl
theorem bm_z (p : Int → Bool) : bm p 0 = iI 0 := rfl
theorem bm_s {p : Int → Bool} {n : Int} (h : 0 ≤ n) : bm p (n + 1) = if p n then bm p n ||| (iI 1 <<< (iI n &&& iI 31)) else bm p n := by
  unfold bm
  rw [show (n + 1).toNat = n.toNat + 1 by omega, nI_of' h, ← iI_lit, ← iI_lit]
  show (if p ((n.toNat : Nat) : Int) then _ else _) = _
  rw [show ((n.toNat : Nat) : Int) = n by omega]
theorem bm_st {p : Int → Bool} {n : Int} (h : 0 ≤ n) (hp : p n = true) : bm p n ||| (iI 1 <<< (iI n &&& iI 31)) = bm p (n + 1) := by rw [bm_s h, if_pos hp]
theorem bm_sf {p : Int → Bool} {n : Int} (h : 0 ≤ n) (hp : p n = false) : bm p n = bm p (n + 1) := by rw [bm_s h, if_neg (by rw [hp]; decide)]
/-- a set is what its bits say, if no bit of it is beyond -/
theorem eq_bm {x : Int32} {p : Int → Bool} {n : Int} (hn : 0 ≤ n ∧ n ≤ 32) (h : ∀ k, 0 ≤ k → k < 32 → bs x k = (decide (k < n) && p k)) : x = bm p n := by
  apply b_ext
  intro i hi
  have e := h i (by omega) (by omega)
  have e2 := bs_bm (p := p) (n := n) (k := i) (by omega)
  unfold bs at e e2
  rw [show ((i : Int)).toNat = i by omega] at e e2
  rw [e, e2]
theorem bs_and (x y : Int32) (k : Int) : bs (x &&& y) k = (bs x k && bs y k) := b_and _ _ _
theorem bs_or (x y : Int32) (k : Int) : bs (x ||| y) k = (bs x k || bs y k) := b_or _ _ _
theorem bs_not {x : Int32} {k : Int} (h : 0 ≤ k ∧ k < 32) : bs (x ^^^ iI (-1)) k = !bs x k := by
  unfold bs
  rw [b_xor, show iI (-1) = -1 from by decide, b_m1 _ (by omega), Bool.xor_true]
theorem bs_one {n k : Int} (h : (0 ≤ n ∧ n < 32) ∧ 0 ≤ k ∧ k < 32) : bs (iI 1 <<< (iI n &&& iI 31)) k = decide (k = n) := by
  unfold bs
  rw [nI_of' h.1.1, ← iI_lit, ← iI_lit, bt_one _ (by omega) (by omega)]
  exact decide_eq_decide.mpr (by omega)
theorem bs_zero (k : Int) : bs (iI 0) k = false := b_0 _
theorem bm_eq0 {p : Int → Bool} {n : Int} (hn : 0 ≤ n ∧ n ≤ 32) : (bm p n = iI 0) ↔ ∀ k, 0 ≤ k → k < n → p k = false := by
  constructor
  · intro e k h0 h1
    have := bs_bm (p := p) (n := n) (k := k) (by omega)
    rw [e, bs_zero, decide_eq_true h1, Bool.true_and] at this
    exact this.symm
  · intro h
    refine Eq.symm (eq_bm hn fun k h0 h1 => ?_)
    rw [bs_zero]
    by_cases c : k < n
    · rw [h k h0 c, Bool.and_false]
    · rw [decide_eq_false c]; rfl
end
section
def vc_X1_firstLoad_0 (S : Sp) (Φ : Rs) (v : Kt) (l0 : Int32) (l1 : Int32) (σ : St) : Prop := ((l0 : Int32) = 0 → (Φ [aI l1] σ)) ∧ (¬ ((l0 : Int32) = 0) → (((l0 : Int32) = 1 → (Φ [aI ((l1 / 2) + 1)] σ)) ∧ (¬ ((l0 : Int32) = 1) → (((l0 : Int32) = 2 → (Φ [aI ((l1 + 1) / 2)] σ)) ∧ (¬ ((l0 : Int32) = 2) → (((l0 : Int32) = 3 → (Φ [aI (((l1 + 1) / 2) * 2)] σ)) ∧ (¬ ((l0 : Int32) = 3) → (((l0 : Int32) = 4 → (((9 : Int32) ≤ ((l1 / 2) + 1) → (Φ [aI 9] σ)) ∧ (¬ ((9 : Int32) ≤ ((l1 / 2) + 1)) → (Φ [aI ((l1 / 2) + 1)] σ)))) ∧ (¬ ((l0 : Int32) = 4) → (Φ [aI 0] σ))))))))))
theorem w_X1_firstLoad_0 {S : Sp} (hS : Sys S) {Φ : Rs} {v : Kt} (hv : Cl S Φ k_X1_firstLoad v) (hw : Wk v) (l0 : Int32) (l1 : Int32) (σ : St) (h : vc_X1_firstLoad_0 S Φ v l0 l1 σ) : v 0 [some (aI l0), some (aI l1)] [] σ := by
  unfold vc_X1_firstLoad_0 at h
  refine r_iload_n (pc := 0) hv 0 rfl rfl ?_
  refine r_tab (pc := 1) hv 1 rfl ?_
  refine ⟨fun c => ?_, fun c => ?_⟩
  · replace h := h.1 c
    show v 36 [some (aI l0), some (aI l1)] [] σ
    refine r_iload_n (pc := 36) hv 2 rfl rfl ?_
    exact r_ireturn (pc := 37) hv 3 rfl rfl h
  · replace h := h.2 c
    refine ⟨fun c => ?_, fun c => ?_⟩
    · replace h := h.1 c
      show v 38 [some (aI l0), some (aI l1)] [] σ
      refine r_iload_n (pc := 38) hv 4 rfl rfl ?_
      refine r_iconst (pc := 39) hv 5 rfl  ?_
      refine r_idiv (pc := 40) hv 6 rfl (by decide) ?_
      refine r_iconst (pc := 41) hv 7 rfl  ?_
      refine r_iadd (pc := 42) hv 8 rfl  ?_
      exact r_ireturn (pc := 43) hv 9 rfl rfl h
    · replace h := h.2 c
      refine ⟨fun c => ?_, fun c => ?_⟩
      · replace h := h.1 c
        show v 44 [some (aI l0), some (aI l1)] [] σ
        refine r_iload_n (pc := 44) hv 10 rfl rfl ?_
        refine r_iconst (pc := 45) hv 11 rfl  ?_
        refine r_iadd (pc := 46) hv 12 rfl  ?_
        refine r_iconst (pc := 47) hv 13 rfl  ?_
        refine r_idiv (pc := 48) hv 14 rfl (by decide) ?_
        exact r_ireturn (pc := 49) hv 15 rfl rfl h
      · replace h := h.2 c
        refine ⟨fun c => ?_, fun c => ?_⟩
        · replace h := h.1 c
          show v 50 [some (aI l0), some (aI l1)] [] σ
          refine r_iload_n (pc := 50) hv 16 rfl rfl ?_
          refine r_iconst (pc := 51) hv 17 rfl  ?_
          refine r_iadd (pc := 52) hv 18 rfl  ?_
          refine r_iconst (pc := 53) hv 19 rfl  ?_
          refine r_idiv (pc := 54) hv 20 rfl (by decide) ?_
          refine r_iconst (pc := 55) hv 21 rfl  ?_
          refine r_imul (pc := 56) hv 22 rfl  ?_
          exact r_ireturn (pc := 57) hv 23 rfl rfl h
        · replace h := h.2 c
          refine ⟨fun c => ?_, fun c => ?_⟩
          · replace h := h.1 c
            show v 58 [some (aI l0), some (aI l1)] [] σ
            refine r_iload_n (pc := 58) hv 24 rfl rfl ?_
            refine r_iconst (pc := 59) hv 25 rfl  ?_
            refine r_idiv (pc := 60) hv 26 rfl (by decide) ?_
            refine r_iconst (pc := 61) hv 27 rfl  ?_
            refine r_iadd (pc := 62) hv 28 rfl  ?_
            refine r_bipush (pc := 63) hv 29 rfl  ?_
            refine r_icmp_ge (pc := 65) hv 30 rfl (fun c => ?_) (fun c => ?_)
            · replace h := h.1 c
              refine r_bipush (pc := 76) hv 37 rfl  ?_
              exact r_ireturn (pc := 78) hv 38 rfl rfl h
            · replace h := h.2 c
              refine r_iload_n (pc := 68) hv 31 rfl rfl ?_
              refine r_iconst (pc := 69) hv 32 rfl  ?_
              refine r_idiv (pc := 70) hv 33 rfl (by decide) ?_
              refine r_iconst (pc := 71) hv 34 rfl  ?_
              refine r_iadd (pc := 72) hv 35 rfl  ?_
              refine r_goto (pc := 73) hv 36 rfl  ?_
              exact r_ireturn (pc := 78) hv 38 rfl rfl h
          · replace h := h.2 c
            show v 79 [some (aI l0), some (aI l1)] [] σ
            refine r_iconst (pc := 79) hv 39 rfl  ?_
            exact r_ireturn (pc := 80) hv 40 rfl rfl h
theorem m_X1_firstLoad {S : Sp} (hS : Sys S) {l0 : Int32} {l1 : Int32} {σ : St} {Φ : Rs} (h : ∀ v : Kt, Cl S Φ k_X1_firstLoad v → Wk v → vc_X1_firstLoad_0 S Φ v l0 l1 σ) : S 17 [aI l0, aI l1] σ Φ :=
  hS.2 17 M_X1_firstLoad k_X1_firstLoad _ _ _ mkt_X1_firstLoad (Nat.le_of_ble_eq_true rfl) (fun v hv hw => w_X1_firstLoad_0 hS hv hw   l0 l1 σ (h v hv hw))
def vc_X1_secondLoad_0 (S : Sp) (Φ : Rs) (v : Kt) (l0 : Int32) (l1 : Int32) (σ : St) : Prop := ((l0 : Int32) = 2 → (Φ [aI (l1 / 2)] σ)) ∧ (¬ ((l0 : Int32) = 2) → (((l0 : Int32) = 3 → (Φ [aI ((l1 / 2) * 2)] σ)) ∧ (¬ ((l0 : Int32) = 3) → (Φ [aI 0] σ))))
theorem w_X1_secondLoad_0 {S : Sp} (hS : Sys S) {Φ : Rs} {v : Kt} (hv : Cl S Φ k_X1_secondLoad v) (hw : Wk v) (l0 : Int32) (l1 : Int32) (σ : St) (h : vc_X1_secondLoad_0 S Φ v l0 l1 σ) : v 0 [some (aI l0), some (aI l1)] [] σ := by
  unfold vc_X1_secondLoad_0 at h
  refine r_iload_n (pc := 0) hv 0 rfl rfl ?_
  refine r_look (pc := 1) hv 1 rfl ?_
  refine ⟨fun c => ?_, fun c => ?_⟩
  · replace h := h.1 c
    show v 28 [some (aI l0), some (aI l1)] [] σ
    refine r_iload_n (pc := 28) hv 2 rfl rfl ?_
    refine r_iconst (pc := 29) hv 3 rfl  ?_
    refine r_idiv (pc := 30) hv 4 rfl (by decide) ?_
    exact r_ireturn (pc := 31) hv 5 rfl rfl h
  · replace h := h.2 c
    refine ⟨fun c => ?_, fun c => ?_⟩
    · replace h := h.1 c
      show v 32 [some (aI l0), some (aI l1)] [] σ
      refine r_iload_n (pc := 32) hv 6 rfl rfl ?_
      refine r_iconst (pc := 33) hv 7 rfl  ?_
      refine r_idiv (pc := 34) hv 8 rfl (by decide) ?_
      refine r_iconst (pc := 35) hv 9 rfl  ?_
      refine r_imul (pc := 36) hv 10 rfl  ?_
      exact r_ireturn (pc := 37) hv 11 rfl rfl h
    · replace h := h.2 c
      show v 38 [some (aI l0), some (aI l1)] [] σ
      refine r_iconst (pc := 38) hv 12 rfl  ?_
      exact r_ireturn (pc := 39) hv 13 rfl rfl h
theorem m_X1_secondLoad {S : Sp} (hS : Sys S) {l0 : Int32} {l1 : Int32} {σ : St} {Φ : Rs} (h : ∀ v : Kt, Cl S Φ k_X1_secondLoad v → Wk v → vc_X1_secondLoad_0 S Φ v l0 l1 σ) : S 18 [aI l0, aI l1] σ Φ :=
  hS.2 18 M_X1_secondLoad k_X1_secondLoad _ _ _ mkt_X1_secondLoad (Nat.le_of_ble_eq_true rfl) (fun v hv hw => w_X1_secondLoad_0 hS hv hw   l0 l1 σ (h v hv hw))
def vc_X1_needs_0 (S : Sp) (Φ : Rs) (v : Kt) (l0 : Int32) (l1 : Int32) (σ : St) : Prop := ((l0 : Int32) = 0 → (Φ [aI (2 * l1)] σ)) ∧ (¬ ((l0 : Int32) = 0) → (((l0 : Int32) = 1 → (Φ [aI ((2 * l1) - 1)] σ)) ∧ (¬ ((l0 : Int32) = 1) → (((l0 : Int32) = 2 → (Φ [aI (2 * l1)] σ)) ∧ (¬ ((l0 : Int32) = 2) → (((l0 : Int32) = 3 → (Φ [aI (3 * l1)] σ)) ∧ (¬ ((l0 : Int32) = 3) → (((l0 : Int32) = 4 → (Φ [aI (3 * l1)] σ)) ∧ (¬ ((l0 : Int32) = 4) → (Φ [aI 0] σ))))))))))
theorem w_X1_needs_0 {S : Sp} (hS : Sys S) {Φ : Rs} {v : Kt} (hv : Cl S Φ k_X1_needs v) (hw : Wk v) (l0 : Int32) (l1 : Int32) (σ : St) (h : vc_X1_needs_0 S Φ v l0 l1 σ) : v 0 [some (aI l0), some (aI l1)] [] σ := by
  unfold vc_X1_needs_0 at h
  refine r_iload_n (pc := 0) hv 0 rfl rfl ?_
  refine r_tab (pc := 1) hv 1 rfl ?_
  refine ⟨fun c => ?_, fun c => ?_⟩
  · replace h := h.1 c
    show v 36 [some (aI l0), some (aI l1)] [] σ
    refine r_iconst (pc := 36) hv 2 rfl  ?_
    refine r_iload_n (pc := 37) hv 3 rfl rfl ?_
    refine r_imul (pc := 38) hv 4 rfl  ?_
    exact r_ireturn (pc := 39) hv 5 rfl rfl h
  · replace h := h.2 c
    refine ⟨fun c => ?_, fun c => ?_⟩
    · replace h := h.1 c
      show v 40 [some (aI l0), some (aI l1)] [] σ
      refine r_iconst (pc := 40) hv 6 rfl  ?_
      refine r_iload_n (pc := 41) hv 7 rfl rfl ?_
      refine r_imul (pc := 42) hv 8 rfl  ?_
      refine r_iconst (pc := 43) hv 9 rfl  ?_
      refine r_isub (pc := 44) hv 10 rfl  ?_
      exact r_ireturn (pc := 45) hv 11 rfl rfl h
    · replace h := h.2 c
      refine ⟨fun c => ?_, fun c => ?_⟩
      · replace h := h.1 c
        show v 36 [some (aI l0), some (aI l1)] [] σ
        refine r_iconst (pc := 36) hv 2 rfl  ?_
        refine r_iload_n (pc := 37) hv 3 rfl rfl ?_
        refine r_imul (pc := 38) hv 4 rfl  ?_
        exact r_ireturn (pc := 39) hv 5 rfl rfl h
      · replace h := h.2 c
        refine ⟨fun c => ?_, fun c => ?_⟩
        · replace h := h.1 c
          show v 46 [some (aI l0), some (aI l1)] [] σ
          refine r_iconst (pc := 46) hv 12 rfl  ?_
          refine r_iload_n (pc := 47) hv 13 rfl rfl ?_
          refine r_imul (pc := 48) hv 14 rfl  ?_
          exact r_ireturn (pc := 49) hv 15 rfl rfl h
        · replace h := h.2 c
          refine ⟨fun c => ?_, fun c => ?_⟩
          · replace h := h.1 c
            show v 46 [some (aI l0), some (aI l1)] [] σ
            refine r_iconst (pc := 46) hv 12 rfl  ?_
            refine r_iload_n (pc := 47) hv 13 rfl rfl ?_
            refine r_imul (pc := 48) hv 14 rfl  ?_
            exact r_ireturn (pc := 49) hv 15 rfl rfl h
          · replace h := h.2 c
            show v 50 [some (aI l0), some (aI l1)] [] σ
            refine r_iconst (pc := 50) hv 16 rfl  ?_
            exact r_ireturn (pc := 51) hv 17 rfl rfl h
theorem m_X1_needs {S : Sp} (hS : Sys S) {l0 : Int32} {l1 : Int32} {σ : St} {Φ : Rs} (h : ∀ v : Kt, Cl S Φ k_X1_needs v → Wk v → vc_X1_needs_0 S Φ v l0 l1 σ) : S 20 [aI l0, aI l1] σ Φ :=
  hS.2 20 M_X1_needs k_X1_needs _ _ _ mkt_X1_needs (Nat.le_of_ble_eq_true rfl) (fun v hv hw => w_X1_needs_0 hS hv hw   l0 l1 σ (h v hv hw))
def vc_X1_isUnder_4 (S : Sp) (Φ : Rs) (v : Kt) (l0 : Int32) (l1 : Int32) (l2 : Int32) (l3 : Int32) (σ : St) : Prop := ((6 : Int32) ≤ l3 → (Φ [aI 0] σ)) ∧ (¬ ((6 : Int32) ≤ l3) → (((l2 : Int32) < 0 → (Φ [aI 0] σ)) ∧ (¬ ((l2 : Int32) < 0) → (((6 : Int32) ≤ l2 → (Φ [aI 0] σ)) ∧ (¬ ((6 : Int32) ≤ l2) → ((¬ (l2 : Int32) = l1 → (vp_in l2 6 ∧ (v 4 [some (aI l0), some (aI l1), some (aI (sv 103 (l2 : Int32).toNatClampNeg)), some (aI (l3 + 1))] [] σ))) ∧ ((l2 : Int32) = l1 → (Φ [aI 1] σ))))))))
theorem w_X1_isUnder_4 {S : Sp} (hS : Sys S) {Φ : Rs} {v : Kt} (hv : Cl S Φ k_X1_isUnder v) (hw : Wk v) (l0 : Int32) (l1 : Int32) (l2 : Int32) (l3 : Int32) (σ : St) (h : vc_X1_isUnder_4 S Φ v l0 l1 l2 l3 σ) : v 4 [some (aI l0), some (aI l1), some (aI l2), some (aI l3)] [] σ := by
  unfold vc_X1_isUnder_4 at h
  refine r_iload_n (pc := 4) hv 4 rfl rfl ?_
  refine r_bipush (pc := 5) hv 5 rfl  ?_
  refine r_icmp_ge (pc := 7) hv 6 rfl (fun c => ?_) (fun c => ?_)
  · replace h := h.1 c
    refine r_iconst (pc := 39) hv 23 rfl  ?_
    exact r_zreturn (pc := 40) hv 24 rfl rfl (Or.inl rfl) h
  · replace h := h.2 c
    refine r_iload_n (pc := 10) hv 7 rfl rfl ?_
    refine r_if_lt (pc := 11) hv 8 rfl (fun c => ?_) (fun c => ?_)
    · replace h := h.1 c
      refine r_iconst (pc := 39) hv 23 rfl  ?_
      exact r_zreturn (pc := 40) hv 24 rfl rfl (Or.inl rfl) h
    · replace h := h.2 c
      refine r_iload_n (pc := 14) hv 9 rfl rfl ?_
      refine r_bipush (pc := 15) hv 10 rfl  ?_
      refine r_icmp_ge (pc := 17) hv 11 rfl (fun c => ?_) (fun c => ?_)
      · replace h := h.1 c
        refine r_iconst (pc := 39) hv 23 rfl  ?_
        exact r_zreturn (pc := 40) hv 24 rfl rfl (Or.inl rfl) h
      · replace h := h.2 c
        refine r_iload_n (pc := 20) hv 12 rfl rfl ?_
        refine r_iload_n (pc := 21) hv 13 rfl rfl ?_
        refine r_icmp_ne (pc := 22) hv 14 rfl (fun c => ?_) (fun c => ?_)
        · replace h := h.1 c
          refine r_gets (pc := 27) hv 17 rfl  ?_
          refine r_iload_n (pc := 30) hv 18 rfl rfl ?_
          refine r_ialoadS (pc := 31) (N := 6) hv 19 rfl rfl rfl (by decide) h.1 ?_
          replace h := h.2
          refine r_istore_n (pc := 32) (lo' := [some (aI l0), some (aI l1), some (aI (sv 103 (l2 : Int32).toNatClampNeg)), some (aI l3)]) hv 20 rfl rfl ?_
          refine r_iinc (pc := 33) (lo' := [some (aI l0), some (aI l1), some (aI (sv 103 (l2 : Int32).toNatClampNeg)), some (aI (l3 + 1))]) hv 21 rfl rfl rfl ?_
          refine r_goto (pc := 36) hv 22 rfl  ?_
          exact h
        · replace h := h.2 c
          refine r_iconst (pc := 25) hv 15 rfl  ?_
          exact r_zreturn (pc := 26) hv 16 rfl rfl (Or.inr rfl) h
def vc_X1_isUnder_0 (S : Sp) (Φ : Rs) (v : Kt) (l0 : Int32) (l1 : Int32) (σ : St) : Prop := v 4 [some (aI l0), some (aI l1), some (aI l0), some (aI 0)] [] σ
theorem w_X1_isUnder_0 {S : Sp} (hS : Sys S) {Φ : Rs} {v : Kt} (hv : Cl S Φ k_X1_isUnder v) (hw : Wk v) (l0 : Int32) (l1 : Int32) (σ : St) (h : vc_X1_isUnder_0 S Φ v l0 l1 σ) : v 0 [some (aI l0), some (aI l1), none, none] [] σ := by
  unfold vc_X1_isUnder_0 at h
  refine r_iload_n (pc := 0) hv 0 rfl rfl ?_
  refine r_istore_n (pc := 1) (lo' := [some (aI l0), some (aI l1), some (aI l0), none]) hv 1 rfl rfl ?_
  refine r_iconst (pc := 2) hv 2 rfl  ?_
  refine r_istore_n (pc := 3) (lo' := [some (aI l0), some (aI l1), some (aI l0), some (aI 0)]) hv 3 rfl rfl ?_
  exact h
theorem m_X1_isUnder {S : Sp} (hS : Sys S) {l0 : Int32} {l1 : Int32} {σ : St} {Φ : Rs} (h : ∀ v : Kt, Cl S Φ k_X1_isUnder v → Wk v → vc_X1_isUnder_0 S Φ v l0 l1 σ) : S 16 [aI l0, aI l1] σ Φ :=
  hS.2 16 M_X1_isUnder k_X1_isUnder _ _ _ mkt_X1_isUnder (Nat.le_of_ble_eq_true rfl) (fun v hv hw => w_X1_isUnder_0 hS hv hw   l0 l1 σ (h v hv hw))
def vc_X8_bitOf_0 (S : Sp) (Φ : Rs) (v : Kt) (l0 : Int32) (σ : St) : Prop := ((l0 : Int32) < 0 → (Φ [aI 0] σ)) ∧ (¬ ((l0 : Int32) < 0) → (((20 : Int32) ≤ l0 → (Φ [aI 0] σ)) ∧ (¬ ((20 : Int32) ≤ l0) → (Φ [aI (1 <<< (l0 &&& 31))] σ))))
theorem w_X8_bitOf_0 {S : Sp} (hS : Sys S) {Φ : Rs} {v : Kt} (hv : Cl S Φ k_X8_bitOf v) (hw : Wk v) (l0 : Int32) (σ : St) (h : vc_X8_bitOf_0 S Φ v l0 σ) : v 0 [some (aI l0)] [] σ := by
  unfold vc_X8_bitOf_0 at h
  refine r_iload_n (pc := 0) hv 0 rfl rfl ?_
  refine r_if_lt (pc := 1) hv 1 rfl (fun c => ?_) (fun c => ?_)
  · replace h := h.1 c
    refine r_iconst (pc := 16) hv 9 rfl  ?_
    exact r_ireturn (pc := 17) hv 10 rfl rfl h
  · replace h := h.2 c
    refine r_iload_n (pc := 4) hv 2 rfl rfl ?_
    refine r_bipush (pc := 5) hv 3 rfl  ?_
    refine r_icmp_ge (pc := 7) hv 4 rfl (fun c => ?_) (fun c => ?_)
    · replace h := h.1 c
      refine r_iconst (pc := 16) hv 9 rfl  ?_
      exact r_ireturn (pc := 17) hv 10 rfl rfl h
    · replace h := h.2 c
      refine r_iconst (pc := 10) hv 5 rfl  ?_
      refine r_iload_n (pc := 11) hv 6 rfl rfl ?_
      refine r_ishl (pc := 12) hv 7 rfl  ?_
      refine r_goto (pc := 13) hv 8 rfl  ?_
      exact r_ireturn (pc := 17) hv 10 rfl rfl h
theorem m_X8_bitOf {S : Sp} (hS : Sys S) {l0 : Int32} {σ : St} {Φ : Rs} (h : ∀ v : Kt, Cl S Φ k_X8_bitOf v → Wk v → vc_X8_bitOf_0 S Φ v l0 σ) : S 140 [aI l0] σ Φ :=
  hS.2 140 M_X8_bitOf k_X8_bitOf _ _ _ mkt_X8_bitOf (Nat.le_of_ble_eq_true rfl) (fun v hv hw => w_X8_bitOf_0 hS hv hw   l0 σ (h v hv hw))
def vc_X8_hasBit_0 (S : Sp) (Φ : Rs) (v : Kt) (l0 : Int32) (l1 : Int32) (σ : St) : Prop := ((l1 : Int32) < 0 → (Φ [aI 0] σ)) ∧ (¬ ((l1 : Int32) < 0) → (((20 : Int32) ≤ l1 → (Φ [aI 0] σ)) ∧ (¬ ((20 : Int32) ≤ l1) → ((((l0 >>> (l1 &&& 31)) &&& 1 : Int32) = 0 → (Φ [aI 0] σ)) ∧ (¬ (((l0 >>> (l1 &&& 31)) &&& 1 : Int32) = 0) → (Φ [aI 1] σ))))))
theorem w_X8_hasBit_0 {S : Sp} (hS : Sys S) {Φ : Rs} {v : Kt} (hv : Cl S Φ k_X8_hasBit v) (hw : Wk v) (l0 : Int32) (l1 : Int32) (σ : St) (h : vc_X8_hasBit_0 S Φ v l0 l1 σ) : v 0 [some (aI l0), some (aI l1)] [] σ := by
  unfold vc_X8_hasBit_0 at h
  refine r_iload_n (pc := 0) hv 0 rfl rfl ?_
  refine r_if_lt (pc := 1) hv 1 rfl (fun c => ?_) (fun c => ?_)
  · replace h := h.1 c
    refine r_iconst (pc := 22) hv 13 rfl  ?_
    exact r_zreturn (pc := 23) hv 14 rfl rfl (Or.inl rfl) h
  · replace h := h.2 c
    refine r_iload_n (pc := 4) hv 2 rfl rfl ?_
    refine r_bipush (pc := 5) hv 3 rfl  ?_
    refine r_icmp_ge (pc := 7) hv 4 rfl (fun c => ?_) (fun c => ?_)
    · replace h := h.1 c
      refine r_iconst (pc := 22) hv 13 rfl  ?_
      exact r_zreturn (pc := 23) hv 14 rfl rfl (Or.inl rfl) h
    · replace h := h.2 c
      refine r_iload_n (pc := 10) hv 5 rfl rfl ?_
      refine r_iload_n (pc := 11) hv 6 rfl rfl ?_
      refine r_ishr (pc := 12) hv 7 rfl  ?_
      refine r_iconst (pc := 13) hv 8 rfl  ?_
      refine r_iand (pc := 14) hv 9 rfl  ?_
      refine r_if_eq (pc := 15) hv 10 rfl (fun c => ?_) (fun c => ?_)
      · replace h := h.1 c
        refine r_iconst (pc := 22) hv 13 rfl  ?_
        exact r_zreturn (pc := 23) hv 14 rfl rfl (Or.inl rfl) h
      · replace h := h.2 c
        refine r_iconst (pc := 18) hv 11 rfl  ?_
        refine r_goto (pc := 19) hv 12 rfl  ?_
        exact r_zreturn (pc := 23) hv 14 rfl rfl (Or.inr rfl) h
theorem m_X8_hasBit {S : Sp} (hS : Sys S) {l0 : Int32} {l1 : Int32} {σ : St} {Φ : Rs} (h : ∀ v : Kt, Cl S Φ k_X8_hasBit v → Wk v → vc_X8_hasBit_0 S Φ v l0 l1 σ) : S 141 [aI l0, aI l1] σ Φ :=
  hS.2 141 M_X8_hasBit k_X8_hasBit _ _ _ mkt_X8_hasBit (Nat.le_of_ble_eq_true rfl) (fun v hv hw => w_X8_hasBit_0 hS hv hw   l0 l1 σ (h v hv hw))
def vc_X8_isHarm_0 (S : Sp) (Φ : Rs) (v : Kt) (l0 : Int32) (σ : St) : Prop := ((l0 : Int32) < 0 → (Φ [aI 0] σ)) ∧ (¬ ((l0 : Int32) < 0) → (((3 : Int32) < l0 → (Φ [aI 0] σ)) ∧ (¬ ((3 : Int32) < l0) → (Φ [aI 1] σ))))
theorem w_X8_isHarm_0 {S : Sp} (hS : Sys S) {Φ : Rs} {v : Kt} (hv : Cl S Φ k_X8_isHarm v) (hw : Wk v) (l0 : Int32) (σ : St) (h : vc_X8_isHarm_0 S Φ v l0 σ) : v 0 [some (aI l0)] [] σ := by
  unfold vc_X8_isHarm_0 at h
  refine r_iload_n (pc := 0) hv 0 rfl rfl ?_
  refine r_if_lt (pc := 1) hv 1 rfl (fun c => ?_) (fun c => ?_)
  · replace h := h.1 c
    refine r_iconst (pc := 13) hv 7 rfl  ?_
    exact r_zreturn (pc := 14) hv 8 rfl rfl (Or.inl rfl) h
  · replace h := h.2 c
    refine r_iload_n (pc := 4) hv 2 rfl rfl ?_
    refine r_iconst (pc := 5) hv 3 rfl  ?_
    refine r_icmp_gt (pc := 6) hv 4 rfl (fun c => ?_) (fun c => ?_)
    · replace h := h.1 c
      refine r_iconst (pc := 13) hv 7 rfl  ?_
      exact r_zreturn (pc := 14) hv 8 rfl rfl (Or.inl rfl) h
    · replace h := h.2 c
      refine r_iconst (pc := 9) hv 5 rfl  ?_
      refine r_goto (pc := 10) hv 6 rfl  ?_
      exact r_zreturn (pc := 14) hv 8 rfl rfl (Or.inr rfl) h
theorem m_X8_isHarm {S : Sp} (hS : Sys S) {l0 : Int32} {σ : St} {Φ : Rs} (h : ∀ v : Kt, Cl S Φ k_X8_isHarm v → Wk v → vc_X8_isHarm_0 S Φ v l0 σ) : S 137 [aI l0] σ Φ :=
  hS.2 137 M_X8_isHarm k_X8_isHarm _ _ _ mkt_X8_isHarm (Nat.le_of_ble_eq_true rfl) (fun v hv hw => w_X8_isHarm_0 hS hv hw   l0 σ (h v hv hw))
def vc_X2_isHole_0 (S : Sp) (Φ : Rs) (v : Kt) (p : Nat) (l1 : Int32) (σ : St) : Prop := ((l1 : Int32) < 0 → (Φ [aI 0] σ)) ∧ (¬ ((l1 : Int32) < 0) → (((σ.1 p 3 : Int32) ≤ l1 → (Φ [aI 0] σ)) ∧ (¬ ((σ.1 p 3 : Int32) ≤ l1) → (Φ [aI 1] σ))))
theorem w_X2_isHole_0 {S : Sp} (hS : Sys S) {Φ : Rs} {v : Kt} (hv : Cl S Φ k_X2_isHole v) (hw : Wk v) (p : Nat) (h_p : isPat p) (l1 : Int32) (σ : St) (h : vc_X2_isHole_0 S Φ v p l1 σ) : v 0 [some (aR p), some (aI l1)] [] σ := by
  unfold vc_X2_isHole_0 at h
  refine r_iload_n (pc := 0) hv 0 rfl rfl ?_
  refine r_if_lt (pc := 1) hv 1 rfl (fun c => ?_) (fun c => ?_)
  · replace h := h.1 c
    refine r_iconst (pc := 16) hv 8 rfl  ?_
    exact r_zreturn (pc := 17) hv 9 rfl rfl (Or.inl rfl) h
  · replace h := h.2 c
    refine r_iload_n (pc := 4) hv 2 rfl rfl ?_
    refine r_aload_n (pc := 5) hv 3 rfl rfl ?_
    refine r_getI (pc := 6) hv 4 rfl rfl (isPat_oc h_p) ?_
    refine r_icmp_ge (pc := 9) hv 5 rfl (fun c => ?_) (fun c => ?_)
    · replace h := h.1 c
      refine r_iconst (pc := 16) hv 8 rfl  ?_
      exact r_zreturn (pc := 17) hv 9 rfl rfl (Or.inl rfl) h
    · replace h := h.2 c
      refine r_iconst (pc := 12) hv 6 rfl  ?_
      refine r_goto (pc := 13) hv 7 rfl  ?_
      exact r_zreturn (pc := 17) hv 9 rfl rfl (Or.inr rfl) h
theorem m_X2_isHole {S : Sp} (hS : Sys S) {p : Nat} (h_p : isPat p) {l1 : Int32} {σ : St} {Φ : Rs} (h : ∀ v : Kt, Cl S Φ k_X2_isHole v → Wk v → vc_X2_isHole_0 S Φ v p l1 σ) : S 25 [aR p, aI l1] σ Φ :=
  hS.2 25 M_X2_isHole k_X2_isHole _ _ _ mkt_X2_isHole (Nat.le_of_ble_eq_true rfl) (fun v hv hw => w_X2_isHole_0 hS hv hw p h_p l1 σ (h v hv hw))
def vc_X2_isWire_0 (S : Sp) (Φ : Rs) (v : Kt) (p : Nat) (l1 : Int32) (σ : St) : Prop := ((l1 : Int32) < 0 → (Φ [aI 0] σ)) ∧ (¬ ((l1 : Int32) < 0) → (((σ.1 p 4 : Int32) ≤ l1 → (Φ [aI 0] σ)) ∧ (¬ ((σ.1 p 4 : Int32) ≤ l1) → (Φ [aI 1] σ))))
theorem w_X2_isWire_0 {S : Sp} (hS : Sys S) {Φ : Rs} {v : Kt} (hv : Cl S Φ k_X2_isWire v) (hw : Wk v) (p : Nat) (h_p : isPat p) (l1 : Int32) (σ : St) (h : vc_X2_isWire_0 S Φ v p l1 σ) : v 0 [some (aR p), some (aI l1)] [] σ := by
  unfold vc_X2_isWire_0 at h
  refine r_iload_n (pc := 0) hv 0 rfl rfl ?_
  refine r_if_lt (pc := 1) hv 1 rfl (fun c => ?_) (fun c => ?_)
  · replace h := h.1 c
    refine r_iconst (pc := 16) hv 8 rfl  ?_
    exact r_zreturn (pc := 17) hv 9 rfl rfl (Or.inl rfl) h
  · replace h := h.2 c
    refine r_iload_n (pc := 4) hv 2 rfl rfl ?_
    refine r_aload_n (pc := 5) hv 3 rfl rfl ?_
    refine r_getI (pc := 6) hv 4 rfl rfl (isPat_oc h_p) ?_
    refine r_icmp_ge (pc := 9) hv 5 rfl (fun c => ?_) (fun c => ?_)
    · replace h := h.1 c
      refine r_iconst (pc := 16) hv 8 rfl  ?_
      exact r_zreturn (pc := 17) hv 9 rfl rfl (Or.inl rfl) h
    · replace h := h.2 c
      refine r_iconst (pc := 12) hv 6 rfl  ?_
      refine r_goto (pc := 13) hv 7 rfl  ?_
      exact r_zreturn (pc := 17) hv 9 rfl rfl (Or.inr rfl) h
theorem m_X2_isWire {S : Sp} (hS : Sys S) {p : Nat} (h_p : isPat p) {l1 : Int32} {σ : St} {Φ : Rs} (h : ∀ v : Kt, Cl S Φ k_X2_isWire v → Wk v → vc_X2_isWire_0 S Φ v p l1 σ) : S 26 [aR p, aI l1] σ Φ :=
  hS.2 26 M_X2_isWire k_X2_isWire _ _ _ mkt_X2_isWire (Nat.le_of_ble_eq_true rfl) (fun v hv hw => w_X2_isWire_0 hS hv hw p h_p l1 σ (h v hv hw))
def vc_X2_mark_0 (S : Sp) (Φ : Rs) (v : Kt) (p : Nat) (l1 : Int32) (l2 : Int32) (σ : St) : Prop := vp_in ((l1 * 9) + l2) 180 ∧ (Φ [aI (σ.1 (p + 1) ((l1 * 9) + l2 : Int32).toNatClampNeg)] σ)
theorem w_X2_mark_0 {S : Sp} (hS : Sys S) {Φ : Rs} {v : Kt} (hv : Cl S Φ k_X2_mark v) (hw : Wk v) (p : Nat) (h_p : isPat p) (l1 : Int32) (l2 : Int32) (σ : St) (h : vc_X2_mark_0 S Φ v p l1 l2 σ) : v 0 [some (aR p), some (aI l1), some (aI l2)] [] σ := by
  unfold vc_X2_mark_0 at h
  refine r_aload_n (pc := 0) hv 0 rfl rfl ?_
  refine r_getR (pc := 1) (b := p + 1) hv 1 rfl rfl (isPat_oc h_p) (isPat_c0 h_p) ?_
  refine r_iload_n (pc := 4) hv 2 rfl rfl ?_
  refine r_bipush (pc := 5) hv 3 rfl  ?_
  refine r_imul (pc := 7) hv 4 rfl  ?_
  refine r_iload_n (pc := 8) hv 5 rfl rfl ?_
  refine r_iadd (pc := 9) hv 6 rfl  ?_
  refine r_iaload (pc := 10) (N := 180) hv 7 rfl (isPat_t1 h_p) (isPat_l1 h_p) (isPat_lt1 h_p) h.1 ?_
  replace h := h.2
  exact r_ireturn (pc := 11) hv 8 rfl rfl h
theorem m_X2_mark {S : Sp} (hS : Sys S) {p : Nat} (h_p : isPat p) {l1 : Int32} {l2 : Int32} {σ : St} {Φ : Rs} (h : ∀ v : Kt, Cl S Φ k_X2_mark v → Wk v → vc_X2_mark_0 S Φ v p l1 l2 σ) : S 27 [aR p, aI l1, aI l2] σ Φ :=
  hS.2 27 M_X2_mark k_X2_mark _ _ _ mkt_X2_mark (Nat.le_of_ble_eq_true rfl) (fun v hv hw => w_X2_mark_0 hS hv hw p h_p l1 l2 σ (h v hv hw))
def vc_X2_cord_0 (S : Sp) (Φ : Rs) (v : Kt) (p : Nat) (l1 : Int32) (l2 : Int32) (σ : St) : Prop := vp_in ((l1 * 3) + l2) 120 ∧ (Φ [aI (σ.1 (p + 2) ((l1 * 3) + l2 : Int32).toNatClampNeg)] σ)
theorem w_X2_cord_0 {S : Sp} (hS : Sys S) {Φ : Rs} {v : Kt} (hv : Cl S Φ k_X2_cord v) (hw : Wk v) (p : Nat) (h_p : isPat p) (l1 : Int32) (l2 : Int32) (σ : St) (h : vc_X2_cord_0 S Φ v p l1 l2 σ) : v 0 [some (aR p), some (aI l1), some (aI l2)] [] σ := by
  unfold vc_X2_cord_0 at h
  refine r_aload_n (pc := 0) hv 0 rfl rfl ?_
  refine r_getR (pc := 1) (b := p + 2) hv 1 rfl rfl (isPat_oc h_p) (isPat_c1 h_p) ?_
  refine r_iload_n (pc := 4) hv 2 rfl rfl ?_
  refine r_iconst (pc := 5) hv 3 rfl  ?_
  refine r_imul (pc := 6) hv 4 rfl  ?_
  refine r_iload_n (pc := 7) hv 5 rfl rfl ?_
  refine r_iadd (pc := 8) hv 6 rfl  ?_
  refine r_iaload (pc := 9) (N := 120) hv 7 rfl (isPat_t2 h_p) (isPat_l2 h_p) (isPat_lt2 h_p) h.1 ?_
  replace h := h.2
  exact r_ireturn (pc := 10) hv 8 rfl rfl h
theorem m_X2_cord {S : Sp} (hS : Sys S) {p : Nat} (h_p : isPat p) {l1 : Int32} {l2 : Int32} {σ : St} {Φ : Rs} (h : ∀ v : Kt, Cl S Φ k_X2_cord v → Wk v → vc_X2_cord_0 S Φ v p l1 l2 σ) : S 28 [aR p, aI l1, aI l2] σ Φ :=
  hS.2 28 M_X2_cord k_X2_cord _ _ _ mkt_X2_cord (Nat.le_of_ble_eq_true rfl) (fun v hv hw => w_X2_cord_0 hS hv hw p h_p l1 l2 σ (h v hv hw))
def vc_X2_fits_0 (S : Sp) (Φ : Rs) (v : Kt) (l0 : Int32) (l1 : Int32) (σ : St) : Prop := ((l0 : Int32) < 0 → (Φ [aI 0] σ)) ∧ (¬ ((l0 : Int32) < 0) → (((6 : Int32) < l0 → (Φ [aI 0] σ)) ∧ (¬ ((6 : Int32) < l0) → (vp_in l0 7 ∧ (((l1 : Int32) < (sv 101 (l0 : Int32).toNatClampNeg) → (Φ [aI 0] σ)) ∧ (¬ ((l1 : Int32) < (sv 101 (l0 : Int32).toNatClampNeg)) → (vp_in l0 7 ∧ (((sv 102 (l0 : Int32).toNatClampNeg : Int32) < l1 → (Φ [aI 0] σ)) ∧ (¬ ((sv 102 (l0 : Int32).toNatClampNeg : Int32) < l1) → (Φ [aI 1] σ))))))))))
theorem w_X2_fits_0 {S : Sp} (hS : Sys S) {Φ : Rs} {v : Kt} (hv : Cl S Φ k_X2_fits v) (hw : Wk v) (l0 : Int32) (l1 : Int32) (σ : St) (h : vc_X2_fits_0 S Φ v l0 l1 σ) : v 0 [some (aI l0), some (aI l1)] [] σ := by
  unfold vc_X2_fits_0 at h
  refine r_iload_n (pc := 0) hv 0 rfl rfl ?_
  refine r_if_lt (pc := 1) hv 1 rfl (fun c => ?_) (fun c => ?_)
  · replace h := h.1 c
    refine r_iconst (pc := 32) hv 17 rfl  ?_
    exact r_zreturn (pc := 33) hv 18 rfl rfl (Or.inl rfl) h
  · replace h := h.2 c
    refine r_iload_n (pc := 4) hv 2 rfl rfl ?_
    refine r_bipush (pc := 5) hv 3 rfl  ?_
    refine r_icmp_gt (pc := 7) hv 4 rfl (fun c => ?_) (fun c => ?_)
    · replace h := h.1 c
      refine r_iconst (pc := 32) hv 17 rfl  ?_
      exact r_zreturn (pc := 33) hv 18 rfl rfl (Or.inl rfl) h
    · replace h := h.2 c
      refine r_iload_n (pc := 10) hv 5 rfl rfl ?_
      refine r_gets (pc := 11) hv 6 rfl  ?_
      refine r_iload_n (pc := 14) hv 7 rfl rfl ?_
      refine r_ialoadS (pc := 15) (N := 7) hv 8 rfl rfl rfl (by decide) h.1 ?_
      replace h := h.2
      refine r_icmp_lt (pc := 16) hv 9 rfl (fun c => ?_) (fun c => ?_)
      · replace h := h.1 c
        refine r_iconst (pc := 32) hv 17 rfl  ?_
        exact r_zreturn (pc := 33) hv 18 rfl rfl (Or.inl rfl) h
      · replace h := h.2 c
        refine r_iload_n (pc := 19) hv 10 rfl rfl ?_
        refine r_gets (pc := 20) hv 11 rfl  ?_
        refine r_iload_n (pc := 23) hv 12 rfl rfl ?_
        refine r_ialoadS (pc := 24) (N := 7) hv 13 rfl rfl rfl (by decide) h.1 ?_
        replace h := h.2
        refine r_icmp_gt (pc := 25) hv 14 rfl (fun c => ?_) (fun c => ?_)
        · replace h := h.1 c
          refine r_iconst (pc := 32) hv 17 rfl  ?_
          exact r_zreturn (pc := 33) hv 18 rfl rfl (Or.inl rfl) h
        · replace h := h.2 c
          refine r_iconst (pc := 28) hv 15 rfl  ?_
          refine r_goto (pc := 29) hv 16 rfl  ?_
          exact r_zreturn (pc := 33) hv 18 rfl rfl (Or.inr rfl) h
theorem m_X2_fits {S : Sp} (hS : Sys S) {l0 : Int32} {l1 : Int32} {σ : St} {Φ : Rs} (h : ∀ v : Kt, Cl S Φ k_X2_fits v → Wk v → vc_X2_fits_0 S Φ v l0 l1 σ) : S 24 [aI l0, aI l1] σ Φ :=
  hS.2 24 M_X2_fits k_X2_fits _ _ _ mkt_X2_fits (Nat.le_of_ble_eq_true rfl) (fun v hv hw => w_X2_fits_0 hS hv hw   l0 l1 σ (h v hv hw))
def vc_X0_canLayOut_0 (S : Sp) (Φ : Rs) (v : Kt) (l0 : Int32) (σ : St) : Prop := ((l0 : Int32) < 0 → (Φ [aI 0] σ)) ∧ (¬ ((l0 : Int32) < 0) → (((3 : Int32) ≤ l0 → (Φ [aI 0] σ)) ∧ (¬ ((3 : Int32) ≤ l0) → (Φ [aI 1] σ))))
theorem w_X0_canLayOut_0 {S : Sp} (hS : Sys S) {Φ : Rs} {v : Kt} (hv : Cl S Φ k_X0_canLayOut v) (hw : Wk v) (l0 : Int32) (σ : St) (h : vc_X0_canLayOut_0 S Φ v l0 σ) : v 0 [some (aI l0)] [] σ := by
  unfold vc_X0_canLayOut_0 at h
  refine r_iload_n (pc := 0) hv 0 rfl rfl ?_
  refine r_if_lt (pc := 1) hv 1 rfl (fun c => ?_) (fun c => ?_)
  · replace h := h.1 c
    refine r_iconst (pc := 13) hv 7 rfl  ?_
    exact r_zreturn (pc := 14) hv 8 rfl rfl (Or.inl rfl) h
  · replace h := h.2 c
    refine r_iload_n (pc := 4) hv 2 rfl rfl ?_
    refine r_iconst (pc := 5) hv 3 rfl  ?_
    refine r_icmp_ge (pc := 6) hv 4 rfl (fun c => ?_) (fun c => ?_)
    · replace h := h.1 c
      refine r_iconst (pc := 13) hv 7 rfl  ?_
      exact r_zreturn (pc := 14) hv 8 rfl rfl (Or.inl rfl) h
    · replace h := h.2 c
      refine r_iconst (pc := 9) hv 5 rfl  ?_
      refine r_goto (pc := 10) hv 6 rfl  ?_
      exact r_zreturn (pc := 14) hv 8 rfl rfl (Or.inr rfl) h
theorem m_X0_canLayOut {S : Sp} (hS : Sys S) {l0 : Int32} {σ : St} {Φ : Rs} (h : ∀ v : Kt, Cl S Φ k_X0_canLayOut v → Wk v → vc_X0_canLayOut_0 S Φ v l0 σ) : S 14 [aI l0] σ Φ :=
  hS.2 14 M_X0_canLayOut k_X0_canLayOut _ _ _ mkt_X0_canLayOut (Nat.le_of_ble_eq_true rfl) (fun v hv hw => w_X0_canLayOut_0 hS hv hw   l0 σ (h v hv hw))
def vc_X6_isList_0 (S : Sp) (Φ : Rs) (v : Kt) (l0 : Int32) (σ : St) : Prop := ((l0 : Int32) < 0 → (Φ [aI 0] σ)) ∧ (¬ ((l0 : Int32) < 0) → (((4 : Int32) ≤ l0 → (Φ [aI 0] σ)) ∧ (¬ ((4 : Int32) ≤ l0) → (Φ [aI 1] σ))))
theorem w_X6_isList_0 {S : Sp} (hS : Sys S) {Φ : Rs} {v : Kt} (hv : Cl S Φ k_X6_isList v) (hw : Wk v) (l0 : Int32) (σ : St) (h : vc_X6_isList_0 S Φ v l0 σ) : v 0 [some (aI l0)] [] σ := by
  unfold vc_X6_isList_0 at h
  refine r_iload_n (pc := 0) hv 0 rfl rfl ?_
  refine r_if_lt (pc := 1) hv 1 rfl (fun c => ?_) (fun c => ?_)
  · replace h := h.1 c
    refine r_iconst (pc := 13) hv 7 rfl  ?_
    exact r_zreturn (pc := 14) hv 8 rfl rfl (Or.inl rfl) h
  · replace h := h.2 c
    refine r_iload_n (pc := 4) hv 2 rfl rfl ?_
    refine r_iconst (pc := 5) hv 3 rfl  ?_
    refine r_icmp_ge (pc := 6) hv 4 rfl (fun c => ?_) (fun c => ?_)
    · replace h := h.1 c
      refine r_iconst (pc := 13) hv 7 rfl  ?_
      exact r_zreturn (pc := 14) hv 8 rfl rfl (Or.inl rfl) h
    · replace h := h.2 c
      refine r_iconst (pc := 9) hv 5 rfl  ?_
      refine r_goto (pc := 10) hv 6 rfl  ?_
      exact r_zreturn (pc := 14) hv 8 rfl rfl (Or.inr rfl) h
theorem m_X6_isList {S : Sp} (hS : Sys S) {l0 : Int32} {σ : St} {Φ : Rs} (h : ∀ v : Kt, Cl S Φ k_X6_isList v → Wk v → vc_X6_isList_0 S Φ v l0 σ) : S 75 [aI l0] σ Φ :=
  hS.2 75 M_X6_isList k_X6_isList _ _ _ mkt_X6_isList (Nat.le_of_ble_eq_true rfl) (fun v hv hw => w_X6_isList_0 hS hv hw   l0 σ (h v hv hw))
def vc_X6_isMissing_0 (S : Sp) (Φ : Rs) (v : Kt) (l1 : Int32) (σ : St) : Prop := vp_in l1 4 ∧ ((¬ (σ.1 47 (l1 : Int32).toNatClampNeg : Int32) = (-1) → (Φ [aI 0] σ)) ∧ ((σ.1 47 (l1 : Int32).toNatClampNeg : Int32) = (-1) → (Φ [aI 1] σ)))
theorem w_X6_isMissing_0 {S : Sp} (hS : Sys S) {Φ : Rs} {v : Kt} (hv : Cl S Φ k_X6_isMissing v) (hw : Wk v) (l1 : Int32) (σ : St) (h : vc_X6_isMissing_0 S Φ v l1 σ) : v 0 [some (aR 41), some (aI l1)] [] σ := by
  unfold vc_X6_isMissing_0 at h
  refine r_aload_n (pc := 0) hv 0 rfl rfl ?_
  refine r_getR (pc := 1) (b := 47) hv 1 rfl rfl rfl rfl ?_
  refine r_iload_n (pc := 4) hv 2 rfl rfl ?_
  refine r_iaload (pc := 5) (N := 4) hv 3 rfl rfl rfl (by decide) h.1 ?_
  replace h := h.2
  refine r_iconst (pc := 6) hv 4 rfl  ?_
  refine r_icmp_ne (pc := 7) hv 5 rfl (fun c => ?_) (fun c => ?_)
  · replace h := h.1 c
    refine r_iconst (pc := 14) hv 8 rfl  ?_
    exact r_zreturn (pc := 15) hv 9 rfl rfl (Or.inl rfl) h
  · replace h := h.2 c
    refine r_iconst (pc := 10) hv 6 rfl  ?_
    refine r_goto (pc := 11) hv 7 rfl  ?_
    exact r_zreturn (pc := 15) hv 9 rfl rfl (Or.inr rfl) h
theorem m_X6_isMissing {S : Sp} (hS : Sys S) {l1 : Int32} {σ : St} {Φ : Rs} (h : ∀ v : Kt, Cl S Φ k_X6_isMissing v → Wk v → vc_X6_isMissing_0 S Φ v l1 σ) : S 76 [aR 41, aI l1] σ Φ :=
  hS.2 76 M_X6_isMissing k_X6_isMissing _ _ _ mkt_X6_isMissing (Nat.le_of_ble_eq_true rfl) (fun v hv hw => w_X6_isMissing_0 hS hv hw   l1 σ (h v hv hw))
def vc_X6_hasPlace_0 (S : Sp) (Φ : Rs) (v : Kt) (l1 : Int32) (l2 : Int32) (σ : St) : Prop := ((l2 : Int32) < 0 → (Φ [aI 0] σ)) ∧ (¬ ((l2 : Int32) < 0) → (vp_in l1 4 ∧ (((σ.1 47 (l1 : Int32).toNatClampNeg : Int32) ≤ l2 → (Φ [aI 0] σ)) ∧ (¬ ((σ.1 47 (l1 : Int32).toNatClampNeg : Int32) ≤ l2) → (Φ [aI 1] σ)))))
theorem w_X6_hasPlace_0 {S : Sp} (hS : Sys S) {Φ : Rs} {v : Kt} (hv : Cl S Φ k_X6_hasPlace v) (hw : Wk v) (l1 : Int32) (l2 : Int32) (σ : St) (h : vc_X6_hasPlace_0 S Φ v l1 l2 σ) : v 0 [some (aR 41), some (aI l1), some (aI l2)] [] σ := by
  unfold vc_X6_hasPlace_0 at h
  refine r_iload_n (pc := 0) hv 0 rfl rfl ?_
  refine r_if_lt (pc := 1) hv 1 rfl (fun c => ?_) (fun c => ?_)
  · replace h := h.1 c
    refine r_iconst (pc := 18) hv 10 rfl  ?_
    exact r_zreturn (pc := 19) hv 11 rfl rfl (Or.inl rfl) h
  · replace h := h.2 c
    refine r_iload_n (pc := 4) hv 2 rfl rfl ?_
    refine r_aload_n (pc := 5) hv 3 rfl rfl ?_
    refine r_getR (pc := 6) (b := 47) hv 4 rfl rfl rfl rfl ?_
    refine r_iload_n (pc := 9) hv 5 rfl rfl ?_
    refine r_iaload (pc := 10) (N := 4) hv 6 rfl rfl rfl (by decide) h.1 ?_
    replace h := h.2
    refine r_icmp_ge (pc := 11) hv 7 rfl (fun c => ?_) (fun c => ?_)
    · replace h := h.1 c
      refine r_iconst (pc := 18) hv 10 rfl  ?_
      exact r_zreturn (pc := 19) hv 11 rfl rfl (Or.inl rfl) h
    · replace h := h.2 c
      refine r_iconst (pc := 14) hv 8 rfl  ?_
      refine r_goto (pc := 15) hv 9 rfl  ?_
      exact r_zreturn (pc := 19) hv 11 rfl rfl (Or.inr rfl) h
theorem m_X6_hasPlace {S : Sp} (hS : Sys S) {l1 : Int32} {l2 : Int32} {σ : St} {Φ : Rs} (h : ∀ v : Kt, Cl S Φ k_X6_hasPlace v → Wk v → vc_X6_hasPlace_0 S Φ v l1 l2 σ) : S 77 [aR 41, aI l1, aI l2] σ Φ :=
  hS.2 77 M_X6_hasPlace k_X6_hasPlace _ _ _ mkt_X6_hasPlace (Nat.le_of_ble_eq_true rfl) (fun v hv hw => w_X6_hasPlace_0 hS hv hw   l1 l2 σ (h v hv hw))
def vc_X6_hasSpan_0 (S : Sp) (Φ : Rs) (v : Kt) (l1 : Int32) (l2 : Int32) (l3 : Int32) (σ : St) : Prop := ((l2 : Int32) < 0 → (Φ [aI 0] σ)) ∧ (¬ ((l2 : Int32) < 0) → (((l3 : Int32) < 0 → (Φ [aI 0] σ)) ∧ (¬ ((l3 : Int32) < 0) → (vp_in l1 4 ∧ (((σ.1 47 (l1 : Int32).toNatClampNeg : Int32) < l2 → (Φ [aI 0] σ)) ∧ (¬ ((σ.1 47 (l1 : Int32).toNatClampNeg : Int32) < l2) → (vp_in l1 4 ∧ ((((σ.1 47 (l1 : Int32).toNatClampNeg) - l2 : Int32) < l3 → (Φ [aI 0] σ)) ∧ (¬ (((σ.1 47 (l1 : Int32).toNatClampNeg) - l2 : Int32) < l3) → (Φ [aI 1] σ))))))))))
theorem w_X6_hasSpan_0 {S : Sp} (hS : Sys S) {Φ : Rs} {v : Kt} (hv : Cl S Φ k_X6_hasSpan v) (hw : Wk v) (l1 : Int32) (l2 : Int32) (l3 : Int32) (σ : St) (h : vc_X6_hasSpan_0 S Φ v l1 l2 l3 σ) : v 0 [some (aR 41), some (aI l1), some (aI l2), some (aI l3)] [] σ := by
  unfold vc_X6_hasSpan_0 at h
  refine r_iload_n (pc := 0) hv 0 rfl rfl ?_
  refine r_if_lt (pc := 1) hv 1 rfl (fun c => ?_) (fun c => ?_)
  · replace h := h.1 c
    refine r_iconst (pc := 34) hv 20 rfl  ?_
    exact r_zreturn (pc := 35) hv 21 rfl rfl (Or.inl rfl) h
  · replace h := h.2 c
    refine r_iload_n (pc := 4) hv 2 rfl rfl ?_
    refine r_if_lt (pc := 5) hv 3 rfl (fun c => ?_) (fun c => ?_)
    · replace h := h.1 c
      refine r_iconst (pc := 34) hv 20 rfl  ?_
      exact r_zreturn (pc := 35) hv 21 rfl rfl (Or.inl rfl) h
    · replace h := h.2 c
      refine r_iload_n (pc := 8) hv 4 rfl rfl ?_
      refine r_aload_n (pc := 9) hv 5 rfl rfl ?_
      refine r_getR (pc := 10) (b := 47) hv 6 rfl rfl rfl rfl ?_
      refine r_iload_n (pc := 13) hv 7 rfl rfl ?_
      refine r_iaload (pc := 14) (N := 4) hv 8 rfl rfl rfl (by decide) h.1 ?_
      replace h := h.2
      refine r_icmp_gt (pc := 15) hv 9 rfl (fun c => ?_) (fun c => ?_)
      · replace h := h.1 c
        refine r_iconst (pc := 34) hv 20 rfl  ?_
        exact r_zreturn (pc := 35) hv 21 rfl rfl (Or.inl rfl) h
      · replace h := h.2 c
        refine r_iload_n (pc := 18) hv 10 rfl rfl ?_
        refine r_aload_n (pc := 19) hv 11 rfl rfl ?_
        refine r_getR (pc := 20) (b := 47) hv 12 rfl rfl rfl rfl ?_
        refine r_iload_n (pc := 23) hv 13 rfl rfl ?_
        refine r_iaload (pc := 24) (N := 4) hv 14 rfl rfl rfl (by decide) h.1 ?_
        replace h := h.2
        refine r_iload_n (pc := 25) hv 15 rfl rfl ?_
        refine r_isub (pc := 26) hv 16 rfl  ?_
        refine r_icmp_gt (pc := 27) hv 17 rfl (fun c => ?_) (fun c => ?_)
        · replace h := h.1 c
          refine r_iconst (pc := 34) hv 20 rfl  ?_
          exact r_zreturn (pc := 35) hv 21 rfl rfl (Or.inl rfl) h
        · replace h := h.2 c
          refine r_iconst (pc := 30) hv 18 rfl  ?_
          refine r_goto (pc := 31) hv 19 rfl  ?_
          exact r_zreturn (pc := 35) hv 21 rfl rfl (Or.inr rfl) h
theorem m_X6_hasSpan {S : Sp} (hS : Sys S) {l1 : Int32} {l2 : Int32} {l3 : Int32} {σ : St} {Φ : Rs} (h : ∀ v : Kt, Cl S Φ k_X6_hasSpan v → Wk v → vc_X6_hasSpan_0 S Φ v l1 l2 l3 σ) : S 78 [aR 41, aI l1, aI l2, aI l3] σ Φ :=
  hS.2 78 M_X6_hasSpan k_X6_hasSpan _ _ _ mkt_X6_hasSpan (Nat.le_of_ble_eq_true rfl) (fun v hv hw => w_X6_hasSpan_0 hS hv hw   l1 l2 l3 σ (h v hv hw))
def vc_X9_in_0 (S : Sp) (Φ : Rs) (v : Kt) (l0 : Int64) (l2 : Int64) (l4 : Int64) (σ : St) : Prop := ((lg_cmp l0 l2 : Int32) < 0 → (Φ [aI 0] σ)) ∧ (¬ ((lg_cmp l0 l2 : Int32) < 0) → (((0 : Int32) < (lg_cmp l0 l4) → (Φ [aI 0] σ)) ∧ (¬ ((0 : Int32) < (lg_cmp l0 l4)) → (Φ [aI 1] σ))))
theorem w_X9_in_0 {S : Sp} (hS : Sys S) {Φ : Rs} {v : Kt} (hv : Cl S Φ k_X9_in v) (hw : Wk v) (l0 : Int64) (l2 : Int64) (l4 : Int64) (σ : St) (h : vc_X9_in_0 S Φ v l0 l2 l4 σ) : v 0 [some (aL l0), none, some (aL l2), none, some (aL l4), none] [] σ := by
  unfold vc_X9_in_0 at h
  refine r_lload_n (pc := 0) hv 0 rfl rfl ?_
  refine r_lload_n (pc := 1) hv 1 rfl rfl ?_
  refine r_lcmp (pc := 2) hv 2 rfl  ?_
  refine r_if_lt (pc := 3) hv 3 rfl (fun c => ?_) (fun c => ?_)
  · replace h := h.1 c
    refine r_iconst (pc := 17) hv 10 rfl  ?_
    exact r_zreturn (pc := 18) hv 11 rfl rfl (Or.inl rfl) h
  · replace h := h.2 c
    refine r_lload_n (pc := 6) hv 4 rfl rfl ?_
    refine r_lload (pc := 7) hv 5 rfl rfl ?_
    refine r_lcmp (pc := 9) hv 6 rfl  ?_
    refine r_if_gt (pc := 10) hv 7 rfl (fun c => ?_) (fun c => ?_)
    · replace h := h.1 c
      refine r_iconst (pc := 17) hv 10 rfl  ?_
      exact r_zreturn (pc := 18) hv 11 rfl rfl (Or.inl rfl) h
    · replace h := h.2 c
      refine r_iconst (pc := 13) hv 8 rfl  ?_
      refine r_goto (pc := 14) hv 9 rfl  ?_
      exact r_zreturn (pc := 18) hv 11 rfl rfl (Or.inr rfl) h
theorem m_X9_in {S : Sp} (hS : Sys S) {l0 : Int64} {l2 : Int64} {l4 : Int64} {σ : St} {Φ : Rs} (h : ∀ v : Kt, Cl S Φ k_X9_in v → Wk v → vc_X9_in_0 S Φ v l0 l2 l4 σ) : S 143 [aL l0, aL l2, aL l4] σ Φ :=
  hS.2 143 M_X9_in k_X9_in _ _ _ mkt_X9_in (Nat.le_of_ble_eq_true rfl) (fun v hv hw => w_X9_in_0 hS hv hw   l0 l2 l4 σ (h v hv hw))
def vc_X9_less_0 (S : Sp) (Φ : Rs) (v : Kt) (l0 : Int32) (l1 : Int32) (σ : St) : Prop := ((l1 : Int32) ≤ l0 → (Φ [aI l1] σ)) ∧ (¬ ((l1 : Int32) ≤ l0) → (Φ [aI l0] σ))
theorem w_X9_less_0 {S : Sp} (hS : Sys S) {Φ : Rs} {v : Kt} (hv : Cl S Φ k_X9_less v) (hw : Wk v) (l0 : Int32) (l1 : Int32) (σ : St) (h : vc_X9_less_0 S Φ v l0 l1 σ) : v 0 [some (aI l0), some (aI l1)] [] σ := by
  unfold vc_X9_less_0 at h
  refine r_iload_n (pc := 0) hv 0 rfl rfl ?_
  refine r_iload_n (pc := 1) hv 1 rfl rfl ?_
  refine r_icmp_ge (pc := 2) hv 2 rfl (fun c => ?_) (fun c => ?_)
  · replace h := h.1 c
    refine r_iload_n (pc := 9) hv 5 rfl rfl ?_
    exact r_ireturn (pc := 10) hv 6 rfl rfl h
  · replace h := h.2 c
    refine r_iload_n (pc := 5) hv 3 rfl rfl ?_
    refine r_goto (pc := 6) hv 4 rfl  ?_
    exact r_ireturn (pc := 10) hv 6 rfl rfl h
theorem m_X9_less {S : Sp} (hS : Sys S) {l0 : Int32} {l1 : Int32} {σ : St} {Φ : Rs} (h : ∀ v : Kt, Cl S Φ k_X9_less v → Wk v → vc_X9_less_0 S Φ v l0 l1 σ) : S 144 [aI l0, aI l1] σ Φ :=
  hS.2 144 M_X9_less k_X9_less _ _ _ mkt_X9_less (Nat.le_of_ble_eq_true rfl) (fun v hv hw => w_X9_less_0 hS hv hw   l0 l1 σ (h v hv hw))
def vc_X9_abs_0 (S : Sp) (Φ : Rs) (v : Kt) (l0 : Int32) (σ : St) : Prop := ((0 : Int32) ≤ l0 → (Φ [aI l0] σ)) ∧ (¬ ((0 : Int32) ≤ l0) → (Φ [aI (-l0)] σ))
theorem w_X9_abs_0 {S : Sp} (hS : Sys S) {Φ : Rs} {v : Kt} (hv : Cl S Φ k_X9_abs v) (hw : Wk v) (l0 : Int32) (σ : St) (h : vc_X9_abs_0 S Φ v l0 σ) : v 0 [some (aI l0)] [] σ := by
  unfold vc_X9_abs_0 at h
  refine r_iload_n (pc := 0) hv 0 rfl rfl ?_
  refine r_if_ge (pc := 1) hv 1 rfl (fun c => ?_) (fun c => ?_)
  · replace h := h.1 c
    refine r_iload_n (pc := 9) hv 5 rfl rfl ?_
    exact r_ireturn (pc := 10) hv 6 rfl rfl h
  · replace h := h.2 c
    refine r_iload_n (pc := 4) hv 2 rfl rfl ?_
    refine r_ineg (pc := 5) hv 3 rfl  ?_
    refine r_goto (pc := 6) hv 4 rfl  ?_
    exact r_ireturn (pc := 10) hv 6 rfl rfl h
theorem m_X9_abs {S : Sp} (hS : Sys S) {l0 : Int32} {σ : St} {Φ : Rs} (h : ∀ v : Kt, Cl S Φ k_X9_abs v → Wk v → vc_X9_abs_0 S Φ v l0 σ) : S 145 [aI l0] σ Φ :=
  hS.2 145 M_X9_abs k_X9_abs _ _ _ mkt_X9_abs (Nat.le_of_ble_eq_true rfl) (fun v hv hw => w_X9_abs_0 hS hv hw   l0 σ (h v hv hw))
def vc_X9_its_0 (S : Sp) (Φ : Rs) (v : Kt) (l1 : Int32) (l2 : Int32) (σ : St) : Prop := vp_in ((8 * l1) + l2) 286 ∧ (Φ [aI (σ.1 50 ((8 * l1) + l2 : Int32).toNatClampNeg)] σ)
theorem w_X9_its_0 {S : Sp} (hS : Sys S) {Φ : Rs} {v : Kt} (hv : Cl S Φ k_X9_its v) (hw : Wk v) (l1 : Int32) (l2 : Int32) (σ : St) (h : vc_X9_its_0 S Φ v l1 l2 σ) : v 0 [some (aR 49), some (aI l1), some (aI l2)] [] σ := by
  unfold vc_X9_its_0 at h
  refine r_aload_n (pc := 0) hv 0 rfl rfl ?_
  refine r_getR (pc := 1) (b := 50) hv 1 rfl rfl rfl rfl ?_
  refine r_bipush (pc := 4) hv 2 rfl  ?_
  refine r_iload_n (pc := 6) hv 3 rfl rfl ?_
  refine r_imul (pc := 7) hv 4 rfl  ?_
  refine r_iload_n (pc := 8) hv 5 rfl rfl ?_
  refine r_iadd (pc := 9) hv 6 rfl  ?_
  refine r_iaload (pc := 10) (N := 286) hv 7 rfl rfl rfl (by decide) h.1 ?_
  replace h := h.2
  exact r_ireturn (pc := 11) hv 8 rfl rfl h
theorem m_X9_its {S : Sp} (hS : Sys S) {l1 : Int32} {l2 : Int32} {σ : St} {Φ : Rs} (h : ∀ v : Kt, Cl S Φ k_X9_its v → Wk v → vc_X9_its_0 S Φ v l1 l2 σ) : S 150 [aR 49, aI l1, aI l2] σ Φ :=
  hS.2 150 M_X9_its k_X9_its _ _ _ mkt_X9_its (Nat.le_of_ble_eq_true rfl) (fun v hv hw => w_X9_its_0 hS hv hw   l1 l2 σ (h v hv hw))
def vc_X9_wires_0 (S : Sp) (Φ : Rs) (v : Kt) (l1 : Int32) (l2 : Int32) (σ : St) : Prop := vp_in ((160 + (3 * l1)) + l2) 286 ∧ (Φ [aI (σ.1 50 ((160 + (3 * l1)) + l2 : Int32).toNatClampNeg)] σ)
theorem w_X9_wires_0 {S : Sp} (hS : Sys S) {Φ : Rs} {v : Kt} (hv : Cl S Φ k_X9_wires v) (hw : Wk v) (l1 : Int32) (l2 : Int32) (σ : St) (h : vc_X9_wires_0 S Φ v l1 l2 σ) : v 0 [some (aR 49), some (aI l1), some (aI l2)] [] σ := by
  unfold vc_X9_wires_0 at h
  refine r_aload_n (pc := 0) hv 0 rfl rfl ?_
  refine r_getR (pc := 1) (b := 50) hv 1 rfl rfl rfl rfl ?_
  refine r_sipush (pc := 4) hv 2 rfl  ?_
  refine r_iconst (pc := 7) hv 3 rfl  ?_
  refine r_iload_n (pc := 8) hv 4 rfl rfl ?_
  refine r_imul (pc := 9) hv 5 rfl  ?_
  refine r_iadd (pc := 10) hv 6 rfl  ?_
  refine r_iload_n (pc := 11) hv 7 rfl rfl ?_
  refine r_iadd (pc := 12) hv 8 rfl  ?_
  refine r_iaload (pc := 13) (N := 286) hv 9 rfl rfl rfl (by decide) h.1 ?_
  replace h := h.2
  exact r_ireturn (pc := 14) hv 10 rfl rfl h
theorem m_X9_wires {S : Sp} (hS : Sys S) {l1 : Int32} {l2 : Int32} {σ : St} {Φ : Rs} (h : ∀ v : Kt, Cl S Φ k_X9_wires v → Wk v → vc_X9_wires_0 S Φ v l1 l2 σ) : S 151 [aR 49, aI l1, aI l2] σ Φ :=
  hS.2 151 M_X9_wires k_X9_wires _ _ _ mkt_X9_wires (Nat.le_of_ble_eq_true rfl) (fun v hv hw => w_X9_wires_0 hS hv hw   l1 l2 σ (h v hv hw))
def vc_X9_has_0 (S : Sp) (Φ : Rs) (v : Kt) (l1 : Int32) (l2 : Int32) (σ : St) : Prop := (¬ ((l1 >>> (l2 &&& 31)) &&& 1 : Int32) = 1 → (Φ [aI 0] σ)) ∧ (((l1 >>> (l2 &&& 31)) &&& 1 : Int32) = 1 → (Φ [aI 1] σ))
theorem w_X9_has_0 {S : Sp} (hS : Sys S) {Φ : Rs} {v : Kt} (hv : Cl S Φ k_X9_has v) (hw : Wk v) (l1 : Int32) (l2 : Int32) (σ : St) (h : vc_X9_has_0 S Φ v l1 l2 σ) : v 0 [some (aR 49), some (aI l1), some (aI l2)] [] σ := by
  unfold vc_X9_has_0 at h
  refine r_iload_n (pc := 0) hv 0 rfl rfl ?_
  refine r_iload_n (pc := 1) hv 1 rfl rfl ?_
  refine r_ishr (pc := 2) hv 2 rfl  ?_
  refine r_iconst (pc := 3) hv 3 rfl  ?_
  refine r_iand (pc := 4) hv 4 rfl  ?_
  refine r_iconst (pc := 5) hv 5 rfl  ?_
  refine r_icmp_ne (pc := 6) hv 6 rfl (fun c => ?_) (fun c => ?_)
  · replace h := h.1 c
    refine r_iconst (pc := 13) hv 9 rfl  ?_
    exact r_zreturn (pc := 14) hv 10 rfl rfl (Or.inl rfl) h
  · replace h := h.2 c
    refine r_iconst (pc := 9) hv 7 rfl  ?_
    refine r_goto (pc := 10) hv 8 rfl  ?_
    exact r_zreturn (pc := 14) hv 10 rfl rfl (Or.inr rfl) h
theorem m_X9_has {S : Sp} (hS : Sys S) {l1 : Int32} {l2 : Int32} {σ : St} {Φ : Rs} (h : ∀ v : Kt, Cl S Φ k_X9_has v → Wk v → vc_X9_has_0 S Φ v l1 l2 σ) : S 173 [aR 49, aI l1, aI l2] σ Φ :=
  hS.2 173 M_X9_has k_X9_has _ _ _ mkt_X9_has (Nat.le_of_ble_eq_true rfl) (fun v hv hw => w_X9_has_0 hS hv hw   l1 l2 σ (h v hv hw))
def vc_X9_isUnder_29 (S : Sp) (Φ : Rs) (v : Kt) (l0 : Int32) (l1 : Int32) (σ : St) : Prop := (¬ (l1 : Int32) = 4 → (Φ [aI 0] σ)) ∧ ((l1 : Int32) = 4 → ((¬ (l0 : Int32) = 5 → (Φ [aI 0] σ)) ∧ ((l0 : Int32) = 5 → (Φ [aI 1] σ))))
theorem w_X9_isUnder_29 {S : Sp} (hS : Sys S) {Φ : Rs} {v : Kt} (hv : Cl S Φ k_X9_isUnder v) (hw : Wk v) (l0 : Int32) (l1 : Int32) (σ : St) (h : vc_X9_isUnder_29 S Φ v l0 l1 σ) : v 29 [some (aI l0), some (aI l1)] [] σ := by
  unfold vc_X9_isUnder_29 at h
  refine r_iload_n (pc := 29) hv 17 rfl rfl ?_
  refine r_iconst (pc := 30) hv 18 rfl  ?_
  refine r_icmp_ne (pc := 31) hv 19 rfl (fun c => ?_) (fun c => ?_)
  · replace h := h.1 c
    refine r_iconst (pc := 43) hv 25 rfl  ?_
    exact r_zreturn (pc := 44) hv 26 rfl rfl (Or.inl rfl) h
  · replace h := h.2 c
    refine r_iload_n (pc := 34) hv 20 rfl rfl ?_
    refine r_iconst (pc := 35) hv 21 rfl  ?_
    refine r_icmp_ne (pc := 36) hv 22 rfl (fun c => ?_) (fun c => ?_)
    · replace h := h.1 c
      refine r_iconst (pc := 43) hv 25 rfl  ?_
      exact r_zreturn (pc := 44) hv 26 rfl rfl (Or.inl rfl) h
    · replace h := h.2 c
      refine r_iconst (pc := 39) hv 23 rfl  ?_
      refine r_goto (pc := 40) hv 24 rfl  ?_
      exact r_zreturn (pc := 44) hv 26 rfl rfl (Or.inr rfl) h
def vc_X9_isUnder_19 (S : Sp) (Φ : Rs) (v : Kt) (l0 : Int32) (l1 : Int32) (σ : St) : Prop := (¬ (l1 : Int32) = 2 → (vc_X9_isUnder_29 S Φ v  l0 l1 σ)) ∧ ((l1 : Int32) = 2 → (((l0 : Int32) = 3 → (Φ [aI 1] σ)) ∧ (¬ ((l0 : Int32) = 3) → (vc_X9_isUnder_29 S Φ v  l0 l1 σ))))
theorem w_X9_isUnder_19 {S : Sp} (hS : Sys S) {Φ : Rs} {v : Kt} (hv : Cl S Φ k_X9_isUnder v) (hw : Wk v) (l0 : Int32) (l1 : Int32) (σ : St) (h : vc_X9_isUnder_19 S Φ v l0 l1 σ) : v 19 [some (aI l0), some (aI l1)] [] σ := by
  unfold vc_X9_isUnder_19 at h
  refine r_iload_n (pc := 19) hv 11 rfl rfl ?_
  refine r_iconst (pc := 20) hv 12 rfl  ?_
  refine r_icmp_ne (pc := 21) hv 13 rfl (fun c => ?_) (fun c => ?_)
  · replace h := h.1 c
    exact (w_X9_isUnder_29 hS hv hw   l0 l1  σ h)
  · replace h := h.2 c
    refine r_iload_n (pc := 24) hv 14 rfl rfl ?_
    refine r_iconst (pc := 25) hv 15 rfl  ?_
    refine r_icmp_eq (pc := 26) hv 16 rfl (fun c => ?_) (fun c => ?_)
    · replace h := h.1 c
      refine r_iconst (pc := 39) hv 23 rfl  ?_
      refine r_goto (pc := 40) hv 24 rfl  ?_
      exact r_zreturn (pc := 44) hv 26 rfl rfl (Or.inr rfl) h
    · replace h := h.2 c
      exact (w_X9_isUnder_29 hS hv hw   l0 l1  σ h)
def vc_X9_isUnder_0 (S : Sp) (Φ : Rs) (v : Kt) (l0 : Int32) (l1 : Int32) (σ : St) : Prop := ((l1 : Int32) = 0 → (Φ [aI 1] σ)) ∧ (¬ ((l1 : Int32) = 0) → (((l0 : Int32) = l1 → (Φ [aI 1] σ)) ∧ (¬ ((l0 : Int32) = l1) → ((¬ (l1 : Int32) = 1 → (vc_X9_isUnder_19 S Φ v  l0 l1 σ)) ∧ ((l1 : Int32) = 1 → (((3 : Int32) < l0 → (Φ [aI 1] σ)) ∧ (¬ ((3 : Int32) < l0) → (vc_X9_isUnder_19 S Φ v  l0 l1 σ))))))))
theorem w_X9_isUnder_0 {S : Sp} (hS : Sys S) {Φ : Rs} {v : Kt} (hv : Cl S Φ k_X9_isUnder v) (hw : Wk v) (l0 : Int32) (l1 : Int32) (σ : St) (h : vc_X9_isUnder_0 S Φ v l0 l1 σ) : v 0 [some (aI l0), some (aI l1)] [] σ := by
  unfold vc_X9_isUnder_0 at h
  refine r_iload_n (pc := 0) hv 0 rfl rfl ?_
  refine r_if_eq (pc := 1) hv 1 rfl (fun c => ?_) (fun c => ?_)
  · replace h := h.1 c
    refine r_iconst (pc := 39) hv 23 rfl  ?_
    refine r_goto (pc := 40) hv 24 rfl  ?_
    exact r_zreturn (pc := 44) hv 26 rfl rfl (Or.inr rfl) h
  · replace h := h.2 c
    refine r_iload_n (pc := 4) hv 2 rfl rfl ?_
    refine r_iload_n (pc := 5) hv 3 rfl rfl ?_
    refine r_icmp_eq (pc := 6) hv 4 rfl (fun c => ?_) (fun c => ?_)
    · replace h := h.1 c
      refine r_iconst (pc := 39) hv 23 rfl  ?_
      refine r_goto (pc := 40) hv 24 rfl  ?_
      exact r_zreturn (pc := 44) hv 26 rfl rfl (Or.inr rfl) h
    · replace h := h.2 c
      refine r_iload_n (pc := 9) hv 5 rfl rfl ?_
      refine r_iconst (pc := 10) hv 6 rfl  ?_
      refine r_icmp_ne (pc := 11) hv 7 rfl (fun c => ?_) (fun c => ?_)
      · replace h := h.1 c
        exact (w_X9_isUnder_19 hS hv hw   l0 l1  σ h)
      · replace h := h.2 c
        refine r_iload_n (pc := 14) hv 8 rfl rfl ?_
        refine r_iconst (pc := 15) hv 9 rfl  ?_
        refine r_icmp_gt (pc := 16) hv 10 rfl (fun c => ?_) (fun c => ?_)
        · replace h := h.1 c
          refine r_iconst (pc := 39) hv 23 rfl  ?_
          refine r_goto (pc := 40) hv 24 rfl  ?_
          exact r_zreturn (pc := 44) hv 26 rfl rfl (Or.inr rfl) h
        · replace h := h.2 c
          exact (w_X9_isUnder_19 hS hv hw   l0 l1  σ h)
theorem m_X9_isUnder {S : Sp} (hS : Sys S) {l0 : Int32} {l1 : Int32} {σ : St} {Φ : Rs} (h : ∀ v : Kt, Cl S Φ k_X9_isUnder v → Wk v → vc_X9_isUnder_0 S Φ v l0 l1 σ) : S 153 [aI l0, aI l1] σ Φ :=
  hS.2 153 M_X9_isUnder k_X9_isUnder _ _ _ mkt_X9_isUnder (Nat.le_of_ble_eq_true rfl) (fun v hv hw => w_X9_isUnder_0 hS hv hw   l0 l1 σ (h v hv hw))
def vc_X9_here_0 (S : Sp) (Φ : Rs) (v : Kt) (σ : St) : Prop := ((σ.1 49 20 : Int32) ≤ (σ.1 49 23) → (Φ [aI (-1)] σ)) ∧ (¬ ((σ.1 49 20 : Int32) ≤ (σ.1 49 23)) → (vp_in (σ.1 49 23) 80 ∧ (Φ [aI (σ.1 59 (σ.1 49 23 : Int32).toNatClampNeg)] σ)))
theorem w_X9_here_0 {S : Sp} (hS : Sys S) {Φ : Rs} {v : Kt} (hv : Cl S Φ k_X9_here v) (hw : Wk v) (σ : St) (h : vc_X9_here_0 S Φ v  σ) : v 0 [some (aR 49)] [] σ := by
  unfold vc_X9_here_0 at h
  refine r_aload_n (pc := 0) hv 0 rfl rfl ?_
  refine r_getI (pc := 1) hv 1 rfl rfl rfl ?_
  refine r_aload_n (pc := 4) hv 2 rfl rfl ?_
  refine r_getI (pc := 5) hv 3 rfl rfl rfl ?_
  refine r_icmp_ge (pc := 8) hv 4 rfl (fun c => ?_) (fun c => ?_)
  · replace h := h.1 c
    refine r_iconst (pc := 23) hv 11 rfl  ?_
    exact r_ireturn (pc := 24) hv 12 rfl rfl h
  · replace h := h.2 c
    refine r_aload_n (pc := 11) hv 5 rfl rfl ?_
    refine r_getR (pc := 12) (b := 59) hv 6 rfl rfl rfl rfl ?_
    refine r_aload_n (pc := 15) hv 7 rfl rfl ?_
    refine r_getI (pc := 16) hv 8 rfl rfl rfl ?_
    refine r_iaload (pc := 19) (N := 80) hv 9 rfl rfl rfl (by decide) h.1 ?_
    replace h := h.2
    refine r_goto (pc := 20) hv 10 rfl  ?_
    exact r_ireturn (pc := 24) hv 12 rfl rfl h
theorem m_X9_here {S : Sp} (hS : Sys S) {σ : St} {Φ : Rs} (h : ∀ v : Kt, Cl S Φ k_X9_here v → Wk v → vc_X9_here_0 S Φ v  σ) : S 208 [aR 49] σ Φ :=
  hS.2 208 M_X9_here k_X9_here _ _ _ mkt_X9_here (Nat.le_of_ble_eq_true rfl) (fun v hv hw => w_X9_here_0 hS hv hw    σ (h v hv hw))
def vc_X8_rootAbove_8 (S : Sp) (Φ : Rs) (v : Kt) (l0 : Int32) (l1 : Int32) (l2 : Int32) (l3 : Int32) (σ : St) : Prop := ((12 : Int32) ≤ l3 → (Φ [aI l1] σ)) ∧ (¬ ((12 : Int32) ≤ l3) → (((l2 : Int32) ≤ l1 → (Φ [aI l1] σ)) ∧ (¬ ((l2 : Int32) ≤ l1) → (((((l1 + l2) / 2) * ((l1 + l2) / 2) : Int32) < l0 → (v 8 [some (aI l0), some (aI (((l1 + l2) / 2) + 1)), some (aI l2), some (aI (l3 + 1)), none] [] σ)) ∧ (¬ ((((l1 + l2) / 2) * ((l1 + l2) / 2) : Int32) < l0) → (v 8 [some (aI l0), some (aI l1), some (aI ((l1 + l2) / 2)), some (aI (l3 + 1)), none] [] σ))))))
theorem w_X8_rootAbove_8 {S : Sp} (hS : Sys S) {Φ : Rs} {v : Kt} (hv : Cl S Φ k_X8_rootAbove v) (hw : Wk v) (l0 : Int32) (l1 : Int32) (l2 : Int32) (l3 : Int32) (σ : St) (h : vc_X8_rootAbove_8 S Φ v l0 l1 l2 l3 σ) : v 8 [some (aI l0), some (aI l1), some (aI l2), some (aI l3), none] [] σ := by
  unfold vc_X8_rootAbove_8 at h
  refine r_iload_n (pc := 8) hv 6 rfl rfl ?_
  refine r_bipush (pc := 9) hv 7 rfl  ?_
  refine r_icmp_ge (pc := 11) hv 8 rfl (fun c => ?_) (fun c => ?_)
  · replace h := h.1 c
    refine r_iload_n (pc := 52) hv 32 rfl rfl ?_
    exact r_ireturn (pc := 53) hv 33 rfl rfl h
  · replace h := h.2 c
    refine r_iload_n (pc := 14) hv 9 rfl rfl ?_
    refine r_iload_n (pc := 15) hv 10 rfl rfl ?_
    refine r_icmp_ge (pc := 16) hv 11 rfl (fun c => ?_) (fun c => ?_)
    · replace h := h.1 c
      refine r_iload_n (pc := 52) hv 32 rfl rfl ?_
      exact r_ireturn (pc := 53) hv 33 rfl rfl h
    · replace h := h.2 c
      refine r_iload_n (pc := 19) hv 12 rfl rfl ?_
      refine r_iload_n (pc := 20) hv 13 rfl rfl ?_
      refine r_iadd (pc := 21) hv 14 rfl  ?_
      refine r_iconst (pc := 22) hv 15 rfl  ?_
      refine r_idiv (pc := 23) hv 16 rfl (by decide) ?_
      refine r_istore (pc := 24) (lo' := [some (aI l0), some (aI l1), some (aI l2), some (aI l3), some (aI ((l1 + l2) / 2))]) hv 17 rfl rfl ?_
      refine r_iload (pc := 26) hv 18 rfl rfl ?_
      refine r_iload (pc := 28) hv 19 rfl rfl ?_
      refine r_imul (pc := 30) hv 20 rfl  ?_
      refine r_iload_n (pc := 31) hv 21 rfl rfl ?_
      refine r_icmp_lt (pc := 32) hv 22 rfl (fun c => ?_) (fun c => ?_)
      · replace h := h.1 c
        refine r_iload (pc := 41) hv 26 rfl rfl ?_
        refine r_iconst (pc := 43) hv 27 rfl  ?_
        refine r_iadd (pc := 44) hv 28 rfl  ?_
        refine r_istore_n (pc := 45) (lo' := [some (aI l0), some (aI (((l1 + l2) / 2) + 1)), some (aI l2), some (aI l3), some (aI ((l1 + l2) / 2))]) hv 29 rfl rfl ?_
        refine r_iinc (pc := 46) (lo' := [some (aI l0), some (aI (((l1 + l2) / 2) + 1)), some (aI l2), some (aI (l3 + 1)), some (aI ((l1 + l2) / 2))]) hv 30 rfl rfl rfl ?_
        refine r_goto (pc := 49) hv 31 rfl  ?_
        exact hw 8 [some (aI l0), some (aI (((l1 + l2) / 2) + 1)), some (aI l2), some (aI (l3 + 1)), none] _ _ _ ⟨rfl, ⟨rfl, ⟨rfl, ⟨rfl, trivial⟩⟩⟩⟩ h
      · replace h := h.2 c
        refine r_iload (pc := 35) hv 23 rfl rfl ?_
        refine r_istore_n (pc := 37) (lo' := [some (aI l0), some (aI l1), some (aI ((l1 + l2) / 2)), some (aI l3), some (aI ((l1 + l2) / 2))]) hv 24 rfl rfl ?_
        refine r_goto (pc := 38) hv 25 rfl  ?_
        refine r_iinc (pc := 46) (lo' := [some (aI l0), some (aI l1), some (aI ((l1 + l2) / 2)), some (aI (l3 + 1)), some (aI ((l1 + l2) / 2))]) hv 30 rfl rfl rfl ?_
        refine r_goto (pc := 49) hv 31 rfl  ?_
        exact hw 8 [some (aI l0), some (aI l1), some (aI ((l1 + l2) / 2)), some (aI (l3 + 1)), none] _ _ _ ⟨rfl, ⟨rfl, ⟨rfl, ⟨rfl, trivial⟩⟩⟩⟩ h
def vc_X8_rootAbove_0 (S : Sp) (Φ : Rs) (v : Kt) (l0 : Int32) (σ : St) : Prop := v 8 [some (aI l0), some (aI 0), some (aI 2000), some (aI 0), none] [] σ
theorem w_X8_rootAbove_0 {S : Sp} (hS : Sys S) {Φ : Rs} {v : Kt} (hv : Cl S Φ k_X8_rootAbove v) (hw : Wk v) (l0 : Int32) (σ : St) (h : vc_X8_rootAbove_0 S Φ v l0 σ) : v 0 [some (aI l0), none, none, none, none] [] σ := by
  unfold vc_X8_rootAbove_0 at h
  refine r_iconst (pc := 0) hv 0 rfl  ?_
  refine r_istore_n (pc := 1) (lo' := [some (aI l0), some (aI 0), none, none, none]) hv 1 rfl rfl ?_
  refine r_sipush (pc := 2) hv 2 rfl  ?_
  refine r_istore_n (pc := 5) (lo' := [some (aI l0), some (aI 0), some (aI 2000), none, none]) hv 3 rfl rfl ?_
  refine r_iconst (pc := 6) hv 4 rfl  ?_
  refine r_istore_n (pc := 7) (lo' := [some (aI l0), some (aI 0), some (aI 2000), some (aI 0), none]) hv 5 rfl rfl ?_
  exact h
theorem m_X8_rootAbove {S : Sp} (hS : Sys S) {l0 : Int32} {σ : St} {Φ : Rs} (h : ∀ v : Kt, Cl S Φ k_X8_rootAbove v → Wk v → vc_X8_rootAbove_0 S Φ v l0 σ) : S 142 [aI l0] σ Φ :=
  hS.2 142 M_X8_rootAbove k_X8_rootAbove _ _ _ mkt_X8_rootAbove (Nat.le_of_ble_eq_true rfl) (fun v hv hw => w_X8_rootAbove_0 hS hv hw   l0 σ (h v hv hw))
def vc_J6_bitCount_0f7a4_0 (S : Sp) (Φ : Rs) (v : Kt) (l0 : Int32) (σ : St) : Prop := ∀ y1 : Int32, y1 = ((l0 - ((((l0 : Int32).toUInt32 >>> ((1 : Int32).toUInt32 &&& Int32.toUInt32 31)).toInt32) &&& 1431655765)) &&& 858993459) + ((((l0 - ((((l0 : Int32).toUInt32 >>> ((1 : Int32).toUInt32 &&& Int32.toUInt32 31)).toInt32) &&& 1431655765) : Int32).toUInt32 >>> ((2 : Int32).toUInt32 &&& Int32.toUInt32 31)).toInt32) &&& 858993459) → (∀ y2 : Int32, y2 = ((y1 + (((y1 : Int32).toUInt32 >>> ((4 : Int32).toUInt32 &&& Int32.toUInt32 31)).toInt32)) &&& 252645135) + ((((y1 + (((y1 : Int32).toUInt32 >>> ((4 : Int32).toUInt32 &&& Int32.toUInt32 31)).toInt32)) &&& 252645135 : Int32).toUInt32 >>> ((8 : Int32).toUInt32 &&& Int32.toUInt32 31)).toInt32) → (Φ [aI ((y2 + (((y2 : Int32).toUInt32 >>> ((16 : Int32).toUInt32 &&& Int32.toUInt32 31)).toInt32)) &&& 63)] σ))
theorem w_J6_bitCount_0f7a4_0 {S : Sp} (hS : Sys S) {Φ : Rs} {v : Kt} (hv : Cl S Φ k_J6_bitCount_0f7a4 v) (hw : Wk v) (l0 : Int32) (σ : St) (h : vc_J6_bitCount_0f7a4_0 S Φ v l0 σ) : v 0 [some (aI l0)] [] σ := by
  unfold vc_J6_bitCount_0f7a4_0 at h
  refine r_iload_n (pc := 0) hv 0 rfl rfl ?_
  refine r_iload_n (pc := 1) hv 1 rfl rfl ?_
  refine r_iconst (pc := 2) hv 2 rfl  ?_
  refine r_iushr (pc := 3) hv 3 rfl  ?_
  refine r_ldc_w (pc := 4) hv 4 rfl  ?_
  refine r_iand (pc := 7) hv 5 rfl  ?_
  refine r_isub (pc := 8) hv 6 rfl  ?_
  refine r_istore_n (pc := 9) (lo' := [some (aI (l0 - ((((l0 : Int32).toUInt32 >>> ((1 : Int32).toUInt32 &&& Int32.toUInt32 31)).toInt32) &&& 1431655765)))]) hv 7 rfl rfl ?_
  refine r_iload_n (pc := 10) hv 8 rfl rfl ?_
  refine r_ldc_w (pc := 11) hv 9 rfl  ?_
  refine r_iand (pc := 14) hv 10 rfl  ?_
  refine r_iload_n (pc := 15) hv 11 rfl rfl ?_
  refine r_iconst (pc := 16) hv 12 rfl  ?_
  refine r_iushr (pc := 17) hv 13 rfl  ?_
  refine r_ldc_w (pc := 18) hv 14 rfl  ?_
  refine r_iand (pc := 21) hv 15 rfl  ?_
  refine r_iadd (pc := 22) hv 16 rfl  ?_
  obtain ⟨y1, e_y1⟩ : ∃ y : Int32, y = ((l0 - ((((l0 : Int32).toUInt32 >>> ((1 : Int32).toUInt32 &&& Int32.toUInt32 31)).toInt32) &&& 1431655765)) &&& 858993459) + ((((l0 - ((((l0 : Int32).toUInt32 >>> ((1 : Int32).toUInt32 &&& Int32.toUInt32 31)).toInt32) &&& 1431655765) : Int32).toUInt32 >>> ((2 : Int32).toUInt32 &&& Int32.toUInt32 31)).toInt32) &&& 858993459) := ⟨_, rfl⟩
  rw [← e_y1]
  replace h := h y1 e_y1
  refine r_istore_n (pc := 23) (lo' := [some (aI y1)]) hv 17 rfl rfl ?_
  refine r_iload_n (pc := 24) hv 18 rfl rfl ?_
  refine r_iload_n (pc := 25) hv 19 rfl rfl ?_
  refine r_iconst (pc := 26) hv 20 rfl  ?_
  refine r_iushr (pc := 27) hv 21 rfl  ?_
  refine r_iadd (pc := 28) hv 22 rfl  ?_
  refine r_ldc_w (pc := 29) hv 23 rfl  ?_
  refine r_iand (pc := 32) hv 24 rfl  ?_
  refine r_istore_n (pc := 33) (lo' := [some (aI ((y1 + (((y1 : Int32).toUInt32 >>> ((4 : Int32).toUInt32 &&& Int32.toUInt32 31)).toInt32)) &&& 252645135))]) hv 25 rfl rfl ?_
  refine r_iload_n (pc := 34) hv 26 rfl rfl ?_
  refine r_iload_n (pc := 35) hv 27 rfl rfl ?_
  refine r_bipush (pc := 36) hv 28 rfl  ?_
  refine r_iushr (pc := 38) hv 29 rfl  ?_
  refine r_iadd (pc := 39) hv 30 rfl  ?_
  obtain ⟨y2, e_y2⟩ : ∃ y : Int32, y = ((y1 + (((y1 : Int32).toUInt32 >>> ((4 : Int32).toUInt32 &&& Int32.toUInt32 31)).toInt32)) &&& 252645135) + ((((y1 + (((y1 : Int32).toUInt32 >>> ((4 : Int32).toUInt32 &&& Int32.toUInt32 31)).toInt32)) &&& 252645135 : Int32).toUInt32 >>> ((8 : Int32).toUInt32 &&& Int32.toUInt32 31)).toInt32) := ⟨_, rfl⟩
  rw [← e_y2]
  replace h := h y2 e_y2
  refine r_istore_n (pc := 40) (lo' := [some (aI y2)]) hv 31 rfl rfl ?_
  refine r_iload_n (pc := 41) hv 32 rfl rfl ?_
  refine r_iload_n (pc := 42) hv 33 rfl rfl ?_
  refine r_bipush (pc := 43) hv 34 rfl  ?_
  refine r_iushr (pc := 45) hv 35 rfl  ?_
  refine r_iadd (pc := 46) hv 36 rfl  ?_
  refine r_istore_n (pc := 47) (lo' := [some (aI (y2 + (((y2 : Int32).toUInt32 >>> ((16 : Int32).toUInt32 &&& Int32.toUInt32 31)).toInt32)))]) hv 37 rfl rfl ?_
  refine r_iload_n (pc := 48) hv 38 rfl rfl ?_
  refine r_bipush (pc := 49) hv 39 rfl  ?_
  refine r_iand (pc := 51) hv 40 rfl  ?_
  exact r_ireturn (pc := 52) hv 41 rfl rfl h
theorem m_J6_bitCount_0f7a4 {S : Sp} (hS : Sys S) {l0 : Int32} {σ : St} {Φ : Rs} (h : ∀ v : Kt, Cl S Φ k_J6_bitCount_0f7a4 v → Wk v → vc_J6_bitCount_0f7a4_0 S Φ v l0 σ) : S 237 [aI l0] σ Φ :=
  hS.2 237 M_J6_bitCount_0f7a4 k_J6_bitCount_0f7a4 _ _ _ mkt_J6_bitCount_0f7a4 (Nat.le_of_ble_eq_true rfl) (fun v hv hw => w_J6_bitCount_0f7a4_0 hS hv hw   l0 σ (h v hv hw))
def vc_X9_countOf_4 (S : Sp) (Φ : Rs) (v : Kt) (l0 : Int32) (l1 : Int32) (l2 : Int32) (σ : St) : Prop := ((31 : Int32) ≤ l2 → (Φ [aI l1] σ)) ∧ (¬ ((31 : Int32) ≤ l2) → (v 4 [some (aI l0), some (aI (l1 + ((l0 >>> (l2 &&& 31)) &&& 1))), some (aI (l2 + 1))] [] σ))
theorem w_X9_countOf_4 {S : Sp} (hS : Sys S) {Φ : Rs} {v : Kt} (hv : Cl S Φ k_X9_countOf v) (hw : Wk v) (l0 : Int32) (l1 : Int32) (l2 : Int32) (σ : St) (h : vc_X9_countOf_4 S Φ v l0 l1 l2 σ) : v 4 [some (aI l0), some (aI l1), some (aI l2)] [] σ := by
  unfold vc_X9_countOf_4 at h
  refine r_iload_n (pc := 4) hv 4 rfl rfl ?_
  refine r_bipush (pc := 5) hv 5 rfl  ?_
  refine r_icmp_ge (pc := 7) hv 6 rfl (fun c => ?_) (fun c => ?_)
  · replace h := h.1 c
    refine r_iload_n (pc := 24) hv 17 rfl rfl ?_
    exact r_ireturn (pc := 25) hv 18 rfl rfl h
  · replace h := h.2 c
    refine r_iload_n (pc := 10) hv 7 rfl rfl ?_
    refine r_iload_n (pc := 11) hv 8 rfl rfl ?_
    refine r_iload_n (pc := 12) hv 9 rfl rfl ?_
    refine r_ishr (pc := 13) hv 10 rfl  ?_
    refine r_iconst (pc := 14) hv 11 rfl  ?_
    refine r_iand (pc := 15) hv 12 rfl  ?_
    refine r_iadd (pc := 16) hv 13 rfl  ?_
    refine r_istore_n (pc := 17) (lo' := [some (aI l0), some (aI (l1 + ((l0 >>> (l2 &&& 31)) &&& 1))), some (aI l2)]) hv 14 rfl rfl ?_
    refine r_iinc (pc := 18) (lo' := [some (aI l0), some (aI (l1 + ((l0 >>> (l2 &&& 31)) &&& 1))), some (aI (l2 + 1))]) hv 15 rfl rfl rfl ?_
    refine r_goto (pc := 21) hv 16 rfl  ?_
    exact h
def vc_X9_countOf_0 (S : Sp) (Φ : Rs) (v : Kt) (l0 : Int32) (σ : St) : Prop := v 4 [some (aI l0), some (aI 0), some (aI 0)] [] σ
theorem w_X9_countOf_0 {S : Sp} (hS : Sys S) {Φ : Rs} {v : Kt} (hv : Cl S Φ k_X9_countOf v) (hw : Wk v) (l0 : Int32) (σ : St) (h : vc_X9_countOf_0 S Φ v l0 σ) : v 0 [some (aI l0), none, none] [] σ := by
  unfold vc_X9_countOf_0 at h
  refine r_iconst (pc := 0) hv 0 rfl  ?_
  refine r_istore_n (pc := 1) (lo' := [some (aI l0), some (aI 0), none]) hv 1 rfl rfl ?_
  refine r_iconst (pc := 2) hv 2 rfl  ?_
  refine r_istore_n (pc := 3) (lo' := [some (aI l0), some (aI 0), some (aI 0)]) hv 3 rfl rfl ?_
  exact h
theorem m_X9_countOf {S : Sp} (hS : Sys S) {l0 : Int32} {σ : St} {Φ : Rs} (h : ∀ v : Kt, Cl S Φ k_X9_countOf v → Wk v → vc_X9_countOf_0 S Φ v l0 σ) : S 147 [aI l0] σ Φ :=
  hS.2 147 M_X9_countOf k_X9_countOf _ _ _ mkt_X9_countOf (Nat.le_of_ble_eq_true rfl) (fun v hv hw => w_X9_countOf_0 hS hv hw   l0 σ (h v hv hw))
def vc_X9_told_0 (S : Sp) (Φ : Rs) (v : Kt) (l1 : Int32) (σ : St) : Prop := (¬ (l1 : Int32) = 0 → ((¬ (l1 : Int32) = 1 → ((¬ (l1 : Int32) = 2 → (Φ [aI (σ.1 49 16)] σ)) ∧ ((l1 : Int32) = 2 → (Φ [aI (σ.1 49 15)] σ)))) ∧ ((l1 : Int32) = 1 → (Φ [aI (σ.1 49 14)] σ)))) ∧ ((l1 : Int32) = 0 → (Φ [aI (σ.1 49 13)] σ))
theorem w_X9_told_0 {S : Sp} (hS : Sys S) {Φ : Rs} {v : Kt} (hv : Cl S Φ k_X9_told v) (hw : Wk v) (l1 : Int32) (σ : St) (h : vc_X9_told_0 S Φ v l1 σ) : v 0 [some (aR 49), some (aI l1)] [] σ := by
  unfold vc_X9_told_0 at h
  refine r_iload_n (pc := 0) hv 0 rfl rfl ?_
  refine r_if_ne (pc := 1) hv 1 rfl (fun c => ?_) (fun c => ?_)
  · replace h := h.1 c
    refine r_iload_n (pc := 11) hv 5 rfl rfl ?_
    refine r_iconst (pc := 12) hv 6 rfl  ?_
    refine r_icmp_ne (pc := 13) hv 7 rfl (fun c => ?_) (fun c => ?_)
    · replace h := h.1 c
      refine r_iload_n (pc := 23) hv 11 rfl rfl ?_
      refine r_iconst (pc := 24) hv 12 rfl  ?_
      refine r_icmp_ne (pc := 25) hv 13 rfl (fun c => ?_) (fun c => ?_)
      · replace h := h.1 c
        refine r_aload_n (pc := 35) hv 17 rfl rfl ?_
        refine r_getI (pc := 36) hv 18 rfl rfl rfl ?_
        exact r_ireturn (pc := 39) hv 19 rfl rfl h
      · replace h := h.2 c
        refine r_aload_n (pc := 28) hv 14 rfl rfl ?_
        refine r_getI (pc := 29) hv 15 rfl rfl rfl ?_
        refine r_goto (pc := 32) hv 16 rfl  ?_
        exact r_ireturn (pc := 39) hv 19 rfl rfl h
    · replace h := h.2 c
      refine r_aload_n (pc := 16) hv 8 rfl rfl ?_
      refine r_getI (pc := 17) hv 9 rfl rfl rfl ?_
      refine r_goto (pc := 20) hv 10 rfl  ?_
      exact r_ireturn (pc := 39) hv 19 rfl rfl h
  · replace h := h.2 c
    refine r_aload_n (pc := 4) hv 2 rfl rfl ?_
    refine r_getI (pc := 5) hv 3 rfl rfl rfl ?_
    refine r_goto (pc := 8) hv 4 rfl  ?_
    exact r_ireturn (pc := 39) hv 19 rfl rfl h
theorem m_X9_told {S : Sp} (hS : Sys S) {l1 : Int32} {σ : St} {Φ : Rs} (h : ∀ v : Kt, Cl S Φ k_X9_told v → Wk v → vc_X9_told_0 S Φ v l1 σ) : S 197 [aR 49, aI l1] σ Φ :=
  hS.2 197 M_X9_told k_X9_told _ _ _ mkt_X9_told (Nat.le_of_ble_eq_true rfl) (fun v hv hw => w_X9_told_0 hS hv hw   l1 σ (h v hv hw))
end
section
theorem vp_in_b {x : Int32} {n : Nat} {y : Int32} (hy : y.toInt = (n : Int)) (h1 : ¬ x < 0) (h2 : ¬ y ≤ x) : vp_in x n := by
  rw [vp_in_iff]
  rw [toI_lt] at h1
  rw [toI_le] at h2
  have h0 : (0 : Int32).toInt = 0 := rfl
  omega
theorem vp_in_c {x : Int32} {n : Nat} {y : Int32} (hy : y.toInt + 1 = (n : Int)) (h1 : ¬ x < 0) (h2 : ¬ y < x) : vp_in x n := by
  rw [vp_in_iff]
  rw [toI_lt] at h1 h2
  have h0 : (0 : Int32).toInt = 0 := rfl
  omega
def kFirst (k c : Int32) : Int32 := if k = 0 then c else if k = 1 then c / 2 + 1 else if k = 2 then (c + 1) / 2 else if k = 3 then (c + 1) / 2 * 2 else if k = 4 then (if 9 ≤ c / 2 + 1 then 9 else c / 2 + 1) else 0
def kSecond (k c : Int32) : Int32 := if k = 2 then c / 2 else if k = 3 then c / 2 * 2 else 0
def kNeeds (k b : Int32) : Int32 := if k = 0 then 2 * b else if k = 1 then 2 * b - 1 else if k = 2 then 2 * b else if k = 3 then 3 * b else if k = 4 then 3 * b else 0
def bitO (h : Int32) : Int32 := if h < 0 then 0 else if 20 ≤ h then 0 else 1 <<< (h &&& 31)
section LEAF
variable {S : Sp} {σ : St} {Φ : Rs}
set_option maxRecDepth 20000 in
set_option maxHeartbeats 4000000 in
theorem t_X1_firstLoad (hS : Sys S) {k c : Int32} (hk : Φ [aI (kFirst k c)] σ) : S 17 [aI k, aI c] σ Φ := by
  refine m_X1_firstLoad hS (fun v _ _ => ?_)
  unfold vc_X1_firstLoad_0
  unfold kFirst at hk
  refine ⟨fun a => ?_, fun a => ⟨fun b => ?_, fun b => ⟨fun d => ?_, fun d => ⟨fun e => ?_, fun e => ⟨fun f => ⟨fun g => ?_, fun g => ?_⟩, fun f => ?_⟩⟩⟩⟩⟩ <;> simp_all
set_option maxRecDepth 20000 in
set_option maxHeartbeats 4000000 in
theorem t_X1_secondLoad (hS : Sys S) {k c : Int32} (hk : Φ [aI (kSecond k c)] σ) : S 18 [aI k, aI c] σ Φ := by
  refine m_X1_secondLoad hS (fun v _ _ => ?_)
  unfold vc_X1_secondLoad_0
  unfold kSecond at hk
  refine ⟨fun a => ?_, fun a => ⟨fun b => ?_, fun b => ?_⟩⟩ <;> simp_all
set_option maxRecDepth 20000 in
set_option maxHeartbeats 4000000 in
theorem t_X1_needs (hS : Sys S) {k c : Int32} (hk : Φ [aI (kNeeds k c)] σ) : S 20 [aI k, aI c] σ Φ := by
  refine m_X1_needs hS (fun v _ _ => ?_)
  unfold vc_X1_needs_0
  unfold kNeeds at hk
  refine ⟨fun a => ?_, fun a => ⟨fun b => ?_, fun b => ⟨fun d => ?_, fun d => ⟨fun e => ?_, fun e => ⟨fun f => ?_, fun f => ?_⟩⟩⟩⟩⟩ <;> simp_all
set_option maxRecDepth 20000 in
set_option maxHeartbeats 4000000 in
theorem t_X8_bitOf (hS : Sys S) {h : Int32} (hk : Φ [aI (bitO h)] σ) : S 140 [aI h] σ Φ := by
  refine m_X8_bitOf hS (fun v _ _ => ?_)
  unfold bitO at hk
  refine ⟨fun a => ?_, fun a => ⟨fun b => ?_, fun b => ?_⟩⟩
  · rw [if_pos a] at hk; exact hk
  · rw [if_neg a, if_pos b] at hk; exact hk
  · rw [if_neg a, if_neg b] at hk; exact hk
set_option maxRecDepth 20000 in
set_option maxHeartbeats 4000000 in
theorem t_X8_hasBit (hS : Sys S) {s h : Int32} (hk : Φ [aI (b2 (¬ h < 0 ∧ ¬ 20 ≤ h ∧ ¬ (s >>> (h &&& 31)) &&& 1 = 0))] σ) : S 141 [aI s, aI h] σ Φ := by
  refine m_X8_hasBit hS (fun v _ _ => ?_)
  refine ⟨fun a => ?_, fun a => ⟨fun b => ?_, fun b => ⟨fun d => ?_, fun d => ?_⟩⟩⟩
  · rw [b2_f (fun q => q.1 a)] at hk; exact hk
  · rw [b2_f (fun q => q.2.1 b)] at hk; exact hk
  · rw [b2_f (fun q => q.2.2 d)] at hk; exact hk
  · rw [b2_t ⟨a, b, d⟩] at hk; exact hk
set_option maxRecDepth 20000 in
set_option maxHeartbeats 4000000 in
theorem t_X8_isHarm (hS : Sys S) {h : Int32} (hk : Φ [aI (b2 (¬ h < 0 ∧ ¬ 3 < h))] σ) : S 137 [aI h] σ Φ := by
  refine m_X8_isHarm hS (fun v _ _ => ?_)
  refine ⟨fun a => ?_, fun a => ⟨fun b => ?_, fun b => ?_⟩⟩
  · rw [b2_f (fun q => q.1 a)] at hk; exact hk
  · rw [b2_f (fun q => q.2 b)] at hk; exact hk
  · rw [b2_t ⟨a, b⟩] at hk; exact hk
set_option maxRecDepth 20000 in
set_option maxHeartbeats 4000000 in
theorem t_X2_isHole (hS : Sys S) {p : Nat} (h_p : isPat p) {h : Int32} (hk : Φ [aI (b2 (¬ h < 0 ∧ ¬ σ.1 p 3 ≤ h))] σ) : S 25 [aR p, aI h] σ Φ := by
  refine m_X2_isHole hS h_p (fun v _ _ => ?_)
  refine ⟨fun a => ?_, fun a => ⟨fun b => ?_, fun b => ?_⟩⟩
  · rw [b2_f (fun q => q.1 a)] at hk; exact hk
  · rw [b2_f (fun q => q.2 b)] at hk; exact hk
  · rw [b2_t ⟨a, b⟩] at hk; exact hk
set_option maxRecDepth 20000 in
set_option maxHeartbeats 4000000 in
theorem t_X2_isWire (hS : Sys S) {p : Nat} (h_p : isPat p) {h : Int32} (hk : Φ [aI (b2 (¬ h < 0 ∧ ¬ σ.1 p 4 ≤ h))] σ) : S 26 [aR p, aI h] σ Φ := by
  refine m_X2_isWire hS h_p (fun v _ _ => ?_)
  refine ⟨fun a => ?_, fun a => ⟨fun b => ?_, fun b => ?_⟩⟩
  · rw [b2_f (fun q => q.1 a)] at hk; exact hk
  · rw [b2_f (fun q => q.2 b)] at hk; exact hk
  · rw [b2_t ⟨a, b⟩] at hk; exact hk
set_option maxRecDepth 20000 in
set_option maxHeartbeats 4000000 in
theorem t_X2_mark (hS : Sys S) {p : Nat} (h_p : isPat p) {h w : Int32} (hi : vp_in (h * 9 + w) 180) (hk : Φ [aI (σ.1 (p + 1) (h * 9 + w).toNatClampNeg)] σ) : S 27 [aR p, aI h, aI w] σ Φ := m_X2_mark hS h_p (fun v _ _ => ⟨hi, hk⟩)
set_option maxRecDepth 20000 in
set_option maxHeartbeats 4000000 in
theorem t_X2_cord (hS : Sys S) {p : Nat} (h_p : isPat p) {h w : Int32} (hi : vp_in (h * 3 + w) 120) (hk : Φ [aI (σ.1 (p + 2) (h * 3 + w).toNatClampNeg)] σ) : S 28 [aR p, aI h, aI w] σ Φ := m_X2_cord hS h_p (fun v _ _ => ⟨hi, hk⟩)
set_option maxRecDepth 20000 in
set_option maxHeartbeats 4000000 in
theorem t_X2_fits (hS : Sys S) {w x : Int32} (hk : Φ [aI (b2 (¬ w < 0 ∧ ¬ 6 < w ∧ ¬ x < sv 101 w.toNatClampNeg ∧ ¬ sv 102 w.toNatClampNeg < x))] σ) : S 24 [aI w, aI x] σ Φ := by
  refine m_X2_fits hS (fun v _ _ => ?_)
  refine ⟨fun a => ?_, fun a => ⟨fun b => ?_, fun b => ⟨vp_in_c rfl a b, fun d => ?_, fun d => ⟨vp_in_c rfl a b, fun e => ?_, fun e => ?_⟩⟩⟩⟩
  · rw [b2_f (fun q => q.1 a)] at hk; exact hk
  · rw [b2_f (fun q => q.2.1 b)] at hk; exact hk
  · rw [b2_f (fun q => q.2.2.1 d)] at hk; exact hk
  · rw [b2_f (fun q => q.2.2.2 e)] at hk; exact hk
  · rw [b2_t ⟨a, b, d, e⟩] at hk; exact hk
set_option maxRecDepth 20000 in
set_option maxHeartbeats 4000000 in
theorem t_X6_isList (hS : Sys S) {h : Int32} (hk : Φ [aI (b2 (¬ h < 0 ∧ ¬ 4 ≤ h))] σ) : S 75 [aI h] σ Φ := by
  refine m_X6_isList hS (fun v _ _ => ?_)
  refine ⟨fun a => ?_, fun a => ⟨fun b => ?_, fun b => ?_⟩⟩
  · rw [b2_f (fun q => q.1 a)] at hk; exact hk
  · rw [b2_f (fun q => q.2 b)] at hk; exact hk
  · rw [b2_t ⟨a, b⟩] at hk; exact hk
set_option maxRecDepth 20000 in
set_option maxHeartbeats 4000000 in
theorem t_X6_isMissing (hS : Sys S) {h : Int32} (hi : vp_in h 4) (hk : Φ [aI (b2 (σ.1 47 h.toNatClampNeg = -1))] σ) : S 76 [aR 41, aI h] σ Φ := by
  refine m_X6_isMissing hS (fun v _ _ => ⟨hi, fun a => ?_, fun a => ?_⟩)
  · rw [b2_f a] at hk; exact hk
  · rw [b2_t a] at hk; exact hk
set_option maxRecDepth 20000 in
set_option maxHeartbeats 4000000 in
theorem t_X6_hasPlace (hS : Sys S) {h w : Int32} (hi : vp_in h 4) (hk : Φ [aI (b2 (¬ w < 0 ∧ ¬ σ.1 47 h.toNatClampNeg ≤ w))] σ) : S 77 [aR 41, aI h, aI w] σ Φ := by
  refine m_X6_hasPlace hS (fun v _ _ => ⟨fun a => ?_, fun a => ⟨hi, fun b => ?_, fun b => ?_⟩⟩)
  · rw [b2_f (fun q => q.1 a)] at hk; exact hk
  · rw [b2_f (fun q => q.2 b)] at hk; exact hk
  · rw [b2_t ⟨a, b⟩] at hk; exact hk
set_option maxRecDepth 20000 in
set_option maxHeartbeats 4000000 in
theorem t_X6_hasSpan (hS : Sys S) {h w n : Int32} (hi : vp_in h 4) (hk : Φ [aI (b2 (¬ w < 0 ∧ ¬ n < 0 ∧ ¬ σ.1 47 h.toNatClampNeg < w ∧ ¬ σ.1 47 h.toNatClampNeg - w < n))] σ) : S 78 [aR 41, aI h, aI w, aI n] σ Φ := by
  refine m_X6_hasSpan hS (fun v _ _ => ⟨fun a => ?_, fun a => ⟨fun b => ?_, fun b => ⟨hi, fun d => ?_, fun d => ⟨hi, fun e => ?_, fun e => ?_⟩⟩⟩⟩)
  · rw [b2_f (fun q => q.1 a)] at hk; exact hk
  · rw [b2_f (fun q => q.2.1 b)] at hk; exact hk
  · rw [b2_f (fun q => q.2.2.1 d)] at hk; exact hk
  · rw [b2_f (fun q => q.2.2.2 e)] at hk; exact hk
  · rw [b2_t ⟨a, b, d, e⟩] at hk; exact hk
theorem lg_lt (x y : Int64) : (lg_cmp x y < 0) ↔ x < y := by
  rw [← Int32.not_le, lg_cmp_ge, Int64.not_le]
theorem lg_gt (x y : Int64) : (0 < lg_cmp x y) ↔ y < x := by
  unfold lg_cmp
  by_cases h : x > y
  · rw [if_pos h]; exact ⟨fun _ => h, fun _ => by decide⟩
  · rw [if_neg h]
    by_cases e : x = y
    · rw [if_pos e]; exact ⟨fun q => absurd q (by decide), fun q => absurd q h⟩
    · rw [if_neg e]; exact ⟨fun q => absurd q (by decide), fun q => absurd q h⟩
set_option maxRecDepth 20000 in
set_option maxHeartbeats 4000000 in
theorem t_X9_in (hS : Sys S) {x a b : Int64} (hk : Φ [aI (b2 (a ≤ x ∧ x ≤ b))] σ) : S 143 [aL x, aL a, aL b] σ Φ := by
  refine m_X9_in hS (fun v _ _ => ⟨fun c => ?_, fun c => ⟨fun d => ?_, fun d => ?_⟩⟩)
  · rw [b2_f (fun q => absurd q.1 (Int64.not_le.mpr ((lg_lt _ _).mp c)))] at hk; exact hk
  · rw [b2_f (fun q => absurd q.2 (Int64.not_le.mpr ((lg_gt _ _).mp d)))] at hk; exact hk
  · rw [b2_t ⟨Int64.not_lt.mp (fun q => c ((lg_lt _ _).mpr q)), Int64.not_lt.mp (fun q => d ((lg_gt _ _).mpr q))⟩] at hk; exact hk
set_option maxRecDepth 20000 in
set_option maxHeartbeats 4000000 in
theorem t_X9_less (hS : Sys S) {x y : Int32} (hk : Φ [aI (if y ≤ x then y else x)] σ) : S 144 [aI x, aI y] σ Φ := by
  refine m_X9_less hS (fun v _ _ => ⟨fun c => ?_, fun c => ?_⟩)
  · rw [if_pos c] at hk; exact hk
  · rw [if_neg c] at hk; exact hk
set_option maxRecDepth 20000 in
set_option maxHeartbeats 4000000 in
theorem t_X9_its (hS : Sys S) {h w : Int32} (hi : vp_in (8 * h + w) 286) (hk : Φ [aI (σ.1 50 (8 * h + w).toNatClampNeg)] σ) : S 150 [aR 49, aI h, aI w] σ Φ := m_X9_its hS (fun v _ _ => ⟨hi, hk⟩)
set_option maxRecDepth 20000 in
set_option maxHeartbeats 4000000 in
theorem t_X9_wires (hS : Sys S) {h w : Int32} (hi : vp_in (160 + 3 * h + w) 286) (hk : Φ [aI (σ.1 50 (160 + 3 * h + w).toNatClampNeg)] σ) : S 151 [aR 49, aI h, aI w] σ Φ := m_X9_wires hS (fun v _ _ => ⟨hi, hk⟩)
set_option maxRecDepth 20000 in
set_option maxHeartbeats 4000000 in
theorem t_X9_has (hS : Sys S) {s k : Int32} (hk : Φ [aI (b2 ((s >>> (k &&& 31)) &&& 1 = 1))] σ) : S 173 [aR 49, aI s, aI k] σ Φ := by
  refine m_X9_has hS (fun v _ _ => ⟨fun a => ?_, fun a => ?_⟩)
  · rw [b2_f a] at hk; exact hk
  · rw [b2_t a] at hk; exact hk
end LEAF
end
section
def vc_X9_isHole_0 (S : Sp) (Φ : Rs) (v : Kt) (l1 : Int32) (σ : St) : Prop := vp_in 280 286 ∧ (Φ [aI (b2 ((0 : Int64) ≤ ((l1 : Int32).toInt64) ∧ ((l1 : Int32).toInt64 : Int64) ≤ (((σ.1 50 (280 : Int32).toNatClampNeg) - 1 : Int32).toInt64)))] σ)
theorem w_X9_isHole_0 {S : Sp} (hS : Sys S) {Φ : Rs} {v : Kt} (hv : Cl S Φ k_X9_isHole v) (hw : Wk v) (l1 : Int32) (σ : St) (h : vc_X9_isHole_0 S Φ v l1 σ) : v 0 [some (aR 49), some (aI l1)] [] σ := by
  unfold vc_X9_isHole_0 at h
  refine r_iload_n (pc := 0) hv 0 rfl rfl ?_
  refine r_i2l (pc := 1) hv 1 rfl  ?_
  refine r_lconst (pc := 2) hv 2 rfl  ?_
  refine r_aload_n (pc := 3) hv 3 rfl rfl ?_
  refine r_getR (pc := 4) (b := 50) hv 4 rfl rfl rfl rfl ?_
  refine r_sipush (pc := 7) hv 5 rfl  ?_
  refine r_iaload (pc := 10) (N := 286) hv 6 rfl rfl rfl (by decide) h.1 ?_
  replace h := h.2
  refine r_iconst (pc := 11) hv 7 rfl  ?_
  refine r_isub (pc := 12) hv 8 rfl  ?_
  refine r_i2l (pc := 13) hv 9 rfl  ?_
  refine r_callS (pc := 14) (l := [aL (((σ.1 50 (280 : Int32).toNatClampNeg) - 1 : Int32).toInt64), aL 0, aL ((l1 : Int32).toInt64)]) (av := [aL ((l1 : Int32).toInt64), aL 0, aL (((σ.1 50 (280 : Int32).toNatClampNeg) - 1 : Int32).toInt64)]) (t := []) hv 10 rfl (Or.inl rfl) rfl rfl rfl trivial (t_X9_in hS ?_)
  show v 17 [some (aR 49), some (aI l1)] [aI (b2 ((0 : Int64) ≤ ((l1 : Int32).toInt64) ∧ ((l1 : Int32).toInt64 : Int64) ≤ (((σ.1 50 (280 : Int32).toNatClampNeg) - 1 : Int32).toInt64)))] σ
  exact r_zreturn (pc := 17) hv 11 rfl rfl (b2_01 _) h
theorem m_X9_isHole {S : Sp} (hS : Sys S) {l1 : Int32} {σ : St} {Φ : Rs} (h : ∀ v : Kt, Cl S Φ k_X9_isHole v → Wk v → vc_X9_isHole_0 S Φ v l1 σ) : S 148 [aR 49, aI l1] σ Φ :=
  hS.2 148 M_X9_isHole k_X9_isHole _ _ _ mkt_X9_isHole (Nat.le_of_ble_eq_true rfl) (fun v hv hw => w_X9_isHole_0 hS hv hw   l1 σ (h v hv hw))
def vc_X9_isWire_0 (S : Sp) (Φ : Rs) (v : Kt) (l1 : Int32) (σ : St) : Prop := vp_in 281 286 ∧ (Φ [aI (b2 ((0 : Int64) ≤ ((l1 : Int32).toInt64) ∧ ((l1 : Int32).toInt64 : Int64) ≤ (((σ.1 50 (281 : Int32).toNatClampNeg) - 1 : Int32).toInt64)))] σ)
theorem w_X9_isWire_0 {S : Sp} (hS : Sys S) {Φ : Rs} {v : Kt} (hv : Cl S Φ k_X9_isWire v) (hw : Wk v) (l1 : Int32) (σ : St) (h : vc_X9_isWire_0 S Φ v l1 σ) : v 0 [some (aR 49), some (aI l1)] [] σ := by
  unfold vc_X9_isWire_0 at h
  refine r_iload_n (pc := 0) hv 0 rfl rfl ?_
  refine r_i2l (pc := 1) hv 1 rfl  ?_
  refine r_lconst (pc := 2) hv 2 rfl  ?_
  refine r_aload_n (pc := 3) hv 3 rfl rfl ?_
  refine r_getR (pc := 4) (b := 50) hv 4 rfl rfl rfl rfl ?_
  refine r_sipush (pc := 7) hv 5 rfl  ?_
  refine r_iaload (pc := 10) (N := 286) hv 6 rfl rfl rfl (by decide) h.1 ?_
  replace h := h.2
  refine r_iconst (pc := 11) hv 7 rfl  ?_
  refine r_isub (pc := 12) hv 8 rfl  ?_
  refine r_i2l (pc := 13) hv 9 rfl  ?_
  refine r_callS (pc := 14) (l := [aL (((σ.1 50 (281 : Int32).toNatClampNeg) - 1 : Int32).toInt64), aL 0, aL ((l1 : Int32).toInt64)]) (av := [aL ((l1 : Int32).toInt64), aL 0, aL (((σ.1 50 (281 : Int32).toNatClampNeg) - 1 : Int32).toInt64)]) (t := []) hv 10 rfl (Or.inl rfl) rfl rfl rfl trivial (t_X9_in hS ?_)
  show v 17 [some (aR 49), some (aI l1)] [aI (b2 ((0 : Int64) ≤ ((l1 : Int32).toInt64) ∧ ((l1 : Int32).toInt64 : Int64) ≤ (((σ.1 50 (281 : Int32).toNatClampNeg) - 1 : Int32).toInt64)))] σ
  exact r_zreturn (pc := 17) hv 11 rfl rfl (b2_01 _) h
theorem m_X9_isWire {S : Sp} (hS : Sys S) {l1 : Int32} {σ : St} {Φ : Rs} (h : ∀ v : Kt, Cl S Φ k_X9_isWire v → Wk v → vc_X9_isWire_0 S Φ v l1 σ) : S 149 [aR 49, aI l1] σ Φ :=
  hS.2 149 M_X9_isWire k_X9_isWire _ _ _ mkt_X9_isWire (Nat.le_of_ble_eq_true rfl) (fun v hv hw => w_X9_isWire_0 hS hv hw   l1 σ (h v hv hw))
def vc_X9_isList_0 (S : Sp) (Φ : Rs) (v : Kt) (l0 : Int32) (σ : St) : Prop := Φ [aI (b2 ((0 : Int64) ≤ ((l0 : Int32).toInt64) ∧ ((l0 : Int32).toInt64 : Int64) ≤ 3))] σ
theorem w_X9_isList_0 {S : Sp} (hS : Sys S) {Φ : Rs} {v : Kt} (hv : Cl S Φ k_X9_isList v) (hw : Wk v) (l0 : Int32) (σ : St) (h : vc_X9_isList_0 S Φ v l0 σ) : v 0 [some (aI l0)] [] σ := by
  unfold vc_X9_isList_0 at h
  refine r_iload_n (pc := 0) hv 0 rfl rfl ?_
  refine r_i2l (pc := 1) hv 1 rfl  ?_
  refine r_lconst (pc := 2) hv 2 rfl  ?_
  refine r_ldc2_w (pc := 3) hv 3 rfl  ?_
  refine r_callS (pc := 6) (l := [aL 3, aL 0, aL ((l0 : Int32).toInt64)]) (av := [aL ((l0 : Int32).toInt64), aL 0, aL 3]) (t := []) hv 4 rfl (Or.inl rfl) rfl rfl rfl trivial (t_X9_in hS ?_)
  show v 9 [some (aI l0)] [aI (b2 ((0 : Int64) ≤ ((l0 : Int32).toInt64) ∧ ((l0 : Int32).toInt64 : Int64) ≤ 3))] σ
  exact r_zreturn (pc := 9) hv 5 rfl rfl (b2_01 _) h
theorem m_X9_isList {S : Sp} (hS : Sys S) {l0 : Int32} {σ : St} {Φ : Rs} (h : ∀ v : Kt, Cl S Φ k_X9_isList v → Wk v → vc_X9_isList_0 S Φ v l0 σ) : S 226 [aI l0] σ Φ :=
  hS.2 226 M_X9_isList k_X9_isList _ _ _ mkt_X9_isList (Nat.le_of_ble_eq_true rfl) (fun v hv hw => w_X9_isList_0 hS hv hw   l0 σ (h v hv hw))
def vc_X9_isDead_0 (S : Sp) (Φ : Rs) (v : Kt) (l1 : Int32) (σ : St) : Prop := vp_in (8 * l1 + 6) 286 ∧ ((¬ (σ.1 50 (8 * l1 + 6 : Int32).toNatClampNeg : Int32) = 1 → (Φ [aI 0] σ)) ∧ ((σ.1 50 (8 * l1 + 6 : Int32).toNatClampNeg : Int32) = 1 → (Φ [aI 1] σ)))
theorem w_X9_isDead_0 {S : Sp} (hS : Sys S) {Φ : Rs} {v : Kt} (hv : Cl S Φ k_X9_isDead v) (hw : Wk v) (l1 : Int32) (σ : St) (h : vc_X9_isDead_0 S Φ v l1 σ) : v 0 [some (aR 49), some (aI l1)] [] σ := by
  unfold vc_X9_isDead_0 at h
  refine r_aload_n (pc := 0) hv 0 rfl rfl ?_
  refine r_iload_n (pc := 1) hv 1 rfl rfl ?_
  refine r_bipush (pc := 2) hv 2 rfl  ?_
  refine r_callV (pc := 4) (l := [aI 6, aI l1]) (av := [aI l1, aI 6]) (a := 49) (t := []) hv 3 rfl rfl rfl rfl (rcv_o (by decide) rfl) trivial (t_X9_its hS h.1 ?_)
  replace h := h.2
  show v 7 [some (aR 49), some (aI l1)] [aI (σ.1 50 (8 * l1 + 6 : Int32).toNatClampNeg)] σ
  refine r_iconst (pc := 7) hv 4 rfl  ?_
  refine r_icmp_ne (pc := 8) hv 5 rfl (fun c => ?_) (fun c => ?_)
  · replace h := h.1 c
    refine r_iconst (pc := 15) hv 8 rfl  ?_
    exact r_zreturn (pc := 16) hv 9 rfl rfl (Or.inl rfl) h
  · replace h := h.2 c
    refine r_iconst (pc := 11) hv 6 rfl  ?_
    refine r_goto (pc := 12) hv 7 rfl  ?_
    exact r_zreturn (pc := 16) hv 9 rfl rfl (Or.inr rfl) h
theorem m_X9_isDead {S : Sp} (hS : Sys S) {l1 : Int32} {σ : St} {Φ : Rs} (h : ∀ v : Kt, Cl S Φ k_X9_isDead v → Wk v → vc_X9_isDead_0 S Φ v l1 σ) : S 152 [aR 49, aI l1] σ Φ :=
  hS.2 152 M_X9_isDead k_X9_isDead _ _ _ mkt_X9_isDead (Nat.le_of_ble_eq_true rfl) (fun v hv hw => w_X9_isDead_0 hS hv hw   l1 σ (h v hv hw))
def vc_X0_doesFire_0 (S : Sp) (Φ : Rs) (v : Kt) (b : Nat) (l1 : Int32) (σ : St) : Prop := Φ [aI (b2 (¬ (l1 : Int32) < 0 ∧ ¬ 20 ≤ (l1 : Int32) ∧ ¬ ((σ.1 b 4 : Int32) >>> (l1 &&& 31)) &&& 1 = 0))] σ
theorem w_X0_doesFire_0 {S : Sp} (hS : Sys S) {Φ : Rs} {v : Kt} (hv : Cl S Φ k_X0_doesFire v) (hw : Wk v) (b : Nat) (h_b : isBl b) (l1 : Int32) (σ : St) (h : vc_X0_doesFire_0 S Φ v b l1 σ) : v 0 [some (aR b), some (aI l1)] [] σ := by
  unfold vc_X0_doesFire_0 at h
  refine r_aload_n (pc := 0) hv 0 rfl rfl ?_
  refine r_getI (pc := 1) hv 1 rfl rfl (isBl_oc h_b) ?_
  refine r_iload_n (pc := 4) hv 2 rfl rfl ?_
  refine r_callS (pc := 5) (l := [aI l1, aI (σ.1 b 4)]) (av := [aI (σ.1 b 4), aI l1]) (t := []) hv 3 rfl (Or.inr rfl) rfl rfl rfl trivial (t_X8_hasBit hS ?_)
  show v 8 [some (aR b), some (aI l1)] [aI (b2 (¬ (l1 : Int32) < 0 ∧ ¬ 20 ≤ (l1 : Int32) ∧ ¬ ((σ.1 b 4 : Int32) >>> (l1 &&& 31)) &&& 1 = 0))] σ
  exact r_zreturn (pc := 8) hv 4 rfl rfl (b2_01 _) h
theorem m_X0_doesFire {S : Sp} (hS : Sys S) {b : Nat} (h_b : isBl b) {l1 : Int32} {σ : St} {Φ : Rs} (h : ∀ v : Kt, Cl S Φ k_X0_doesFire v → Wk v → vc_X0_doesFire_0 S Φ v b l1 σ) : S 6 [aR b, aI l1] σ Φ :=
  hS.2 6 M_X0_doesFire k_X0_doesFire _ _ _ mkt_X0_doesFire (Nat.le_of_ble_eq_true rfl) (fun v hv hw => w_X0_doesFire_0 hS hv hw b h_b l1 σ (h v hv hw))
def vc_X0_isBuried_0 (S : Sp) (Φ : Rs) (v : Kt) (b : Nat) (l1 : Int32) (σ : St) : Prop := Φ [aI (b2 (¬ (l1 : Int32) < 0 ∧ ¬ 20 ≤ (l1 : Int32) ∧ ¬ ((σ.1 b 5 : Int32) >>> (l1 &&& 31)) &&& 1 = 0))] σ
theorem w_X0_isBuried_0 {S : Sp} (hS : Sys S) {Φ : Rs} {v : Kt} (hv : Cl S Φ k_X0_isBuried v) (hw : Wk v) (b : Nat) (h_b : isBl b) (l1 : Int32) (σ : St) (h : vc_X0_isBuried_0 S Φ v b l1 σ) : v 0 [some (aR b), some (aI l1)] [] σ := by
  unfold vc_X0_isBuried_0 at h
  refine r_aload_n (pc := 0) hv 0 rfl rfl ?_
  refine r_getI (pc := 1) hv 1 rfl rfl (isBl_oc h_b) ?_
  refine r_iload_n (pc := 4) hv 2 rfl rfl ?_
  refine r_callS (pc := 5) (l := [aI l1, aI (σ.1 b 5)]) (av := [aI (σ.1 b 5), aI l1]) (t := []) hv 3 rfl (Or.inr rfl) rfl rfl rfl trivial (t_X8_hasBit hS ?_)
  show v 8 [some (aR b), some (aI l1)] [aI (b2 (¬ (l1 : Int32) < 0 ∧ ¬ 20 ≤ (l1 : Int32) ∧ ¬ ((σ.1 b 5 : Int32) >>> (l1 &&& 31)) &&& 1 = 0))] σ
  exact r_zreturn (pc := 8) hv 4 rfl rfl (b2_01 _) h
theorem m_X0_isBuried {S : Sp} (hS : Sys S) {b : Nat} (h_b : isBl b) {l1 : Int32} {σ : St} {Φ : Rs} (h : ∀ v : Kt, Cl S Φ k_X0_isBuried v → Wk v → vc_X0_isBuried_0 S Φ v b l1 σ) : S 7 [aR b, aI l1] σ Φ :=
  hS.2 7 M_X0_isBuried k_X0_isBuried _ _ _ mkt_X0_isBuried (Nat.le_of_ble_eq_true rfl) (fun v hv hw => w_X0_isBuried_0 hS hv hw b h_b l1 σ (h v hv hw))
def vc_X8_lostBy_0 (S : Sp) (Φ : Rs) (v : Kt) (l1 : Int32) (σ : St) : Prop := Φ [aI (((σ.1 13 4) &&& ((σ.1 20 4) ^^^ (-1))) &&& ((bitO l1) ^^^ (-1)))] σ
theorem w_X8_lostBy_0 {S : Sp} (hS : Sys S) {Φ : Rs} {v : Kt} (hv : Cl S Φ k_X8_lostBy v) (hw : Wk v) (l1 : Int32) (σ : St) (h : vc_X8_lostBy_0 S Φ v l1 σ) : v 0 [some (aR 0), some (aI l1)] [] σ := by
  unfold vc_X8_lostBy_0 at h
  refine r_aload_n (pc := 0) hv 0 rfl rfl ?_
  refine r_getR (pc := 1) (b := 13) hv 1 rfl rfl rfl rfl ?_
  refine r_getI (pc := 4) hv 2 rfl rfl rfl ?_
  refine r_aload_n (pc := 7) hv 3 rfl rfl ?_
  refine r_getR (pc := 8) (b := 20) hv 4 rfl rfl rfl rfl ?_
  refine r_getI (pc := 11) hv 5 rfl rfl rfl ?_
  refine r_iconst (pc := 14) hv 6 rfl  ?_
  refine r_ixor (pc := 15) hv 7 rfl  ?_
  refine r_iand (pc := 16) hv 8 rfl  ?_
  refine r_iload_n (pc := 17) hv 9 rfl rfl ?_
  refine r_callS (pc := 18) (l := [aI l1]) (av := [aI l1]) (t := [aI ((σ.1 13 4) &&& ((σ.1 20 4) ^^^ (-1)))]) hv 10 rfl (Or.inl rfl) rfl rfl rfl trivial (t_X8_bitOf hS ?_)
  show v 21 [some (aR 0), some (aI l1)] [aI (bitO l1), aI ((σ.1 13 4) &&& ((σ.1 20 4) ^^^ (-1)))] σ
  refine r_iconst (pc := 21) hv 11 rfl  ?_
  refine r_ixor (pc := 22) hv 12 rfl  ?_
  refine r_iand (pc := 23) hv 13 rfl  ?_
  exact r_ireturn (pc := 24) hv 14 rfl rfl h
theorem m_X8_lostBy {S : Sp} (hS : Sys S) {l1 : Int32} {σ : St} {Φ : Rs} (h : ∀ v : Kt, Cl S Φ k_X8_lostBy v → Wk v → vc_X8_lostBy_0 S Φ v l1 σ) : S 135 [aR 0, aI l1] σ Φ :=
  hS.2 135 M_X8_lostBy k_X8_lostBy _ _ _ mkt_X8_lostBy (Nat.le_of_ble_eq_true rfl) (fun v hv hw => w_X8_lostBy_0 hS hv hw   l1 σ (h v hv hw))
def vc_X8_bared_0 (S : Sp) (Φ : Rs) (v : Kt) (σ : St) : Prop := Φ [aI ((σ.1 20 5) &&& ((σ.1 13 5) ^^^ (-1)))] σ
theorem w_X8_bared_0 {S : Sp} (hS : Sys S) {Φ : Rs} {v : Kt} (hv : Cl S Φ k_X8_bared v) (hw : Wk v) (σ : St) (h : vc_X8_bared_0 S Φ v  σ) : v 0 [some (aR 0)] [] σ := by
  unfold vc_X8_bared_0 at h
  refine r_aload_n (pc := 0) hv 0 rfl rfl ?_
  refine r_getR (pc := 1) (b := 20) hv 1 rfl rfl rfl rfl ?_
  refine r_getI (pc := 4) hv 2 rfl rfl rfl ?_
  refine r_aload_n (pc := 7) hv 3 rfl rfl ?_
  refine r_getR (pc := 8) (b := 13) hv 4 rfl rfl rfl rfl ?_
  refine r_getI (pc := 11) hv 5 rfl rfl rfl ?_
  refine r_iconst (pc := 14) hv 6 rfl  ?_
  refine r_ixor (pc := 15) hv 7 rfl  ?_
  refine r_iand (pc := 16) hv 8 rfl  ?_
  exact r_ireturn (pc := 17) hv 9 rfl rfl h
theorem m_X8_bared {S : Sp} (hS : Sys S) {σ : St} {Φ : Rs} (h : ∀ v : Kt, Cl S Φ k_X8_bared v → Wk v → vc_X8_bared_0 S Φ v  σ) : S 136 [aR 0] σ Φ :=
  hS.2 136 M_X8_bared k_X8_bared _ _ _ mkt_X8_bared (Nat.le_of_ble_eq_true rfl) (fun v hv hw => w_X8_bared_0 hS hv hw    σ (h v hv hw))
def vc_X2_hasShots_0 (S : Sp) (Φ : Rs) (v : Kt) (p : Nat) (l1 : Int32) (σ : St) : Prop := vp_in (l1 * 9 + 2) 180 ∧ (((σ.1 (p + 1) (l1 * 9 + 2 : Int32).toNatClampNeg : Int32) = 5 → (Φ [aI 0] σ)) ∧ (¬ ((σ.1 (p + 1) (l1 * 9 + 2 : Int32).toNatClampNeg : Int32) = 5) → (Φ [aI 1] σ)))
theorem w_X2_hasShots_0 {S : Sp} (hS : Sys S) {Φ : Rs} {v : Kt} (hv : Cl S Φ k_X2_hasShots v) (hw : Wk v) (p : Nat) (h_p : isPat p) (l1 : Int32) (σ : St) (h : vc_X2_hasShots_0 S Φ v p l1 σ) : v 0 [some (aR p), some (aI l1)] [] σ := by
  unfold vc_X2_hasShots_0 at h
  refine r_aload_n (pc := 0) hv 0 rfl rfl ?_
  refine r_iload_n (pc := 1) hv 1 rfl rfl ?_
  refine r_iconst (pc := 2) hv 2 rfl  ?_
  refine r_callV (pc := 3) (l := [aI 2, aI l1]) (av := [aI l1, aI 2]) (a := p) (t := []) hv 3 rfl rfl rfl rfl (rcv_o (by decide) (isPat_oc h_p)) trivial (t_X2_mark hS h_p h.1 ?_)
  replace h := h.2
  show v 6 [some (aR p), some (aI l1)] [aI (σ.1 (p + 1) (l1 * 9 + 2 : Int32).toNatClampNeg)] σ
  refine r_iconst (pc := 6) hv 4 rfl  ?_
  refine r_icmp_eq (pc := 7) hv 5 rfl (fun c => ?_) (fun c => ?_)
  · replace h := h.1 c
    refine r_iconst (pc := 14) hv 8 rfl  ?_
    exact r_zreturn (pc := 15) hv 9 rfl rfl (Or.inl rfl) h
  · replace h := h.2 c
    refine r_iconst (pc := 10) hv 6 rfl  ?_
    refine r_goto (pc := 11) hv 7 rfl  ?_
    exact r_zreturn (pc := 15) hv 9 rfl rfl (Or.inr rfl) h
theorem m_X2_hasShots {S : Sp} (hS : Sys S) {p : Nat} (h_p : isPat p) {l1 : Int32} {σ : St} {Φ : Rs} (h : ∀ v : Kt, Cl S Φ k_X2_hasShots v → Wk v → vc_X2_hasShots_0 S Φ v p l1 σ) : S 44 [aR p, aI l1] σ Φ :=
  hS.2 44 M_X2_hasShots k_X2_hasShots _ _ _ mkt_X2_hasShots (Nat.le_of_ble_eq_true rfl) (fun v hv hw => w_X2_hasShots_0 hS hv hw p h_p l1 σ (h v hv hw))
end
section
section LEAF2
variable {S : Sp} {σ : St} {Φ : Rs}
theorem t_X0_canLayOut (hS : Sys S) {h : Int32} (hk : Φ [aI (b2 (¬ h < 0 ∧ ¬ 3 ≤ h))] σ) : S 14 [aI h] σ Φ := by
  refine m_X0_canLayOut hS (fun v _ _ => ?_)
  refine ⟨fun a => ?_, fun a => ⟨fun b => ?_, fun b => ?_⟩⟩
  · rw [b2_f (fun q => q.1 a)] at hk; exact hk
  · rw [b2_f (fun q => q.2 b)] at hk; exact hk
  · rw [b2_t ⟨a, b⟩] at hk; exact hk
theorem t_X9_isHole (hS : Sys S) {l1 : Int32} (hk : Φ [aI (b2 ((0 : Int64) ≤ l1.toInt64 ∧ l1.toInt64 ≤ (σ.1 50 (280 : Int32).toNatClampNeg - 1 : Int32).toInt64))] σ) : S 148 [aR 49, aI l1] σ Φ := m_X9_isHole hS (fun _ _ _ => ⟨by rw [vp_in_iff]; decide, hk⟩)
theorem t_X9_isWire (hS : Sys S) {l1 : Int32} (hk : Φ [aI (b2 ((0 : Int64) ≤ l1.toInt64 ∧ l1.toInt64 ≤ (σ.1 50 (281 : Int32).toNatClampNeg - 1 : Int32).toInt64))] σ) : S 149 [aR 49, aI l1] σ Φ := m_X9_isWire hS (fun _ _ _ => ⟨by rw [vp_in_iff]; decide, hk⟩)
theorem t_X9_isList (hS : Sys S) {l1 : Int32} (hk : Φ [aI (b2 ((0 : Int64) ≤ l1.toInt64 ∧ l1.toInt64 ≤ 3))] σ) : S 226 [aI l1] σ Φ := m_X9_isList hS (fun _ _ _ => hk)
theorem t_X9_isDead (hS : Sys S) {l1 : Int32} (hi : vp_in (8 * l1 + 6) 286) (hk : Φ [aI (b2 (σ.1 50 (8 * l1 + 6 : Int32).toNatClampNeg = 1))] σ) : S 152 [aR 49, aI l1] σ Φ := by
  refine m_X9_isDead hS (fun _ _ _ => ⟨hi, fun a => ?_, fun a => ?_⟩)
  · rw [b2_f a] at hk; exact hk
  · rw [b2_t a] at hk; exact hk
theorem t_X0_doesFire (hS : Sys S) {b : Nat} (h_b : isBl b) {l1 : Int32} (hk : Φ [aI (b2 (¬ l1 < 0 ∧ ¬ 20 ≤ l1 ∧ ¬ ((σ.1 b 4) >>> (l1 &&& 31)) &&& 1 = 0))] σ) : S 6 [aR b, aI l1] σ Φ := m_X0_doesFire hS h_b (fun _ _ _ => hk)
theorem t_X0_isBuried (hS : Sys S) {b : Nat} (h_b : isBl b) {l1 : Int32} (hk : Φ [aI (b2 (¬ l1 < 0 ∧ ¬ 20 ≤ l1 ∧ ¬ ((σ.1 b 5) >>> (l1 &&& 31)) &&& 1 = 0))] σ) : S 7 [aR b, aI l1] σ Φ := m_X0_isBuried hS h_b (fun _ _ _ => hk)
theorem t_X8_lostBy (hS : Sys S) {l1 : Int32} (hk : Φ [aI (((σ.1 13 4) &&& ((σ.1 20 4) ^^^ (-1))) &&& ((bitO l1) ^^^ (-1)))] σ) : S 135 [aR 0, aI l1] σ Φ := m_X8_lostBy hS (fun _ _ _ => hk)
theorem t_X8_bared (hS : Sys S) (hk : Φ [aI ((σ.1 20 5) &&& ((σ.1 13 5) ^^^ (-1)))] σ) : S 136 [aR 0] σ Φ := m_X8_bared hS (fun _ _ _ => hk)
theorem t_X2_hasShots (hS : Sys S) {p : Nat} (h_p : isPat p) {l1 : Int32} (hi : vp_in (l1 * 9 + 2) 180) (hk : Φ [aI (b2 (¬ σ.1 (p + 1) (l1 * 9 + 2 : Int32).toNatClampNeg = 5))] σ) : S 44 [aR p, aI l1] σ Φ := by
  refine m_X2_hasShots hS h_p (fun _ _ _ => ⟨hi, fun a => ?_, fun a => ?_⟩)
  · rw [b2_f (fun q => q a)] at hk; exact hk
  · rw [b2_t a] at hk; exact hk
end LEAF2
end
