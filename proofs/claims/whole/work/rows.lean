section
/-- a private method of a class that the tables say can be made, by its rows of tables_1 -/
def lw_okq (q : MethodName × Nat) : Prop := (q.1.cls ≠ "java/lang/invoke/MethodHandle" ∧ q.1.cls ≠ "java/lang/invoke/VarHandle") ∧ Cond.instantiable q.1.cls q.2 ∈ tables_1 ∧ Cond.privateMethod q.1 ∈ tables_1 ∧ Cond.instanceMethod q.1 ∈ tables_1
theorem lw_p0 : lw_okq (⟨"BlastFace$Pattern", "markAhead", "(I)V"⟩, 6) := ⟨⟨by decide +kernel, by decide +kernel⟩, List.mem_of_getElem? (i := 28) (by decide +kernel), List.mem_of_getElem? (i := 325) (by decide +kernel), List.mem_of_getElem? (i := 326) (by decide +kernel)⟩
theorem lw_p1 : lw_okq (⟨"BlastFace$Pattern", "isAhead", "(II)Z"⟩, 6) := ⟨⟨by decide +kernel, by decide +kernel⟩, List.mem_of_getElem? (i := 28) (by decide +kernel), List.mem_of_getElem? (i := 329) (by decide +kernel), List.mem_of_getElem? (i := 330) (by decide +kernel)⟩
theorem lw_p2 : lw_okq (⟨"BlastFace$Pattern", "columnsOff", "(II)I"⟩, 6) := ⟨⟨by decide +kernel, by decide +kernel⟩, List.mem_of_getElem? (i := 28) (by decide +kernel), List.mem_of_getElem? (i := 333) (by decide +kernel), List.mem_of_getElem? (i := 334) (by decide +kernel)⟩
theorem lw_p3 : lw_okq (⟨"BlastFace", "settled", "(I)I"⟩, 15) := ⟨⟨by decide +kernel, by decide +kernel⟩, List.mem_of_getElem? (i := 20) (by decide +kernel), List.mem_of_getElem? (i := 343) (by decide +kernel), List.mem_of_getElem? (i := 344) (by decide +kernel)⟩
theorem lw_p4 : lw_okq (⟨"BlastFace", "forget", "()V"⟩, 15) := ⟨⟨by decide +kernel, by decide +kernel⟩, List.mem_of_getElem? (i := 20) (by decide +kernel), List.mem_of_getElem? (i := 347) (by decide +kernel), List.mem_of_getElem? (i := 348) (by decide +kernel)⟩
theorem lw_p5 : lw_okq (⟨"BlastFace", "reckoned", "()LBlastFace$Blast;"⟩, 15) := ⟨⟨by decide +kernel, by decide +kernel⟩, List.mem_of_getElem? (i := 20) (by decide +kernel), List.mem_of_getElem? (i := 427) (by decide +kernel), List.mem_of_getElem? (i := 428) (by decide +kernel)⟩
theorem lw_p6 : lw_okq (⟨"BlastFace$Blast", "findSignals", "(I)V"⟩, 7) := ⟨⟨by decide +kernel, by decide +kernel⟩, List.mem_of_getElem? (i := 70) (by decide +kernel), List.mem_of_getElem? (i := 439) (by decide +kernel), List.mem_of_getElem? (i := 440) (by decide +kernel)⟩
theorem lw_p7 : lw_okq (⟨"BlastFace$Blast", "findFiring", "()V"⟩, 7) := ⟨⟨by decide +kernel, by decide +kernel⟩, List.mem_of_getElem? (i := 70) (by decide +kernel), List.mem_of_getElem? (i := 454) (by decide +kernel), List.mem_of_getElem? (i := 455) (by decide +kernel)⟩
theorem lw_p8 : lw_okq (⟨"BlastFace$Blast", "findBuried", "()V"⟩, 7) := ⟨⟨by decide +kernel, by decide +kernel⟩, List.mem_of_getElem? (i := 70) (by decide +kernel), List.mem_of_getElem? (i := 464) (by decide +kernel), List.mem_of_getElem? (i := 465) (by decide +kernel)⟩
theorem lw_p9 : lw_okq (⟨"BlastFace$Shots", "insert", "(III)V"⟩, 7) := ⟨⟨by decide +kernel, by decide +kernel⟩, List.mem_of_getElem? (i := 76) (by decide +kernel), List.mem_of_getElem? (i := 493) (by decide +kernel), List.mem_of_getElem? (i := 494) (by decide +kernel)⟩
theorem lw_p10 : lw_okq (⟨"BlastFace$Shots", "weighAt", "(III)V"⟩, 7) := ⟨⟨by decide +kernel, by decide +kernel⟩, List.mem_of_getElem? (i := 76) (by decide +kernel), List.mem_of_getElem? (i := 502) (by decide +kernel), List.mem_of_getElem? (i := 503) (by decide +kernel)⟩
theorem lw_p11 : lw_okq (⟨"BlastFace$Blast", "rockOfIn", "(II)I"⟩, 7) := ⟨⟨by decide +kernel, by decide +kernel⟩, List.mem_of_getElem? (i := 70) (by decide +kernel), List.mem_of_getElem? (i := 599) (by decide +kernel), List.mem_of_getElem? (i := 600) (by decide +kernel)⟩
theorem lw_p12 : lw_okq (⟨"BlastFace", "harmTold", "(III)I"⟩, 15) := ⟨⟨by decide +kernel, by decide +kernel⟩, List.mem_of_getElem? (i := 20) (by decide +kernel), List.mem_of_getElem? (i := 629) (by decide +kernel), List.mem_of_getElem? (i := 630) (by decide +kernel)⟩
theorem lw_p13 : lw_okq (⟨"BlastFace", "think", "(II)V"⟩, 15) := ⟨⟨by decide +kernel, by decide +kernel⟩, List.mem_of_getElem? (i := 20) (by decide +kernel), List.mem_of_getElem? (i := 633) (by decide +kernel), List.mem_of_getElem? (i := 634) (by decide +kernel)⟩
theorem lw_p14 : lw_okq (⟨"BlastFace", "lostBy", "(I)I"⟩, 15) := ⟨⟨by decide +kernel, by decide +kernel⟩, List.mem_of_getElem? (i := 20) (by decide +kernel), List.mem_of_getElem? (i := 638) (by decide +kernel), List.mem_of_getElem? (i := 639) (by decide +kernel)⟩
theorem lw_p15 : lw_okq (⟨"BlastFace", "bared", "()I"⟩, 15) := ⟨⟨by decide +kernel, by decide +kernel⟩, List.mem_of_getElem? (i := 20) (by decide +kernel), List.mem_of_getElem? (i := 642) (by decide +kernel), List.mem_of_getElem? (i := 643) (by decide +kernel)⟩
def lw_privs_1 : List (MethodName × Nat) := [(⟨"BlastFace$Pattern", "markAhead", "(I)V"⟩, 6), (⟨"BlastFace$Pattern", "isAhead", "(II)Z"⟩, 6), (⟨"BlastFace$Pattern", "columnsOff", "(II)I"⟩, 6), (⟨"BlastFace", "settled", "(I)I"⟩, 15), (⟨"BlastFace", "forget", "()V"⟩, 15), (⟨"BlastFace", "reckoned", "()LBlastFace$Blast;"⟩, 15), (⟨"BlastFace$Blast", "findSignals", "(I)V"⟩, 7), (⟨"BlastFace$Blast", "findFiring", "()V"⟩, 7), (⟨"BlastFace$Blast", "findBuried", "()V"⟩, 7), (⟨"BlastFace$Shots", "insert", "(III)V"⟩, 7), (⟨"BlastFace$Shots", "weighAt", "(III)V"⟩, 7), (⟨"BlastFace$Blast", "rockOfIn", "(II)I"⟩, 7), (⟨"BlastFace", "harmTold", "(III)I"⟩, 15), (⟨"BlastFace", "think", "(II)V"⟩, 15), (⟨"BlastFace", "lostBy", "(I)I"⟩, 15), (⟨"BlastFace", "bared", "()I"⟩, 15)]
theorem lw_r1 : ∀ q ∈ lw_privs_1, lw_okq q := List.forall_mem_cons.mpr ⟨lw_p0, List.forall_mem_cons.mpr ⟨lw_p1, List.forall_mem_cons.mpr ⟨lw_p2, List.forall_mem_cons.mpr ⟨lw_p3, List.forall_mem_cons.mpr ⟨lw_p4, List.forall_mem_cons.mpr ⟨lw_p5, List.forall_mem_cons.mpr ⟨lw_p6, List.forall_mem_cons.mpr ⟨lw_p7, List.forall_mem_cons.mpr ⟨lw_p8, List.forall_mem_cons.mpr ⟨lw_p9, List.forall_mem_cons.mpr ⟨lw_p10, List.forall_mem_cons.mpr ⟨lw_p11, List.forall_mem_cons.mpr ⟨lw_p12, List.forall_mem_cons.mpr ⟨lw_p13, List.forall_mem_cons.mpr ⟨lw_p14, List.forall_mem_cons.mpr ⟨lw_p15, fun _ h => absurd h List.not_mem_nil⟩⟩⟩⟩⟩⟩⟩⟩⟩⟩⟩⟩⟩⟩⟩⟩
theorem lw_p16 : lw_okq (⟨"BlastFace", "mostHarmful", "(IZ)I"⟩, 15) := ⟨⟨by decide +kernel, by decide +kernel⟩, List.mem_of_getElem? (i := 20) (by decide +kernel), List.mem_of_getElem? (i := 654) (by decide +kernel), List.mem_of_getElem? (i := 655) (by decide +kernel)⟩
theorem lw_p17 : lw_okq (⟨"BlastFace", "drawn", "()LBlastFace$Planner;"⟩, 15) := ⟨⟨by decide +kernel, by decide +kernel⟩, List.mem_of_getElem? (i := 20) (by decide +kernel), List.mem_of_getElem? (i := 668) (by decide +kernel), List.mem_of_getElem? (i := 669) (by decide +kernel)⟩
theorem lw_p18 : lw_okq (⟨"BlastFace$Planner", "settle", "(I)V"⟩, 8) := ⟨⟨by decide +kernel, by decide +kernel⟩, List.mem_of_getElem? (i := 143) (by decide +kernel), List.mem_of_getElem? (i := 681) (by decide +kernel), List.mem_of_getElem? (i := 682) (by decide +kernel)⟩
theorem lw_p19 : lw_okq (⟨"BlastFace$Planner", "isQuiet", "(I)Z"⟩, 8) := ⟨⟨by decide +kernel, by decide +kernel⟩, List.mem_of_getElem? (i := 143) (by decide +kernel), List.mem_of_getElem? (i := 689) (by decide +kernel), List.mem_of_getElem? (i := 690) (by decide +kernel)⟩
theorem lw_p20 : lw_okq (⟨"BlastFace$Planner", "shakeWith", "(II)I"⟩, 8) := ⟨⟨by decide +kernel, by decide +kernel⟩, List.mem_of_getElem? (i := 143) (by decide +kernel), List.mem_of_getElem? (i := 693) (by decide +kernel), List.mem_of_getElem? (i := 694) (by decide +kernel)⟩
theorem lw_p21 : lw_okq (⟨"BlastFace$Reader", "parseStatement", "()Z"⟩, 9) := ⟨⟨by decide +kernel, by decide +kernel⟩, List.mem_of_getElem? (i := 195) (by decide +kernel), List.mem_of_getElem? (i := 729) (by decide +kernel), List.mem_of_getElem? (i := 730) (by decide +kernel)⟩
theorem lw_p22 : lw_okq (⟨"BlastFace$Reader", "nextToken", "()V"⟩, 9) := ⟨⟨by decide +kernel, by decide +kernel⟩, List.mem_of_getElem? (i := 195) (by decide +kernel), List.mem_of_getElem? (i := 733) (by decide +kernel), List.mem_of_getElem? (i := 734) (by decide +kernel)⟩
theorem lw_p23 : lw_okq (⟨"BlastFace$Reader", "verbHere", "()I"⟩, 9) := ⟨⟨by decide +kernel, by decide +kernel⟩, List.mem_of_getElem? (i := 195) (by decide +kernel), List.mem_of_getElem? (i := 740) (by decide +kernel), List.mem_of_getElem? (i := 741) (by decide +kernel)⟩
theorem lw_p24 : lw_okq (⟨"BlastFace$Reader", "isWordHere", "(Ljava/lang/String;)Z"⟩, 9) := ⟨⟨by decide +kernel, by decide +kernel⟩, List.mem_of_getElem? (i := 195) (by decide +kernel), List.mem_of_getElem? (i := 753) (by decide +kernel), List.mem_of_getElem? (i := 754) (by decide +kernel)⟩
theorem lw_p25 : lw_okq (⟨"BlastFace$Reader", "valueHere", "(C)I"⟩, 9) := ⟨⟨by decide +kernel, by decide +kernel⟩, List.mem_of_getElem? (i := 195) (by decide +kernel), List.mem_of_getElem? (i := 811) (by decide +kernel), List.mem_of_getElem? (i := 812) (by decide +kernel)⟩
theorem lw_p26 : lw_okq (⟨"BlastFace$Reader", "kindHere", "()I"⟩, 9) := ⟨⟨by decide +kernel, by decide +kernel⟩, List.mem_of_getElem? (i := 195) (by decide +kernel), List.mem_of_getElem? (i := 815) (by decide +kernel), List.mem_of_getElem? (i := 816) (by decide +kernel)⟩
theorem lw_p27 : lw_okq (⟨"BlastFace$Reader", "numberHere", "()I"⟩, 9) := ⟨⟨by decide +kernel, by decide +kernel⟩, List.mem_of_getElem? (i := 195) (by decide +kernel), List.mem_of_getElem? (i := 829) (by decide +kernel), List.mem_of_getElem? (i := 830) (by decide +kernel)⟩
theorem lw_p28 : lw_okq (⟨"BlastFace$Reader", "isDone", "(LBlastFace$Pattern;I)Z"⟩, 9) := ⟨⟨by decide +kernel, by decide +kernel⟩, List.mem_of_getElem? (i := 195) (by decide +kernel), List.mem_of_getElem? (i := 841) (by decide +kernel), List.mem_of_getElem? (i := 842) (by decide +kernel)⟩
theorem lw_p29 : lw_okq (⟨"BlastFace", "written", "()LBlastFace$Scribe;"⟩, 15) := ⟨⟨by decide +kernel, by decide +kernel⟩, List.mem_of_getElem? (i := 20) (by decide +kernel), List.mem_of_getElem? (i := 853) (by decide +kernel), List.mem_of_getElem? (i := 854) (by decide +kernel)⟩
theorem lw_p30 : lw_okq (⟨"BlastFace$Scribe", "writeHole", "(LBlastFace$Pattern;I)V"⟩, 2) := ⟨⟨by decide +kernel, by decide +kernel⟩, List.mem_of_getElem? (i := 179) (by decide +kernel), List.mem_of_getElem? (i := 861) (by decide +kernel), List.mem_of_getElem? (i := 862) (by decide +kernel)⟩
theorem lw_p31 : lw_okq (⟨"BlastFace$Scribe", "begin", "(Ljava/lang/String;)V"⟩, 2) := ⟨⟨by decide +kernel, by decide +kernel⟩, List.mem_of_getElem? (i := 179) (by decide +kernel), List.mem_of_getElem? (i := 866) (by decide +kernel), List.mem_of_getElem? (i := 867) (by decide +kernel)⟩
def lw_privs_2 : List (MethodName × Nat) := [(⟨"BlastFace", "mostHarmful", "(IZ)I"⟩, 15), (⟨"BlastFace", "drawn", "()LBlastFace$Planner;"⟩, 15), (⟨"BlastFace$Planner", "settle", "(I)V"⟩, 8), (⟨"BlastFace$Planner", "isQuiet", "(I)Z"⟩, 8), (⟨"BlastFace$Planner", "shakeWith", "(II)I"⟩, 8), (⟨"BlastFace$Reader", "parseStatement", "()Z"⟩, 9), (⟨"BlastFace$Reader", "nextToken", "()V"⟩, 9), (⟨"BlastFace$Reader", "verbHere", "()I"⟩, 9), (⟨"BlastFace$Reader", "isWordHere", "(Ljava/lang/String;)Z"⟩, 9), (⟨"BlastFace$Reader", "valueHere", "(C)I"⟩, 9), (⟨"BlastFace$Reader", "kindHere", "()I"⟩, 9), (⟨"BlastFace$Reader", "numberHere", "()I"⟩, 9), (⟨"BlastFace$Reader", "isDone", "(LBlastFace$Pattern;I)Z"⟩, 9), (⟨"BlastFace", "written", "()LBlastFace$Scribe;"⟩, 15), (⟨"BlastFace$Scribe", "writeHole", "(LBlastFace$Pattern;I)V"⟩, 2), (⟨"BlastFace$Scribe", "begin", "(Ljava/lang/String;)V"⟩, 2)]
theorem lw_r2 : ∀ q ∈ lw_privs_2, lw_okq q := List.forall_mem_cons.mpr ⟨lw_p16, List.forall_mem_cons.mpr ⟨lw_p17, List.forall_mem_cons.mpr ⟨lw_p18, List.forall_mem_cons.mpr ⟨lw_p19, List.forall_mem_cons.mpr ⟨lw_p20, List.forall_mem_cons.mpr ⟨lw_p21, List.forall_mem_cons.mpr ⟨lw_p22, List.forall_mem_cons.mpr ⟨lw_p23, List.forall_mem_cons.mpr ⟨lw_p24, List.forall_mem_cons.mpr ⟨lw_p25, List.forall_mem_cons.mpr ⟨lw_p26, List.forall_mem_cons.mpr ⟨lw_p27, List.forall_mem_cons.mpr ⟨lw_p28, List.forall_mem_cons.mpr ⟨lw_p29, List.forall_mem_cons.mpr ⟨lw_p30, List.forall_mem_cons.mpr ⟨lw_p31, fun _ h => absurd h List.not_mem_nil⟩⟩⟩⟩⟩⟩⟩⟩⟩⟩⟩⟩⟩⟩⟩⟩
theorem lw_p32 : lw_okq (⟨"BlastFace$Scribe", "writeByte", "(I)V"⟩, 2) := ⟨⟨by decide +kernel, by decide +kernel⟩, List.mem_of_getElem? (i := 179) (by decide +kernel), List.mem_of_getElem? (i := 870) (by decide +kernel), List.mem_of_getElem? (i := 871) (by decide +kernel)⟩
theorem lw_p33 : lw_okq (⟨"BlastFace$Scribe", "writeLetters", "(Ljava/lang/String;)V"⟩, 2) := ⟨⟨by decide +kernel, by decide +kernel⟩, List.mem_of_getElem? (i := 179) (by decide +kernel), List.mem_of_getElem? (i := 874) (by decide +kernel), List.mem_of_getElem? (i := 875) (by decide +kernel)⟩
theorem lw_p34 : lw_okq (⟨"BlastFace$Scribe", "writeNumber", "(I)V"⟩, 2) := ⟨⟨by decide +kernel, by decide +kernel⟩, List.mem_of_getElem? (i := 179) (by decide +kernel), List.mem_of_getElem? (i := 881) (by decide +kernel), List.mem_of_getElem? (i := 882) (by decide +kernel)⟩
theorem lw_p35 : lw_okq (⟨"BlastFace$Scribe", "writeWord", "(Ljava/lang/String;)V"⟩, 2) := ⟨⟨by decide +kernel, by decide +kernel⟩, List.mem_of_getElem? (i := 179) (by decide +kernel), List.mem_of_getElem? (i := 886) (by decide +kernel), List.mem_of_getElem? (i := 887) (by decide +kernel)⟩
theorem lw_p36 : lw_okq (⟨"BlastFace$Scribe", "writeWire", "(LBlastFace$Pattern;I)V"⟩, 2) := ⟨⟨by decide +kernel, by decide +kernel⟩, List.mem_of_getElem? (i := 179) (by decide +kernel), List.mem_of_getElem? (i := 890) (by decide +kernel), List.mem_of_getElem? (i := 891) (by decide +kernel)⟩
theorem lw_p37 : lw_okq (⟨"BlastFaceModel", "isTaken", "(II)Z"⟩, 35) := ⟨⟨by decide +kernel, by decide +kernel⟩, List.mem_of_getElem? (i := 999) (by decide +kernel), List.mem_of_getElem? (i := 1125) (by decide +kernel), List.mem_of_getElem? (i := 1126) (by decide +kernel)⟩
theorem lw_p38 : lw_okq (⟨"BlastFaceModel", "its", "(II)I"⟩, 35) := ⟨⟨by decide +kernel, by decide +kernel⟩, List.mem_of_getElem? (i := 999) (by decide +kernel), List.mem_of_getElem? (i := 1129) (by decide +kernel), List.mem_of_getElem? (i := 1130) (by decide +kernel)⟩
theorem lw_p39 : lw_okq (⟨"BlastFaceModel", "isHole", "(I)Z"⟩, 35) := ⟨⟨by decide +kernel, by decide +kernel⟩, List.mem_of_getElem? (i := 999) (by decide +kernel), List.mem_of_getElem? (i := 1143) (by decide +kernel), List.mem_of_getElem? (i := 1144) (by decide +kernel)⟩
theorem lw_p40 : lw_okq (⟨"BlastFaceModel", "loadsOf", "(I)I"⟩, 35) := ⟨⟨by decide +kernel, by decide +kernel⟩, List.mem_of_getElem? (i := 999) (by decide +kernel), List.mem_of_getElem? (i := 1148) (by decide +kernel), List.mem_of_getElem? (i := 1149) (by decide +kernel)⟩
theorem lw_p41 : lw_okq (⟨"BlastFaceModel", "firstLoad", "(I)I"⟩, 35) := ⟨⟨by decide +kernel, by decide +kernel⟩, List.mem_of_getElem? (i := 999) (by decide +kernel), List.mem_of_getElem? (i := 1152) (by decide +kernel), List.mem_of_getElem? (i := 1153) (by decide +kernel)⟩
theorem lw_p42 : lw_okq (⟨"BlastFaceModel", "secondLoad", "(I)I"⟩, 35) := ⟨⟨by decide +kernel, by decide +kernel⟩, List.mem_of_getElem? (i := 999) (by decide +kernel), List.mem_of_getElem? (i := 1159) (by decide +kernel), List.mem_of_getElem? (i := 1160) (by decide +kernel)⟩
theorem lw_p43 : lw_okq (⟨"BlastFaceModel", "rockOf", "(I)I"⟩, 35) := ⟨⟨by decide +kernel, by decide +kernel⟩, List.mem_of_getElem? (i := 999) (by decide +kernel), List.mem_of_getElem? (i := 1163) (by decide +kernel), List.mem_of_getElem? (i := 1164) (by decide +kernel)⟩
theorem lw_p44 : lw_okq (⟨"BlastFaceModel", "needsOf", "(I)I"⟩, 35) := ⟨⟨by decide +kernel, by decide +kernel⟩, List.mem_of_getElem? (i := 999) (by decide +kernel), List.mem_of_getElem? (i := 1167) (by decide +kernel), List.mem_of_getElem? (i := 1168) (by decide +kernel)⟩
theorem lw_p45 : lw_okq (⟨"BlastFaceModel", "aheadOf", "(I)I"⟩, 35) := ⟨⟨by decide +kernel, by decide +kernel⟩, List.mem_of_getElem? (i := 999) (by decide +kernel), List.mem_of_getElem? (i := 1171) (by decide +kernel), List.mem_of_getElem? (i := 1172) (by decide +kernel)⟩
theorem lw_p46 : lw_okq (⟨"BlastFaceModel", "isWire", "(I)Z"⟩, 35) := ⟨⟨by decide +kernel, by decide +kernel⟩, List.mem_of_getElem? (i := 999) (by decide +kernel), List.mem_of_getElem? (i := 1195) (by decide +kernel), List.mem_of_getElem? (i := 1196) (by decide +kernel)⟩
theorem lw_p47 : lw_okq (⟨"BlastFaceModel", "cuts", "(I)V"⟩, 35) := ⟨⟨by decide +kernel, by decide +kernel⟩, List.mem_of_getElem? (i := 999) (by decide +kernel), List.mem_of_getElem? (i := 1199) (by decide +kernel), List.mem_of_getElem? (i := 1200) (by decide +kernel)⟩
def lw_privs_3 : List (MethodName × Nat) := [(⟨"BlastFace$Scribe", "writeByte", "(I)V"⟩, 2), (⟨"BlastFace$Scribe", "writeLetters", "(Ljava/lang/String;)V"⟩, 2), (⟨"BlastFace$Scribe", "writeNumber", "(I)V"⟩, 2), (⟨"BlastFace$Scribe", "writeWord", "(Ljava/lang/String;)V"⟩, 2), (⟨"BlastFace$Scribe", "writeWire", "(LBlastFace$Pattern;I)V"⟩, 2), (⟨"BlastFaceModel", "isTaken", "(II)Z"⟩, 35), (⟨"BlastFaceModel", "its", "(II)I"⟩, 35), (⟨"BlastFaceModel", "isHole", "(I)Z"⟩, 35), (⟨"BlastFaceModel", "loadsOf", "(I)I"⟩, 35), (⟨"BlastFaceModel", "firstLoad", "(I)I"⟩, 35), (⟨"BlastFaceModel", "secondLoad", "(I)I"⟩, 35), (⟨"BlastFaceModel", "rockOf", "(I)I"⟩, 35), (⟨"BlastFaceModel", "needsOf", "(I)I"⟩, 35), (⟨"BlastFaceModel", "aheadOf", "(I)I"⟩, 35), (⟨"BlastFaceModel", "isWire", "(I)Z"⟩, 35), (⟨"BlastFaceModel", "cuts", "(I)V"⟩, 35)]
theorem lw_r3 : ∀ q ∈ lw_privs_3, lw_okq q := List.forall_mem_cons.mpr ⟨lw_p32, List.forall_mem_cons.mpr ⟨lw_p33, List.forall_mem_cons.mpr ⟨lw_p34, List.forall_mem_cons.mpr ⟨lw_p35, List.forall_mem_cons.mpr ⟨lw_p36, List.forall_mem_cons.mpr ⟨lw_p37, List.forall_mem_cons.mpr ⟨lw_p38, List.forall_mem_cons.mpr ⟨lw_p39, List.forall_mem_cons.mpr ⟨lw_p40, List.forall_mem_cons.mpr ⟨lw_p41, List.forall_mem_cons.mpr ⟨lw_p42, List.forall_mem_cons.mpr ⟨lw_p43, List.forall_mem_cons.mpr ⟨lw_p44, List.forall_mem_cons.mpr ⟨lw_p45, List.forall_mem_cons.mpr ⟨lw_p46, List.forall_mem_cons.mpr ⟨lw_p47, fun _ h => absurd h List.not_mem_nil⟩⟩⟩⟩⟩⟩⟩⟩⟩⟩⟩⟩⟩⟩⟩⟩
theorem lw_p48 : lw_okq (⟨"BlastFaceModel", "wires", "(II)I"⟩, 35) := ⟨⟨by decide +kernel, by decide +kernel⟩, List.mem_of_getElem? (i := 999) (by decide +kernel), List.mem_of_getElem? (i := 1213) (by decide +kernel), List.mem_of_getElem? (i := 1214) (by decide +kernel)⟩
theorem lw_p49 : lw_okq (⟨"BlastFaceModel", "fires", "()V"⟩, 35) := ⟨⟨by decide +kernel, by decide +kernel⟩, List.mem_of_getElem? (i := 999) (by decide +kernel), List.mem_of_getElem? (i := 1221) (by decide +kernel), List.mem_of_getElem? (i := 1222) (by decide +kernel)⟩
theorem lw_p50 : lw_okq (⟨"BlastFaceModel", "signals", "()V"⟩, 35) := ⟨⟨by decide +kernel, by decide +kernel⟩, List.mem_of_getElem? (i := 999) (by decide +kernel), List.mem_of_getElem? (i := 1225) (by decide +kernel), List.mem_of_getElem? (i := 1226) (by decide +kernel)⟩
theorem lw_p51 : lw_okq (⟨"BlastFaceModel", "endOf", "(I)I"⟩, 35) := ⟨⟨by decide +kernel, by decide +kernel⟩, List.mem_of_getElem? (i := 999) (by decide +kernel), List.mem_of_getElem? (i := 1230) (by decide +kernel), List.mem_of_getElem? (i := 1231) (by decide +kernel)⟩
theorem lw_p52 : lw_okq (⟨"BlastFaceModel", "isDead", "(I)Z"⟩, 35) := ⟨⟨by decide +kernel, by decide +kernel⟩, List.mem_of_getElem? (i := 999) (by decide +kernel), List.mem_of_getElem? (i := 1234) (by decide +kernel), List.mem_of_getElem? (i := 1235) (by decide +kernel)⟩
theorem lw_p53 : lw_okq (⟨"BlastFaceModel", "has", "(II)Z"⟩, 35) := ⟨⟨by decide +kernel, by decide +kernel⟩, List.mem_of_getElem? (i := 999) (by decide +kernel), List.mem_of_getElem? (i := 1238) (by decide +kernel), List.mem_of_getElem? (i := 1239) (by decide +kernel)⟩
theorem lw_p54 : lw_okq (⟨"BlastFaceModel", "isRelieved", "(II)Z"⟩, 35) := ⟨⟨by decide +kernel, by decide +kernel⟩, List.mem_of_getElem? (i := 999) (by decide +kernel), List.mem_of_getElem? (i := 1242) (by decide +kernel), List.mem_of_getElem? (i := 1243) (by decide +kernel)⟩
theorem lw_p55 : lw_okq (⟨"BlastFaceModel", "isTorn", "(I)Z"⟩, 35) := ⟨⟨by decide +kernel, by decide +kernel⟩, List.mem_of_getElem? (i := 999) (by decide +kernel), List.mem_of_getElem? (i := 1246) (by decide +kernel), List.mem_of_getElem? (i := 1247) (by decide +kernel)⟩
theorem lw_p56 : lw_okq (⟨"BlastFaceModel", "ringOf", "(I)I"⟩, 35) := ⟨⟨by decide +kernel, by decide +kernel⟩, List.mem_of_getElem? (i := 999) (by decide +kernel), List.mem_of_getElem? (i := 1255) (by decide +kernel), List.mem_of_getElem? (i := 1256) (by decide +kernel)⟩
theorem lw_p57 : lw_okq (⟨"BlastFaceModel", "lays", "()V"⟩, 35) := ⟨⟨by decide +kernel, by decide +kernel⟩, List.mem_of_getElem? (i := 999) (by decide +kernel), List.mem_of_getElem? (i := 1263) (by decide +kernel), List.mem_of_getElem? (i := 1264) (by decide +kernel)⟩
theorem lw_p58 : lw_okq (⟨"BlastFaceModel", "laysShots", "(I)V"⟩, 35) := ⟨⟨by decide +kernel, by decide +kernel⟩, List.mem_of_getElem? (i := 999) (by decide +kernel), List.mem_of_getElem? (i := 1267) (by decide +kernel), List.mem_of_getElem? (i := 1268) (by decide +kernel)⟩
theorem lw_p59 : lw_okq (⟨"BlastFaceModel", "shoots", "(III)V"⟩, 35) := ⟨⟨by decide +kernel, by decide +kernel⟩, List.mem_of_getElem? (i := 999) (by decide +kernel), List.mem_of_getElem? (i := 1271) (by decide +kernel), List.mem_of_getElem? (i := 1272) (by decide +kernel)⟩
theorem lw_p60 : lw_okq (⟨"BlastFaceModel", "shakeAt", "(I)I"⟩, 35) := ⟨⟨by decide +kernel, by decide +kernel⟩, List.mem_of_getElem? (i := 999) (by decide +kernel), List.mem_of_getElem? (i := 1280) (by decide +kernel), List.mem_of_getElem? (i := 1281) (by decide +kernel)⟩
theorem lw_p61 : lw_okq (⟨"BlastFaceModel", "worstShake", "()I"⟩, 35) := ⟨⟨by decide +kernel, by decide +kernel⟩, List.mem_of_getElem? (i := 999) (by decide +kernel), List.mem_of_getElem? (i := 1288) (by decide +kernel), List.mem_of_getElem? (i := 1289) (by decide +kernel)⟩
theorem lw_p62 : lw_okq (⟨"BlastFaceModel", "worstTime", "()I"⟩, 35) := ⟨⟨by decide +kernel, by decide +kernel⟩, List.mem_of_getElem? (i := 999) (by decide +kernel), List.mem_of_getElem? (i := 1292) (by decide +kernel), List.mem_of_getElem? (i := 1293) (by decide +kernel)⟩
theorem lw_p63 : lw_okq (⟨"BlastFaceModel", "over", "()I"⟩, 35) := ⟨⟨by decide +kernel, by decide +kernel⟩, List.mem_of_getElem? (i := 999) (by decide +kernel), List.mem_of_getElem? (i := 1296) (by decide +kernel), List.mem_of_getElem? (i := 1297) (by decide +kernel)⟩
def lw_privs_4 : List (MethodName × Nat) := [(⟨"BlastFaceModel", "wires", "(II)I"⟩, 35), (⟨"BlastFaceModel", "fires", "()V"⟩, 35), (⟨"BlastFaceModel", "signals", "()V"⟩, 35), (⟨"BlastFaceModel", "endOf", "(I)I"⟩, 35), (⟨"BlastFaceModel", "isDead", "(I)Z"⟩, 35), (⟨"BlastFaceModel", "has", "(II)Z"⟩, 35), (⟨"BlastFaceModel", "isRelieved", "(II)Z"⟩, 35), (⟨"BlastFaceModel", "isTorn", "(I)Z"⟩, 35), (⟨"BlastFaceModel", "ringOf", "(I)I"⟩, 35), (⟨"BlastFaceModel", "lays", "()V"⟩, 35), (⟨"BlastFaceModel", "laysShots", "(I)V"⟩, 35), (⟨"BlastFaceModel", "shoots", "(III)V"⟩, 35), (⟨"BlastFaceModel", "shakeAt", "(I)I"⟩, 35), (⟨"BlastFaceModel", "worstShake", "()I"⟩, 35), (⟨"BlastFaceModel", "worstTime", "()I"⟩, 35), (⟨"BlastFaceModel", "over", "()I"⟩, 35)]
theorem lw_r4 : ∀ q ∈ lw_privs_4, lw_okq q := List.forall_mem_cons.mpr ⟨lw_p48, List.forall_mem_cons.mpr ⟨lw_p49, List.forall_mem_cons.mpr ⟨lw_p50, List.forall_mem_cons.mpr ⟨lw_p51, List.forall_mem_cons.mpr ⟨lw_p52, List.forall_mem_cons.mpr ⟨lw_p53, List.forall_mem_cons.mpr ⟨lw_p54, List.forall_mem_cons.mpr ⟨lw_p55, List.forall_mem_cons.mpr ⟨lw_p56, List.forall_mem_cons.mpr ⟨lw_p57, List.forall_mem_cons.mpr ⟨lw_p58, List.forall_mem_cons.mpr ⟨lw_p59, List.forall_mem_cons.mpr ⟨lw_p60, List.forall_mem_cons.mpr ⟨lw_p61, List.forall_mem_cons.mpr ⟨lw_p62, List.forall_mem_cons.mpr ⟨lw_p63, fun _ h => absurd h List.not_mem_nil⟩⟩⟩⟩⟩⟩⟩⟩⟩⟩⟩⟩⟩⟩⟩⟩
theorem lw_p64 : lw_okq (⟨"BlastFaceModel", "misfires", "(I)V"⟩, 35) := ⟨⟨by decide +kernel, by decide +kernel⟩, List.mem_of_getElem? (i := 999) (by decide +kernel), List.mem_of_getElem? (i := 1323) (by decide +kernel), List.mem_of_getElem? (i := 1324) (by decide +kernel)⟩
theorem lw_p65 : lw_okq (⟨"BlastFaceModel", "compares", "(III)V"⟩, 35) := ⟨⟨by decide +kernel, by decide +kernel⟩, List.mem_of_getElem? (i := 999) (by decide +kernel), List.mem_of_getElem? (i := 1330) (by decide +kernel), List.mem_of_getElem? (i := 1331) (by decide +kernel)⟩
theorem lw_p66 : lw_okq (⟨"BlastFaceModel", "told", "(I)I"⟩, 35) := ⟨⟨by decide +kernel, by decide +kernel⟩, List.mem_of_getElem? (i := 999) (by decide +kernel), List.mem_of_getElem? (i := 1334) (by decide +kernel), List.mem_of_getElem? (i := 1335) (by decide +kernel)⟩
theorem lw_p67 : lw_okq (⟨"BlastFaceModel", "breaks", "(I)V"⟩, 35) := ⟨⟨by decide +kernel, by decide +kernel⟩, List.mem_of_getElem? (i := 999) (by decide +kernel), List.mem_of_getElem? (i := 1342) (by decide +kernel), List.mem_of_getElem? (i := 1343) (by decide +kernel)⟩
theorem lw_p68 : lw_okq (⟨"BlastFaceModel", "plans", "()V"⟩, 35) := ⟨⟨by decide +kernel, by decide +kernel⟩, List.mem_of_getElem? (i := 999) (by decide +kernel), List.mem_of_getElem? (i := 1357) (by decide +kernel), List.mem_of_getElem? (i := 1358) (by decide +kernel)⟩
theorem lw_p69 : lw_okq (⟨"BlastFaceModel", "plans", "(I)V"⟩, 35) := ⟨⟨by decide +kernel, by decide +kernel⟩, List.mem_of_getElem? (i := 999) (by decide +kernel), List.mem_of_getElem? (i := 1361) (by decide +kernel), List.mem_of_getElem? (i := 1362) (by decide +kernel)⟩
theorem lw_p70 : lw_okq (⟨"BlastFaceModel", "fits", "(I)Z"⟩, 35) := ⟨⟨by decide +kernel, by decide +kernel⟩, List.mem_of_getElem? (i := 999) (by decide +kernel), List.mem_of_getElem? (i := 1365) (by decide +kernel), List.mem_of_getElem? (i := 1366) (by decide +kernel)⟩
theorem lw_p71 : lw_okq (⟨"BlastFaceModel", "next", "()V"⟩, 35) := ⟨⟨by decide +kernel, by decide +kernel⟩, List.mem_of_getElem? (i := 999) (by decide +kernel), List.mem_of_getElem? (i := 1386) (by decide +kernel), List.mem_of_getElem? (i := 1387) (by decide +kernel)⟩
theorem lw_p72 : lw_okq (⟨"BlastFaceModel", "here", "()I"⟩, 35) := ⟨⟨by decide +kernel, by decide +kernel⟩, List.mem_of_getElem? (i := 999) (by decide +kernel), List.mem_of_getElem? (i := 1390) (by decide +kernel), List.mem_of_getElem? (i := 1391) (by decide +kernel)⟩
theorem lw_p73 : lw_okq (⟨"BlastFaceModel", "wordHere", "()I"⟩, 35) := ⟨⟨by decide +kernel, by decide +kernel⟩, List.mem_of_getElem? (i := 999) (by decide +kernel), List.mem_of_getElem? (i := 1396) (by decide +kernel), List.mem_of_getElem? (i := 1397) (by decide +kernel)⟩
theorem lw_p74 : lw_okq (⟨"BlastFaceModel", "numberHere", "()I"⟩, 35) := ⟨⟨by decide +kernel, by decide +kernel⟩, List.mem_of_getElem? (i := 999) (by decide +kernel), List.mem_of_getElem? (i := 1402) (by decide +kernel), List.mem_of_getElem? (i := 1403) (by decide +kernel)⟩
theorem lw_p75 : lw_okq (⟨"BlastFaceModel", "takesStatement", "()Z"⟩, 35) := ⟨⟨by decide +kernel, by decide +kernel⟩, List.mem_of_getElem? (i := 999) (by decide +kernel), List.mem_of_getElem? (i := 1406) (by decide +kernel), List.mem_of_getElem? (i := 1407) (by decide +kernel)⟩
theorem lw_p76 : lw_okq (⟨"BlastFaceModel", "takesHole", "()Z"⟩, 35) := ⟨⟨by decide +kernel, by decide +kernel⟩, List.mem_of_getElem? (i := 999) (by decide +kernel), List.mem_of_getElem? (i := 1411) (by decide +kernel), List.mem_of_getElem? (i := 1412) (by decide +kernel)⟩
theorem lw_p77 : lw_okq (⟨"BlastFaceModel", "takesNumbers", "(II)Z"⟩, 35) := ⟨⟨by decide +kernel, by decide +kernel⟩, List.mem_of_getElem? (i := 999) (by decide +kernel), List.mem_of_getElem? (i := 1415) (by decide +kernel), List.mem_of_getElem? (i := 1416) (by decide +kernel)⟩
theorem lw_p78 : lw_okq (⟨"BlastFaceModel", "takesNumber", "(I)Z"⟩, 35) := ⟨⟨by decide +kernel, by decide +kernel⟩, List.mem_of_getElem? (i := 999) (by decide +kernel), List.mem_of_getElem? (i := 1419) (by decide +kernel), List.mem_of_getElem? (i := 1420) (by decide +kernel)⟩
theorem lw_p79 : lw_okq (⟨"BlastFaceModel", "takesWire", "()Z"⟩, 35) := ⟨⟨by decide +kernel, by decide +kernel⟩, List.mem_of_getElem? (i := 999) (by decide +kernel), List.mem_of_getElem? (i := 1423) (by decide +kernel), List.mem_of_getElem? (i := 1424) (by decide +kernel)⟩
def lw_privs_5 : List (MethodName × Nat) := [(⟨"BlastFaceModel", "misfires", "(I)V"⟩, 35), (⟨"BlastFaceModel", "compares", "(III)V"⟩, 35), (⟨"BlastFaceModel", "told", "(I)I"⟩, 35), (⟨"BlastFaceModel", "breaks", "(I)V"⟩, 35), (⟨"BlastFaceModel", "plans", "()V"⟩, 35), (⟨"BlastFaceModel", "plans", "(I)V"⟩, 35), (⟨"BlastFaceModel", "fits", "(I)Z"⟩, 35), (⟨"BlastFaceModel", "next", "()V"⟩, 35), (⟨"BlastFaceModel", "here", "()I"⟩, 35), (⟨"BlastFaceModel", "wordHere", "()I"⟩, 35), (⟨"BlastFaceModel", "numberHere", "()I"⟩, 35), (⟨"BlastFaceModel", "takesStatement", "()Z"⟩, 35), (⟨"BlastFaceModel", "takesHole", "()Z"⟩, 35), (⟨"BlastFaceModel", "takesNumbers", "(II)Z"⟩, 35), (⟨"BlastFaceModel", "takesNumber", "(I)Z"⟩, 35), (⟨"BlastFaceModel", "takesWire", "()Z"⟩, 35)]
theorem lw_r5 : ∀ q ∈ lw_privs_5, lw_okq q := List.forall_mem_cons.mpr ⟨lw_p64, List.forall_mem_cons.mpr ⟨lw_p65, List.forall_mem_cons.mpr ⟨lw_p66, List.forall_mem_cons.mpr ⟨lw_p67, List.forall_mem_cons.mpr ⟨lw_p68, List.forall_mem_cons.mpr ⟨lw_p69, List.forall_mem_cons.mpr ⟨lw_p70, List.forall_mem_cons.mpr ⟨lw_p71, List.forall_mem_cons.mpr ⟨lw_p72, List.forall_mem_cons.mpr ⟨lw_p73, List.forall_mem_cons.mpr ⟨lw_p74, List.forall_mem_cons.mpr ⟨lw_p75, List.forall_mem_cons.mpr ⟨lw_p76, List.forall_mem_cons.mpr ⟨lw_p77, List.forall_mem_cons.mpr ⟨lw_p78, List.forall_mem_cons.mpr ⟨lw_p79, fun _ h => absurd h List.not_mem_nil⟩⟩⟩⟩⟩⟩⟩⟩⟩⟩⟩⟩⟩⟩⟩⟩
theorem lw_p80 : lw_okq (⟨"BlastFaceModel", "does", "(I)Z"⟩, 35) := ⟨⟨by decide +kernel, by decide +kernel⟩, List.mem_of_getElem? (i := 999) (by decide +kernel), List.mem_of_getElem? (i := 1427) (by decide +kernel), List.mem_of_getElem? (i := 1428) (by decide +kernel)⟩
theorem lw_p81 : lw_okq (⟨"BlastFaceModel", "sign", "(I)V"⟩, 35) := ⟨⟨by decide +kernel, by decide +kernel⟩, List.mem_of_getElem? (i := 999) (by decide +kernel), List.mem_of_getElem? (i := 1439) (by decide +kernel), List.mem_of_getElem? (i := 1440) (by decide +kernel)⟩
theorem lw_p82 : lw_okq (⟨"BlastFaceModel", "spells", "(I)V"⟩, 35) := ⟨⟨by decide +kernel, by decide +kernel⟩, List.mem_of_getElem? (i := 999) (by decide +kernel), List.mem_of_getElem? (i := 1443) (by decide +kernel), List.mem_of_getElem? (i := 1444) (by decide +kernel)⟩
theorem lw_p83 : lw_okq (⟨"BlastFaceModel", "number", "(I)V"⟩, 35) := ⟨⟨by decide +kernel, by decide +kernel⟩, List.mem_of_getElem? (i := 999) (by decide +kernel), List.mem_of_getElem? (i := 1447) (by decide +kernel), List.mem_of_getElem? (i := 1448) (by decide +kernel)⟩
theorem lw_p84 : lw_okq (⟨"BlastFaceModel", "layable", "(I)I"⟩, 35) := ⟨⟨by decide +kernel, by decide +kernel⟩, List.mem_of_getElem? (i := 999) (by decide +kernel), List.mem_of_getElem? (i := 1483) (by decide +kernel), List.mem_of_getElem? (i := 1484) (by decide +kernel)⟩
def lw_privs_6 : List (MethodName × Nat) := [(⟨"BlastFaceModel", "does", "(I)Z"⟩, 35), (⟨"BlastFaceModel", "sign", "(I)V"⟩, 35), (⟨"BlastFaceModel", "spells", "(I)V"⟩, 35), (⟨"BlastFaceModel", "number", "(I)V"⟩, 35), (⟨"BlastFaceModel", "layable", "(I)I"⟩, 35)]
theorem lw_r6 : ∀ q ∈ lw_privs_6, lw_okq q := List.forall_mem_cons.mpr ⟨lw_p80, List.forall_mem_cons.mpr ⟨lw_p81, List.forall_mem_cons.mpr ⟨lw_p82, List.forall_mem_cons.mpr ⟨lw_p83, List.forall_mem_cons.mpr ⟨lw_p84, fun _ h => absurd h List.not_mem_nil⟩⟩⟩⟩⟩
def lw_privs : List (MethodName × Nat) := lw_privs_1 ++ (lw_privs_2 ++ (lw_privs_3 ++ (lw_privs_4 ++ (lw_privs_5 ++ (lw_privs_6)))))
def lw_tbl : List Cond := k2_sels lw_privs ++ tables_1
theorem lw_privs_ok : ∀ q ∈ lw_privs, lw_okq q := by
  show ∀ q ∈ lw_privs_1 ++ (lw_privs_2 ++ (lw_privs_3 ++ (lw_privs_4 ++ (lw_privs_5 ++ (lw_privs_6))))), lw_okq q
  exact List.forall_mem_append.mpr ⟨lw_r1, List.forall_mem_append.mpr ⟨lw_r2, List.forall_mem_append.mpr ⟨lw_r3, List.forall_mem_append.mpr ⟨lw_r4, List.forall_mem_append.mpr ⟨lw_r5, lw_r6⟩⟩⟩⟩⟩
end
section
def RX0 : String := "BlastFace$Blast"
def TX0 : u_T := fun k => match k with
  | 0 => ("BlastFace$Blast", "pattern", "LBlastFace$Pattern;", true)
  | 1 => ("BlastFace$Blast", "signals", "[I", true)
  | 2 => ("BlastFace$Blast", "times", "[I", true)
  | 3 => ("BlastFace$Blast", "shots", "LBlastFace$Shots;", true)
  | 4 => ("BlastFace$Blast", "firing", "I", false)
  | 5 => ("BlastFace$Blast", "buried", "I", false)
  | _ => ("BlastFace$Blast", "dead", "I", false)
def tyX0 : Nat → FieldType := fun k => match k with
  | 0 => .object "BlastFace$Pattern"
  | 1 => .array .int
  | 2 => .array .int
  | 3 => .object "BlastFace$Shots"
  | 4 => .int
  | 5 => .int
  | _ => .int
abbrev wsX00 : List Cond := u_ws RX0 TX0 7
theorem nmX0 : ∀ a, a < 7 → ∀ b, b < 7 → a ≠ b → (TX0 a).2.1 ≠ (TX0 b).2.1 := by decide +kernel
theorem tyX0_ok : ∀ k, k < 7 → parseFieldDescriptor (TX0 k).2.2.1 = some (tyX0 k) := by decide +kernel
abbrev cX0_init : ByteArray := prog_2_method_1_code
def yX0_init : MethodName := ⟨RX0, "<init>", "(LBlastFace$Pattern;)V"⟩
abbrev cX0_reckon : ByteArray := prog_2_method_2_code
def yX0_reckon : MethodName := ⟨RX0, "reckon", "(II)V"⟩
abbrev cX0_reckonShots : ByteArray := prog_2_method_3_code
def yX0_reckonShots : MethodName := ⟨RX0, "reckonShots", "()V"⟩
abbrev cX0_findSignals : ByteArray := prog_2_method_4_code
def yX0_findSignals : MethodName := ⟨RX0, "findSignals", "(I)V"⟩
abbrev cX0_endOf : ByteArray := prog_2_method_5_code
def yX0_endOf : MethodName := ⟨RX0, "endOf", "(I)I"⟩
abbrev cX0_findFiring : ByteArray := prog_2_method_6_code
def yX0_findFiring : MethodName := ⟨RX0, "findFiring", "()V"⟩
abbrev cX0_findBuried : ByteArray := prog_2_method_7_code
def yX0_findBuried : MethodName := ⟨RX0, "findBuried", "()V"⟩
abbrev cX0_doesFire : ByteArray := prog_2_method_8_code
def yX0_doesFire : MethodName := ⟨RX0, "doesFire", "(I)Z"⟩
abbrev cX0_isBuried : ByteArray := prog_2_method_9_code
def yX0_isBuried : MethodName := ⟨RX0, "isBuried", "(I)Z"⟩
abbrev cX0_unsignalled : ByteArray := prog_2_method_10_code
def yX0_unsignalled : MethodName := ⟨RX0, "unsignalled", "()I"⟩
abbrev cX0_isTorn : ByteArray := prog_2_method_11_code
def yX0_isTorn : MethodName := ⟨RX0, "isTorn", "(I)Z"⟩
abbrev cX0_tornBits : ByteArray := prog_2_method_12_code
def yX0_tornBits : MethodName := ⟨RX0, "tornBits", "()I"⟩
abbrev cX0_ringOf : ByteArray := prog_2_method_13_code
def yX0_ringOf : MethodName := ⟨RX0, "ringOf", "(I)I"⟩
abbrev cX0_rockInRing : ByteArray := prog_2_method_14_code
def yX0_rockInRing : MethodName := ⟨RX0, "rockInRing", "(I)I"⟩
abbrev cX0_rockOfIn : ByteArray := prog_2_method_15_code
def yX0_rockOfIn : MethodName := ⟨RX0, "rockOfIn", "(II)I"⟩
abbrev cX0_canLayOut : ByteArray := prog_2_method_16_code
def yX0_canLayOut : MethodName := ⟨RX0, "canLayOut", "(I)Z"⟩
abbrev cX0_layOut : ByteArray := prog_2_method_17_code
def yX0_layOut : MethodName := ⟨RX0, "layOut", "(I[I)I"⟩
def RX1 : String := "BlastFace$Kind"
def TX1 : u_T := fun k => match k with
  | _ => ("", "", "", false)
def tyX1 : Nat → FieldType := fun k => match k with
  | _ => .int
abbrev wsX10 : List Cond := u_ws RX1 TX1 0
theorem nmX1 : ∀ a, a < 0 → ∀ b, b < 0 → a ≠ b → (TX1 a).2.1 ≠ (TX1 b).2.1 := by decide +kernel
theorem tyX1_ok : ∀ k, k < 0 → parseFieldDescriptor (TX1 k).2.2.1 = some (tyX1 k) := by decide +kernel
abbrev cX1_isUnder : ByteArray := prog_3_method_2_code
def yX1_isUnder : MethodName := ⟨RX1, "isUnder", "(II)Z"⟩
abbrev cX1_firstLoad : ByteArray := prog_3_method_3_code
def yX1_firstLoad : MethodName := ⟨RX1, "firstLoad", "(II)I"⟩
abbrev cX1_secondLoad : ByteArray := prog_3_method_4_code
def yX1_secondLoad : MethodName := ⟨RX1, "secondLoad", "(II)I"⟩
abbrev cX1_rock : ByteArray := prog_3_method_5_code
def yX1_rock : MethodName := ⟨RX1, "rock", "(II)I"⟩
abbrev cX1_needs : ByteArray := prog_3_method_6_code
def yX1_needs : MethodName := ⟨RX1, "needs", "(II)I"⟩
abbrev cX1_made : ByteArray := prog_3_method_7_code
def yX1_made : MethodName := ⟨RX1, "made", "(III)I"⟩
abbrev cX1_word : ByteArray := prog_3_method_8_code
def yX1_word : MethodName := ⟨RX1, "word", "(I)Ljava/lang/String;"⟩
def RX2 : String := "BlastFace$Pattern"
def TX2 : u_T := fun k => match k with
  | 0 => ("BlastFace$Pattern", "marks", "[I", true)
  | 1 => ("BlastFace$Pattern", "cords", "[I", true)
  | 2 => ("BlastFace$Pattern", "rules", "[I", true)
  | 3 => ("BlastFace$Pattern", "holes", "I", false)
  | 4 => ("BlastFace$Pattern", "wires", "I", false)
  | _ => ("BlastFace$Pattern", "clock", "I", false)
def tyX2 : Nat → FieldType := fun k => match k with
  | 0 => .array .int
  | 1 => .array .int
  | 2 => .array .int
  | 3 => .int
  | 4 => .int
  | _ => .int
abbrev wsX20 : List Cond := u_ws RX2 TX2 6
theorem nmX2 : ∀ a, a < 6 → ∀ b, b < 6 → a ≠ b → (TX2 a).2.1 ≠ (TX2 b).2.1 := by decide +kernel
theorem tyX2_ok : ∀ k, k < 6 → parseFieldDescriptor (TX2 k).2.2.1 = some (tyX2 k) := by decide +kernel
abbrev cX2_init : ByteArray := prog_4_method_1_code
def yX2_init : MethodName := ⟨RX2, "<init>", "()V"⟩
abbrev cX2_copyFrom : ByteArray := prog_4_method_2_code
def yX2_copyFrom : MethodName := ⟨RX2, "copyFrom", "(LBlastFace$Pattern;)V"⟩
abbrev cX2_fits : ByteArray := prog_4_method_3_code
def yX2_fits : MethodName := ⟨RX2, "fits", "(II)Z"⟩
abbrev cX2_isHole : ByteArray := prog_4_method_4_code
def yX2_isHole : MethodName := ⟨RX2, "isHole", "(I)Z"⟩
abbrev cX2_isWire : ByteArray := prog_4_method_5_code
def yX2_isWire : MethodName := ⟨RX2, "isWire", "(I)Z"⟩
abbrev cX2_mark : ByteArray := prog_4_method_6_code
def yX2_mark : MethodName := ⟨RX2, "mark", "(II)I"⟩
abbrev cX2_cord : ByteArray := prog_4_method_7_code
def yX2_cord : MethodName := ⟨RX2, "cord", "(II)I"⟩
abbrev cX2_addHole : ByteArray := prog_4_method_8_code
def yX2_addHole : MethodName := ⟨RX2, "addHole", "(IIIIII)I"⟩
abbrev cX2_markAhead : ByteArray := prog_4_method_9_code
def yX2_markAhead : MethodName := ⟨RX2, "markAhead", "(I)V"⟩
abbrev cX2_isAhead : ByteArray := prog_4_method_10_code
def yX2_isAhead : MethodName := ⟨RX2, "isAhead", "(II)Z"⟩
abbrev cX2_changeMark : ByteArray := prog_4_method_11_code
def yX2_changeMark : MethodName := ⟨RX2, "changeMark", "(III)I"⟩
abbrev cX2_addWire : ByteArray := prog_4_method_12_code
def yX2_addWire : MethodName := ⟨RX2, "addWire", "(III)I"⟩
abbrev cX2_removeWire : ByteArray := prog_4_method_13_code
def yX2_removeWire : MethodName := ⟨RX2, "removeWire", "(I)I"⟩
abbrev cX2_removeLastHole : ByteArray := prog_4_method_14_code
def yX2_removeLastHole : MethodName := ⟨RX2, "removeLastHole", "()I"⟩
abbrev cX2_changeRule : ByteArray := prog_4_method_15_code
def yX2_changeRule : MethodName := ⟨RX2, "changeRule", "(II)I"⟩
abbrev cX2_holeAt : ByteArray := prog_4_method_16_code
def yX2_holeAt : MethodName := ⟨RX2, "holeAt", "(II)I"⟩
abbrev cX2_deadBits : ByteArray := prog_4_method_17_code
def yX2_deadBits : MethodName := ⟨RX2, "deadBits", "()I"⟩
abbrev cX2_areNear : ByteArray := prog_4_method_18_code
def yX2_areNear : MethodName := ⟨RX2, "areNear", "(II)Z"⟩
abbrev cX2_columnsOff : ByteArray := prog_4_method_19_code
def yX2_columnsOff : MethodName := ⟨RX2, "columnsOff", "(II)I"⟩
abbrev cX2_firstLoadOf : ByteArray := prog_4_method_20_code
def yX2_firstLoadOf : MethodName := ⟨RX2, "firstLoadOf", "(I)I"⟩
abbrev cX2_secondLoadOf : ByteArray := prog_4_method_21_code
def yX2_secondLoadOf : MethodName := ⟨RX2, "secondLoadOf", "(I)I"⟩
abbrev cX2_loadsOf : ByteArray := prog_4_method_22_code
def yX2_loadsOf : MethodName := ⟨RX2, "loadsOf", "(I)I"⟩
abbrev cX2_hasShots : ByteArray := prog_4_method_23_code
def yX2_hasShots : MethodName := ⟨RX2, "hasShots", "(I)Z"⟩
abbrev cX2_rockOf : ByteArray := prog_4_method_24_code
def yX2_rockOf : MethodName := ⟨RX2, "rockOf", "(I)I"⟩
abbrev cX2_needsOf : ByteArray := prog_4_method_25_code
def yX2_needsOf : MethodName := ⟨RX2, "needsOf", "(I)I"⟩
abbrev cX2_reliefOf : ByteArray := prog_4_method_26_code
def yX2_reliefOf : MethodName := ⟨RX2, "reliefOf", "(II[I)I"⟩
def RX3 : String := "BlastFace$Planner"
def TX3 : u_T := fun k => match k with
  | 0 => ("BlastFace$Planner", "pattern", "LBlastFace$Pattern;", true)
  | 1 => ("BlastFace$Planner", "blast", "LBlastFace$Blast;", true)
  | 2 => ("BlastFace$Planner", "ins", "[I", true)
  | 3 => ("BlastFace$Planner", "times", "[I", true)
  | 4 => ("BlastFace$Planner", "shots", "LBlastFace$Shots;", true)
  | 5 => ("BlastFace$Planner", "settledHoles", "I", false)
  | 6 => ("BlastFace$Planner", "first", "I", false)
  | _ => ("BlastFace$Planner", "second", "I", false)
def tyX3 : Nat → FieldType := fun k => match k with
  | 0 => .object "BlastFace$Pattern"
  | 1 => .object "BlastFace$Blast"
  | 2 => .array .int
  | 3 => .array .int
  | 4 => .object "BlastFace$Shots"
  | 5 => .int
  | 6 => .int
  | _ => .int
abbrev wsX30 : List Cond := u_ws RX3 TX3 8
theorem nmX3 : ∀ a, a < 8 → ∀ b, b < 8 → a ≠ b → (TX3 a).2.1 ≠ (TX3 b).2.1 := by decide +kernel
theorem tyX3_ok : ∀ k, k < 8 → parseFieldDescriptor (TX3 k).2.2.1 = some (tyX3 k) := by decide +kernel
abbrev cX3_init : ByteArray := prog_5_method_1_code
def yX3_init : MethodName := ⟨RX3, "<init>", "(LBlastFace$Pattern;LBlastFace$Blast;)V"⟩
abbrev cX3_draw : ByteArray := prog_5_method_2_code
def yX3_draw : MethodName := ⟨RX3, "draw", "()V"⟩
abbrev cX3_settle : ByteArray := prog_5_method_3_code
def yX3_settle : MethodName := ⟨RX3, "settle", "(I)V"⟩
abbrev cX3_isQuiet : ByteArray := prog_5_method_4_code
def yX3_isQuiet : MethodName := ⟨RX3, "isQuiet", "(I)Z"⟩
abbrev cX3_shakeWith : ByteArray := prog_5_method_5_code
def yX3_shakeWith : MethodName := ⟨RX3, "shakeWith", "(II)I"⟩
abbrev cX3_latest : ByteArray := prog_5_method_6_code
def yX3_latest : MethodName := ⟨RX3, "latest", "()I"⟩
def RX4 : String := "BlastFace$Reader"
def TX4 : u_T := fun k => match k with
  | 0 => ("BlastFace$Reader", "tape", "[B", true)
  | 1 => ("BlastFace$Reader", "size", "I", false)
  | 2 => ("BlastFace$Reader", "statements", "I", false)
  | 3 => ("BlastFace$Reader", "verbs", "[I", true)
  | 4 => ("BlastFace$Reader", "places", "[I", true)
  | 5 => ("BlastFace$Reader", "arguments", "[I", true)
  | 6 => ("BlastFace$Reader", "sort", "I", false)
  | 7 => ("BlastFace$Reader", "start", "I", false)
  | _ => ("BlastFace$Reader", "stop", "I", false)
def tyX4 : Nat → FieldType := fun k => match k with
  | 0 => .array .byte
  | 1 => .int
  | 2 => .int
  | 3 => .array .int
  | 4 => .array .int
  | 5 => .array .int
  | 6 => .int
  | 7 => .int
  | _ => .int
abbrev wsX40 : List Cond := u_ws RX4 TX4 9
theorem nmX4 : ∀ a, a < 9 → ∀ b, b < 9 → a ≠ b → (TX4 a).2.1 ≠ (TX4 b).2.1 := by decide +kernel
theorem tyX4_ok : ∀ k, k < 9 → parseFieldDescriptor (TX4 k).2.2.1 = some (tyX4 k) := by decide +kernel
abbrev cX4_init : ByteArray := prog_6_method_1_code
def yX4_init : MethodName := ⟨RX4, "<init>", "()V"⟩
abbrev cX4_takeByte : ByteArray := prog_6_method_2_code
def yX4_takeByte : MethodName := ⟨RX4, "takeByte", "(I)I"⟩
abbrev cX4_parse : ByteArray := prog_6_method_3_code
def yX4_parse : MethodName := ⟨RX4, "parse", "()I"⟩
abbrev cX4_parseStatement : ByteArray := prog_6_method_4_code
def yX4_parseStatement : MethodName := ⟨RX4, "parseStatement", "()Z"⟩
abbrev cX4_verbWord : ByteArray := prog_6_method_5_code
def yX4_verbWord : MethodName := ⟨RX4, "verbWord", "(I)Ljava/lang/String;"⟩
abbrev cX4_shapeOf : ByteArray := prog_6_method_6_code
def yX4_shapeOf : MethodName := ⟨RX4, "shapeOf", "(I)Ljava/lang/String;"⟩
abbrev cX4_verbHere : ByteArray := prog_6_method_7_code
def yX4_verbHere : MethodName := ⟨RX4, "verbHere", "()I"⟩
abbrev cX4_valueHere : ByteArray := prog_6_method_8_code
def yX4_valueHere : MethodName := ⟨RX4, "valueHere", "(C)I"⟩
abbrev cX4_kindHere : ByteArray := prog_6_method_9_code
def yX4_kindHere : MethodName := ⟨RX4, "kindHere", "()I"⟩
abbrev cX4_numberHere : ByteArray := prog_6_method_10_code
def yX4_numberHere : MethodName := ⟨RX4, "numberHere", "()I"⟩
abbrev cX4_isWordHere : ByteArray := prog_6_method_11_code
def yX4_isWordHere : MethodName := ⟨RX4, "isWordHere", "(Ljava/lang/String;)Z"⟩
abbrev cX4_nextToken : ByteArray := prog_6_method_12_code
def yX4_nextToken : MethodName := ⟨RX4, "nextToken", "()V"⟩
abbrev cX4_sortOf : ByteArray := prog_6_method_13_code
def yX4_sortOf : MethodName := ⟨RX4, "sortOf", "(B)I"⟩
abbrev cX4_carryOut : ByteArray := prog_6_method_14_code
def yX4_carryOut : MethodName := ⟨RX4, "carryOut", "(LBlastFace$Pattern;)I"⟩
abbrev cX4_isDone : ByteArray := prog_6_method_15_code
def yX4_isDone : MethodName := ⟨RX4, "isDone", "(LBlastFace$Pattern;I)Z"⟩
def RX5 : String := "BlastFace$Scribe"
def TX5 : u_T := fun k => match k with
  | 0 => ("BlastFace$Scribe", "bytes", "[B", true)
  | _ => ("BlastFace$Scribe", "size", "I", false)
def tyX5 : Nat → FieldType := fun k => match k with
  | 0 => .array .byte
  | _ => .int
abbrev wsX50 : List Cond := u_ws RX5 TX5 2
theorem nmX5 : ∀ a, a < 2 → ∀ b, b < 2 → a ≠ b → (TX5 a).2.1 ≠ (TX5 b).2.1 := by decide +kernel
theorem tyX5_ok : ∀ k, k < 2 → parseFieldDescriptor (TX5 k).2.2.1 = some (tyX5 k) := by decide +kernel
abbrev cX5_init : ByteArray := prog_7_method_1_code
def yX5_init : MethodName := ⟨RX5, "<init>", "()V"⟩
abbrev cX5_write : ByteArray := prog_7_method_2_code
def yX5_write : MethodName := ⟨RX5, "write", "(LBlastFace$Pattern;)V"⟩
abbrev cX5_writeHole : ByteArray := prog_7_method_3_code
def yX5_writeHole : MethodName := ⟨RX5, "writeHole", "(LBlastFace$Pattern;I)V"⟩
abbrev cX5_writeWire : ByteArray := prog_7_method_4_code
def yX5_writeWire : MethodName := ⟨RX5, "writeWire", "(LBlastFace$Pattern;I)V"⟩
abbrev cX5_begin : ByteArray := prog_7_method_5_code
def yX5_begin : MethodName := ⟨RX5, "begin", "(Ljava/lang/String;)V"⟩
abbrev cX5_writeWord : ByteArray := prog_7_method_6_code
def yX5_writeWord : MethodName := ⟨RX5, "writeWord", "(Ljava/lang/String;)V"⟩
abbrev cX5_writeLetters : ByteArray := prog_7_method_7_code
def yX5_writeLetters : MethodName := ⟨RX5, "writeLetters", "(Ljava/lang/String;)V"⟩
abbrev cX5_writeNumber : ByteArray := prog_7_method_8_code
def yX5_writeNumber : MethodName := ⟨RX5, "writeNumber", "(I)V"⟩
abbrev cX5_writeByte : ByteArray := prog_7_method_9_code
def yX5_writeByte : MethodName := ⟨RX5, "writeByte", "(I)V"⟩
def RX6 : String := "BlastFace$Shelf"
def TX6 : u_T := fun k => match k with
  | 0 => ("BlastFace$Shelf", "items", "[[J", true)
  | _ => ("BlastFace$Shelf", "sizes", "[I", true)
def tyX6 : Nat → FieldType := fun k => match k with
  | 0 => .array (.array .long)
  | _ => .array .int
abbrev wsX60 : List Cond := u_ws RX6 TX6 2
theorem nmX6 : ∀ a, a < 2 → ∀ b, b < 2 → a ≠ b → (TX6 a).2.1 ≠ (TX6 b).2.1 := by decide +kernel
theorem tyX6_ok : ∀ k, k < 2 → parseFieldDescriptor (TX6 k).2.2.1 = some (tyX6 k) := by decide +kernel
abbrev cX6_init : ByteArray := prog_8_method_1_code
def yX6_init : MethodName := ⟨RX6, "<init>", "()V"⟩
abbrev cX6_isList : ByteArray := prog_8_method_2_code
def yX6_isList : MethodName := ⟨RX6, "isList", "(I)Z"⟩
abbrev cX6_isMissing : ByteArray := prog_8_method_3_code
def yX6_isMissing : MethodName := ⟨RX6, "isMissing", "(I)Z"⟩
abbrev cX6_hasPlace : ByteArray := prog_8_method_4_code
def yX6_hasPlace : MethodName := ⟨RX6, "hasPlace", "(II)Z"⟩
abbrev cX6_hasSpan : ByteArray := prog_8_method_5_code
def yX6_hasSpan : MethodName := ⟨RX6, "hasSpan", "(III)Z"⟩
abbrev cX6_renew : ByteArray := prog_8_method_6_code
def yX6_renew : MethodName := ⟨RX6, "renew", "(II)V"⟩
abbrev cX6_copyIn : ByteArray := prog_8_method_7_code
def yX6_copyIn : MethodName := ⟨RX6, "copyIn", "(I[II)I"⟩
abbrev cX6_firstOther : ByteArray := prog_8_method_8_code
def yX6_firstOther : MethodName := ⟨RX6, "firstOther", "(I[II)I"⟩
def RX7 : String := "BlastFace$Shots"
def TX7 : u_T := fun k => match k with
  | 0 => ("BlastFace$Shots", "times", "[I", true)
  | 1 => ("BlastFace$Shots", "weights", "[I", true)
  | 2 => ("BlastFace$Shots", "holes", "[I", true)
  | 3 => ("BlastFace$Shots", "size", "I", false)
  | 4 => ("BlastFace$Shots", "greatest", "I", false)
  | 5 => ("BlastFace$Shots", "greatestAt", "I", false)
  | _ => ("BlastFace$Shots", "over", "I", false)
def tyX7 : Nat → FieldType := fun k => match k with
  | 0 => .array .int
  | 1 => .array .int
  | 2 => .array .int
  | 3 => .int
  | 4 => .int
  | 5 => .int
  | _ => .int
abbrev wsX70 : List Cond := u_ws RX7 TX7 7
theorem nmX7 : ∀ a, a < 7 → ∀ b, b < 7 → a ≠ b → (TX7 a).2.1 ≠ (TX7 b).2.1 := by decide +kernel
theorem tyX7_ok : ∀ k, k < 7 → parseFieldDescriptor (TX7 k).2.2.1 = some (tyX7 k) := by decide +kernel
abbrev cX7_init : ByteArray := prog_9_method_1_code
def yX7_init : MethodName := ⟨RX7, "<init>", "()V"⟩
abbrev cX7_clear : ByteArray := prog_9_method_2_code
def yX7_clear : MethodName := ⟨RX7, "clear", "()V"⟩
abbrev cX7_addAll : ByteArray := prog_9_method_3_code
def yX7_addAll : MethodName := ⟨RX7, "addAll", "(LBlastFace$Pattern;II)V"⟩
abbrev cX7_insert : ByteArray := prog_9_method_4_code
def yX7_insert : MethodName := ⟨RX7, "insert", "(III)V"⟩
abbrev cX7_shakeAt : ByteArray := prog_9_method_5_code
def yX7_shakeAt : MethodName := ⟨RX7, "shakeAt", "(II)I"⟩
abbrev cX7_weigh : ByteArray := prog_9_method_6_code
def yX7_weigh : MethodName := ⟨RX7, "weigh", "(II)V"⟩
abbrev cX7_weighAt : ByteArray := prog_9_method_7_code
def yX7_weighAt : MethodName := ⟨RX7, "weighAt", "(III)V"⟩
abbrev cX7_weightOfFirst : ByteArray := prog_9_method_8_code
def yX7_weightOfFirst : MethodName := ⟨RX7, "weightOfFirst", "(I)I"⟩
abbrev cX7_lastTimeOfFirst : ByteArray := prog_9_method_9_code
def yX7_lastTimeOfFirst : MethodName := ⟨RX7, "lastTimeOfFirst", "(I)I"⟩
abbrev cX7_holesBehind : ByteArray := prog_9_method_10_code
def yX7_holesBehind : MethodName := ⟨RX7, "holesBehind", "(I)I"⟩
def RX8 : String := "BlastFace"
def TX8 : u_T := fun k => match k with
  | 0 => ("BlastFace", "now", "LBlastFace$Pattern;", true)
  | 1 => ("BlastFace", "kept", "LBlastFace$Pattern;", true)
  | 2 => ("BlastFace", "draft", "LBlastFace$Pattern;", true)
  | 3 => ("BlastFace", "real", "LBlastFace$Blast;", true)
  | 4 => ("BlastFace", "thought", "LBlastFace$Blast;", true)
  | 5 => ("BlastFace", "planner", "LBlastFace$Planner;", true)
  | 6 => ("BlastFace", "scribe", "LBlastFace$Scribe;", true)
  | 7 => ("BlastFace", "reader", "LBlastFace$Reader;", true)
  | 8 => ("BlastFace", "shelf", "LBlastFace$Shelf;", true)
  | 9 => ("BlastFace", "laid", "[I", true)
  | 10 => ("BlastFace", "hasImage", "Z", false)
  | 11 => ("BlastFace", "isReckoned", "Z", false)
  | 12 => ("BlastFace", "isDrawn", "Z", false)
  | 13 => ("BlastFace", "isWritten", "Z", false)
  | _ => ("BlastFace", "texts", "I", false)
def tyX8 : Nat → FieldType := fun k => match k with
  | 0 => .object "BlastFace$Pattern"
  | 1 => .object "BlastFace$Pattern"
  | 2 => .object "BlastFace$Pattern"
  | 3 => .object "BlastFace$Blast"
  | 4 => .object "BlastFace$Blast"
  | 5 => .object "BlastFace$Planner"
  | 6 => .object "BlastFace$Scribe"
  | 7 => .object "BlastFace$Reader"
  | 8 => .object "BlastFace$Shelf"
  | 9 => .array .int
  | 10 => .boolean
  | 11 => .boolean
  | 12 => .boolean
  | 13 => .boolean
  | _ => .int
abbrev wsX80 : List Cond := u_ws RX8 TX8 15
theorem nmX8 : ∀ a, a < 15 → ∀ b, b < 15 → a ≠ b → (TX8 a).2.1 ≠ (TX8 b).2.1 := by decide +kernel
theorem tyX8_ok : ∀ k, k < 15 → parseFieldDescriptor (TX8 k).2.2.1 = some (tyX8 k) := by decide +kernel
abbrev cX8_init : ByteArray := prog_1_method_1_code
def yX8_init : MethodName := ⟨RX8, "<init>", "()V"⟩
abbrev cX8_hole : ByteArray := prog_1_method_2_code
def yX8_hole : MethodName := ⟨RX8, "hole", "(IIIIII)I"⟩
abbrev cX8_of : ByteArray := prog_1_method_3_code
def yX8_of : MethodName := ⟨RX8, "of", "(II)I"⟩
abbrev cX8_becomes : ByteArray := prog_1_method_4_code
def yX8_becomes : MethodName := ⟨RX8, "becomes", "(III)I"⟩
abbrev cX8_taken : ByteArray := prog_1_method_5_code
def yX8_taken : MethodName := ⟨RX8, "taken", "(II)I"⟩
abbrev cX8_wire : ByteArray := prog_1_method_6_code
def yX8_wire : MethodName := ⟨RX8, "wire", "(III)I"⟩
abbrev cX8_wired : ByteArray := prog_1_method_7_code
def yX8_wired : MethodName := ⟨RX8, "wired", "(II)I"⟩
abbrev cX8_cut : ByteArray := prog_1_method_8_code
def yX8_cut : MethodName := ⟨RX8, "cut", "(I)I"⟩
abbrev cX8_rule : ByteArray := prog_1_method_9_code
def yX8_rule : MethodName := ⟨RX8, "rule", "(II)I"⟩
abbrev cX8_drop : ByteArray := prog_1_method_10_code
def yX8_drop : MethodName := ⟨RX8, "drop", "()I"⟩
abbrev cX8_time : ByteArray := prog_1_method_11_code
def yX8_time : MethodName := ⟨RX8, "time", "(II)I"⟩
abbrev cX8_shot : ByteArray := prog_1_method_12_code
def yX8_shot : MethodName := ⟨RX8, "shot", "(II)I"⟩
abbrev cX8_shake : ByteArray := prog_1_method_13_code
def yX8_shake : MethodName := ⟨RX8, "shake", "(I)I"⟩
abbrev cX8_worst : ByteArray := prog_1_method_14_code
def yX8_worst : MethodName := ⟨RX8, "worst", "(I)I"⟩
abbrev cX8_safe : ByteArray := prog_1_method_15_code
def yX8_safe : MethodName := ⟨RX8, "safe", "(I)I"⟩
abbrev cX8_ring : ByteArray := prog_1_method_16_code
def yX8_ring : MethodName := ⟨RX8, "ring", "(I)J"⟩
abbrev cX8_sets : ByteArray := prog_1_method_17_code
def yX8_sets : MethodName := ⟨RX8, "sets", "(I)I"⟩
abbrev cX8_loads : ByteArray := prog_1_method_18_code
def yX8_loads : MethodName := ⟨RX8, "loads", "(IIIII)I"⟩
abbrev cX8_misfire : ByteArray := prog_1_method_19_code
def yX8_misfire : MethodName := ⟨RX8, "misfire", "(II)I"⟩
abbrev cX8_broken : ByteArray := prog_1_method_20_code
def yX8_broken : MethodName := ⟨RX8, "broken", "(II)I"⟩
abbrev cX8_critical : ByteArray := prog_1_method_21_code
def yX8_critical : MethodName := ⟨RX8, "critical", "(I)I"⟩
abbrev cX8_plan : ByteArray := prog_1_method_22_code
def yX8_plan : MethodName := ⟨RX8, "plan", "(I)I"⟩
abbrev cX8_planned : ByteArray := prog_1_method_23_code
def yX8_planned : MethodName := ⟨RX8, "planned", "(I)I"⟩
abbrev cX8_adopt : ByteArray := prog_1_method_24_code
def yX8_adopt : MethodName := ⟨RX8, "adopt", "()I"⟩
abbrev cX8_feed : ByteArray := prog_1_method_25_code
def yX8_feed : MethodName := ⟨RX8, "feed", "(I)I"⟩
abbrev cX8_read : ByteArray := prog_1_method_26_code
def yX8_read : MethodName := ⟨RX8, "read", "()I"⟩
abbrev cX8_spell : ByteArray := prog_1_method_27_code
def yX8_spell : MethodName := ⟨RX8, "spell", "()I"⟩
abbrev cX8_paper : ByteArray := prog_1_method_28_code
def yX8_paper : MethodName := ⟨RX8, "paper", "(I)I"⟩
abbrev cX8_step : ByteArray := prog_1_method_29_code
def yX8_step : MethodName := ⟨RX8, "step", "()I"⟩
abbrev cX8_stepped : ByteArray := prog_1_method_30_code
def yX8_stepped : MethodName := ⟨RX8, "stepped", "(I)I"⟩
abbrev cX8_list : ByteArray := prog_1_method_31_code
def yX8_list : MethodName := ⟨RX8, "list", "(II)I"⟩
abbrev cX8_put : ByteArray := prog_1_method_32_code
def yX8_put : MethodName := ⟨RX8, "put", "(IIJ)I"⟩
abbrev cX8_get : ByteArray := prog_1_method_33_code
def yX8_get : MethodName := ⟨RX8, "get", "(II)J"⟩
abbrev cX8_fill : ByteArray := prog_1_method_34_code
def yX8_fill : MethodName := ⟨RX8, "fill", "(II)I"⟩
abbrev cX8_judge : ByteArray := prog_1_method_35_code
def yX8_judge : MethodName := ⟨RX8, "judge", "(II)I"⟩
abbrev cX8_move : ByteArray := prog_1_method_36_code
def yX8_move : MethodName := ⟨RX8, "move", "(IIIII)I"⟩
abbrev cX8_count : ByteArray := prog_1_method_37_code
def yX8_count : MethodName := ⟨RX8, "count", "(I)I"⟩
abbrev cX8_image : ByteArray := prog_1_method_38_code
def yX8_image : MethodName := ⟨RX8, "image", "()I"⟩
abbrev cX8_undo : ByteArray := prog_1_method_39_code
def yX8_undo : MethodName := ⟨RX8, "undo", "()I"⟩
abbrev cX8_settled : ByteArray := prog_1_method_40_code
def yX8_settled : MethodName := ⟨RX8, "settled", "(I)I"⟩
abbrev cX8_forget : ByteArray := prog_1_method_41_code
def yX8_forget : MethodName := ⟨RX8, "forget", "()V"⟩
abbrev cX8_reckoned : ByteArray := prog_1_method_42_code
def yX8_reckoned : MethodName := ⟨RX8, "reckoned", "()LBlastFace$Blast;"⟩
abbrev cX8_drawn : ByteArray := prog_1_method_43_code
def yX8_drawn : MethodName := ⟨RX8, "drawn", "()LBlastFace$Planner;"⟩
abbrev cX8_written : ByteArray := prog_1_method_44_code
def yX8_written : MethodName := ⟨RX8, "written", "()LBlastFace$Scribe;"⟩
abbrev cX8_think : ByteArray := prog_1_method_45_code
def yX8_think : MethodName := ⟨RX8, "think", "(II)V"⟩
abbrev cX8_lostBy : ByteArray := prog_1_method_46_code
def yX8_lostBy : MethodName := ⟨RX8, "lostBy", "(I)I"⟩
abbrev cX8_bared : ByteArray := prog_1_method_47_code
def yX8_bared : MethodName := ⟨RX8, "bared", "()I"⟩
abbrev cX8_isHarm : ByteArray := prog_1_method_48_code
def yX8_isHarm : MethodName := ⟨RX8, "isHarm", "(I)Z"⟩
abbrev cX8_harmTold : ByteArray := prog_1_method_49_code
def yX8_harmTold : MethodName := ⟨RX8, "harmTold", "(III)I"⟩
abbrev cX8_mostHarmful : ByteArray := prog_1_method_50_code
def yX8_mostHarmful : MethodName := ⟨RX8, "mostHarmful", "(IZ)I"⟩
abbrev cX8_bitOf : ByteArray := prog_1_method_51_code
def yX8_bitOf : MethodName := ⟨RX8, "bitOf", "(I)I"⟩
abbrev cX8_hasBit : ByteArray := prog_1_method_52_code
def yX8_hasBit : MethodName := ⟨RX8, "hasBit", "(II)Z"⟩
abbrev cX8_rootAbove : ByteArray := prog_1_method_53_code
def yX8_rootAbove : MethodName := ⟨RX8, "rootAbove", "(I)I"⟩
def RX9 : String := "BlastFaceModel"
def TX9 : u_T := fun k => match k with
  | 0 => ("BlastFaceModel", "now", "[I", true)
  | 1 => ("BlastFaceModel", "kept", "[I", true)
  | 2 => ("BlastFaceModel", "aside", "[I", true)
  | 3 => ("BlastFaceModel", "hasImage", "Z", false)
  | 4 => ("BlastFaceModel", "texts", "I", false)
  | 5 => ("BlastFaceModel", "signal", "[I", true)
  | 6 => ("BlastFaceModel", "time", "[I", true)
  | 7 => ("BlastFaceModel", "firing", "I", false)
  | 8 => ("BlastFaceModel", "buried", "I", false)
  | 9 => ("BlastFaceModel", "shotTime", "[I", true)
  | 10 => ("BlastFaceModel", "shotLoad", "[I", true)
  | 11 => ("BlastFaceModel", "shotHole", "[I", true)
  | 12 => ("BlastFaceModel", "shots", "I", false)
  | 13 => ("BlastFaceModel", "lost", "I", false)
  | 14 => ("BlastFaceModel", "bared", "I", false)
  | 15 => ("BlastFaceModel", "worstThen", "I", false)
  | 16 => ("BlastFaceModel", "overThen", "I", false)
  | 17 => ("BlastFaceModel", "plannedIn", "[I", true)
  | 18 => ("BlastFaceModel", "plannedSet", "I", false)
  | 19 => ("BlastFaceModel", "tape", "[I", true)
  | 20 => ("BlastFaceModel", "size", "I", false)
  | 21 => ("BlastFaceModel", "letters", "[C", true)
  | 22 => ("BlastFaceModel", "begins", "[I", true)
  | 23 => ("BlastFaceModel", "at", "I", false)
  | 24 => ("BlastFaceModel", "begun", "I", false)
  | 25 => ("BlastFaceModel", "token", "I", false)
  | 26 => ("BlastFaceModel", "number", "I", false)
  | 27 => ("BlastFaceModel", "refusedAt", "I", false)
  | 28 => ("BlastFaceModel", "numbers", "[I", true)
  | 29 => ("BlastFaceModel", "paper", "[I", true)
  | 30 => ("BlastFaceModel", "paperMany", "I", false)
  | 31 => ("BlastFaceModel", "items", "[J", true)
  | 32 => ("BlastFaceModel", "sizes", "[I", true)
  | 33 => ("BlastFaceModel", "laid", "[I", true)
  | _ => ("BlastFaceModel", "carried", "[J", true)
def tyX9 : Nat → FieldType := fun k => match k with
  | 0 => .array .int
  | 1 => .array .int
  | 2 => .array .int
  | 3 => .boolean
  | 4 => .int
  | 5 => .array .int
  | 6 => .array .int
  | 7 => .int
  | 8 => .int
  | 9 => .array .int
  | 10 => .array .int
  | 11 => .array .int
  | 12 => .int
  | 13 => .int
  | 14 => .int
  | 15 => .int
  | 16 => .int
  | 17 => .array .int
  | 18 => .int
  | 19 => .array .int
  | 20 => .int
  | 21 => .array .char
  | 22 => .array .int
  | 23 => .int
  | 24 => .int
  | 25 => .int
  | 26 => .int
  | 27 => .int
  | 28 => .array .int
  | 29 => .array .int
  | 30 => .int
  | 31 => .array .long
  | 32 => .array .int
  | 33 => .array .int
  | _ => .array .long
abbrev wsX90 : List Cond := u_ws RX9 TX9 35
theorem nmX9 : ∀ a, a < 35 → ∀ b, b < 35 → a ≠ b → (TX9 a).2.1 ≠ (TX9 b).2.1 := by decide +kernel
theorem tyX9_ok : ∀ k, k < 35 → parseFieldDescriptor (TX9 k).2.2.1 = some (tyX9 k) := by decide +kernel
abbrev cX9_init : ByteArray := prog_11_method_1_code
def yX9_init : MethodName := ⟨RX9, "<init>", "()V"⟩
abbrev cX9_in : ByteArray := prog_11_method_2_code
def yX9_in : MethodName := ⟨RX9, "in", "(JJJ)Z"⟩
abbrev cX9_less : ByteArray := prog_11_method_3_code
def yX9_less : MethodName := ⟨RX9, "less", "(II)I"⟩
abbrev cX9_abs : ByteArray := prog_11_method_4_code
def yX9_abs : MethodName := ⟨RX9, "abs", "(I)I"⟩
abbrev cX9_copies : ByteArray := prog_11_method_5_code
def yX9_copies : MethodName := ⟨RX9, "copies", "([I[I)V"⟩
abbrev cX9_countOf : ByteArray := prog_11_method_6_code
def yX9_countOf : MethodName := ⟨RX9, "countOf", "(I)I"⟩
abbrev cX9_isHole : ByteArray := prog_11_method_7_code
def yX9_isHole : MethodName := ⟨RX9, "isHole", "(I)Z"⟩
abbrev cX9_isWire : ByteArray := prog_11_method_8_code
def yX9_isWire : MethodName := ⟨RX9, "isWire", "(I)Z"⟩
abbrev cX9_its : ByteArray := prog_11_method_9_code
def yX9_its : MethodName := ⟨RX9, "its", "(II)I"⟩
abbrev cX9_wires : ByteArray := prog_11_method_10_code
def yX9_wires : MethodName := ⟨RX9, "wires", "(II)I"⟩
abbrev cX9_isDead : ByteArray := prog_11_method_11_code
def yX9_isDead : MethodName := ⟨RX9, "isDead", "(I)Z"⟩
abbrev cX9_isUnder : ByteArray := prog_11_method_12_code
def yX9_isUnder : MethodName := ⟨RX9, "isUnder", "(II)Z"⟩
abbrev cX9_firstLoad : ByteArray := prog_11_method_13_code
def yX9_firstLoad : MethodName := ⟨RX9, "firstLoad", "(I)I"⟩
abbrev cX9_secondLoad : ByteArray := prog_11_method_14_code
def yX9_secondLoad : MethodName := ⟨RX9, "secondLoad", "(I)I"⟩
abbrev cX9_loadsOf : ByteArray := prog_11_method_15_code
def yX9_loadsOf : MethodName := ⟨RX9, "loadsOf", "(I)I"⟩
abbrev cX9_rockOf : ByteArray := prog_11_method_16_code
def yX9_rockOf : MethodName := ⟨RX9, "rockOf", "(I)I"⟩
abbrev cX9_needsOf : ByteArray := prog_11_method_17_code
def yX9_needsOf : MethodName := ⟨RX9, "needsOf", "(I)I"⟩
abbrev cX9_madeBy : ByteArray := prog_11_method_18_code
def yX9_madeBy : MethodName := ⟨RX9, "madeBy", "(III)I"⟩
abbrev cX9_isTaken : ByteArray := prog_11_method_19_code
def yX9_isTaken : MethodName := ⟨RX9, "isTaken", "(II)Z"⟩
abbrev cX9_hole : ByteArray := prog_11_method_20_code
def yX9_hole : MethodName := ⟨RX9, "hole", "(IIIIII)I"⟩
abbrev cX9_aheadOf : ByteArray := prog_11_method_21_code
def yX9_aheadOf : MethodName := ⟨RX9, "aheadOf", "(I)I"⟩
abbrev cX9_of : ByteArray := prog_11_method_22_code
def yX9_of : MethodName := ⟨RX9, "of", "(II)I"⟩
abbrev cX9_becomes : ByteArray := prog_11_method_23_code
def yX9_becomes : MethodName := ⟨RX9, "becomes", "(III)I"⟩
abbrev cX9_taken : ByteArray := prog_11_method_24_code
def yX9_taken : MethodName := ⟨RX9, "taken", "(II)I"⟩
abbrev cX9_wire : ByteArray := prog_11_method_25_code
def yX9_wire : MethodName := ⟨RX9, "wire", "(III)I"⟩
abbrev cX9_cuts : ByteArray := prog_11_method_26_code
def yX9_cuts : MethodName := ⟨RX9, "cuts", "(I)V"⟩
abbrev cX9_cut : ByteArray := prog_11_method_27_code
def yX9_cut : MethodName := ⟨RX9, "cut", "(I)I"⟩
abbrev cX9_rule : ByteArray := prog_11_method_28_code
def yX9_rule : MethodName := ⟨RX9, "rule", "(II)I"⟩
abbrev cX9_drop : ByteArray := prog_11_method_29_code
def yX9_drop : MethodName := ⟨RX9, "drop", "()I"⟩
abbrev cX9_endOf : ByteArray := prog_11_method_30_code
def yX9_endOf : MethodName := ⟨RX9, "endOf", "(I)I"⟩
abbrev cX9_signals : ByteArray := prog_11_method_31_code
def yX9_signals : MethodName := ⟨RX9, "signals", "()V"⟩
abbrev cX9_has : ByteArray := prog_11_method_32_code
def yX9_has : MethodName := ⟨RX9, "has", "(II)Z"⟩
abbrev cX9_isRelieved : ByteArray := prog_11_method_33_code
def yX9_isRelieved : MethodName := ⟨RX9, "isRelieved", "(II)Z"⟩
abbrev cX9_fires : ByteArray := prog_11_method_34_code
def yX9_fires : MethodName := ⟨RX9, "fires", "()V"⟩
abbrev cX9_isTorn : ByteArray := prog_11_method_35_code
def yX9_isTorn : MethodName := ⟨RX9, "isTorn", "(I)Z"⟩
abbrev cX9_wired : ByteArray := prog_11_method_36_code
def yX9_wired : MethodName := ⟨RX9, "wired", "(II)I"⟩
abbrev cX9_ringOf : ByteArray := prog_11_method_37_code
def yX9_ringOf : MethodName := ⟨RX9, "ringOf", "(I)I"⟩
abbrev cX9_time : ByteArray := prog_11_method_38_code
def yX9_time : MethodName := ⟨RX9, "time", "(II)I"⟩
abbrev cX9_shoots : ByteArray := prog_11_method_39_code
def yX9_shoots : MethodName := ⟨RX9, "shoots", "(III)V"⟩
abbrev cX9_laysShots : ByteArray := prog_11_method_40_code
def yX9_laysShots : MethodName := ⟨RX9, "laysShots", "(I)V"⟩
abbrev cX9_shakeAt : ByteArray := prog_11_method_41_code
def yX9_shakeAt : MethodName := ⟨RX9, "shakeAt", "(I)I"⟩
abbrev cX9_worstTime : ByteArray := prog_11_method_42_code
def yX9_worstTime : MethodName := ⟨RX9, "worstTime", "()I"⟩
abbrev cX9_worstShake : ByteArray := prog_11_method_43_code
def yX9_worstShake : MethodName := ⟨RX9, "worstShake", "()I"⟩
abbrev cX9_over : ByteArray := prog_11_method_44_code
def yX9_over : MethodName := ⟨RX9, "over", "()I"⟩
abbrev cX9_lays : ByteArray := prog_11_method_45_code
def yX9_lays : MethodName := ⟨RX9, "lays", "()V"⟩
abbrev cX9_shot : ByteArray := prog_11_method_46_code
def yX9_shot : MethodName := ⟨RX9, "shot", "(II)I"⟩
abbrev cX9_shake : ByteArray := prog_11_method_47_code
def yX9_shake : MethodName := ⟨RX9, "shake", "(I)I"⟩
abbrev cX9_worst : ByteArray := prog_11_method_48_code
def yX9_worst : MethodName := ⟨RX9, "worst", "(I)I"⟩
abbrev cX9_safe : ByteArray := prog_11_method_49_code
def yX9_safe : MethodName := ⟨RX9, "safe", "(I)I"⟩
abbrev cX9_ring : ByteArray := prog_11_method_50_code
def yX9_ring : MethodName := ⟨RX9, "ring", "(I)J"⟩
abbrev cX9_sets : ByteArray := prog_11_method_51_code
def yX9_sets : MethodName := ⟨RX9, "sets", "(I)I"⟩
abbrev cX9_loads : ByteArray := prog_11_method_52_code
def yX9_loads : MethodName := ⟨RX9, "loads", "(IIIII)I"⟩
abbrev cX9_compares : ByteArray := prog_11_method_53_code
def yX9_compares : MethodName := ⟨RX9, "compares", "(III)V"⟩
abbrev cX9_misfires : ByteArray := prog_11_method_54_code
def yX9_misfires : MethodName := ⟨RX9, "misfires", "(I)V"⟩
abbrev cX9_breaks : ByteArray := prog_11_method_55_code
def yX9_breaks : MethodName := ⟨RX9, "breaks", "(I)V"⟩
abbrev cX9_told : ByteArray := prog_11_method_56_code
def yX9_told : MethodName := ⟨RX9, "told", "(I)I"⟩
abbrev cX9_misfire : ByteArray := prog_11_method_57_code
def yX9_misfire : MethodName := ⟨RX9, "misfire", "(II)I"⟩
abbrev cX9_broken : ByteArray := prog_11_method_58_code
def yX9_broken : MethodName := ⟨RX9, "broken", "(II)I"⟩
abbrev cX9_critical : ByteArray := prog_11_method_59_code
def yX9_critical : MethodName := ⟨RX9, "critical", "(I)I"⟩
abbrev cX9_fits : ByteArray := prog_11_method_60_code
def yX9_fits : MethodName := ⟨RX9, "fits", "(I)Z"⟩
abbrev cX9_plans : ByteArray := prog_11_method_61_code
def yX9_plans : MethodName := ⟨RX9, "plans", "(I)V"⟩
abbrev cX9_plans_ : ByteArray := prog_11_method_62_code
def yX9_plans_ : MethodName := ⟨RX9, "plans", "()V"⟩
abbrev cX9_plan : ByteArray := prog_11_method_63_code
def yX9_plan : MethodName := ⟨RX9, "plan", "(I)I"⟩
abbrev cX9_planned : ByteArray := prog_11_method_64_code
def yX9_planned : MethodName := ⟨RX9, "planned", "(I)I"⟩
abbrev cX9_adopt : ByteArray := prog_11_method_65_code
def yX9_adopt : MethodName := ⟨RX9, "adopt", "()I"⟩
abbrev cX9_feed : ByteArray := prog_11_method_66_code
def yX9_feed : MethodName := ⟨RX9, "feed", "(I)I"⟩
abbrev cX9_here : ByteArray := prog_11_method_67_code
def yX9_here : MethodName := ⟨RX9, "here", "()I"⟩
abbrev cX9_wordHere : ByteArray := prog_11_method_68_code
def yX9_wordHere : MethodName := ⟨RX9, "wordHere", "()I"⟩
abbrev cX9_numberHere : ByteArray := prog_11_method_69_code
def yX9_numberHere : MethodName := ⟨RX9, "numberHere", "()I"⟩
abbrev cX9_next : ByteArray := prog_11_method_70_code
def yX9_next : MethodName := ⟨RX9, "next", "()V"⟩
abbrev cX9_takesNumber : ByteArray := prog_11_method_71_code
def yX9_takesNumber : MethodName := ⟨RX9, "takesNumber", "(I)Z"⟩
abbrev cX9_takesNumbers : ByteArray := prog_11_method_72_code
def yX9_takesNumbers : MethodName := ⟨RX9, "takesNumbers", "(II)Z"⟩
abbrev cX9_takesHole : ByteArray := prog_11_method_73_code
def yX9_takesHole : MethodName := ⟨RX9, "takesHole", "()Z"⟩
abbrev cX9_takesWire : ByteArray := prog_11_method_74_code
def yX9_takesWire : MethodName := ⟨RX9, "takesWire", "()Z"⟩
abbrev cX9_does : ByteArray := prog_11_method_75_code
def yX9_does : MethodName := ⟨RX9, "does", "(I)Z"⟩
abbrev cX9_takesStatement : ByteArray := prog_11_method_76_code
def yX9_takesStatement : MethodName := ⟨RX9, "takesStatement", "()Z"⟩
abbrev cX9_read : ByteArray := prog_11_method_77_code
def yX9_read : MethodName := ⟨RX9, "read", "()I"⟩
abbrev cX9_sign : ByteArray := prog_11_method_78_code
def yX9_sign : MethodName := ⟨RX9, "sign", "(I)V"⟩
abbrev cX9_spells : ByteArray := prog_11_method_79_code
def yX9_spells : MethodName := ⟨RX9, "spells", "(I)V"⟩
abbrev cX9_number : ByteArray := prog_11_method_80_code
def yX9_number : MethodName := ⟨RX9, "number", "(I)V"⟩
abbrev cX9_spell : ByteArray := prog_11_method_81_code
def yX9_spell : MethodName := ⟨RX9, "spell", "()I"⟩
abbrev cX9_paper : ByteArray := prog_11_method_82_code
def yX9_paper : MethodName := ⟨RX9, "paper", "(I)I"⟩
abbrev cX9_step : ByteArray := prog_11_method_83_code
def yX9_step : MethodName := ⟨RX9, "step", "()I"⟩
abbrev cX9_stepped : ByteArray := prog_11_method_84_code
def yX9_stepped : MethodName := ⟨RX9, "stepped", "(I)I"⟩
abbrev cX9_isList : ByteArray := prog_11_method_85_code
def yX9_isList : MethodName := ⟨RX9, "isList", "(I)Z"⟩
abbrev cX9_list : ByteArray := prog_11_method_86_code
def yX9_list : MethodName := ⟨RX9, "list", "(II)I"⟩
abbrev cX9_put : ByteArray := prog_11_method_87_code
def yX9_put : MethodName := ⟨RX9, "put", "(IIJ)I"⟩
abbrev cX9_get : ByteArray := prog_11_method_88_code
def yX9_get : MethodName := ⟨RX9, "get", "(II)J"⟩
abbrev cX9_layable : ByteArray := prog_11_method_89_code
def yX9_layable : MethodName := ⟨RX9, "layable", "(I)I"⟩
abbrev cX9_fill : ByteArray := prog_11_method_90_code
def yX9_fill : MethodName := ⟨RX9, "fill", "(II)I"⟩
abbrev cX9_judge : ByteArray := prog_11_method_91_code
def yX9_judge : MethodName := ⟨RX9, "judge", "(II)I"⟩
abbrev cX9_move : ByteArray := prog_11_method_92_code
def yX9_move : MethodName := ⟨RX9, "move", "(IIIII)I"⟩
abbrev cX9_count : ByteArray := prog_11_method_93_code
def yX9_count : MethodName := ⟨RX9, "count", "(I)I"⟩
abbrev cX9_image : ByteArray := prog_11_method_94_code
def yX9_image : MethodName := ⟨RX9, "image", "()I"⟩
abbrev cX9_undo : ByteArray := prog_11_method_95_code
def yX9_undo : MethodName := ⟨RX9, "undo", "()I"⟩
def RJx145de : String := "java/io/Serializable"
def TJx145de : u_T := fun k => match k with
  | _ => ("", "", "", false)
def tyJx145de : Nat → FieldType := fun k => match k with
  | _ => .int
abbrev wsJx145de0 : List Cond := u_ws RJx145de TJx145de 0
theorem nmJx145de : ∀ a, a < 0 → ∀ b, b < 0 → a ≠ b → (TJx145de a).2.1 ≠ (TJx145de b).2.1 := by decide +kernel
theorem tyJx145de_ok : ∀ k, k < 0 → parseFieldDescriptor (TJx145de k).2.2.1 = some (tyJx145de k) := by decide +kernel
def RJx9f9b0 : String := "java/lang/CharSequence"
def TJx9f9b0 : u_T := fun k => match k with
  | _ => ("", "", "", false)
def tyJx9f9b0 : Nat → FieldType := fun k => match k with
  | _ => .int
abbrev wsJx9f9b00 : List Cond := u_ws RJx9f9b0 TJx9f9b0 0
theorem nmJx9f9b0 : ∀ a, a < 0 → ∀ b, b < 0 → a ≠ b → (TJx9f9b0 a).2.1 ≠ (TJx9f9b0 b).2.1 := by decide +kernel
theorem tyJx9f9b0_ok : ∀ k, k < 0 → parseFieldDescriptor (TJx9f9b0 k).2.2.1 = some (tyJx9f9b0 k) := by decide +kernel
def RJxb160c : String := "java/lang/Comparable"
def TJxb160c : u_T := fun k => match k with
  | _ => ("", "", "", false)
def tyJxb160c : Nat → FieldType := fun k => match k with
  | _ => .int
abbrev wsJxb160c0 : List Cond := u_ws RJxb160c TJxb160c 0
theorem nmJxb160c : ∀ a, a < 0 → ∀ b, b < 0 → a ≠ b → (TJxb160c a).2.1 ≠ (TJxb160c b).2.1 := by decide +kernel
theorem tyJxb160c_ok : ∀ k, k < 0 → parseFieldDescriptor (TJxb160c k).2.2.1 = some (tyJxb160c k) := by decide +kernel
def RJ6 : String := "java/lang/Integer"
def TJ6 : u_T := fun k => match k with
  | _ => ("", "", "", false)
def tyJ6 : Nat → FieldType := fun k => match k with
  | _ => .int
abbrev wsJ60 : List Cond := u_ws RJ6 TJ6 0
theorem nmJ6 : ∀ a, a < 0 → ∀ b, b < 0 → a ≠ b → (TJ6 a).2.1 ≠ (TJ6 b).2.1 := by decide +kernel
theorem tyJ6_ok : ∀ k, k < 0 → parseFieldDescriptor (TJ6 k).2.2.1 = some (tyJ6 k) := by decide +kernel
abbrev cJ6_bitCount_0f7a4 : ByteArray := prog_12_method_49_code
def yJ6_bitCount_0f7a4 : MethodName := ⟨RJ6, "bitCount", "(I)I"⟩
def RJ9 : String := "java/lang/Math"
def TJ9 : u_T := fun k => match k with
  | _ => ("", "", "", false)
def tyJ9 : Nat → FieldType := fun k => match k with
  | _ => .int
abbrev wsJ90 : List Cond := u_ws RJ9 TJ9 0
theorem nmJ9 : ∀ a, a < 0 → ∀ b, b < 0 → a ≠ b → (TJ9 a).2.1 ≠ (TJ9 b).2.1 := by decide +kernel
theorem tyJ9_ok : ∀ k, k < 0 → parseFieldDescriptor (TJ9 k).2.2.1 = some (tyJ9 k) := by decide +kernel
abbrev cJ9_abs_0f7a4 : ByteArray := prog_13_method_59_code
def yJ9_abs_0f7a4 : MethodName := ⟨RJ9, "abs", "(I)I"⟩
abbrev cJ9_max_7cf53 : ByteArray := prog_13_method_65_code
def yJ9_max_7cf53 : MethodName := ⟨RJ9, "max", "(II)I"⟩
abbrev cJ9_min_7cf53 : ByteArray := prog_13_method_69_code
def yJ9_min_7cf53 : MethodName := ⟨RJ9, "min", "(II)I"⟩
def RJ0 : String := "java/lang/String"
def TJ0 : u_T := fun k => match k with
  | _ => ("", "", "", false)
def tyJ0 : Nat → FieldType := fun k => match k with
  | _ => .int
abbrev wsJ00 : List Cond := u_ws RJ0 TJ0 0
theorem nmJ0 : ∀ a, a < 0 → ∀ b, b < 0 → a ≠ b → (TJ0 a).2.1 ≠ (TJ0 b).2.1 := by decide +kernel
theorem tyJ0_ok : ∀ k, k < 0 → parseFieldDescriptor (TJ0 k).2.2.1 = some (tyJ0 k) := by decide +kernel
abbrev cJ0_length_8abf5 : ByteArray := prog_14_method_54_code
def yJ0_length_8abf5 : MethodName := ⟨RJ0, "length", "()I"⟩
abbrev cJ0_charAt_5068e : ByteArray := prog_14_method_56_code
def yJ0_charAt_5068e : MethodName := ⟨RJ0, "charAt", "(I)C"⟩
abbrev cJ0_coder_7d493 : ByteArray := prog_14_method_152_code
def yJ0_coder_7d493 : MethodName := ⟨RJ0, "coder", "()B"⟩
abbrev cJ0_isLatin1_aae02 : ByteArray := prog_14_method_154_code
def yJ0_isLatin1_aae02 : MethodName := ⟨RJ0, "isLatin1", "()Z"⟩
abbrev cJ0_checkIndex_df160 : ByteArray := prog_14_method_155_code
def yJ0_checkIndex_df160 : MethodName := ⟨RJ0, "checkIndex", "(II)V"⟩
def RJ1 : String := "java/lang/StringLatin1"
def TJ1 : u_T := fun k => match k with
  | _ => ("", "", "", false)
def tyJ1 : Nat → FieldType := fun k => match k with
  | _ => .int
abbrev wsJ10 : List Cond := u_ws RJ1 TJ1 0
theorem nmJ1 : ∀ a, a < 0 → ∀ b, b < 0 → a ≠ b → (TJ1 a).2.1 ≠ (TJ1 b).2.1 := by decide +kernel
theorem tyJ1_ok : ∀ k, k < 0 → parseFieldDescriptor (TJ1 k).2.2.1 = some (tyJ1 k) := by decide +kernel
abbrev cJ1_charAt_3b067 : ByteArray := prog_15_method_2_code
def yJ1_charAt_3b067 : MethodName := ⟨RJ1, "charAt", "([BI)C"⟩
def RJ2 : String := "java/lang/StringUTF16"
def TJ2 : u_T := fun k => match k with
  | _ => ("", "", "", false)
def tyJ2 : Nat → FieldType := fun k => match k with
  | _ => .int
abbrev wsJ20 : List Cond := u_ws RJ2 TJ2 0
theorem nmJ2 : ∀ a, a < 0 → ∀ b, b < 0 → a ≠ b → (TJ2 a).2.1 ≠ (TJ2 b).2.1 := by decide +kernel
theorem tyJ2_ok : ∀ k, k < 0 → parseFieldDescriptor (TJ2 k).2.2.1 = some (tyJ2 k) := by decide +kernel
abbrev cJ2_getChar_3b067 : ByteArray := prog_16_method_5_code
def yJ2_getChar_3b067 : MethodName := ⟨RJ2, "getChar", "([BI)C"⟩
abbrev cJ2_length_9d52b : ByteArray := prog_16_method_6_code
def yJ2_length_9d52b : MethodName := ⟨RJ2, "length", "([B)I"⟩
abbrev cJ2_charAt_3b067 : ByteArray := prog_16_method_83_code
def yJ2_charAt_3b067 : MethodName := ⟨RJ2, "charAt", "([BI)C"⟩
abbrev cJ2_checkIndex_2214a : ByteArray := prog_16_method_91_code
def yJ2_checkIndex_2214a : MethodName := ⟨RJ2, "checkIndex", "(I[B)V"⟩
def RJ10 : String := "java/lang/System"
def TJ10 : u_T := fun k => match k with
  | _ => ("", "", "", false)
def tyJ10 : Nat → FieldType := fun k => match k with
  | _ => .int
abbrev wsJ100 : List Cond := u_ws RJ10 TJ10 0
theorem nmJ10 : ∀ a, a < 0 → ∀ b, b < 0 → a ≠ b → (TJ10 a).2.1 ≠ (TJ10 b).2.1 := by decide +kernel
theorem tyJ10_ok : ∀ k, k < 0 → parseFieldDescriptor (TJ10 k).2.2.1 = some (tyJ10 k) := by decide +kernel
def RJxfd54e : String := "java/lang/constant/Constable"
def TJxfd54e : u_T := fun k => match k with
  | _ => ("", "", "", false)
def tyJxfd54e : Nat → FieldType := fun k => match k with
  | _ => .int
abbrev wsJxfd54e0 : List Cond := u_ws RJxfd54e TJxfd54e 0
theorem nmJxfd54e : ∀ a, a < 0 → ∀ b, b < 0 → a ≠ b → (TJxfd54e a).2.1 ≠ (TJxfd54e b).2.1 := by decide +kernel
theorem tyJxfd54e_ok : ∀ k, k < 0 → parseFieldDescriptor (TJxfd54e k).2.2.1 = some (tyJxfd54e k) := by decide +kernel
def RJx3cf43 : String := "java/lang/constant/ConstantDesc"
def TJx3cf43 : u_T := fun k => match k with
  | _ => ("", "", "", false)
def tyJx3cf43 : Nat → FieldType := fun k => match k with
  | _ => .int
abbrev wsJx3cf430 : List Cond := u_ws RJx3cf43 TJx3cf43 0
theorem nmJx3cf43 : ∀ a, a < 0 → ∀ b, b < 0 → a ≠ b → (TJx3cf43 a).2.1 ≠ (TJx3cf43 b).2.1 := by decide +kernel
theorem tyJx3cf43_ok : ∀ k, k < 0 → parseFieldDescriptor (TJx3cf43 k).2.2.1 = some (tyJx3cf43 k) := by decide +kernel
def RJ7 : String := "java/util/Arrays"
def TJ7 : u_T := fun k => match k with
  | _ => ("", "", "", false)
def tyJ7 : Nat → FieldType := fun k => match k with
  | _ => .int
abbrev wsJ70 : List Cond := u_ws RJ7 TJ7 0
theorem nmJ7 : ∀ a, a < 0 → ∀ b, b < 0 → a ≠ b → (TJ7 a).2.1 ≠ (TJ7 b).2.1 := by decide +kernel
theorem tyJ7_ok : ∀ k, k < 0 → parseFieldDescriptor (TJ7 k).2.2.1 = some (tyJ7 k) := by decide +kernel
abbrev cJ7_fill_d0a16 : ByteArray := prog_18_method_101_code
def yJ7_fill_d0a16 : MethodName := ⟨RJ7, "fill", "([JJ)V"⟩
abbrev cJ7_fill_53178 : ByteArray := prog_18_method_103_code
def yJ7_fill_53178 : MethodName := ⟨RJ7, "fill", "([II)V"⟩
def RJ3 : String := "jdk/internal/util/Preconditions"
def TJ3 : u_T := fun k => match k with
  | _ => ("", "", "", false)
def tyJ3 : Nat → FieldType := fun k => match k with
  | _ => .int
abbrev wsJ30 : List Cond := u_ws RJ3 TJ3 0
theorem nmJ3 : ∀ a, a < 0 → ∀ b, b < 0 → a ≠ b → (TJ3 a).2.1 ≠ (TJ3 b).2.1 := by decide +kernel
theorem tyJ3_ok : ∀ k, k < 0 → parseFieldDescriptor (TJ3 k).2.2.1 = some (tyJ3 k) := by decide +kernel
abbrev cJ3_checkIndex_8e157 : ByteArray := prog_19_method_11_code
def yJ3_checkIndex_8e157 : MethodName := ⟨RJ3, "checkIndex", "(IILjava/util/function/BiFunction;)I"⟩
def RL : String := "BlastFaceLaw"
abbrev cL_law : ByteArray := code
def yL_law : MethodName := ⟨RL, "law", "([I)Z"⟩
theorem mem_pl {big : List Cond} (ws : List Cond) (ps : List Nat) (hp : ws = ps.filterMap (fun i => big[i]?)) : ∀ w ∈ ws, w ∈ big := by
  intro w hw
  rw [hp] at hw
  obtain ⟨i, -, hi⟩ := List.mem_filterMap.mp hw
  exact List.mem_of_getElem? hi
theorem inX0 : ∀ w ∈ wsX00, w ∈ lw_tbl := mem_pl _ [212, 214, 216, 218, 220, 222, 224] (by decide +kernel)
theorem inX2 : ∀ w ∈ wsX20, w ∈ lw_tbl := mem_pl _ [140, 142, 144, 146, 148, 150] (by decide +kernel)
theorem inX3 : ∀ w ∈ wsX30, w ∈ lw_tbl := mem_pl _ [246, 248, 250, 252, 254, 256, 258, 260] (by decide +kernel)
theorem inX4 : ∀ w ∈ wsX40, w ∈ lw_tbl := mem_pl _ [296, 298, 300, 302, 304, 306, 308, 310, 312] (by decide +kernel)
theorem inX5 : ∀ w ∈ wsX50, w ∈ lw_tbl := mem_pl _ [273, 275] (by decide +kernel)
theorem inX6 : ∀ w ∈ wsX60, w ∈ lw_tbl := mem_pl _ [326, 328] (by decide +kernel)
theorem inX7 : ∀ w ∈ wsX70, w ∈ lw_tbl := mem_pl _ [184, 186, 188, 190, 192, 194, 196] (by decide +kernel)
theorem inX8 : ∀ w ∈ wsX80, w ∈ lw_tbl := mem_pl _ [347, 349, 351, 353, 355, 357, 359, 361, 363, 365, 367, 369, 371, 373, 375] (by decide +kernel)
theorem inX9 : ∀ w ∈ wsX90, w ∈ lw_tbl := mem_pl _ [1124, 1126, 1128, 1130, 1132, 1134, 1136, 1138, 1140, 1142, 1144, 1146, 1148, 1150, 1152, 1154, 1156, 1158, 1160, 1162, 1164, 1166, 1168, 1170, 1172, 1174, 1176, 1178, 1180, 1182, 1184, 1186, 1188, 1190, 1192] (by decide +kernel)
abbrev vwCl : List vw_C := [(RX0, TX0, 7), (RX2, TX2, 6), (RX3, TX3, 8), (RX4, TX4, 9), (RX5, TX5, 2), (RX6, TX6, 2), (RX7, TX7, 7), (RX8, TX8, 15), (RX9, TX9, 35)]
end
section
/-! abstract values: an int, a long, a place of the world -/
abbrev AV : Type := Int32 ⊕ (Int64 ⊕ Nat)
abbrev St : Type := (Nat → Nat → Int32) × (Nat → Nat → Int64)
abbrev Lo : Type := List (Option AV)
abbrev aI (x : Int32) : AV := Sum.inl x
abbrev aL (x : Int64) : AV := Sum.inr (Sum.inl x)
abbrev aR (k : Nat) : AV := Sum.inr (Sum.inr k)
def cv (ad : Nat → Nat) (v : AV) : Value := match v with
  | .inl x => .int x
  | .inr (.inl x) => .long x
  | .inr (.inr k) => .ref (ad k)
/-- a cell of the world: 0, its class in vwCl, its fields (none: an int); or an array: 1 int, 2 byte, 3 char, 4 long, 5 of long rows; its length -/
abbrev Cel : Type := Nat × Nat × List (Option Nat)
def shape : List Cel := [(0, 7, [some 1, some 5, some 9, some 13, some 20, some 27, some 34, some 36, some 41, some 48, none, none, none, none, none]),
  (0, 1, [some 2, some 3, some 4, none, none, none]),
  (1, 180, []),
  (1, 120, []),
  (1, 3, []),
  (0, 1, [some 6, some 7, some 8, none, none, none]),
  (1, 180, []),
  (1, 120, []),
  (1, 3, []),
  (0, 1, [some 10, some 11, some 12, none, none, none]),
  (1, 180, []),
  (1, 120, []),
  (1, 3, []),
  (0, 0, [some 1, some 14, some 15, some 16, none, none, none]),
  (1, 20, []),
  (1, 20, []),
  (0, 6, [some 17, some 18, some 19, none, none, none, none]),
  (1, 40, []),
  (1, 40, []),
  (1, 40, []),
  (0, 0, [some 1, some 21, some 22, some 23, none, none, none]),
  (1, 20, []),
  (1, 20, []),
  (0, 6, [some 24, some 25, some 26, none, none, none, none]),
  (1, 40, []),
  (1, 40, []),
  (1, 40, []),
  (0, 2, [some 1, some 13, some 28, some 29, some 30, none, none, none]),
  (1, 20, []),
  (1, 20, []),
  (0, 6, [some 31, some 32, some 33, none, none, none, none]),
  (1, 40, []),
  (1, 40, []),
  (1, 40, []),
  (0, 4, [some 35, none]),
  (2, 1239, []),
  (0, 3, [some 37, none, none, some 38, some 39, some 40, none, none, none]),
  (2, 80, []),
  (1, 13, []),
  (1, 13, []),
  (1, 78, []),
  (0, 5, [some 42, some 47]),
  (5, 4, [some 43, some 44, some 45, some 46]),
  (4, 40, []),
  (4, 40, []),
  (4, 40, []),
  (4, 40, []),
  (1, 4, []),
  (1, 40, []),
  (0, 8, [some 50, some 51, some 52, none, none, some 53, some 54, none, none, some 55, some 56, some 57, none, none, none, none, none, some 58, none, some 59, none, some 60, some 61, none, none, none, none, none, some 62, some 63, none, some 64, some 65, some 66, some 67]),
  (1, 286, []),
  (1, 286, []),
  (1, 286, []),
  (1, 20, []),
  (1, 20, []),
  (1, 40, []),
  (1, 40, []),
  (1, 40, []),
  (1, 20, []),
  (1, 80, []),
  (3, 56, []),
  (1, 13, []),
  (1, 6, []),
  (1, 2000, []),
  (4, 160, []),
  (1, 4, []),
  (1, 40, []),
  (4, 40, [])]
def NP : Nat := 68
def stA : List (String × String × List Int32) := [("BlastFace", "FIRST_RULE", [8, 100, 25]), ("BlastFace", "LEAST_MARK", [0, 0, 0, 1, 1, 0, 0]), ("BlastFace", "MOST_MARK", [4, 9, 5, 99, 20, 999, 1]), ("BlastFace$Kind", "ABOVE", [-1, 0, 0, 2, 1, 4]), ("BlastFace", "LEAST_RULE", [1, 1, 5]), ("BlastFace", "MOST_RULE", [99, 9999, 99])]
def strT : List String := ["hole", "wire", "window", "limit", "pace", "dead", "nnknnn", "fnn", "n", "slim", "deck", "heavy", "buffer", "dummy", "start"]
def strN : Nat := 15
def strLen : List Nat := [4, 4, 6, 5, 4, 4, 6, 3, 1, 4, 4, 5, 6, 5, 5]
def strByt : List (List Int32) := [[104, 111, 108, 101], [119, 105, 114, 101], [119, 105, 110, 100, 111, 119], [108, 105, 109, 105, 116], [112, 97, 99, 101], [100, 101, 97, 100], [110, 110, 107, 110, 110, 110], [102, 110, 110], [110], [115, 108, 105, 109], [100, 101, 99, 107], [104, 101, 97, 118, 121], [98, 117, 102, 102, 101, 114], [100, 117, 109, 109, 121], [115, 116, 97, 114, 116]]
/-- class, entry, text, its number -/
def strR : List (String × Nat × String × Nat) := [("BlastFace$Reader", 69, "hole", 0), ("BlastFace$Reader", 71, "wire", 1), ("BlastFace$Reader", 73, "window", 2), ("BlastFace$Reader", 75, "limit", 3), ("BlastFace$Reader", 77, "pace", 4), ("BlastFace$Reader", 79, "dead", 5), ("BlastFace$Reader", 81, "nnknnn", 6), ("BlastFace$Reader", 83, "fnn", 7), ("BlastFace$Reader", 85, "n", 8), ("BlastFace$Kind", 19, "hole", 0), ("BlastFace$Kind", 21, "slim", 9), ("BlastFace$Kind", 23, "deck", 10), ("BlastFace$Kind", 25, "heavy", 11), ("BlastFace$Kind", 27, "buffer", 12), ("BlastFace$Kind", 29, "dummy", 13), ("BlastFace$Reader", 97, "start", 14), ("BlastFace$Scribe", 34, "hole", 0), ("BlastFace$Scribe", 57, "wire", 1), ("BlastFace$Scribe", 62, "start", 14)]
def nestF : List (String × Nat × String × String × String × String) := [("BlastFace$Pattern", 21, "BlastFace", "FIRST_RULE", "[I", "BlastFace"), ("BlastFace$Pattern", 40, "BlastFace", "LEAST_MARK", "[I", "BlastFace"), ("BlastFace$Pattern", 43, "BlastFace", "MOST_MARK", "[I", "BlastFace"), ("BlastFace$Pattern", 90, "BlastFace", "LEAST_RULE", "[I", "BlastFace"), ("BlastFace$Pattern", 93, "BlastFace", "MOST_RULE", "[I", "BlastFace"), ("BlastFace$Planner", 46, "BlastFace", "MOST_MARK", "[I", "BlastFace")]
def nestM : List (String × Nat × MethodName × String) := [("BlastFace$Blast", 20, ⟨"BlastFace$Shots", "<init>", "()V"⟩, "BlastFace"), ("BlastFace$Planner", 20, ⟨"BlastFace$Shots", "<init>", "()V"⟩, "BlastFace"), ("BlastFace", 47, ⟨"BlastFace$Scribe", "<init>", "()V"⟩, "BlastFace"), ("BlastFace", 54, ⟨"BlastFace$Reader", "<init>", "()V"⟩, "BlastFace"), ("BlastFace", 61, ⟨"BlastFace$Shelf", "<init>", "()V"⟩, "BlastFace"), ("BlastFace$Pattern", 67, ⟨"BlastFace", "bitOf", "(I)I"⟩, "BlastFace"), ("BlastFace$Blast", 83, ⟨"BlastFace", "hasBit", "(II)Z"⟩, "BlastFace"), ("BlastFace$Blast", 96, ⟨"BlastFace", "bitOf", "(I)I"⟩, "BlastFace"), ("BlastFace$Pattern", 119, ⟨"BlastFace", "hasBit", "(II)Z"⟩, "BlastFace"), ("BlastFace$Planner", 100, ⟨"BlastFace", "bitOf", "(I)I"⟩, "BlastFace"), ("BlastFace$Shots", 59, ⟨"BlastFace", "bitOf", "(I)I"⟩, "BlastFace")]
def flds (ad : Nat → Nat) (f : Nat → Int32) : Nat → List (Option Nat) → List Value
  | _, [] => []
  | j, none :: t => .int (f j) :: flds ad f (j + 1) t
  | j, some r :: t => .ref (ad r) :: flds ad f (j + 1) t
def cellV (cy : Nat → ClassId) (ad : Nat → Nat) (σ : St) (k : Nat) (c : Cel) : va_E :=
  if c.1 = 0 then .inr (c.2.1, flds ad (σ.1 k) 0 c.2.2)
  else if c.1 = 4 then .inl (cy 4, c.2.1, .inr (.inl (σ.2 k)))
  else if c.1 = 5 then .inl (cy 5, c.2.1, .inr (.inr (.inr (.inr (fun i => (c.2.2.getD i none).map ad)))))
  else .inl (cy c.1, c.2.1, .inl (σ.1 k))
def WS (cy : Nat → ClassId) (ad : Nat → Nat) (σ : St) : va_W := shape.mapIdx (fun k c => (ad k, cellV cy ad σ k c))
def tysOf (cy : Nat → ClassId) : List (ClassId × FieldType) := [(cy 1, .int), (cy 2, .byte), (cy 3, .char), (cy 4, .long), (cy 5, .array .long)]
theorem WS_get {cy : Nat → ClassId} {ad : Nat → Nat} {σ : St} {k : Nat} {c : Cel} (h : shape[k]? = some c) : (WS cy ad σ)[k]? = some (ad k, cellV cy ad σ k c) := by
  simp [WS, List.getElem?_mapIdx, h]
theorem WS_of {cy : Nat → ClassId} {ad : Nat → Nat} {σ : St} {k : Nat} {q : Nat × va_E} (h : (WS cy ad σ)[k]? = some q) : ∃ c, shape[k]? = some c ∧ q = (ad k, cellV cy ad σ k c) := by
  simp only [WS, List.getElem?_mapIdx] at h
  cases hc : shape[k]? with
  | none => rw [hc] at h; cases h
  | some c => rw [hc] at h; cases h; exact ⟨c, rfl, rfl⟩
theorem WS_set {cy : Nat → ClassId} {ad : Nat → Nat} {σ σ' : St} {k : Nat} {c : Cel} {E : va_E} (h : shape[k]? = some c) (h1 : cellV cy ad σ' k c = E) (h2 : ∀ (j : Nat) (d : Cel), j ≠ k → cellV cy ad σ' j d = cellV cy ad σ j d) : (WS cy ad σ).set k (ad k, E) = WS cy ad σ' := by
  apply List.ext_getElem?
  intro j
  have hk : k < shape.length := (List.getElem?_eq_some_iff.mp h).1
  by_cases hj : j = k
  · subst hj
    rw [WS_get h, h1]
    simp [WS, hk]
  · rw [List.getElem?_set_ne (fun q => hj q.symm)]
    simp only [WS, List.getElem?_mapIdx]
    cases shape[j]? with
    | none => rfl
    | some d => simp only [Option.map_some, h2 j d hj]
/-- the places lie apart, in A -/
def Apart (ad : Nat → Nat) (A : Nat → Prop) : Prop := (∀ i j : Nat, i < NP → j < NP → ad i = ad j → i = j) ∧ ∀ k : Nat, k < NP → A (ad k)
theorem shape_lt {k : Nat} {c : Cel} (h : shape[k]? = some c) : k < NP := (List.getElem?_eq_some_iff.mp h).1
theorem WS_D {cy : Nat → ClassId} {ad : Nat → Nat} {σ : St} {A : Nat → Prop} (h : Apart ad A) : va_D A (WS cy ad σ) := by
  refine ⟨fun i j p q h1 h2 he => ?_, fun k q h1 => ?_⟩
  · obtain ⟨c, hc, rfl⟩ := WS_of h1
    obtain ⟨d, hd, rfl⟩ := WS_of h2
    exact h.1 i j (shape_lt hc) (shape_lt hd) he
  · obtain ⟨c, hc, rfl⟩ := WS_of h1
    exact h.2 k (shape_lt hc)
/-- what lies outside: static arrays, strings, nest mates' links -/
def Ex (ad : Nat → Nat) (A : Nat → Prop) (U : State) (H : Heap) : Prop :=
  (∀ (i : Nat) (q : String × String × List Int32), stA[i]? = some q → va_Z q.1 q.2.1 "[I" (.ref (ad (100 + i))) A U H ∧ va_T .int (ad (100 + i)) q.2.2.length (fun j => .int (q.2.2.getD j 0)) A U H)
  ∧ vk_S strN strLen strByt (fun i => ad (200 + i)) (fun i => ad (300 + i)) A U H
  ∧ (∀ q ∈ strR, vk_R q.1 q.2.1 q.2.2.1 (ad (200 + q.2.2.2)) U)
  ∧ (∀ q ∈ nestF, va_Nw (.fieldLinkNest q.1 q.2.1 q.2.2.1 q.2.2.2.1 q.2.2.2.2.1 q.2.2.2.2.2) U)
  ∧ (∀ q ∈ nestM, va_Nw (.methodLinkNest q.1 q.2.1 q.2.2.1 q.2.2.2) U)
  ∧ va_Z "java/lang/String" "COMPACT_STRINGS" "Z" (.int 1) A U H
  ∧ va_Zq "jdk/internal/util/Preconditions" "SIOOBE_FORMATTER" "Ljava/util/function/BiFunction;" A U H
theorem Ex.kept {ad : Nat → Nat} {A : Nat → Prop} {U : State} {H H1 : Heap} (h : Ex ad A U H) (hq : ∀ a : Nat, a < H.size → ¬ A a → H1[a]? = H[a]?) : Ex ad A U H1 :=
  ⟨fun i q hi => ⟨(h.1 i q hi).1.kept hq, (h.1 i q hi).2.kept hq⟩, h.2.1.kept hq, h.2.2.1, h.2.2.2.1, h.2.2.2.2.1, h.2.2.2.2.2.1.kept hq, h.2.2.2.2.2.2.kept hq⟩
theorem Ex.warm {ad : Nat → Nat} {A : Nat → Prop} {s U : State} {H : Heap} (hW : s.WarmedH U.vm) (h : Ex ad A s H) : Ex ad A U H :=
  ⟨fun i q hi => ⟨va_Z.moved hW.alike (h.1 i q hi).1, va_T.moved hW.alike (h.1 i q hi).2⟩, vk_S.moved hW.alike h.2.1, fun q hq => vk_R.warm hW (h.2.2.1 q hq), fun q hq => va_Nw.warmF hW (h.2.2.2.1 q hq), fun q hq => va_Nw.warmM hW (h.2.2.2.2.1 q hq), va_Z.moved hW.alike h.2.2.2.2.2.1, va_Zq.moved hW.alike h.2.2.2.2.2.2⟩
theorem Ex.calling {ad : Nat → Nat} {A : Nat → Prop} {U : State} {g : JFrame} {mk : MethodId} {a : Array Value} (h : Ex ad A U U.heap) : Ex ad A (U.calling g mk a) (U.calling g mk a).heap := by
  have hv : U.vm.Alike (U.calling g mk a).vm := Vm.Alike.refl U.vm
  exact ⟨fun i q hi => ⟨va_Z.moved hv (h.1 i q hi).1, va_T.moved hv (h.1 i q hi).2⟩, vk_S.moved hv h.2.1, fun q hq => vk_R.same rfl (h.2.2.1 q hq), fun q hq => va_Nw.same rfl rfl (h.2.2.2.1 q hq), fun q hq => va_Nw.same rfl rfl (h.2.2.2.2.1 q hq), va_Z.moved hv h.2.2.2.2.2.1, va_Zq.moved hv h.2.2.2.2.2.2⟩
/-- locals -/
def prs (ad : Nat → Nat) : Nat → Lo → List (Nat × Value)
  | _, [] => []
  | i, some v :: t => (i, cv ad v) :: prs ad (i + 1) t
  | i, none :: t => prs ad (i + 1) t
theorem prs_mem {ad : Nat → Nat} {v : AV} : ∀ {lo : Lo} {i j : Nat}, lo[j]? = some (some v) → (i + j, cv ad v) ∈ prs ad i lo
  | [], i, j, h => by simp at h
  | some w :: t, i, 0, h => by
    simp only [List.getElem?_cons_zero, Option.some.injEq] at h
    subst h
    exact List.mem_cons_self
  | none :: t, i, 0, h => by simp at h
  | some w :: t, i, j + 1, h => by
    have := prs_mem (ad := ad) (lo := t) (i := i + 1) (j := j) (by simpa using h)
    rw [show i + 1 + j = i + (j + 1) by omega] at this
    exact List.mem_cons_of_mem _ this
  | none :: t, i, j + 1, h => by
    have := prs_mem (ad := ad) (lo := t) (i := i + 1) (j := j) (by simpa using h)
    rw [show i + 1 + j = i + (j + 1) by omega] at this
    exact this
theorem prs_of {ad : Nat → Nat} : ∀ {lo : Lo} {i : Nat} {q : Nat × Value}, q ∈ prs ad i lo → ∃ (j : Nat) (v : AV), lo[j]? = some (some v) ∧ q = (i + j, cv ad v)
  | [], i, q, h => by cases h
  | some w :: t, i, q, h => by
    rcases List.mem_cons.mp h with h | h
    · exact ⟨0, w, rfl, h⟩
    · obtain ⟨j, v, h1, h2⟩ := prs_of h
      exact ⟨j + 1, v, by simpa using h1, by rw [h2, show i + 1 + j = i + (j + 1) by omega]⟩
  | none :: t, i, q, h => by
    obtain ⟨j, v, h1, h2⟩ := prs_of (ad := ad) (lo := t) (i := i + 1) h
    exact ⟨j + 1, v, by simpa using h1, by rw [h2, show i + 1 + j = i + (j + 1) by omega]⟩
/-- a long ahead of a place that is written is gone -/
def clr (lo : Lo) (i : Nat) : Lo := match i with
  | 0 => lo
  | j + 1 => match lo[j]? with
    | some (some (.inr (.inl _))) => lo.set j none
    | _ => lo
def sto (lo : Lo) (i : Nat) (v : AV) : Lo := (clr lo i).set i (some v)
def stoL (lo : Lo) (i : Nat) (v : AV) : Lo := ((clr lo i).set i (some v)).set (i + 1) none
theorem clr_at {lo : Lo} {i j : Nat} {v : AV} (h : (clr lo i)[j]? = some (some v)) : lo[j]? = some (some v) ∧ ¬ (j + 1 = i ∧ ∃ x, v = aL x) := by
  cases i with
  | zero => exact ⟨h, fun q => by omega⟩
  | succ i =>
    simp only [clr] at h
    split at h
    · by_cases hj : j = i
      · subst hj
        by_cases hl : j < lo.length
        · rw [List.getElem?_set_self hl] at h; cases h
        · rw [List.getElem?_eq_none (by simpa using hl)] at h; cases h
      · rw [List.getElem?_set_ne (fun q => hj q.symm)] at h
        exact ⟨h, fun q => hj (by omega)⟩
    · rename_i hn
      refine ⟨h, fun ⟨q, x, hx⟩ => ?_⟩
      have : j = i := by omega
      subst this
      subst hx
      exact hn x h
theorem sto_at {lo : Lo} {i j : Nat} {v w : AV} (h : (sto lo i v)[j]? = some (some w)) : (j = i ∧ w = v) ∨ (j ≠ i ∧ lo[j]? = some (some w) ∧ ¬ (j + 1 = i ∧ ∃ x, w = aL x)) := by
  by_cases hj : j = i
  · subst hj
    left
    simp only [sto] at h
    by_cases hl : j < (clr lo j).length
    · rw [List.getElem?_set_self hl] at h; cases h; exact ⟨rfl, rfl⟩
    · rw [List.getElem?_eq_none (by simpa using hl)] at h; cases h
  · right
    simp only [sto] at h
    rw [List.getElem?_set_ne (fun q => hj q.symm)] at h
    exact ⟨hj, clr_at h⟩
theorem cv_cat {ad : Nat → Nat} {v : AV} (h : (cv ad v).category = 2) : ∃ x, v = aL x := by
  rcases v with x | x | x
  · simp [cv, Value.category] at h
  · exact ⟨x, rfl⟩
  · simp [cv, Value.category] at h
theorem lo_sto {ad : Nat → Nat} {ls : Array Slot} {n i : Nat} {lo : Lo} {v : AV} (h : lv_has ls n ((i, cv ad v) :: (prs ad 0 lo).filter (fun q => !(q.1 == i) && !(q.1 + 1 == i && q.2.category == 2)))) : lv_has ls n (prs ad 0 (sto lo i v)) := by
  refine ⟨h.1, h.2.1, fun q hq => h.2.2 q ?_⟩
  obtain ⟨j, w, h1, rfl⟩ := prs_of hq
  rcases sto_at h1 with ⟨rfl, rfl⟩ | ⟨hj, h2, h3⟩
  · simp
  · refine List.mem_cons_of_mem _ (List.mem_filter.mpr ⟨prs_mem h2, ?_⟩)
    simp only [Nat.zero_add, Bool.and_eq_true, Bool.not_eq_true', beq_eq_false_iff_ne, ne_eq, hj, not_false_eq_true, true_and, Bool.and_eq_false_iff, beq_iff_eq]
    by_cases h4 : j + 1 = i
    · right
      exact fun q => h3 ⟨h4, cv_cat q⟩
    · left
      simpa using h4
theorem lo_stoL {ad : Nat → Nat} {ls : Array Slot} {n i : Nat} {lo : Lo} {v : AV} (h : lv_has ls n ((i, cv ad v) :: (prs ad 0 lo).filter (fun q => !(q.1 == i) && (!(q.1 == i + 1) && !(q.1 + 1 == i && q.2.category == 2))))) : lv_has ls n (prs ad 0 (stoL lo i v)) := by
  refine ⟨h.1, h.2.1, fun q hq => h.2.2 q ?_⟩
  obtain ⟨j, w, h1, rfl⟩ := prs_of hq
  by_cases hi : j = i + 1
  · exfalso
    subst hi
    simp only [stoL] at h1
    by_cases hl : i + 1 < ((clr lo i).set i (some v)).length
    · rw [List.getElem?_set_self hl] at h1; cases h1
    · rw [List.getElem?_eq_none (by simpa using hl)] at h1; cases h1
  · simp only [stoL] at h1
    rw [List.getElem?_set_ne (fun q => hi q.symm)] at h1
    rcases sto_at (lo := lo) (i := i) (v := v) h1 with ⟨rfl, rfl⟩ | ⟨hj, h2, h3⟩
    · simp
    · refine List.mem_cons_of_mem _ (List.mem_filter.mpr ⟨prs_mem h2, ?_⟩)
      simp only [Nat.zero_add, Bool.and_eq_true, Bool.not_eq_true', beq_eq_false_iff_ne, ne_eq, hj, hi, not_false_eq_true, true_and, Bool.and_eq_false_iff, beq_iff_eq]
      by_cases h4 : j + 1 = i
      · right
        exact fun q => h3 ⟨h4, cv_cat q⟩
      · left
        simpa using h4
theorem lo_at {ad : Nat → Nat} {ls : Array Slot} {n i : Nat} {lo : Lo} {v : AV} (h : lv_has ls n (prs ad 0 lo)) (hi : lo[i]? = some (some v)) : ls[i]? = some (.val (cv ad v)) := by
  have := h.2.2 (0 + i, cv ad v) (prs_mem hi)
  simpa using this
end
