section
-- ===== PART A: goes FIRST, ahead of the names: the tables' words, and 'selects' of the private methods out of them =====
/-- a private method of a class that the tables say can be made, by its rows of tables_1 -/
def lw_okq (q : MethodName × Nat) : Prop := (q.1.cls ≠ "java/lang/invoke/MethodHandle" ∧ q.1.cls ≠ "java/lang/invoke/VarHandle") ∧ Cond.instantiable q.1.cls q.2 ∈ tables_1 ∧ Cond.privateMethod q.1 ∈ tables_1 ∧ Cond.instanceMethod q.1 ∈ tables_1
theorem lw_p0 : lw_okq (⟨"CaseCutter", "found", "(I)I"⟩, 15) := ⟨⟨by decide +kernel, by decide +kernel⟩, List.mem_of_getElem? (i := 16) (by decide +kernel), List.mem_of_getElem? (i := 255) (by decide +kernel), List.mem_of_getElem? (i := 256) (by decide +kernel)⟩
theorem lw_p1 : lw_okq (⟨"CaseCutter$Reader", "step", "()V"⟩, 9) := ⟨⟨by decide +kernel, by decide +kernel⟩, List.mem_of_getElem? (i := 91) (by decide +kernel), List.mem_of_getElem? (i := 335) (by decide +kernel), List.mem_of_getElem? (i := 336) (by decide +kernel)⟩
theorem lw_p2 : lw_okq (⟨"CaseCutter$Reader", "stepOverWord", "()V"⟩, 9) := ⟨⟨by decide +kernel, by decide +kernel⟩, List.mem_of_getElem? (i := 91) (by decide +kernel), List.mem_of_getElem? (i := 339) (by decide +kernel), List.mem_of_getElem? (i := 340) (by decide +kernel)⟩
theorem lw_p3 : lw_okq (⟨"CaseCutter$Reader", "stepOverNumber", "(Z)V"⟩, 9) := ⟨⟨by decide +kernel, by decide +kernel⟩, List.mem_of_getElem? (i := 91) (by decide +kernel), List.mem_of_getElem? (i := 343) (by decide +kernel), List.mem_of_getElem? (i := 344) (by decide +kernel)⟩
theorem lw_p4 : lw_okq (⟨"CaseCutter$Reader", "readStatement", "(LCaseCutter$Program;)Z"⟩, 9) := ⟨⟨by decide +kernel, by decide +kernel⟩, List.mem_of_getElem? (i := 91) (by decide +kernel), List.mem_of_getElem? (i := 352) (by decide +kernel), List.mem_of_getElem? (i := 353) (by decide +kernel)⟩
theorem lw_p5 : lw_okq (⟨"CaseCutter$Reader", "isWord", "(Ljava/lang/String;)Z"⟩, 9) := ⟨⟨by decide +kernel, by decide +kernel⟩, List.mem_of_getElem? (i := 91) (by decide +kernel), List.mem_of_getElem? (i := 357) (by decide +kernel), List.mem_of_getElem? (i := 358) (by decide +kernel)⟩
theorem lw_p6 : lw_okq (⟨"CaseCutter$Reader", "readRest", "(LCaseCutter$Program;)Z"⟩, 9) := ⟨⟨by decide +kernel, by decide +kernel⟩, List.mem_of_getElem? (i := 91) (by decide +kernel), List.mem_of_getElem? (i := 409) (by decide +kernel), List.mem_of_getElem? (i := 410) (by decide +kernel)⟩
theorem lw_p7 : lw_okq (⟨"CaseCutter$Reader", "readNumber", "(JJ)Z"⟩, 9) := ⟨⟨by decide +kernel, by decide +kernel⟩, List.mem_of_getElem? (i := 91) (by decide +kernel), List.mem_of_getElem? (i := 414) (by decide +kernel), List.mem_of_getElem? (i := 415) (by decide +kernel)⟩
theorem lw_p8 : lw_okq (⟨"CaseCutter$Reader", "readSemicolon", "()Z"⟩, 9) := ⟨⟨by decide +kernel, by decide +kernel⟩, List.mem_of_getElem? (i := 91) (by decide +kernel), List.mem_of_getElem? (i := 418) (by decide +kernel), List.mem_of_getElem? (i := 419) (by decide +kernel)⟩
theorem lw_p9 : lw_okq (⟨"CaseCutter$Reader", "readName", "(LCaseCutter$Program;)Z"⟩, 9) := ⟨⟨by decide +kernel, by decide +kernel⟩, List.mem_of_getElem? (i := 91) (by decide +kernel), List.mem_of_getElem? (i := 425) (by decide +kernel), List.mem_of_getElem? (i := 426) (by decide +kernel)⟩
theorem lw_p10 : lw_okq (⟨"CaseCutter$Reader", "readNumbers", "(LCaseCutter$Program;Z)Z"⟩, 9) := ⟨⟨by decide +kernel, by decide +kernel⟩, List.mem_of_getElem? (i := 91) (by decide +kernel), List.mem_of_getElem? (i := 436) (by decide +kernel), List.mem_of_getElem? (i := 437) (by decide +kernel)⟩
theorem lw_p11 : lw_okq (⟨"CaseCutter$Reader", "readAimAndWeight", "(LCaseCutter$Program;)Z"⟩, 9) := ⟨⟨by decide +kernel, by decide +kernel⟩, List.mem_of_getElem? (i := 91) (by decide +kernel), List.mem_of_getElem? (i := 442) (by decide +kernel), List.mem_of_getElem? (i := 443) (by decide +kernel)⟩
theorem lw_p12 : lw_okq (⟨"CaseCutter$Writer", "writeWord", "(Ljava/lang/String;)V"⟩, 3) := ⟨⟨by decide +kernel, by decide +kernel⟩, List.mem_of_getElem? (i := 126) (by decide +kernel), List.mem_of_getElem? (i := 470) (by decide +kernel), List.mem_of_getElem? (i := 471) (by decide +kernel)⟩
theorem lw_p13 : lw_okq (⟨"CaseCutter$Writer", "writeByte", "(I)V"⟩, 3) := ⟨⟨by decide +kernel, by decide +kernel⟩, List.mem_of_getElem? (i := 126) (by decide +kernel), List.mem_of_getElem? (i := 476) (by decide +kernel), List.mem_of_getElem? (i := 477) (by decide +kernel)⟩
theorem lw_p14 : lw_okq (⟨"CaseCutter$Writer", "writeNumber", "(I)V"⟩, 3) := ⟨⟨by decide +kernel, by decide +kernel⟩, List.mem_of_getElem? (i := 126) (by decide +kernel), List.mem_of_getElem? (i := 480) (by decide +kernel), List.mem_of_getElem? (i := 481) (by decide +kernel)⟩
theorem lw_p15 : lw_okq (⟨"CaseCutter$Program", "record", "(II)V"⟩, 13) := ⟨⟨by decide +kernel, by decide +kernel⟩, List.mem_of_getElem? (i := 26) (by decide +kernel), List.mem_of_getElem? (i := 523) (by decide +kernel), List.mem_of_getElem? (i := 524) (by decide +kernel)⟩
def lw_privs_1 : List (MethodName × Nat) := [(⟨"CaseCutter", "found", "(I)I"⟩, 15), (⟨"CaseCutter$Reader", "step", "()V"⟩, 9), (⟨"CaseCutter$Reader", "stepOverWord", "()V"⟩, 9), (⟨"CaseCutter$Reader", "stepOverNumber", "(Z)V"⟩, 9), (⟨"CaseCutter$Reader", "readStatement", "(LCaseCutter$Program;)Z"⟩, 9), (⟨"CaseCutter$Reader", "isWord", "(Ljava/lang/String;)Z"⟩, 9), (⟨"CaseCutter$Reader", "readRest", "(LCaseCutter$Program;)Z"⟩, 9), (⟨"CaseCutter$Reader", "readNumber", "(JJ)Z"⟩, 9), (⟨"CaseCutter$Reader", "readSemicolon", "()Z"⟩, 9), (⟨"CaseCutter$Reader", "readName", "(LCaseCutter$Program;)Z"⟩, 9), (⟨"CaseCutter$Reader", "readNumbers", "(LCaseCutter$Program;Z)Z"⟩, 9), (⟨"CaseCutter$Reader", "readAimAndWeight", "(LCaseCutter$Program;)Z"⟩, 9), (⟨"CaseCutter$Writer", "writeWord", "(Ljava/lang/String;)V"⟩, 3), (⟨"CaseCutter$Writer", "writeByte", "(I)V"⟩, 3), (⟨"CaseCutter$Writer", "writeNumber", "(I)V"⟩, 3), (⟨"CaseCutter$Program", "record", "(II)V"⟩, 13)]
theorem lw_r1 : ∀ q ∈ lw_privs_1, lw_okq q := List.forall_mem_cons.mpr ⟨lw_p0, List.forall_mem_cons.mpr ⟨lw_p1, List.forall_mem_cons.mpr ⟨lw_p2, List.forall_mem_cons.mpr ⟨lw_p3, List.forall_mem_cons.mpr ⟨lw_p4, List.forall_mem_cons.mpr ⟨lw_p5, List.forall_mem_cons.mpr ⟨lw_p6, List.forall_mem_cons.mpr ⟨lw_p7, List.forall_mem_cons.mpr ⟨lw_p8, List.forall_mem_cons.mpr ⟨lw_p9, List.forall_mem_cons.mpr ⟨lw_p10, List.forall_mem_cons.mpr ⟨lw_p11, List.forall_mem_cons.mpr ⟨lw_p12, List.forall_mem_cons.mpr ⟨lw_p13, List.forall_mem_cons.mpr ⟨lw_p14, List.forall_mem_cons.mpr ⟨lw_p15, fun _ h => absurd h List.not_mem_nil⟩⟩⟩⟩⟩⟩⟩⟩⟩⟩⟩⟩⟩⟩⟩⟩
theorem lw_p16 : lw_okq (⟨"CaseCutter$Program", "remove", "(I)V"⟩, 13) := ⟨⟨by decide +kernel, by decide +kernel⟩, List.mem_of_getElem? (i := 26) (by decide +kernel), List.mem_of_getElem? (i := 536) (by decide +kernel), List.mem_of_getElem? (i := 537) (by decide +kernel)⟩
theorem lw_p17 : lw_okq (⟨"CaseCutter", "renewPlan", "()V"⟩, 15) := ⟨⟨by decide +kernel, by decide +kernel⟩, List.mem_of_getElem? (i := 16) (by decide +kernel), List.mem_of_getElem? (i := 587) (by decide +kernel), List.mem_of_getElem? (i := 588) (by decide +kernel)⟩
theorem lw_p18 : lw_okq (⟨"CaseCutter$Plan", "sortOut", "(LCaseCutter$Program;IIZZ)V"⟩, 9) := ⟨⟨by decide +kernel, by decide +kernel⟩, List.mem_of_getElem? (i := 143) (by decide +kernel), List.mem_of_getElem? (i := 595) (by decide +kernel), List.mem_of_getElem? (i := 596) (by decide +kernel)⟩
theorem lw_p19 : lw_okq (⟨"CaseCutter$Plan", "choose", "(III)V"⟩, 9) := ⟨⟨by decide +kernel, by decide +kernel⟩, List.mem_of_getElem? (i := 143) (by decide +kernel), List.mem_of_getElem? (i := 629) (by decide +kernel), List.mem_of_getElem? (i := 630) (by decide +kernel)⟩
theorem lw_p20 : lw_okq (⟨"CaseCutter$Plan", "layOut", "(III)V"⟩, 9) := ⟨⟨by decide +kernel, by decide +kernel⟩, List.mem_of_getElem? (i := 143) (by decide +kernel), List.mem_of_getElem? (i := 634) (by decide +kernel), List.mem_of_getElem? (i := 635) (by decide +kernel)⟩
theorem lw_p21 : lw_okq (⟨"CaseCutter", "markOf", "(III)I"⟩, 15) := ⟨⟨by decide +kernel, by decide +kernel⟩, List.mem_of_getElem? (i := 16) (by decide +kernel), List.mem_of_getElem? (i := 676) (by decide +kernel), List.mem_of_getElem? (i := 677) (by decide +kernel)⟩
theorem lw_p22 : lw_okq (⟨"CaseCutter", "doByLot", "(I)V"⟩, 15) := ⟨⟨by decide +kernel, by decide +kernel⟩, List.mem_of_getElem? (i := 16) (by decide +kernel), List.mem_of_getElem? (i := 726) (by decide +kernel), List.mem_of_getElem? (i := 727) (by decide +kernel)⟩
theorem lw_p23 : lw_okq (⟨"CaseCutter", "howManyAreKept", "()I"⟩, 15) := ⟨⟨by decide +kernel, by decide +kernel⟩, List.mem_of_getElem? (i := 16) (by decide +kernel), List.mem_of_getElem? (i := 754) (by decide +kernel), List.mem_of_getElem? (i := 755) (by decide +kernel)⟩
theorem lw_p24 : lw_okq (⟨"CaseCutterModel", "found", "(I)I"⟩, 35) := ⟨⟨by decide +kernel, by decide +kernel⟩, List.mem_of_getElem? (i := 776) (by decide +kernel), List.mem_of_getElem? (i := 910) (by decide +kernel), List.mem_of_getElem? (i := 911) (by decide +kernel)⟩
theorem lw_p25 : lw_okq (⟨"CaseCutterModel", "rowAt", "(II)I"⟩, 35) := ⟨⟨by decide +kernel, by decide +kernel⟩, List.mem_of_getElem? (i := 776) (by decide +kernel), List.mem_of_getElem? (i := 918) (by decide +kernel), List.mem_of_getElem? (i := 919) (by decide +kernel)⟩
theorem lw_p26 : lw_okq (⟨"CaseCutterModel", "tells", "(II)I"⟩, 35) := ⟨⟨by decide +kernel, by decide +kernel⟩, List.mem_of_getElem? (i := 776) (by decide +kernel), List.mem_of_getElem? (i := 922) (by decide +kernel), List.mem_of_getElem? (i := 923) (by decide +kernel)⟩
theorem lw_p27 : lw_okq (⟨"CaseCutterModel", "faultOf", "(I)I"⟩, 35) := ⟨⟨by decide +kernel, by decide +kernel⟩, List.mem_of_getElem? (i := 776) (by decide +kernel), List.mem_of_getElem? (i := 957) (by decide +kernel), List.mem_of_getElem? (i := 958) (by decide +kernel)⟩
theorem lw_p28 : lw_okq (⟨"CaseCutterModel", "blanks", "(I)V"⟩, 35) := ⟨⟨by decide +kernel, by decide +kernel⟩, List.mem_of_getElem? (i := 776) (by decide +kernel), List.mem_of_getElem? (i := 961) (by decide +kernel), List.mem_of_getElem? (i := 962) (by decide +kernel)⟩
theorem lw_p29 : lw_okq (⟨"CaseCutterModel", "byteAt", "(II)I"⟩, 35) := ⟨⟨by decide +kernel, by decide +kernel⟩, List.mem_of_getElem? (i := 776) (by decide +kernel), List.mem_of_getElem? (i := 965) (by decide +kernel), List.mem_of_getElem? (i := 966) (by decide +kernel)⟩
theorem lw_p30 : lw_okq (⟨"CaseCutterModel", "readsOne", "(I)Z"⟩, 35) := ⟨⟨by decide +kernel, by decide +kernel⟩, List.mem_of_getElem? (i := 776) (by decide +kernel), List.mem_of_getElem? (i := 969) (by decide +kernel), List.mem_of_getElem? (i := 970) (by decide +kernel)⟩
theorem lw_p31 : lw_okq (⟨"CaseCutterModel", "next", "(I)V"⟩, 35) := ⟨⟨by decide +kernel, by decide +kernel⟩, List.mem_of_getElem? (i := 776) (by decide +kernel), List.mem_of_getElem? (i := 973) (by decide +kernel), List.mem_of_getElem? (i := 974) (by decide +kernel)⟩
def lw_privs_2 : List (MethodName × Nat) := [(⟨"CaseCutter$Program", "remove", "(I)V"⟩, 13), (⟨"CaseCutter", "renewPlan", "()V"⟩, 15), (⟨"CaseCutter$Plan", "sortOut", "(LCaseCutter$Program;IIZZ)V"⟩, 9), (⟨"CaseCutter$Plan", "choose", "(III)V"⟩, 9), (⟨"CaseCutter$Plan", "layOut", "(III)V"⟩, 9), (⟨"CaseCutter", "markOf", "(III)I"⟩, 15), (⟨"CaseCutter", "doByLot", "(I)V"⟩, 15), (⟨"CaseCutter", "howManyAreKept", "()I"⟩, 15), (⟨"CaseCutterModel", "found", "(I)I"⟩, 35), (⟨"CaseCutterModel", "rowAt", "(II)I"⟩, 35), (⟨"CaseCutterModel", "tells", "(II)I"⟩, 35), (⟨"CaseCutterModel", "faultOf", "(I)I"⟩, 35), (⟨"CaseCutterModel", "blanks", "(I)V"⟩, 35), (⟨"CaseCutterModel", "byteAt", "(II)I"⟩, 35), (⟨"CaseCutterModel", "readsOne", "(I)Z"⟩, 35), (⟨"CaseCutterModel", "next", "(I)V"⟩, 35)]
theorem lw_r2 : ∀ q ∈ lw_privs_2, lw_okq q := List.forall_mem_cons.mpr ⟨lw_p16, List.forall_mem_cons.mpr ⟨lw_p17, List.forall_mem_cons.mpr ⟨lw_p18, List.forall_mem_cons.mpr ⟨lw_p19, List.forall_mem_cons.mpr ⟨lw_p20, List.forall_mem_cons.mpr ⟨lw_p21, List.forall_mem_cons.mpr ⟨lw_p22, List.forall_mem_cons.mpr ⟨lw_p23, List.forall_mem_cons.mpr ⟨lw_p24, List.forall_mem_cons.mpr ⟨lw_p25, List.forall_mem_cons.mpr ⟨lw_p26, List.forall_mem_cons.mpr ⟨lw_p27, List.forall_mem_cons.mpr ⟨lw_p28, List.forall_mem_cons.mpr ⟨lw_p29, List.forall_mem_cons.mpr ⟨lw_p30, List.forall_mem_cons.mpr ⟨lw_p31, fun _ h => absurd h List.not_mem_nil⟩⟩⟩⟩⟩⟩⟩⟩⟩⟩⟩⟩⟩⟩⟩⟩
theorem lw_p32 : lw_okq (⟨"CaseCutterModel", "isLetter", "(I)Z"⟩, 35) := ⟨⟨by decide +kernel, by decide +kernel⟩, List.mem_of_getElem? (i := 776) (by decide +kernel), List.mem_of_getElem? (i := 977) (by decide +kernel), List.mem_of_getElem? (i := 978) (by decide +kernel)⟩
theorem lw_p33 : lw_okq (⟨"CaseCutterModel", "isFigure", "(II)Z"⟩, 35) := ⟨⟨by decide +kernel, by decide +kernel⟩, List.mem_of_getElem? (i := 776) (by decide +kernel), List.mem_of_getElem? (i := 981) (by decide +kernel), List.mem_of_getElem? (i := 982) (by decide +kernel)⟩
theorem lw_p34 : lw_okq (⟨"CaseCutterModel", "word", "(I)I"⟩, 35) := ⟨⟨by decide +kernel, by decide +kernel⟩, List.mem_of_getElem? (i := 776) (by decide +kernel), List.mem_of_getElem? (i := 988) (by decide +kernel), List.mem_of_getElem? (i := 989) (by decide +kernel)⟩
theorem lw_p35 : lw_okq (⟨"CaseCutterModel", "readsCase", "(I)Z"⟩, 35) := ⟨⟨by decide +kernel, by decide +kernel⟩, List.mem_of_getElem? (i := 776) (by decide +kernel), List.mem_of_getElem? (i := 992) (by decide +kernel), List.mem_of_getElem? (i := 993) (by decide +kernel)⟩
theorem lw_p36 : lw_okq (⟨"CaseCutterModel", "number", "(IJJ)Z"⟩, 35) := ⟨⟨by decide +kernel, by decide +kernel⟩, List.mem_of_getElem? (i := 776) (by decide +kernel), List.mem_of_getElem? (i := 998) (by decide +kernel), List.mem_of_getElem? (i := 999) (by decide +kernel)⟩
theorem lw_p37 : lw_okq (⟨"CaseCutterModel", "fails", "()Z"⟩, 35) := ⟨⟨by decide +kernel, by decide +kernel⟩, List.mem_of_getElem? (i := 776) (by decide +kernel), List.mem_of_getElem? (i := 1002) (by decide +kernel), List.mem_of_getElem? (i := 1003) (by decide +kernel)⟩
theorem lw_p38 : lw_okq (⟨"CaseCutterModel", "readsAim", "(III)Z"⟩, 35) := ⟨⟨by decide +kernel, by decide +kernel⟩, List.mem_of_getElem? (i := 776) (by decide +kernel), List.mem_of_getElem? (i := 1009) (by decide +kernel), List.mem_of_getElem? (i := 1010) (by decide +kernel)⟩
theorem lw_p39 : lw_okq (⟨"CaseCutterModel", "ends", "(I)Z"⟩, 35) := ⟨⟨by decide +kernel, by decide +kernel⟩, List.mem_of_getElem? (i := 776) (by decide +kernel), List.mem_of_getElem? (i := 1018) (by decide +kernel), List.mem_of_getElem? (i := 1019) (by decide +kernel)⟩
theorem lw_p40 : lw_okq (⟨"CaseCutterModel", "readsRange", "(I)Z"⟩, 35) := ⟨⟨by decide +kernel, by decide +kernel⟩, List.mem_of_getElem? (i := 776) (by decide +kernel), List.mem_of_getElem? (i := 1022) (by decide +kernel), List.mem_of_getElem? (i := 1023) (by decide +kernel)⟩
theorem lw_p41 : lw_okq (⟨"CaseCutterModel", "readsName", "(I)Z"⟩, 35) := ⟨⟨by decide +kernel, by decide +kernel⟩, List.mem_of_getElem? (i := 776) (by decide +kernel), List.mem_of_getElem? (i := 1029) (by decide +kernel), List.mem_of_getElem? (i := 1030) (by decide +kernel)⟩
theorem lw_p42 : lw_okq (⟨"CaseCutterModel", "hashOf", "(I)I"⟩, 35) := ⟨⟨by decide +kernel, by decide +kernel⟩, List.mem_of_getElem? (i := 776) (by decide +kernel), List.mem_of_getElem? (i := 1033) (by decide +kernel), List.mem_of_getElem? (i := 1034) (by decide +kernel)⟩
theorem lw_p43 : lw_okq (⟨"CaseCutterModel", "readsRest", "(I)Z"⟩, 35) := ⟨⟨by decide +kernel, by decide +kernel⟩, List.mem_of_getElem? (i := 776) (by decide +kernel), List.mem_of_getElem? (i := 1037) (by decide +kernel), List.mem_of_getElem? (i := 1038) (by decide +kernel)⟩
theorem lw_p44 : lw_okq (⟨"CaseCutterModel", "writesWord", "(IIII)V"⟩, 35) := ⟨⟨by decide +kernel, by decide +kernel⟩, List.mem_of_getElem? (i := 776) (by decide +kernel), List.mem_of_getElem? (i := 1049) (by decide +kernel), List.mem_of_getElem? (i := 1050) (by decide +kernel)⟩
theorem lw_p45 : lw_okq (⟨"CaseCutterModel", "writes", "(I)V"⟩, 35) := ⟨⟨by decide +kernel, by decide +kernel⟩, List.mem_of_getElem? (i := 776) (by decide +kernel), List.mem_of_getElem? (i := 1053) (by decide +kernel), List.mem_of_getElem? (i := 1054) (by decide +kernel)⟩
theorem lw_p46 : lw_okq (⟨"CaseCutterModel", "writesNumber", "(J)V"⟩, 35) := ⟨⟨by decide +kernel, by decide +kernel⟩, List.mem_of_getElem? (i := 776) (by decide +kernel), List.mem_of_getElem? (i := 1057) (by decide +kernel), List.mem_of_getElem? (i := 1058) (by decide +kernel)⟩
theorem lw_p47 : lw_okq (⟨"CaseCutterModel", "isCase", "(I)Z"⟩, 35) := ⟨⟨by decide +kernel, by decide +kernel⟩, List.mem_of_getElem? (i := 776) (by decide +kernel), List.mem_of_getElem? (i := 1069) (by decide +kernel), List.mem_of_getElem? (i := 1070) (by decide +kernel)⟩
def lw_privs_3 : List (MethodName × Nat) := [(⟨"CaseCutterModel", "isLetter", "(I)Z"⟩, 35), (⟨"CaseCutterModel", "isFigure", "(II)Z"⟩, 35), (⟨"CaseCutterModel", "word", "(I)I"⟩, 35), (⟨"CaseCutterModel", "readsCase", "(I)Z"⟩, 35), (⟨"CaseCutterModel", "number", "(IJJ)Z"⟩, 35), (⟨"CaseCutterModel", "fails", "()Z"⟩, 35), (⟨"CaseCutterModel", "readsAim", "(III)Z"⟩, 35), (⟨"CaseCutterModel", "ends", "(I)Z"⟩, 35), (⟨"CaseCutterModel", "readsRange", "(I)Z"⟩, 35), (⟨"CaseCutterModel", "readsName", "(I)Z"⟩, 35), (⟨"CaseCutterModel", "hashOf", "(I)I"⟩, 35), (⟨"CaseCutterModel", "readsRest", "(I)Z"⟩, 35), (⟨"CaseCutterModel", "writesWord", "(IIII)V"⟩, 35), (⟨"CaseCutterModel", "writes", "(I)V"⟩, 35), (⟨"CaseCutterModel", "writesNumber", "(J)V"⟩, 35), (⟨"CaseCutterModel", "isCase", "(I)Z"⟩, 35)]
theorem lw_r3 : ∀ q ∈ lw_privs_3, lw_okq q := List.forall_mem_cons.mpr ⟨lw_p32, List.forall_mem_cons.mpr ⟨lw_p33, List.forall_mem_cons.mpr ⟨lw_p34, List.forall_mem_cons.mpr ⟨lw_p35, List.forall_mem_cons.mpr ⟨lw_p36, List.forall_mem_cons.mpr ⟨lw_p37, List.forall_mem_cons.mpr ⟨lw_p38, List.forall_mem_cons.mpr ⟨lw_p39, List.forall_mem_cons.mpr ⟨lw_p40, List.forall_mem_cons.mpr ⟨lw_p41, List.forall_mem_cons.mpr ⟨lw_p42, List.forall_mem_cons.mpr ⟨lw_p43, List.forall_mem_cons.mpr ⟨lw_p44, List.forall_mem_cons.mpr ⟨lw_p45, List.forall_mem_cons.mpr ⟨lw_p46, List.forall_mem_cons.mpr ⟨lw_p47, fun _ h => absurd h List.not_mem_nil⟩⟩⟩⟩⟩⟩⟩⟩⟩⟩⟩⟩⟩⟩⟩⟩
theorem lw_p48 : lw_okq (⟨"CaseCutterModel", "remember", "()V"⟩, 35) := ⟨⟨by decide +kernel, by decide +kernel⟩, List.mem_of_getElem? (i := 776) (by decide +kernel), List.mem_of_getElem? (i := 1089) (by decide +kernel), List.mem_of_getElem? (i := 1090) (by decide +kernel)⟩
theorem lw_p49 : lw_okq (⟨"CaseCutterModel", "becomes", "(II)I"⟩, 35) := ⟨⟨by decide +kernel, by decide +kernel⟩, List.mem_of_getElem? (i := 776) (by decide +kernel), List.mem_of_getElem? (i := 1104) (by decide +kernel), List.mem_of_getElem? (i := 1105) (by decide +kernel)⟩
theorem lw_p50 : lw_okq (⟨"CaseCutterModel", "layPlan", "()I"⟩, 35) := ⟨⟨by decide +kernel, by decide +kernel⟩, List.mem_of_getElem? (i := 776) (by decide +kernel), List.mem_of_getElem? (i := 1120) (by decide +kernel), List.mem_of_getElem? (i := 1121) (by decide +kernel)⟩
theorem lw_p51 : lw_okq (⟨"CaseCutterModel", "layCosts", "(I)I"⟩, 35) := ⟨⟨by decide +kernel, by decide +kernel⟩, List.mem_of_getElem? (i := 776) (by decide +kernel), List.mem_of_getElem? (i := 1124) (by decide +kernel), List.mem_of_getElem? (i := 1125) (by decide +kernel)⟩
theorem lw_p52 : lw_okq (⟨"CaseCutterModel", "layCost", "(III)V"⟩, 35) := ⟨⟨by decide +kernel, by decide +kernel⟩, List.mem_of_getElem? (i := 776) (by decide +kernel), List.mem_of_getElem? (i := 1128) (by decide +kernel), List.mem_of_getElem? (i := 1129) (by decide +kernel)⟩
theorem lw_p53 : lw_okq (⟨"CaseCutterModel", "weightOf", "(II)I"⟩, 35) := ⟨⟨by decide +kernel, by decide +kernel⟩, List.mem_of_getElem? (i := 776) (by decide +kernel), List.mem_of_getElem? (i := 1132) (by decide +kernel), List.mem_of_getElem? (i := 1133) (by decide +kernel)⟩
theorem lw_p54 : lw_okq (⟨"CaseCutterModel", "sortOf", "(III)I"⟩, 35) := ⟨⟨by decide +kernel, by decide +kernel⟩, List.mem_of_getElem? (i := 776) (by decide +kernel), List.mem_of_getElem? (i := 1136) (by decide +kernel), List.mem_of_getElem? (i := 1137) (by decide +kernel)⟩
theorem lw_p55 : lw_okq (⟨"CaseCutterModel", "spanOf", "(II)J"⟩, 35) := ⟨⟨by decide +kernel, by decide +kernel⟩, List.mem_of_getElem? (i := 776) (by decide +kernel), List.mem_of_getElem? (i := 1140) (by decide +kernel), List.mem_of_getElem? (i := 1141) (by decide +kernel)⟩
theorem lw_p56 : lw_okq (⟨"CaseCutterModel", "coveredBy", "(II)J"⟩, 35) := ⟨⟨by decide +kernel, by decide +kernel⟩, List.mem_of_getElem? (i := 776) (by decide +kernel), List.mem_of_getElem? (i := 1149) (by decide +kernel), List.mem_of_getElem? (i := 1150) (by decide +kernel)⟩
theorem lw_p57 : lw_okq (⟨"CaseCutterModel", "aimsOf", "(II)I"⟩, 35) := ⟨⟨by decide +kernel, by decide +kernel⟩, List.mem_of_getElem? (i := 776) (by decide +kernel), List.mem_of_getElem? (i := 1154) (by decide +kernel), List.mem_of_getElem? (i := 1155) (by decide +kernel)⟩
theorem lw_p58 : lw_okq (⟨"CaseCutterModel", "stepsBy", "(III)I"⟩, 35) := ⟨⟨by decide +kernel, by decide +kernel⟩, List.mem_of_getElem? (i := 776) (by decide +kernel), List.mem_of_getElem? (i := 1159) (by decide +kernel), List.mem_of_getElem? (i := 1160) (by decide +kernel)⟩
theorem lw_p59 : lw_okq (⟨"CaseCutterModel", "costOf", "(II)I"⟩, 35) := ⟨⟨by decide +kernel, by decide +kernel⟩, List.mem_of_getElem? (i := 776) (by decide +kernel), List.mem_of_getElem? (i := 1163) (by decide +kernel), List.mem_of_getElem? (i := 1164) (by decide +kernel)⟩
theorem lw_p60 : lw_okq (⟨"CaseCutterModel", "cutOf", "(I)I"⟩, 35) := ⟨⟨by decide +kernel, by decide +kernel⟩, List.mem_of_getElem? (i := 776) (by decide +kernel), List.mem_of_getElem? (i := 1167) (by decide +kernel), List.mem_of_getElem? (i := 1168) (by decide +kernel)⟩
theorem lw_p61 : lw_okq (⟨"CaseCutterModel", "isPart", "(I)Z"⟩, 35) := ⟨⟨by decide +kernel, by decide +kernel⟩, List.mem_of_getElem? (i := 776) (by decide +kernel), List.mem_of_getElem? (i := 1179) (by decide +kernel), List.mem_of_getElem? (i := 1180) (by decide +kernel)⟩
theorem lw_p62 : lw_okq (⟨"CaseCutterModel", "partTells", "(II)I"⟩, 35) := ⟨⟨by decide +kernel, by decide +kernel⟩, List.mem_of_getElem? (i := 776) (by decide +kernel), List.mem_of_getElem? (i := 1183) (by decide +kernel), List.mem_of_getElem? (i := 1184) (by decide +kernel)⟩
theorem lw_p63 : lw_okq (⟨"CaseCutterModel", "partSort", "(I)I"⟩, 35) := ⟨⟨by decide +kernel, by decide +kernel⟩, List.mem_of_getElem? (i := 776) (by decide +kernel), List.mem_of_getElem? (i := 1187) (by decide +kernel), List.mem_of_getElem? (i := 1188) (by decide +kernel)⟩
def lw_privs_4 : List (MethodName × Nat) := [(⟨"CaseCutterModel", "remember", "()V"⟩, 35), (⟨"CaseCutterModel", "becomes", "(II)I"⟩, 35), (⟨"CaseCutterModel", "layPlan", "()I"⟩, 35), (⟨"CaseCutterModel", "layCosts", "(I)I"⟩, 35), (⟨"CaseCutterModel", "layCost", "(III)V"⟩, 35), (⟨"CaseCutterModel", "weightOf", "(II)I"⟩, 35), (⟨"CaseCutterModel", "sortOf", "(III)I"⟩, 35), (⟨"CaseCutterModel", "spanOf", "(II)J"⟩, 35), (⟨"CaseCutterModel", "coveredBy", "(II)J"⟩, 35), (⟨"CaseCutterModel", "aimsOf", "(II)I"⟩, 35), (⟨"CaseCutterModel", "stepsBy", "(III)I"⟩, 35), (⟨"CaseCutterModel", "costOf", "(II)I"⟩, 35), (⟨"CaseCutterModel", "cutOf", "(I)I"⟩, 35), (⟨"CaseCutterModel", "isPart", "(I)Z"⟩, 35), (⟨"CaseCutterModel", "partTells", "(II)I"⟩, 35), (⟨"CaseCutterModel", "partSort", "(I)I"⟩, 35)]
theorem lw_r4 : ∀ q ∈ lw_privs_4, lw_okq q := List.forall_mem_cons.mpr ⟨lw_p48, List.forall_mem_cons.mpr ⟨lw_p49, List.forall_mem_cons.mpr ⟨lw_p50, List.forall_mem_cons.mpr ⟨lw_p51, List.forall_mem_cons.mpr ⟨lw_p52, List.forall_mem_cons.mpr ⟨lw_p53, List.forall_mem_cons.mpr ⟨lw_p54, List.forall_mem_cons.mpr ⟨lw_p55, List.forall_mem_cons.mpr ⟨lw_p56, List.forall_mem_cons.mpr ⟨lw_p57, List.forall_mem_cons.mpr ⟨lw_p58, List.forall_mem_cons.mpr ⟨lw_p59, List.forall_mem_cons.mpr ⟨lw_p60, List.forall_mem_cons.mpr ⟨lw_p61, List.forall_mem_cons.mpr ⟨lw_p62, List.forall_mem_cons.mpr ⟨lw_p63, fun _ h => absurd h List.not_mem_nil⟩⟩⟩⟩⟩⟩⟩⟩⟩⟩⟩⟩⟩⟩⟩⟩
theorem lw_p64 : lw_okq (⟨"CaseCutterModel", "partSteps", "(I)I"⟩, 35) := ⟨⟨by decide +kernel, by decide +kernel⟩, List.mem_of_getElem? (i := 776) (by decide +kernel), List.mem_of_getElem? (i := 1191) (by decide +kernel), List.mem_of_getElem? (i := 1192) (by decide +kernel)⟩
theorem lw_p65 : lw_okq (⟨"CaseCutterModel", "markOf", "(II)I"⟩, 35) := ⟨⟨by decide +kernel, by decide +kernel⟩, List.mem_of_getElem? (i := 776) (by decide +kernel), List.mem_of_getElem? (i := 1199) (by decide +kernel), List.mem_of_getElem? (i := 1200) (by decide +kernel)⟩
theorem lw_p66 : lw_okq (⟨"CaseCutterModel", "isOther", "()Z"⟩, 35) := ⟨⟨by decide +kernel, by decide +kernel⟩, List.mem_of_getElem? (i := 776) (by decide +kernel), List.mem_of_getElem? (i := 1231) (by decide +kernel), List.mem_of_getElem? (i := 1232) (by decide +kernel)⟩
theorem lw_p67 : lw_okq (⟨"CaseCutterModel", "counted", "(I)I"⟩, 35) := ⟨⟨by decide +kernel, by decide +kernel⟩, List.mem_of_getElem? (i := 776) (by decide +kernel), List.mem_of_getElem? (i := 1255) (by decide +kernel), List.mem_of_getElem? (i := 1256) (by decide +kernel)⟩
theorem lw_p68 : lw_okq (⟨"CaseCutterModel", "sortMany", "(I)I"⟩, 35) := ⟨⟨by decide +kernel, by decide +kernel⟩, List.mem_of_getElem? (i := 776) (by decide +kernel), List.mem_of_getElem? (i := 1259) (by decide +kernel), List.mem_of_getElem? (i := 1260) (by decide +kernel)⟩
theorem lw_p69 : lw_okq (⟨"CaseCutterModel", "adds", "(J)V"⟩, 35) := ⟨⟨by decide +kernel, by decide +kernel⟩, List.mem_of_getElem? (i := 776) (by decide +kernel), List.mem_of_getElem? (i := 1268) (by decide +kernel), List.mem_of_getElem? (i := 1269) (by decide +kernel)⟩
def lw_privs_5 : List (MethodName × Nat) := [(⟨"CaseCutterModel", "partSteps", "(I)I"⟩, 35), (⟨"CaseCutterModel", "markOf", "(II)I"⟩, 35), (⟨"CaseCutterModel", "isOther", "()Z"⟩, 35), (⟨"CaseCutterModel", "counted", "(I)I"⟩, 35), (⟨"CaseCutterModel", "sortMany", "(I)I"⟩, 35), (⟨"CaseCutterModel", "adds", "(J)V"⟩, 35)]
theorem lw_r5 : ∀ q ∈ lw_privs_5, lw_okq q := List.forall_mem_cons.mpr ⟨lw_p64, List.forall_mem_cons.mpr ⟨lw_p65, List.forall_mem_cons.mpr ⟨lw_p66, List.forall_mem_cons.mpr ⟨lw_p67, List.forall_mem_cons.mpr ⟨lw_p68, List.forall_mem_cons.mpr ⟨lw_p69, fun _ h => absurd h List.not_mem_nil⟩⟩⟩⟩⟩⟩
def lw_privs : List (MethodName × Nat) := lw_privs_1 ++ (lw_privs_2 ++ (lw_privs_3 ++ (lw_privs_4 ++ (lw_privs_5))))
def lw_tbl : List Cond := k2_sels lw_privs ++ tables_1
theorem lw_privs_ok : ∀ q ∈ lw_privs, lw_okq q := by
  show ∀ q ∈ lw_privs_1 ++ (lw_privs_2 ++ (lw_privs_3 ++ (lw_privs_4 ++ (lw_privs_5)))), lw_okq q
  exact List.forall_mem_append.mpr ⟨lw_r1, List.forall_mem_append.mpr ⟨lw_r2, List.forall_mem_append.mpr ⟨lw_r3, List.forall_mem_append.mpr ⟨lw_r4, lw_r5⟩⟩⟩⟩
-- ===== end of PART A; then your names; then what follows =====
end
section
def RX0 : String := "CaseCutter$Plan"
def TX0 : u_T := fun k => match k with
  | 0 => ("CaseCutter$Plan", "sorts", "[[I", true)
  | 1 => ("CaseCutter$Plan", "steps", "[[I", true)
  | 2 => ("CaseCutter$Plan", "prices", "[[I", true)
  | 3 => ("CaseCutter$Plan", "lastAhead", "[[I", true)
  | 4 => ("CaseCutter$Plan", "first", "[I", true)
  | 5 => ("CaseCutter$Plan", "last", "[I", true)
  | 6 => ("CaseCutter$Plan", "depth", "[I", true)
  | 7 => ("CaseCutter$Plan", "parts", "I", false)
  | _ => ("CaseCutter$Plan", "price", "I", false)
def tyX0 : Nat → FieldType := fun k => match k with
  | 0 => .array (.array .int)
  | 1 => .array (.array .int)
  | 2 => .array (.array .int)
  | 3 => .array (.array .int)
  | 4 => .array .int
  | 5 => .array .int
  | 6 => .array .int
  | 7 => .int
  | _ => .int
abbrev wsX00 : List Cond := u_ws RX0 TX0 9
theorem nmX0 : ∀ a, a < 9 → ∀ b, b < 9 → a ≠ b → (TX0 a).2.1 ≠ (TX0 b).2.1 := by decide +kernel
theorem tyX0_ok : ∀ k, k < 9 → parseFieldDescriptor (TX0 k).2.2.1 = some (tyX0 k) := by decide +kernel
abbrev cX0_init : ByteArray := prog_2_method_1_code
def yX0_init : MethodName := ⟨RX0, "<init>", "()V"⟩
abbrev cX0_make : ByteArray := prog_2_method_2_code
def yX0_make : MethodName := ⟨RX0, "make", "(LCaseCutter$Program;ZZ)V"⟩
abbrev cX0_sortOut : ByteArray := prog_2_method_3_code
def yX0_sortOut : MethodName := ⟨RX0, "sortOut", "(LCaseCutter$Program;IIZZ)V"⟩
abbrev cX0_choose : ByteArray := prog_2_method_4_code
def yX0_choose : MethodName := ⟨RX0, "choose", "(III)V"⟩
abbrev cX0_layOut : ByteArray := prog_2_method_5_code
def yX0_layOut : MethodName := ⟨RX0, "layOut", "(III)V"⟩
abbrev cX0_has : ByteArray := prog_2_method_6_code
def yX0_has : MethodName := ⟨RX0, "has", "(I)Z"⟩
abbrev cX0_sortOf : ByteArray := prog_2_method_7_code
def yX0_sortOf : MethodName := ⟨RX0, "sortOf", "(I)I"⟩
abbrev cX0_stepsOf : ByteArray := prog_2_method_8_code
def yX0_stepsOf : MethodName := ⟨RX0, "stepsOf", "(I)I"⟩
abbrev cX0_stepsThrough : ByteArray := prog_2_method_9_code
def yX0_stepsThrough : MethodName := ⟨RX0, "stepsThrough", "(I)I"⟩
abbrev cX0_partsOf : ByteArray := prog_2_method_10_code
def yX0_partsOf : MethodName := ⟨RX0, "partsOf", "(I)I"⟩
abbrev cX0_valueOf : ByteArray := prog_2_method_11_code
def yX0_valueOf : MethodName := ⟨RX0, "valueOf", "(LCaseCutter$Program;II)I"⟩
abbrev cX0_partLookingAt : ByteArray := prog_2_method_12_code
def yX0_partLookingAt : MethodName := ⟨RX0, "partLookingAt", "(LCaseCutter$Program;I)I"⟩
abbrev cX0_hasPartsOf : ByteArray := prog_2_method_13_code
def yX0_hasPartsOf : MethodName := ⟨RX0, "hasPartsOf", "(LCaseCutter$Plan;)Z"⟩
def RX1 : String := "CaseCutter$Program"
def TX1 : u_T := fun k => match k with
  | 0 => ("CaseCutter$Program", "lows", "[I", true)
  | 1 => ("CaseCutter$Program", "highs", "[I", true)
  | 2 => ("CaseCutter$Program", "aims", "[I", true)
  | 3 => ("CaseCutter$Program", "weights", "[I", true)
  | 4 => ("CaseCutter$Program", "size", "I", false)
  | 5 => ("CaseCutter$Program", "rest", "I", false)
  | 6 => ("CaseCutter$Program", "deedKinds", "[I", true)
  | 7 => ("CaseCutter$Program", "deedCases", "[I", true)
  | 8 => ("CaseCutter$Program", "deedLows", "[I", true)
  | 9 => ("CaseCutter$Program", "deedHighs", "[I", true)
  | 10 => ("CaseCutter$Program", "deedAims", "[I", true)
  | 11 => ("CaseCutter$Program", "deedWeights", "[I", true)
  | _ => ("CaseCutter$Program", "deeds", "I", false)
def tyX1 : Nat → FieldType := fun k => match k with
  | 0 => .array .int
  | 1 => .array .int
  | 2 => .array .int
  | 3 => .array .int
  | 4 => .int
  | 5 => .int
  | 6 => .array .int
  | 7 => .array .int
  | 8 => .array .int
  | 9 => .array .int
  | 10 => .array .int
  | 11 => .array .int
  | _ => .int
abbrev wsX10 : List Cond := u_ws RX1 TX1 13
theorem nmX1 : ∀ a, a < 13 → ∀ b, b < 13 → a ≠ b → (TX1 a).2.1 ≠ (TX1 b).2.1 := by decide +kernel
theorem tyX1_ok : ∀ k, k < 13 → parseFieldDescriptor (TX1 k).2.2.1 = some (tyX1 k) := by decide +kernel
abbrev cX1_init : ByteArray := prog_3_method_1_code
def yX1_init : MethodName := ⟨RX1, "<init>", "()V"⟩
abbrev cX1_clear : ByteArray := prog_3_method_2_code
def yX1_clear : MethodName := ⟨RX1, "clear", "()V"⟩
abbrev cX1_take : ByteArray := prog_3_method_3_code
def yX1_take : MethodName := ⟨RX1, "take", "(LCaseCutter$Program;)V"⟩
abbrev cX1_has : ByteArray := prog_3_method_4_code
def yX1_has : MethodName := ⟨RX1, "has", "(I)Z"⟩
abbrev cX1_valueOf : ByteArray := prog_3_method_5_code
def yX1_valueOf : MethodName := ⟨RX1, "valueOf", "(II)I"⟩
abbrev cX1_ownerOf : ByteArray := prog_3_method_6_code
def yX1_ownerOf : MethodName := ⟨RX1, "ownerOf", "(I)I"⟩
abbrev cX1_isFree : ByteArray := prog_3_method_7_code
def yX1_isFree : MethodName := ⟨RX1, "isFree", "(II)Z"⟩
abbrev cX1_span : ByteArray := prog_3_method_8_code
def yX1_span : MethodName := ⟨RX1, "span", "(II)J"⟩
abbrev cX1_numbersIn : ByteArray := prog_3_method_9_code
def yX1_numbersIn : MethodName := ⟨RX1, "numbersIn", "(II)J"⟩
abbrev cX1_aimsIn : ByteArray := prog_3_method_10_code
def yX1_aimsIn : MethodName := ⟨RX1, "aimsIn", "(II)I"⟩
abbrev cX1_weightIn : ByteArray := prog_3_method_11_code
def yX1_weightIn : MethodName := ⟨RX1, "weightIn", "(II)I"⟩
abbrev cX1_loneSteps : ByteArray := prog_3_method_12_code
def yX1_loneSteps : MethodName := ⟨RX1, "loneSteps", "(I)I"⟩
abbrev cX1_addCase : ByteArray := prog_3_method_13_code
def yX1_addCase : MethodName := ⟨RX1, "addCase", "(IIII)I"⟩
abbrev cX1_cutCase : ByteArray := prog_3_method_14_code
def yX1_cutCase : MethodName := ⟨RX1, "cutCase", "(I)V"⟩
abbrev cX1_aimCase : ByteArray := prog_3_method_15_code
def yX1_aimCase : MethodName := ⟨RX1, "aimCase", "(II)V"⟩
abbrev cX1_weighCase : ByteArray := prog_3_method_16_code
def yX1_weighCase : MethodName := ⟨RX1, "weighCase", "(II)V"⟩
abbrev cX1_doNothing : ByteArray := prog_3_method_17_code
def yX1_doNothing : MethodName := ⟨RX1, "doNothing", "()V"⟩
abbrev cX1_undoLatest : ByteArray := prog_3_method_18_code
def yX1_undoLatest : MethodName := ⟨RX1, "undoLatest", "()V"⟩
abbrev cX1_insert : ByteArray := prog_3_method_19_code
def yX1_insert : MethodName := ⟨RX1, "insert", "(IIII)I"⟩
abbrev cX1_remove : ByteArray := prog_3_method_20_code
def yX1_remove : MethodName := ⟨RX1, "remove", "(I)V"⟩
abbrev cX1_record : ByteArray := prog_3_method_21_code
def yX1_record : MethodName := ⟨RX1, "record", "(II)V"⟩
def RX2 : String := "CaseCutter$Reader"
def TX2 : u_T := fun k => match k with
  | 0 => ("CaseCutter$Reader", "bytes", "[I", true)
  | 1 => ("CaseCutter$Reader", "size", "I", false)
  | 2 => ("CaseCutter$Reader", "place", "I", false)
  | 3 => ("CaseCutter$Reader", "kind", "I", false)
  | 4 => ("CaseCutter$Reader", "start", "I", false)
  | 5 => ("CaseCutter$Reader", "number", "J", false)
  | 6 => ("CaseCutter$Reader", "low", "I", false)
  | 7 => ("CaseCutter$Reader", "high", "I", false)
  | _ => ("CaseCutter$Reader", "restIsTold", "Z", false)
def tyX2 : Nat → FieldType := fun k => match k with
  | 0 => .array .int
  | 1 => .int
  | 2 => .int
  | 3 => .int
  | 4 => .int
  | 5 => .long
  | 6 => .int
  | 7 => .int
  | _ => .boolean
abbrev wsX20 : List Cond := u_ws RX2 TX2 9
theorem nmX2 : ∀ a, a < 9 → ∀ b, b < 9 → a ≠ b → (TX2 a).2.1 ≠ (TX2 b).2.1 := by decide +kernel
theorem tyX2_ok : ∀ k, k < 9 → parseFieldDescriptor (TX2 k).2.2.1 = some (tyX2 k) := by decide +kernel
abbrev cX2_init : ByteArray := prog_4_method_1_code
def yX2_init : MethodName := ⟨RX2, "<init>", "()V"⟩
abbrev cX2_read : ByteArray := prog_4_method_2_code
def yX2_read : MethodName := ⟨RX2, "read", "(LCaseCutter$Strip;LCaseCutter$Program;)I"⟩
abbrev cX2_readStatement : ByteArray := prog_4_method_3_code
def yX2_readStatement : MethodName := ⟨RX2, "readStatement", "(LCaseCutter$Program;)Z"⟩
abbrev cX2_readRest : ByteArray := prog_4_method_4_code
def yX2_readRest : MethodName := ⟨RX2, "readRest", "(LCaseCutter$Program;)Z"⟩
abbrev cX2_readNumbers : ByteArray := prog_4_method_5_code
def yX2_readNumbers : MethodName := ⟨RX2, "readNumbers", "(LCaseCutter$Program;Z)Z"⟩
abbrev cX2_readName : ByteArray := prog_4_method_6_code
def yX2_readName : MethodName := ⟨RX2, "readName", "(LCaseCutter$Program;)Z"⟩
abbrev cX2_readAimAndWeight : ByteArray := prog_4_method_7_code
def yX2_readAimAndWeight : MethodName := ⟨RX2, "readAimAndWeight", "(LCaseCutter$Program;)Z"⟩
abbrev cX2_readNumber : ByteArray := prog_4_method_8_code
def yX2_readNumber : MethodName := ⟨RX2, "readNumber", "(JJ)Z"⟩
abbrev cX2_readSemicolon : ByteArray := prog_4_method_9_code
def yX2_readSemicolon : MethodName := ⟨RX2, "readSemicolon", "()Z"⟩
abbrev cX2_isWord : ByteArray := prog_4_method_10_code
def yX2_isWord : MethodName := ⟨RX2, "isWord", "(Ljava/lang/String;)Z"⟩
abbrev cX2_step : ByteArray := prog_4_method_11_code
def yX2_step : MethodName := ⟨RX2, "step", "()V"⟩
abbrev cX2_stepOverWord : ByteArray := prog_4_method_12_code
def yX2_stepOverWord : MethodName := ⟨RX2, "stepOverWord", "()V"⟩
abbrev cX2_stepOverNumber : ByteArray := prog_4_method_13_code
def yX2_stepOverNumber : MethodName := ⟨RX2, "stepOverNumber", "(Z)V"⟩
def RX3 : String := "CaseCutter$Strip"
def TX3 : u_T := fun k => match k with
  | 0 => ("CaseCutter$Strip", "places", "[I", true)
  | _ => ("CaseCutter$Strip", "size", "I", false)
def tyX3 : Nat → FieldType := fun k => match k with
  | 0 => .array .int
  | _ => .int
abbrev wsX30 : List Cond := u_ws RX3 TX3 2
theorem nmX3 : ∀ a, a < 2 → ∀ b, b < 2 → a ≠ b → (TX3 a).2.1 ≠ (TX3 b).2.1 := by decide +kernel
theorem tyX3_ok : ∀ k, k < 2 → parseFieldDescriptor (TX3 k).2.2.1 = some (tyX3 k) := by decide +kernel
abbrev cX3_init : ByteArray := prog_5_method_1_code
def yX3_init : MethodName := ⟨RX3, "<init>", "(I)V"⟩
abbrev cX3_isMissing : ByteArray := prog_5_method_2_code
def yX3_isMissing : MethodName := ⟨RX3, "isMissing", "()Z"⟩
abbrev cX3_has : ByteArray := prog_5_method_3_code
def yX3_has : MethodName := ⟨RX3, "has", "(I)Z"⟩
abbrev cX3_hasFrom : ByteArray := prog_5_method_4_code
def yX3_hasFrom : MethodName := ⟨RX3, "hasFrom", "(II)Z"⟩
abbrev cX3_fill : ByteArray := prog_5_method_5_code
def yX3_fill : MethodName := ⟨RX3, "fill", "(II)V"⟩
abbrev cX3_drop : ByteArray := prog_5_method_6_code
def yX3_drop : MethodName := ⟨RX3, "drop", "()V"⟩
abbrev cX3_sum : ByteArray := prog_5_method_7_code
def yX3_sum : MethodName := ⟨RX3, "sum", "()J"⟩
def RX4 : String := "CaseCutter$Writer"
def TX4 : u_T := fun k => match k with
  | 0 => ("CaseCutter$Writer", "bytes", "[I", true)
  | 1 => ("CaseCutter$Writer", "figures", "[I", true)
  | _ => ("CaseCutter$Writer", "size", "I", false)
def tyX4 : Nat → FieldType := fun k => match k with
  | 0 => .array .int
  | 1 => .array .int
  | _ => .int
abbrev wsX40 : List Cond := u_ws RX4 TX4 3
theorem nmX4 : ∀ a, a < 3 → ∀ b, b < 3 → a ≠ b → (TX4 a).2.1 ≠ (TX4 b).2.1 := by decide +kernel
theorem tyX4_ok : ∀ k, k < 3 → parseFieldDescriptor (TX4 k).2.2.1 = some (tyX4 k) := by decide +kernel
abbrev cX4_init : ByteArray := prog_6_method_1_code
def yX4_init : MethodName := ⟨RX4, "<init>", "()V"⟩
abbrev cX4_writeOut : ByteArray := prog_6_method_2_code
def yX4_writeOut : MethodName := ⟨RX4, "writeOut", "(LCaseCutter$Program;)I"⟩
abbrev cX4_writeWord : ByteArray := prog_6_method_3_code
def yX4_writeWord : MethodName := ⟨RX4, "writeWord", "(Ljava/lang/String;)V"⟩
abbrev cX4_writeNumber : ByteArray := prog_6_method_4_code
def yX4_writeNumber : MethodName := ⟨RX4, "writeNumber", "(I)V"⟩
abbrev cX4_writeByte : ByteArray := prog_6_method_5_code
def yX4_writeByte : MethodName := ⟨RX4, "writeByte", "(I)V"⟩
def RX5 : String := "CaseCutter"
def TX5 : u_T := fun k => match k with
  | 0 => ("CaseCutter", "rows", "[LCaseCutter$Strip;", true)
  | 1 => ("CaseCutter", "texts", "[LCaseCutter$Strip;", true)
  | 2 => ("CaseCutter", "now", "LCaseCutter$Program;", true)
  | 3 => ("CaseCutter", "keptPrograms", "[LCaseCutter$Program;", true)
  | 4 => ("CaseCutter", "isKept", "[Z", true)
  | 5 => ("CaseCutter", "draft", "LCaseCutter$Program;", true)
  | 6 => ("CaseCutter", "reader", "LCaseCutter$Reader;", true)
  | 7 => ("CaseCutter", "writer", "LCaseCutter$Writer;", true)
  | 8 => ("CaseCutter", "plan", "LCaseCutter$Plan;", true)
  | 9 => ("CaseCutter", "otherPlan", "LCaseCutter$Plan;", true)
  | 10 => ("CaseCutter", "timesFound", "[I", true)
  | 11 => ("CaseCutter", "planIsOld", "Z", false)
  | 12 => ("CaseCutter", "answer", "I", false)
  | 13 => ("CaseCutter", "latestMask", "J", false)
  | _ => ("CaseCutter", "latestFinding", "I", false)
def tyX5 : Nat → FieldType := fun k => match k with
  | 0 => .array (.object "CaseCutter$Strip")
  | 1 => .array (.object "CaseCutter$Strip")
  | 2 => .object "CaseCutter$Program"
  | 3 => .array (.object "CaseCutter$Program")
  | 4 => .array .boolean
  | 5 => .object "CaseCutter$Program"
  | 6 => .object "CaseCutter$Reader"
  | 7 => .object "CaseCutter$Writer"
  | 8 => .object "CaseCutter$Plan"
  | 9 => .object "CaseCutter$Plan"
  | 10 => .array .int
  | 11 => .boolean
  | 12 => .int
  | 13 => .long
  | _ => .int
abbrev wsX50 : List Cond := u_ws RX5 TX5 15
theorem nmX5 : ∀ a, a < 15 → ∀ b, b < 15 → a ≠ b → (TX5 a).2.1 ≠ (TX5 b).2.1 := by decide +kernel
theorem tyX5_ok : ∀ k, k < 15 → parseFieldDescriptor (TX5 k).2.2.1 = some (tyX5 k) := by decide +kernel
abbrev cX5_init : ByteArray := prog_1_method_1_code
def yX5_init : MethodName := ⟨RX5, "<init>", "()V"⟩
abbrev cX5_row : ByteArray := prog_1_method_2_code
def yX5_row : MethodName := ⟨RX5, "row", "(II)I"⟩
abbrev cX5_lay : ByteArray := prog_1_method_3_code
def yX5_lay : MethodName := ⟨RX5, "lay", "(III)I"⟩
abbrev cX5_at : ByteArray := prog_1_method_4_code
def yX5_at : MethodName := ⟨RX5, "at", "(II)I"⟩
abbrev cX5_tear : ByteArray := prog_1_method_5_code
def yX5_tear : MethodName := ⟨RX5, "tear", "(I)I"⟩
abbrev cX5_copy : ByteArray := prog_1_method_6_code
def yX5_copy : MethodName := ⟨RX5, "copy", "(IIIII)I"⟩
abbrev cX5_mean : ByteArray := prog_1_method_7_code
def yX5_mean : MethodName := ⟨RX5, "mean", "(I)I"⟩
abbrev cX5_text : ByteArray := prog_1_method_8_code
def yX5_text : MethodName := ⟨RX5, "text", "(II)I"⟩
abbrev cX5_put : ByteArray := prog_1_method_9_code
def yX5_put : MethodName := ⟨RX5, "put", "(III)I"⟩
abbrev cX5_fault : ByteArray := prog_1_method_10_code
def yX5_fault : MethodName := ⟨RX5, "fault", "(I)I"⟩
abbrev cX5_program : ByteArray := prog_1_method_11_code
def yX5_program : MethodName := ⟨RX5, "program", "(I)I"⟩
abbrev cX5_write : ByteArray := prog_1_method_12_code
def yX5_write : MethodName := ⟨RX5, "write", "(I)I"⟩
abbrev cX5_hash : ByteArray := prog_1_method_13_code
def yX5_hash : MethodName := ⟨RX5, "hash", "(I)I"⟩
abbrev cX5_told : ByteArray := prog_1_method_14_code
def yX5_told : MethodName := ⟨RX5, "told", "(II)I"⟩
abbrev cX5_add : ByteArray := prog_1_method_15_code
def yX5_add : MethodName := ⟨RX5, "add", "(IIII)I"⟩
abbrev cX5_cut : ByteArray := prog_1_method_16_code
def yX5_cut : MethodName := ⟨RX5, "cut", "(I)I"⟩
abbrev cX5_aim : ByteArray := prog_1_method_17_code
def yX5_aim : MethodName := ⟨RX5, "aim", "(II)I"⟩
abbrev cX5_weigh : ByteArray := prog_1_method_18_code
def yX5_weigh : MethodName := ⟨RX5, "weigh", "(II)I"⟩
abbrev cX5_undo : ByteArray := prog_1_method_19_code
def yX5_undo : MethodName := ⟨RX5, "undo", "(I)I"⟩
abbrev cX5_keep : ByteArray := prog_1_method_20_code
def yX5_keep : MethodName := ⟨RX5, "keep", "(I)I"⟩
abbrev cX5_on : ByteArray := prog_1_method_21_code
def yX5_on : MethodName := ⟨RX5, "on", "(I)I"⟩
abbrev cX5_reach : ByteArray := prog_1_method_22_code
def yX5_reach : MethodName := ⟨RX5, "reach", "(I)I"⟩
abbrev cX5_run : ByteArray := prog_1_method_23_code
def yX5_run : MethodName := ⟨RX5, "run", "(I)I"⟩
abbrev cX5_cost : ByteArray := prog_1_method_24_code
def yX5_cost : MethodName := ⟨RX5, "cost", "()I"⟩
abbrev cX5_part : ByteArray := prog_1_method_25_code
def yX5_part : MethodName := ⟨RX5, "part", "(II)I"⟩
abbrev cX5_mark : ByteArray := prog_1_method_26_code
def yX5_mark : MethodName := ⟨RX5, "mark", "(II)I"⟩
abbrev cX5_markOf : ByteArray := prog_1_method_27_code
def yX5_markOf : MethodName := ⟨RX5, "markOf", "(III)I"⟩
abbrev cX5_jump : ByteArray := prog_1_method_28_code
def yX5_jump : MethodName := ⟨RX5, "jump", "(II)I"⟩
abbrev cX5_mask : ByteArray := prog_1_method_29_code
def yX5_mask : MethodName := ⟨RX5, "mask", "(II)I"⟩
abbrev cX5_only : ByteArray := prog_1_method_30_code
def yX5_only : MethodName := ⟨RX5, "only", "(I)I"⟩
abbrev cX5_chain : ByteArray := prog_1_method_31_code
def yX5_chain : MethodName := ⟨RX5, "chain", "()I"⟩
abbrev cX5_worst : ByteArray := prog_1_method_32_code
def yX5_worst : MethodName := ⟨RX5, "worst", "()I"⟩
abbrev cX5_swing : ByteArray := prog_1_method_33_code
def yX5_swing : MethodName := ⟨RX5, "swing", "(I)I"⟩
abbrev cX5_covered : ByteArray := prog_1_method_34_code
def yX5_covered : MethodName := ⟨RX5, "covered", "(II)J"⟩
abbrev cX5_lots : ByteArray := prog_1_method_35_code
def yX5_lots : MethodName := ⟨RX5, "lots", "(II)I"⟩
abbrev cX5_doByLot : ByteArray := prog_1_method_36_code
def yX5_doByLot : MethodName := ⟨RX5, "doByLot", "(I)V"⟩
abbrev cX5_asked : ByteArray := prog_1_method_37_code
def yX5_asked : MethodName := ⟨RX5, "asked", "()I"⟩
abbrev cX5_mask0 : ByteArray := prog_1_method_38_code
def yX5_mask0 : MethodName := ⟨RX5, "mask0", "()J"⟩
abbrev cX5_count : ByteArray := prog_1_method_39_code
def yX5_count : MethodName := ⟨RX5, "count", "(I)I"⟩
abbrev cX5_finding : ByteArray := prog_1_method_40_code
def yX5_finding : MethodName := ⟨RX5, "finding", "()I"⟩
abbrev cX5_findings : ByteArray := prog_1_method_41_code
def yX5_findings : MethodName := ⟨RX5, "findings", "(I)I"⟩
abbrev cX5_digest : ByteArray := prog_1_method_42_code
def yX5_digest : MethodName := ⟨RX5, "digest", "()J"⟩
abbrev cX5_digestOf : ByteArray := prog_1_method_43_code
def yX5_digestOf : MethodName := ⟨RX5, "digestOf", "([LCaseCutter$Strip;J)J"⟩
abbrev cX5_found : ByteArray := prog_1_method_44_code
def yX5_found : MethodName := ⟨RX5, "found", "(I)I"⟩
abbrev cX5_renewPlan : ByteArray := prog_1_method_45_code
def yX5_renewPlan : MethodName := ⟨RX5, "renewPlan", "()V"⟩
abbrev cX5_howManyAreThere : ByteArray := prog_1_method_46_code
def yX5_howManyAreThere : MethodName := ⟨RX5, "howManyAreThere", "([LCaseCutter$Strip;)I"⟩
abbrev cX5_howManyAreKept : ByteArray := prog_1_method_47_code
def yX5_howManyAreKept : MethodName := ⟨RX5, "howManyAreKept", "()I"⟩
abbrev cX5_isRow : ByteArray := prog_1_method_48_code
def yX5_isRow : MethodName := ⟨RX5, "isRow", "(I)Z"⟩
abbrev cX5_isText : ByteArray := prog_1_method_49_code
def yX5_isText : MethodName := ⟨RX5, "isText", "(I)Z"⟩
abbrev cX5_isKeptPlace : ByteArray := prog_1_method_50_code
def yX5_isKeptPlace : MethodName := ⟨RX5, "isKeptPlace", "(I)Z"⟩
abbrev cX5_isAim : ByteArray := prog_1_method_51_code
def yX5_isAim : MethodName := ⟨RX5, "isAim", "(I)Z"⟩
abbrev cX5_isWeight : ByteArray := prog_1_method_52_code
def yX5_isWeight : MethodName := ⟨RX5, "isWeight", "(I)Z"⟩
abbrev cX5_hashWith : ByteArray := prog_1_method_53_code
def yX5_hashWith : MethodName := ⟨RX5, "hashWith", "(II)I"⟩
def RX6 : String := "CaseCutterModel"
def TX6 : u_T := fun k => match k with
  | 0 => ("CaseCutterModel", "told", "I", false)
  | 1 => ("CaseCutterModel", "latest", "I", false)
  | 2 => ("CaseCutterModel", "came", "[I", true)
  | 3 => ("CaseCutterModel", "sizes", "[I", true)
  | 4 => ("CaseCutterModel", "rows", "[I", true)
  | 5 => ("CaseCutterModel", "copied", "[I", true)
  | 6 => ("CaseCutterModel", "textSizes", "[I", true)
  | 7 => ("CaseCutterModel", "bytes", "[B", true)
  | 8 => ("CaseCutterModel", "readAt", "I", false)
  | 9 => ("CaseCutterModel", "tokenAt", "I", false)
  | 10 => ("CaseCutterModel", "token", "I", false)
  | 11 => ("CaseCutterModel", "value", "J", false)
  | 12 => ("CaseCutterModel", "faultAt", "I", false)
  | 13 => ("CaseCutterModel", "isRestRead", "Z", false)
  | 14 => ("CaseCutterModel", "readRest", "I", false)
  | 15 => ("CaseCutterModel", "read", "[I", true)
  | 16 => ("CaseCutterModel", "rest", "I", false)
  | 17 => ("CaseCutterModel", "now", "[I", true)
  | 18 => ("CaseCutterModel", "outMany", "I", false)
  | 19 => ("CaseCutterModel", "out", "[B", true)
  | 20 => ("CaseCutterModel", "deedMany", "I", false)
  | 21 => ("CaseCutterModel", "log", "[I", true)
  | 22 => ("CaseCutterModel", "keptMany", "[I", true)
  | 23 => ("CaseCutterModel", "kept", "[I", true)
  | 24 => ("CaseCutterModel", "costs", "[I", true)
  | 25 => ("CaseCutterModel", "cuts", "[I", true)
  | 26 => ("CaseCutterModel", "partMany", "I", false)
  | 27 => ("CaseCutterModel", "partFirst", "[I", true)
  | 28 => ("CaseCutterModel", "partLast", "[I", true)
  | 29 => ("CaseCutterModel", "partDeep", "[I", true)
  | 30 => ("CaseCutterModel", "masked", "J", false)
  | 31 => ("CaseCutterModel", "planMany", "I", false)
  | 32 => ("CaseCutterModel", "planFirst", "[I", true)
  | 33 => ("CaseCutterModel", "planSort", "[I", true)
  | _ => ("CaseCutterModel", "h", "J", false)
def tyX6 : Nat → FieldType := fun k => match k with
  | 0 => .int
  | 1 => .int
  | 2 => .array .int
  | 3 => .array .int
  | 4 => .array .int
  | 5 => .array .int
  | 6 => .array .int
  | 7 => .array .byte
  | 8 => .int
  | 9 => .int
  | 10 => .int
  | 11 => .long
  | 12 => .int
  | 13 => .boolean
  | 14 => .int
  | 15 => .array .int
  | 16 => .int
  | 17 => .array .int
  | 18 => .int
  | 19 => .array .byte
  | 20 => .int
  | 21 => .array .int
  | 22 => .array .int
  | 23 => .array .int
  | 24 => .array .int
  | 25 => .array .int
  | 26 => .int
  | 27 => .array .int
  | 28 => .array .int
  | 29 => .array .int
  | 30 => .long
  | 31 => .int
  | 32 => .array .int
  | 33 => .array .int
  | _ => .long
abbrev wsX60 : List Cond := u_ws RX6 TX6 35
theorem nmX6 : ∀ a, a < 35 → ∀ b, b < 35 → a ≠ b → (TX6 a).2.1 ≠ (TX6 b).2.1 := by decide +kernel
theorem tyX6_ok : ∀ k, k < 35 → parseFieldDescriptor (TX6 k).2.2.1 = some (tyX6 k) := by decide +kernel
abbrev cX6_init : ByteArray := prog_8_method_1_code
def yX6_init : MethodName := ⟨RX6, "<init>", "()V"⟩
abbrev cX6_in : ByteArray := prog_8_method_2_code
def yX6_in : MethodName := ⟨RX6, "in", "(III)Z"⟩
abbrev cX6_has : ByteArray := prog_8_method_3_code
def yX6_has : MethodName := ⟨RX6, "has", "(II)Z"⟩
abbrev cX6_found : ByteArray := prog_8_method_4_code
def yX6_found : MethodName := ⟨RX6, "found", "(I)I"⟩
abbrev cX6_tells : ByteArray := prog_8_method_5_code
def yX6_tells : MethodName := ⟨RX6, "tells", "(II)I"⟩
abbrev cX6_asked : ByteArray := prog_8_method_6_code
def yX6_asked : MethodName := ⟨RX6, "asked", "()I"⟩
abbrev cX6_finding : ByteArray := prog_8_method_7_code
def yX6_finding : MethodName := ⟨RX6, "finding", "()I"⟩
abbrev cX6_findings : ByteArray := prog_8_method_8_code
def yX6_findings : MethodName := ⟨RX6, "findings", "(I)I"⟩
abbrev cX6_isRow : ByteArray := prog_8_method_9_code
def yX6_isRow : MethodName := ⟨RX6, "isRow", "(I)Z"⟩
abbrev cX6_rowAt : ByteArray := prog_8_method_10_code
def yX6_rowAt : MethodName := ⟨RX6, "rowAt", "(II)I"⟩
abbrev cX6_row : ByteArray := prog_8_method_11_code
def yX6_row : MethodName := ⟨RX6, "row", "(II)I"⟩
abbrev cX6_lay : ByteArray := prog_8_method_12_code
def yX6_lay : MethodName := ⟨RX6, "lay", "(III)I"⟩
abbrev cX6_at : ByteArray := prog_8_method_13_code
def yX6_at : MethodName := ⟨RX6, "at", "(II)I"⟩
abbrev cX6_tear : ByteArray := prog_8_method_14_code
def yX6_tear : MethodName := ⟨RX6, "tear", "(I)I"⟩
abbrev cX6_copy : ByteArray := prog_8_method_15_code
def yX6_copy : MethodName := ⟨RX6, "copy", "(IIIII)I"⟩
abbrev cX6_mean : ByteArray := prog_8_method_16_code
def yX6_mean : MethodName := ⟨RX6, "mean", "(I)I"⟩
abbrev cX6_isText : ByteArray := prog_8_method_17_code
def yX6_isText : MethodName := ⟨RX6, "isText", "(I)Z"⟩
abbrev cX6_text : ByteArray := prog_8_method_18_code
def yX6_text : MethodName := ⟨RX6, "text", "(II)I"⟩
abbrev cX6_put : ByteArray := prog_8_method_19_code
def yX6_put : MethodName := ⟨RX6, "put", "(III)I"⟩
abbrev cX6_byteAt : ByteArray := prog_8_method_20_code
def yX6_byteAt : MethodName := ⟨RX6, "byteAt", "(II)I"⟩
abbrev cX6_blanks : ByteArray := prog_8_method_21_code
def yX6_blanks : MethodName := ⟨RX6, "blanks", "(I)V"⟩
abbrev cX6_isLetter : ByteArray := prog_8_method_22_code
def yX6_isLetter : MethodName := ⟨RX6, "isLetter", "(I)Z"⟩
abbrev cX6_isFigure : ByteArray := prog_8_method_23_code
def yX6_isFigure : MethodName := ⟨RX6, "isFigure", "(II)Z"⟩
abbrev cX6_next : ByteArray := prog_8_method_24_code
def yX6_next : MethodName := ⟨RX6, "next", "(I)V"⟩
abbrev cX6_fails : ByteArray := prog_8_method_25_code
def yX6_fails : MethodName := ⟨RX6, "fails", "()Z"⟩
abbrev cX6_word : ByteArray := prog_8_method_26_code
def yX6_word : MethodName := ⟨RX6, "word", "(I)I"⟩
abbrev cX6_number : ByteArray := prog_8_method_27_code
def yX6_number : MethodName := ⟨RX6, "number", "(IJJ)Z"⟩
abbrev cX6_caseOf : ByteArray := prog_8_method_28_code
def yX6_caseOf : MethodName := ⟨RX6, "caseOf", "([II)I"⟩
abbrev cX6_isFree : ByteArray := prog_8_method_29_code
def yX6_isFree : MethodName := ⟨RX6, "isFree", "([III)Z"⟩
abbrev cX6_comes : ByteArray := prog_8_method_30_code
def yX6_comes : MethodName := ⟨RX6, "comes", "([IIIII)I"⟩
abbrev cX6_goes : ByteArray := prog_8_method_31_code
def yX6_goes : MethodName := ⟨RX6, "goes", "([II)V"⟩
abbrev cX6_hashOf : ByteArray := prog_8_method_32_code
def yX6_hashOf : MethodName := ⟨RX6, "hashOf", "(I)I"⟩
abbrev cX6_readsAim : ByteArray := prog_8_method_33_code
def yX6_readsAim : MethodName := ⟨RX6, "readsAim", "(III)Z"⟩
abbrev cX6_ends : ByteArray := prog_8_method_34_code
def yX6_ends : MethodName := ⟨RX6, "ends", "(I)Z"⟩
abbrev cX6_readsCase : ByteArray := prog_8_method_35_code
def yX6_readsCase : MethodName := ⟨RX6, "readsCase", "(I)Z"⟩
abbrev cX6_readsRange : ByteArray := prog_8_method_36_code
def yX6_readsRange : MethodName := ⟨RX6, "readsRange", "(I)Z"⟩
abbrev cX6_readsName : ByteArray := prog_8_method_37_code
def yX6_readsName : MethodName := ⟨RX6, "readsName", "(I)Z"⟩
abbrev cX6_readsRest : ByteArray := prog_8_method_38_code
def yX6_readsRest : MethodName := ⟨RX6, "readsRest", "(I)Z"⟩
abbrev cX6_readsOne : ByteArray := prog_8_method_39_code
def yX6_readsOne : MethodName := ⟨RX6, "readsOne", "(I)Z"⟩
abbrev cX6_faultOf : ByteArray := prog_8_method_40_code
def yX6_faultOf : MethodName := ⟨RX6, "faultOf", "(I)I"⟩
abbrev cX6_fault : ByteArray := prog_8_method_41_code
def yX6_fault : MethodName := ⟨RX6, "fault", "(I)I"⟩
abbrev cX6_program : ByteArray := prog_8_method_42_code
def yX6_program : MethodName := ⟨RX6, "program", "(I)I"⟩
abbrev cX6_writes : ByteArray := prog_8_method_43_code
def yX6_writes : MethodName := ⟨RX6, "writes", "(I)V"⟩
abbrev cX6_writesWord : ByteArray := prog_8_method_44_code
def yX6_writesWord : MethodName := ⟨RX6, "writesWord", "(IIII)V"⟩
abbrev cX6_writesNumber : ByteArray := prog_8_method_45_code
def yX6_writesNumber : MethodName := ⟨RX6, "writesNumber", "(J)V"⟩
abbrev cX6_write : ByteArray := prog_8_method_46_code
def yX6_write : MethodName := ⟨RX6, "write", "(I)I"⟩
abbrev cX6_hash : ByteArray := prog_8_method_47_code
def yX6_hash : MethodName := ⟨RX6, "hash", "(I)I"⟩
abbrev cX6_isCase : ByteArray := prog_8_method_48_code
def yX6_isCase : MethodName := ⟨RX6, "isCase", "(I)Z"⟩
abbrev cX6_told : ByteArray := prog_8_method_49_code
def yX6_told : MethodName := ⟨RX6, "told", "(II)I"⟩
abbrev cX6_remember : ByteArray := prog_8_method_50_code
def yX6_remember : MethodName := ⟨RX6, "remember", "()V"⟩
abbrev cX6_undo : ByteArray := prog_8_method_51_code
def yX6_undo : MethodName := ⟨RX6, "undo", "(I)I"⟩
abbrev cX6_keep : ByteArray := prog_8_method_52_code
def yX6_keep : MethodName := ⟨RX6, "keep", "(I)I"⟩
abbrev cX6_on : ByteArray := prog_8_method_53_code
def yX6_on : MethodName := ⟨RX6, "on", "(I)I"⟩
abbrev cX6_add : ByteArray := prog_8_method_54_code
def yX6_add : MethodName := ⟨RX6, "add", "(IIII)I"⟩
abbrev cX6_cut : ByteArray := prog_8_method_55_code
def yX6_cut : MethodName := ⟨RX6, "cut", "(I)I"⟩
abbrev cX6_becomes : ByteArray := prog_8_method_56_code
def yX6_becomes : MethodName := ⟨RX6, "becomes", "(II)I"⟩
abbrev cX6_aim : ByteArray := prog_8_method_57_code
def yX6_aim : MethodName := ⟨RX6, "aim", "(II)I"⟩
abbrev cX6_weigh : ByteArray := prog_8_method_58_code
def yX6_weigh : MethodName := ⟨RX6, "weigh", "(II)I"⟩
abbrev cX6_spanOf : ByteArray := prog_8_method_59_code
def yX6_spanOf : MethodName := ⟨RX6, "spanOf", "(II)J"⟩
abbrev cX6_coveredBy : ByteArray := prog_8_method_60_code
def yX6_coveredBy : MethodName := ⟨RX6, "coveredBy", "(II)J"⟩
abbrev cX6_aimsOf : ByteArray := prog_8_method_61_code
def yX6_aimsOf : MethodName := ⟨RX6, "aimsOf", "(II)I"⟩
abbrev cX6_weightOf : ByteArray := prog_8_method_62_code
def yX6_weightOf : MethodName := ⟨RX6, "weightOf", "(II)I"⟩
abbrev cX6_stepsBy : ByteArray := prog_8_method_63_code
def yX6_stepsBy : MethodName := ⟨RX6, "stepsBy", "(III)I"⟩
abbrev cX6_sortOf : ByteArray := prog_8_method_64_code
def yX6_sortOf : MethodName := ⟨RX6, "sortOf", "(III)I"⟩
abbrev cX6_costOf : ByteArray := prog_8_method_65_code
def yX6_costOf : MethodName := ⟨RX6, "costOf", "(II)I"⟩
abbrev cX6_layCost : ByteArray := prog_8_method_66_code
def yX6_layCost : MethodName := ⟨RX6, "layCost", "(III)V"⟩
abbrev cX6_layCosts : ByteArray := prog_8_method_67_code
def yX6_layCosts : MethodName := ⟨RX6, "layCosts", "(I)I"⟩
abbrev cX6_cutOf : ByteArray := prog_8_method_68_code
def yX6_cutOf : MethodName := ⟨RX6, "cutOf", "(I)I"⟩
abbrev cX6_layPlan : ByteArray := prog_8_method_69_code
def yX6_layPlan : MethodName := ⟨RX6, "layPlan", "()I"⟩
abbrev cX6_partSort : ByteArray := prog_8_method_70_code
def yX6_partSort : MethodName := ⟨RX6, "partSort", "(I)I"⟩
abbrev cX6_partSteps : ByteArray := prog_8_method_71_code
def yX6_partSteps : MethodName := ⟨RX6, "partSteps", "(I)I"⟩
abbrev cX6_reach : ByteArray := prog_8_method_72_code
def yX6_reach : MethodName := ⟨RX6, "reach", "(I)I"⟩
abbrev cX6_run : ByteArray := prog_8_method_73_code
def yX6_run : MethodName := ⟨RX6, "run", "(I)I"⟩
abbrev cX6_cost : ByteArray := prog_8_method_74_code
def yX6_cost : MethodName := ⟨RX6, "cost", "()I"⟩
abbrev cX6_partTells : ByteArray := prog_8_method_75_code
def yX6_partTells : MethodName := ⟨RX6, "partTells", "(II)I"⟩
abbrev cX6_isPart : ByteArray := prog_8_method_76_code
def yX6_isPart : MethodName := ⟨RX6, "isPart", "(I)Z"⟩
abbrev cX6_part : ByteArray := prog_8_method_77_code
def yX6_part : MethodName := ⟨RX6, "part", "(II)I"⟩
abbrev cX6_markOf : ByteArray := prog_8_method_78_code
def yX6_markOf : MethodName := ⟨RX6, "markOf", "(II)I"⟩
abbrev cX6_mark : ByteArray := prog_8_method_79_code
def yX6_mark : MethodName := ⟨RX6, "mark", "(II)I"⟩
abbrev cX6_jump : ByteArray := prog_8_method_80_code
def yX6_jump : MethodName := ⟨RX6, "jump", "(II)I"⟩
abbrev cX6_mask0 : ByteArray := prog_8_method_81_code
def yX6_mask0 : MethodName := ⟨RX6, "mask0", "()J"⟩
abbrev cX6_mask : ByteArray := prog_8_method_82_code
def yX6_mask : MethodName := ⟨RX6, "mask", "(II)I"⟩
abbrev cX6_only : ByteArray := prog_8_method_83_code
def yX6_only : MethodName := ⟨RX6, "only", "(I)I"⟩
abbrev cX6_chain : ByteArray := prog_8_method_84_code
def yX6_chain : MethodName := ⟨RX6, "chain", "()I"⟩
abbrev cX6_worst : ByteArray := prog_8_method_85_code
def yX6_worst : MethodName := ⟨RX6, "worst", "()I"⟩
abbrev cX6_isOther : ByteArray := prog_8_method_86_code
def yX6_isOther : MethodName := ⟨RX6, "isOther", "()Z"⟩
abbrev cX6_swing : ByteArray := prog_8_method_87_code
def yX6_swing : MethodName := ⟨RX6, "swing", "(I)I"⟩
abbrev cX6_covered : ByteArray := prog_8_method_88_code
def yX6_covered : MethodName := ⟨RX6, "covered", "(II)J"⟩
abbrev cX6_lots : ByteArray := prog_8_method_89_code
def yX6_lots : MethodName := ⟨RX6, "lots", "(II)I"⟩
abbrev cX6_sortMany : ByteArray := prog_8_method_90_code
def yX6_sortMany : MethodName := ⟨RX6, "sortMany", "(I)I"⟩
abbrev cX6_counted : ByteArray := prog_8_method_91_code
def yX6_counted : MethodName := ⟨RX6, "counted", "(I)I"⟩
abbrev cX6_count : ByteArray := prog_8_method_92_code
def yX6_count : MethodName := ⟨RX6, "count", "(I)I"⟩
abbrev cX6_adds : ByteArray := prog_8_method_93_code
def yX6_adds : MethodName := ⟨RX6, "adds", "(J)V"⟩
abbrev cX6_digest : ByteArray := prog_8_method_94_code
def yX6_digest : MethodName := ⟨RX6, "digest", "()J"⟩
def RJ6 : String := "java/lang/Integer"
def TJ6 : u_T := fun k => match k with
  | _ => ("", "", "", false)
def tyJ6 : Nat → FieldType := fun k => match k with
  | _ => .int
abbrev wsJ60 : List Cond := u_ws RJ6 TJ6 0
theorem nmJ6 : ∀ a, a < 0 → ∀ b, b < 0 → a ≠ b → (TJ6 a).2.1 ≠ (TJ6 b).2.1 := by decide +kernel
theorem tyJ6_ok : ∀ k, k < 0 → parseFieldDescriptor (TJ6 k).2.2.1 = some (tyJ6 k) := by decide +kernel
abbrev cJ6_bitCount_0f7a4 : ByteArray := prog_9_method_49_code
def yJ6_bitCount_0f7a4 : MethodName := ⟨RJ6, "bitCount", "(I)I"⟩
def RJ9 : String := "java/lang/Math"
def TJ9 : u_T := fun k => match k with
  | _ => ("", "", "", false)
def tyJ9 : Nat → FieldType := fun k => match k with
  | _ => .int
abbrev wsJ90 : List Cond := u_ws RJ9 TJ9 0
theorem nmJ9 : ∀ a, a < 0 → ∀ b, b < 0 → a ≠ b → (TJ9 a).2.1 ≠ (TJ9 b).2.1 := by decide +kernel
theorem tyJ9_ok : ∀ k, k < 0 → parseFieldDescriptor (TJ9 k).2.2.1 = some (tyJ9 k) := by decide +kernel
abbrev cJ9_abs_067f4 : ByteArray := prog_10_method_61_code
def yJ9_abs_067f4 : MethodName := ⟨RJ9, "abs", "(J)J"⟩
abbrev cJ9_max_7cf53 : ByteArray := prog_10_method_65_code
def yJ9_max_7cf53 : MethodName := ⟨RJ9, "max", "(II)I"⟩
abbrev cJ9_min_7cf53 : ByteArray := prog_10_method_69_code
def yJ9_min_7cf53 : MethodName := ⟨RJ9, "min", "(II)I"⟩
abbrev cJ9_min_f86c9 : ByteArray := prog_10_method_70_code
def yJ9_min_f86c9 : MethodName := ⟨RJ9, "min", "(JJ)J"⟩
def RJ0 : String := "java/lang/String"
def TJ0 : u_T := fun k => match k with
  | _ => ("", "", "", false)
def tyJ0 : Nat → FieldType := fun k => match k with
  | _ => .int
abbrev wsJ00 : List Cond := u_ws RJ0 TJ0 0
theorem nmJ0 : ∀ a, a < 0 → ∀ b, b < 0 → a ≠ b → (TJ0 a).2.1 ≠ (TJ0 b).2.1 := by decide +kernel
theorem tyJ0_ok : ∀ k, k < 0 → parseFieldDescriptor (TJ0 k).2.2.1 = some (tyJ0 k) := by decide +kernel
abbrev cJ0_length_8abf5 : ByteArray := prog_11_method_54_code
def yJ0_length_8abf5 : MethodName := ⟨RJ0, "length", "()I"⟩
abbrev cJ0_charAt_5068e : ByteArray := prog_11_method_56_code
def yJ0_charAt_5068e : MethodName := ⟨RJ0, "charAt", "(I)C"⟩
abbrev cJ0_coder_7d493 : ByteArray := prog_11_method_152_code
def yJ0_coder_7d493 : MethodName := ⟨RJ0, "coder", "()B"⟩
abbrev cJ0_isLatin1_aae02 : ByteArray := prog_11_method_154_code
def yJ0_isLatin1_aae02 : MethodName := ⟨RJ0, "isLatin1", "()Z"⟩
abbrev cJ0_checkIndex_df160 : ByteArray := prog_11_method_155_code
def yJ0_checkIndex_df160 : MethodName := ⟨RJ0, "checkIndex", "(II)V"⟩
def RJ1 : String := "java/lang/StringLatin1"
def TJ1 : u_T := fun k => match k with
  | _ => ("", "", "", false)
def tyJ1 : Nat → FieldType := fun k => match k with
  | _ => .int
abbrev wsJ10 : List Cond := u_ws RJ1 TJ1 0
theorem nmJ1 : ∀ a, a < 0 → ∀ b, b < 0 → a ≠ b → (TJ1 a).2.1 ≠ (TJ1 b).2.1 := by decide +kernel
theorem tyJ1_ok : ∀ k, k < 0 → parseFieldDescriptor (TJ1 k).2.2.1 = some (tyJ1 k) := by decide +kernel
abbrev cJ1_charAt_3b067 : ByteArray := prog_12_method_2_code
def yJ1_charAt_3b067 : MethodName := ⟨RJ1, "charAt", "([BI)C"⟩
def RJ2 : String := "java/lang/StringUTF16"
def TJ2 : u_T := fun k => match k with
  | _ => ("", "", "", false)
def tyJ2 : Nat → FieldType := fun k => match k with
  | _ => .int
abbrev wsJ20 : List Cond := u_ws RJ2 TJ2 0
theorem nmJ2 : ∀ a, a < 0 → ∀ b, b < 0 → a ≠ b → (TJ2 a).2.1 ≠ (TJ2 b).2.1 := by decide +kernel
theorem tyJ2_ok : ∀ k, k < 0 → parseFieldDescriptor (TJ2 k).2.2.1 = some (tyJ2 k) := by decide +kernel
abbrev cJ2_getChar_3b067 : ByteArray := prog_13_method_5_code
def yJ2_getChar_3b067 : MethodName := ⟨RJ2, "getChar", "([BI)C"⟩
abbrev cJ2_length_9d52b : ByteArray := prog_13_method_6_code
def yJ2_length_9d52b : MethodName := ⟨RJ2, "length", "([B)I"⟩
abbrev cJ2_charAt_3b067 : ByteArray := prog_13_method_83_code
def yJ2_charAt_3b067 : MethodName := ⟨RJ2, "charAt", "([BI)C"⟩
abbrev cJ2_checkIndex_2214a : ByteArray := prog_13_method_91_code
def yJ2_checkIndex_2214a : MethodName := ⟨RJ2, "checkIndex", "(I[B)V"⟩
def RJ10 : String := "java/lang/System"
def TJ10 : u_T := fun k => match k with
  | _ => ("", "", "", false)
def tyJ10 : Nat → FieldType := fun k => match k with
  | _ => .int
abbrev wsJ100 : List Cond := u_ws RJ10 TJ10 0
theorem nmJ10 : ∀ a, a < 0 → ∀ b, b < 0 → a ≠ b → (TJ10 a).2.1 ≠ (TJ10 b).2.1 := by decide +kernel
theorem tyJ10_ok : ∀ k, k < 0 → parseFieldDescriptor (TJ10 k).2.2.1 = some (tyJ10 k) := by decide +kernel
def RJ3 : String := "jdk/internal/util/Preconditions"
def TJ3 : u_T := fun k => match k with
  | _ => ("", "", "", false)
def tyJ3 : Nat → FieldType := fun k => match k with
  | _ => .int
abbrev wsJ30 : List Cond := u_ws RJ3 TJ3 0
theorem nmJ3 : ∀ a, a < 0 → ∀ b, b < 0 → a ≠ b → (TJ3 a).2.1 ≠ (TJ3 b).2.1 := by decide +kernel
theorem tyJ3_ok : ∀ k, k < 0 → parseFieldDescriptor (TJ3 k).2.2.1 = some (tyJ3 k) := by decide +kernel
abbrev cJ3_checkIndex_8e157 : ByteArray := prog_15_method_11_code
def yJ3_checkIndex_8e157 : MethodName := ⟨RJ3, "checkIndex", "(IILjava/util/function/BiFunction;)I"⟩
def RL : String := "CaseCutterLaw"
abbrev cL_law : ByteArray := code
def yL_law : MethodName := ⟨RL, "law", "([I)Z"⟩
abbrev MI : Type := MethodName × ByteArray × Nat × Option FieldType
def mX0_init : MI := (yX0_init, cX0_init, 1, none)
def mX1_span : MI := (yX1_span, cX1_span, 3, some .long)
def mX1_loneSteps : MI := (yX1_loneSteps, cX1_loneSteps, 2, some .int)
def mX1_numbersIn : MI := (yX1_numbersIn, cX1_numbersIn, 6, some .long)
def mJ6_bitCount_0f7a4 : MI := (yJ6_bitCount_0f7a4, cJ6_bitCount_0f7a4, 1, some .int)
def mX1_aimsIn : MI := (yX1_aimsIn, cX1_aimsIn, 5, some .int)
def mX0_sortOut : MI := (yX0_sortOut, cX0_sortOut, 9, none)
def mX1_weightIn : MI := (yX1_weightIn, cX1_weightIn, 5, some .int)
def mX0_choose : MI := (yX0_choose, cX0_choose, 8, none)
def mX0_layOut : MI := (yX0_layOut, cX0_layOut, 5, none)
def mX0_make : MI := (yX0_make, cX0_make, 8, none)
def mX0_has : MI := (yX0_has, cX0_has, 2, some .boolean)
def mX0_sortOf : MI := (yX0_sortOf, cX0_sortOf, 2, some .int)
def mX0_stepsOf : MI := (yX0_stepsOf, cX0_stepsOf, 2, some .int)
def mX0_stepsThrough : MI := (yX0_stepsThrough, cX0_stepsThrough, 2, some .int)
def mX0_partsOf : MI := (yX0_partsOf, cX0_partsOf, 4, some .int)
def mX0_valueOf : MI := (yX0_valueOf, cX0_valueOf, 6, some .int)
def mX0_partLookingAt : MI := (yX0_partLookingAt, cX0_partLookingAt, 4, some .int)
def mX0_hasPartsOf : MI := (yX0_hasPartsOf, cX0_hasPartsOf, 3, some .boolean)
def mX1_init : MI := (yX1_init, cX1_init, 1, none)
def mX1_clear : MI := (yX1_clear, cX1_clear, 1, none)
def mX1_take : MI := (yX1_take, cX1_take, 2, none)
def mX1_has : MI := (yX1_has, cX1_has, 2, some .boolean)
def mX1_valueOf : MI := (yX1_valueOf, cX1_valueOf, 3, some .int)
def mX1_ownerOf : MI := (yX1_ownerOf, cX1_ownerOf, 3, some .int)
def mX1_isFree : MI := (yX1_isFree, cX1_isFree, 4, some .boolean)
def mX1_insert : MI := (yX1_insert, cX1_insert, 6, some .int)
def mX1_record : MI := (yX1_record, cX1_record, 3, none)
def mX1_addCase : MI := (yX1_addCase, cX1_addCase, 6, some .int)
def mX1_remove : MI := (yX1_remove, cX1_remove, 3, none)
def mX1_cutCase : MI := (yX1_cutCase, cX1_cutCase, 2, none)
def mX1_aimCase : MI := (yX1_aimCase, cX1_aimCase, 3, none)
def mX1_weighCase : MI := (yX1_weighCase, cX1_weighCase, 3, none)
def mX1_doNothing : MI := (yX1_doNothing, cX1_doNothing, 1, none)
def mX1_undoLatest : MI := (yX1_undoLatest, cX1_undoLatest, 2, none)
def mX2_init : MI := (yX2_init, cX2_init, 1, none)
def mX2_stepOverWord : MI := (yX2_stepOverWord, cX2_stepOverWord, 1, none)
def mX2_stepOverNumber : MI := (yX2_stepOverNumber, cX2_stepOverNumber, 3, none)
def mX2_step : MI := (yX2_step, cX2_step, 2, none)
def mJ0_coder_7d493 : MI := (yJ0_coder_7d493, cJ0_coder_7d493, 1, some .byte)
def mJ0_length_8abf5 : MI := (yJ0_length_8abf5, cJ0_length_8abf5, 1, some .int)
def mJ0_isLatin1_aae02 : MI := (yJ0_isLatin1_aae02, cJ0_isLatin1_aae02, 1, some .boolean)
def mJ3_checkIndex_8e157 : MI := (yJ3_checkIndex_8e157, cJ3_checkIndex_8e157, 3, some .int)
def mJ0_checkIndex_df160 : MI := (yJ0_checkIndex_df160, cJ0_checkIndex_df160, 2, none)
def mJ1_charAt_3b067 : MI := (yJ1_charAt_3b067, cJ1_charAt_3b067, 2, some .char)
def mJ2_length_9d52b : MI := (yJ2_length_9d52b, cJ2_length_9d52b, 1, some .int)
def mJ2_checkIndex_2214a : MI := (yJ2_checkIndex_2214a, cJ2_checkIndex_2214a, 2, none)
def mJ2_getChar_3b067 : MI := (yJ2_getChar_3b067, cJ2_getChar_3b067, 2, some .char)
def mJ2_charAt_3b067 : MI := (yJ2_charAt_3b067, cJ2_charAt_3b067, 2, some .char)
def mJ0_charAt_5068e : MI := (yJ0_charAt_5068e, cJ0_charAt_5068e, 2, some .char)
def mX2_isWord : MI := (yX2_isWord, cX2_isWord, 3, some .boolean)
def mX2_readNumber : MI := (yX2_readNumber, cX2_readNumber, 5, some .boolean)
def mX2_readSemicolon : MI := (yX2_readSemicolon, cX2_readSemicolon, 1, some .boolean)
def mX2_readRest : MI := (yX2_readRest, cX2_readRest, 2, some .boolean)
def mX5_hashWith : MI := (yX5_hashWith, cX5_hashWith, 2, some .int)
def mX2_readName : MI := (yX2_readName, cX2_readName, 3, some .boolean)
def mX2_readNumbers : MI := (yX2_readNumbers, cX2_readNumbers, 3, some .boolean)
def mX2_readAimAndWeight : MI := (yX2_readAimAndWeight, cX2_readAimAndWeight, 4, some .boolean)
def mX2_readStatement : MI := (yX2_readStatement, cX2_readStatement, 5, some .boolean)
def mX2_read : MI := (yX2_read, cX2_read, 4, some .int)
def mX3_init : MI := (yX3_init, cX3_init, 2, none)
def mX3_isMissing : MI := (yX3_isMissing, cX3_isMissing, 1, some .boolean)
def mX3_has : MI := (yX3_has, cX3_has, 2, some .boolean)
def mX3_hasFrom : MI := (yX3_hasFrom, cX3_hasFrom, 3, some .boolean)
def mX3_fill : MI := (yX3_fill, cX3_fill, 4, none)
def mX3_drop : MI := (yX3_drop, cX3_drop, 1, none)
def mX3_sum : MI := (yX3_sum, cX3_sum, 4, some .long)
def mX4_init : MI := (yX4_init, cX4_init, 1, none)
def mX4_writeByte : MI := (yX4_writeByte, cX4_writeByte, 2, none)
def mX4_writeWord : MI := (yX4_writeWord, cX4_writeWord, 3, none)
def mX4_writeNumber : MI := (yX4_writeNumber, cX4_writeNumber, 6, none)
def mX4_writeOut : MI := (yX4_writeOut, cX4_writeOut, 3, some .int)
def mX5_init : MI := (yX5_init, cX5_init, 2, none)
def mX5_isRow : MI := (yX5_isRow, cX5_isRow, 1, some .boolean)
def mX5_found : MI := (yX5_found, cX5_found, 2, some .int)
def mX5_row : MI := (yX5_row, cX5_row, 3, some .int)
def mX5_lay : MI := (yX5_lay, cX5_lay, 4, some .int)
def mX5_at : MI := (yX5_at, cX5_at, 3, some .int)
def mX5_tear : MI := (yX5_tear, cX5_tear, 2, some .int)
def mX5_copy : MI := (yX5_copy, cX5_copy, 6, some .int)
def mX5_mean : MI := (yX5_mean, cX5_mean, 2, some .int)
def mX5_isText : MI := (yX5_isText, cX5_isText, 1, some .boolean)
def mX5_text : MI := (yX5_text, cX5_text, 3, some .int)
def mX5_put : MI := (yX5_put, cX5_put, 5, some .int)
def mX5_fault : MI := (yX5_fault, cX5_fault, 2, some .int)
def mX5_program : MI := (yX5_program, cX5_program, 3, some .int)
def mX5_write : MI := (yX5_write, cX5_write, 3, some .int)
def mX5_hash : MI := (yX5_hash, cX5_hash, 5, some .int)
def mX5_told : MI := (yX5_told, cX5_told, 3, some .int)
def mX5_isAim : MI := (yX5_isAim, cX5_isAim, 1, some .boolean)
def mX5_isWeight : MI := (yX5_isWeight, cX5_isWeight, 1, some .boolean)
def mX5_add : MI := (yX5_add, cX5_add, 5, some .int)
def mX5_cut : MI := (yX5_cut, cX5_cut, 2, some .int)
def mX5_aim : MI := (yX5_aim, cX5_aim, 4, some .int)
def mX5_weigh : MI := (yX5_weigh, cX5_weigh, 4, some .int)
def mX5_undo : MI := (yX5_undo, cX5_undo, 4, some .int)
def mX5_isKeptPlace : MI := (yX5_isKeptPlace, cX5_isKeptPlace, 1, some .boolean)
def mX5_keep : MI := (yX5_keep, cX5_keep, 2, some .int)
def mX5_on : MI := (yX5_on, cX5_on, 2, some .int)
def mX5_reach : MI := (yX5_reach, cX5_reach, 3, some .int)
def mX5_renewPlan : MI := (yX5_renewPlan, cX5_renewPlan, 1, none)
def mX5_run : MI := (yX5_run, cX5_run, 4, some .int)
def mX5_cost : MI := (yX5_cost, cX5_cost, 1, some .int)
def mX5_part : MI := (yX5_part, cX5_part, 3, some .int)
def mX5_markOf : MI := (yX5_markOf, cX5_markOf, 4, some .int)
def mX5_mark : MI := (yX5_mark, cX5_mark, 4, some .int)
def mX5_jump : MI := (yX5_jump, cX5_jump, 5, some .int)
def mX5_mask : MI := (yX5_mask, cX5_mask, 10, some .int)
def mX5_only : MI := (yX5_only, cX5_only, 2, some .int)
def mX5_chain : MI := (yX5_chain, cX5_chain, 4, some .int)
def mX5_worst : MI := (yX5_worst, cX5_worst, 3, some .int)
def mX5_swing : MI := (yX5_swing, cX5_swing, 3, some .int)
def mX5_covered : MI := (yX5_covered, cX5_covered, 10, some .long)
def mX5_doByLot : MI := (yX5_doByLot, cX5_doByLot, 4, none)
def mX5_lots : MI := (yX5_lots, cX5_lots, 5, some .int)
def mX5_asked : MI := (yX5_asked, cX5_asked, 1, some .int)
def mX5_mask0 : MI := (yX5_mask0, cX5_mask0, 1, some .long)
def mX5_howManyAreThere : MI := (yX5_howManyAreThere, cX5_howManyAreThere, 3, some .int)
def mX5_howManyAreKept : MI := (yX5_howManyAreKept, cX5_howManyAreKept, 3, some .int)
def mX5_count : MI := (yX5_count, cX5_count, 2, some .int)
def mX5_finding : MI := (yX5_finding, cX5_finding, 1, some .int)
def mX5_findings : MI := (yX5_findings, cX5_findings, 2, some .int)
def mX5_digestOf : MI := (yX5_digestOf, cX5_digestOf, 7, some .long)
def mX5_digest : MI := (yX5_digest, cX5_digest, 5, some .long)
def mX6_init : MI := (yX6_init, cX6_init, 2, none)
def mX6_in : MI := (yX6_in, cX6_in, 3, some .boolean)
def mX6_has : MI := (yX6_has, cX6_has, 2, some .boolean)
def mX6_found : MI := (yX6_found, cX6_found, 2, some .int)
def mX6_tells : MI := (yX6_tells, cX6_tells, 3, some .int)
def mX6_asked : MI := (yX6_asked, cX6_asked, 1, some .int)
def mX6_finding : MI := (yX6_finding, cX6_finding, 1, some .int)
def mX6_findings : MI := (yX6_findings, cX6_findings, 2, some .int)
def mX6_isRow : MI := (yX6_isRow, cX6_isRow, 1, some .boolean)
def mX6_rowAt : MI := (yX6_rowAt, cX6_rowAt, 3, some .int)
def mX6_row : MI := (yX6_row, cX6_row, 4, some .int)
def mX6_lay : MI := (yX6_lay, cX6_lay, 5, some .int)
def mX6_at : MI := (yX6_at, cX6_at, 3, some .int)
def mX6_tear : MI := (yX6_tear, cX6_tear, 2, some .int)
def mX6_copy : MI := (yX6_copy, cX6_copy, 7, some .int)
def mX6_mean : MI := (yX6_mean, cX6_mean, 5, some .int)
def mX6_isText : MI := (yX6_isText, cX6_isText, 1, some .boolean)
def mX6_text : MI := (yX6_text, cX6_text, 4, some .int)
def mX6_put : MI := (yX6_put, cX6_put, 5, some .int)
def mX6_byteAt : MI := (yX6_byteAt, cX6_byteAt, 3, some .int)
def mX6_blanks : MI := (yX6_blanks, cX6_blanks, 2, none)
def mX6_isLetter : MI := (yX6_isLetter, cX6_isLetter, 2, some .boolean)
def mX6_isFigure : MI := (yX6_isFigure, cX6_isFigure, 3, some .boolean)
def mX6_next : MI := (yX6_next, cX6_next, 3, none)
def mX6_fails : MI := (yX6_fails, cX6_fails, 1, some .boolean)
def mX6_word : MI := (yX6_word, cX6_word, 4, some .int)
def mX6_number : MI := (yX6_number, cX6_number, 6, some .boolean)
def mX6_caseOf : MI := (yX6_caseOf, cX6_caseOf, 3, some .int)
def mX6_isFree : MI := (yX6_isFree, cX6_isFree, 5, some .boolean)
def mX6_comes : MI := (yX6_comes, cX6_comes, 7, some .int)
def mX6_goes : MI := (yX6_goes, cX6_goes, 4, none)
def mX6_hashOf : MI := (yX6_hashOf, cX6_hashOf, 4, some .int)
def mX6_ends : MI := (yX6_ends, cX6_ends, 2, some .boolean)
def mX6_readsAim : MI := (yX6_readsAim, cX6_readsAim, 5, some .boolean)
def mX6_readsCase : MI := (yX6_readsCase, cX6_readsCase, 3, some .boolean)
def mX6_readsRange : MI := (yX6_readsRange, cX6_readsRange, 4, some .boolean)
def mX6_readsName : MI := (yX6_readsName, cX6_readsName, 3, some .boolean)
def mX6_readsRest : MI := (yX6_readsRest, cX6_readsRest, 2, some .boolean)
def mX6_readsOne : MI := (yX6_readsOne, cX6_readsOne, 4, some .boolean)
def mX6_faultOf : MI := (yX6_faultOf, cX6_faultOf, 2, some .int)
def mX6_fault : MI := (yX6_fault, cX6_fault, 2, some .int)
def mX6_program : MI := (yX6_program, cX6_program, 3, some .int)
def mX6_writes : MI := (yX6_writes, cX6_writes, 2, none)
def mX6_writesWord : MI := (yX6_writesWord, cX6_writesWord, 5, none)
def mX6_writesNumber : MI := (yX6_writesNumber, cX6_writesNumber, 7, none)
def mX6_write : MI := (yX6_write, cX6_write, 3, some .int)
def mX6_hash : MI := (yX6_hash, cX6_hash, 5, some .int)
def mX6_isCase : MI := (yX6_isCase, cX6_isCase, 2, some .boolean)
def mX6_told : MI := (yX6_told, cX6_told, 3, some .int)
def mX6_remember : MI := (yX6_remember, cX6_remember, 2, none)
def mX6_undo : MI := (yX6_undo, cX6_undo, 4, some .int)
def mX6_keep : MI := (yX6_keep, cX6_keep, 3, some .int)
def mX6_on : MI := (yX6_on, cX6_on, 3, some .int)
def mX6_add : MI := (yX6_add, cX6_add, 5, some .int)
def mX6_cut : MI := (yX6_cut, cX6_cut, 2, some .int)
def mX6_becomes : MI := (yX6_becomes, cX6_becomes, 4, some .int)
def mX6_aim : MI := (yX6_aim, cX6_aim, 3, some .int)
def mX6_weigh : MI := (yX6_weigh, cX6_weigh, 3, some .int)
def mX6_spanOf : MI := (yX6_spanOf, cX6_spanOf, 3, some .long)
def mX6_coveredBy : MI := (yX6_coveredBy, cX6_coveredBy, 6, some .long)
def mX6_aimsOf : MI := (yX6_aimsOf, cX6_aimsOf, 6, some .int)
def mX6_weightOf : MI := (yX6_weightOf, cX6_weightOf, 5, some .int)
def mX6_stepsBy : MI := (yX6_stepsBy, cX6_stepsBy, 4, some .int)
def mX6_sortOf : MI := (yX6_sortOf, cX6_sortOf, 8, some .int)
def mX6_costOf : MI := (yX6_costOf, cX6_costOf, 3, some .int)
def mX6_layCost : MI := (yX6_layCost, cX6_layCost, 10, none)
def mX6_layCosts : MI := (yX6_layCosts, cX6_layCosts, 5, some .int)
def mX6_cutOf : MI := (yX6_cutOf, cX6_cutOf, 2, some .int)
def mX6_layPlan : MI := (yX6_layPlan, cX6_layPlan, 5, some .int)
def mX6_partSort : MI := (yX6_partSort, cX6_partSort, 2, some .int)
def mX6_partSteps : MI := (yX6_partSteps, cX6_partSteps, 2, some .int)
def mX6_reach : MI := (yX6_reach, cX6_reach, 3, some .int)
def mX6_run : MI := (yX6_run, cX6_run, 6, some .int)
def mX6_cost : MI := (yX6_cost, cX6_cost, 1, some .int)
def mX6_partTells : MI := (yX6_partTells, cX6_partTells, 5, some .int)
def mX6_isPart : MI := (yX6_isPart, cX6_isPart, 2, some .boolean)
def mX6_part : MI := (yX6_part, cX6_part, 3, some .int)
def mX6_markOf : MI := (yX6_markOf, cX6_markOf, 5, some .int)
def mX6_mark : MI := (yX6_mark, cX6_mark, 4, some .int)
def mX6_jump : MI := (yX6_jump, cX6_jump, 4, some .int)
def mX6_mask0 : MI := (yX6_mask0, cX6_mask0, 1, some .long)
def mX6_mask : MI := (yX6_mask, cX6_mask, 6, some .int)
def mX6_only : MI := (yX6_only, cX6_only, 2, some .int)
def mX6_chain : MI := (yX6_chain, cX6_chain, 4, some .int)
def mX6_worst : MI := (yX6_worst, cX6_worst, 5, some .int)
def mX6_isOther : MI := (yX6_isOther, cX6_isOther, 3, some .boolean)
def mX6_swing : MI := (yX6_swing, cX6_swing, 6, some .int)
def mX6_covered : MI := (yX6_covered, cX6_covered, 8, some .long)
def mX6_lots : MI := (yX6_lots, cX6_lots, 8, some .int)
def mX6_sortMany : MI := (yX6_sortMany, cX6_sortMany, 4, some .int)
def mX6_counted : MI := (yX6_counted, cX6_counted, 4, some .int)
def mX6_count : MI := (yX6_count, cX6_count, 2, some .int)
def mX6_adds : MI := (yX6_adds, cX6_adds, 3, none)
def mX6_digest : MI := (yX6_digest, cX6_digest, 3, some .long)
def mJ9_abs_067f4 : MI := (yJ9_abs_067f4, cJ9_abs_067f4, 2, some .long)
def mJ9_max_7cf53 : MI := (yJ9_max_7cf53, cJ9_max_7cf53, 2, some .int)
def mJ9_min_7cf53 : MI := (yJ9_min_7cf53, cJ9_min_7cf53, 2, some .int)
def mJ9_min_f86c9 : MI := (yJ9_min_f86c9, cJ9_min_f86c9, 4, some .long)
end
section
/-! THE PURE WORLD: cells by their numbers 0, 1, .. in the order of their making; what a cell is (Sh), what it holds (Mm) -/
abbrev Sh : Type := Nat × Nat × (Nat → Option Nat)
abbrev Gm : Type := (Nat → Sh) × Nat
abbrev Mm : Type := (Nat → Nat → Int32) × (Nat → Nat → Int64)
abbrev Wd : Type := Gm × Mm
def tyF (c k : Nat) : FieldType := match c with
  | 0 => tyX0 k
  | 1 => tyX1 k
  | 2 => tyX2 k
  | 3 => tyX3 k
  | 4 => tyX4 k
  | 5 => tyX5 k
  | _ => tyX6 k
def clR (c : Nat) : String := match c with
  | 0 => RX0
  | 1 => RX1
  | 2 => RX2
  | 3 => RX3
  | 4 => RX4
  | 5 => RX5
  | _ => RX6
def clT (c : Nat) : u_T := match c with
  | 0 => TX0
  | 1 => TX1
  | 2 => TX2
  | 3 => TX3
  | 4 => TX4
  | 5 => TX5
  | _ => TX6
def clN (c : Nat) : Nat := match c with
  | 0 => 9
  | 1 => 13
  | 2 => 9
  | 3 => 2
  | 4 => 3
  | 5 => 15
  | _ => 35
abbrev cls7 : List vw_C := [(RX0, TX0, 9), (RX1, TX1, 13), (RX2, TX2, 9), (RX3, TX3, 2), (RX4, TX4, 3), (RX5, TX5, 15), (RX6, TX6, 35)]
theorem cls7_at {c : Nat} (h : c < 7) : cls7[c]? = some (clR c, clT c, clN c) := by
  match c, h with
  | 0, _ => rfl
  | 1, _ => rfl
  | 2, _ => rfl
  | 3, _ => rfl
  | 4, _ => rfl
  | 5, _ => rfl
  | 6, _ => rfl
theorem clN_ok {c : Nat} (h : c < 7) : ∀ a, a < clN c → ∀ b, b < clN c → a ≠ b → (clT c a).2.1 ≠ (clT c b).2.1 := by
  match c, h with
  | 0, _ => exact nmX0
  | 1, _ => exact nmX1
  | 2, _ => exact nmX2
  | 3, _ => exact nmX3
  | 4, _ => exact nmX4
  | 5, _ => exact nmX5
  | 6, _ => exact nmX6
theorem clTy_ok {c : Nat} (h : c < 7) : ∀ k, k < clN c → parseFieldDescriptor (clT c k).2.2.1 = some (tyF c k) := by
  match c, h with
  | 0, _ => exact tyX0_ok
  | 1, _ => exact tyX1_ok
  | 2, _ => exact tyX2_ok
  | 3, _ => exact tyX3_ok
  | 4, _ => exact tyX4_ok
  | 5, _ => exact tyX5_ok
  | 6, _ => exact tyX6_ok
def lw_g : List Cond := lw_tbl.filter goodWord
theorem lw_gm {w : Cond} (h : w ∈ lw_tbl) (hg : goodWord w = true) : w ∈ lw_g := List.mem_filter.mpr ⟨h, hg⟩
set_option maxRecDepth 20000 in
theorem inX0 : ∀ w ∈ wsX00, w ∈ lw_tbl := by decide +kernel
set_option maxRecDepth 20000 in
theorem inX1 : ∀ w ∈ wsX10, w ∈ lw_tbl := by decide +kernel
set_option maxRecDepth 20000 in
theorem inX2 : ∀ w ∈ wsX20, w ∈ lw_tbl := by decide +kernel
set_option maxRecDepth 20000 in
theorem inX3 : ∀ w ∈ wsX30, w ∈ lw_tbl := by decide +kernel
set_option maxRecDepth 20000 in
theorem inX4 : ∀ w ∈ wsX40, w ∈ lw_tbl := by decide +kernel
set_option maxRecDepth 20000 in
theorem inX5 : ∀ w ∈ wsX50, w ∈ lw_tbl := by decide +kernel
set_option maxRecDepth 20000 in
theorem inX6 : ∀ w ∈ wsX60, w ∈ lw_tbl := by decide +kernel
theorem gdX0 : wsX00.all goodWord = true := by decide +kernel
theorem gdX1 : wsX10.all goodWord = true := by decide +kernel
theorem gdX2 : wsX20.all goodWord = true := by decide +kernel
theorem gdX3 : wsX30.all goodWord = true := by decide +kernel
theorem gdX4 : wsX40.all goodWord = true := by decide +kernel
theorem gdX5 : wsX50.all goodWord = true := by decide +kernel
theorem gdX6 : wsX60.all goodWord = true := by decide +kernel
theorem in_g {ws : List Cond} (h : ∀ w ∈ ws, w ∈ lw_tbl) (hg : ws.all goodWord = true) : ∀ w ∈ ws, w ∈ lw_g := fun w hw => lw_gm (h w hw) (List.all_eq_true.mp hg w hw)
theorem cl_in {c : Nat} (h : c < 7) : ∀ w ∈ u_ws (clR c) (clT c) (clN c), w ∈ lw_g := by
  match c, h with
  | 0, _ => exact in_g inX0 gdX0
  | 1, _ => exact in_g inX1 gdX1
  | 2, _ => exact in_g inX2 gdX2
  | 3, _ => exact in_g inX3 gdX3
  | 4, _ => exact in_g inX4 gdX4
  | 5, _ => exact in_g inX5 gdX5
  | 6, _ => exact in_g inX6 gdX6
def ftk : FieldType → Nat
  | .long => 1
  | .object _ => 2
  | .array _ => 2
  | _ => 0
def fty (c k : Nat) : Nat := ftk (tyF c k)
def trV (ad : Nat → Nat) : Value → Value
  | .ref i => .ref (ad i)
  | v => v
def fv (ad : Nat → Nat) (w : Wd) (i k : Nat) : Value :=
  if fty (w.1.1 i).1 k = 0 then .int (w.2.1 i k) else if fty (w.1.1 i).1 k = 1 then .long (w.2.2 i k) else va_rf (((w.1.1 i).2.2 k).map ad)
def ob (tc : Nat → ClassId) (ad : Nat → Nat) (w : Wd) (i : Nat) : va_E :=
  if (w.1.1 i).1 < 10 then .inr ((w.1.1 i).1, (List.range (w.1.1 i).2.1).map (fv ad w i))
  else if (w.1.1 i).1 < 13 then .inl (tc (w.1.1 i).1, (w.1.1 i).2.1, .inl (fun j => w.2.1 i j))
  else .inl (tc (w.1.1 i).1, (w.1.1 i).2.1, .inr (.inr (.inr (.inr (fun j => ((w.1.1 i).2.2 j).map ad)))))
def wsW (tc : Nat → ClassId) (ad : Nat → Nat) (w : Wd) : va_W := (List.range w.1.2).map (fun i => (ad i, ob tc ad w i))
theorem wsW_at {tc : Nat → ClassId} {ad : Nat → Nat} {w : Wd} {i : Nat} (h : i < w.1.2) : (wsW tc ad w)[i]? = some (ad i, ob tc ad w i) := by
  unfold wsW
  rw [List.getElem?_map, List.getElem?_range h]
  rfl
/-- the world but for one cell -/
theorem wsW_set {tc : Nat → ClassId} {ad : Nat → Nat} {w w' : Wd} {a : Nat} {x : va_E} (hG : w'.1.2 = w.1.2) (ho : ∀ i, i ≠ a → ob tc ad w' i = ob tc ad w i) (hx : ob tc ad w' a = x) : (wsW tc ad w).set a (ad a, x) = wsW tc ad w' := by
  unfold wsW
  rw [hG]
  apply List.ext_getElem?
  intro j
  rw [List.getElem?_set]
  by_cases hj : a = j
  · subst hj
    by_cases hl : a < w.1.2
    · simp [hl, hx]
    · simp [hl]
  · rw [if_neg hj, List.getElem?_map, List.getElem?_map]
    by_cases hl : j < w.1.2
    · rw [List.getElem?_range hl]
      simp [ho j (fun h => hj h.symm)]
    · rw [List.getElem?_eq_none (by simpa using hl)]
      rfl
/-- the array classes, by their kinds -/
abbrev tyL (tc : Nat → ClassId) : List (ClassId × FieldType) := [(tc 10, .int), (tc 11, .byte), (tc 12, .boolean), (tc 13, .object RX3), (tc 14, .object RX1), (tc 15, .array .int)]
/-! THE CONTEXT of a method's body -/
def Cx (mi : MI) (p : Program) (s : State) (m : MethodId) (args : Array Value) (meth : Method) (c : Code) : Prop :=
  p.tables.exec = Jvm.exec ∧ c.code = mi.2.1 ∧ meth.sig.returnType = mi.2.2.2 ∧ c.maxLocals = mi.2.2.1 ∧ s.vm.findClass mi.1.cls = some m.cls ∧ (∀ w ∈ lw_g, w.before args s = true) ∧ meth.locks = false ∧ meth.name = mi.1.name
def Rm (d : Nat) (lim : Nat × Nat) (R : Room) : Prop := d + 1 ≤ R.frames ∧ 64 * (d + 1) ≤ R.locals ∧ lim.1 ≤ R.cells ∧ lim.2 ≤ R.slots
def nestL : List (String × Nat × MethodName × String) := [("CaseCutter$Reader", 123, yX5_hashWith, "CaseCutter"), ("CaseCutter", 20, yX1_init, "CaseCutter"), ("CaseCutter", 38, yX2_init, "CaseCutter"), ("CaseCutter", 45, yX4_init, "CaseCutter"), ("CaseCutter", 52, yX0_init, "CaseCutter")]
def strN : List Nat := [4, 5, 4, 4]
def strB : List (List Int32) := [[114, 101, 115, 116], [114, 97, 110, 103, 101], [110, 97, 109, 101], [99, 97, 115, 101]]
def strL : List (String × Nat × String × Nat) := [("CaseCutter$Reader", 75, "rest", 0), ("CaseCutter$Reader", 84, "range", 1), ("CaseCutter$Reader", 86, "name", 2), ("CaseCutter$Reader", 88, "case", 3), ("CaseCutter$Writer", 31, "case", 3), ("CaseCutter$Writer", 41, "range", 1), ("CaseCutter$Writer", 55, "rest", 0)]
/-- what else is known of the machine outside the world: nest mates' links, the constants' texts -/
def Xs (ad : Nat → Nat) (A : Nat → Prop) (U : State) : Prop := (∀ q ∈ nestL, va_Nw (.methodLinkNest q.1 q.2.1 q.2.2.1 q.2.2.2) U) ∧
  vk_S 4 strN strB (fun i => ad (1000000 + i)) (fun i => ad (1000010 + i)) A U U.heap ∧ (∀ q ∈ strL, vk_R q.1 q.2.1 q.2.2.1 (ad (1000000 + q.2.2.2)) U) ∧ va_Z "java/lang/String" "COMPACT_STRINGS" "Z" (.int 1) A U U.heap ∧ va_AO RX3 U ∧ va_AO RX1 U
def Sc (sc : Nat × (Nat → Int32)) (ad : Nat → Nat) (A : Nat → Prop) (U : State) : Prop := sc.1 = 0 ∨ (va_X (ad 3000000) sc.1 sc.2 U U.heap ∧ ad 3000000 < U.heap.size ∧ ¬ A (ad 3000000))
def Ev (D : va_G) (tc : Nat → ClassId) (ad : Nat → Nat) (w : Wd) (sc : Nat × (Nat → Int32)) (s : State) (A : Nat → Prop) (H : Heap) (locs : List Loc) : Prop :=
  va_K D cls7 (tyL tc) s ∧ va_P D cls7 (wsW tc ad w) H ∧ va_D A (wsW tc ad w) ∧ va_S A s.heap H locs ∧ (∀ q, s.heap.size ≤ q → A q) ∧ w.1.2 ≤ 1000000 ∧ Xs ad A s ∧ Sc sc ad A s
/-- the locals: null stands for 'not known' -/
def Lr (nL : Nat) (ad : Nat → Nat) (ls : List Value) (lr : Array Slot) : Prop := lr.size = nL ∧ lv_wf lr ∧ ∀ (i : Nat) (v : Value), ls[i]? = some v → v ≠ .null → lr[i]? = some (.val (trV ad v))
def RetI (mi : MI) (pc : Nat) (v : Option Value) : Prop := match v with
  | none => decode mi.2.1 pc = .ok (.return_, 1) ∧ mi.2.2.2 = none
  | some (.int x) => decode mi.2.1 pc = .ok (.ireturn, 1) ∧ ∃ t, mi.2.2.2 = some t ∧ narrow t (.int x) = .int x
  | some (.long _) => decode mi.2.1 pc = .ok (.lreturn, 1) ∧ mi.2.2.2 = some .long
  | some _ => False
/-- a later naming of the cells: what was named keeps its name -/
def AdX (ad ad' : Nat → Nat) (n n' : Nat) : Prop := ∀ i, (i < n ∨ n' ≤ i) → ad' i = ad i
/-- THE JUDGEMENT: from pc on, with these locals, operands and world, the method comes to an answer and a world of K -/
def J (mi : MI) (d : Nat) (lim : Nat × Nat) (sc : Nat × (Nat → Int32)) (K : Option Value → Wd → Prop) (cs : Nat × Nat) (pc : Nat) (ls st : List Value) (w : Wd) : Prop :=
  ∀ (p : Program) (l : Launch) (e : Env) (R : Room) (s : State) (m : MethodId) (args : Array Value) (below : List Frame) (meth : Method) (c : Code) (H : Heap) (locs : List Loc) (D : va_G) (tc : Nat → ClassId) (ad : Nat → Nat) (A : Nat → Prop) (lr : Array Slot) (Q : State → Prop),
    Cx mi p s m args meth c → Rm d lim R → Ev D tc ad w sc s A H locs → Lr mi.2.2.1 ad ls lr →
    (∀ (v : Option Value) (w' : Wd) (H' : Heap) (locs' : List Loc) (ad' : Nat → Nat) (lr' : Array Slot) (pc' : Nat) (cs' : Nat × Nat), K v w' → AdX ad ad' w.1.2 w'.1.2 → w.1.2 ≤ w'.1.2 → Ev D tc ad' w' sc s A H' locs' → cs'.1 ≤ lim.1 → cs'.2 ≤ lim.2 → RetI mi pc' v →
      W p l e R s m args below meth c H' locs' cs'.1 cs'.2 Q (F0 m pc' lr' (v.toList.map (trV ad')))) →
    W p l e R s m args below meth c H locs cs.1 cs.2 Q (F0 m pc lr (st.map (trV ad)))
def Dc (mi : MI) (pc : Nat) (i : Instr) (n nx : Nat) : Prop := decode mi.2.1 pc = .ok (i, n) ∧ pc + n = nx
end
section
section JR
variable {mi : MI} {d : Nat} {lim : Nat × Nat} {sc : Nat × (Nat → Int32)} {K : Option Value → Wd → Prop} {cs : Nat × Nat} {pc nx : Nat} {ls st : List Value} {w : Wd}
theorem J_iadd {x y : Int32} (h : Dc mi pc .iadd 1 nx) (k : J mi d lim sc K cs nx ls (.int (x + y) :: st) w) : J mi d lim sc K cs pc ls (.int y :: .int x :: st) w := by
  obtain ⟨hd, rfl⟩ := h
  intro p l e R s m args below meth c H locs D tc ad A lr Q hC hR hE hL hret
  exact lv_iadd hC.1 hC.2.1 hd (k p l e R s m args below meth c H locs D tc ad A lr Q hC hR hE hL hret)
theorem J_isub {x y : Int32} (h : Dc mi pc .isub 1 nx) (k : J mi d lim sc K cs nx ls (.int (x - y) :: st) w) : J mi d lim sc K cs pc ls (.int y :: .int x :: st) w := by
  obtain ⟨hd, rfl⟩ := h
  intro p l e R s m args below meth c H locs D tc ad A lr Q hC hR hE hL hret
  exact lv_isub hC.1 hC.2.1 hd (k p l e R s m args below meth c H locs D tc ad A lr Q hC hR hE hL hret)
theorem J_imul {x y : Int32} (h : Dc mi pc .imul 1 nx) (k : J mi d lim sc K cs nx ls (.int (x * y) :: st) w) : J mi d lim sc K cs pc ls (.int y :: .int x :: st) w := by
  obtain ⟨hd, rfl⟩ := h
  intro p l e R s m args below meth c H locs D tc ad A lr Q hC hR hE hL hret
  exact lv_imul hC.1 hC.2.1 hd (k p l e R s m args below meth c H locs D tc ad A lr Q hC hR hE hL hret)
theorem J_iand {x y : Int32} (h : Dc mi pc .iand 1 nx) (k : J mi d lim sc K cs nx ls (.int (x &&& y) :: st) w) : J mi d lim sc K cs pc ls (.int y :: .int x :: st) w := by
  obtain ⟨hd, rfl⟩ := h
  intro p l e R s m args below meth c H locs D tc ad A lr Q hC hR hE hL hret
  exact lv_iand hC.1 hC.2.1 hd (k p l e R s m args below meth c H locs D tc ad A lr Q hC hR hE hL hret)
theorem J_ior {x y : Int32} (h : Dc mi pc .ior 1 nx) (k : J mi d lim sc K cs nx ls (.int (x ||| y) :: st) w) : J mi d lim sc K cs pc ls (.int y :: .int x :: st) w := by
  obtain ⟨hd, rfl⟩ := h
  intro p l e R s m args below meth c H locs D tc ad A lr Q hC hR hE hL hret
  exact lv_ior hC.1 hC.2.1 hd (k p l e R s m args below meth c H locs D tc ad A lr Q hC hR hE hL hret)
theorem J_ishl {x y : Int32} (h : Dc mi pc .ishl 1 nx) (k : J mi d lim sc K cs nx ls (.int (x <<< (y &&& 31)) :: st) w) : J mi d lim sc K cs pc ls (.int y :: .int x :: st) w := by
  obtain ⟨hd, rfl⟩ := h
  intro p l e R s m args below meth c H locs D tc ad A lr Q hC hR hE hL hret
  exact lv_ishl hC.1 hC.2.1 hd (k p l e R s m args below meth c H locs D tc ad A lr Q hC hR hE hL hret)
theorem J_ishr {x y : Int32} (h : Dc mi pc .ishr 1 nx) (k : J mi d lim sc K cs nx ls (.int (x >>> (y &&& 31)) :: st) w) : J mi d lim sc K cs pc ls (.int y :: .int x :: st) w := by
  obtain ⟨hd, rfl⟩ := h
  intro p l e R s m args below meth c H locs D tc ad A lr Q hC hR hE hL hret
  exact lv_ishr hC.1 hC.2.1 hd (k p l e R s m args below meth c H locs D tc ad A lr Q hC hR hE hL hret)
theorem J_iushr {x y : Int32} (h : Dc mi pc .iushr 1 nx) (k : J mi d lim sc K cs nx ls (.int ((x.toUInt32 >>> (y.toUInt32 &&& Int32.toUInt32 31)).toInt32) :: st) w) : J mi d lim sc K cs pc ls (.int y :: .int x :: st) w := by
  obtain ⟨hd, rfl⟩ := h
  intro p l e R s m args below meth c H locs D tc ad A lr Q hC hR hE hL hret
  exact lv_iushr hC.1 hC.2.1 hd rfl (k p l e R s m args below meth c H locs D tc ad A lr Q hC hR hE hL hret)
theorem J_idiv {x y : Int32} (h : Dc mi pc .idiv 1 nx) (hne : ¬ y = 0) (k : J mi d lim sc K cs nx ls (.int (x / y) :: st) w) : J mi d lim sc K cs pc ls (.int y :: .int x :: st) w := by
  obtain ⟨hd, rfl⟩ := h
  intro p l e R s m args below meth c H locs D tc ad A lr Q hC hR hE hL hret
  exact lv_idiv hC.1 hC.2.1 hd hne (k p l e R s m args below meth c H locs D tc ad A lr Q hC hR hE hL hret)
theorem J_irem {x y : Int32} (h : Dc mi pc .irem 1 nx) (hne : ¬ y = 0) (k : J mi d lim sc K cs nx ls (.int (x - x / y * y) :: st) w) : J mi d lim sc K cs pc ls (.int y :: .int x :: st) w := by
  obtain ⟨hd, rfl⟩ := h
  intro p l e R s m args below meth c H locs D tc ad A lr Q hC hR hE hL hret
  exact lv_irem hC.1 hC.2.1 hd hne (k p l e R s m args below meth c H locs D tc ad A lr Q hC hR hE hL hret)
theorem J_ladd {x y : Int64} (h : Dc mi pc .ladd 1 nx) (k : J mi d lim sc K cs nx ls (.long (x + y) :: st) w) : J mi d lim sc K cs pc ls (.long y :: .long x :: st) w := by
  obtain ⟨hd, rfl⟩ := h
  intro p l e R s m args below meth c H locs D tc ad A lr Q hC hR hE hL hret
  exact lv_ladd hC.1 hC.2.1 hd (k p l e R s m args below meth c H locs D tc ad A lr Q hC hR hE hL hret)
theorem J_lsub {x y : Int64} (h : Dc mi pc .lsub 1 nx) (k : J mi d lim sc K cs nx ls (.long (x - y) :: st) w) : J mi d lim sc K cs pc ls (.long y :: .long x :: st) w := by
  obtain ⟨hd, rfl⟩ := h
  intro p l e R s m args below meth c H locs D tc ad A lr Q hC hR hE hL hret
  exact lv_lsub hC.1 hC.2.1 hd (k p l e R s m args below meth c H locs D tc ad A lr Q hC hR hE hL hret)
theorem J_lmul {x y : Int64} (h : Dc mi pc .lmul 1 nx) (k : J mi d lim sc K cs nx ls (.long (x * y) :: st) w) : J mi d lim sc K cs pc ls (.long y :: .long x :: st) w := by
  obtain ⟨hd, rfl⟩ := h
  intro p l e R s m args below meth c H locs D tc ad A lr Q hC hR hE hL hret
  exact lv_lmul hC.1 hC.2.1 hd (k p l e R s m args below meth c H locs D tc ad A lr Q hC hR hE hL hret)
theorem J_lor {x y : Int64} (h : Dc mi pc .lor 1 nx) (k : J mi d lim sc K cs nx ls (.long (x ||| y) :: st) w) : J mi d lim sc K cs pc ls (.long y :: .long x :: st) w := by
  obtain ⟨hd, rfl⟩ := h
  intro p l e R s m args below meth c H locs D tc ad A lr Q hC hR hE hL hret
  exact lv_lor hC.1 hC.2.1 hd (k p l e R s m args below meth c H locs D tc ad A lr Q hC hR hE hL hret)
theorem J_ldiv {x y : Int64} (h : Dc mi pc .ldiv 1 nx) (hne : ¬ y = 0) (k : J mi d lim sc K cs nx ls (.long (x / y) :: st) w) : J mi d lim sc K cs pc ls (.long y :: .long x :: st) w := by
  obtain ⟨hd, rfl⟩ := h
  intro p l e R s m args below meth c H locs D tc ad A lr Q hC hR hE hL hret
  exact lv_ldiv hC.1 hC.2.1 hd hne (k p l e R s m args below meth c H locs D tc ad A lr Q hC hR hE hL hret)
theorem J_lrem {x y : Int64} (h : Dc mi pc .lrem 1 nx) (hne : ¬ y = 0) (k : J mi d lim sc K cs nx ls (.long (x - x / y * y) :: st) w) : J mi d lim sc K cs pc ls (.long y :: .long x :: st) w := by
  obtain ⟨hd, rfl⟩ := h
  intro p l e R s m args below meth c H locs D tc ad A lr Q hC hR hE hL hret
  exact lv_lrem hC.1 hC.2.1 hd hne (k p l e R s m args below meth c H locs D tc ad A lr Q hC hR hE hL hret)
theorem J_lneg {x : Int64} (h : Dc mi pc .lneg 1 nx) (k : J mi d lim sc K cs nx ls (.long (-x) :: st) w) : J mi d lim sc K cs pc ls (.long x :: st) w := by
  obtain ⟨hd, rfl⟩ := h
  intro p l e R s m args below meth c H locs D tc ad A lr Q hC hR hE hL hret
  exact lv_lneg hC.1 hC.2.1 hd (k p l e R s m args below meth c H locs D tc ad A lr Q hC hR hE hL hret)
theorem J_lshl {x : Int64} {y : Int32} (h : Dc mi pc .lshl 1 nx) (k : J mi d lim sc K cs nx ls (.long (x <<< (y.toInt64 &&& 63)) :: st) w) : J mi d lim sc K cs pc ls (.int y :: .long x :: st) w := by
  obtain ⟨hd, rfl⟩ := h
  intro p l e R s m args below meth c H locs D tc ad A lr Q hC hR hE hL hret
  exact lv_lshl hC.1 hC.2.1 hd rfl (k p l e R s m args below meth c H locs D tc ad A lr Q hC hR hE hL hret)
theorem J_lcmp {x y : Int64} (h : Dc mi pc .lcmp 1 nx) (k : J mi d lim sc K cs nx ls (.int (lg_cmp x y) :: st) w) : J mi d lim sc K cs pc ls (.long y :: .long x :: st) w := by
  obtain ⟨hd, rfl⟩ := h
  intro p l e R s m args below meth c H locs D tc ad A lr Q hC hR hE hL hret
  exact W.lcmp hC.1 hC.2.1 hd (k p l e R s m args below meth c H locs D tc ad A lr Q hC hR hE hL hret)
theorem J_i2l {x : Int32} (h : Dc mi pc .i2l 1 nx) (k : J mi d lim sc K cs nx ls (.long x.toInt64 :: st) w) : J mi d lim sc K cs pc ls (.int x :: st) w := by
  obtain ⟨hd, rfl⟩ := h
  intro p l e R s m args below meth c H locs D tc ad A lr Q hC hR hE hL hret
  exact lv_i2l hC.1 hC.2.1 hd rfl (k p l e R s m args below meth c H locs D tc ad A lr Q hC hR hE hL hret)
theorem J_l2i {x : Int64} (h : Dc mi pc .l2i 1 nx) (k : J mi d lim sc K cs nx ls (.int x.toInt32 :: st) w) : J mi d lim sc K cs pc ls (.long x :: st) w := by
  obtain ⟨hd, rfl⟩ := h
  intro p l e R s m args below meth c H locs D tc ad A lr Q hC hR hE hL hret
  exact lv_l2i hC.1 hC.2.1 hd rfl (k p l e R s m args below meth c H locs D tc ad A lr Q hC hR hE hL hret)
theorem J_i2b {x : Int32} (h : Dc mi pc .i2b 1 nx) (k : J mi d lim sc K cs nx ls (.int x.toInt8.toInt32 :: st) w) : J mi d lim sc K cs pc ls (.int x :: st) w := by
  obtain ⟨hd, rfl⟩ := h
  intro p l e R s m args below meth c H locs D tc ad A lr Q hC hR hE hL hret
  exact lv_i2b hC.1 hC.2.1 hd rfl (k p l e R s m args below meth c H locs D tc ad A lr Q hC hR hE hL hret)
theorem tr_cat (ad : Nat → Nat) (v : Value) : (trV ad v).category = v.category := by cases v <;> rfl
theorem J_dup {va : Value} (h : Dc mi pc .dup 1 nx) (hc : va.category = 1) (k : J mi d lim sc K cs nx ls (va :: va :: st) w) : J mi d lim sc K cs pc ls (va :: st) w := by
  obtain ⟨hd, rfl⟩ := h
  intro p l e R s m args below meth c H locs D tc ad A lr Q hC hR hE hL hret
  exact lv_dup hC.1 hC.2.1 hd ((tr_cat ad va).trans hc) (k p l e R s m args below meth c H locs D tc ad A lr Q hC hR hE hL hret)
theorem J_pop {va : Value} (h : Dc mi pc .pop 1 nx) (hc : va.category = 1) (k : J mi d lim sc K cs nx ls st w) : J mi d lim sc K cs pc ls (va :: st) w := by
  obtain ⟨hd, rfl⟩ := h
  intro p l e R s m args below meth c H locs D tc ad A lr Q hC hR hE hL hret
  exact lv_pop hC.1 hC.2.1 hd ((tr_cat ad va).trans hc) (k p l e R s m args below meth c H locs D tc ad A lr Q hC hR hE hL hret)
theorem J_dup2 {va vb : Value} (h : Dc mi pc .dup2 1 nx) (hc : va.category = 1) (hc2 : vb.category = 1) (k : J mi d lim sc K cs nx ls (va :: vb :: va :: vb :: st) w) : J mi d lim sc K cs pc ls (va :: vb :: st) w := by
  obtain ⟨hd, rfl⟩ := h
  intro p l e R s m args below meth c H locs D tc ad A lr Q hC hR hE hL hret
  exact lv_dup2_11 hC.1 hC.2.1 hd ((tr_cat ad va).trans hc) ((tr_cat ad vb).trans hc2) (k p l e R s m args below meth c H locs D tc ad A lr Q hC hR hE hL hret)
def PuI (mi : MI) (pc : Nat) (v : Int32) (nx : Nat) : Prop := (∃ n : Int, Dc mi pc (.iconst n) 1 nx ∧ Int32.ofInt n = v) ∨ (∃ n : Int, Dc mi pc (.bipush n) 2 nx ∧ (Int8.ofInt n).toInt32 = v) ∨ (∃ n : Int, Dc mi pc (.sipush n) 3 nx ∧ (Int16.ofInt n).toInt32 = v) ∨ (∃ i : Nat, Dc mi pc (.ldc i) 2 nx ∧ Cond.constant mi.1.cls i v ∈ lw_g)
theorem J_pushI {v : Int32} (h : PuI mi pc v nx) (k : J mi d lim sc K cs nx ls (.int v :: st) w) : J mi d lim sc K cs pc ls st w := by
  intro p l e R s m args below meth c H locs D tc ad A lr Q hC hR hE hL hret
  rcases h with ⟨n, ⟨hd, rfl⟩, hv⟩ | ⟨n, ⟨hd, rfl⟩, hv⟩ | ⟨n, ⟨hd, rfl⟩, hv⟩ | ⟨n, ⟨hd, rfl⟩, hv⟩
  · exact lv_iconst hC.1 hC.2.1 hd hv (k p l e R s m args below meth c H locs D tc ad A lr Q hC hR hE hL hret)
  · exact lv_bipush hC.1 hC.2.1 hd hv (k p l e R s m args below meth c H locs D tc ad A lr Q hC hR hE hL hret)
  · exact lv_sipush hC.1 hC.2.1 hd hv (k p l e R s m args below meth c H locs D tc ad A lr Q hC hR hE hL hret)
  · exact lv_ldc hC.1 hC.2.1 hC.2.2.2.2.1 (hC.2.2.2.2.2.1 _ hv) hd (k p l e R s m args below meth c H locs D tc ad A lr Q hC hR hE hL hret)
def PuL (mi : MI) (pc : Nat) (v : Int64) (nx : Nat) : Prop := (∃ n : Fin 2, Dc mi pc (.lconst n) 1 nx ∧ Int64.ofNat (n : Nat) = v) ∨ (∃ i : Nat, Dc mi pc (.ldc2_w i) 3 nx ∧ Cond.constantLong mi.1.cls i v ∈ lw_g)
theorem J_pushL {v : Int64} (h : PuL mi pc v nx) (k : J mi d lim sc K cs nx ls (.long v :: st) w) : J mi d lim sc K cs pc ls st w := by
  intro p l e R s m args below meth c H locs D tc ad A lr Q hC hR hE hL hret
  rcases h with ⟨n, ⟨hd, rfl⟩, hv⟩ | ⟨n, ⟨hd, rfl⟩, hv⟩
  · exact lv_lconst hC.1 hC.2.1 hd hv (k p l e R s m args below meth c H locs D tc ad A lr Q hC hR hE hL hret)
  · exact lv_ldc2 hC.1 hC.2.1 hC.2.2.2.2.1 (hC.2.2.2.2.2.1 _ hv) hd (k p l e R s m args below meth c H locs D tc ad A lr Q hC hR hE hL hret)
/-- a branch: its instruction, where it goes, where it goes on -/
def Br (mi : MI) (pc : Nat) (i : Int → Instr) (tgt nx : Nat) : Prop := ∃ off : Int, decode mi.2.1 pc = .ok (i off, 3) ∧ (pc : Int) + off = (tgt : Int) ∧ pc + 3 = nx
theorem J_icmp_eq {x y : Int32} {tgt : Nat} (h : Br mi pc (.if_icmp .eq) tgt nx) (kt : x = y → J mi d lim sc K cs tgt ls st w) (kf : ¬ x = y → J mi d lim sc K cs nx ls st w) : J mi d lim sc K cs pc ls (.int y :: .int x :: st) w := by
  obtain ⟨off, hd, ht, rfl⟩ := h
  intro p l e R s m args below meth c H locs D tc ad A lr Q hC hR hE hL hret
  exact lv_icmp_eq hC.1 hC.2.1 hd ht (fun q => kt q p l e R s m args below meth c H locs D tc ad A lr Q hC hR hE hL hret) (fun q => kf q p l e R s m args below meth c H locs D tc ad A lr Q hC hR hE hL hret)
theorem J_if_eq {x : Int32} {tgt : Nat} (h : Br mi pc (.ifCond .eq) tgt nx) (kt : x = 0 → J mi d lim sc K cs tgt ls st w) (kf : ¬ x = 0 → J mi d lim sc K cs nx ls st w) : J mi d lim sc K cs pc ls (.int x :: st) w := by
  obtain ⟨off, hd, ht, rfl⟩ := h
  intro p l e R s m args below meth c H locs D tc ad A lr Q hC hR hE hL hret
  exact lv_if_eq hC.1 hC.2.1 hd ht (fun q => kt q p l e R s m args below meth c H locs D tc ad A lr Q hC hR hE hL hret) (fun q => kf q p l e R s m args below meth c H locs D tc ad A lr Q hC hR hE hL hret)
theorem J_icmp_ne {x y : Int32} {tgt : Nat} (h : Br mi pc (.if_icmp .ne) tgt nx) (kt : ¬ x = y → J mi d lim sc K cs tgt ls st w) (kf : x = y → J mi d lim sc K cs nx ls st w) : J mi d lim sc K cs pc ls (.int y :: .int x :: st) w := by
  obtain ⟨off, hd, ht, rfl⟩ := h
  intro p l e R s m args below meth c H locs D tc ad A lr Q hC hR hE hL hret
  exact lv_icmp_ne hC.1 hC.2.1 hd ht (fun q => kt q p l e R s m args below meth c H locs D tc ad A lr Q hC hR hE hL hret) (fun q => kf q p l e R s m args below meth c H locs D tc ad A lr Q hC hR hE hL hret)
theorem J_if_ne {x : Int32} {tgt : Nat} (h : Br mi pc (.ifCond .ne) tgt nx) (kt : ¬ x = 0 → J mi d lim sc K cs tgt ls st w) (kf : x = 0 → J mi d lim sc K cs nx ls st w) : J mi d lim sc K cs pc ls (.int x :: st) w := by
  obtain ⟨off, hd, ht, rfl⟩ := h
  intro p l e R s m args below meth c H locs D tc ad A lr Q hC hR hE hL hret
  exact lv_if_ne hC.1 hC.2.1 hd ht (fun q => kt q p l e R s m args below meth c H locs D tc ad A lr Q hC hR hE hL hret) (fun q => kf q p l e R s m args below meth c H locs D tc ad A lr Q hC hR hE hL hret)
theorem J_icmp_lt {x y : Int32} {tgt : Nat} (h : Br mi pc (.if_icmp .lt) tgt nx) (kt : x < y → J mi d lim sc K cs tgt ls st w) (kf : ¬ x < y → J mi d lim sc K cs nx ls st w) : J mi d lim sc K cs pc ls (.int y :: .int x :: st) w := by
  obtain ⟨off, hd, ht, rfl⟩ := h
  intro p l e R s m args below meth c H locs D tc ad A lr Q hC hR hE hL hret
  exact lv_icmp_lt hC.1 hC.2.1 hd ht (fun q => kt q p l e R s m args below meth c H locs D tc ad A lr Q hC hR hE hL hret) (fun q => kf q p l e R s m args below meth c H locs D tc ad A lr Q hC hR hE hL hret)
theorem J_if_lt {x : Int32} {tgt : Nat} (h : Br mi pc (.ifCond .lt) tgt nx) (kt : x < 0 → J mi d lim sc K cs tgt ls st w) (kf : ¬ x < 0 → J mi d lim sc K cs nx ls st w) : J mi d lim sc K cs pc ls (.int x :: st) w := by
  obtain ⟨off, hd, ht, rfl⟩ := h
  intro p l e R s m args below meth c H locs D tc ad A lr Q hC hR hE hL hret
  exact lv_if_lt hC.1 hC.2.1 hd ht (fun q => kt q p l e R s m args below meth c H locs D tc ad A lr Q hC hR hE hL hret) (fun q => kf q p l e R s m args below meth c H locs D tc ad A lr Q hC hR hE hL hret)
theorem J_icmp_ge {x y : Int32} {tgt : Nat} (h : Br mi pc (.if_icmp .ge) tgt nx) (kt : y ≤ x → J mi d lim sc K cs tgt ls st w) (kf : ¬ y ≤ x → J mi d lim sc K cs nx ls st w) : J mi d lim sc K cs pc ls (.int y :: .int x :: st) w := by
  obtain ⟨off, hd, ht, rfl⟩ := h
  intro p l e R s m args below meth c H locs D tc ad A lr Q hC hR hE hL hret
  exact lv_icmp_ge hC.1 hC.2.1 hd ht (fun q => kt q p l e R s m args below meth c H locs D tc ad A lr Q hC hR hE hL hret) (fun q => kf q p l e R s m args below meth c H locs D tc ad A lr Q hC hR hE hL hret)
theorem J_if_ge {x : Int32} {tgt : Nat} (h : Br mi pc (.ifCond .ge) tgt nx) (kt : 0 ≤ x → J mi d lim sc K cs tgt ls st w) (kf : ¬ 0 ≤ x → J mi d lim sc K cs nx ls st w) : J mi d lim sc K cs pc ls (.int x :: st) w := by
  obtain ⟨off, hd, ht, rfl⟩ := h
  intro p l e R s m args below meth c H locs D tc ad A lr Q hC hR hE hL hret
  exact lv_if_ge hC.1 hC.2.1 hd ht (fun q => kt q p l e R s m args below meth c H locs D tc ad A lr Q hC hR hE hL hret) (fun q => kf q p l e R s m args below meth c H locs D tc ad A lr Q hC hR hE hL hret)
theorem J_icmp_gt {x y : Int32} {tgt : Nat} (h : Br mi pc (.if_icmp .gt) tgt nx) (kt : y < x → J mi d lim sc K cs tgt ls st w) (kf : ¬ y < x → J mi d lim sc K cs nx ls st w) : J mi d lim sc K cs pc ls (.int y :: .int x :: st) w := by
  obtain ⟨off, hd, ht, rfl⟩ := h
  intro p l e R s m args below meth c H locs D tc ad A lr Q hC hR hE hL hret
  exact lv_icmp_gt hC.1 hC.2.1 hd ht (fun q => kt q p l e R s m args below meth c H locs D tc ad A lr Q hC hR hE hL hret) (fun q => kf q p l e R s m args below meth c H locs D tc ad A lr Q hC hR hE hL hret)
theorem J_if_gt {x : Int32} {tgt : Nat} (h : Br mi pc (.ifCond .gt) tgt nx) (kt : 0 < x → J mi d lim sc K cs tgt ls st w) (kf : ¬ 0 < x → J mi d lim sc K cs nx ls st w) : J mi d lim sc K cs pc ls (.int x :: st) w := by
  obtain ⟨off, hd, ht, rfl⟩ := h
  intro p l e R s m args below meth c H locs D tc ad A lr Q hC hR hE hL hret
  exact lv_if_gt hC.1 hC.2.1 hd ht (fun q => kt q p l e R s m args below meth c H locs D tc ad A lr Q hC hR hE hL hret) (fun q => kf q p l e R s m args below meth c H locs D tc ad A lr Q hC hR hE hL hret)
theorem J_icmp_le {x y : Int32} {tgt : Nat} (h : Br mi pc (.if_icmp .le) tgt nx) (kt : x ≤ y → J mi d lim sc K cs tgt ls st w) (kf : ¬ x ≤ y → J mi d lim sc K cs nx ls st w) : J mi d lim sc K cs pc ls (.int y :: .int x :: st) w := by
  obtain ⟨off, hd, ht, rfl⟩ := h
  intro p l e R s m args below meth c H locs D tc ad A lr Q hC hR hE hL hret
  exact lv_icmp_le hC.1 hC.2.1 hd ht (fun q => kt q p l e R s m args below meth c H locs D tc ad A lr Q hC hR hE hL hret) (fun q => kf q p l e R s m args below meth c H locs D tc ad A lr Q hC hR hE hL hret)
theorem J_if_le {x : Int32} {tgt : Nat} (h : Br mi pc (.ifCond .le) tgt nx) (kt : x ≤ 0 → J mi d lim sc K cs tgt ls st w) (kf : ¬ x ≤ 0 → J mi d lim sc K cs nx ls st w) : J mi d lim sc K cs pc ls (.int x :: st) w := by
  obtain ⟨off, hd, ht, rfl⟩ := h
  intro p l e R s m args below meth c H locs D tc ad A lr Q hC hR hE hL hret
  exact lv_if_le hC.1 hC.2.1 hd ht (fun q => kt q p l e R s m args below meth c H locs D tc ad A lr Q hC hR hE hL hret) (fun q => kf q p l e R s m args below meth c H locs D tc ad A lr Q hC hR hE hL hret)
def Go (mi : MI) (pc tgt : Nat) : Prop := ∃ off : Int, decode mi.2.1 pc = .ok (.goto off, 3) ∧ (pc : Int) + off = (tgt : Int)
theorem J_goto {tgt : Nat} (h : Go mi pc tgt) (k : J mi d lim sc K cs tgt ls st w) : J mi d lim sc K cs pc ls st w := by
  obtain ⟨off, hd, ht⟩ := h
  intro p l e R s m args below meth c H locs D tc ad A lr Q hC hR hE hL hret
  exact lv_goto hC.1 hC.2.1 hd ht (k p l e R s m args below meth c H locs D tc ad A lr Q hC hR hE hL hret)
theorem Lr.get {nL : Nat} {ad : Nat → Nat} {ls : List Value} {lr : Array Slot} (h : Lr nL ad ls lr) {i : Nat} {v : Value} (hi : ls[i]? = some v) (hv : v ≠ .null) : lr[i]? = some (.val (trV ad v)) := h.2.2 i v hi hv
theorem J_iload_n {k : Fin 4} {i : Nat} {x : Int32} (h : Dc mi pc (.iload_n k) 1 nx) (hi : (k : Nat) = i) (hl : ls[i]? = some (.int x)) (k : J mi d lim sc K cs nx ls (.int x :: st) w) : J mi d lim sc K cs pc ls st w := by
  obtain ⟨hd, rfl⟩ := h
  intro p l e R s m args below meth c H locs D tc ad A lr Q hC hR hE hL hret
  exact lv_iload_n hC.1 hC.2.1 hd hi (hL.get hl (fun q => by cases q)) (k p l e R s m args below meth c H locs D tc ad A lr Q hC hR hE hL hret)
theorem J_iload {i : Nat} {x : Int32} (h : Dc mi pc (.iload i) 2 nx) (hl : ls[i]? = some (.int x)) (k : J mi d lim sc K cs nx ls (.int x :: st) w) : J mi d lim sc K cs pc ls st w := by
  obtain ⟨hd, rfl⟩ := h
  intro p l e R s m args below meth c H locs D tc ad A lr Q hC hR hE hL hret
  exact lv_iload hC.1 hC.2.1 hd (hL.get hl (fun q => by cases q)) (k p l e R s m args below meth c H locs D tc ad A lr Q hC hR hE hL hret)
theorem J_lload_n {k : Fin 4} {i : Nat} {x : Int64} (h : Dc mi pc (.lload_n k) 1 nx) (hi : (k : Nat) = i) (hl : ls[i]? = some (.long x)) (k : J mi d lim sc K cs nx ls (.long x :: st) w) : J mi d lim sc K cs pc ls st w := by
  obtain ⟨hd, rfl⟩ := h
  intro p l e R s m args below meth c H locs D tc ad A lr Q hC hR hE hL hret
  exact lv_lload_n hC.1 hC.2.1 hd hi (hL.get hl (fun q => by cases q)) (k p l e R s m args below meth c H locs D tc ad A lr Q hC hR hE hL hret)
theorem J_lload {i : Nat} {x : Int64} (h : Dc mi pc (.lload i) 2 nx) (hl : ls[i]? = some (.long x)) (k : J mi d lim sc K cs nx ls (.long x :: st) w) : J mi d lim sc K cs pc ls st w := by
  obtain ⟨hd, rfl⟩ := h
  intro p l e R s m args below meth c H locs D tc ad A lr Q hC hR hE hL hret
  exact lv_lload hC.1 hC.2.1 hd (hL.get hl (fun q => by cases q)) (k p l e R s m args below meth c H locs D tc ad A lr Q hC hR hE hL hret)
theorem J_aload_n {k : Fin 4} {i : Nat} {x : Nat} (h : Dc mi pc (.aload_n k) 1 nx) (hi : (k : Nat) = i) (hl : ls[i]? = some (.ref x)) (k : J mi d lim sc K cs nx ls (.ref x :: st) w) : J mi d lim sc K cs pc ls st w := by
  obtain ⟨hd, rfl⟩ := h
  intro p l e R s m args below meth c H locs D tc ad A lr Q hC hR hE hL hret
  exact lv_aload_n hC.1 hC.2.1 hd hi (hL.get hl (fun q => by cases q)) (k p l e R s m args below meth c H locs D tc ad A lr Q hC hR hE hL hret)
theorem J_aload {i : Nat} {x : Nat} (h : Dc mi pc (.aload i) 2 nx) (hl : ls[i]? = some (.ref x)) (k : J mi d lim sc K cs nx ls (.ref x :: st) w) : J mi d lim sc K cs pc ls st w := by
  obtain ⟨hd, rfl⟩ := h
  intro p l e R s m args below meth c H locs D tc ad A lr Q hC hR hE hL hret
  exact lv_aload hC.1 hC.2.1 hd (hL.get hl (fun q => by cases q)) (k p l e R s m args below meth c H locs D tc ad A lr Q hC hR hE hL hret)
def lvQ (ad : Nat → Nat) (i : Nat) : Value → Option (Nat × Value)
  | .null => none
  | v => some (i, trV ad v)
def lvO (ad : Nat → Nat) (ls : List Value) : List (Nat × Value) := (List.range ls.length).filterMap (fun i => ls[i]?.bind (lvQ ad i))
theorem lvO_mem {ad : Nat → Nat} {ls : List Value} {q : Nat × Value} : q ∈ lvO ad ls ↔ ∃ v, ls[q.1]? = some v ∧ v ≠ .null ∧ q.2 = trV ad v := by
  unfold lvO
  rw [List.mem_filterMap]
  constructor
  · rintro ⟨i, hi, h⟩
    cases hv : ls[i]? with
    | none => rw [hv] at h; cases h
    | some v =>
      rw [hv] at h
      have h' : lvQ ad i v = some q := h
      cases v <;> first | (cases h'; done) | (cases h'; exact ⟨_, hv, (fun z => Value.noConfusion z), rfl⟩)
  · rintro ⟨v, h1, h2, h3⟩
    refine ⟨q.1, List.mem_range.mpr (List.getElem?_eq_some_iff.mp h1).1, ?_⟩
    rw [h1]
    obtain ⟨q1, q2⟩ := q
    cases h3
    show lvQ ad q1 v = some (q1, trV ad v)
    cases v <;> first | rfl | exact absurd rfl h2
theorem Lr.has {nL : Nat} {ad : Nat → Nat} {ls : List Value} {lr : Array Slot} (h : Lr nL ad ls lr) : lv_has lr nL (lvO ad ls) := ⟨h.1, h.2.1, fun q hq => by
  obtain ⟨v, h1, h2, h3⟩ := lvO_mem.mp hq
  rw [h3]
  exact h.2.2 q.1 v h1 h2⟩
theorem Lr.st1 {nL : Nat} {ad : Nat → Nat} {ls : List Value} {lr : Array Slot} {i : Nat} {v : Value} (hc : ∀ u, ls[i - 1]? = some u → i = 0 ∨ u.category = 1) (h : lv_has lr nL ((i, trV ad v) :: (lvO ad ls).filter (fun q => !(q.1 == i) && !(q.1 + 1 == i && q.2.category == 2)))) : Lr nL ad (ls.set i v) lr := by
  refine ⟨h.1, h.2.1, fun j u hj hu => ?_⟩
  rw [List.getElem?_set] at hj
  by_cases e : i = j
  · subst e
    by_cases hl : i < ls.length
    · simp [hl] at hj
      subst hj
      exact h.2.2 (i, trV ad v) List.mem_cons_self
    · simp [hl] at hj
  · rw [if_neg e] at hj
    refine h.2.2 (j, trV ad u) (List.mem_cons_of_mem _ (List.mem_filter.mpr ⟨lvO_mem.mpr ⟨u, hj, hu, rfl⟩, ?_⟩))
    have e2 : ¬ j = i := fun q => e q.symm
    by_cases e3 : j + 1 = i
    · have hq := hc u (by rw [← e3]; exact hj)
      have : u.category = 1 := by
        rcases hq with hq | hq
        · omega
        · exact hq
      simp [e2, tr_cat, this]
    · simp [e2, e3]
theorem Lr.st2 {nL : Nat} {ad : Nat → Nat} {ls : List Value} {lr : Array Slot} {i : Nat} {v : Value} (hc : ∀ u, ls[i - 1]? = some u → i = 0 ∨ u.category = 1) (h : lv_has lr nL ((i, trV ad v) :: (lvO ad ls).filter (fun q => !(q.1 == i) && (!(q.1 == i + 1) && !(q.1 + 1 == i && q.2.category == 2))))) : Lr nL ad ((ls.set i v).set (i + 1) .null) lr := by
  refine ⟨h.1, h.2.1, fun j u hj hu => ?_⟩
  rw [List.getElem?_set] at hj
  by_cases e0 : i + 1 = j
  · subst e0
    by_cases hl : i + 1 < (ls.set i v).length
    · simp at hl
      simp [hl] at hj
      exact absurd hj.symm hu
    · simp at hl
      simp [hl] at hj
      exact absurd hj.2.symm hu
  rw [if_neg e0, List.getElem?_set] at hj
  by_cases e : i = j
  · subst e
    by_cases hl : i < ls.length
    · simp [hl] at hj
      subst hj
      exact h.2.2 (i, trV ad v) List.mem_cons_self
    · simp [hl] at hj
  · rw [if_neg e] at hj
    refine h.2.2 (j, trV ad u) (List.mem_cons_of_mem _ (List.mem_filter.mpr ⟨lvO_mem.mpr ⟨u, hj, hu, rfl⟩, ?_⟩))
    have e2 : ¬ j = i := fun q => e q.symm
    have e4 : ¬ j = i + 1 := fun q => e0 q.symm
    by_cases e3 : j + 1 = i
    · have hq := hc u (by rw [← e3]; exact hj)
      have : u.category = 1 := by
        rcases hq with hq | hq
        · omega
        · exact hq
      simp [e2, e4, tr_cat, this]
    · simp [e2, e3, e4]
theorem J_istore_n {k : Fin 4} {i : Nat} {x : Int32} (h : Dc mi pc (.istore_n k) 1 nx) (hn : i < mi.2.2.1) (hi : (k : Nat) = i) (hc : ∀ u, ls[i - 1]? = some u → i = 0 ∨ u.category = 1) (k : J mi d lim sc K cs nx (ls.set i (.int x)) st w) : J mi d lim sc K cs pc ls (.int x :: st) w := by
  obtain ⟨hd, rfl⟩ := h
  intro p l e R s m args below meth c H locs D tc ad A lr Q hC hR hE hL hret
  exact lv_istore_n hC.1 hC.2.1 hd hi hL.has hn rfl (fun lr hl => k p l e R s m args below meth c H locs D tc ad A lr Q hC hR hE (Lr.st1 (v := .int x) hc hl) hret)
theorem J_istore {i : Nat} {x : Int32} (h : Dc mi pc (.istore i) 2 nx) (hn : i < mi.2.2.1) (hc : ∀ u, ls[i - 1]? = some u → i = 0 ∨ u.category = 1) (k : J mi d lim sc K cs nx (ls.set i (.int x)) st w) : J mi d lim sc K cs pc ls (.int x :: st) w := by
  obtain ⟨hd, rfl⟩ := h
  intro p l e R s m args below meth c H locs D tc ad A lr Q hC hR hE hL hret
  exact lv_istore hC.1 hC.2.1 hd hL.has hn rfl (fun lr hl => k p l e R s m args below meth c H locs D tc ad A lr Q hC hR hE (Lr.st1 (v := .int x) hc hl) hret)
theorem J_lstore_n {k : Fin 4} {i : Nat} {x : Int64} (h : Dc mi pc (.lstore_n k) 1 nx) (hn : i + 1 < mi.2.2.1) (hi : (k : Nat) = i) (hc : ∀ u, ls[i - 1]? = some u → i = 0 ∨ u.category = 1) (k : J mi d lim sc K cs nx ((ls.set i (.long x)).set (i + 1) .null) st w) : J mi d lim sc K cs pc ls (.long x :: st) w := by
  obtain ⟨hd, rfl⟩ := h
  intro p l e R s m args below meth c H locs D tc ad A lr Q hC hR hE hL hret
  exact lv_lstore_n hC.1 hC.2.1 hd hi hL.has hn rfl (fun lr hl => k p l e R s m args below meth c H locs D tc ad A lr Q hC hR hE (Lr.st2 (v := .long x) hc hl) hret)
theorem J_lstore {i : Nat} {x : Int64} (h : Dc mi pc (.lstore i) 2 nx) (hn : i + 1 < mi.2.2.1) (hc : ∀ u, ls[i - 1]? = some u → i = 0 ∨ u.category = 1) (k : J mi d lim sc K cs nx ((ls.set i (.long x)).set (i + 1) .null) st w) : J mi d lim sc K cs pc ls (.long x :: st) w := by
  obtain ⟨hd, rfl⟩ := h
  intro p l e R s m args below meth c H locs D tc ad A lr Q hC hR hE hL hret
  exact lv_lstore hC.1 hC.2.1 hd hL.has hn rfl (fun lr hl => k p l e R s m args below meth c H locs D tc ad A lr Q hC hR hE (Lr.st2 (v := .long x) hc hl) hret)
theorem J_astore_n {k : Fin 4} {i : Nat} {x : Nat} (h : Dc mi pc (.astore_n k) 1 nx) (hn : i < mi.2.2.1) (hi : (k : Nat) = i) (hc : ∀ u, ls[i - 1]? = some u → i = 0 ∨ u.category = 1) (k : J mi d lim sc K cs nx (ls.set i (.ref x)) st w) : J mi d lim sc K cs pc ls (.ref x :: st) w := by
  obtain ⟨hd, rfl⟩ := h
  intro p l e R s m args below meth c H locs D tc ad A lr Q hC hR hE hL hret
  exact lv_astore_n hC.1 hC.2.1 hd hi hL.has hn rfl (fun lr hl => k p l e R s m args below meth c H locs D tc ad A lr Q hC hR hE (Lr.st1 (v := .ref x) hc hl) hret)
theorem J_astore {i : Nat} {x : Nat} (h : Dc mi pc (.astore i) 2 nx) (hn : i < mi.2.2.1) (hc : ∀ u, ls[i - 1]? = some u → i = 0 ∨ u.category = 1) (k : J mi d lim sc K cs nx (ls.set i (.ref x)) st w) : J mi d lim sc K cs pc ls (.ref x :: st) w := by
  obtain ⟨hd, rfl⟩ := h
  intro p l e R s m args below meth c H locs D tc ad A lr Q hC hR hE hL hret
  exact lv_astore hC.1 hC.2.1 hd hL.has hn rfl (fun lr hl => k p l e R s m args below meth c H locs D tc ad A lr Q hC hR hE (Lr.st1 (v := .ref x) hc hl) hret)
theorem J_iinc {i : Nat} {n : Int} {x v : Int32} (h : Dc mi pc (.iinc i n) 3 nx) (hn : i < mi.2.2.1) (hl : ls[i]? = some (.int x)) (hv : x + Int32.ofInt n = v) (hc : ∀ u, ls[i - 1]? = some u → i = 0 ∨ u.category = 1) (k : J mi d lim sc K cs nx (ls.set i (.int v)) st w) : J mi d lim sc K cs pc ls st w := by
  obtain ⟨hd, rfl⟩ := h
  intro p l e R s m args below meth c H locs D tc ad A lr Q hC hR hE hL hret
  have hm : (i, Value.int x) ∈ lvO ad ls := lvO_mem.mpr ⟨.int x, hl, (fun q => by cases q), rfl⟩
  obtain ⟨k0, hk0⟩ := List.getElem?_of_mem hm
  exact lv_iinc hC.1 hC.2.1 hd hL.has hk0 hv hn rfl (fun lr hl => k p l e R s m args below meth c H locs D tc ad A lr Q hC hR hE (Lr.st1 (v := .int v) hc hl) hret)
theorem J_iret {x : Int32} {t : FieldType} (h : decode mi.2.1 pc = .ok (.ireturn, 1)) (ht : mi.2.2.2 = some t) (hn : narrow t (.int x) = .int x) (h1 : cs.1 ≤ lim.1) (h2 : cs.2 ≤ lim.2) (k : K (some (.int x)) w) : J mi d lim sc K cs pc ls [.int x] w := by
  intro p l e R s m args below meth c H locs D tc ad A lr Q hC hR hE hL hret
  exact hret (some (.int x)) w H locs ad lr pc cs k (fun _ _ => rfl) (Nat.le_refl _) hE h1 h2 ⟨h, t, ht, hn⟩
theorem J_lret {x : Int64} (h : decode mi.2.1 pc = .ok (.lreturn, 1)) (ht : mi.2.2.2 = some .long) (h1 : cs.1 ≤ lim.1) (h2 : cs.2 ≤ lim.2) (k : K (some (.long x)) w) : J mi d lim sc K cs pc ls [.long x] w := by
  intro p l e R s m args below meth c H locs D tc ad A lr Q hC hR hE hL hret
  exact hret (some (.long x)) w H locs ad lr pc cs k (fun _ _ => rfl) (Nat.le_refl _) hE h1 h2 ⟨h, ht⟩
theorem J_vret (h : decode mi.2.1 pc = .ok (.return_, 1)) (ht : mi.2.2.2 = none) (h1 : cs.1 ≤ lim.1) (h2 : cs.2 ≤ lim.2) (k : K none w) : J mi d lim sc K cs pc ls [] w := by
  intro p l e R s m args below meth c H locs D tc ad A lr Q hC hR hE hL hret
  exact hret none w H locs ad lr pc cs k (fun _ _ => rfl) (Nat.le_refl _) hE h1 h2 ⟨h, ht⟩
theorem J_tabOut {dflt lo hi : Int} {offs : Array Int} {len tgt : Nat} {x : Int32} (h : decode mi.2.1 pc = .ok (.tableswitch dflt lo hi offs, len)) (hx : x.toInt < lo ∨ hi < x.toInt) (ht : (pc : Int) + dflt = (tgt : Int)) (k : J mi d lim sc K cs tgt ls st w) : J mi d lim sc K cs pc ls (.int x :: st) w := by
  intro p l e R s m args below meth c H locs D tc ad A lr Q hC hR hE hL hret
  exact lv_tableOut hC.1 hC.2.1 h hx ht (k p l e R s m args below meth c H locs D tc ad A lr Q hC hR hE hL hret)
theorem J_tabIn {dflt lo hi : Int} {offs : Array Int} {len tgt : Nat} {x : Int32} {off : Int} (h : decode mi.2.1 pc = .ok (.tableswitch dflt lo hi offs, len)) (h1 : ¬ x.toInt < lo) (h2 : ¬ hi < x.toInt) (ho : offs[(x.toInt - lo).toNat]? = some off) (ht : (pc : Int) + off = (tgt : Int)) (k : J mi d lim sc K cs tgt ls st w) : J mi d lim sc K cs pc ls (.int x :: st) w := by
  intro p l e R s m args below meth c H locs D tc ad A lr Q hC hR hE hL hret
  exact lv_tableIn hC.1 hC.2.1 h h1 h2 ho ht (k p l e R s m args below meth c H locs D tc ad A lr Q hC hR hE hL hret)
theorem J_look {dflt : Int} {ps : Array (Int × Int)} {len tgt : Nat} {x : Int32} {off : Int} (h : decode mi.2.1 pc = .ok (.lookupswitch dflt ps, len)) (hp : (ps.toList.zip (ps.toList.drop 1)).all (fun (a, next) => a.1 < next.1) = true) (ho : Op.lookupswitch.offset ps.toList dflt x.toInt = off) (ht : (pc : Int) + off = (tgt : Int)) (k : J mi d lim sc K cs tgt ls st w) : J mi d lim sc K cs pc ls (.int x :: st) w := by
  intro p l e R s m args below meth c H locs D tc ad A lr Q hC hR hE hL hret
  exact lv_lookup hC.1 hC.2.1 h hp ho ht (k p l e R s m args below meth c H locs D tc ad A lr Q hC hR hE hL hret)
/-- weaker ends -/
theorem J.mono {K' : Option Value → Wd → Prop} (k : J mi d lim sc K cs pc ls st w) (hK : ∀ v w', K v w' → K' v w') : J mi d lim sc K' cs pc ls st w := by
  intro p l e R s m args below meth c H locs D tc ad A lr Q hC hR hE hL hret
  exact k p l e R s m args below meth c H locs D tc ad A lr Q hC hR hE hL (fun v w' H' locs' ad' lr' pc' cs' h => hret v w' H' locs' ad' lr' pc' cs' (hK v w' h))
end JR
end
section
/-! FIELDS AND ARRAYS -/
def wI (μ : Mm) (a k : Nat) (x : Int32) : Mm := (fun i j => if i = a ∧ j = k then x else μ.1 i j, μ.2)
def wL (μ : Mm) (a k : Nat) (x : Int64) : Mm := (μ.1, fun i j => if i = a ∧ j = k then x else μ.2 i j)
theorem wI_1 (μ : Mm) (a k : Nat) (x : Int32) (i j : Nat) : (wI μ a k x).1 i j = if i = a ∧ j = k then x else μ.1 i j := rfl
theorem wL_2 (μ : Mm) (a k : Nat) (x : Int64) (i j : Nat) : (wL μ a k x).2 i j = if i = a ∧ j = k then x else μ.2 i j := rfl
theorem wI_2 (μ : Mm) (a k : Nat) (x : Int32) : (wI μ a k x).2 = μ.2 := rfl
theorem wL_1 (μ : Mm) (a k : Nat) (x : Int64) : (wL μ a k x).1 = μ.1 := rfl
theorem wI_n {μ : Mm} {a k i j : Nat} {x : Int32} (h : ¬ (i = a ∧ j = k)) : (wI μ a k x).1 i j = μ.1 i j := if_neg h
theorem wL_n {μ : Mm} {a k i j : Nat} {x : Int64} (h : ¬ (i = a ∧ j = k)) : (wL μ a k x).2 i j = μ.2 i j := if_neg h
theorem wI_e (μ : Mm) (a k : Nat) (x : Int32) : (wI μ a k x).1 a k = x := if_pos ⟨rfl, rfl⟩
theorem wL_e (μ : Mm) (a k : Nat) (x : Int64) : (wL μ a k x).2 a k = x := if_pos ⟨rfl, rfl⟩
def IsO (G : Gm) (a ci : Nat) : Prop := a < G.2 ∧ (G.1 a).1 = ci ∧ (G.1 a).2.1 = clN ci
def IsA (G : Gm) (a kd n : Nat) : Prop := a < G.2 ∧ (G.1 a).1 = kd ∧ (G.1 a).2.1 = n ∧ n < 2147483648
def RF (G : Gm) (a k r : Nat) : Prop := (G.1 a).2.2 k = some r
theorem ob_o {tc : Nat → ClassId} {ad : Nat → Nat} {w : Wd} {a ci : Nat} (h : IsO w.1 a ci) (hc : ci < 7) : ob tc ad w a = .inr (ci, (List.range (clN ci)).map (fv ad w a)) := by
  unfold ob
  rw [h.2.1, if_pos (by omega), h.2.2]
theorem ob_i {tc : Nat → ClassId} {ad : Nat → Nat} {w : Wd} {a kd n : Nat} (h : IsA w.1 a kd n) (h1 : 10 ≤ kd) (h2 : kd < 13) : ob tc ad w a = .inl (tc kd, n, .inl (fun j => w.2.1 a j)) := by
  unfold ob
  rw [h.2.1, if_neg (by omega), if_pos h2, h.2.2.1]
theorem ob_r {tc : Nat → ClassId} {ad : Nat → Nat} {w : Wd} {a kd n : Nat} (h : IsA w.1 a kd n) (h1 : 13 ≤ kd) : ob tc ad w a = .inl (tc kd, n, .inr (.inr (.inr (.inr (fun j => ((w.1.1 a).2.2 j).map ad))))) := by
  unfold ob
  rw [h.2.1, if_neg (by omega), if_neg (by omega), h.2.2.1]
theorem ob_wI {tc : Nat → ClassId} {ad : Nat → Nat} {G : Gm} {μ : Mm} {a k i : Nat} {x : Int32} (h : i ≠ a) : ob tc ad (G, wI μ a k x) i = ob tc ad (G, μ) i := by
  have e : (fun j => (wI μ a k x).1 i j) = fun j => μ.1 i j := funext fun j => by rw [wI_1, if_neg (fun q => h q.1)]
  have f : fv ad (G, wI μ a k x) i = fv ad (G, μ) i := funext fun j => by
    unfold fv
    dsimp only
    rw [wI_n (fun q => h q.1), wI_2]
  unfold ob
  dsimp only
  rw [e, f]
theorem ob_wL {tc : Nat → ClassId} {ad : Nat → Nat} {G : Gm} {μ : Mm} {a k i : Nat} {x : Int64} (h : i ≠ a) : ob tc ad (G, wL μ a k x) i = ob tc ad (G, μ) i := by
  have f : fv ad (G, wL μ a k x) i = fv ad (G, μ) i := funext fun j => by
    unfold fv
    dsimp only
    rw [wL_n (fun q => h q.1), wL_1]
  unfold ob
  dsimp only
  rw [f, wL_1]
theorem map_set {N k : Nat} {f g : Nat → Value} {v : Value} (hk : g k = v) (ho : ∀ j, j ≠ k → g j = f j) : ((List.range N).map f).set k v = (List.range N).map g := by
  apply List.ext_getElem?
  intro j
  rw [List.getElem?_set]
  by_cases hj : k = j
  · subst hj
    by_cases hl : k < N
    · simp [hl, hk]
    · simp [hl]
  · rw [if_neg hj, List.getElem?_map, List.getElem?_map]
    by_cases hl : j < N
    · rw [List.getElem?_range hl]
      simp [ho j (fun h => hj h.symm)]
    · rw [List.getElem?_eq_none (by simpa using hl)]
      rfl
/-- a field's link: class ci, field k, its sort t (0 whole numbers, 1 longs, 2 references) -/
def FL (own : String) (idx ci k t : Nat) : Prop := ci < 7 ∧ k < clN ci ∧ fty ci k = t ∧ Cond.fieldLink own idx (clT ci k).1 (clT ci k).2.1 (clT ci k).2.2.1 ∈ lw_g
section JM
variable {mi : MI} {d : Nat} {lim : Nat × Nat} {sc : Nat × (Nat → Int32)} {K : Option Value → Wd → Prop} {cs : Nat × Nat} {pc nx : Nat} {ls st : List Value} {G : Gm} {μ : Mm}
theorem J_get {a idx ci k t : Nat} {v : Value} (h : Dc mi pc (.getfield idx) 3 nx) (hl : FL mi.1.cls idx ci k t) (ho : IsO G a ci) (hv : ∀ ad, fv ad (G, μ) a k = trV ad v) (kk : J mi d lim sc K cs nx ls (v :: st) (G, μ)) : J mi d lim sc K cs pc ls (.ref a :: st) (G, μ) := by
  obtain ⟨hd, rfl⟩ := h
  obtain ⟨hc7, hk, -, hlw⟩ := hl
  intro p l e R s m args below meth c H locs D tc ad A lr Q hC hR hE hL hret
  refine va_get (C := clR ci) (T := clT ci) (N := clN ci) (ref := (clT ci k).1) hC.1 hC.2.1 hC.2.2.2.2.2.1 (cl_in hc7) hC.2.2.2.2.1 hE.1 hE.2.1 a (fs := (List.range (clN ci)).map (fv ad (G, μ) a)) ?_ (cls7_at hc7) k hk (hC.2.2.2.2.2.1 _ hlw) (fun _ h => h) (v := trV ad v) ?_ hd (kk p l e R s m args below meth c H locs D tc ad A lr Q hC hR hE hL hret)
  · rw [wsW_at ho.1, ob_o ho hc7]
  · rw [List.getElem?_map, List.getElem?_range hk]
    exact congrArg some (hv ad)
theorem J_getI {a idx ci k : Nat} (h : Dc mi pc (.getfield idx) 3 nx) (hl : FL mi.1.cls idx ci k 0) (ho : IsO G a ci) (kk : J mi d lim sc K cs nx ls (.int (μ.1 a k) :: st) (G, μ)) : J mi d lim sc K cs pc ls (.ref a :: st) (G, μ) :=
  J_get h hl ho (fun ad => by unfold fv; dsimp only; rw [ho.2.1, if_pos hl.2.2.1]; rfl) kk
theorem J_getL {a idx ci k : Nat} (h : Dc mi pc (.getfield idx) 3 nx) (hl : FL mi.1.cls idx ci k 1) (ho : IsO G a ci) (kk : J mi d lim sc K cs nx ls (.long (μ.2 a k) :: st) (G, μ)) : J mi d lim sc K cs pc ls (.ref a :: st) (G, μ) :=
  J_get h hl ho (fun ad => by unfold fv; dsimp only; rw [ho.2.1, hl.2.2.1, if_neg (by decide), if_pos rfl]; rfl) kk
theorem J_getR {a idx ci k r : Nat} (h : Dc mi pc (.getfield idx) 3 nx) (hl : FL mi.1.cls idx ci k 2) (ho : IsO G a ci) (hr : RF G a k r) (kk : J mi d lim sc K cs nx ls (.ref r :: st) (G, μ)) : J mi d lim sc K cs pc ls (.ref a :: st) (G, μ) :=
  J_get h hl ho (fun ad => by unfold fv; dsimp only; rw [ho.2.1, hl.2.2.1, if_neg (by decide), if_neg (by decide), hr]; rfl) kk
/-- what stands behind a heap's change in one cell -/
theorem Ev.put {D : va_G} {tc : Nat → ClassId} {ad : Nat → Nat} {w w' : Wd} {s : State} {A : Nat → Prop} {H H1 : Heap} {locs locs1 : List Loc} {x : va_E} {a : Nat} (hE : Ev D tc ad w sc s A H locs) (hG : w'.1.2 = w.1.2) (ho : ∀ i, i ≠ a → ob tc ad w' i = ob tc ad w i) (hx : ob tc ad w' a = x)
    (hP : va_P D cls7 ((wsW tc ad w).set a (ad a, x)) H1) (hD : va_D A ((wsW tc ad w).set a (ad a, x))) (hS : va_S A s.heap H1 locs1) : Ev D tc ad w' sc s A H1 locs1 := by
  rw [wsW_set hG ho hx] at hP hD
  exact ⟨hE.1, hP, hD, hS, hE.2.2.2.2.1, by rw [hG]; exact hE.2.2.2.2.2.1, hE.2.2.2.2.2.2⟩
/-- a field that is put: not final -/
def FP (own : String) (idx ci k t : Nat) : Prop := FL own idx ci k t ∧ (clT ci k).2.2.2 = false
theorem J_putI {a idx ci k : Nat} {x : Int32} (h : Dc mi pc (.putfield idx) 3 nx) (hl : FP mi.1.cls idx ci k 0) (ho : IsO G a ci) (hn : narrow (tyF ci k) (.int x) = .int x) (hf : fits (tyF ci k) (.int x) = true) (kk : J mi d lim sc K cs nx ls st (G, wI μ a k x)) : J mi d lim sc K cs pc ls (.int x :: .ref a :: st) (G, μ) := by
  obtain ⟨hd, rfl⟩ := h
  obtain ⟨⟨hc7, hk, ht, hlw⟩, hfin⟩ := hl
  intro p l e R s m args below meth c H locs D tc ad A lr Q hC hR hE hL hret
  refine va_put (C := clR ci) (T := clT ci) (N := clN ci) (ref := (clT ci k).1) hC.1 hC.2.1 hC.2.2.2.2.2.1 (cl_in hc7) (tyF ci) (clTy_ok hc7) (clN_ok hc7) hC.2.2.2.2.1 hE.1 hE.2.1 hE.2.2.1 hE.2.2.2.1 a (fs := (List.range (clN ci)).map (fv ad (G, μ) a)) ?_ (cls7_at hc7) k hk (hC.2.2.2.2.2.1 _ hlw) (fun _ h => h) hfin (clTy_ok hc7 k hk) hn hf (by simpa using hk) hd (fun H1 locs1 hP hD hS => ?_)
  · rw [wsW_at ho.1, ob_o ho hc7]
  · refine kk p l e R s m args below meth c H1 locs1 D tc ad A lr Q hC hR (hE.put (w' := (G, wI μ a k x)) rfl (fun i hi => ob_wI hi) ?_ hP hD hS) hL hret
    rw [ob_o (w := (G, wI μ a k x)) ho hc7]
    refine congrArg (fun z => Sum.inr (ci, z)) (map_set ?_ (fun j hj => ?_)).symm
    · unfold fv; dsimp only; rw [ho.2.1, if_pos ht, wI_e]; rfl
    · unfold fv; dsimp only; rw [wI_n (fun q => hj q.2), wI_2]
theorem J_putL {a idx ci k : Nat} {x : Int64} (h : Dc mi pc (.putfield idx) 3 nx) (hl : FP mi.1.cls idx ci k 1) (ho : IsO G a ci) (hn : narrow (tyF ci k) (.long x) = .long x) (hf : fits (tyF ci k) (.long x) = true) (kk : J mi d lim sc K cs nx ls st (G, wL μ a k x)) : J mi d lim sc K cs pc ls (.long x :: .ref a :: st) (G, μ) := by
  obtain ⟨hd, rfl⟩ := h
  obtain ⟨⟨hc7, hk, ht, hlw⟩, hfin⟩ := hl
  intro p l e R s m args below meth c H locs D tc ad A lr Q hC hR hE hL hret
  refine va_put (C := clR ci) (T := clT ci) (N := clN ci) (ref := (clT ci k).1) hC.1 hC.2.1 hC.2.2.2.2.2.1 (cl_in hc7) (tyF ci) (clTy_ok hc7) (clN_ok hc7) hC.2.2.2.2.1 hE.1 hE.2.1 hE.2.2.1 hE.2.2.2.1 a (fs := (List.range (clN ci)).map (fv ad (G, μ) a)) ?_ (cls7_at hc7) k hk (hC.2.2.2.2.2.1 _ hlw) (fun _ h => h) hfin (clTy_ok hc7 k hk) hn hf (by simpa using hk) hd (fun H1 locs1 hP hD hS => ?_)
  · rw [wsW_at ho.1, ob_o ho hc7]
  · refine kk p l e R s m args below meth c H1 locs1 D tc ad A lr Q hC hR (hE.put (w' := (G, wL μ a k x)) rfl (fun i hi => ob_wL hi) ?_ hP hD hS) hL hret
    rw [ob_o (w := (G, wL μ a k x)) ho hc7]
    refine congrArg (fun z => Sum.inr (ci, z)) (map_set ?_ (fun j hj => ?_)).symm
    · unfold fv; dsimp only; rw [ho.2.1, if_neg (by rw [ht]; decide), if_pos ht, wL_e]; rfl
    · unfold fv; dsimp only; rw [wL_n (fun q => hj q.2), wL_1]
theorem vp_inN {i : Int32} {k n : Nat} (hi : i = nI k) (hk : k < n) (hn : n < 2147483648) : vp_in i n ∧ i.toNatClampNeg = k := by
  subst hi
  exact ⟨vp_in_nI hk (by omega), nI_clamp (by omega)⟩
theorem J_iald {a n k : Nat} {i : Int32} (h : Dc mi pc .iaload 1 nx) (ha : IsA G a 10 n) (hi : i = nI k) (hk : k < n) (kk : J mi d lim sc K cs nx ls (.int (μ.1 a k) :: st) (G, μ)) : J mi d lim sc K cs pc ls (.int i :: .ref a :: st) (G, μ) := by
  obtain ⟨hd, rfl⟩ := h
  obtain ⟨h1, h2⟩ := vp_inN hi hk ha.2.2.2
  intro p l e R s m args below meth c H locs D tc ad A lr Q hC hR hE hL hret
  refine va_iald hC.1 hC.2.1 hE.1 hE.2.1 a 0 (f := fun j => μ.1 a j) ?_ rfl h1 hd ?_
  · rw [wsW_at ha.1, ob_i ha (by omega) (by omega)]
  · rw [h2]
    exact kk p l e R s m args below meth c H locs D tc ad A lr Q hC hR hE hL hret
theorem J_bald {a n k : Nat} {i : Int32} (h : Dc mi pc .baload 1 nx) (ha : IsA G a 11 n) (hi : i = nI k) (hk : k < n) (kk : J mi d lim sc K cs nx ls (.int (μ.1 a k) :: st) (G, μ)) : J mi d lim sc K cs pc ls (.int i :: .ref a :: st) (G, μ) := by
  obtain ⟨hd, rfl⟩ := h
  obtain ⟨h1, h2⟩ := vp_inN hi hk ha.2.2.2
  intro p l e R s m args below meth c H locs D tc ad A lr Q hC hR hE hL hret
  refine va_bald hC.1 hC.2.1 hE.1 hE.2.1 a 1 (f := fun j => μ.1 a j) ?_ rfl h1 hd ?_
  · rw [wsW_at ha.1, ob_i ha (by omega) (by omega)]
  · rw [h2]
    exact kk p l e R s m args below meth c H locs D tc ad A lr Q hC hR hE hL hret
theorem J_zald {a n k : Nat} {i : Int32} (h : Dc mi pc .baload 1 nx) (ha : IsA G a 12 n) (hi : i = nI k) (hk : k < n) (kk : J mi d lim sc K cs nx ls (.int (μ.1 a k) :: st) (G, μ)) : J mi d lim sc K cs pc ls (.int i :: .ref a :: st) (G, μ) := by
  obtain ⟨hd, rfl⟩ := h
  obtain ⟨h1, h2⟩ := vp_inN hi hk ha.2.2.2
  intro p l e R s m args below meth c H locs D tc ad A lr Q hC hR hE hL hret
  refine va_zald hC.1 hC.2.1 hE.1 hE.2.1 a 2 (f := fun j => μ.1 a j) ?_ rfl h1 hd ?_
  · rw [wsW_at ha.1, ob_i ha (by omega) (by omega)]
  · rw [h2]
    exact kk p l e R s m args below meth c H locs D tc ad A lr Q hC hR hE hL hret
/-- a reference out of an array of them, all there -/
theorem J_aald {a n k r kd : Nat} {i : Int32} (h : Dc mi pc .aaload 1 nx) (ha : IsA G a kd n) (h13 : 13 ≤ kd) (h15 : kd ≤ 15) (hi : i = nI k) (hk : k < n) (hr : RF G a k r) (kk : J mi d lim sc K cs nx ls (.ref r :: st) (G, μ)) : J mi d lim sc K cs pc ls (.int i :: .ref a :: st) (G, μ) := by
  obtain ⟨hd, rfl⟩ := h
  obtain ⟨h1, h2⟩ := vp_inN hi hk ha.2.2.2
  intro p l e R s m args below meth c H locs D tc ad A lr Q hC hR hE hL hret
  have hw : (wsW tc ad (G, μ))[a]? = some (ad a, .inl (tc kd, n, .inr (.inr (.inr (.inr (fun j => ((G.1 a).2.2 j).map ad)))))) := by
    rw [wsW_at ha.1, ob_r ha h13]
  obtain ⟨ty, t0, ht, hty⟩ : ∃ (ty : FieldType) (t0 : Nat), (tyL tc)[t0]? = some (tc kd, ty) ∧ ty.isReference = true := by
    rcases (show kd = 13 ∨ kd = 14 ∨ kd = 15 by omega) with rfl | rfl | rfl
    · exact ⟨_, 3, rfl, rfl⟩
    · exact ⟨_, 4, rfl, rfl⟩
    · exact ⟨_, 5, rfl, rfl⟩
  have hlt : i.toNatClampNeg < n := by rw [h2]; exact hk
  have hP := hE.2.1 a _ hw
  refine W.aald (v := .ref (ad r)) hC.1 hC.2.1 (cell := vp_cell (tc kd) (n, .inr (.inr (.inr (.inr (fun j => ((G.1 a).2.2 j).map ad)))))) hP (by rw [vp_cell_q]; exact (hE.1.2 t0 _ ht).1 n _) hty (by rw [vp_cell_q]; exact fun q => by cases q) (by rw [vp_cell_q, arrV_size]; exact h1) (by rw [vp_cell_q, arrV_read _ _ hlt, h2]; show some (va_rf (((G.1 a).2.2 k).map ad)) = _; rw [hr]; rfl) rfl rfl hd (kk p l e R s m args below meth c H locs D tc ad A lr Q hC hR hE hL hret)
theorem upd_eq (f : Nat → Int32) (k : Nat) (x : Int32) : upd f k x = fun j => if j = k then x else f j := by
  funext j
  by_cases h : j = k
  · subst h; rw [pk_us, if_pos rfl]
  · rw [pk_un h, if_neg h]
theorem ob_wIa {tc : Nat → ClassId} {ad : Nat → Nat} {a kd n k : Nat} {x : Int32} (h : IsA G a kd n) (h1 : 10 ≤ kd) (h2 : kd < 13) : ob tc ad (G, wI μ a k x) a = .inl (tc kd, n, .inl (upd (fun j => μ.1 a j) k x)) := by
  rw [ob_i (w := (G, wI μ a k x)) h h1 h2, upd_eq]
  refine congrArg (fun z => Sum.inl (tc kd, n, Sum.inl z)) (funext fun j => ?_)
  rw [wI_1]
  by_cases e : j = k
  · rw [if_pos ⟨rfl, e⟩, if_pos e]
  · rw [if_neg (fun q => e q.2), if_neg e]
theorem J_iast {a n k : Nat} {i x : Int32} (h : Dc mi pc .iastore 1 nx) (ha : IsA G a 10 n) (hi : i = nI k) (hk : k < n) (kk : J mi d lim sc K cs nx ls st (G, wI μ a k x)) : J mi d lim sc K cs pc ls (.int x :: .int i :: .ref a :: st) (G, μ) := by
  obtain ⟨hd, rfl⟩ := h
  obtain ⟨h1, h2⟩ := vp_inN hi hk ha.2.2.2
  intro p l e R s m args below meth c H locs D tc ad A lr Q hC hR hE hL hret
  refine va_iast hC.1 hC.2.1 hE.1 hE.2.1 hE.2.2.1 hE.2.2.2.1 a 0 (f := fun j => μ.1 a j) ?_ rfl h1 hd (fun H1 locs1 hP hD hS => ?_)
  · rw [wsW_at ha.1, ob_i ha (by omega) (by omega)]
  · rw [h2] at hP hD
    exact kk p l e R s m args below meth c H1 locs1 D tc ad A lr Q hC hR (hE.put (w' := (G, wI μ a k x)) rfl (fun i hi => ob_wI hi) (ob_wIa ha (by omega) (by omega)) hP hD hS) hL hret
theorem J_bast {a n k : Nat} {i x : Int32} (h : Dc mi pc .bastore 1 nx) (ha : IsA G a 11 n) (hi : i = nI k) (hk : k < n) (kk : J mi d lim sc K cs nx ls st (G, wI μ a k x.toInt8.toInt32)) : J mi d lim sc K cs pc ls (.int x :: .int i :: .ref a :: st) (G, μ) := by
  obtain ⟨hd, rfl⟩ := h
  obtain ⟨h1, h2⟩ := vp_inN hi hk ha.2.2.2
  intro p l e R s m args below meth c H locs D tc ad A lr Q hC hR hE hL hret
  refine va_bast hC.1 hC.2.1 hE.1 hE.2.1 hE.2.2.1 hE.2.2.2.1 a 1 (f := fun j => μ.1 a j) ?_ rfl h1 hd (fun H1 locs1 hP hD hS => ?_)
  · rw [wsW_at ha.1, ob_i ha (by omega) (by omega)]
  · rw [h2, vp_nar_byte] at hP hD
    exact kk p l e R s m args below meth c H1 locs1 D tc ad A lr Q hC hR (hE.put (w' := (G, wI μ a k x.toInt8.toInt32)) rfl (fun i hi => ob_wI hi) (ob_wIa ha (by omega) (by omega)) hP hD hS) hL hret
theorem J_zast {a n k : Nat} {i x : Int32} (h : Dc mi pc .bastore 1 nx) (ha : IsA G a 12 n) (hi : i = nI k) (hk : k < n) (hx : vp_nar .boolean x = x) (kk : J mi d lim sc K cs nx ls st (G, wI μ a k x)) : J mi d lim sc K cs pc ls (.int x :: .int i :: .ref a :: st) (G, μ) := by
  obtain ⟨hd, rfl⟩ := h
  obtain ⟨h1, h2⟩ := vp_inN hi hk ha.2.2.2
  intro p l e R s m args below meth c H locs D tc ad A lr Q hC hR hE hL hret
  refine va_zast hC.1 hC.2.1 hE.1 hE.2.1 hE.2.2.1 hE.2.2.2.1 a 2 (f := fun j => μ.1 a j) ?_ rfl h1 hd (fun H1 locs1 hP hD hS => ?_)
  · rw [wsW_at ha.1, ob_i ha (by omega) (by omega)]
  · rw [h2, hx] at hP hD
    exact kk p l e R s m args below meth c H1 locs1 D tc ad A lr Q hC hR (hE.put (w' := (G, wI μ a k x)) rfl (fun i hi => ob_wI hi) (ob_wIa ha (by omega) (by omega)) hP hD hS) hL hret
theorem J_alen {a n kd : Nat} (h : Dc mi pc .arraylength 1 nx) (ha : IsA G a kd n) (h10 : 10 ≤ kd) (h15 : kd ≤ 15) (kk : J mi d lim sc K cs nx ls (.int (nI n) :: st) (G, μ)) : J mi d lim sc K cs pc ls (.ref a :: st) (G, μ) := by
  obtain ⟨hd, rfl⟩ := h
  intro p l e R s m args below meth c H locs D tc ad A lr Q hC hR hE hL hret
  obtain ⟨ty, t0, ht⟩ : ∃ (ty : FieldType) (t0 : Nat), (tyL tc)[t0]? = some (tc kd, ty) := by
    rcases (show kd = 10 ∨ kd = 11 ∨ kd = 12 ∨ kd = 13 ∨ kd = 14 ∨ kd = 15 by omega) with rfl | rfl | rfl | rfl | rfl | rfl
    · exact ⟨_, 0, rfl⟩
    · exact ⟨_, 1, rfl⟩
    · exact ⟨_, 2, rfl⟩
    · exact ⟨_, 3, rfl⟩
    · exact ⟨_, 4, rfl⟩
    · exact ⟨_, 5, rfl⟩
  obtain ⟨x, hx, hx1⟩ : ∃ x : vp_A, ob tc ad (G, μ) a = .inl (tc kd, x) ∧ x.1 = n := by
    by_cases h13 : kd < 13
    · exact ⟨_, ob_i ha h10 h13, rfl⟩
    · exact ⟨_, ob_r ha (by omega), rfl⟩
  refine va_alen hC.1 hC.2.1 hE.1 hE.2.1 a t0 (x := x) ?_ ht (v := nI n) ?_ hd (kk p l e R s m args below meth c H locs D tc ad A lr Q hC hR hE hL hret)
  · rw [wsW_at ha.1, hx]
  · rw [hx1]; rfl
end JM
end
section
/-! CONTRACTS AND CALLS -/
theorem Xs.warm {ad : Nat → Nat} {A B : Nat → Prop} {s U : State} {H : Heap} {locs : List Loc} (hW : s.WarmedH U.vm) (hS : va_S A s.heap H locs) (hU : U.heap = H) (hB : ∀ q, B q → A q) (h : Xs ad A s) : Xs ad B U := by
  obtain ⟨h1, h2, h3, h4, h5, h6⟩ := h
  have hal := hW.alike
  refine ⟨fun q hq => va_Nw.warmM hW (h1 q hq), ?_, fun q hq => vk_R.warm hW (h3 q hq), ?_, va_AO.moved hal h5, va_AO.moved hal h6⟩
  · rw [hU]
    exact ((vk_S.moved hal h2).kept hS.2.1).narrow hB
  · rw [hU]
    exact ((va_Z.moved hal h4).kept hS.2.1).narrow hB
theorem Xs.blind {ad : Nat → Nat} {A : Nat → Prop} {U : State} {g : JFrame} {mk : MethodId} {a : Array Value} (h : Xs ad A U) : Xs ad A (U.calling g mk a) := by
  obtain ⟨h1, h2, h3, h4, h5, h6⟩ := h
  have hal : U.vm.Alike (U.calling g mk a).vm := Vm.Alike.refl U.vm
  exact ⟨fun q hq => va_Nw.same rfl rfl (h1 q hq), vk_S.moved (U := U.calling g mk a) hal h2, fun q hq => vk_R.same rfl (h3 q hq), va_Z.moved (U := U.calling g mk a) hal h4, va_AO.moved hal h5, va_AO.moved hal h6⟩
theorem Xs.ad {ad ad' : Nat → Nat} {A : Nat → Prop} {U : State} {n n' : Nat} (h : AdX ad ad' n n') (hn : n' ≤ 1000000) (hX : Xs ad A U) : Xs ad' A U := by
  obtain ⟨h1, h2, h3, h4⟩ := hX
  refine ⟨h1, ?_, fun q hq => ?_, h4⟩
  · rw [show (fun i => ad' (1000000 + i)) = fun i => ad (1000000 + i) from funext fun i => h _ (Or.inr (by omega)), show (fun i => ad' (1000010 + i)) = fun i => ad (1000010 + i) from funext fun i => h _ (Or.inr (by omega))]
    exact h2
  · rw [h _ (Or.inr (by omega))]
    exact h3 q hq
theorem Sc.ad {sc : Nat × (Nat → Int32)} {ad ad' : Nat → Nat} {A : Nat → Prop} {U : State} {n n' : Nat} (h : AdX ad ad' n n') (hn : n' ≤ 1000000) (hX : Sc sc ad A U) : Sc sc ad' A U := by
  unfold Sc at hX ⊢
  rw [h _ (Or.inr (by omega))]
  exact hX
def mrm (d : Nat) (lim : Nat × Nat) : Room := { frames := d + 1, cells := lim.1, slots := lim.2, locals := 64 * (d + 1) }
def EvP (D : va_G) (tc : Nat → ClassId) (ad : Nat → Nat) (w : Wd) (sz : Nat) (U : State) : Prop :=
  U.heap.size = sz ∧ va_K D cls7 (tyL tc) U ∧ va_P D cls7 (wsW tc ad w) U.heap ∧ va_D (fun _ => True) (wsW tc ad w) ∧ w.1.2 ≤ 1000000 ∧ Xs ad (va_A (wsW tc ad w) sz) U
def QcJ (D : va_G) (tc : Nat → ClassId) (ad : Nat → Nat) (w : Wd) (sz : Nat) (K : Option Value → Wd → Prop) : Array Value → State → Outcome → State → Prop := fun _ st o t =>
  (∃ (v : Option Value) (w' : Wd) (ad' : Nat → Nat), o = .returned (v.map (trV ad')) ∧ K v w' ∧ AdX ad ad' w.1.2 w'.1.2 ∧ w.1.2 ≤ w'.1.2 ∧ w'.1.2 ≤ 1000000 ∧ va_P D cls7 (wsW tc ad' w') t.heap ∧ va_D (va_A (wsW tc ad w) sz) (wsW tc ad' w')) ∧ va_F (va_A (wsW tc ad w) sz) st t
/-- A METHOD'S CONTRACT: called with these arguments in this world it returns, with an answer and a world of K -/
def C (mi : MI) (d : Nat) (lim : Nat × Nat) (As : List Value) (w : Wd) (K : Option Value → Wd → Prop) : Prop :=
  ∀ (l : Launch) (D : va_G) (tc : Nat → ClassId) (ad : Nat → Nat) (sz : Nat), Met l mi.1 (Cond.code mi.1 mi.2.1 mi.2.2.1 mi.2.2.2 :: lw_g) (mrm d lim) (va_Pc (As.map (trV ad)) (EvP D tc ad w sz)) (QcJ D tc ad w sz K) lim.1 lim.2 (va_A (wsW tc ad w) sz)
def enA (As : List Value) : List Value := As.flatMap (fun v => if v.category = 2 then [v, .null] else [v])
theorem enA_len (ad : Nat → Nat) (As : List Value) : (lg_sl (As.map (trV ad))).length = (enA As).length := by
  induction As with
  | nil => rfl
  | cons v t ih =>
    have e1 : lg_sl ((v :: t).map (trV ad)) = (if (trV ad v).category = 2 then [Slot.val (trV ad v), Slot.second] else [Slot.val (trV ad v)]) ++ lg_sl (t.map (trV ad)) := rfl
    have e2 : enA (v :: t) = (if v.category = 2 then [v, .null] else [v]) ++ enA t := rfl
    rw [e1, e2, List.length_append, List.length_append, ih, tr_cat]
    by_cases h : v.category = 2
    · rw [if_pos h, if_pos h]; rfl
    · rw [if_neg h, if_neg h]; rfl
theorem enA_at (ad : Nat → Nat) (As : List Value) : ∀ (i : Nat) (v : Value), (enA As)[i]? = some v → v ≠ .null → (lg_sl (As.map (trV ad)))[i]? = some (.val (trV ad v)) := by
  induction As with
  | nil => intro i v h; simp [enA] at h
  | cons u t ih =>
    intro i v h hv
    have e1 : lg_sl ((u :: t).map (trV ad)) = (if (trV ad u).category = 2 then [Slot.val (trV ad u), Slot.second] else [Slot.val (trV ad u)]) ++ lg_sl (t.map (trV ad)) := rfl
    have e2 : enA (u :: t) = (if u.category = 2 then [u, .null] else [u]) ++ enA t := rfl
    rw [e1, tr_cat]
    rw [e2] at h
    by_cases hc : u.category = 2
    · rw [if_pos hc] at h ⊢
      match i, h with
      | 0, h => cases h; rfl
      | 1, h => cases h; exact absurd rfl hv
      | i + 2, h => exact ih i v h hv
    · rw [if_neg hc] at h ⊢
      match i, h with
      | 0, h => cases h; rfl
      | i + 1, h => exact ih i v h hv
def enL (nL : Nat) (As : List Value) : List Value := enA As ++ List.replicate (nL - (enA As).length) .null
theorem C_of_J {mi : MI} {d : Nat} {lim : Nat × Nat} {As ls : List Value} {w : Wd} {K : Option Value → Wd → Prop} (hy : plainName mi.1.cls = true) (hlen : (enA As).length ≤ mi.2.2.1) (hls : enL mi.2.2.1 As = ls) (k : J mi d lim (0, fun _ => 0) K (0, 0) 0 ls [] w) : C mi d lim As w K := by
  intro l D tc ad sz
  refine Met.ofW (cc := mi.2.1) (maxL := mi.2.2.1) (ret := mi.2.2.2) hy rfl ?_
  intro p e s m args below meth c s₁ B hml hv
  obtain ⟨rfl, hsz, hK, hP, hD0, htop, hX⟩ := hv
  subst hsz
  have hts := atoms_spec (ws := Cond.code mi.1 mi.2.1 mi.2.2.1 mi.2.2.2 :: lw_g) B.pre
  have hown : s.vm.findClass mi.1.cls = some m.cls := findClass_of_methodNamed B.named
  have hlocks := B.notSynchronized
  have hCx : Cx mi p s m ((As.map (trV ad)).toArray) meth c := ⟨B.exec, B.bytes, B.returns, hml, hown, fun w hw => hts w (List.mem_cons_of_mem _ hw), hlocks, (name_of_methodNamed B.named B.method).1⟩
  have hRm : Rm d lim (mrm d lim) := ⟨Nat.le_refl _, Nat.le_refl _, Nat.le_refl _, Nat.le_refl _⟩
  have hEv : Ev D tc ad w (0, fun _ => 0) s (va_A (wsW tc ad w) s.heap.size) s.heap [] := ⟨hK, hP, hD0.self, va_S.rf, fun q h => Or.inr h, htop, hX, Or.inl rfl⟩
  have hl := lv_entry (As.map (trV ad)) (n := mi.2.2.1) (by rw [enA_len]; exact hlen)
  rw [lg_entry_eq]
  have hLr : Lr mi.2.2.1 ad ls ((lg_sl (As.map (trV ad)) ++ List.replicate (mi.2.2.1 - (lg_sl (As.map (trV ad))).length) Slot.unset).toArray) := by
    refine ⟨hl.1, hl.2.1, fun i v h hv => ?_⟩
    rw [← hls] at h
    unfold enL at h
    by_cases hi : i < (enA As).length
    · rw [List.getElem?_append_left hi] at h
      rw [List.getElem?_toArray, List.getElem?_append_left (by rw [enA_len]; exact hi)]
      exact enA_at ad As i v h hv
    · rw [List.getElem?_append_right (by omega)] at h
      have := (List.getElem?_eq_some_iff.mp h).2
      rw [List.getElem_replicate] at this
      exact absurd this.symm hv
  generalize (lg_sl (As.map (trV ad)) ++ List.replicate (mi.2.2.1 - (lg_sl (As.map (trV ad))).length) Slot.unset).toArray = lr at hLr ⊢
  refine k p l e (mrm d lim) s m _ below meth c s.heap [] D tc ad (va_A (wsW tc ad w) s.heap.size) lr _ hCx hRm hEv hLr ?_
  intro v w' H' locs' ad' lr' pc' cs' hKv had htop' hE' h1 h2 hret
  refine W.widen h1 h2 ?_
  have hq : ∀ t : State, t.heap = H' → s.WarmedH t.vm → QcJ D tc ad w s.heap.size K ((As.map (trV ad)).toArray) s (.returned (v.map (trV ad'))) t := fun t ht _ =>
    ⟨⟨v, w', ad', rfl, hKv, had, htop', hE'.2.2.2.2.2.1, by rw [ht]; exact hE'.2.1, hE'.2.2.1⟩, hE'.2.2.2.1.F ht⟩
  have hf : ∀ q ∈ locs', va_A (wsW tc ad w) s.heap.size q.base := hE'.2.2.2.1.2.2
  match v, hret, hq with
  | none, hret, hq => exact W.vret hCx.1 hCx.2.1 (hCx.2.2.1.trans hret.2) hq hf hret.1
  | some (.int x), hret, hq =>
    obtain ⟨r1, t, r2, r3⟩ := hret
    exact W.zret hCx.1 hCx.2.1 (hCx.2.2.1.trans r2) r3 hq hf r1
  | some (.long x), hret, hq => exact W.lret hCx.1 hCx.2.1 (hCx.2.2.1.trans hret.2) hq hf hret.1
theorem lw_gg {ws : List Cond} (h : ∀ w ∈ ws, w ∈ lw_g) : GoodIn lw_g ws := fun w hw => ⟨h w hw, good_of_word (List.mem_filter.mp (h w hw)).2⟩
theorem callJ {p : Program} {l : Launch} {e : Env} {R : Room} {s : State} {m : MethodId} {args : Array Value} {below : List Frame} {meth : Method} {c : Code} {H : Heap} {locs : List Loc} {cells slots mc ms pc : Nat} {Q : State → Prop} {lr : Array Slot} {st0 rest : List Value} {Qa : State → Outcome → State → Prop} {free : Addr → Prop}
    (hr : va_Run p l e R s m args below meth c H locs cells slots mc ms (F0 m pc lr st0) rest Qa free)
    (kk : ∀ (v : Option Value) (st₀ t : State) (H1 : Heap) (L : List Loc), st₀.heap = H → t.heap = H1 → Qa st₀ (.returned v) t → (∀ q ∈ L, free q.base) → W p l e R s m args below meth c H1 (locs ++ L) (cells + mc) (slots + ms) Q (F0 m (pc + 3) lr (v.toList ++ rest))) : W p l e R s m args below meth c H locs cells slots Q (F0 m pc lr st0) := by
  intro T hT X
  obtain ⟨v, st₀, t, T', L, h0, X', hL, e1, e2, hq, st⟩ := hr T hT X
  obtain ⟨t2, a1, b1⟩ := kk v st₀ t T'.heap L h0 e1.symm hq hL T' rfl X'
  exact ⟨t2, st t2 a1, b1⟩
/-- behind a call -/
theorem Ev.back {D : va_G} {tc : Nat → ClassId} {ad ad' : Nat → Nat} {w w' : Wd} {sc : Nat × (Nat → Int32)} {s st₀ t : State} {A : Nat → Prop} {H H1 : Heap} {locs L : List Loc} (hE : Ev D tc ad w sc s A H locs) (h0 : st₀.heap = H) (h1 : t.heap = H1) (had : AdX ad ad' w.1.2 w'.1.2) (ht : w'.1.2 ≤ 1000000)
    (hP : va_P D cls7 (wsW tc ad' w') t.heap) (hD : va_D (va_A (wsW tc ad w) H.size) (wsW tc ad' w')) (hF : va_F (va_A (wsW tc ad w) H.size) st₀ t) (hL : ∀ q ∈ L, va_A (wsW tc ad w) H.size q.base) : Ev D tc ad' w' sc s A H1 (locs ++ L) := by
  obtain ⟨e1, e2, e3, e4, e5, e6, e7, e8⟩ := hE
  have hsub : ∀ q, va_A (wsW tc ad w) H.size q → A q := fun q h => by
    rcases h with ⟨k, x, h⟩ | h
    · exact e3.2 k _ h
    · exact e5 q (Nat.le_trans e4.1 h)
  rw [h1] at hP
  obtain ⟨f1, f2⟩ := hF
  rw [h0, h1] at f1 f2
  refine ⟨e1, hP, hD.weaken (fun k q _ h => hsub q.1 h), ⟨Nat.le_trans e4.1 f1, fun q g1 g2 => ?_, fun q hq => ?_⟩, e5, ht, e7.ad had ht, e8.ad had ht⟩
  · rw [f2 q (Nat.lt_of_lt_of_le g1 e4.1) (fun z => g2 (hsub q z))]
    exact e4.2.1 q g1 g2
  · rcases List.mem_append.mp hq with h | h
    · exact e4.2.2 q h
    · exact hsub _ (hL q h)
/-- before a call -/
theorem EvP.of {D : va_G} {tc : Nat → ClassId} {ad : Nat → Nat} {w : Wd} {sc : Nat × (Nat → Int32)} {s U : State} {A : Nat → Prop} {H : Heap} {locs : List Loc} (hE : Ev D tc ad w sc s A H locs) (hU : U.heap = H) (hW : s.WarmedH U.vm) : EvP D tc ad w H.size U := by
  obtain ⟨e1, e2, e3, e4, e5, e6, e7, e8⟩ := hE
  have hsub : ∀ q, va_A (wsW tc ad w) H.size q → A q := fun q h => by
    rcases h with ⟨k, x, h⟩ | h
    · exact e3.2 k _ h
    · exact e5 q (Nat.le_trans e4.1 h)
  exact ⟨by rw [hU], va_K.moved hW.alike e1, by rw [hU]; exact e2, e3.weaken (fun _ _ _ _ => trivial), e6, e7.warm hW e4 hU hsub⟩
theorem EvP.blind {D : va_G} {tc : Nat → ClassId} {ad : Nat → Nat} {w : Wd} {sz : Nat} {av : List Value} : FrameBlind (va_Pc av (EvP D tc ad w sz)) := fun a U g mk q => by
  obtain ⟨q0, q1, q2, q3, q4, q5, q6⟩ := q
  exact ⟨q0, q1, va_K.moved (u := U) (U := U.calling g mk a) (Vm.Alike.refl U.vm) q2, q3, q4, q5, q6.blind⟩
def CD (y : MethodName) (n : Nat) : Prop := y.cls ≠ "java/lang/invoke/MethodHandle" ∧ y.cls ≠ "java/lang/invoke/VarHandle" ∧ (parseMethodDescriptor y.desc).map (fun d => d.parameters.length) = some n
/-- a method that is called: its words -/
def CM (mj : MI) (n : Nat) : Prop := CD mj.1 n ∧ mj.2.2.1 ≤ 40 ∧ Cond.code mj.1 mj.2.1 mj.2.2.1 mj.2.2.2 ∈ lw_g ∧ Cond.initialized mj.1.cls ∈ lw_g
def CV (own : String) (idx : Nat) (mj : MI) (n ci : Nat) : Prop := ci < 7 ∧ mj.1.cls = clR ci ∧ Cond.methodLink own idx mj.1 ∈ lw_g ∧ Cond.instanceMethod mj.1 ∈ lw_g ∧ Cond.selects (clR ci) mj.1 mj.1 ∈ lw_g ∧ CM mj n
def CS (own : String) (idx : Nat) (mj : MI) (n : Nat) : Prop := Cond.methodLink own idx mj.1 ∈ lw_g ∧ Cond.static mj.1 ∈ lw_g ∧ CM mj n
def CSN (own : String) (idx : Nat) (mj : MI) (n : Nat) (host : String) : Prop := (own, idx, mj.1, host) ∈ nestL ∧ Cond.static mj.1 ∈ lw_g ∧ CM mj n
def CI (own : String) (idx : Nat) (mj : MI) (n : Nat) : Prop := Cond.methodLink own idx mj.1 ∈ lw_g ∧ Cond.instanceMethod mj.1 ∈ lw_g ∧ mj.1.name = "<init>" ∧ mj.2.2.2 = none ∧ CM mj n
def CIN (own : String) (idx : Nat) (mj : MI) (n : Nat) (host : String) : Prop := (own, idx, mj.1, host) ∈ nestL ∧ Cond.instanceMethod mj.1 ∈ lw_g ∧ mj.1.name = "<init>" ∧ mj.2.2.2 = none ∧ CM mj n
theorem CM.good {mj : MI} {n : Nat} (h : CM mj n) : GoodIn lw_g (Cond.code mj.1 mj.2.1 mj.2.2.1 mj.2.2.2 :: lw_g) := lw_gg (fun w hw => by
  rcases List.mem_cons.mp hw with rfl | hw
  · exact h.2.2.1
  · exact hw)
section JC
variable {mi mj : MI} {d : Nat} {lim lim' : Nat × Nat} {sc : Nat × (Nat → Int32)} {K K1 : Option Value → Wd → Prop} {cs : Nat × Nat} {pc nx idx n : Nat} {ls st As : List Value} {w : Wd}
theorem Rm.call {R : Room} (hR : Rm (d + 1) lim R) (h40 : mj.2.2.1 ≤ 40) : (mrm d lim').frames + 1 ≤ R.frames ∧ 8 + (mj.2.2.1 + 11) + (mrm d lim').locals ≤ R.locals := by
  obtain ⟨h1, h2, -⟩ := hR
  refine ⟨h1, ?_⟩
  show 8 + (mj.2.2.1 + 11) + 64 * (d + 1) ≤ R.locals
  omega
theorem tr_cats (ad : Nat → Nat) (st : List Value) : ((st.map (trV ad)).map fun v => v.category).sum = (st.map fun v => v.category).sum := by
  rw [List.map_map]
  congr 1
  apply List.map_congr_left
  intro v _
  exact tr_cat ad v
/-- what is kept over a call: nothing was made, or all that is named was there before -/
def Kp (K1 : Option Value → Wd → Prop) (w : Wd) (ls st : List Value) : Prop := (∀ v w', K1 v w' → w'.1.2 = w.1.2) ∨ (∀ i, Value.ref i ∈ ls ++ st → i < w.1.2 ∨ 1000000 ≤ i)
theorem Kp.eq {w w' : Wd} {v : Option Value} {ad ad' : Nat → Nat} (h : Kp K1 w ls st) (hK : K1 v w') (had : AdX ad ad' w.1.2 w'.1.2) (ht : w'.1.2 ≤ 1000000) : ∀ u, u ∈ ls ++ st → trV ad' u = trV ad u := by
  intro u hu
  rcases h with h | h
  · have he : ad' = ad := funext fun i => had i (by rw [h v w' hK]; omega)
    rw [he]
  · cases u with
    | ref i => 
      show Value.ref (ad' i) = Value.ref (ad i)
      rw [had i ((h i hu).imp id (fun q => Nat.le_trans ht q))]
    | _ => rfl
theorem J_after {p : Program} {l : Launch} {e : Env} {R : Room} {s : State} {m : MethodId} {args : Array Value} {below : List Frame} {meth : Method} {c : Code} {H : Heap} {locs : List Loc} {D : va_G} {tc : Nat → ClassId} {ad : Nat → Nat} {A : Nat → Prop} {lr : Array Slot} {Q : State → Prop} {d1 : Nat}
    (hC : Cx mi p s m args meth c) (hR : Rm d1 lim R) (hE : Ev D tc ad w sc s A H locs) (hL : Lr mi.2.2.1 ad ls lr) (hKp : Kp K1 w ls st)
    (hret : ∀ (v : Option Value) (w' : Wd) (H' : Heap) (locs' : List Loc) (ad' : Nat → Nat) (lr' : Array Slot) (pc' : Nat) (cs' : Nat × Nat), K v w' → AdX ad ad' w.1.2 w'.1.2 → w.1.2 ≤ w'.1.2 → Ev D tc ad' w' sc s A H' locs' → cs'.1 ≤ lim.1 → cs'.2 ≤ lim.2 → RetI mi pc' v →
      W p l e R s m args below meth c H' locs' cs'.1 cs'.2 Q (F0 m pc' lr' (v.toList.map (trV ad'))))
    (kk : ∀ v w', K1 v w' → J mi d1 lim sc K (cs.1 + lim'.1, cs.2 + lim'.2) (pc + 3) ls (v.toList ++ st) w') (v : Option Value) (st₀ t : State) (H1 : Heap) (L : List Loc) (h0 : st₀.heap = H) (ht : t.heap = H1) (hq : QcJ D tc ad w H.size K1 args st₀ (.returned v) t) (hL1 : ∀ q ∈ L, va_A (wsW tc ad w) H.size q.base) :
    W p l e R s m args below meth c H1 (locs ++ L) (cs.1 + lim'.1) (cs.2 + lim'.2) Q (F0 m (pc + 3) lr (v.toList ++ st.map (trV ad))) := by
  obtain ⟨⟨v', w', ad', e1, hK1, had, hle, htop, hP, hD⟩, hF⟩ := hq
  cases e1
  have hE' := hE.back h0 ht had htop hP hD hF hL1
  have hst : st.map (trV ad) = st.map (trV ad') := List.map_congr_left (fun u hu => (hKp.eq hK1 had htop u (List.mem_append.mpr (Or.inr hu))).symm)
  have hvs : (v'.map (trV ad')).toList ++ st.map (trV ad) = (v'.toList ++ st).map (trV ad') := by
    rw [hst, List.map_append]
    cases v' <;> rfl
  rw [hvs]
  refine kk v' w' hK1 p l e R s m args below meth c H1 (locs ++ L) D tc ad' A lr Q hC hR hE' ⟨hL.1, hL.2.1, fun i u hi hu => ?_⟩ ?_
  · rw [hKp.eq hK1 had htop u (List.mem_append.mpr (Or.inl (List.mem_of_getElem? hi)))]
    exact hL.2.2 i u hi hu
  · exact fun v2 w2 H2 locs2 ad2 lr2 pc2 cs2 g1 g2 g3 => hret v2 w2 H2 locs2 ad2 lr2 pc2 cs2 g1 (fun i hi => (g2 i (hi.imp (fun q => Nat.lt_of_lt_of_le q hle) id)).trans (had i (hi.imp id (fun q => Nat.le_trans g3 q)))) (Nat.le_trans hle g3)
theorem J_callV {a ci : Nat} (h : Dc mi pc (.invokevirtual idx) 3 nx) (hl : CV mi.1.cls idx mj n ci) (ho : IsO w.1 a ci) (hn : As.length = n) (hM : C mj d lim' (.ref a :: As) w K1) (h1 : cs.1 + lim'.1 ≤ lim.1) (h2 : cs.2 + lim'.2 ≤ lim.2) (hst : (st.map fun v => v.category).sum ≤ 8) (hKp : Kp K1 w ls st)
    (kk : ∀ v w', K1 v w' → J mi (d + 1) lim sc K (cs.1 + lim'.1, cs.2 + lim'.2) nx ls (v.toList ++ st) w') : J mi (d + 1) lim sc K cs pc ls (As.reverse ++ .ref a :: st) w := by
  obtain ⟨hd, rfl⟩ := h
  obtain ⟨hc7, hcl, hl1, hl2, hl3, hcm⟩ := hl
  intro p l e R s m args below meth c H locs D tc ad A lr Q hC hR hE hL hret
  have hts := hC.2.2.2.2.2.1
  refine callJ (va_runV (As := As.map (trV ad)) (rest := st.map (trV ad)) (b := ad a) (C := clR ci) (Ts := lw_g) ⟨hC.1, hC.2.1, hC.2.2.2.1, hC.2.2.2.2.1, hts⟩ (hM l D tc ad H.size) ⟨callB_of n hts hcm.good rfl rfl rfl (hts _ hcm.2.2.2) (hts _ hl1) hcm.1 (hR.call hcm.2.1), hts _ hl2, hts _ hl3⟩ ⟨EvP.blind, va_recv hE.1 hE.2.1 (q0 := a) (cls7_at hc7) (by rw [wsW_at ho.1, ob_o ho hc7]), fun U hU hW => ⟨rfl, EvP.of hE hU hW⟩⟩ rfl (by rw [List.length_map]; exact hn) hL.1 ?_ (lv_room (by rw [tr_cats]; exact hst)) hd ⟨Nat.le_trans h1 hR.2.2.1, Nat.le_trans h2 hR.2.2.2⟩) (J_after hC hR hE hL hKp hret kk)
  show (As.reverse ++ Value.ref a :: st).map (trV ad) = _
  rw [List.map_append, List.map_reverse]
  rfl
theorem J_callS (h : Dc mi pc (.invokestatic idx) 3 nx) (hl : CS mi.1.cls idx mj n) (hn : As.length = n) (hM : C mj d lim' As w K1) (h1 : cs.1 + lim'.1 ≤ lim.1) (h2 : cs.2 + lim'.2 ≤ lim.2) (hst : (st.map fun v => v.category).sum ≤ 8) (hKp : Kp K1 w ls st)
    (kk : ∀ v w', K1 v w' → J mi (d + 1) lim sc K (cs.1 + lim'.1, cs.2 + lim'.2) nx ls (v.toList ++ st) w') : J mi (d + 1) lim sc K cs pc ls (As.reverse ++ st) w := by
  obtain ⟨hd, rfl⟩ := h
  obtain ⟨hl1, hl2, hcm⟩ := hl
  intro p l e R s m args below meth c H locs D tc ad A lr Q hC hR hE hL hret
  have hts := hC.2.2.2.2.2.1
  refine callJ (va_runS (As := As.map (trV ad)) (rest := st.map (trV ad)) (Ts := lw_g) ⟨hC.1, hC.2.1, hC.2.2.2.1, hC.2.2.2.2.1, hts⟩ (hM l D tc ad H.size) ⟨callB_of n hts hcm.good rfl rfl rfl (hts _ hcm.2.2.2) (hts _ hl1) hcm.1 (hR.call hcm.2.1), hts _ hl2⟩ ⟨EvP.blind, fun U hU hW => ⟨rfl, EvP.of hE hU hW⟩⟩ rfl (by rw [List.length_map]; exact hn) hL.1 ?_ (lv_room (by rw [tr_cats]; exact hst)) hd ⟨Nat.le_trans h1 hR.2.2.1, Nat.le_trans h2 hR.2.2.2⟩) (J_after hC hR hE hL hKp hret kk)
  show (As.reverse ++ st).map (trV ad) = _
  rw [List.map_append, List.map_reverse]
theorem J_callSN {host : String} (h : Dc mi pc (.invokestatic idx) 3 nx) (hl : CSN mi.1.cls idx mj n host) (hn : As.length = n) (hM : C mj d lim' As w K1) (h1 : cs.1 + lim'.1 ≤ lim.1) (h2 : cs.2 + lim'.2 ≤ lim.2) (hst : (st.map fun v => v.category).sum ≤ 8) (hKp : Kp K1 w ls st)
    (kk : ∀ v w', K1 v w' → J mi (d + 1) lim sc K (cs.1 + lim'.1, cs.2 + lim'.2) nx ls (v.toList ++ st) w') : J mi (d + 1) lim sc K cs pc ls (As.reverse ++ st) w := by
  obtain ⟨hd, rfl⟩ := h
  obtain ⟨hl1, hl2, hcm⟩ := hl
  intro p l e R s m args below meth c H locs D tc ad A lr Q hC hR hE hL hret
  have hts := hC.2.2.2.2.2.1
  refine callJ (va_runSN (host := host) (As := As.map (trV ad)) (rest := st.map (trV ad)) (Ts := lw_g) ⟨hC.1, hC.2.1, hC.2.2.2.1, hC.2.2.2.2.1, hts⟩ (hM l D tc ad H.size) ⟨va_cnB n hts hcm.good rfl rfl rfl (hE.2.2.2.2.2.2.1.1 _ hl1) (hts _ hcm.2.2.2) hcm.1 (hR.call hcm.2.1), hts _ hl2, trivial⟩ ⟨EvP.blind, fun U hU hW => ⟨rfl, EvP.of hE hU hW⟩⟩ rfl (by rw [List.length_map]; exact hn) hL.1 ?_ (lv_room (by rw [tr_cats]; exact hst)) hd ⟨Nat.le_trans h1 hR.2.2.1, Nat.le_trans h2 hR.2.2.2⟩) (J_after hC hR hE hL hKp hret kk)
  show (As.reverse ++ st).map (trV ad) = _
  rw [List.map_append, List.map_reverse]
theorem J_callI {a : Nat} (h : Dc mi pc (.invokespecial idx) 3 nx) (hl : CI mi.1.cls idx mj n) (hn : As.length = n) (hM : C mj d lim' (.ref a :: As) w K1) (h1 : cs.1 + lim'.1 ≤ lim.1) (h2 : cs.2 + lim'.2 ≤ lim.2) (hst : (st.map fun v => v.category).sum ≤ 8) (hKp : Kp K1 w ls st)
    (kk : ∀ v w', K1 v w' → J mi (d + 1) lim sc K (cs.1 + lim'.1, cs.2 + lim'.2) nx ls (v.toList ++ st) w') : J mi (d + 1) lim sc K cs pc ls (As.reverse ++ .ref a :: st) w := by
  obtain ⟨hd, rfl⟩ := h
  obtain ⟨hl1, hl2, hl3, hl4, hcm⟩ := hl
  intro p l e R s m args below meth c H locs D tc ad A lr Q hC hR hE hL hret
  have hts := hC.2.2.2.2.2.1
  have hg := hcm.good
  have hm := hM l D tc ad H.size
  rw [hl4] at hg hm
  refine callJ (va_runI (As := As.map (trV ad)) (rest := st.map (trV ad)) (b := ad a) (Ts := lw_g) ⟨hC.1, hC.2.1, hC.2.2.2.1, hC.2.2.2.2.1, hts⟩ hm ⟨callB_of n hts hg rfl rfl rfl (hts _ hcm.2.2.2) (hts _ hl1) hcm.1 (hR.call hcm.2.1), hl3, hts _ hl2⟩ ⟨EvP.blind, fun U hU hW => ⟨rfl, EvP.of hE hU hW⟩⟩ rfl (by rw [List.length_map]; exact hn) hL.1 ?_ (lv_room (by rw [tr_cats]; exact hst)) hd ⟨Nat.le_trans h1 hR.2.2.1, Nat.le_trans h2 hR.2.2.2⟩) (J_after hC hR hE hL hKp hret kk)
  show (As.reverse ++ Value.ref a :: st).map (trV ad) = _
  rw [List.map_append, List.map_reverse]
  rfl
theorem J_callIN {a : Nat} {host : String} (h : Dc mi pc (.invokespecial idx) 3 nx) (hl : CIN mi.1.cls idx mj n host) (hn : As.length = n) (hM : C mj d lim' (.ref a :: As) w K1) (h1 : cs.1 + lim'.1 ≤ lim.1) (h2 : cs.2 + lim'.2 ≤ lim.2) (hst : (st.map fun v => v.category).sum ≤ 8) (hKp : Kp K1 w ls st)
    (kk : ∀ v w', K1 v w' → J mi (d + 1) lim sc K (cs.1 + lim'.1, cs.2 + lim'.2) nx ls (v.toList ++ st) w') : J mi (d + 1) lim sc K cs pc ls (As.reverse ++ .ref a :: st) w := by
  obtain ⟨hd, rfl⟩ := h
  obtain ⟨hl1, hl2, hl3, hl4, hcm⟩ := hl
  intro p l e R s m args below meth c H locs D tc ad A lr Q hC hR hE hL hret
  have hts := hC.2.2.2.2.2.1
  have hg := hcm.good
  have hm := hM l D tc ad H.size
  rw [hl4] at hg hm
  refine callJ (va_runIN (host := host) (As := As.map (trV ad)) (rest := st.map (trV ad)) (b := ad a) (Ts := lw_g) ⟨hC.1, hC.2.1, hC.2.2.2.1, hC.2.2.2.2.1, hts⟩ hm ⟨va_cnB n hts hg rfl rfl rfl (hE.2.2.2.2.2.2.1.1 _ hl1) (hts _ hcm.2.2.2) hcm.1 (hR.call hcm.2.1), hl3, hts _ hl2⟩ ⟨EvP.blind, fun U hU hW => ⟨rfl, EvP.of hE hU hW⟩⟩ rfl (by rw [List.length_map]; exact hn) hL.1 ?_ (lv_room (by rw [tr_cats]; exact hst)) hd ⟨Nat.le_trans h1 hR.2.2.1, Nat.le_trans h2 hR.2.2.2⟩) (J_after hC hR hE hL hKp hret kk)
  show (As.reverse ++ Value.ref a :: st).map (trV ad) = _
  rw [List.map_append, List.map_reverse]
  rfl
end JC
/-! METHODS THAT MAKE NOTHING: whole numbers, longs, nothing answered -/
abbrev s0 : Nat × (Nat → Int32) := (0, fun _ => 0)
def Ki (G : Gm) (K : Int32 → Mm → Prop) : Option Value → Wd → Prop := fun v w' => ∃ (r : Int32) (μ' : Mm), v = some (.int r) ∧ w' = (G, μ') ∧ K r μ'
def Kl (G : Gm) (K : Int64 → Mm → Prop) : Option Value → Wd → Prop := fun v w' => ∃ (r : Int64) (μ' : Mm), v = some (.long r) ∧ w' = (G, μ') ∧ K r μ'
def Kv (G : Gm) (K : Mm → Prop) : Option Value → Wd → Prop := fun v w' => ∃ μ' : Mm, v = none ∧ w' = (G, μ') ∧ K μ'
def Si (mi : MI) (d : Nat) (As : List Value) (G : Gm) (μ : Mm) (K : Int32 → Mm → Prop) : Prop := C mi d (0, 0) As (G, μ) (Ki G K)
def Sl (mi : MI) (d : Nat) (As : List Value) (G : Gm) (μ : Mm) (K : Int64 → Mm → Prop) : Prop := C mi d (0, 0) As (G, μ) (Kl G K)
def Sv (mi : MI) (d : Nat) (As : List Value) (G : Gm) (μ : Mm) (K : Mm → Prop) : Prop := C mi d (0, 0) As (G, μ) (Kv G K)
theorem Ki.kp {G : Gm} {K : Int32 → Mm → Prop} {μ : Mm} {ls st : List Value} : Kp (Ki G K) (G, μ) ls st := Or.inl (fun v w' h => by obtain ⟨r, μ', -, rfl, -⟩ := h; rfl)
theorem Kl.kp {G : Gm} {K : Int64 → Mm → Prop} {μ : Mm} {ls st : List Value} : Kp (Kl G K) (G, μ) ls st := Or.inl (fun v w' h => by obtain ⟨r, μ', -, rfl, -⟩ := h; rfl)
theorem Kv.kp {G : Gm} {K : Mm → Prop} {μ : Mm} {ls st : List Value} : Kp (Kv G K) (G, μ) ls st := Or.inl (fun v w' h => by obtain ⟨μ', -, rfl, -⟩ := h; rfl)
section JS
variable {mi mj : MI} {d : Nat} {lim : Nat × Nat} {sc : Nat × (Nat → Int32)} {K : Option Value → Wd → Prop} {cs : Nat × Nat} {pc nx idx n : Nat} {ls st As : List Value} {G : Gm} {μ : Mm}
theorem Si_of {K : Int32 → Mm → Prop} (hy : plainName mi.1.cls = true) (hlen : (enA As).length ≤ mi.2.2.1) (hls : enL mi.2.2.1 As = ls) (k : J mi d (0, 0) s0 (Ki G K) (0, 0) 0 ls [] (G, μ)) : Si mi d As G μ K := C_of_J hy hlen hls k
theorem Sl_of {K : Int64 → Mm → Prop} (hy : plainName mi.1.cls = true) (hlen : (enA As).length ≤ mi.2.2.1) (hls : enL mi.2.2.1 As = ls) (k : J mi d (0, 0) s0 (Kl G K) (0, 0) 0 ls [] (G, μ)) : Sl mi d As G μ K := C_of_J hy hlen hls k
theorem Sv_of {K : Mm → Prop} (hy : plainName mi.1.cls = true) (hlen : (enA As).length ≤ mi.2.2.1) (hls : enL mi.2.2.1 As = ls) (k : J mi d (0, 0) s0 (Kv G K) (0, 0) 0 ls [] (G, μ)) : Sv mi d As G μ K := C_of_J hy hlen hls k
def Ri (mi : MI) (pc : Nat) (t : FieldType) : Prop := decode mi.2.1 pc = .ok (.ireturn, 1) ∧ mi.2.2.2 = some t
theorem Ji_ret {K : Int32 → Mm → Prop} {x : Int32} (h : Ri mi pc .int) (k : K x μ) : J mi d (0, 0) sc (Ki G K) (0, 0) pc ls [.int x] (G, μ) := J_iret h.1 h.2 rfl (Nat.le_refl _) (Nat.le_refl _) ⟨x, μ, rfl, rfl, k⟩
theorem Jz_ret {K : Int32 → Mm → Prop} {x : Int32} (h : Ri mi pc .boolean) (hx : x = 0 ∨ x = 1) (k : K x μ) : J mi d (0, 0) sc (Ki G K) (0, 0) pc ls [.int x] (G, μ) := J_iret h.1 h.2 (by rcases hx with rfl | rfl <;> rfl) (Nat.le_refl _) (Nat.le_refl _) ⟨x, μ, rfl, rfl, k⟩
theorem Jl_ret {K : Int64 → Mm → Prop} {x : Int64} (h : decode mi.2.1 pc = .ok (.lreturn, 1) ∧ mi.2.2.2 = some .long) (k : K x μ) : J mi d (0, 0) sc (Kl G K) (0, 0) pc ls [.long x] (G, μ) := J_lret h.1 h.2 (Nat.le_refl _) (Nat.le_refl _) ⟨x, μ, rfl, rfl, k⟩
theorem Jv_ret {K : Mm → Prop} (h : decode mi.2.1 pc = .ok (.return_, 1) ∧ mi.2.2.2 = none) (k : K μ) : J mi d (0, 0) sc (Kv G K) (0, 0) pc ls [] (G, μ) := J_vret h.1 h.2 (Nat.le_refl _) (Nat.le_refl _) ⟨μ, rfl, rfl, k⟩
end JS
end
section
section JT
variable {mi mj : MI} {d : Nat} {lim : Nat × Nat} {sc : Nat × (Nat → Int32)} {K : Option Value → Wd → Prop} {cs : Nat × Nat} {pc nx idx n : Nat} {st : List Value} {w : Wd}
theorem J_ist0 {a0 : Value} {r : List Value} {x : Int32} (h : Dc mi pc (.istore_n 0) 1 nx) (hn : 0 < mi.2.2.1) (k : J mi d lim sc K cs nx (.int x :: r) st w) : J mi d lim sc K cs pc (a0 :: r) (.int x :: st) w := J_istore_n (k := 0) (i := 0) h hn rfl (fun _ _ => Or.inl rfl) k
theorem J_ist1 {a0 a1 : Value} {r : List Value} {x : Int32} (h : Dc mi pc (.istore_n 1) 1 nx) (hn : 1 < mi.2.2.1) (hc : a0.category = 1) (k : J mi d lim sc K cs nx (a0 :: .int x :: r) st w) : J mi d lim sc K cs pc (a0 :: a1 :: r) (.int x :: st) w := J_istore_n (k := 1) (i := 1) h hn rfl (by intro u hu; cases hu; exact Or.inr hc) k
theorem J_ist2 {a0 a1 a2 : Value} {r : List Value} {x : Int32} (h : Dc mi pc (.istore_n 2) 1 nx) (hn : 2 < mi.2.2.1) (hc : a1.category = 1) (k : J mi d lim sc K cs nx (a0 :: a1 :: .int x :: r) st w) : J mi d lim sc K cs pc (a0 :: a1 :: a2 :: r) (.int x :: st) w := J_istore_n (k := 2) (i := 2) h hn rfl (by intro u hu; cases hu; exact Or.inr hc) k
theorem J_ist3 {a0 a1 a2 a3 : Value} {r : List Value} {x : Int32} (h : Dc mi pc (.istore_n 3) 1 nx) (hn : 3 < mi.2.2.1) (hc : a2.category = 1) (k : J mi d lim sc K cs nx (a0 :: a1 :: a2 :: .int x :: r) st w) : J mi d lim sc K cs pc (a0 :: a1 :: a2 :: a3 :: r) (.int x :: st) w := J_istore_n (k := 3) (i := 3) h hn rfl (by intro u hu; cases hu; exact Or.inr hc) k
theorem J_ist4 {a0 a1 a2 a3 a4 : Value} {r : List Value} {x : Int32} (h : Dc mi pc (.istore 4) 2 nx) (hn : 4 < mi.2.2.1) (hc : a3.category = 1) (k : J mi d lim sc K cs nx (a0 :: a1 :: a2 :: a3 :: .int x :: r) st w) : J mi d lim sc K cs pc (a0 :: a1 :: a2 :: a3 :: a4 :: r) (.int x :: st) w := J_istore (i := 4) h hn (by intro u hu; cases hu; exact Or.inr hc) k
theorem J_ist5 {a0 a1 a2 a3 a4 a5 : Value} {r : List Value} {x : Int32} (h : Dc mi pc (.istore 5) 2 nx) (hn : 5 < mi.2.2.1) (hc : a4.category = 1) (k : J mi d lim sc K cs nx (a0 :: a1 :: a2 :: a3 :: a4 :: .int x :: r) st w) : J mi d lim sc K cs pc (a0 :: a1 :: a2 :: a3 :: a4 :: a5 :: r) (.int x :: st) w := J_istore (i := 5) h hn (by intro u hu; cases hu; exact Or.inr hc) k
theorem J_ist6 {a0 a1 a2 a3 a4 a5 a6 : Value} {r : List Value} {x : Int32} (h : Dc mi pc (.istore 6) 2 nx) (hn : 6 < mi.2.2.1) (hc : a5.category = 1) (k : J mi d lim sc K cs nx (a0 :: a1 :: a2 :: a3 :: a4 :: a5 :: .int x :: r) st w) : J mi d lim sc K cs pc (a0 :: a1 :: a2 :: a3 :: a4 :: a5 :: a6 :: r) (.int x :: st) w := J_istore (i := 6) h hn (by intro u hu; cases hu; exact Or.inr hc) k
theorem J_ist7 {a0 a1 a2 a3 a4 a5 a6 a7 : Value} {r : List Value} {x : Int32} (h : Dc mi pc (.istore 7) 2 nx) (hn : 7 < mi.2.2.1) (hc : a6.category = 1) (k : J mi d lim sc K cs nx (a0 :: a1 :: a2 :: a3 :: a4 :: a5 :: a6 :: .int x :: r) st w) : J mi d lim sc K cs pc (a0 :: a1 :: a2 :: a3 :: a4 :: a5 :: a6 :: a7 :: r) (.int x :: st) w := J_istore (i := 7) h hn (by intro u hu; cases hu; exact Or.inr hc) k
theorem J_ist8 {a0 a1 a2 a3 a4 a5 a6 a7 a8 : Value} {r : List Value} {x : Int32} (h : Dc mi pc (.istore 8) 2 nx) (hn : 8 < mi.2.2.1) (hc : a7.category = 1) (k : J mi d lim sc K cs nx (a0 :: a1 :: a2 :: a3 :: a4 :: a5 :: a6 :: a7 :: .int x :: r) st w) : J mi d lim sc K cs pc (a0 :: a1 :: a2 :: a3 :: a4 :: a5 :: a6 :: a7 :: a8 :: r) (.int x :: st) w := J_istore (i := 8) h hn (by intro u hu; cases hu; exact Or.inr hc) k
theorem J_ist9 {a0 a1 a2 a3 a4 a5 a6 a7 a8 a9 : Value} {r : List Value} {x : Int32} (h : Dc mi pc (.istore 9) 2 nx) (hn : 9 < mi.2.2.1) (hc : a8.category = 1) (k : J mi d lim sc K cs nx (a0 :: a1 :: a2 :: a3 :: a4 :: a5 :: a6 :: a7 :: a8 :: .int x :: r) st w) : J mi d lim sc K cs pc (a0 :: a1 :: a2 :: a3 :: a4 :: a5 :: a6 :: a7 :: a8 :: a9 :: r) (.int x :: st) w := J_istore (i := 9) h hn (by intro u hu; cases hu; exact Or.inr hc) k
theorem J_ast0 {a0 : Value} {r : List Value} {x : Nat} (h : Dc mi pc (.astore_n 0) 1 nx) (hn : 0 < mi.2.2.1) (k : J mi d lim sc K cs nx (.ref x :: r) st w) : J mi d lim sc K cs pc (a0 :: r) (.ref x :: st) w := J_astore_n (k := 0) (i := 0) h hn rfl (fun _ _ => Or.inl rfl) k
theorem J_ast1 {a0 a1 : Value} {r : List Value} {x : Nat} (h : Dc mi pc (.astore_n 1) 1 nx) (hn : 1 < mi.2.2.1) (hc : a0.category = 1) (k : J mi d lim sc K cs nx (a0 :: .ref x :: r) st w) : J mi d lim sc K cs pc (a0 :: a1 :: r) (.ref x :: st) w := J_astore_n (k := 1) (i := 1) h hn rfl (by intro u hu; cases hu; exact Or.inr hc) k
theorem J_ast2 {a0 a1 a2 : Value} {r : List Value} {x : Nat} (h : Dc mi pc (.astore_n 2) 1 nx) (hn : 2 < mi.2.2.1) (hc : a1.category = 1) (k : J mi d lim sc K cs nx (a0 :: a1 :: .ref x :: r) st w) : J mi d lim sc K cs pc (a0 :: a1 :: a2 :: r) (.ref x :: st) w := J_astore_n (k := 2) (i := 2) h hn rfl (by intro u hu; cases hu; exact Or.inr hc) k
theorem J_ast3 {a0 a1 a2 a3 : Value} {r : List Value} {x : Nat} (h : Dc mi pc (.astore_n 3) 1 nx) (hn : 3 < mi.2.2.1) (hc : a2.category = 1) (k : J mi d lim sc K cs nx (a0 :: a1 :: a2 :: .ref x :: r) st w) : J mi d lim sc K cs pc (a0 :: a1 :: a2 :: a3 :: r) (.ref x :: st) w := J_astore_n (k := 3) (i := 3) h hn rfl (by intro u hu; cases hu; exact Or.inr hc) k
theorem J_ast4 {a0 a1 a2 a3 a4 : Value} {r : List Value} {x : Nat} (h : Dc mi pc (.astore 4) 2 nx) (hn : 4 < mi.2.2.1) (hc : a3.category = 1) (k : J mi d lim sc K cs nx (a0 :: a1 :: a2 :: a3 :: .ref x :: r) st w) : J mi d lim sc K cs pc (a0 :: a1 :: a2 :: a3 :: a4 :: r) (.ref x :: st) w := J_astore (i := 4) h hn (by intro u hu; cases hu; exact Or.inr hc) k
theorem J_ast5 {a0 a1 a2 a3 a4 a5 : Value} {r : List Value} {x : Nat} (h : Dc mi pc (.astore 5) 2 nx) (hn : 5 < mi.2.2.1) (hc : a4.category = 1) (k : J mi d lim sc K cs nx (a0 :: a1 :: a2 :: a3 :: a4 :: .ref x :: r) st w) : J mi d lim sc K cs pc (a0 :: a1 :: a2 :: a3 :: a4 :: a5 :: r) (.ref x :: st) w := J_astore (i := 5) h hn (by intro u hu; cases hu; exact Or.inr hc) k
theorem J_ast6 {a0 a1 a2 a3 a4 a5 a6 : Value} {r : List Value} {x : Nat} (h : Dc mi pc (.astore 6) 2 nx) (hn : 6 < mi.2.2.1) (hc : a5.category = 1) (k : J mi d lim sc K cs nx (a0 :: a1 :: a2 :: a3 :: a4 :: a5 :: .ref x :: r) st w) : J mi d lim sc K cs pc (a0 :: a1 :: a2 :: a3 :: a4 :: a5 :: a6 :: r) (.ref x :: st) w := J_astore (i := 6) h hn (by intro u hu; cases hu; exact Or.inr hc) k
theorem J_ast7 {a0 a1 a2 a3 a4 a5 a6 a7 : Value} {r : List Value} {x : Nat} (h : Dc mi pc (.astore 7) 2 nx) (hn : 7 < mi.2.2.1) (hc : a6.category = 1) (k : J mi d lim sc K cs nx (a0 :: a1 :: a2 :: a3 :: a4 :: a5 :: a6 :: .ref x :: r) st w) : J mi d lim sc K cs pc (a0 :: a1 :: a2 :: a3 :: a4 :: a5 :: a6 :: a7 :: r) (.ref x :: st) w := J_astore (i := 7) h hn (by intro u hu; cases hu; exact Or.inr hc) k
theorem J_ast8 {a0 a1 a2 a3 a4 a5 a6 a7 a8 : Value} {r : List Value} {x : Nat} (h : Dc mi pc (.astore 8) 2 nx) (hn : 8 < mi.2.2.1) (hc : a7.category = 1) (k : J mi d lim sc K cs nx (a0 :: a1 :: a2 :: a3 :: a4 :: a5 :: a6 :: a7 :: .ref x :: r) st w) : J mi d lim sc K cs pc (a0 :: a1 :: a2 :: a3 :: a4 :: a5 :: a6 :: a7 :: a8 :: r) (.ref x :: st) w := J_astore (i := 8) h hn (by intro u hu; cases hu; exact Or.inr hc) k
theorem J_ast9 {a0 a1 a2 a3 a4 a5 a6 a7 a8 a9 : Value} {r : List Value} {x : Nat} (h : Dc mi pc (.astore 9) 2 nx) (hn : 9 < mi.2.2.1) (hc : a8.category = 1) (k : J mi d lim sc K cs nx (a0 :: a1 :: a2 :: a3 :: a4 :: a5 :: a6 :: a7 :: a8 :: .ref x :: r) st w) : J mi d lim sc K cs pc (a0 :: a1 :: a2 :: a3 :: a4 :: a5 :: a6 :: a7 :: a8 :: a9 :: r) (.ref x :: st) w := J_astore (i := 9) h hn (by intro u hu; cases hu; exact Or.inr hc) k
theorem J_lst0 {a0 a1 : Value} {r : List Value} {x : Int64} (h : Dc mi pc (.lstore_n 0) 1 nx) (hn : 0 + 1 < mi.2.2.1) (k : J mi d lim sc K cs nx (.long x :: .null :: r) st w) : J mi d lim sc K cs pc (a0 :: a1 :: r) (.long x :: st) w := J_lstore_n (k := 0) (i := 0) h hn rfl (fun _ _ => Or.inl rfl) k
theorem J_lst1 {a0 a1 a2 : Value} {r : List Value} {x : Int64} (h : Dc mi pc (.lstore_n 1) 1 nx) (hn : 1 + 1 < mi.2.2.1) (hc : a0.category = 1) (k : J mi d lim sc K cs nx (a0 :: .long x :: .null :: r) st w) : J mi d lim sc K cs pc (a0 :: a1 :: a2 :: r) (.long x :: st) w := J_lstore_n (k := 1) (i := 1) h hn rfl (by intro u hu; cases hu; exact Or.inr hc) k
theorem J_lst2 {a0 a1 a2 a3 : Value} {r : List Value} {x : Int64} (h : Dc mi pc (.lstore_n 2) 1 nx) (hn : 2 + 1 < mi.2.2.1) (hc : a1.category = 1) (k : J mi d lim sc K cs nx (a0 :: a1 :: .long x :: .null :: r) st w) : J mi d lim sc K cs pc (a0 :: a1 :: a2 :: a3 :: r) (.long x :: st) w := J_lstore_n (k := 2) (i := 2) h hn rfl (by intro u hu; cases hu; exact Or.inr hc) k
theorem J_lst3 {a0 a1 a2 a3 a4 : Value} {r : List Value} {x : Int64} (h : Dc mi pc (.lstore_n 3) 1 nx) (hn : 3 + 1 < mi.2.2.1) (hc : a2.category = 1) (k : J mi d lim sc K cs nx (a0 :: a1 :: a2 :: .long x :: .null :: r) st w) : J mi d lim sc K cs pc (a0 :: a1 :: a2 :: a3 :: a4 :: r) (.long x :: st) w := J_lstore_n (k := 3) (i := 3) h hn rfl (by intro u hu; cases hu; exact Or.inr hc) k
theorem J_lst4 {a0 a1 a2 a3 a4 a5 : Value} {r : List Value} {x : Int64} (h : Dc mi pc (.lstore 4) 2 nx) (hn : 4 + 1 < mi.2.2.1) (hc : a3.category = 1) (k : J mi d lim sc K cs nx (a0 :: a1 :: a2 :: a3 :: .long x :: .null :: r) st w) : J mi d lim sc K cs pc (a0 :: a1 :: a2 :: a3 :: a4 :: a5 :: r) (.long x :: st) w := J_lstore (i := 4) h hn (by intro u hu; cases hu; exact Or.inr hc) k
theorem J_lst5 {a0 a1 a2 a3 a4 a5 a6 : Value} {r : List Value} {x : Int64} (h : Dc mi pc (.lstore 5) 2 nx) (hn : 5 + 1 < mi.2.2.1) (hc : a4.category = 1) (k : J mi d lim sc K cs nx (a0 :: a1 :: a2 :: a3 :: a4 :: .long x :: .null :: r) st w) : J mi d lim sc K cs pc (a0 :: a1 :: a2 :: a3 :: a4 :: a5 :: a6 :: r) (.long x :: st) w := J_lstore (i := 5) h hn (by intro u hu; cases hu; exact Or.inr hc) k
theorem J_lst6 {a0 a1 a2 a3 a4 a5 a6 a7 : Value} {r : List Value} {x : Int64} (h : Dc mi pc (.lstore 6) 2 nx) (hn : 6 + 1 < mi.2.2.1) (hc : a5.category = 1) (k : J mi d lim sc K cs nx (a0 :: a1 :: a2 :: a3 :: a4 :: a5 :: .long x :: .null :: r) st w) : J mi d lim sc K cs pc (a0 :: a1 :: a2 :: a3 :: a4 :: a5 :: a6 :: a7 :: r) (.long x :: st) w := J_lstore (i := 6) h hn (by intro u hu; cases hu; exact Or.inr hc) k
theorem J_lst7 {a0 a1 a2 a3 a4 a5 a6 a7 a8 : Value} {r : List Value} {x : Int64} (h : Dc mi pc (.lstore 7) 2 nx) (hn : 7 + 1 < mi.2.2.1) (hc : a6.category = 1) (k : J mi d lim sc K cs nx (a0 :: a1 :: a2 :: a3 :: a4 :: a5 :: a6 :: .long x :: .null :: r) st w) : J mi d lim sc K cs pc (a0 :: a1 :: a2 :: a3 :: a4 :: a5 :: a6 :: a7 :: a8 :: r) (.long x :: st) w := J_lstore (i := 7) h hn (by intro u hu; cases hu; exact Or.inr hc) k
theorem J_lst8 {a0 a1 a2 a3 a4 a5 a6 a7 a8 a9 : Value} {r : List Value} {x : Int64} (h : Dc mi pc (.lstore 8) 2 nx) (hn : 8 + 1 < mi.2.2.1) (hc : a7.category = 1) (k : J mi d lim sc K cs nx (a0 :: a1 :: a2 :: a3 :: a4 :: a5 :: a6 :: a7 :: .long x :: .null :: r) st w) : J mi d lim sc K cs pc (a0 :: a1 :: a2 :: a3 :: a4 :: a5 :: a6 :: a7 :: a8 :: a9 :: r) (.long x :: st) w := J_lstore (i := 8) h hn (by intro u hu; cases hu; exact Or.inr hc) k
theorem J_inc0 {r : List Value} {x v : Int32} {n : Int} (h : Dc mi pc (.iinc 0 n) 3 nx) (hn : 0 < mi.2.2.1) (hv : x + Int32.ofInt n = v) (k : J mi d lim sc K cs nx (.int v :: r) st w) : J mi d lim sc K cs pc (.int x :: r) st w := J_iinc (i := 0) h hn rfl hv (fun _ _ => Or.inl rfl) k
theorem J_inc1 {a0 : Value} {r : List Value} {x v : Int32} {n : Int} (h : Dc mi pc (.iinc 1 n) 3 nx) (hn : 1 < mi.2.2.1) (hv : x + Int32.ofInt n = v) (hc : a0.category = 1) (k : J mi d lim sc K cs nx (a0 :: .int v :: r) st w) : J mi d lim sc K cs pc (a0 :: .int x :: r) st w := J_iinc (i := 1) h hn rfl hv (by intro u hu; cases hu; exact Or.inr hc) k
theorem J_inc2 {a0 a1 : Value} {r : List Value} {x v : Int32} {n : Int} (h : Dc mi pc (.iinc 2 n) 3 nx) (hn : 2 < mi.2.2.1) (hv : x + Int32.ofInt n = v) (hc : a1.category = 1) (k : J mi d lim sc K cs nx (a0 :: a1 :: .int v :: r) st w) : J mi d lim sc K cs pc (a0 :: a1 :: .int x :: r) st w := J_iinc (i := 2) h hn rfl hv (by intro u hu; cases hu; exact Or.inr hc) k
theorem J_inc3 {a0 a1 a2 : Value} {r : List Value} {x v : Int32} {n : Int} (h : Dc mi pc (.iinc 3 n) 3 nx) (hn : 3 < mi.2.2.1) (hv : x + Int32.ofInt n = v) (hc : a2.category = 1) (k : J mi d lim sc K cs nx (a0 :: a1 :: a2 :: .int v :: r) st w) : J mi d lim sc K cs pc (a0 :: a1 :: a2 :: .int x :: r) st w := J_iinc (i := 3) h hn rfl hv (by intro u hu; cases hu; exact Or.inr hc) k
theorem J_inc4 {a0 a1 a2 a3 : Value} {r : List Value} {x v : Int32} {n : Int} (h : Dc mi pc (.iinc 4 n) 3 nx) (hn : 4 < mi.2.2.1) (hv : x + Int32.ofInt n = v) (hc : a3.category = 1) (k : J mi d lim sc K cs nx (a0 :: a1 :: a2 :: a3 :: .int v :: r) st w) : J mi d lim sc K cs pc (a0 :: a1 :: a2 :: a3 :: .int x :: r) st w := J_iinc (i := 4) h hn rfl hv (by intro u hu; cases hu; exact Or.inr hc) k
theorem J_inc5 {a0 a1 a2 a3 a4 : Value} {r : List Value} {x v : Int32} {n : Int} (h : Dc mi pc (.iinc 5 n) 3 nx) (hn : 5 < mi.2.2.1) (hv : x + Int32.ofInt n = v) (hc : a4.category = 1) (k : J mi d lim sc K cs nx (a0 :: a1 :: a2 :: a3 :: a4 :: .int v :: r) st w) : J mi d lim sc K cs pc (a0 :: a1 :: a2 :: a3 :: a4 :: .int x :: r) st w := J_iinc (i := 5) h hn rfl hv (by intro u hu; cases hu; exact Or.inr hc) k
theorem J_inc6 {a0 a1 a2 a3 a4 a5 : Value} {r : List Value} {x v : Int32} {n : Int} (h : Dc mi pc (.iinc 6 n) 3 nx) (hn : 6 < mi.2.2.1) (hv : x + Int32.ofInt n = v) (hc : a5.category = 1) (k : J mi d lim sc K cs nx (a0 :: a1 :: a2 :: a3 :: a4 :: a5 :: .int v :: r) st w) : J mi d lim sc K cs pc (a0 :: a1 :: a2 :: a3 :: a4 :: a5 :: .int x :: r) st w := J_iinc (i := 6) h hn rfl hv (by intro u hu; cases hu; exact Or.inr hc) k
theorem J_inc7 {a0 a1 a2 a3 a4 a5 a6 : Value} {r : List Value} {x v : Int32} {n : Int} (h : Dc mi pc (.iinc 7 n) 3 nx) (hn : 7 < mi.2.2.1) (hv : x + Int32.ofInt n = v) (hc : a6.category = 1) (k : J mi d lim sc K cs nx (a0 :: a1 :: a2 :: a3 :: a4 :: a5 :: a6 :: .int v :: r) st w) : J mi d lim sc K cs pc (a0 :: a1 :: a2 :: a3 :: a4 :: a5 :: a6 :: .int x :: r) st w := J_iinc (i := 7) h hn rfl hv (by intro u hu; cases hu; exact Or.inr hc) k
theorem J_inc8 {a0 a1 a2 a3 a4 a5 a6 a7 : Value} {r : List Value} {x v : Int32} {n : Int} (h : Dc mi pc (.iinc 8 n) 3 nx) (hn : 8 < mi.2.2.1) (hv : x + Int32.ofInt n = v) (hc : a7.category = 1) (k : J mi d lim sc K cs nx (a0 :: a1 :: a2 :: a3 :: a4 :: a5 :: a6 :: a7 :: .int v :: r) st w) : J mi d lim sc K cs pc (a0 :: a1 :: a2 :: a3 :: a4 :: a5 :: a6 :: a7 :: .int x :: r) st w := J_iinc (i := 8) h hn rfl hv (by intro u hu; cases hu; exact Or.inr hc) k
theorem J_inc9 {a0 a1 a2 a3 a4 a5 a6 a7 a8 : Value} {r : List Value} {x v : Int32} {n : Int} (h : Dc mi pc (.iinc 9 n) 3 nx) (hn : 9 < mi.2.2.1) (hv : x + Int32.ofInt n = v) (hc : a8.category = 1) (k : J mi d lim sc K cs nx (a0 :: a1 :: a2 :: a3 :: a4 :: a5 :: a6 :: a7 :: a8 :: .int v :: r) st w) : J mi d lim sc K cs pc (a0 :: a1 :: a2 :: a3 :: a4 :: a5 :: a6 :: a7 :: a8 :: .int x :: r) st w := J_iinc (i := 9) h hn rfl hv (by intro u hu; cases hu; exact Or.inr hc) k
variable {ls : List Value}
theorem nI_inc (k : Nat) : nI k + Int32.ofInt 1 = nI (k + 1) := nI_1 k
theorem nI_dec (k : Nat) : nI (k + 1) + Int32.ofInt (-1) = nI k := pk_m1 k
theorem J_iadd_n {a b : Nat} (h : Dc mi pc .iadd 1 nx) (k : J mi d lim sc K cs nx ls (.int (nI (a + b)) :: st) w) : J mi d lim sc K cs pc ls (.int (nI b) :: .int (nI a) :: st) w := J_iadd h (by rw [nI_add]; exact k)
theorem J_imul_n {a b : Nat} (h : Dc mi pc .imul 1 nx) (k : J mi d lim sc K cs nx ls (.int (nI (a * b)) :: st) w) : J mi d lim sc K cs pc ls (.int (nI b) :: .int (nI a) :: st) w := J_imul h (by rw [pk_mul]; exact k)
theorem J_isub_n {a b : Nat} (h : Dc mi pc .isub 1 nx) (hle : b ≤ a) (k : J mi d lim sc K cs nx ls (.int (nI (a - b)) :: st) w) : J mi d lim sc K cs pc ls (.int (nI b) :: .int (nI a) :: st) w := J_isub h (by rw [pk_sub hle]; exact k)
theorem J_icmp_eq_n {a b tgt : Nat} (h : Br mi pc (.if_icmp .eq) tgt nx) (ha : a < 2147483648) (hb : b < 2147483648) (kt : a = b → J mi d lim sc K cs tgt ls st w) (kf : a ≠ b → J mi d lim sc K cs nx ls st w) : J mi d lim sc K cs pc ls (.int (nI b) :: .int (nI a) :: st) w := J_icmp_eq h (fun q => kt ((nI_eq ha hb).mp q)) (fun q => kf (fun z => q ((nI_eq ha hb).mpr z)))
theorem J_icmp_ne_n {a b tgt : Nat} (h : Br mi pc (.if_icmp .ne) tgt nx) (ha : a < 2147483648) (hb : b < 2147483648) (kt : a ≠ b → J mi d lim sc K cs tgt ls st w) (kf : a = b → J mi d lim sc K cs nx ls st w) : J mi d lim sc K cs pc ls (.int (nI b) :: .int (nI a) :: st) w := J_icmp_ne h (fun q => kt (fun z => q ((nI_eq ha hb).mpr z))) (fun q => kf ((nI_eq ha hb).mp q))
theorem J_icmp_lt_n {a b tgt : Nat} (h : Br mi pc (.if_icmp .lt) tgt nx) (ha : a < 2147483648) (hb : b < 2147483648) (kt : a < b → J mi d lim sc K cs tgt ls st w) (kf : b ≤ a → J mi d lim sc K cs nx ls st w) : J mi d lim sc K cs pc ls (.int (nI b) :: .int (nI a) :: st) w := J_icmp_lt h (fun q => kt ((nI_ltI ha hb).mp q)) (fun q => kf (Nat.not_lt.mp fun z => q ((nI_ltI ha hb).mpr z)))
theorem J_icmp_ge_n {a b tgt : Nat} (h : Br mi pc (.if_icmp .ge) tgt nx) (ha : a < 2147483648) (hb : b < 2147483648) (kt : b ≤ a → J mi d lim sc K cs tgt ls st w) (kf : a < b → J mi d lim sc K cs nx ls st w) : J mi d lim sc K cs pc ls (.int (nI b) :: .int (nI a) :: st) w := J_icmp_ge h (fun q => kt ((nI_leI hb ha).mp q)) (fun q => kf (Nat.not_le.mp fun z => q ((nI_leI hb ha).mpr z)))
theorem J_icmp_gt_n {a b tgt : Nat} (h : Br mi pc (.if_icmp .gt) tgt nx) (ha : a < 2147483648) (hb : b < 2147483648) (kt : b < a → J mi d lim sc K cs tgt ls st w) (kf : a ≤ b → J mi d lim sc K cs nx ls st w) : J mi d lim sc K cs pc ls (.int (nI b) :: .int (nI a) :: st) w := J_icmp_gt h (fun q => kt ((nI_ltI hb ha).mp q)) (fun q => kf (Nat.not_lt.mp fun z => q ((nI_ltI hb ha).mpr z)))
theorem J_icmp_le_n {a b tgt : Nat} (h : Br mi pc (.if_icmp .le) tgt nx) (ha : a < 2147483648) (hb : b < 2147483648) (kt : a ≤ b → J mi d lim sc K cs tgt ls st w) (kf : b < a → J mi d lim sc K cs nx ls st w) : J mi d lim sc K cs pc ls (.int (nI b) :: .int (nI a) :: st) w := J_icmp_le h (fun q => kt ((nI_leI ha hb).mp q)) (fun q => kf (Nat.not_le.mp fun z => q ((nI_leI ha hb).mpr z)))
theorem J_if_eq_n {a tgt : Nat} (h : Br mi pc (.ifCond .eq) tgt nx) (ha : a < 2147483648) (kt : a = 0 → J mi d lim sc K cs tgt ls st w) (kf : a ≠ 0 → J mi d lim sc K cs nx ls st w) : J mi d lim sc K cs pc ls (.int (nI a) :: st) w := J_if_eq h (fun q => kt ((nI_eq (b := 0) ha (by decide)).mp q)) (fun q => kf (fun z => q ((nI_eq (b := 0) ha (by decide)).mpr z)))
theorem J_if_ne_n {a tgt : Nat} (h : Br mi pc (.ifCond .ne) tgt nx) (ha : a < 2147483648) (kt : a ≠ 0 → J mi d lim sc K cs tgt ls st w) (kf : a = 0 → J mi d lim sc K cs nx ls st w) : J mi d lim sc K cs pc ls (.int (nI a) :: st) w := J_if_ne h (fun q => kt (fun z => q ((nI_eq (b := 0) ha (by decide)).mpr z))) (fun q => kf ((nI_eq (b := 0) ha (by decide)).mp q))
theorem J_if_gt_n {a tgt : Nat} (h : Br mi pc (.ifCond .gt) tgt nx) (ha : a < 2147483648) (kt : 0 < a → J mi d lim sc K cs tgt ls st w) (kf : a = 0 → J mi d lim sc K cs nx ls st w) : J mi d lim sc K cs pc ls (.int (nI a) :: st) w := J_if_gt h (fun q => kt ((nI_ltI (a := 0) (by decide) ha).mp q)) (fun q => kf (Nat.eq_zero_of_not_pos fun z => q ((nI_ltI (a := 0) (by decide) ha).mpr z)))
theorem J_if_le_n {a tgt : Nat} (h : Br mi pc (.ifCond .le) tgt nx) (ha : a < 2147483648) (kt : a = 0 → J mi d lim sc K cs tgt ls st w) (kf : 0 < a → J mi d lim sc K cs nx ls st w) : J mi d lim sc K cs pc ls (.int (nI a) :: st) w := J_if_le h (fun q => kt (Nat.le_zero.mp ((nI_leI (b := 0) ha (by decide)).mp q))) (fun q => kf (Nat.pos_of_ne_zero fun z => q (by rw [z]; decide)))
theorem J_if_lt_n {a tgt : Nat} (h : Br mi pc (.ifCond .lt) tgt nx) (ha : a < 2147483648) (kf : J mi d lim sc K cs nx ls st w) : J mi d lim sc K cs pc ls (.int (nI a) :: st) w := J_if_lt h (fun q => absurd q (nI_pos ha)) (fun _ => kf)
theorem J_if_ge_n {a tgt : Nat} (h : Br mi pc (.ifCond .ge) tgt nx) (ha : a < 2147483648) (kt : J mi d lim sc K cs tgt ls st w) : J mi d lim sc K cs pc ls (.int (nI a) :: st) w := J_if_ge h (fun _ => kt) (fun q => absurd (nI_pos' ha) q)
theorem J_lif_eq {x y : Int64} {tgt pc1 : Nat} (h0 : Dc mi pc .lcmp 1 pc1) (h : Br mi pc1 (.ifCond .eq) tgt nx) (kt : x = y → J mi d lim sc K cs tgt ls st w) (kf : ¬ x = y → J mi d lim sc K cs nx ls st w) : J mi d lim sc K cs pc ls (.long y :: .long x :: st) w := J_lcmp h0 (J_if_eq h (fun q => kt ((lg_cmp_eq x y).mp q)) (fun q => kf (fun z => q ((lg_cmp_eq x y).mpr z))))
theorem J_lif_ne {x y : Int64} {tgt pc1 : Nat} (h0 : Dc mi pc .lcmp 1 pc1) (h : Br mi pc1 (.ifCond .ne) tgt nx) (kt : ¬ x = y → J mi d lim sc K cs tgt ls st w) (kf : x = y → J mi d lim sc K cs nx ls st w) : J mi d lim sc K cs pc ls (.long y :: .long x :: st) w := J_lcmp h0 (J_if_ne h (fun q => kt (fun z => q ((lg_cmp_eq x y).mpr z))) (fun q => kf ((lg_cmp_eq x y).mp q)))
theorem J_lif_lt {x y : Int64} {tgt pc1 : Nat} (h0 : Dc mi pc .lcmp 1 pc1) (h : Br mi pc1 (.ifCond .lt) tgt nx) (kt : x < y → J mi d lim sc K cs tgt ls st w) (kf : ¬ x < y → J mi d lim sc K cs nx ls st w) : J mi d lim sc K cs pc ls (.long y :: .long x :: st) w := J_lcmp h0 (J_if_lt h (fun q => kt ((lg_cmp_lt x y).mp q)) (fun q => kf (fun z => q ((lg_cmp_lt x y).mpr z))))
theorem J_lif_ge {x y : Int64} {tgt pc1 : Nat} (h0 : Dc mi pc .lcmp 1 pc1) (h : Br mi pc1 (.ifCond .ge) tgt nx) (kt : y ≤ x → J mi d lim sc K cs tgt ls st w) (kf : ¬ y ≤ x → J mi d lim sc K cs nx ls st w) : J mi d lim sc K cs pc ls (.long y :: .long x :: st) w := J_lcmp h0 (J_if_ge h (fun q => kt ((lg_cmp_ge x y).mp q)) (fun q => kf (fun z => q ((lg_cmp_ge x y).mpr z))))
theorem J_lif_gt {x y : Int64} {tgt pc1 : Nat} (h0 : Dc mi pc .lcmp 1 pc1) (h : Br mi pc1 (.ifCond .gt) tgt nx) (kt : y < x → J mi d lim sc K cs tgt ls st w) (kf : ¬ y < x → J mi d lim sc K cs nx ls st w) : J mi d lim sc K cs pc ls (.long y :: .long x :: st) w := J_lcmp h0 (J_if_gt h (fun q => kt ((lg_cmp_gt x y).mp q)) (fun q => kf (fun z => q ((lg_cmp_gt x y).mpr z))))
theorem J_lif_le {x y : Int64} {tgt pc1 : Nat} (h0 : Dc mi pc .lcmp 1 pc1) (h : Br mi pc1 (.ifCond .le) tgt nx) (kt : x ≤ y → J mi d lim sc K cs tgt ls st w) (kf : ¬ x ≤ y → J mi d lim sc K cs nx ls st w) : J mi d lim sc K cs pc ls (.long y :: .long x :: st) w := J_lcmp h0 (J_if_le h (fun q => kt ((lg_cmp_le x y).mp q)) (fun q => kf (fun z => q ((lg_cmp_le x y).mpr z))))
variable {G : Gm} {μ : Mm}
theorem J_vi0 {a ci : Nat} {K1 : Int32 → Mm → Prop} (h : Dc mi pc (.invokevirtual idx) 3 nx) (hl : CV mi.1.cls idx mj 0 ci) (ho : IsO G a ci) (hM : Si mj d [.ref a] G μ K1) (hst : (st.map fun v => v.category).sum ≤ 8) (kk : ∀ r μ', K1 r μ' → J mi (d + 1) (0, 0) sc K (0, 0) nx ls (.int r :: st) (G, μ')) : J mi (d + 1) (0, 0) sc K (0, 0) pc ls (.ref a :: st) (G, μ) := J_callV (As := []) (w := (G, μ)) h hl ho rfl hM (Nat.le_refl _) (Nat.le_refl _) hst Ki.kp (fun v w' hq => by obtain ⟨r, μ', rfl, rfl, hr⟩ := hq; exact kk r μ' hr)
theorem J_vi1 {a ci : Nat} {x1 : Value} {K1 : Int32 → Mm → Prop} (h : Dc mi pc (.invokevirtual idx) 3 nx) (hl : CV mi.1.cls idx mj 1 ci) (ho : IsO G a ci) (hM : Si mj d [.ref a, x1] G μ K1) (hst : (st.map fun v => v.category).sum ≤ 8) (kk : ∀ r μ', K1 r μ' → J mi (d + 1) (0, 0) sc K (0, 0) nx ls (.int r :: st) (G, μ')) : J mi (d + 1) (0, 0) sc K (0, 0) pc ls (x1 :: .ref a :: st) (G, μ) := J_callV (As := [x1]) (w := (G, μ)) h hl ho rfl hM (Nat.le_refl _) (Nat.le_refl _) hst Ki.kp (fun v w' hq => by obtain ⟨r, μ', rfl, rfl, hr⟩ := hq; exact kk r μ' hr)
theorem J_si1 {x1 : Value} {K1 : Int32 → Mm → Prop} (h : Dc mi pc (.invokestatic idx) 3 nx) (hl : CS mi.1.cls idx mj 1) (hM : Si mj d [x1] G μ K1) (hst : (st.map fun v => v.category).sum ≤ 8) (kk : ∀ r μ', K1 r μ' → J mi (d + 1) (0, 0) sc K (0, 0) nx ls (.int r :: st) (G, μ')) : J mi (d + 1) (0, 0) sc K (0, 0) pc ls (x1 :: st) (G, μ) := J_callS (As := [x1]) (w := (G, μ)) h hl rfl hM (Nat.le_refl _) (Nat.le_refl _) hst Ki.kp (fun v w' hq => by obtain ⟨r, μ', rfl, rfl, hr⟩ := hq; exact kk r μ' hr)
theorem J_vi2 {a ci : Nat} {x1 x2 : Value} {K1 : Int32 → Mm → Prop} (h : Dc mi pc (.invokevirtual idx) 3 nx) (hl : CV mi.1.cls idx mj 2 ci) (ho : IsO G a ci) (hM : Si mj d [.ref a, x1, x2] G μ K1) (hst : (st.map fun v => v.category).sum ≤ 8) (kk : ∀ r μ', K1 r μ' → J mi (d + 1) (0, 0) sc K (0, 0) nx ls (.int r :: st) (G, μ')) : J mi (d + 1) (0, 0) sc K (0, 0) pc ls (x2 :: x1 :: .ref a :: st) (G, μ) := J_callV (As := [x1, x2]) (w := (G, μ)) h hl ho rfl hM (Nat.le_refl _) (Nat.le_refl _) hst Ki.kp (fun v w' hq => by obtain ⟨r, μ', rfl, rfl, hr⟩ := hq; exact kk r μ' hr)
theorem J_si2 {x1 x2 : Value} {K1 : Int32 → Mm → Prop} (h : Dc mi pc (.invokestatic idx) 3 nx) (hl : CS mi.1.cls idx mj 2) (hM : Si mj d [x1, x2] G μ K1) (hst : (st.map fun v => v.category).sum ≤ 8) (kk : ∀ r μ', K1 r μ' → J mi (d + 1) (0, 0) sc K (0, 0) nx ls (.int r :: st) (G, μ')) : J mi (d + 1) (0, 0) sc K (0, 0) pc ls (x2 :: x1 :: st) (G, μ) := J_callS (As := [x1, x2]) (w := (G, μ)) h hl rfl hM (Nat.le_refl _) (Nat.le_refl _) hst Ki.kp (fun v w' hq => by obtain ⟨r, μ', rfl, rfl, hr⟩ := hq; exact kk r μ' hr)
theorem J_vi3 {a ci : Nat} {x1 x2 x3 : Value} {K1 : Int32 → Mm → Prop} (h : Dc mi pc (.invokevirtual idx) 3 nx) (hl : CV mi.1.cls idx mj 3 ci) (ho : IsO G a ci) (hM : Si mj d [.ref a, x1, x2, x3] G μ K1) (hst : (st.map fun v => v.category).sum ≤ 8) (kk : ∀ r μ', K1 r μ' → J mi (d + 1) (0, 0) sc K (0, 0) nx ls (.int r :: st) (G, μ')) : J mi (d + 1) (0, 0) sc K (0, 0) pc ls (x3 :: x2 :: x1 :: .ref a :: st) (G, μ) := J_callV (As := [x1, x2, x3]) (w := (G, μ)) h hl ho rfl hM (Nat.le_refl _) (Nat.le_refl _) hst Ki.kp (fun v w' hq => by obtain ⟨r, μ', rfl, rfl, hr⟩ := hq; exact kk r μ' hr)
theorem J_si3 {x1 x2 x3 : Value} {K1 : Int32 → Mm → Prop} (h : Dc mi pc (.invokestatic idx) 3 nx) (hl : CS mi.1.cls idx mj 3) (hM : Si mj d [x1, x2, x3] G μ K1) (hst : (st.map fun v => v.category).sum ≤ 8) (kk : ∀ r μ', K1 r μ' → J mi (d + 1) (0, 0) sc K (0, 0) nx ls (.int r :: st) (G, μ')) : J mi (d + 1) (0, 0) sc K (0, 0) pc ls (x3 :: x2 :: x1 :: st) (G, μ) := J_callS (As := [x1, x2, x3]) (w := (G, μ)) h hl rfl hM (Nat.le_refl _) (Nat.le_refl _) hst Ki.kp (fun v w' hq => by obtain ⟨r, μ', rfl, rfl, hr⟩ := hq; exact kk r μ' hr)
theorem J_vi4 {a ci : Nat} {x1 x2 x3 x4 : Value} {K1 : Int32 → Mm → Prop} (h : Dc mi pc (.invokevirtual idx) 3 nx) (hl : CV mi.1.cls idx mj 4 ci) (ho : IsO G a ci) (hM : Si mj d [.ref a, x1, x2, x3, x4] G μ K1) (hst : (st.map fun v => v.category).sum ≤ 8) (kk : ∀ r μ', K1 r μ' → J mi (d + 1) (0, 0) sc K (0, 0) nx ls (.int r :: st) (G, μ')) : J mi (d + 1) (0, 0) sc K (0, 0) pc ls (x4 :: x3 :: x2 :: x1 :: .ref a :: st) (G, μ) := J_callV (As := [x1, x2, x3, x4]) (w := (G, μ)) h hl ho rfl hM (Nat.le_refl _) (Nat.le_refl _) hst Ki.kp (fun v w' hq => by obtain ⟨r, μ', rfl, rfl, hr⟩ := hq; exact kk r μ' hr)
theorem J_si4 {x1 x2 x3 x4 : Value} {K1 : Int32 → Mm → Prop} (h : Dc mi pc (.invokestatic idx) 3 nx) (hl : CS mi.1.cls idx mj 4) (hM : Si mj d [x1, x2, x3, x4] G μ K1) (hst : (st.map fun v => v.category).sum ≤ 8) (kk : ∀ r μ', K1 r μ' → J mi (d + 1) (0, 0) sc K (0, 0) nx ls (.int r :: st) (G, μ')) : J mi (d + 1) (0, 0) sc K (0, 0) pc ls (x4 :: x3 :: x2 :: x1 :: st) (G, μ) := J_callS (As := [x1, x2, x3, x4]) (w := (G, μ)) h hl rfl hM (Nat.le_refl _) (Nat.le_refl _) hst Ki.kp (fun v w' hq => by obtain ⟨r, μ', rfl, rfl, hr⟩ := hq; exact kk r μ' hr)
theorem J_vi5 {a ci : Nat} {x1 x2 x3 x4 x5 : Value} {K1 : Int32 → Mm → Prop} (h : Dc mi pc (.invokevirtual idx) 3 nx) (hl : CV mi.1.cls idx mj 5 ci) (ho : IsO G a ci) (hM : Si mj d [.ref a, x1, x2, x3, x4, x5] G μ K1) (hst : (st.map fun v => v.category).sum ≤ 8) (kk : ∀ r μ', K1 r μ' → J mi (d + 1) (0, 0) sc K (0, 0) nx ls (.int r :: st) (G, μ')) : J mi (d + 1) (0, 0) sc K (0, 0) pc ls (x5 :: x4 :: x3 :: x2 :: x1 :: .ref a :: st) (G, μ) := J_callV (As := [x1, x2, x3, x4, x5]) (w := (G, μ)) h hl ho rfl hM (Nat.le_refl _) (Nat.le_refl _) hst Ki.kp (fun v w' hq => by obtain ⟨r, μ', rfl, rfl, hr⟩ := hq; exact kk r μ' hr)
theorem J_si5 {x1 x2 x3 x4 x5 : Value} {K1 : Int32 → Mm → Prop} (h : Dc mi pc (.invokestatic idx) 3 nx) (hl : CS mi.1.cls idx mj 5) (hM : Si mj d [x1, x2, x3, x4, x5] G μ K1) (hst : (st.map fun v => v.category).sum ≤ 8) (kk : ∀ r μ', K1 r μ' → J mi (d + 1) (0, 0) sc K (0, 0) nx ls (.int r :: st) (G, μ')) : J mi (d + 1) (0, 0) sc K (0, 0) pc ls (x5 :: x4 :: x3 :: x2 :: x1 :: st) (G, μ) := J_callS (As := [x1, x2, x3, x4, x5]) (w := (G, μ)) h hl rfl hM (Nat.le_refl _) (Nat.le_refl _) hst Ki.kp (fun v w' hq => by obtain ⟨r, μ', rfl, rfl, hr⟩ := hq; exact kk r μ' hr)
theorem J_vi6 {a ci : Nat} {x1 x2 x3 x4 x5 x6 : Value} {K1 : Int32 → Mm → Prop} (h : Dc mi pc (.invokevirtual idx) 3 nx) (hl : CV mi.1.cls idx mj 6 ci) (ho : IsO G a ci) (hM : Si mj d [.ref a, x1, x2, x3, x4, x5, x6] G μ K1) (hst : (st.map fun v => v.category).sum ≤ 8) (kk : ∀ r μ', K1 r μ' → J mi (d + 1) (0, 0) sc K (0, 0) nx ls (.int r :: st) (G, μ')) : J mi (d + 1) (0, 0) sc K (0, 0) pc ls (x6 :: x5 :: x4 :: x3 :: x2 :: x1 :: .ref a :: st) (G, μ) := J_callV (As := [x1, x2, x3, x4, x5, x6]) (w := (G, μ)) h hl ho rfl hM (Nat.le_refl _) (Nat.le_refl _) hst Ki.kp (fun v w' hq => by obtain ⟨r, μ', rfl, rfl, hr⟩ := hq; exact kk r μ' hr)
theorem J_si6 {x1 x2 x3 x4 x5 x6 : Value} {K1 : Int32 → Mm → Prop} (h : Dc mi pc (.invokestatic idx) 3 nx) (hl : CS mi.1.cls idx mj 6) (hM : Si mj d [x1, x2, x3, x4, x5, x6] G μ K1) (hst : (st.map fun v => v.category).sum ≤ 8) (kk : ∀ r μ', K1 r μ' → J mi (d + 1) (0, 0) sc K (0, 0) nx ls (.int r :: st) (G, μ')) : J mi (d + 1) (0, 0) sc K (0, 0) pc ls (x6 :: x5 :: x4 :: x3 :: x2 :: x1 :: st) (G, μ) := J_callS (As := [x1, x2, x3, x4, x5, x6]) (w := (G, μ)) h hl rfl hM (Nat.le_refl _) (Nat.le_refl _) hst Ki.kp (fun v w' hq => by obtain ⟨r, μ', rfl, rfl, hr⟩ := hq; exact kk r μ' hr)
theorem J_vl0 {a ci : Nat} {K1 : Int64 → Mm → Prop} (h : Dc mi pc (.invokevirtual idx) 3 nx) (hl : CV mi.1.cls idx mj 0 ci) (ho : IsO G a ci) (hM : Sl mj d [.ref a] G μ K1) (hst : (st.map fun v => v.category).sum ≤ 8) (kk : ∀ r μ', K1 r μ' → J mi (d + 1) (0, 0) sc K (0, 0) nx ls (.long r :: st) (G, μ')) : J mi (d + 1) (0, 0) sc K (0, 0) pc ls (.ref a :: st) (G, μ) := J_callV (As := []) (w := (G, μ)) h hl ho rfl hM (Nat.le_refl _) (Nat.le_refl _) hst Kl.kp (fun v w' hq => by obtain ⟨r, μ', rfl, rfl, hr⟩ := hq; exact kk r μ' hr)
theorem J_vl1 {a ci : Nat} {x1 : Value} {K1 : Int64 → Mm → Prop} (h : Dc mi pc (.invokevirtual idx) 3 nx) (hl : CV mi.1.cls idx mj 1 ci) (ho : IsO G a ci) (hM : Sl mj d [.ref a, x1] G μ K1) (hst : (st.map fun v => v.category).sum ≤ 8) (kk : ∀ r μ', K1 r μ' → J mi (d + 1) (0, 0) sc K (0, 0) nx ls (.long r :: st) (G, μ')) : J mi (d + 1) (0, 0) sc K (0, 0) pc ls (x1 :: .ref a :: st) (G, μ) := J_callV (As := [x1]) (w := (G, μ)) h hl ho rfl hM (Nat.le_refl _) (Nat.le_refl _) hst Kl.kp (fun v w' hq => by obtain ⟨r, μ', rfl, rfl, hr⟩ := hq; exact kk r μ' hr)
theorem J_sl1 {x1 : Value} {K1 : Int64 → Mm → Prop} (h : Dc mi pc (.invokestatic idx) 3 nx) (hl : CS mi.1.cls idx mj 1) (hM : Sl mj d [x1] G μ K1) (hst : (st.map fun v => v.category).sum ≤ 8) (kk : ∀ r μ', K1 r μ' → J mi (d + 1) (0, 0) sc K (0, 0) nx ls (.long r :: st) (G, μ')) : J mi (d + 1) (0, 0) sc K (0, 0) pc ls (x1 :: st) (G, μ) := J_callS (As := [x1]) (w := (G, μ)) h hl rfl hM (Nat.le_refl _) (Nat.le_refl _) hst Kl.kp (fun v w' hq => by obtain ⟨r, μ', rfl, rfl, hr⟩ := hq; exact kk r μ' hr)
theorem J_vl2 {a ci : Nat} {x1 x2 : Value} {K1 : Int64 → Mm → Prop} (h : Dc mi pc (.invokevirtual idx) 3 nx) (hl : CV mi.1.cls idx mj 2 ci) (ho : IsO G a ci) (hM : Sl mj d [.ref a, x1, x2] G μ K1) (hst : (st.map fun v => v.category).sum ≤ 8) (kk : ∀ r μ', K1 r μ' → J mi (d + 1) (0, 0) sc K (0, 0) nx ls (.long r :: st) (G, μ')) : J mi (d + 1) (0, 0) sc K (0, 0) pc ls (x2 :: x1 :: .ref a :: st) (G, μ) := J_callV (As := [x1, x2]) (w := (G, μ)) h hl ho rfl hM (Nat.le_refl _) (Nat.le_refl _) hst Kl.kp (fun v w' hq => by obtain ⟨r, μ', rfl, rfl, hr⟩ := hq; exact kk r μ' hr)
theorem J_sl2 {x1 x2 : Value} {K1 : Int64 → Mm → Prop} (h : Dc mi pc (.invokestatic idx) 3 nx) (hl : CS mi.1.cls idx mj 2) (hM : Sl mj d [x1, x2] G μ K1) (hst : (st.map fun v => v.category).sum ≤ 8) (kk : ∀ r μ', K1 r μ' → J mi (d + 1) (0, 0) sc K (0, 0) nx ls (.long r :: st) (G, μ')) : J mi (d + 1) (0, 0) sc K (0, 0) pc ls (x2 :: x1 :: st) (G, μ) := J_callS (As := [x1, x2]) (w := (G, μ)) h hl rfl hM (Nat.le_refl _) (Nat.le_refl _) hst Kl.kp (fun v w' hq => by obtain ⟨r, μ', rfl, rfl, hr⟩ := hq; exact kk r μ' hr)
theorem J_vl3 {a ci : Nat} {x1 x2 x3 : Value} {K1 : Int64 → Mm → Prop} (h : Dc mi pc (.invokevirtual idx) 3 nx) (hl : CV mi.1.cls idx mj 3 ci) (ho : IsO G a ci) (hM : Sl mj d [.ref a, x1, x2, x3] G μ K1) (hst : (st.map fun v => v.category).sum ≤ 8) (kk : ∀ r μ', K1 r μ' → J mi (d + 1) (0, 0) sc K (0, 0) nx ls (.long r :: st) (G, μ')) : J mi (d + 1) (0, 0) sc K (0, 0) pc ls (x3 :: x2 :: x1 :: .ref a :: st) (G, μ) := J_callV (As := [x1, x2, x3]) (w := (G, μ)) h hl ho rfl hM (Nat.le_refl _) (Nat.le_refl _) hst Kl.kp (fun v w' hq => by obtain ⟨r, μ', rfl, rfl, hr⟩ := hq; exact kk r μ' hr)
theorem J_sl3 {x1 x2 x3 : Value} {K1 : Int64 → Mm → Prop} (h : Dc mi pc (.invokestatic idx) 3 nx) (hl : CS mi.1.cls idx mj 3) (hM : Sl mj d [x1, x2, x3] G μ K1) (hst : (st.map fun v => v.category).sum ≤ 8) (kk : ∀ r μ', K1 r μ' → J mi (d + 1) (0, 0) sc K (0, 0) nx ls (.long r :: st) (G, μ')) : J mi (d + 1) (0, 0) sc K (0, 0) pc ls (x3 :: x2 :: x1 :: st) (G, μ) := J_callS (As := [x1, x2, x3]) (w := (G, μ)) h hl rfl hM (Nat.le_refl _) (Nat.le_refl _) hst Kl.kp (fun v w' hq => by obtain ⟨r, μ', rfl, rfl, hr⟩ := hq; exact kk r μ' hr)
theorem J_vl4 {a ci : Nat} {x1 x2 x3 x4 : Value} {K1 : Int64 → Mm → Prop} (h : Dc mi pc (.invokevirtual idx) 3 nx) (hl : CV mi.1.cls idx mj 4 ci) (ho : IsO G a ci) (hM : Sl mj d [.ref a, x1, x2, x3, x4] G μ K1) (hst : (st.map fun v => v.category).sum ≤ 8) (kk : ∀ r μ', K1 r μ' → J mi (d + 1) (0, 0) sc K (0, 0) nx ls (.long r :: st) (G, μ')) : J mi (d + 1) (0, 0) sc K (0, 0) pc ls (x4 :: x3 :: x2 :: x1 :: .ref a :: st) (G, μ) := J_callV (As := [x1, x2, x3, x4]) (w := (G, μ)) h hl ho rfl hM (Nat.le_refl _) (Nat.le_refl _) hst Kl.kp (fun v w' hq => by obtain ⟨r, μ', rfl, rfl, hr⟩ := hq; exact kk r μ' hr)
theorem J_sl4 {x1 x2 x3 x4 : Value} {K1 : Int64 → Mm → Prop} (h : Dc mi pc (.invokestatic idx) 3 nx) (hl : CS mi.1.cls idx mj 4) (hM : Sl mj d [x1, x2, x3, x4] G μ K1) (hst : (st.map fun v => v.category).sum ≤ 8) (kk : ∀ r μ', K1 r μ' → J mi (d + 1) (0, 0) sc K (0, 0) nx ls (.long r :: st) (G, μ')) : J mi (d + 1) (0, 0) sc K (0, 0) pc ls (x4 :: x3 :: x2 :: x1 :: st) (G, μ) := J_callS (As := [x1, x2, x3, x4]) (w := (G, μ)) h hl rfl hM (Nat.le_refl _) (Nat.le_refl _) hst Kl.kp (fun v w' hq => by obtain ⟨r, μ', rfl, rfl, hr⟩ := hq; exact kk r μ' hr)
theorem J_vl5 {a ci : Nat} {x1 x2 x3 x4 x5 : Value} {K1 : Int64 → Mm → Prop} (h : Dc mi pc (.invokevirtual idx) 3 nx) (hl : CV mi.1.cls idx mj 5 ci) (ho : IsO G a ci) (hM : Sl mj d [.ref a, x1, x2, x3, x4, x5] G μ K1) (hst : (st.map fun v => v.category).sum ≤ 8) (kk : ∀ r μ', K1 r μ' → J mi (d + 1) (0, 0) sc K (0, 0) nx ls (.long r :: st) (G, μ')) : J mi (d + 1) (0, 0) sc K (0, 0) pc ls (x5 :: x4 :: x3 :: x2 :: x1 :: .ref a :: st) (G, μ) := J_callV (As := [x1, x2, x3, x4, x5]) (w := (G, μ)) h hl ho rfl hM (Nat.le_refl _) (Nat.le_refl _) hst Kl.kp (fun v w' hq => by obtain ⟨r, μ', rfl, rfl, hr⟩ := hq; exact kk r μ' hr)
theorem J_sl5 {x1 x2 x3 x4 x5 : Value} {K1 : Int64 → Mm → Prop} (h : Dc mi pc (.invokestatic idx) 3 nx) (hl : CS mi.1.cls idx mj 5) (hM : Sl mj d [x1, x2, x3, x4, x5] G μ K1) (hst : (st.map fun v => v.category).sum ≤ 8) (kk : ∀ r μ', K1 r μ' → J mi (d + 1) (0, 0) sc K (0, 0) nx ls (.long r :: st) (G, μ')) : J mi (d + 1) (0, 0) sc K (0, 0) pc ls (x5 :: x4 :: x3 :: x2 :: x1 :: st) (G, μ) := J_callS (As := [x1, x2, x3, x4, x5]) (w := (G, μ)) h hl rfl hM (Nat.le_refl _) (Nat.le_refl _) hst Kl.kp (fun v w' hq => by obtain ⟨r, μ', rfl, rfl, hr⟩ := hq; exact kk r μ' hr)
theorem J_vl6 {a ci : Nat} {x1 x2 x3 x4 x5 x6 : Value} {K1 : Int64 → Mm → Prop} (h : Dc mi pc (.invokevirtual idx) 3 nx) (hl : CV mi.1.cls idx mj 6 ci) (ho : IsO G a ci) (hM : Sl mj d [.ref a, x1, x2, x3, x4, x5, x6] G μ K1) (hst : (st.map fun v => v.category).sum ≤ 8) (kk : ∀ r μ', K1 r μ' → J mi (d + 1) (0, 0) sc K (0, 0) nx ls (.long r :: st) (G, μ')) : J mi (d + 1) (0, 0) sc K (0, 0) pc ls (x6 :: x5 :: x4 :: x3 :: x2 :: x1 :: .ref a :: st) (G, μ) := J_callV (As := [x1, x2, x3, x4, x5, x6]) (w := (G, μ)) h hl ho rfl hM (Nat.le_refl _) (Nat.le_refl _) hst Kl.kp (fun v w' hq => by obtain ⟨r, μ', rfl, rfl, hr⟩ := hq; exact kk r μ' hr)
theorem J_sl6 {x1 x2 x3 x4 x5 x6 : Value} {K1 : Int64 → Mm → Prop} (h : Dc mi pc (.invokestatic idx) 3 nx) (hl : CS mi.1.cls idx mj 6) (hM : Sl mj d [x1, x2, x3, x4, x5, x6] G μ K1) (hst : (st.map fun v => v.category).sum ≤ 8) (kk : ∀ r μ', K1 r μ' → J mi (d + 1) (0, 0) sc K (0, 0) nx ls (.long r :: st) (G, μ')) : J mi (d + 1) (0, 0) sc K (0, 0) pc ls (x6 :: x5 :: x4 :: x3 :: x2 :: x1 :: st) (G, μ) := J_callS (As := [x1, x2, x3, x4, x5, x6]) (w := (G, μ)) h hl rfl hM (Nat.le_refl _) (Nat.le_refl _) hst Kl.kp (fun v w' hq => by obtain ⟨r, μ', rfl, rfl, hr⟩ := hq; exact kk r μ' hr)
theorem J_vv0 {a ci : Nat} {K1 : Mm → Prop} (h : Dc mi pc (.invokevirtual idx) 3 nx) (hl : CV mi.1.cls idx mj 0 ci) (ho : IsO G a ci) (hM : Sv mj d [.ref a] G μ K1) (hst : (st.map fun v => v.category).sum ≤ 8) (kk : ∀ μ', K1 μ' → J mi (d + 1) (0, 0) sc K (0, 0) nx ls st (G, μ')) : J mi (d + 1) (0, 0) sc K (0, 0) pc ls (.ref a :: st) (G, μ) := J_callV (As := []) (w := (G, μ)) h hl ho rfl hM (Nat.le_refl _) (Nat.le_refl _) hst Kv.kp (fun v w' hq => by obtain ⟨μ', rfl, rfl, hr⟩ := hq; exact kk μ' hr)
theorem J_vv1 {a ci : Nat} {x1 : Value} {K1 : Mm → Prop} (h : Dc mi pc (.invokevirtual idx) 3 nx) (hl : CV mi.1.cls idx mj 1 ci) (ho : IsO G a ci) (hM : Sv mj d [.ref a, x1] G μ K1) (hst : (st.map fun v => v.category).sum ≤ 8) (kk : ∀ μ', K1 μ' → J mi (d + 1) (0, 0) sc K (0, 0) nx ls st (G, μ')) : J mi (d + 1) (0, 0) sc K (0, 0) pc ls (x1 :: .ref a :: st) (G, μ) := J_callV (As := [x1]) (w := (G, μ)) h hl ho rfl hM (Nat.le_refl _) (Nat.le_refl _) hst Kv.kp (fun v w' hq => by obtain ⟨μ', rfl, rfl, hr⟩ := hq; exact kk μ' hr)
theorem J_sv1 {x1 : Value} {K1 : Mm → Prop} (h : Dc mi pc (.invokestatic idx) 3 nx) (hl : CS mi.1.cls idx mj 1) (hM : Sv mj d [x1] G μ K1) (hst : (st.map fun v => v.category).sum ≤ 8) (kk : ∀ μ', K1 μ' → J mi (d + 1) (0, 0) sc K (0, 0) nx ls st (G, μ')) : J mi (d + 1) (0, 0) sc K (0, 0) pc ls (x1 :: st) (G, μ) := J_callS (As := [x1]) (w := (G, μ)) h hl rfl hM (Nat.le_refl _) (Nat.le_refl _) hst Kv.kp (fun v w' hq => by obtain ⟨μ', rfl, rfl, hr⟩ := hq; exact kk μ' hr)
theorem J_vv2 {a ci : Nat} {x1 x2 : Value} {K1 : Mm → Prop} (h : Dc mi pc (.invokevirtual idx) 3 nx) (hl : CV mi.1.cls idx mj 2 ci) (ho : IsO G a ci) (hM : Sv mj d [.ref a, x1, x2] G μ K1) (hst : (st.map fun v => v.category).sum ≤ 8) (kk : ∀ μ', K1 μ' → J mi (d + 1) (0, 0) sc K (0, 0) nx ls st (G, μ')) : J mi (d + 1) (0, 0) sc K (0, 0) pc ls (x2 :: x1 :: .ref a :: st) (G, μ) := J_callV (As := [x1, x2]) (w := (G, μ)) h hl ho rfl hM (Nat.le_refl _) (Nat.le_refl _) hst Kv.kp (fun v w' hq => by obtain ⟨μ', rfl, rfl, hr⟩ := hq; exact kk μ' hr)
theorem J_sv2 {x1 x2 : Value} {K1 : Mm → Prop} (h : Dc mi pc (.invokestatic idx) 3 nx) (hl : CS mi.1.cls idx mj 2) (hM : Sv mj d [x1, x2] G μ K1) (hst : (st.map fun v => v.category).sum ≤ 8) (kk : ∀ μ', K1 μ' → J mi (d + 1) (0, 0) sc K (0, 0) nx ls st (G, μ')) : J mi (d + 1) (0, 0) sc K (0, 0) pc ls (x2 :: x1 :: st) (G, μ) := J_callS (As := [x1, x2]) (w := (G, μ)) h hl rfl hM (Nat.le_refl _) (Nat.le_refl _) hst Kv.kp (fun v w' hq => by obtain ⟨μ', rfl, rfl, hr⟩ := hq; exact kk μ' hr)
theorem J_vv3 {a ci : Nat} {x1 x2 x3 : Value} {K1 : Mm → Prop} (h : Dc mi pc (.invokevirtual idx) 3 nx) (hl : CV mi.1.cls idx mj 3 ci) (ho : IsO G a ci) (hM : Sv mj d [.ref a, x1, x2, x3] G μ K1) (hst : (st.map fun v => v.category).sum ≤ 8) (kk : ∀ μ', K1 μ' → J mi (d + 1) (0, 0) sc K (0, 0) nx ls st (G, μ')) : J mi (d + 1) (0, 0) sc K (0, 0) pc ls (x3 :: x2 :: x1 :: .ref a :: st) (G, μ) := J_callV (As := [x1, x2, x3]) (w := (G, μ)) h hl ho rfl hM (Nat.le_refl _) (Nat.le_refl _) hst Kv.kp (fun v w' hq => by obtain ⟨μ', rfl, rfl, hr⟩ := hq; exact kk μ' hr)
theorem J_sv3 {x1 x2 x3 : Value} {K1 : Mm → Prop} (h : Dc mi pc (.invokestatic idx) 3 nx) (hl : CS mi.1.cls idx mj 3) (hM : Sv mj d [x1, x2, x3] G μ K1) (hst : (st.map fun v => v.category).sum ≤ 8) (kk : ∀ μ', K1 μ' → J mi (d + 1) (0, 0) sc K (0, 0) nx ls st (G, μ')) : J mi (d + 1) (0, 0) sc K (0, 0) pc ls (x3 :: x2 :: x1 :: st) (G, μ) := J_callS (As := [x1, x2, x3]) (w := (G, μ)) h hl rfl hM (Nat.le_refl _) (Nat.le_refl _) hst Kv.kp (fun v w' hq => by obtain ⟨μ', rfl, rfl, hr⟩ := hq; exact kk μ' hr)
theorem J_vv4 {a ci : Nat} {x1 x2 x3 x4 : Value} {K1 : Mm → Prop} (h : Dc mi pc (.invokevirtual idx) 3 nx) (hl : CV mi.1.cls idx mj 4 ci) (ho : IsO G a ci) (hM : Sv mj d [.ref a, x1, x2, x3, x4] G μ K1) (hst : (st.map fun v => v.category).sum ≤ 8) (kk : ∀ μ', K1 μ' → J mi (d + 1) (0, 0) sc K (0, 0) nx ls st (G, μ')) : J mi (d + 1) (0, 0) sc K (0, 0) pc ls (x4 :: x3 :: x2 :: x1 :: .ref a :: st) (G, μ) := J_callV (As := [x1, x2, x3, x4]) (w := (G, μ)) h hl ho rfl hM (Nat.le_refl _) (Nat.le_refl _) hst Kv.kp (fun v w' hq => by obtain ⟨μ', rfl, rfl, hr⟩ := hq; exact kk μ' hr)
theorem J_sv4 {x1 x2 x3 x4 : Value} {K1 : Mm → Prop} (h : Dc mi pc (.invokestatic idx) 3 nx) (hl : CS mi.1.cls idx mj 4) (hM : Sv mj d [x1, x2, x3, x4] G μ K1) (hst : (st.map fun v => v.category).sum ≤ 8) (kk : ∀ μ', K1 μ' → J mi (d + 1) (0, 0) sc K (0, 0) nx ls st (G, μ')) : J mi (d + 1) (0, 0) sc K (0, 0) pc ls (x4 :: x3 :: x2 :: x1 :: st) (G, μ) := J_callS (As := [x1, x2, x3, x4]) (w := (G, μ)) h hl rfl hM (Nat.le_refl _) (Nat.le_refl _) hst Kv.kp (fun v w' hq => by obtain ⟨μ', rfl, rfl, hr⟩ := hq; exact kk μ' hr)
theorem J_vv5 {a ci : Nat} {x1 x2 x3 x4 x5 : Value} {K1 : Mm → Prop} (h : Dc mi pc (.invokevirtual idx) 3 nx) (hl : CV mi.1.cls idx mj 5 ci) (ho : IsO G a ci) (hM : Sv mj d [.ref a, x1, x2, x3, x4, x5] G μ K1) (hst : (st.map fun v => v.category).sum ≤ 8) (kk : ∀ μ', K1 μ' → J mi (d + 1) (0, 0) sc K (0, 0) nx ls st (G, μ')) : J mi (d + 1) (0, 0) sc K (0, 0) pc ls (x5 :: x4 :: x3 :: x2 :: x1 :: .ref a :: st) (G, μ) := J_callV (As := [x1, x2, x3, x4, x5]) (w := (G, μ)) h hl ho rfl hM (Nat.le_refl _) (Nat.le_refl _) hst Kv.kp (fun v w' hq => by obtain ⟨μ', rfl, rfl, hr⟩ := hq; exact kk μ' hr)
theorem J_sv5 {x1 x2 x3 x4 x5 : Value} {K1 : Mm → Prop} (h : Dc mi pc (.invokestatic idx) 3 nx) (hl : CS mi.1.cls idx mj 5) (hM : Sv mj d [x1, x2, x3, x4, x5] G μ K1) (hst : (st.map fun v => v.category).sum ≤ 8) (kk : ∀ μ', K1 μ' → J mi (d + 1) (0, 0) sc K (0, 0) nx ls st (G, μ')) : J mi (d + 1) (0, 0) sc K (0, 0) pc ls (x5 :: x4 :: x3 :: x2 :: x1 :: st) (G, μ) := J_callS (As := [x1, x2, x3, x4, x5]) (w := (G, μ)) h hl rfl hM (Nat.le_refl _) (Nat.le_refl _) hst Kv.kp (fun v w' hq => by obtain ⟨μ', rfl, rfl, hr⟩ := hq; exact kk μ' hr)
theorem J_vv6 {a ci : Nat} {x1 x2 x3 x4 x5 x6 : Value} {K1 : Mm → Prop} (h : Dc mi pc (.invokevirtual idx) 3 nx) (hl : CV mi.1.cls idx mj 6 ci) (ho : IsO G a ci) (hM : Sv mj d [.ref a, x1, x2, x3, x4, x5, x6] G μ K1) (hst : (st.map fun v => v.category).sum ≤ 8) (kk : ∀ μ', K1 μ' → J mi (d + 1) (0, 0) sc K (0, 0) nx ls st (G, μ')) : J mi (d + 1) (0, 0) sc K (0, 0) pc ls (x6 :: x5 :: x4 :: x3 :: x2 :: x1 :: .ref a :: st) (G, μ) := J_callV (As := [x1, x2, x3, x4, x5, x6]) (w := (G, μ)) h hl ho rfl hM (Nat.le_refl _) (Nat.le_refl _) hst Kv.kp (fun v w' hq => by obtain ⟨μ', rfl, rfl, hr⟩ := hq; exact kk μ' hr)
theorem J_sv6 {x1 x2 x3 x4 x5 x6 : Value} {K1 : Mm → Prop} (h : Dc mi pc (.invokestatic idx) 3 nx) (hl : CS mi.1.cls idx mj 6) (hM : Sv mj d [x1, x2, x3, x4, x5, x6] G μ K1) (hst : (st.map fun v => v.category).sum ≤ 8) (kk : ∀ μ', K1 μ' → J mi (d + 1) (0, 0) sc K (0, 0) nx ls st (G, μ')) : J mi (d + 1) (0, 0) sc K (0, 0) pc ls (x6 :: x5 :: x4 :: x3 :: x2 :: x1 :: st) (G, μ) := J_callS (As := [x1, x2, x3, x4, x5, x6]) (w := (G, μ)) h hl rfl hM (Nat.le_refl _) (Nat.le_refl _) hst Kv.kp (fun v w' hq => by obtain ⟨μ', rfl, rfl, hr⟩ := hq; exact kk μ' hr)
theorem J_nsi2 {x1 x2 : Value} {K1 : Int32 → Mm → Prop} {host : String} (h : Dc mi pc (.invokestatic idx) 3 nx) (hl : CSN mi.1.cls idx mj 2 host) (hM : Si mj d [x1, x2] G μ K1) (hst : (st.map fun v => v.category).sum ≤ 8) (kk : ∀ r μ', K1 r μ' → J mi (d + 1) (0, 0) sc K (0, 0) nx ls (.int r :: st) (G, μ')) : J mi (d + 1) (0, 0) sc K (0, 0) pc ls (x2 :: x1 :: st) (G, μ) := J_callSN (As := [x1, x2]) (w := (G, μ)) h hl rfl hM (Nat.le_refl _) (Nat.le_refl _) hst Ki.kp (fun v w' hq => by obtain ⟨r, μ', rfl, rfl, hr⟩ := hq; exact kk r μ' hr)
end JT
end
