-- ===== PART A: goes FIRST, ahead of the names: the tables' words, and 'selects' of the private methods out of them =====
/-- a private method of a class that the tables say can be made, by its rows of tables_1 -/
def lw_okq (q : MethodName × Nat) : Prop := (q.1.cls ≠ "java/lang/invoke/MethodHandle" ∧ q.1.cls ≠ "java/lang/invoke/VarHandle") ∧ Cond.instantiable q.1.cls q.2 ∈ tables_1 ∧ Cond.privateMethod q.1 ∈ tables_1 ∧ Cond.instanceMethod q.1 ∈ tables_1
theorem lw_p0 : lw_okq (⟨"FeatherBench", "takeSigns", "(J)V"⟩, 13) := ⟨⟨by decide +kernel, by decide +kernel⟩, List.mem_of_getElem? (i := 22) (by decide +kernel), List.mem_of_getElem? (i := 543) (by decide +kernel), List.mem_of_getElem? (i := 544) (by decide +kernel)⟩
theorem lw_p1 : lw_okq (⟨"FeatherBench$Text", "takeToken", "(I)I"⟩, 8) := ⟨⟨by decide +kernel, by decide +kernel⟩, List.mem_of_getElem? (i := 66) (by decide +kernel), List.mem_of_getElem? (i := 574) (by decide +kernel), List.mem_of_getElem? (i := 575) (by decide +kernel)⟩
theorem lw_p2 : lw_okq (⟨"FeatherBench$Text", "addToken", "(III)V"⟩, 8) := ⟨⟨by decide +kernel, by decide +kernel⟩, List.mem_of_getElem? (i := 66) (by decide +kernel), List.mem_of_getElem? (i := 584) (by decide +kernel), List.mem_of_getElem? (i := 585) (by decide +kernel)⟩
theorem lw_p3 : lw_okq (⟨"FeatherBench$Text", "firstLike", "(I)I"⟩, 8) := ⟨⟨by decide +kernel, by decide +kernel⟩, List.mem_of_getElem? (i := 66) (by decide +kernel), List.mem_of_getElem? (i := 588) (by decide +kernel), List.mem_of_getElem? (i := 589) (by decide +kernel)⟩
theorem lw_p4 : lw_okq (⟨"FeatherBench$Text", "wordKind", "(II)I"⟩, 8) := ⟨⟨by decide +kernel, by decide +kernel⟩, List.mem_of_getElem? (i := 66) (by decide +kernel), List.mem_of_getElem? (i := 599) (by decide +kernel), List.mem_of_getElem? (i := 600) (by decide +kernel)⟩
theorem lw_p5 : lw_okq (⟨"FeatherBench$Text", "spells", "(IILjava/lang/String;)Z"⟩, 8) := ⟨⟨by decide +kernel, by decide +kernel⟩, List.mem_of_getElem? (i := 66) (by decide +kernel), List.mem_of_getElem? (i := 604) (by decide +kernel), List.mem_of_getElem? (i := 605) (by decide +kernel)⟩
theorem lw_p6 : lw_okq (⟨"FeatherBench$Reader", "readFunc", "()V"⟩, 4) := ⟨⟨by decide +kernel, by decide +kernel⟩, List.mem_of_getElem? (i := 269) (by decide +kernel), List.mem_of_getElem? (i := 676) (by decide +kernel), List.mem_of_getElem? (i := 677) (by decide +kernel)⟩
theorem lw_p7 : lw_okq (⟨"FeatherBench$Reader", "expect", "(I)V"⟩, 4) := ⟨⟨by decide +kernel, by decide +kernel⟩, List.mem_of_getElem? (i := 269) (by decide +kernel), List.mem_of_getElem? (i := 689) (by decide +kernel), List.mem_of_getElem? (i := 690) (by decide +kernel)⟩
theorem lw_p8 : lw_okq (⟨"FeatherBench$Reader", "took", "(I)Z"⟩, 4) := ⟨⟨by decide +kernel, by decide +kernel⟩, List.mem_of_getElem? (i := 269) (by decide +kernel), List.mem_of_getElem? (i := 706) (by decide +kernel), List.mem_of_getElem? (i := 707) (by decide +kernel)⟩
theorem lw_p9 : lw_okq (⟨"FeatherBench$Reader", "readParams", "(I)I"⟩, 4) := ⟨⟨by decide +kernel, by decide +kernel⟩, List.mem_of_getElem? (i := 269) (by decide +kernel), List.mem_of_getElem? (i := 710) (by decide +kernel), List.mem_of_getElem? (i := 711) (by decide +kernel)⟩
theorem lw_p10 : lw_okq (⟨"FeatherBench$Reader", "expectFirst", "(Z)V"⟩, 4) := ⟨⟨by decide +kernel, by decide +kernel⟩, List.mem_of_getElem? (i := 269) (by decide +kernel), List.mem_of_getElem? (i := 714) (by decide +kernel), List.mem_of_getElem? (i := 715) (by decide +kernel)⟩
theorem lw_p11 : lw_okq (⟨"FeatherBench$Reader", "readHead", "(I)V"⟩, 4) := ⟨⟨by decide +kernel, by decide +kernel⟩, List.mem_of_getElem? (i := 269) (by decide +kernel), List.mem_of_getElem? (i := 718) (by decide +kernel), List.mem_of_getElem? (i := 719) (by decide +kernel)⟩
theorem lw_p12 : lw_okq (⟨"FeatherBench$Reader", "readNamed", "(III)I"⟩, 4) := ⟨⟨by decide +kernel, by decide +kernel⟩, List.mem_of_getElem? (i := 269) (by decide +kernel), List.mem_of_getElem? (i := 722) (by decide +kernel), List.mem_of_getElem? (i := 723) (by decide +kernel)⟩
theorem lw_p13 : lw_okq (⟨"FeatherBench$Reader", "passType", "(II)V"⟩, 4) := ⟨⟨by decide +kernel, by decide +kernel⟩, List.mem_of_getElem? (i := 269) (by decide +kernel), List.mem_of_getElem? (i := 726) (by decide +kernel), List.mem_of_getElem? (i := 727) (by decide +kernel)⟩
theorem lw_p14 : lw_okq (⟨"FeatherBench$Reader", "passTypes", "(I)V"⟩, 4) := ⟨⟨by decide +kernel, by decide +kernel⟩, List.mem_of_getElem? (i := 269) (by decide +kernel), List.mem_of_getElem? (i := 730) (by decide +kernel), List.mem_of_getElem? (i := 731) (by decide +kernel)⟩
theorem lw_p15 : lw_okq (⟨"FeatherBench$Reader", "passValue", "(II)V"⟩, 4) := ⟨⟨by decide +kernel, by decide +kernel⟩, List.mem_of_getElem? (i := 269) (by decide +kernel), List.mem_of_getElem? (i := 739) (by decide +kernel), List.mem_of_getElem? (i := 740) (by decide +kernel)⟩
def lw_privs_1 : List (MethodName × Nat) := [(⟨"FeatherBench", "takeSigns", "(J)V"⟩, 13), (⟨"FeatherBench$Text", "takeToken", "(I)I"⟩, 8), (⟨"FeatherBench$Text", "addToken", "(III)V"⟩, 8), (⟨"FeatherBench$Text", "firstLike", "(I)I"⟩, 8), (⟨"FeatherBench$Text", "wordKind", "(II)I"⟩, 8), (⟨"FeatherBench$Text", "spells", "(IILjava/lang/String;)Z"⟩, 8), (⟨"FeatherBench$Reader", "readFunc", "()V"⟩, 4), (⟨"FeatherBench$Reader", "expect", "(I)V"⟩, 4), (⟨"FeatherBench$Reader", "took", "(I)Z"⟩, 4), (⟨"FeatherBench$Reader", "readParams", "(I)I"⟩, 4), (⟨"FeatherBench$Reader", "expectFirst", "(Z)V"⟩, 4), (⟨"FeatherBench$Reader", "readHead", "(I)V"⟩, 4), (⟨"FeatherBench$Reader", "readNamed", "(III)I"⟩, 4), (⟨"FeatherBench$Reader", "passType", "(II)V"⟩, 4), (⟨"FeatherBench$Reader", "passTypes", "(I)V"⟩, 4), (⟨"FeatherBench$Reader", "passValue", "(II)V"⟩, 4)]
theorem lw_r1 : ∀ q ∈ lw_privs_1, lw_okq q := List.forall_mem_cons.mpr ⟨lw_p0, List.forall_mem_cons.mpr ⟨lw_p1, List.forall_mem_cons.mpr ⟨lw_p2, List.forall_mem_cons.mpr ⟨lw_p3, List.forall_mem_cons.mpr ⟨lw_p4, List.forall_mem_cons.mpr ⟨lw_p5, List.forall_mem_cons.mpr ⟨lw_p6, List.forall_mem_cons.mpr ⟨lw_p7, List.forall_mem_cons.mpr ⟨lw_p8, List.forall_mem_cons.mpr ⟨lw_p9, List.forall_mem_cons.mpr ⟨lw_p10, List.forall_mem_cons.mpr ⟨lw_p11, List.forall_mem_cons.mpr ⟨lw_p12, List.forall_mem_cons.mpr ⟨lw_p13, List.forall_mem_cons.mpr ⟨lw_p14, List.forall_mem_cons.mpr ⟨lw_p15, fun _ h => absurd h List.not_mem_nil⟩⟩⟩⟩⟩⟩⟩⟩⟩⟩⟩⟩⟩⟩⟩⟩
theorem lw_p16 : lw_okq (⟨"FeatherBench$Reader", "passValues", "(IIII)V"⟩, 4) := ⟨⟨by decide +kernel, by decide +kernel⟩, List.mem_of_getElem? (i := 269) (by decide +kernel), List.mem_of_getElem? (i := 743) (by decide +kernel), List.mem_of_getElem? (i := 744) (by decide +kernel)⟩
theorem lw_p17 : lw_okq (⟨"FeatherBench$Reader", "passPoint", "(I)V"⟩, 4) := ⟨⟨by decide +kernel, by decide +kernel⟩, List.mem_of_getElem? (i := 269) (by decide +kernel), List.mem_of_getElem? (i := 747) (by decide +kernel), List.mem_of_getElem? (i := 748) (by decide +kernel)⟩
theorem lw_p18 : lw_okq (⟨"FeatherBench$Program", "addDecl", "(II)V"⟩, 15) := ⟨⟨by decide +kernel, by decide +kernel⟩, List.mem_of_getElem? (i := 60) (by decide +kernel), List.mem_of_getElem? (i := 756) (by decide +kernel), List.mem_of_getElem? (i := 757) (by decide +kernel)⟩
theorem lw_p19 : lw_okq (⟨"FeatherBench$Reader", "readType", "()V"⟩, 4) := ⟨⟨by decide +kernel, by decide +kernel⟩, List.mem_of_getElem? (i := 269) (by decide +kernel), List.mem_of_getElem? (i := 765) (by decide +kernel), List.mem_of_getElem? (i := 766) (by decide +kernel)⟩
theorem lw_p20 : lw_okq (⟨"FeatherBench$Told", "twiceInSlots", "(I)I"⟩, 3) := ⟨⟨by decide +kernel, by decide +kernel⟩, List.mem_of_getElem? (i := 288) (by decide +kernel), List.mem_of_getElem? (i := 791) (by decide +kernel), List.mem_of_getElem? (i := 792) (by decide +kernel)⟩
theorem lw_p21 : lw_okq (⟨"FeatherBench$Told", "isOneScope", "(II)Z"⟩, 3) := ⟨⟨by decide +kernel, by decide +kernel⟩, List.mem_of_getElem? (i := 288) (by decide +kernel), List.mem_of_getElem? (i := 803) (by decide +kernel), List.mem_of_getElem? (i := 804) (by decide +kernel)⟩
theorem lw_p22 : lw_okq (⟨"FeatherBench$Told", "isOneWord", "(II)Z"⟩, 3) := ⟨⟨by decide +kernel, by decide +kernel⟩, List.mem_of_getElem? (i := 288) (by decide +kernel), List.mem_of_getElem? (i := 807) (by decide +kernel), List.mem_of_getElem? (i := 808) (by decide +kernel)⟩
theorem lw_p23 : lw_okq (⟨"FeatherBench$Told", "twiceOfType", "(I)I"⟩, 3) := ⟨⟨by decide +kernel, by decide +kernel⟩, List.mem_of_getElem? (i := 288) (by decide +kernel), List.mem_of_getElem? (i := 814) (by decide +kernel), List.mem_of_getElem? (i := 815) (by decide +kernel)⟩
theorem lw_p24 : lw_okq (⟨"FeatherBench$Told", "twiceOfFunc", "(I)I"⟩, 3) := ⟨⟨by decide +kernel, by decide +kernel⟩, List.mem_of_getElem? (i := 288) (by decide +kernel), List.mem_of_getElem? (i := 828) (by decide +kernel), List.mem_of_getElem? (i := 829) (by decide +kernel)⟩
theorem lw_p25 : lw_okq (⟨"FeatherBench$Told", "bindFunc", "(I)V"⟩, 3) := ⟨⟨by decide +kernel, by decide +kernel⟩, List.mem_of_getElem? (i := 288) (by decide +kernel), List.mem_of_getElem? (i := 841) (by decide +kernel), List.mem_of_getElem? (i := 842) (by decide +kernel)⟩
theorem lw_p26 : lw_okq (⟨"FeatherBench$Told", "enterDecl", "(I)V"⟩, 3) := ⟨⟨by decide +kernel, by decide +kernel⟩, List.mem_of_getElem? (i := 288) (by decide +kernel), List.mem_of_getElem? (i := 856) (by decide +kernel), List.mem_of_getElem? (i := 857) (by decide +kernel)⟩
theorem lw_p27 : lw_okq (⟨"FeatherBench$Told", "tellSlot", "(I)V"⟩, 3) := ⟨⟨by decide +kernel, by decide +kernel⟩, List.mem_of_getElem? (i := 288) (by decide +kernel), List.mem_of_getElem? (i := 861) (by decide +kernel), List.mem_of_getElem? (i := 862) (by decide +kernel)⟩
theorem lw_p28 : lw_okq (⟨"FeatherBench$Told", "tell", "(II)I"⟩, 3) := ⟨⟨by decide +kernel, by decide +kernel⟩, List.mem_of_getElem? (i := 288) (by decide +kernel), List.mem_of_getElem? (i := 865) (by decide +kernel), List.mem_of_getElem? (i := 866) (by decide +kernel)⟩
theorem lw_p29 : lw_okq (⟨"FeatherBench$Told", "codeOf", "(I)I"⟩, 3) := ⟨⟨by decide +kernel, by decide +kernel⟩, List.mem_of_getElem? (i := 288) (by decide +kernel), List.mem_of_getElem? (i := 869) (by decide +kernel), List.mem_of_getElem? (i := 870) (by decide +kernel)⟩
theorem lw_p30 : lw_okq (⟨"FeatherBench$Shapes", "alike", "(II)I"⟩, 10) := ⟨⟨by decide +kernel, by decide +kernel⟩, List.mem_of_getElem? (i := 220) (by decide +kernel), List.mem_of_getElem? (i := 924) (by decide +kernel), List.mem_of_getElem? (i := 925) (by decide +kernel)⟩
theorem lw_p31 : lw_okq (⟨"FeatherBench$Told", "heldBy", "(I)I"⟩, 3) := ⟨⟨by decide +kernel, by decide +kernel⟩, List.mem_of_getElem? (i := 288) (by decide +kernel), List.mem_of_getElem? (i := 933) (by decide +kernel), List.mem_of_getElem? (i := 934) (by decide +kernel)⟩
def lw_privs_2 : List (MethodName × Nat) := [(⟨"FeatherBench$Reader", "passValues", "(IIII)V"⟩, 4), (⟨"FeatherBench$Reader", "passPoint", "(I)V"⟩, 4), (⟨"FeatherBench$Program", "addDecl", "(II)V"⟩, 15), (⟨"FeatherBench$Reader", "readType", "()V"⟩, 4), (⟨"FeatherBench$Told", "twiceInSlots", "(I)I"⟩, 3), (⟨"FeatherBench$Told", "isOneScope", "(II)Z"⟩, 3), (⟨"FeatherBench$Told", "isOneWord", "(II)Z"⟩, 3), (⟨"FeatherBench$Told", "twiceOfType", "(I)I"⟩, 3), (⟨"FeatherBench$Told", "twiceOfFunc", "(I)I"⟩, 3), (⟨"FeatherBench$Told", "bindFunc", "(I)V"⟩, 3), (⟨"FeatherBench$Told", "enterDecl", "(I)V"⟩, 3), (⟨"FeatherBench$Told", "tellSlot", "(I)V"⟩, 3), (⟨"FeatherBench$Told", "tell", "(II)I"⟩, 3), (⟨"FeatherBench$Told", "codeOf", "(I)I"⟩, 3), (⟨"FeatherBench$Shapes", "alike", "(II)I"⟩, 10), (⟨"FeatherBench$Told", "heldBy", "(I)I"⟩, 3)]
theorem lw_r2 : ∀ q ∈ lw_privs_2, lw_okq q := List.forall_mem_cons.mpr ⟨lw_p16, List.forall_mem_cons.mpr ⟨lw_p17, List.forall_mem_cons.mpr ⟨lw_p18, List.forall_mem_cons.mpr ⟨lw_p19, List.forall_mem_cons.mpr ⟨lw_p20, List.forall_mem_cons.mpr ⟨lw_p21, List.forall_mem_cons.mpr ⟨lw_p22, List.forall_mem_cons.mpr ⟨lw_p23, List.forall_mem_cons.mpr ⟨lw_p24, List.forall_mem_cons.mpr ⟨lw_p25, List.forall_mem_cons.mpr ⟨lw_p26, List.forall_mem_cons.mpr ⟨lw_p27, List.forall_mem_cons.mpr ⟨lw_p28, List.forall_mem_cons.mpr ⟨lw_p29, List.forall_mem_cons.mpr ⟨lw_p30, List.forall_mem_cons.mpr ⟨lw_p31, fun _ h => absurd h List.not_mem_nil⟩⟩⟩⟩⟩⟩⟩⟩⟩⟩⟩⟩⟩⟩⟩⟩
theorem lw_p32 : lw_okq (⟨"FeatherBench$Bodies", "enterFunc", "(I)V"⟩, 8) := ⟨⟨by decide +kernel, by decide +kernel⟩, List.mem_of_getElem? (i := 304) (by decide +kernel), List.mem_of_getElem? (i := 943) (by decide +kernel), List.mem_of_getElem? (i := 944) (by decide +kernel)⟩
theorem lw_p33 : lw_okq (⟨"FeatherBench$Bodies", "value", "(I)I"⟩, 8) := ⟨⟨by decide +kernel, by decide +kernel⟩, List.mem_of_getElem? (i := 304) (by decide +kernel), List.mem_of_getElem? (i := 951) (by decide +kernel), List.mem_of_getElem? (i := 952) (by decide +kernel)⟩
theorem lw_p34 : lw_okq (⟨"FeatherBench$Bodies", "literal", "(I)I"⟩, 8) := ⟨⟨by decide +kernel, by decide +kernel⟩, List.mem_of_getElem? (i := 304) (by decide +kernel), List.mem_of_getElem? (i := 956) (by decide +kernel), List.mem_of_getElem? (i := 957) (by decide +kernel)⟩
theorem lw_p35 : lw_okq (⟨"FeatherBench$Bodies", "parts", "(IIIIII)V"⟩, 8) := ⟨⟨by decide +kernel, by decide +kernel⟩, List.mem_of_getElem? (i := 304) (by decide +kernel), List.mem_of_getElem? (i := 968) (by decide +kernel), List.mem_of_getElem? (i := 969) (by decide +kernel)⟩
theorem lw_p36 : lw_okq (⟨"FeatherBench$Bodies", "variable", "()I"⟩, 8) := ⟨⟨by decide +kernel, by decide +kernel⟩, List.mem_of_getElem? (i := 304) (by decide +kernel), List.mem_of_getElem? (i := 976) (by decide +kernel), List.mem_of_getElem? (i := 977) (by decide +kernel)⟩
theorem lw_p37 : lw_okq (⟨"FeatherBench$Bodies", "behindPoint", "(II)I"⟩, 8) := ⟨⟨by decide +kernel, by decide +kernel⟩, List.mem_of_getElem? (i := 304) (by decide +kernel), List.mem_of_getElem? (i := 981) (by decide +kernel), List.mem_of_getElem? (i := 982) (by decide +kernel)⟩
theorem lw_p38 : lw_okq (⟨"FeatherBench$Bodies", "method", "(II)I"⟩, 8) := ⟨⟨by decide +kernel, by decide +kernel⟩, List.mem_of_getElem? (i := 304) (by decide +kernel), List.mem_of_getElem? (i := 985) (by decide +kernel), List.mem_of_getElem? (i := 986) (by decide +kernel)⟩
theorem lw_p39 : lw_okq (⟨"FeatherBench$Bodies", "fitTypes", "(IIII)V"⟩, 8) := ⟨⟨by decide +kernel, by decide +kernel⟩, List.mem_of_getElem? (i := 304) (by decide +kernel), List.mem_of_getElem? (i := 995) (by decide +kernel), List.mem_of_getElem? (i := 996) (by decide +kernel)⟩
theorem lw_p40 : lw_okq (⟨"FeatherBench$Bodies", "resultType", "(IIIII)I"⟩, 8) := ⟨⟨by decide +kernel, by decide +kernel⟩, List.mem_of_getElem? (i := 304) (by decide +kernel), List.mem_of_getElem? (i := 1000) (by decide +kernel), List.mem_of_getElem? (i := 1001) (by decide +kernel)⟩
theorem lw_p41 : lw_okq (⟨"FeatherBench$Bodies", "field", "(II)I"⟩, 8) := ⟨⟨by decide +kernel, by decide +kernel⟩, List.mem_of_getElem? (i := 304) (by decide +kernel), List.mem_of_getElem? (i := 1004) (by decide +kernel), List.mem_of_getElem? (i := 1005) (by decide +kernel)⟩
theorem lw_p42 : lw_okq (⟨"FeatherBench", "readTape", "(I)I"⟩, 13) := ⟨⟨by decide +kernel, by decide +kernel⟩, List.mem_of_getElem? (i := 22) (by decide +kernel), List.mem_of_getElem? (i := 1025) (by decide +kernel), List.mem_of_getElem? (i := 1026) (by decide +kernel)⟩
theorem lw_p43 : lw_okq (⟨"FeatherBench$Asked", "passType", "(I)I"⟩, 7) := ⟨⟨by decide +kernel, by decide +kernel⟩, List.mem_of_getElem? (i := 335) (by decide +kernel), List.mem_of_getElem? (i := 1034) (by decide +kernel), List.mem_of_getElem? (i := 1035) (by decide +kernel)⟩
theorem lw_p44 : lw_okq (⟨"FeatherBench$Asked", "countOne", "(I)V"⟩, 7) := ⟨⟨by decide +kernel, by decide +kernel⟩, List.mem_of_getElem? (i := 335) (by decide +kernel), List.mem_of_getElem? (i := 1040) (by decide +kernel), List.mem_of_getElem? (i := 1041) (by decide +kernel)⟩
theorem lw_p45 : lw_okq (⟨"FeatherBench$Machine", "step", "(I)V"⟩, 15) := ⟨⟨by decide +kernel, by decide +kernel⟩, List.mem_of_getElem? (i := 370) (by decide +kernel), List.mem_of_getElem? (i := 1066) (by decide +kernel), List.mem_of_getElem? (i := 1067) (by decide +kernel)⟩
theorem lw_p46 : lw_okq (⟨"FeatherBench$Machine", "push", "(I)V"⟩, 15) := ⟨⟨by decide +kernel, by decide +kernel⟩, List.mem_of_getElem? (i := 370) (by decide +kernel), List.mem_of_getElem? (i := 1071) (by decide +kernel), List.mem_of_getElem? (i := 1072) (by decide +kernel)⟩
theorem lw_p47 : lw_okq (⟨"FeatherBench$Machine", "putType", "(I)I"⟩, 15) := ⟨⟨by decide +kernel, by decide +kernel⟩, List.mem_of_getElem? (i := 370) (by decide +kernel), List.mem_of_getElem? (i := 1076) (by decide +kernel), List.mem_of_getElem? (i := 1077) (by decide +kernel)⟩
def lw_privs_3 : List (MethodName × Nat) := [(⟨"FeatherBench$Bodies", "enterFunc", "(I)V"⟩, 8), (⟨"FeatherBench$Bodies", "value", "(I)I"⟩, 8), (⟨"FeatherBench$Bodies", "literal", "(I)I"⟩, 8), (⟨"FeatherBench$Bodies", "parts", "(IIIIII)V"⟩, 8), (⟨"FeatherBench$Bodies", "variable", "()I"⟩, 8), (⟨"FeatherBench$Bodies", "behindPoint", "(II)I"⟩, 8), (⟨"FeatherBench$Bodies", "method", "(II)I"⟩, 8), (⟨"FeatherBench$Bodies", "fitTypes", "(IIII)V"⟩, 8), (⟨"FeatherBench$Bodies", "resultType", "(IIIII)I"⟩, 8), (⟨"FeatherBench$Bodies", "field", "(II)I"⟩, 8), (⟨"FeatherBench", "readTape", "(I)I"⟩, 13), (⟨"FeatherBench$Asked", "passType", "(I)I"⟩, 7), (⟨"FeatherBench$Asked", "countOne", "(I)V"⟩, 7), (⟨"FeatherBench$Machine", "step", "(I)V"⟩, 15), (⟨"FeatherBench$Machine", "push", "(I)V"⟩, 15), (⟨"FeatherBench$Machine", "putType", "(I)I"⟩, 15)]
theorem lw_r3 : ∀ q ∈ lw_privs_3, lw_okq q := List.forall_mem_cons.mpr ⟨lw_p32, List.forall_mem_cons.mpr ⟨lw_p33, List.forall_mem_cons.mpr ⟨lw_p34, List.forall_mem_cons.mpr ⟨lw_p35, List.forall_mem_cons.mpr ⟨lw_p36, List.forall_mem_cons.mpr ⟨lw_p37, List.forall_mem_cons.mpr ⟨lw_p38, List.forall_mem_cons.mpr ⟨lw_p39, List.forall_mem_cons.mpr ⟨lw_p40, List.forall_mem_cons.mpr ⟨lw_p41, List.forall_mem_cons.mpr ⟨lw_p42, List.forall_mem_cons.mpr ⟨lw_p43, List.forall_mem_cons.mpr ⟨lw_p44, List.forall_mem_cons.mpr ⟨lw_p45, List.forall_mem_cons.mpr ⟨lw_p46, List.forall_mem_cons.mpr ⟨lw_p47, fun _ h => absurd h List.not_mem_nil⟩⟩⟩⟩⟩⟩⟩⟩⟩⟩⟩⟩⟩⟩⟩⟩
theorem lw_p48 : lw_okq (⟨"FeatherBench$Machine", "env", "(I)LFeatherBench$Row;"⟩, 15) := ⟨⟨by decide +kernel, by decide +kernel⟩, List.mem_of_getElem? (i := 370) (by decide +kernel), List.mem_of_getElem? (i := 1080) (by decide +kernel), List.mem_of_getElem? (i := 1081) (by decide +kernel)⟩
theorem lw_p49 : lw_okq (⟨"FeatherBench$Machine", "take", "(I)Z"⟩, 15) := ⟨⟨by decide +kernel, by decide +kernel⟩, List.mem_of_getElem? (i := 370) (by decide +kernel), List.mem_of_getElem? (i := 1086) (by decide +kernel), List.mem_of_getElem? (i := 1087) (by decide +kernel)⟩
theorem lw_p50 : lw_okq (⟨"FeatherBench$Machine", "makeValue", "(I)V"⟩, 15) := ⟨⟨by decide +kernel, by decide +kernel⟩, List.mem_of_getElem? (i := 370) (by decide +kernel), List.mem_of_getElem? (i := 1090) (by decide +kernel), List.mem_of_getElem? (i := 1091) (by decide +kernel)⟩
theorem lw_p51 : lw_okq (⟨"FeatherBench$Machine", "pop", "()I"⟩, 15) := ⟨⟨by decide +kernel, by decide +kernel⟩, List.mem_of_getElem? (i := 370) (by decide +kernel), List.mem_of_getElem? (i := 1095) (by decide +kernel), List.mem_of_getElem? (i := 1096) (by decide +kernel)⟩
theorem lw_p52 : lw_okq (⟨"FeatherBench$Machine", "call", "(II)V"⟩, 15) := ⟨⟨by decide +kernel, by decide +kernel⟩, List.mem_of_getElem? (i := 370) (by decide +kernel), List.mem_of_getElem? (i := 1099) (by decide +kernel), List.mem_of_getElem? (i := 1100) (by decide +kernel)⟩
theorem lw_p53 : lw_okq (⟨"FeatherBench$Machine", "cast", "(II)V"⟩, 15) := ⟨⟨by decide +kernel, by decide +kernel⟩, List.mem_of_getElem? (i := 370) (by decide +kernel), List.mem_of_getElem? (i := 1110) (by decide +kernel), List.mem_of_getElem? (i := 1111) (by decide +kernel)⟩
theorem lw_p54 : lw_okq (⟨"FeatherBench$Machine", "leave", "()V"⟩, 15) := ⟨⟨by decide +kernel, by decide +kernel⟩, List.mem_of_getElem? (i := 370) (by decide +kernel), List.mem_of_getElem? (i := 1115) (by decide +kernel), List.mem_of_getElem? (i := 1116) (by decide +kernel)⟩
theorem lw_p55 : lw_okq (⟨"FeatherBench$Stock", "goThrough", "(I)V"⟩, 11) := ⟨⟨by decide +kernel, by decide +kernel⟩, List.mem_of_getElem? (i := 432) (by decide +kernel), List.mem_of_getElem? (i := 1136) (by decide +kernel), List.mem_of_getElem? (i := 1137) (by decide +kernel)⟩
theorem lw_p56 : lw_okq (⟨"FeatherBench$Stock", "addTypes", "(I)I"⟩, 11) := ⟨⟨by decide +kernel, by decide +kernel⟩, List.mem_of_getElem? (i := 432) (by decide +kernel), List.mem_of_getElem? (i := 1141) (by decide +kernel), List.mem_of_getElem? (i := 1142) (by decide +kernel)⟩
theorem lw_p57 : lw_okq (⟨"FeatherBench$Stock", "copy", "(II)I"⟩, 11) := ⟨⟨by decide +kernel, by decide +kernel⟩, List.mem_of_getElem? (i := 432) (by decide +kernel), List.mem_of_getElem? (i := 1152) (by decide +kernel), List.mem_of_getElem? (i := 1153) (by decide +kernel)⟩
theorem lw_p58 : lw_okq (⟨"FeatherBench$Stock", "countAll", "()V"⟩, 11) := ⟨⟨by decide +kernel, by decide +kernel⟩, List.mem_of_getElem? (i := 432) (by decide +kernel), List.mem_of_getElem? (i := 1158) (by decide +kernel), List.mem_of_getElem? (i := 1159) (by decide +kernel)⟩
theorem lw_p59 : lw_okq (⟨"FeatherBench$Stock", "addCall", "(I)V"⟩, 11) := ⟨⟨by decide +kernel, by decide +kernel⟩, List.mem_of_getElem? (i := 432) (by decide +kernel), List.mem_of_getElem? (i := 1170) (by decide +kernel), List.mem_of_getElem? (i := 1171) (by decide +kernel)⟩
theorem lw_p60 : lw_okq (⟨"FeatherBench$Stock", "begin", "(III)V"⟩, 11) := ⟨⟨by decide +kernel, by decide +kernel⟩, List.mem_of_getElem? (i := 432) (by decide +kernel), List.mem_of_getElem? (i := 1174) (by decide +kernel), List.mem_of_getElem? (i := 1175) (by decide +kernel)⟩
theorem lw_p61 : lw_okq (⟨"FeatherBench$Stock", "holds", "(LFeatherBench$Row;I)Z"⟩, 11) := ⟨⟨by decide +kernel, by decide +kernel⟩, List.mem_of_getElem? (i := 432) (by decide +kernel), List.mem_of_getElem? (i := 1178) (by decide +kernel), List.mem_of_getElem? (i := 1179) (by decide +kernel)⟩
theorem lw_p62 : lw_okq (⟨"FeatherBench$Stock", "answer", "(I)V"⟩, 11) := ⟨⟨by decide +kernel, by decide +kernel⟩, List.mem_of_getElem? (i := 432) (by decide +kernel), List.mem_of_getElem? (i := 1182) (by decide +kernel), List.mem_of_getElem? (i := 1183) (by decide +kernel)⟩
theorem lw_p63 : lw_okq (⟨"FeatherBench$Stock", "addMethod", "(III)V"⟩, 11) := ⟨⟨by decide +kernel, by decide +kernel⟩, List.mem_of_getElem? (i := 432) (by decide +kernel), List.mem_of_getElem? (i := 1189) (by decide +kernel), List.mem_of_getElem? (i := 1190) (by decide +kernel)⟩
def lw_privs_4 : List (MethodName × Nat) := [(⟨"FeatherBench$Machine", "env", "(I)LFeatherBench$Row;"⟩, 15), (⟨"FeatherBench$Machine", "take", "(I)Z"⟩, 15), (⟨"FeatherBench$Machine", "makeValue", "(I)V"⟩, 15), (⟨"FeatherBench$Machine", "pop", "()I"⟩, 15), (⟨"FeatherBench$Machine", "call", "(II)V"⟩, 15), (⟨"FeatherBench$Machine", "cast", "(II)V"⟩, 15), (⟨"FeatherBench$Machine", "leave", "()V"⟩, 15), (⟨"FeatherBench$Stock", "goThrough", "(I)V"⟩, 11), (⟨"FeatherBench$Stock", "addTypes", "(I)I"⟩, 11), (⟨"FeatherBench$Stock", "copy", "(II)I"⟩, 11), (⟨"FeatherBench$Stock", "countAll", "()V"⟩, 11), (⟨"FeatherBench$Stock", "addCall", "(I)V"⟩, 11), (⟨"FeatherBench$Stock", "begin", "(III)V"⟩, 11), (⟨"FeatherBench$Stock", "holds", "(LFeatherBench$Row;I)Z"⟩, 11), (⟨"FeatherBench$Stock", "answer", "(I)V"⟩, 11), (⟨"FeatherBench$Stock", "addMethod", "(III)V"⟩, 11)]
theorem lw_r4 : ∀ q ∈ lw_privs_4, lw_okq q := List.forall_mem_cons.mpr ⟨lw_p48, List.forall_mem_cons.mpr ⟨lw_p49, List.forall_mem_cons.mpr ⟨lw_p50, List.forall_mem_cons.mpr ⟨lw_p51, List.forall_mem_cons.mpr ⟨lw_p52, List.forall_mem_cons.mpr ⟨lw_p53, List.forall_mem_cons.mpr ⟨lw_p54, List.forall_mem_cons.mpr ⟨lw_p55, List.forall_mem_cons.mpr ⟨lw_p56, List.forall_mem_cons.mpr ⟨lw_p57, List.forall_mem_cons.mpr ⟨lw_p58, List.forall_mem_cons.mpr ⟨lw_p59, List.forall_mem_cons.mpr ⟨lw_p60, List.forall_mem_cons.mpr ⟨lw_p61, List.forall_mem_cons.mpr ⟨lw_p62, List.forall_mem_cons.mpr ⟨lw_p63, fun _ h => absurd h List.not_mem_nil⟩⟩⟩⟩⟩⟩⟩⟩⟩⟩⟩⟩⟩⟩⟩⟩
theorem lw_p64 : lw_okq (⟨"FeatherBench$Stock", "openMethod", "(I)I"⟩, 11) := ⟨⟨by decide +kernel, by decide +kernel⟩, List.mem_of_getElem? (i := 432) (by decide +kernel), List.mem_of_getElem? (i := 1193) (by decide +kernel), List.mem_of_getElem? (i := 1194) (by decide +kernel)⟩
theorem lw_p65 : lw_okq (⟨"FeatherBench$Press", "putWord", "(I)V"⟩, 4) := ⟨⟨by decide +kernel, by decide +kernel⟩, List.mem_of_getElem? (i := 477) (by decide +kernel), List.mem_of_getElem? (i := 1228) (by decide +kernel), List.mem_of_getElem? (i := 1229) (by decide +kernel)⟩
theorem lw_p66 : lw_okq (⟨"FeatherBench$Press", "openValue", "(LFeatherBench$Row;II)V"⟩, 4) := ⟨⟨by decide +kernel, by decide +kernel⟩, List.mem_of_getElem? (i := 477) (by decide +kernel), List.mem_of_getElem? (i := 1237) (by decide +kernel), List.mem_of_getElem? (i := 1238) (by decide +kernel)⟩
theorem lw_p67 : lw_okq (⟨"FeatherBenchModel", "lay", "(J)V"⟩, 125) := ⟨⟨by decide +kernel, by decide +kernel⟩, List.mem_of_getElem? (i := 1253) (by decide +kernel), List.mem_of_getElem? (i := 1642) (by decide +kernel), List.mem_of_getElem? (i := 1643) (by decide +kernel)⟩
theorem lw_p68 : lw_okq (⟨"FeatherBenchModel", "keptWords", "()V"⟩, 125) := ⟨⟨by decide +kernel, by decide +kernel⟩, List.mem_of_getElem? (i := 1253) (by decide +kernel), List.mem_of_getElem? (i := 1650) (by decide +kernel), List.mem_of_getElem? (i := 1651) (by decide +kernel)⟩
theorem lw_p69 : lw_okq (⟨"FeatherBenchModel", "wordOf", "(JJ)I"⟩, 125) := ⟨⟨by decide +kernel, by decide +kernel⟩, List.mem_of_getElem? (i := 1253) (by decide +kernel), List.mem_of_getElem? (i := 1656) (by decide +kernel), List.mem_of_getElem? (i := 1657) (by decide +kernel)⟩
theorem lw_p70 : lw_okq (⟨"FeatherBenchModel", "cutAll", "()V"⟩, 125) := ⟨⟨by decide +kernel, by decide +kernel⟩, List.mem_of_getElem? (i := 1253) (by decide +kernel), List.mem_of_getElem? (i := 1664) (by decide +kernel), List.mem_of_getElem? (i := 1665) (by decide +kernel)⟩
theorem lw_p71 : lw_okq (⟨"FeatherBenchModel", "readAll", "()V"⟩, 125) := ⟨⟨by decide +kernel, by decide +kernel⟩, List.mem_of_getElem? (i := 1253) (by decide +kernel), List.mem_of_getElem? (i := 1677) (by decide +kernel), List.mem_of_getElem? (i := 1678) (by decide +kernel)⟩
theorem lw_p72 : lw_okq (⟨"FeatherBenchModel", "isWord", "(I)Z"⟩, 125) := ⟨⟨by decide +kernel, by decide +kernel⟩, List.mem_of_getElem? (i := 1253) (by decide +kernel), List.mem_of_getElem? (i := 1681) (by decide +kernel), List.mem_of_getElem? (i := 1682) (by decide +kernel)⟩
theorem lw_p73 : lw_okq (⟨"FeatherBenchModel", "readType", "()V"⟩, 125) := ⟨⟨by decide +kernel, by decide +kernel⟩, List.mem_of_getElem? (i := 1253) (by decide +kernel), List.mem_of_getElem? (i := 1685) (by decide +kernel), List.mem_of_getElem? (i := 1686) (by decide +kernel)⟩
theorem lw_p74 : lw_okq (⟨"FeatherBenchModel", "wrong", "(II)V"⟩, 125) := ⟨⟨by decide +kernel, by decide +kernel⟩, List.mem_of_getElem? (i := 1253) (by decide +kernel), List.mem_of_getElem? (i := 1689) (by decide +kernel), List.mem_of_getElem? (i := 1690) (by decide +kernel)⟩
theorem lw_p75 : lw_okq (⟨"FeatherBenchModel", "takeName", "()I"⟩, 125) := ⟨⟨by decide +kernel, by decide +kernel⟩, List.mem_of_getElem? (i := 1253) (by decide +kernel), List.mem_of_getElem? (i := 1693) (by decide +kernel), List.mem_of_getElem? (i := 1694) (by decide +kernel)⟩
theorem lw_p76 : lw_okq (⟨"FeatherBenchModel", "isName", "()Z"⟩, 125) := ⟨⟨by decide +kernel, by decide +kernel⟩, List.mem_of_getElem? (i := 1253) (by decide +kernel), List.mem_of_getElem? (i := 1697) (by decide +kernel), List.mem_of_getElem? (i := 1698) (by decide +kernel)⟩
theorem lw_p77 : lw_okq (⟨"FeatherBenchModel", "isSign", "(I)Z"⟩, 125) := ⟨⟨by decide +kernel, by decide +kernel⟩, List.mem_of_getElem? (i := 1253) (by decide +kernel), List.mem_of_getElem? (i := 1701) (by decide +kernel), List.mem_of_getElem? (i := 1702) (by decide +kernel)⟩
theorem lw_p78 : lw_okq (⟨"FeatherBenchModel", "readFormals", "([I[II)I"⟩, 125) := ⟨⟨by decide +kernel, by decide +kernel⟩, List.mem_of_getElem? (i := 1253) (by decide +kernel), List.mem_of_getElem? (i := 1705) (by decide +kernel), List.mem_of_getElem? (i := 1706) (by decide +kernel)⟩
theorem lw_p79 : lw_okq (⟨"FeatherBenchModel", "takeSign", "(I)V"⟩, 125) := ⟨⟨by decide +kernel, by decide +kernel⟩, List.mem_of_getElem? (i := 1253) (by decide +kernel), List.mem_of_getElem? (i := 1709) (by decide +kernel), List.mem_of_getElem? (i := 1710) (by decide +kernel)⟩
def lw_privs_5 : List (MethodName × Nat) := [(⟨"FeatherBench$Stock", "openMethod", "(I)I"⟩, 11), (⟨"FeatherBench$Press", "putWord", "(I)V"⟩, 4), (⟨"FeatherBench$Press", "openValue", "(LFeatherBench$Row;II)V"⟩, 4), (⟨"FeatherBenchModel", "lay", "(J)V"⟩, 125), (⟨"FeatherBenchModel", "keptWords", "()V"⟩, 125), (⟨"FeatherBenchModel", "wordOf", "(JJ)I"⟩, 125), (⟨"FeatherBenchModel", "cutAll", "()V"⟩, 125), (⟨"FeatherBenchModel", "readAll", "()V"⟩, 125), (⟨"FeatherBenchModel", "isWord", "(I)Z"⟩, 125), (⟨"FeatherBenchModel", "readType", "()V"⟩, 125), (⟨"FeatherBenchModel", "wrong", "(II)V"⟩, 125), (⟨"FeatherBenchModel", "takeName", "()I"⟩, 125), (⟨"FeatherBenchModel", "isName", "()Z"⟩, 125), (⟨"FeatherBenchModel", "isSign", "(I)Z"⟩, 125), (⟨"FeatherBenchModel", "readFormals", "([I[II)I"⟩, 125), (⟨"FeatherBenchModel", "takeSign", "(I)V"⟩, 125)]
theorem lw_r5 : ∀ q ∈ lw_privs_5, lw_okq q := List.forall_mem_cons.mpr ⟨lw_p64, List.forall_mem_cons.mpr ⟨lw_p65, List.forall_mem_cons.mpr ⟨lw_p66, List.forall_mem_cons.mpr ⟨lw_p67, List.forall_mem_cons.mpr ⟨lw_p68, List.forall_mem_cons.mpr ⟨lw_p69, List.forall_mem_cons.mpr ⟨lw_p70, List.forall_mem_cons.mpr ⟨lw_p71, List.forall_mem_cons.mpr ⟨lw_p72, List.forall_mem_cons.mpr ⟨lw_p73, List.forall_mem_cons.mpr ⟨lw_p74, List.forall_mem_cons.mpr ⟨lw_p75, List.forall_mem_cons.mpr ⟨lw_p76, List.forall_mem_cons.mpr ⟨lw_p77, List.forall_mem_cons.mpr ⟨lw_p78, List.forall_mem_cons.mpr ⟨lw_p79, fun _ h => absurd h List.not_mem_nil⟩⟩⟩⟩⟩⟩⟩⟩⟩⟩⟩⟩⟩⟩⟩⟩
theorem lw_p80 : lw_okq (⟨"FeatherBenchModel", "takeType", "()I"⟩, 125) := ⟨⟨by decide +kernel, by decide +kernel⟩, List.mem_of_getElem? (i := 1253) (by decide +kernel), List.mem_of_getElem? (i := 1713) (by decide +kernel), List.mem_of_getElem? (i := 1714) (by decide +kernel)⟩
theorem lw_p81 : lw_okq (⟨"FeatherBenchModel", "within", "(Z)V"⟩, 125) := ⟨⟨by decide +kernel, by decide +kernel⟩, List.mem_of_getElem? (i := 1253) (by decide +kernel), List.mem_of_getElem? (i := 1717) (by decide +kernel), List.mem_of_getElem? (i := 1718) (by decide +kernel)⟩
theorem lw_p82 : lw_okq (⟨"FeatherBenchModel", "node", "(I)I"⟩, 125) := ⟨⟨by decide +kernel, by decide +kernel⟩, List.mem_of_getElem? (i := 1253) (by decide +kernel), List.mem_of_getElem? (i := 1721) (by decide +kernel), List.mem_of_getElem? (i := 1722) (by decide +kernel)⟩
theorem lw_p83 : lw_okq (⟨"FeatherBenchModel", "takeTypes", "()I"⟩, 125) := ⟨⟨by decide +kernel, by decide +kernel⟩, List.mem_of_getElem? (i := 1253) (by decide +kernel), List.mem_of_getElem? (i := 1725) (by decide +kernel), List.mem_of_getElem? (i := 1726) (by decide +kernel)⟩
theorem lw_p84 : lw_okq (⟨"FeatherBenchModel", "hasSign", "(I)Z"⟩, 125) := ⟨⟨by decide +kernel, by decide +kernel⟩, List.mem_of_getElem? (i := 1253) (by decide +kernel), List.mem_of_getElem? (i := 1729) (by decide +kernel), List.mem_of_getElem? (i := 1730) (by decide +kernel)⟩
theorem lw_p85 : lw_okq (⟨"FeatherBenchModel", "takeWord", "(I)V"⟩, 125) := ⟨⟨by decide +kernel, by decide +kernel⟩, List.mem_of_getElem? (i := 1253) (by decide +kernel), List.mem_of_getElem? (i := 1733) (by decide +kernel), List.mem_of_getElem? (i := 1734) (by decide +kernel)⟩
theorem lw_p86 : lw_okq (⟨"FeatherBenchModel", "readField", "(I)V"⟩, 125) := ⟨⟨by decide +kernel, by decide +kernel⟩, List.mem_of_getElem? (i := 1253) (by decide +kernel), List.mem_of_getElem? (i := 1737) (by decide +kernel), List.mem_of_getElem? (i := 1738) (by decide +kernel)⟩
theorem lw_p87 : lw_okq (⟨"FeatherBenchModel", "readHead", "()V"⟩, 125) := ⟨⟨by decide +kernel, by decide +kernel⟩, List.mem_of_getElem? (i := 1253) (by decide +kernel), List.mem_of_getElem? (i := 1741) (by decide +kernel), List.mem_of_getElem? (i := 1742) (by decide +kernel)⟩
theorem lw_p88 : lw_okq (⟨"FeatherBenchModel", "readFunc", "()V"⟩, 125) := ⟨⟨by decide +kernel, by decide +kernel⟩, List.mem_of_getElem? (i := 1253) (by decide +kernel), List.mem_of_getElem? (i := 1745) (by decide +kernel), List.mem_of_getElem? (i := 1746) (by decide +kernel)⟩
theorem lw_p89 : lw_okq (⟨"FeatherBenchModel", "takeE", "()I"⟩, 125) := ⟨⟨by decide +kernel, by decide +kernel⟩, List.mem_of_getElem? (i := 1253) (by decide +kernel), List.mem_of_getElem? (i := 1749) (by decide +kernel), List.mem_of_getElem? (i := 1750) (by decide +kernel)⟩
theorem lw_p90 : lw_okq (⟨"FeatherBenchModel", "takeList", "()I"⟩, 125) := ⟨⟨by decide +kernel, by decide +kernel⟩, List.mem_of_getElem? (i := 1253) (by decide +kernel), List.mem_of_getElem? (i := 1753) (by decide +kernel), List.mem_of_getElem? (i := 1754) (by decide +kernel)⟩
theorem lw_p91 : lw_okq (⟨"FeatherBenchModel", "behindPoint", "(I)I"⟩, 125) := ⟨⟨by decide +kernel, by decide +kernel⟩, List.mem_of_getElem? (i := 1253) (by decide +kernel), List.mem_of_getElem? (i := 1757) (by decide +kernel), List.mem_of_getElem? (i := 1758) (by decide +kernel)⟩
theorem lw_p92 : lw_okq (⟨"FeatherBenchModel", "goThrough", "(II)V"⟩, 125) := ⟨⟨by decide +kernel, by decide +kernel⟩, List.mem_of_getElem? (i := 1253) (by decide +kernel), List.mem_of_getElem? (i := 1763) (by decide +kernel), List.mem_of_getElem? (i := 1764) (by decide +kernel)⟩
theorem lw_p93 : lw_okq (⟨"FeatherBenchModel", "namesOfType", "(I)V"⟩, 125) := ⟨⟨by decide +kernel, by decide +kernel⟩, List.mem_of_getElem? (i := 1253) (by decide +kernel), List.mem_of_getElem? (i := 1767) (by decide +kernel), List.mem_of_getElem? (i := 1768) (by decide +kernel)⟩
theorem lw_p94 : lw_okq (⟨"FeatherBenchModel", "isToldAhead", "(I[III)Z"⟩, 125) := ⟨⟨by decide +kernel, by decide +kernel⟩, List.mem_of_getElem? (i := 1253) (by decide +kernel), List.mem_of_getElem? (i := 1771) (by decide +kernel), List.mem_of_getElem? (i := 1772) (by decide +kernel)⟩
theorem lw_p95 : lw_okq (⟨"FeatherBenchModel", "twice", "([IIII)V"⟩, 125) := ⟨⟨by decide +kernel, by decide +kernel⟩, List.mem_of_getElem? (i := 1253) (by decide +kernel), List.mem_of_getElem? (i := 1775) (by decide +kernel), List.mem_of_getElem? (i := 1776) (by decide +kernel)⟩
def lw_privs_6 : List (MethodName × Nat) := [(⟨"FeatherBenchModel", "takeType", "()I"⟩, 125), (⟨"FeatherBenchModel", "within", "(Z)V"⟩, 125), (⟨"FeatherBenchModel", "node", "(I)I"⟩, 125), (⟨"FeatherBenchModel", "takeTypes", "()I"⟩, 125), (⟨"FeatherBenchModel", "hasSign", "(I)Z"⟩, 125), (⟨"FeatherBenchModel", "takeWord", "(I)V"⟩, 125), (⟨"FeatherBenchModel", "readField", "(I)V"⟩, 125), (⟨"FeatherBenchModel", "readHead", "()V"⟩, 125), (⟨"FeatherBenchModel", "readFunc", "()V"⟩, 125), (⟨"FeatherBenchModel", "takeE", "()I"⟩, 125), (⟨"FeatherBenchModel", "takeList", "()I"⟩, 125), (⟨"FeatherBenchModel", "behindPoint", "(I)I"⟩, 125), (⟨"FeatherBenchModel", "goThrough", "(II)V"⟩, 125), (⟨"FeatherBenchModel", "namesOfType", "(I)V"⟩, 125), (⟨"FeatherBenchModel", "isToldAhead", "(I[III)Z"⟩, 125), (⟨"FeatherBenchModel", "twice", "([IIII)V"⟩, 125)]
theorem lw_r6 : ∀ q ∈ lw_privs_6, lw_okq q := List.forall_mem_cons.mpr ⟨lw_p80, List.forall_mem_cons.mpr ⟨lw_p81, List.forall_mem_cons.mpr ⟨lw_p82, List.forall_mem_cons.mpr ⟨lw_p83, List.forall_mem_cons.mpr ⟨lw_p84, List.forall_mem_cons.mpr ⟨lw_p85, List.forall_mem_cons.mpr ⟨lw_p86, List.forall_mem_cons.mpr ⟨lw_p87, List.forall_mem_cons.mpr ⟨lw_p88, List.forall_mem_cons.mpr ⟨lw_p89, List.forall_mem_cons.mpr ⟨lw_p90, List.forall_mem_cons.mpr ⟨lw_p91, List.forall_mem_cons.mpr ⟨lw_p92, List.forall_mem_cons.mpr ⟨lw_p93, List.forall_mem_cons.mpr ⟨lw_p94, List.forall_mem_cons.mpr ⟨lw_p95, fun _ h => absurd h List.not_mem_nil⟩⟩⟩⟩⟩⟩⟩⟩⟩⟩⟩⟩⟩⟩⟩⟩
theorem lw_p96 : lw_okq (⟨"FeatherBenchModel", "paramOf", "(II)I"⟩, 125) := ⟨⟨by decide +kernel, by decide +kernel⟩, List.mem_of_getElem? (i := 1253) (by decide +kernel), List.mem_of_getElem? (i := 1779) (by decide +kernel), List.mem_of_getElem? (i := 1780) (by decide +kernel)⟩
theorem lw_p97 : lw_okq (⟨"FeatherBenchModel", "namesOfFunc", "(I)V"⟩, 125) := ⟨⟨by decide +kernel, by decide +kernel⟩, List.mem_of_getElem? (i := 1253) (by decide +kernel), List.mem_of_getElem? (i := 1783) (by decide +kernel), List.mem_of_getElem? (i := 1784) (by decide +kernel)⟩
theorem lw_p98 : lw_okq (⟨"FeatherBenchModel", "typeWords", "(I)V"⟩, 125) := ⟨⟨by decide +kernel, by decide +kernel⟩, List.mem_of_getElem? (i := 1253) (by decide +kernel), List.mem_of_getElem? (i := 1787) (by decide +kernel), List.mem_of_getElem? (i := 1788) (by decide +kernel)⟩
theorem lw_p99 : lw_okq (⟨"FeatherBenchModel", "place", "(III)V"⟩, 125) := ⟨⟨by decide +kernel, by decide +kernel⟩, List.mem_of_getElem? (i := 1253) (by decide +kernel), List.mem_of_getElem? (i := 1791) (by decide +kernel), List.mem_of_getElem? (i := 1792) (by decide +kernel)⟩
theorem lw_p100 : lw_okq (⟨"FeatherBenchModel", "boundWords", "(I)V"⟩, 125) := ⟨⟨by decide +kernel, by decide +kernel⟩, List.mem_of_getElem? (i := 1253) (by decide +kernel), List.mem_of_getElem? (i := 1795) (by decide +kernel), List.mem_of_getElem? (i := 1796) (by decide +kernel)⟩
theorem lw_p101 : lw_okq (⟨"FeatherBenchModel", "resolve", "(IZ)V"⟩, 125) := ⟨⟨by decide +kernel, by decide +kernel⟩, List.mem_of_getElem? (i := 1253) (by decide +kernel), List.mem_of_getElem? (i := 1799) (by decide +kernel), List.mem_of_getElem? (i := 1800) (by decide +kernel)⟩
theorem lw_p102 : lw_okq (⟨"FeatherBenchModel", "wordNow", "(I)I"⟩, 125) := ⟨⟨by decide +kernel, by decide +kernel⟩, List.mem_of_getElem? (i := 1253) (by decide +kernel), List.mem_of_getElem? (i := 1803) (by decide +kernel), List.mem_of_getElem? (i := 1804) (by decide +kernel)⟩
theorem lw_p103 : lw_okq (⟨"FeatherBenchModel", "codeOfWord", "(I)I"⟩, 125) := ⟨⟨by decide +kernel, by decide +kernel⟩, List.mem_of_getElem? (i := 1253) (by decide +kernel), List.mem_of_getElem? (i := 1807) (by decide +kernel), List.mem_of_getElem? (i := 1808) (by decide +kernel)⟩
theorem lw_p104 : lw_okq (⟨"FeatherBenchModel", "headWords", "(III)V"⟩, 125) := ⟨⟨by decide +kernel, by decide +kernel⟩, List.mem_of_getElem? (i := 1253) (by decide +kernel), List.mem_of_getElem? (i := 1814) (by decide +kernel), List.mem_of_getElem? (i := 1815) (by decide +kernel)⟩
theorem lw_p105 : lw_okq (⟨"FeatherBenchModel", "funcWords", "(I)V"⟩, 125) := ⟨⟨by decide +kernel, by decide +kernel⟩, List.mem_of_getElem? (i := 1253) (by decide +kernel), List.mem_of_getElem? (i := 1818) (by decide +kernel), List.mem_of_getElem? (i := 1819) (by decide +kernel)⟩
theorem lw_p106 : lw_okq (⟨"FeatherBenchModel", "typeBounds", "(I)V"⟩, 125) := ⟨⟨by decide +kernel, by decide +kernel⟩, List.mem_of_getElem? (i := 1253) (by decide +kernel), List.mem_of_getElem? (i := 1822) (by decide +kernel), List.mem_of_getElem? (i := 1823) (by decide +kernel)⟩
theorem lw_p107 : lw_okq (⟨"FeatherBenchModel", "bounds", "(I)V"⟩, 125) := ⟨⟨by decide +kernel, by decide +kernel⟩, List.mem_of_getElem? (i := 1253) (by decide +kernel), List.mem_of_getElem? (i := 1826) (by decide +kernel), List.mem_of_getElem? (i := 1827) (by decide +kernel)⟩
theorem lw_p108 : lw_okq (⟨"FeatherBenchModel", "newEnv", "()I"⟩, 125) := ⟨⟨by decide +kernel, by decide +kernel⟩, List.mem_of_getElem? (i := 1253) (by decide +kernel), List.mem_of_getElem? (i := 1830) (by decide +kernel), List.mem_of_getElem? (i := 1831) (by decide +kernel)⟩
theorem lw_p109 : lw_okq (⟨"FeatherBenchModel", "group", "(IIII)V"⟩, 125) := ⟨⟨by decide +kernel, by decide +kernel⟩, List.mem_of_getElem? (i := 1253) (by decide +kernel), List.mem_of_getElem? (i := 1834) (by decide +kernel), List.mem_of_getElem? (i := 1835) (by decide +kernel)⟩
theorem lw_p110 : lw_okq (⟨"FeatherBenchModel", "behind", "(I)I"⟩, 125) := ⟨⟨by decide +kernel, by decide +kernel⟩, List.mem_of_getElem? (i := 1253) (by decide +kernel), List.mem_of_getElem? (i := 1838) (by decide +kernel), List.mem_of_getElem? (i := 1839) (by decide +kernel)⟩
theorem lw_p111 : lw_okq (⟨"FeatherBenchModel", "fits", "(IIIII)V"⟩, 125) := ⟨⟨by decide +kernel, by decide +kernel⟩, List.mem_of_getElem? (i := 1253) (by decide +kernel), List.mem_of_getElem? (i := 1842) (by decide +kernel), List.mem_of_getElem? (i := 1843) (by decide +kernel)⟩
def lw_privs_7 : List (MethodName × Nat) := [(⟨"FeatherBenchModel", "paramOf", "(II)I"⟩, 125), (⟨"FeatherBenchModel", "namesOfFunc", "(I)V"⟩, 125), (⟨"FeatherBenchModel", "typeWords", "(I)V"⟩, 125), (⟨"FeatherBenchModel", "place", "(III)V"⟩, 125), (⟨"FeatherBenchModel", "boundWords", "(I)V"⟩, 125), (⟨"FeatherBenchModel", "resolve", "(IZ)V"⟩, 125), (⟨"FeatherBenchModel", "wordNow", "(I)I"⟩, 125), (⟨"FeatherBenchModel", "codeOfWord", "(I)I"⟩, 125), (⟨"FeatherBenchModel", "headWords", "(III)V"⟩, 125), (⟨"FeatherBenchModel", "funcWords", "(I)V"⟩, 125), (⟨"FeatherBenchModel", "typeBounds", "(I)V"⟩, 125), (⟨"FeatherBenchModel", "bounds", "(I)V"⟩, 125), (⟨"FeatherBenchModel", "newEnv", "()I"⟩, 125), (⟨"FeatherBenchModel", "group", "(IIII)V"⟩, 125), (⟨"FeatherBenchModel", "behind", "(I)I"⟩, 125), (⟨"FeatherBenchModel", "fits", "(IIIII)V"⟩, 125)]
theorem lw_r7 : ∀ q ∈ lw_privs_7, lw_okq q := List.forall_mem_cons.mpr ⟨lw_p96, List.forall_mem_cons.mpr ⟨lw_p97, List.forall_mem_cons.mpr ⟨lw_p98, List.forall_mem_cons.mpr ⟨lw_p99, List.forall_mem_cons.mpr ⟨lw_p100, List.forall_mem_cons.mpr ⟨lw_p101, List.forall_mem_cons.mpr ⟨lw_p102, List.forall_mem_cons.mpr ⟨lw_p103, List.forall_mem_cons.mpr ⟨lw_p104, List.forall_mem_cons.mpr ⟨lw_p105, List.forall_mem_cons.mpr ⟨lw_p106, List.forall_mem_cons.mpr ⟨lw_p107, List.forall_mem_cons.mpr ⟨lw_p108, List.forall_mem_cons.mpr ⟨lw_p109, List.forall_mem_cons.mpr ⟨lw_p110, List.forall_mem_cons.mpr ⟨lw_p111, fun _ h => absurd h List.not_mem_nil⟩⟩⟩⟩⟩⟩⟩⟩⟩⟩⟩⟩⟩⟩⟩⟩
theorem lw_p112 : lw_okq (⟨"FeatherBenchModel", "put", "(III)Z"⟩, 125) := ⟨⟨by decide +kernel, by decide +kernel⟩, List.mem_of_getElem? (i := 1253) (by decide +kernel), List.mem_of_getElem? (i := 1846) (by decide +kernel), List.mem_of_getElem? (i := 1847) (by decide +kernel)⟩
theorem lw_p113 : lw_okq (⟨"FeatherBenchModel", "found", "(II)I"⟩, 125) := ⟨⟨by decide +kernel, by decide +kernel⟩, List.mem_of_getElem? (i := 1253) (by decide +kernel), List.mem_of_getElem? (i := 1850) (by decide +kernel), List.mem_of_getElem? (i := 1851) (by decide +kernel)⟩
theorem lw_p114 : lw_okq (⟨"FeatherBenchModel", "implement", "(IIII)I"⟩, 125) := ⟨⟨by decide +kernel, by decide +kernel⟩, List.mem_of_getElem? (i := 1253) (by decide +kernel), List.mem_of_getElem? (i := 1854) (by decide +kernel), List.mem_of_getElem? (i := 1855) (by decide +kernel)⟩
theorem lw_p115 : lw_okq (⟨"FeatherBenchModel", "isSame", "(IIII)Z"⟩, 125) := ⟨⟨by decide +kernel, by decide +kernel⟩, List.mem_of_getElem? (i := 1253) (by decide +kernel), List.mem_of_getElem? (i := 1858) (by decide +kernel), List.mem_of_getElem? (i := 1859) (by decide +kernel)⟩
theorem lw_p116 : lw_okq (⟨"FeatherBenchModel", "bound", "(I)V"⟩, 125) := ⟨⟨by decide +kernel, by decide +kernel⟩, List.mem_of_getElem? (i := 1253) (by decide +kernel), List.mem_of_getElem? (i := 1862) (by decide +kernel), List.mem_of_getElem? (i := 1863) (by decide +kernel)⟩
theorem lw_p117 : lw_okq (⟨"FeatherBenchModel", "findHead", "(II)Z"⟩, 125) := ⟨⟨by decide +kernel, by decide +kernel⟩, List.mem_of_getElem? (i := 1253) (by decide +kernel), List.mem_of_getElem? (i := 1866) (by decide +kernel), List.mem_of_getElem? (i := 1867) (by decide +kernel)⟩
theorem lw_p118 : lw_okq (⟨"FeatherBenchModel", "alike", "(IIIII)I"⟩, 125) := ⟨⟨by decide +kernel, by decide +kernel⟩, List.mem_of_getElem? (i := 1253) (by decide +kernel), List.mem_of_getElem? (i := 1870) (by decide +kernel), List.mem_of_getElem? (i := 1871) (by decide +kernel)⟩
theorem lw_p119 : lw_okq (⟨"FeatherBenchModel", "byPlaces", "(III)V"⟩, 125) := ⟨⟨by decide +kernel, by decide +kernel⟩, List.mem_of_getElem? (i := 1253) (by decide +kernel), List.mem_of_getElem? (i := 1874) (by decide +kernel), List.mem_of_getElem? (i := 1875) (by decide +kernel)⟩
theorem lw_p120 : lw_okq (⟨"FeatherBenchModel", "one", "(IIII)I"⟩, 125) := ⟨⟨by decide +kernel, by decide +kernel⟩, List.mem_of_getElem? (i := 1253) (by decide +kernel), List.mem_of_getElem? (i := 1878) (by decide +kernel), List.mem_of_getElem? (i := 1879) (by decide +kernel)⟩
theorem lw_p121 : lw_okq (⟨"FeatherBenchModel", "headBounds", "(I)V"⟩, 125) := ⟨⟨by decide +kernel, by decide +kernel⟩, List.mem_of_getElem? (i := 1253) (by decide +kernel), List.mem_of_getElem? (i := 1882) (by decide +kernel), List.mem_of_getElem? (i := 1883) (by decide +kernel)⟩
theorem lw_p122 : lw_okq (⟨"FeatherBenchModel", "selves", "()V"⟩, 125) := ⟨⟨by decide +kernel, by decide +kernel⟩, List.mem_of_getElem? (i := 1253) (by decide +kernel), List.mem_of_getElem? (i := 1886) (by decide +kernel), List.mem_of_getElem? (i := 1887) (by decide +kernel)⟩
theorem lw_p123 : lw_okq (⟨"FeatherBenchModel", "typeFunc", "(I)V"⟩, 125) := ⟨⟨by decide +kernel, by decide +kernel⟩, List.mem_of_getElem? (i := 1253) (by decide +kernel), List.mem_of_getElem? (i := 1890) (by decide +kernel), List.mem_of_getElem? (i := 1891) (by decide +kernel)⟩
theorem lw_p124 : lw_okq (⟨"FeatherBenchModel", "typeE", "(I)V"⟩, 125) := ⟨⟨by decide +kernel, by decide +kernel⟩, List.mem_of_getElem? (i := 1253) (by decide +kernel), List.mem_of_getElem? (i := 1894) (by decide +kernel), List.mem_of_getElem? (i := 1895) (by decide +kernel)⟩
theorem lw_p125 : lw_okq (⟨"FeatherBenchModel", "typeVar", "(I)V"⟩, 125) := ⟨⟨by decide +kernel, by decide +kernel⟩, List.mem_of_getElem? (i := 1253) (by decide +kernel), List.mem_of_getElem? (i := 1898) (by decide +kernel), List.mem_of_getElem? (i := 1899) (by decide +kernel)⟩
theorem lw_p126 : lw_okq (⟨"FeatherBenchModel", "typeOfVar", "(I)V"⟩, 125) := ⟨⟨by decide +kernel, by decide +kernel⟩, List.mem_of_getElem? (i := 1253) (by decide +kernel), List.mem_of_getElem? (i := 1902) (by decide +kernel), List.mem_of_getElem? (i := 1903) (by decide +kernel)⟩
theorem lw_p127 : lw_okq (⟨"FeatherBenchModel", "is", "(II)V"⟩, 125) := ⟨⟨by decide +kernel, by decide +kernel⟩, List.mem_of_getElem? (i := 1253) (by decide +kernel), List.mem_of_getElem? (i := 1906) (by decide +kernel), List.mem_of_getElem? (i := 1907) (by decide +kernel)⟩
def lw_privs_8 : List (MethodName × Nat) := [(⟨"FeatherBenchModel", "put", "(III)Z"⟩, 125), (⟨"FeatherBenchModel", "found", "(II)I"⟩, 125), (⟨"FeatherBenchModel", "implement", "(IIII)I"⟩, 125), (⟨"FeatherBenchModel", "isSame", "(IIII)Z"⟩, 125), (⟨"FeatherBenchModel", "bound", "(I)V"⟩, 125), (⟨"FeatherBenchModel", "findHead", "(II)Z"⟩, 125), (⟨"FeatherBenchModel", "alike", "(IIIII)I"⟩, 125), (⟨"FeatherBenchModel", "byPlaces", "(III)V"⟩, 125), (⟨"FeatherBenchModel", "one", "(IIII)I"⟩, 125), (⟨"FeatherBenchModel", "headBounds", "(I)V"⟩, 125), (⟨"FeatherBenchModel", "selves", "()V"⟩, 125), (⟨"FeatherBenchModel", "typeFunc", "(I)V"⟩, 125), (⟨"FeatherBenchModel", "typeE", "(I)V"⟩, 125), (⟨"FeatherBenchModel", "typeVar", "(I)V"⟩, 125), (⟨"FeatherBenchModel", "typeOfVar", "(I)V"⟩, 125), (⟨"FeatherBenchModel", "is", "(II)V"⟩, 125)]
theorem lw_r8 : ∀ q ∈ lw_privs_8, lw_okq q := List.forall_mem_cons.mpr ⟨lw_p112, List.forall_mem_cons.mpr ⟨lw_p113, List.forall_mem_cons.mpr ⟨lw_p114, List.forall_mem_cons.mpr ⟨lw_p115, List.forall_mem_cons.mpr ⟨lw_p116, List.forall_mem_cons.mpr ⟨lw_p117, List.forall_mem_cons.mpr ⟨lw_p118, List.forall_mem_cons.mpr ⟨lw_p119, List.forall_mem_cons.mpr ⟨lw_p120, List.forall_mem_cons.mpr ⟨lw_p121, List.forall_mem_cons.mpr ⟨lw_p122, List.forall_mem_cons.mpr ⟨lw_p123, List.forall_mem_cons.mpr ⟨lw_p124, List.forall_mem_cons.mpr ⟨lw_p125, List.forall_mem_cons.mpr ⟨lw_p126, List.forall_mem_cons.mpr ⟨lw_p127, fun _ h => absurd h List.not_mem_nil⟩⟩⟩⟩⟩⟩⟩⟩⟩⟩⟩⟩⟩⟩⟩⟩
theorem lw_p128 : lw_okq (⟨"FeatherBenchModel", "typeStruct", "(I)V"⟩, 125) := ⟨⟨by decide +kernel, by decide +kernel⟩, List.mem_of_getElem? (i := 1253) (by decide +kernel), List.mem_of_getElem? (i := 1910) (by decide +kernel), List.mem_of_getElem? (i := 1911) (by decide +kernel)⟩
theorem lw_p129 : lw_okq (⟨"FeatherBenchModel", "isOfStruct", "(I)Z"⟩, 125) := ⟨⟨by decide +kernel, by decide +kernel⟩, List.mem_of_getElem? (i := 1253) (by decide +kernel), List.mem_of_getElem? (i := 1914) (by decide +kernel), List.mem_of_getElem? (i := 1915) (by decide +kernel)⟩
theorem lw_p130 : lw_okq (⟨"FeatherBenchModel", "takes", "(III)V"⟩, 125) := ⟨⟨by decide +kernel, by decide +kernel⟩, List.mem_of_getElem? (i := 1253) (by decide +kernel), List.mem_of_getElem? (i := 1918) (by decide +kernel), List.mem_of_getElem? (i := 1919) (by decide +kernel)⟩
theorem lw_p131 : lw_okq (⟨"FeatherBenchModel", "firstOf", "(I)I"⟩, 125) := ⟨⟨by decide +kernel, by decide +kernel⟩, List.mem_of_getElem? (i := 1253) (by decide +kernel), List.mem_of_getElem? (i := 1922) (by decide +kernel), List.mem_of_getElem? (i := 1923) (by decide +kernel)⟩
theorem lw_p132 : lw_okq (⟨"FeatherBenchModel", "typeField", "(I)V"⟩, 125) := ⟨⟨by decide +kernel, by decide +kernel⟩, List.mem_of_getElem? (i := 1253) (by decide +kernel), List.mem_of_getElem? (i := 1926) (by decide +kernel), List.mem_of_getElem? (i := 1927) (by decide +kernel)⟩
theorem lw_p133 : lw_okq (⟨"FeatherBenchModel", "fieldOf", "(II)Z"⟩, 125) := ⟨⟨by decide +kernel, by decide +kernel⟩, List.mem_of_getElem? (i := 1253) (by decide +kernel), List.mem_of_getElem? (i := 1930) (by decide +kernel), List.mem_of_getElem? (i := 1931) (by decide +kernel)⟩
theorem lw_p134 : lw_okq (⟨"FeatherBenchModel", "typeMethod", "(I)V"⟩, 125) := ⟨⟨by decide +kernel, by decide +kernel⟩, List.mem_of_getElem? (i := 1253) (by decide +kernel), List.mem_of_getElem? (i := 1934) (by decide +kernel), List.mem_of_getElem? (i := 1935) (by decide +kernel)⟩
theorem lw_p135 : lw_okq (⟨"FeatherBenchModel", "keepOpen", "(I)V"⟩, 125) := ⟨⟨by decide +kernel, by decide +kernel⟩, List.mem_of_getElem? (i := 1253) (by decide +kernel), List.mem_of_getElem? (i := 1938) (by decide +kernel), List.mem_of_getElem? (i := 1939) (by decide +kernel)⟩
theorem lw_p136 : lw_okq (⟨"FeatherBenchModel", "told", "(III)V"⟩, 125) := ⟨⟨by decide +kernel, by decide +kernel⟩, List.mem_of_getElem? (i := 1253) (by decide +kernel), List.mem_of_getElem? (i := 1942) (by decide +kernel), List.mem_of_getElem? (i := 1943) (by decide +kernel)⟩
theorem lw_p137 : lw_okq (⟨"FeatherBenchModel", "typeAssert", "(I)V"⟩, 125) := ⟨⟨by decide +kernel, by decide +kernel⟩, List.mem_of_getElem? (i := 1253) (by decide +kernel), List.mem_of_getElem? (i := 1946) (by decide +kernel), List.mem_of_getElem? (i := 1947) (by decide +kernel)⟩
theorem lw_p138 : lw_okq (⟨"FeatherBenchModel", "forget", "()V"⟩, 125) := ⟨⟨by decide +kernel, by decide +kernel⟩, List.mem_of_getElem? (i := 1253) (by decide +kernel), List.mem_of_getElem? (i := 1950) (by decide +kernel), List.mem_of_getElem? (i := 1951) (by decide +kernel)⟩
theorem lw_p139 : lw_okq (⟨"FeatherBenchModel", "asks", "()V"⟩, 125) := ⟨⟨by decide +kernel, by decide +kernel⟩, List.mem_of_getElem? (i := 1253) (by decide +kernel), List.mem_of_getElem? (i := 1958) (by decide +kernel), List.mem_of_getElem? (i := 1959) (by decide +kernel)⟩
theorem lw_p140 : lw_okq (⟨"FeatherBenchModel", "askedType", "()I"⟩, 125) := ⟨⟨by decide +kernel, by decide +kernel⟩, List.mem_of_getElem? (i := 1253) (by decide +kernel), List.mem_of_getElem? (i := 1962) (by decide +kernel), List.mem_of_getElem? (i := 1963) (by decide +kernel)⟩
theorem lw_p141 : lw_okq (⟨"FeatherBenchModel", "isGood", "(I)Z"⟩, 125) := ⟨⟨by decide +kernel, by decide +kernel⟩, List.mem_of_getElem? (i := 1253) (by decide +kernel), List.mem_of_getElem? (i := 1966) (by decide +kernel), List.mem_of_getElem? (i := 1967) (by decide +kernel)⟩
theorem lw_p142 : lw_okq (⟨"FeatherBenchModel", "eval", "(III)I"⟩, 125) := ⟨⟨by decide +kernel, by decide +kernel⟩, List.mem_of_getElem? (i := 1253) (by decide +kernel), List.mem_of_getElem? (i := 1974) (by decide +kernel), List.mem_of_getElem? (i := 1975) (by decide +kernel)⟩
theorem lw_p143 : lw_okq (⟨"FeatherBenchModel", "evalStruct", "(III)I"⟩, 125) := ⟨⟨by decide +kernel, by decide +kernel⟩, List.mem_of_getElem? (i := 1253) (by decide +kernel), List.mem_of_getElem? (i := 1978) (by decide +kernel), List.mem_of_getElem? (i := 1979) (by decide +kernel)⟩
def lw_privs_9 : List (MethodName × Nat) := [(⟨"FeatherBenchModel", "typeStruct", "(I)V"⟩, 125), (⟨"FeatherBenchModel", "isOfStruct", "(I)Z"⟩, 125), (⟨"FeatherBenchModel", "takes", "(III)V"⟩, 125), (⟨"FeatherBenchModel", "firstOf", "(I)I"⟩, 125), (⟨"FeatherBenchModel", "typeField", "(I)V"⟩, 125), (⟨"FeatherBenchModel", "fieldOf", "(II)Z"⟩, 125), (⟨"FeatherBenchModel", "typeMethod", "(I)V"⟩, 125), (⟨"FeatherBenchModel", "keepOpen", "(I)V"⟩, 125), (⟨"FeatherBenchModel", "told", "(III)V"⟩, 125), (⟨"FeatherBenchModel", "typeAssert", "(I)V"⟩, 125), (⟨"FeatherBenchModel", "forget", "()V"⟩, 125), (⟨"FeatherBenchModel", "asks", "()V"⟩, 125), (⟨"FeatherBenchModel", "askedType", "()I"⟩, 125), (⟨"FeatherBenchModel", "isGood", "(I)Z"⟩, 125), (⟨"FeatherBenchModel", "eval", "(III)I"⟩, 125), (⟨"FeatherBenchModel", "evalStruct", "(III)I"⟩, 125)]
theorem lw_r9 : ∀ q ∈ lw_privs_9, lw_okq q := List.forall_mem_cons.mpr ⟨lw_p128, List.forall_mem_cons.mpr ⟨lw_p129, List.forall_mem_cons.mpr ⟨lw_p130, List.forall_mem_cons.mpr ⟨lw_p131, List.forall_mem_cons.mpr ⟨lw_p132, List.forall_mem_cons.mpr ⟨lw_p133, List.forall_mem_cons.mpr ⟨lw_p134, List.forall_mem_cons.mpr ⟨lw_p135, List.forall_mem_cons.mpr ⟨lw_p136, List.forall_mem_cons.mpr ⟨lw_p137, List.forall_mem_cons.mpr ⟨lw_p138, List.forall_mem_cons.mpr ⟨lw_p139, List.forall_mem_cons.mpr ⟨lw_p140, List.forall_mem_cons.mpr ⟨lw_p141, List.forall_mem_cons.mpr ⟨lw_p142, List.forall_mem_cons.mpr ⟨lw_p143, fun _ h => absurd h List.not_mem_nil⟩⟩⟩⟩⟩⟩⟩⟩⟩⟩⟩⟩⟩⟩⟩⟩
theorem lw_p144 : lw_okq (⟨"FeatherBenchModel", "putForRun", "(II)I"⟩, 125) := ⟨⟨by decide +kernel, by decide +kernel⟩, List.mem_of_getElem? (i := 1253) (by decide +kernel), List.mem_of_getElem? (i := 1982) (by decide +kernel), List.mem_of_getElem? (i := 1983) (by decide +kernel)⟩
theorem lw_p145 : lw_okq (⟨"FeatherBenchModel", "hasParams", "(II)Z"⟩, 125) := ⟨⟨by decide +kernel, by decide +kernel⟩, List.mem_of_getElem? (i := 1253) (by decide +kernel), List.mem_of_getElem? (i := 1986) (by decide +kernel), List.mem_of_getElem? (i := 1987) (by decide +kernel)⟩
theorem lw_p146 : lw_okq (⟨"FeatherBenchModel", "spend", "(I)I"⟩, 125) := ⟨⟨by decide +kernel, by decide +kernel⟩, List.mem_of_getElem? (i := 1253) (by decide +kernel), List.mem_of_getElem? (i := 1990) (by decide +kernel), List.mem_of_getElem? (i := 1991) (by decide +kernel)⟩
theorem lw_p147 : lw_okq (⟨"FeatherBenchModel", "evalField", "(I)I"⟩, 125) := ⟨⟨by decide +kernel, by decide +kernel⟩, List.mem_of_getElem? (i := 1253) (by decide +kernel), List.mem_of_getElem? (i := 1994) (by decide +kernel), List.mem_of_getElem? (i := 1995) (by decide +kernel)⟩
theorem lw_p148 : lw_okq (⟨"FeatherBenchModel", "evalMethod", "(III)I"⟩, 125) := ⟨⟨by decide +kernel, by decide +kernel⟩, List.mem_of_getElem? (i := 1253) (by decide +kernel), List.mem_of_getElem? (i := 1998) (by decide +kernel), List.mem_of_getElem? (i := 1999) (by decide +kernel)⟩
theorem lw_p149 : lw_okq (⟨"FeatherBenchModel", "evalCall", "(III)I"⟩, 125) := ⟨⟨by decide +kernel, by decide +kernel⟩, List.mem_of_getElem? (i := 1253) (by decide +kernel), List.mem_of_getElem? (i := 2002) (by decide +kernel), List.mem_of_getElem? (i := 2003) (by decide +kernel)⟩
theorem lw_p150 : lw_okq (⟨"FeatherBenchModel", "funcOf", "(I)I"⟩, 125) := ⟨⟨by decide +kernel, by decide +kernel⟩, List.mem_of_getElem? (i := 1253) (by decide +kernel), List.mem_of_getElem? (i := 2006) (by decide +kernel), List.mem_of_getElem? (i := 2007) (by decide +kernel)⟩
theorem lw_p151 : lw_okq (⟨"FeatherBenchModel", "evalAssert", "(II)I"⟩, 125) := ⟨⟨by decide +kernel, by decide +kernel⟩, List.mem_of_getElem? (i := 1253) (by decide +kernel), List.mem_of_getElem? (i := 2010) (by decide +kernel), List.mem_of_getElem? (i := 2011) (by decide +kernel)⟩
theorem lw_p152 : lw_okq (⟨"FeatherBenchModel", "addE", "(II)V"⟩, 125) := ⟨⟨by decide +kernel, by decide +kernel⟩, List.mem_of_getElem? (i := 1253) (by decide +kernel), List.mem_of_getElem? (i := 2026) (by decide +kernel), List.mem_of_getElem? (i := 2027) (by decide +kernel)⟩
theorem lw_p153 : lw_okq (⟨"FeatherBenchModel", "addMethod", "(II)V"⟩, 125) := ⟨⟨by decide +kernel, by decide +kernel⟩, List.mem_of_getElem? (i := 1253) (by decide +kernel), List.mem_of_getElem? (i := 2030) (by decide +kernel), List.mem_of_getElem? (i := 2031) (by decide +kernel)⟩
theorem lw_p154 : lw_okq (⟨"FeatherBenchModel", "putFor", "(II)Z"⟩, 125) := ⟨⟨by decide +kernel, by decide +kernel⟩, List.mem_of_getElem? (i := 1253) (by decide +kernel), List.mem_of_getElem? (i := 2034) (by decide +kernel), List.mem_of_getElem? (i := 2035) (by decide +kernel)⟩
theorem lw_p155 : lw_okq (⟨"FeatherBenchModel", "addRow", "(IIIII)V"⟩, 125) := ⟨⟨by decide +kernel, by decide +kernel⟩, List.mem_of_getElem? (i := 1253) (by decide +kernel), List.mem_of_getElem? (i := 2038) (by decide +kernel), List.mem_of_getElem? (i := 2039) (by decide +kernel)⟩
theorem lw_p156 : lw_okq (⟨"FeatherBenchModel", "addTypes", "(II)V"⟩, 125) := ⟨⟨by decide +kernel, by decide +kernel⟩, List.mem_of_getElem? (i := 1253) (by decide +kernel), List.mem_of_getElem? (i := 2042) (by decide +kernel), List.mem_of_getElem? (i := 2043) (by decide +kernel)⟩
theorem lw_p157 : lw_okq (⟨"FeatherBenchModel", "addParts", "(II)V"⟩, 125) := ⟨⟨by decide +kernel, by decide +kernel⟩, List.mem_of_getElem? (i := 1253) (by decide +kernel), List.mem_of_getElem? (i := 2046) (by decide +kernel), List.mem_of_getElem? (i := 2047) (by decide +kernel)⟩
theorem lw_p158 : lw_okq (⟨"FeatherBenchModel", "addBody", "(III)V"⟩, 125) := ⟨⟨by decide +kernel, by decide +kernel⟩, List.mem_of_getElem? (i := 1253) (by decide +kernel), List.mem_of_getElem? (i := 2050) (by decide +kernel), List.mem_of_getElem? (i := 2051) (by decide +kernel)⟩
theorem lw_p159 : lw_okq (⟨"FeatherBenchModel", "howMany", "(I)I"⟩, 125) := ⟨⟨by decide +kernel, by decide +kernel⟩, List.mem_of_getElem? (i := 1253) (by decide +kernel), List.mem_of_getElem? (i := 2054) (by decide +kernel), List.mem_of_getElem? (i := 2055) (by decide +kernel)⟩
def lw_privs_10 : List (MethodName × Nat) := [(⟨"FeatherBenchModel", "putForRun", "(II)I"⟩, 125), (⟨"FeatherBenchModel", "hasParams", "(II)Z"⟩, 125), (⟨"FeatherBenchModel", "spend", "(I)I"⟩, 125), (⟨"FeatherBenchModel", "evalField", "(I)I"⟩, 125), (⟨"FeatherBenchModel", "evalMethod", "(III)I"⟩, 125), (⟨"FeatherBenchModel", "evalCall", "(III)I"⟩, 125), (⟨"FeatherBenchModel", "funcOf", "(I)I"⟩, 125), (⟨"FeatherBenchModel", "evalAssert", "(II)I"⟩, 125), (⟨"FeatherBenchModel", "addE", "(II)V"⟩, 125), (⟨"FeatherBenchModel", "addMethod", "(II)V"⟩, 125), (⟨"FeatherBenchModel", "putFor", "(II)Z"⟩, 125), (⟨"FeatherBenchModel", "addRow", "(IIIII)V"⟩, 125), (⟨"FeatherBenchModel", "addTypes", "(II)V"⟩, 125), (⟨"FeatherBenchModel", "addParts", "(II)V"⟩, 125), (⟨"FeatherBenchModel", "addBody", "(III)V"⟩, 125), (⟨"FeatherBenchModel", "howMany", "(I)I"⟩, 125)]
theorem lw_r10 : ∀ q ∈ lw_privs_10, lw_okq q := List.forall_mem_cons.mpr ⟨lw_p144, List.forall_mem_cons.mpr ⟨lw_p145, List.forall_mem_cons.mpr ⟨lw_p146, List.forall_mem_cons.mpr ⟨lw_p147, List.forall_mem_cons.mpr ⟨lw_p148, List.forall_mem_cons.mpr ⟨lw_p149, List.forall_mem_cons.mpr ⟨lw_p150, List.forall_mem_cons.mpr ⟨lw_p151, List.forall_mem_cons.mpr ⟨lw_p152, List.forall_mem_cons.mpr ⟨lw_p153, List.forall_mem_cons.mpr ⟨lw_p154, List.forall_mem_cons.mpr ⟨lw_p155, List.forall_mem_cons.mpr ⟨lw_p156, List.forall_mem_cons.mpr ⟨lw_p157, List.forall_mem_cons.mpr ⟨lw_p158, List.forall_mem_cons.mpr ⟨lw_p159, fun _ h => absurd h List.not_mem_nil⟩⟩⟩⟩⟩⟩⟩⟩⟩⟩⟩⟩⟩⟩⟩⟩
theorem lw_p160 : lw_okq (⟨"FeatherBenchModel", "sayValue", "(I)V"⟩, 125) := ⟨⟨by decide +kernel, by decide +kernel⟩, List.mem_of_getElem? (i := 1253) (by decide +kernel), List.mem_of_getElem? (i := 2070) (by decide +kernel), List.mem_of_getElem? (i := 2071) (by decide +kernel)⟩
theorem lw_p161 : lw_okq (⟨"FeatherBenchModel", "beginValue", "(I)V"⟩, 125) := ⟨⟨by decide +kernel, by decide +kernel⟩, List.mem_of_getElem? (i := 1253) (by decide +kernel), List.mem_of_getElem? (i := 2074) (by decide +kernel), List.mem_of_getElem? (i := 2075) (by decide +kernel)⟩
theorem lw_p162 : lw_okq (⟨"FeatherBenchModel", "sayType", "(I)I"⟩, 125) := ⟨⟨by decide +kernel, by decide +kernel⟩, List.mem_of_getElem? (i := 1253) (by decide +kernel), List.mem_of_getElem? (i := 2078) (by decide +kernel), List.mem_of_getElem? (i := 2079) (by decide +kernel)⟩
theorem lw_p163 : lw_okq (⟨"FeatherBenchModel", "sayWord", "(I)V"⟩, 125) := ⟨⟨by decide +kernel, by decide +kernel⟩, List.mem_of_getElem? (i := 1253) (by decide +kernel), List.mem_of_getElem? (i := 2082) (by decide +kernel), List.mem_of_getElem? (i := 2083) (by decide +kernel)⟩
theorem lw_p164 : lw_okq (⟨"FeatherBenchModel", "sayPart", "(J)V"⟩, 125) := ⟨⟨by decide +kernel, by decide +kernel⟩, List.mem_of_getElem? (i := 1253) (by decide +kernel), List.mem_of_getElem? (i := 2086) (by decide +kernel), List.mem_of_getElem? (i := 2087) (by decide +kernel)⟩
theorem lw_p165 : lw_okq (⟨"FeatherBenchModel", "say", "(I)V"⟩, 125) := ⟨⟨by decide +kernel, by decide +kernel⟩, List.mem_of_getElem? (i := 1253) (by decide +kernel), List.mem_of_getElem? (i := 2093) (by decide +kernel), List.mem_of_getElem? (i := 2094) (by decide +kernel)⟩
def lw_privs_11 : List (MethodName × Nat) := [(⟨"FeatherBenchModel", "sayValue", "(I)V"⟩, 125), (⟨"FeatherBenchModel", "beginValue", "(I)V"⟩, 125), (⟨"FeatherBenchModel", "sayType", "(I)I"⟩, 125), (⟨"FeatherBenchModel", "sayWord", "(I)V"⟩, 125), (⟨"FeatherBenchModel", "sayPart", "(J)V"⟩, 125), (⟨"FeatherBenchModel", "say", "(I)V"⟩, 125)]
theorem lw_r11 : ∀ q ∈ lw_privs_11, lw_okq q := List.forall_mem_cons.mpr ⟨lw_p160, List.forall_mem_cons.mpr ⟨lw_p161, List.forall_mem_cons.mpr ⟨lw_p162, List.forall_mem_cons.mpr ⟨lw_p163, List.forall_mem_cons.mpr ⟨lw_p164, List.forall_mem_cons.mpr ⟨lw_p165, fun _ h => absurd h List.not_mem_nil⟩⟩⟩⟩⟩⟩
def lw_privs : List (MethodName × Nat) := lw_privs_1 ++ (lw_privs_2 ++ (lw_privs_3 ++ (lw_privs_4 ++ (lw_privs_5 ++ (lw_privs_6 ++ (lw_privs_7 ++ (lw_privs_8 ++ (lw_privs_9 ++ (lw_privs_10 ++ (lw_privs_11))))))))))
def lw_tbl : List Cond := k2_sels lw_privs ++ tables_1
theorem lw_privs_ok : ∀ q ∈ lw_privs, lw_okq q := by
  show ∀ q ∈ lw_privs_1 ++ (lw_privs_2 ++ (lw_privs_3 ++ (lw_privs_4 ++ (lw_privs_5 ++ (lw_privs_6 ++ (lw_privs_7 ++ (lw_privs_8 ++ (lw_privs_9 ++ (lw_privs_10 ++ (lw_privs_11)))))))))), lw_okq q
  exact List.forall_mem_append.mpr ⟨lw_r1, List.forall_mem_append.mpr ⟨lw_r2, List.forall_mem_append.mpr ⟨lw_r3, List.forall_mem_append.mpr ⟨lw_r4, List.forall_mem_append.mpr ⟨lw_r5, List.forall_mem_append.mpr ⟨lw_r6, List.forall_mem_append.mpr ⟨lw_r7, List.forall_mem_append.mpr ⟨lw_r8, List.forall_mem_append.mpr ⟨lw_r9, List.forall_mem_append.mpr ⟨lw_r10, lw_r11⟩⟩⟩⟩⟩⟩⟩⟩⟩⟩
-- ===== end of PART A; then your names; then what follows =====
theorem goodIn_r {big : List Cond} (ws : List Cond) (ps : List Nat) (hp : ws = ps.filterMap (fun i => big[i]?)) (h : ws.all goodWord = true) : GoodIn big ws := by
  intro w hw
  have h1 := List.all_eq_true.mp h w hw
  rw [hp] at hw
  obtain ⟨i, -, hi⟩ := List.mem_filterMap.mp hw
  have hm : w ∈ big := by first | exact List.mem_of_getElem? hi | exact List.getElem?_mem hi
  exact ⟨hm, good_of_word h1⟩
theorem goodIn_app {big a b : List Cond} (ha : GoodIn big a) (hb : GoodIn big b) : GoodIn big (a ++ b) := fun w h => (List.mem_append.mp h).elim (ha w) (hb w)
theorem goodIn_ca {big a b : List Cond} {c : Cond} (ha : GoodIn big (c :: a)) (hb : GoodIn big b) : GoodIn big (c :: (a ++ b)) := fun w h => (List.mem_cons.mp h).elim (fun e => ha w (List.mem_cons.mpr (Or.inl e))) (fun h => (List.mem_append.mp h).elim (fun h => ha w (List.mem_cons.mpr (Or.inr h))) (hb w))
theorem goodIn_sub {big ws : List Cond} (hm : ∀ w ∈ ws, w ∈ big) (h : ws.all goodWord = true) : GoodIn big ws := fun w hw => ⟨hm w hw, good_of_word (List.all_eq_true.mp h w hw)⟩
def RX0 : String := "FeatherBench$Asked"
def TX0 : u_T := fun k => match k with
  | 0 => ("FeatherBench$Asked", "text", "LFeatherBench$Text;", true)
  | 1 => ("FeatherBench$Asked", "opens", "LFeatherBench$Row;", true)
  | 2 => ("FeatherBench$Asked", "shapes", "LFeatherBench$Shapes;", true)
  | 3 => ("FeatherBench$Asked", "told", "LFeatherBench$Told;", true)
  | 4 => ("FeatherBench$Asked", "deep", "Z", false)
  | 5 => ("FeatherBench$Asked", "first", "I", false)
  | _ => ("FeatherBench$Asked", "second", "I", false)
def tyX0 : Nat → FieldType := fun k => match k with
  | 0 => .object "FeatherBench$Text"
  | 1 => .object "FeatherBench$Row"
  | 2 => .object "FeatherBench$Shapes"
  | 3 => .object "FeatherBench$Told"
  | 4 => .boolean
  | 5 => .int
  | _ => .int
abbrev wsX00 : List Cond := u_ws RX0 TX0 7
theorem nmX0 : ∀ a, a < 7 → ∀ b, b < 7 → a ≠ b → (TX0 a).2.1 ≠ (TX0 b).2.1 := by decide +kernel
theorem tyX0_ok : ∀ k, k < 7 → parseFieldDescriptor (TX0 k).2.2.1 = some (tyX0 k) := by decide +kernel
abbrev cX0_init : ByteArray := prog_2_method_1_code
def yX0_init : MethodName := ⟨RX0, "<init>", "(LFeatherBench$Shapes;LFeatherBench$Told;)V"⟩
abbrev cX0_read : ByteArray := prog_2_method_2_code
def yX0_read : MethodName := ⟨RX0, "read", "(LFeatherBench$Program;I)I"⟩
abbrev cX0_passType : ByteArray := prog_2_method_3_code
def yX0_passType : MethodName := ⟨RX0, "passType", "(I)I"⟩
abbrev cX0_countOne : ByteArray := prog_2_method_4_code
def yX0_countOne : MethodName := ⟨RX0, "countOne", "(I)V"⟩
def RX1 : String := "FeatherBench$Bodies"
def TX1 : u_T := fun k => match k with
  | 0 => ("FeatherBench$Bodies", "shapes", "LFeatherBench$Shapes;", true)
  | 1 => ("FeatherBench$Bodies", "told", "LFeatherBench$Told;", true)
  | 2 => ("FeatherBench$Bodies", "p", "LFeatherBench$Program;", false)
  | 3 => ("FeatherBench$Bodies", "text", "LFeatherBench$Text;", false)
  | 4 => ("FeatherBench$Bodies", "kinds", "LFeatherBench$Row;", false)
  | 5 => ("FeatherBench$Bodies", "at", "I", false)
  | 6 => ("FeatherBench$Bodies", "func", "I", false)
  | _ => ("FeatherBench$Bodies", "selfType", "I", false)
def tyX1 : Nat → FieldType := fun k => match k with
  | 0 => .object "FeatherBench$Shapes"
  | 1 => .object "FeatherBench$Told"
  | 2 => .object "FeatherBench$Program"
  | 3 => .object "FeatherBench$Text"
  | 4 => .object "FeatherBench$Row"
  | 5 => .int
  | 6 => .int
  | _ => .int
abbrev wsX10 : List Cond := u_ws RX1 TX1 8
theorem nmX1 : ∀ a, a < 8 → ∀ b, b < 8 → a ≠ b → (TX1 a).2.1 ≠ (TX1 b).2.1 := by decide +kernel
theorem tyX1_ok : ∀ k, k < 8 → parseFieldDescriptor (TX1 k).2.2.1 = some (tyX1 k) := by decide +kernel
abbrev cX1_init : ByteArray := prog_3_method_1_code
def yX1_init : MethodName := ⟨RX1, "<init>", "(LFeatherBench$Program;LFeatherBench$Shapes;LFeatherBench$Told;)V"⟩
abbrev cX1_check : ByteArray := prog_3_method_2_code
def yX1_check : MethodName := ⟨RX1, "check", "(LFeatherBench$Program;)V"⟩
abbrev cX1_enterFunc : ByteArray := prog_3_method_3_code
def yX1_enterFunc : MethodName := ⟨RX1, "enterFunc", "(I)V"⟩
abbrev cX1_value : ByteArray := prog_3_method_4_code
def yX1_value : MethodName := ⟨RX1, "value", "(I)I"⟩
abbrev cX1_behindPoint : ByteArray := prog_3_method_5_code
def yX1_behindPoint : MethodName := ⟨RX1, "behindPoint", "(II)I"⟩
abbrev cX1_variable : ByteArray := prog_3_method_6_code
def yX1_variable : MethodName := ⟨RX1, "variable", "()I"⟩
abbrev cX1_literal : ByteArray := prog_3_method_7_code
def yX1_literal : MethodName := ⟨RX1, "literal", "(I)I"⟩
abbrev cX1_parts : ByteArray := prog_3_method_8_code
def yX1_parts : MethodName := ⟨RX1, "parts", "(IIIIII)V"⟩
abbrev cX1_field : ByteArray := prog_3_method_9_code
def yX1_field : MethodName := ⟨RX1, "field", "(II)I"⟩
abbrev cX1_resultType : ByteArray := prog_3_method_10_code
def yX1_resultType : MethodName := ⟨RX1, "resultType", "(IIIII)I"⟩
abbrev cX1_method : ByteArray := prog_3_method_11_code
def yX1_method : MethodName := ⟨RX1, "method", "(II)I"⟩
abbrev cX1_fitTypes : ByteArray := prog_3_method_12_code
def yX1_fitTypes : MethodName := ⟨RX1, "fitTypes", "(IIII)V"⟩
def RX2 : String := "FeatherBench$Machine"
def TX2 : u_T := fun k => match k with
  | 0 => ("FeatherBench$Machine", "shapes", "LFeatherBench$Shapes;", true)
  | 1 => ("FeatherBench$Machine", "stack", "LFeatherBench$Row;", true)
  | 2 => ("FeatherBench$Machine", "frames", "LFeatherBench$Row;", true)
  | 3 => ("FeatherBench$Machine", "envs", "[LFeatherBench$Row;", true)
  | 4 => ("FeatherBench$Machine", "values", "LFeatherBench$Row;", true)
  | 5 => ("FeatherBench$Machine", "p", "LFeatherBench$Program;", false)
  | 6 => ("FeatherBench$Machine", "pc", "I", false)
  | 7 => ("FeatherBench$Machine", "height", "I", false)
  | 8 => ("FeatherBench$Machine", "depth", "I", false)
  | 9 => ("FeatherBench$Machine", "left", "I", false)
  | 10 => ("FeatherBench$Machine", "steps", "I", false)
  | 11 => ("FeatherBench$Machine", "callCount", "I", false)
  | 12 => ("FeatherBench$Machine", "failedAt", "I", false)
  | 13 => ("FeatherBench$Machine", "outcome", "I", false)
  | _ => ("FeatherBench$Machine", "result", "I", false)
def tyX2 : Nat → FieldType := fun k => match k with
  | 0 => .object "FeatherBench$Shapes"
  | 1 => .object "FeatherBench$Row"
  | 2 => .object "FeatherBench$Row"
  | 3 => .array (.object "FeatherBench$Row")
  | 4 => .object "FeatherBench$Row"
  | 5 => .object "FeatherBench$Program"
  | 6 => .int
  | 7 => .int
  | 8 => .int
  | 9 => .int
  | 10 => .int
  | 11 => .int
  | 12 => .int
  | 13 => .int
  | _ => .int
abbrev wsX20 : List Cond := u_ws RX2 TX2 15
theorem nmX2 : ∀ a, a < 15 → ∀ b, b < 15 → a ≠ b → (TX2 a).2.1 ≠ (TX2 b).2.1 := by decide +kernel
theorem tyX2_ok : ∀ k, k < 15 → parseFieldDescriptor (TX2 k).2.2.1 = some (tyX2 k) := by decide +kernel
abbrev cX2_init : ByteArray := prog_4_method_1_code
def yX2_init : MethodName := ⟨RX2, "<init>", "(LFeatherBench$Program;LFeatherBench$Shapes;)V"⟩
abbrev cX2_forget : ByteArray := prog_4_method_2_code
def yX2_forget : MethodName := ⟨RX2, "forget", "()V"⟩
abbrev cX2_start : ByteArray := prog_4_method_3_code
def yX2_start : MethodName := ⟨RX2, "start", "(LFeatherBench$Program;I)V"⟩
abbrev cX2_go : ByteArray := prog_4_method_4_code
def yX2_go : MethodName := ⟨RX2, "go", "()V"⟩
abbrev cX2_step : ByteArray := prog_4_method_5_code
def yX2_step : MethodName := ⟨RX2, "step", "(I)V"⟩
abbrev cX2_push : ByteArray := prog_4_method_6_code
def yX2_push : MethodName := ⟨RX2, "push", "(I)V"⟩
abbrev cX2_pop : ByteArray := prog_4_method_7_code
def yX2_pop : MethodName := ⟨RX2, "pop", "()I"⟩
abbrev cX2_take : ByteArray := prog_4_method_8_code
def yX2_take : MethodName := ⟨RX2, "take", "(I)Z"⟩
abbrev cX2_env : ByteArray := prog_4_method_9_code
def yX2_env : MethodName := ⟨RX2, "env", "(I)LFeatherBench$Row;"⟩
abbrev cX2_putType : ByteArray := prog_4_method_10_code
def yX2_putType : MethodName := ⟨RX2, "putType", "(I)I"⟩
abbrev cX2_makeValue : ByteArray := prog_4_method_11_code
def yX2_makeValue : MethodName := ⟨RX2, "makeValue", "(I)V"⟩
abbrev cX2_call : ByteArray := prog_4_method_12_code
def yX2_call : MethodName := ⟨RX2, "call", "(II)V"⟩
abbrev cX2_cast : ByteArray := prog_4_method_13_code
def yX2_cast : MethodName := ⟨RX2, "cast", "(II)V"⟩
abbrev cX2_leave : ByteArray := prog_4_method_14_code
def yX2_leave : MethodName := ⟨RX2, "leave", "()V"⟩
def RX3 : String := "FeatherBench$Press"
def TX3 : u_T := fun k => match k with
  | 0 => ("FeatherBench$Press", "signs", "LFeatherBench$Row;", true)
  | 1 => ("FeatherBench$Press", "open", "LFeatherBench$Row;", true)
  | 2 => ("FeatherBench$Press", "openTypes", "LFeatherBench$Row;", true)
  | _ => ("FeatherBench$Press", "p", "LFeatherBench$Program;", false)
def tyX3 : Nat → FieldType := fun k => match k with
  | 0 => .object "FeatherBench$Row"
  | 1 => .object "FeatherBench$Row"
  | 2 => .object "FeatherBench$Row"
  | _ => .object "FeatherBench$Program"
abbrev wsX30 : List Cond := u_ws RX3 TX3 4
theorem nmX3 : ∀ a, a < 4 → ∀ b, b < 4 → a ≠ b → (TX3 a).2.1 ≠ (TX3 b).2.1 := by decide +kernel
theorem tyX3_ok : ∀ k, k < 4 → parseFieldDescriptor (TX3 k).2.2.1 = some (tyX3 k) := by decide +kernel
abbrev cX3_init : ByteArray := prog_5_method_1_code
def yX3_init : MethodName := ⟨RX3, "<init>", "(LFeatherBench$Program;)V"⟩
abbrev cX3_begin : ByteArray := prog_5_method_2_code
def yX3_begin : MethodName := ⟨RX3, "begin", "(LFeatherBench$Program;)V"⟩
abbrev cX3_putType : ByteArray := prog_5_method_3_code
def yX3_putType : MethodName := ⟨RX3, "putType", "(I)V"⟩
abbrev cX3_putWord : ByteArray := prog_5_method_4_code
def yX3_putWord : MethodName := ⟨RX3, "putWord", "(I)V"⟩
abbrev cX3_putValue : ByteArray := prog_5_method_5_code
def yX3_putValue : MethodName := ⟨RX3, "putValue", "(LFeatherBench$Row;I)V"⟩
abbrev cX3_openValue : ByteArray := prog_5_method_6_code
def yX3_openValue : MethodName := ⟨RX3, "openValue", "(LFeatherBench$Row;II)V"⟩
def RX4 : String := "FeatherBench$Program"
def TX4 : u_T := fun k => match k with
  | 0 => ("FeatherBench$Program", "text", "LFeatherBench$Text;", true)
  | 1 => ("FeatherBench$Program", "words", "LFeatherBench$Row;", true)
  | 2 => ("FeatherBench$Program", "tokens", "LFeatherBench$Row;", true)
  | 3 => ("FeatherBench$Program", "arities", "LFeatherBench$Row;", true)
  | 4 => ("FeatherBench$Program", "types", "LFeatherBench$Row;", true)
  | 5 => ("FeatherBench$Program", "funcs", "LFeatherBench$Row;", true)
  | 6 => ("FeatherBench$Program", "sigs", "LFeatherBench$Row;", true)
  | 7 => ("FeatherBench$Program", "slots", "LFeatherBench$Row;", true)
  | 8 => ("FeatherBench$Program", "decls", "LFeatherBench$Row;", true)
  | 9 => ("FeatherBench$Program", "code", "LFeatherBench$Row;", true)
  | 10 => ("FeatherBench$Program", "kept", "I", false)
  | 11 => ("FeatherBench$Program", "mainBody", "I", false)
  | 12 => ("FeatherBench$Program", "mainCode", "I", false)
  | 13 => ("FeatherBench$Program", "mainType", "I", false)
  | _ => ("FeatherBench$Program", "fault", "I", false)
def tyX4 : Nat → FieldType := fun k => match k with
  | 0 => .object "FeatherBench$Text"
  | 1 => .object "FeatherBench$Row"
  | 2 => .object "FeatherBench$Row"
  | 3 => .object "FeatherBench$Row"
  | 4 => .object "FeatherBench$Row"
  | 5 => .object "FeatherBench$Row"
  | 6 => .object "FeatherBench$Row"
  | 7 => .object "FeatherBench$Row"
  | 8 => .object "FeatherBench$Row"
  | 9 => .object "FeatherBench$Row"
  | 10 => .int
  | 11 => .int
  | 12 => .int
  | 13 => .int
  | _ => .int
abbrev wsX40 : List Cond := u_ws RX4 TX4 15
theorem nmX4 : ∀ a, a < 15 → ∀ b, b < 15 → a ≠ b → (TX4 a).2.1 ≠ (TX4 b).2.1 := by decide +kernel
theorem tyX4_ok : ∀ k, k < 15 → parseFieldDescriptor (TX4 k).2.2.1 = some (tyX4 k) := by decide +kernel
abbrev cX4_init : ByteArray := prog_6_method_1_code
def yX4_init : MethodName := ⟨RX4, "<init>", "()V"⟩
abbrev cX4_begin : ByteArray := prog_6_method_2_code
def yX4_begin : MethodName := ⟨RX4, "begin", "(LFeatherBench$Row;)V"⟩
abbrev cX4_blame : ByteArray := prog_6_method_3_code
def yX4_blame : MethodName := ⟨RX4, "blame", "(II)V"⟩
abbrev cX4_type : ByteArray := prog_6_method_4_code
def yX4_type : MethodName := ⟨RX4, "type", "(II)I"⟩
abbrev cX4_func : ByteArray := prog_6_method_5_code
def yX4_func : MethodName := ⟨RX4, "func", "(II)I"⟩
abbrev cX4_sig : ByteArray := prog_6_method_6_code
def yX4_sig : MethodName := ⟨RX4, "sig", "(II)I"⟩
abbrev cX4_slot : ByteArray := prog_6_method_7_code
def yX4_slot : MethodName := ⟨RX4, "slot", "(II)I"⟩
abbrev cX4_decl : ByteArray := prog_6_method_8_code
def yX4_decl : MethodName := ⟨RX4, "decl", "(II)I"⟩
abbrev cX4_typeCount : ByteArray := prog_6_method_9_code
def yX4_typeCount : MethodName := ⟨RX4, "typeCount", "()I"⟩
abbrev cX4_funcCount : ByteArray := prog_6_method_10_code
def yX4_funcCount : MethodName := ⟨RX4, "funcCount", "()I"⟩
abbrev cX4_sigCount : ByteArray := prog_6_method_11_code
def yX4_sigCount : MethodName := ⟨RX4, "sigCount", "()I"⟩
abbrev cX4_slotCount : ByteArray := prog_6_method_12_code
def yX4_slotCount : MethodName := ⟨RX4, "slotCount", "()I"⟩
abbrev cX4_declCount : ByteArray := prog_6_method_13_code
def yX4_declCount : MethodName := ⟨RX4, "declCount", "()I"⟩
abbrev cX4_isStruct : ByteArray := prog_6_method_14_code
def yX4_isStruct : MethodName := ⟨RX4, "isStruct", "(I)Z"⟩
abbrev cX4_isInterface : ByteArray := prog_6_method_15_code
def yX4_isInterface : MethodName := ⟨RX4, "isInterface", "(I)Z"⟩
abbrev cX4_typeNamed : ByteArray := prog_6_method_16_code
def yX4_typeNamed : MethodName := ⟨RX4, "typeNamed", "(LFeatherBench$Text;I)I"⟩
abbrev cX4_sigOf : ByteArray := prog_6_method_17_code
def yX4_sigOf : MethodName := ⟨RX4, "sigOf", "(II)I"⟩
abbrev cX4_funcOf : ByteArray := prog_6_method_18_code
def yX4_funcOf : MethodName := ⟨RX4, "funcOf", "(II)I"⟩
abbrev cX4_addSlot : ByteArray := prog_6_method_19_code
def yX4_addSlot : MethodName := ⟨RX4, "addSlot", "(IIII)V"⟩
abbrev cX4_addSig : ByteArray := prog_6_method_20_code
def yX4_addSig : MethodName := ⟨RX4, "addSig", "(IIII)V"⟩
abbrev cX4_addType : ByteArray := prog_6_method_21_code
def yX4_addType : MethodName := ⟨RX4, "addType", "(IIIIII)V"⟩
abbrev cX4_addFunc : ByteArray := prog_6_method_22_code
def yX4_addFunc : MethodName := ⟨RX4, "addFunc", "(IIIIII)V"⟩
abbrev cX4_addDecl : ByteArray := prog_6_method_23_code
def yX4_addDecl : MethodName := ⟨RX4, "addDecl", "(II)V"⟩
abbrev cX4_addCode : ByteArray := prog_6_method_24_code
def yX4_addCode : MethodName := ⟨RX4, "addCode", "(IIIIII)V"⟩
def RX5 : String := "FeatherBench$Reader"
def TX5 : u_T := fun k => match k with
  | 0 => ("FeatherBench$Reader", "p", "LFeatherBench$Program;", false)
  | 1 => ("FeatherBench$Reader", "text", "LFeatherBench$Text;", false)
  | 2 => ("FeatherBench$Reader", "kinds", "LFeatherBench$Row;", false)
  | _ => ("FeatherBench$Reader", "at", "I", false)
def tyX5 : Nat → FieldType := fun k => match k with
  | 0 => .object "FeatherBench$Program"
  | 1 => .object "FeatherBench$Text"
  | 2 => .object "FeatherBench$Row"
  | _ => .int
abbrev wsX50 : List Cond := u_ws RX5 TX5 4
theorem nmX5 : ∀ a, a < 4 → ∀ b, b < 4 → a ≠ b → (TX5 a).2.1 ≠ (TX5 b).2.1 := by decide +kernel
theorem tyX5_ok : ∀ k, k < 4 → parseFieldDescriptor (TX5 k).2.2.1 = some (tyX5 k) := by decide +kernel
abbrev cX5_init : ByteArray := prog_7_method_1_code
def yX5_init : MethodName := ⟨RX5, "<init>", "(LFeatherBench$Program;)V"⟩
abbrev cX5_read : ByteArray := prog_7_method_2_code
def yX5_read : MethodName := ⟨RX5, "read", "(LFeatherBench$Program;)V"⟩
abbrev cX5_readType : ByteArray := prog_7_method_3_code
def yX5_readType : MethodName := ⟨RX5, "readType", "()V"⟩
abbrev cX5_readFunc : ByteArray := prog_7_method_4_code
def yX5_readFunc : MethodName := ⟨RX5, "readFunc", "()V"⟩
abbrev cX5_readParams : ByteArray := prog_7_method_5_code
def yX5_readParams : MethodName := ⟨RX5, "readParams", "(I)I"⟩
abbrev cX5_readNamed : ByteArray := prog_7_method_6_code
def yX5_readNamed : MethodName := ⟨RX5, "readNamed", "(III)I"⟩
abbrev cX5_readHead : ByteArray := prog_7_method_7_code
def yX5_readHead : MethodName := ⟨RX5, "readHead", "(I)V"⟩
abbrev cX5_passType : ByteArray := prog_7_method_8_code
def yX5_passType : MethodName := ⟨RX5, "passType", "(II)V"⟩
abbrev cX5_passTypes : ByteArray := prog_7_method_9_code
def yX5_passTypes : MethodName := ⟨RX5, "passTypes", "(I)V"⟩
abbrev cX5_passValue : ByteArray := prog_7_method_10_code
def yX5_passValue : MethodName := ⟨RX5, "passValue", "(II)V"⟩
abbrev cX5_passPoint : ByteArray := prog_7_method_11_code
def yX5_passPoint : MethodName := ⟨RX5, "passPoint", "(I)V"⟩
abbrev cX5_passValues : ByteArray := prog_7_method_12_code
def yX5_passValues : MethodName := ⟨RX5, "passValues", "(IIII)V"⟩
abbrev cX5_took : ByteArray := prog_7_method_13_code
def yX5_took : MethodName := ⟨RX5, "took", "(I)Z"⟩
abbrev cX5_expect : ByteArray := prog_7_method_14_code
def yX5_expect : MethodName := ⟨RX5, "expect", "(I)V"⟩
abbrev cX5_expectFirst : ByteArray := prog_7_method_15_code
def yX5_expectFirst : MethodName := ⟨RX5, "expectFirst", "(Z)V"⟩
def RX6 : String := "FeatherBench$Row"
def TX6 : u_T := fun k => match k with
  | 0 => ("FeatherBench$Row", "limit", "I", true)
  | 1 => ("FeatherBench$Row", "cells", "[I", false)
  | _ => ("FeatherBench$Row", "size", "I", false)
def tyX6 : Nat → FieldType := fun k => match k with
  | 0 => .int
  | 1 => .array .int
  | _ => .int
abbrev wsX60 : List Cond := u_ws RX6 TX6 3
theorem nmX6 : ∀ a, a < 3 → ∀ b, b < 3 → a ≠ b → (TX6 a).2.1 ≠ (TX6 b).2.1 := by decide +kernel
theorem tyX6_ok : ∀ k, k < 3 → parseFieldDescriptor (TX6 k).2.2.1 = some (tyX6 k) := by decide +kernel
abbrev cX6_init : ByteArray := prog_8_method_1_code
def yX6_init : MethodName := ⟨RX6, "<init>", "(II)V"⟩
abbrev cX6_get : ByteArray := prog_8_method_2_code
def yX6_get : MethodName := ⟨RX6, "get", "(I)I"⟩
abbrev cX6_set : ByteArray := prog_8_method_3_code
def yX6_set : MethodName := ⟨RX6, "set", "(II)V"⟩
abbrev cX6_add : ByteArray := prog_8_method_4_code
def yX6_add : MethodName := ⟨RX6, "add", "(I)V"⟩
abbrev cX6_clear : ByteArray := prog_8_method_5_code
def yX6_clear : MethodName := ⟨RX6, "clear", "()V"⟩
def RX7 : String := "FeatherBench$Shapes"
def TX7 : u_T := fun k => match k with
  | 0 => ("FeatherBench$Shapes", "p", "LFeatherBench$Program;", false)
  | 1 => ("FeatherBench$Shapes", "words", "LFeatherBench$Row;", false)
  | 2 => ("FeatherBench$Shapes", "arities", "LFeatherBench$Row;", false)
  | 3 => ("FeatherBench$Shapes", "top", "I", false)
  | 4 => ("FeatherBench$Shapes", "scopeType", "I", false)
  | 5 => ("FeatherBench$Shapes", "scopeNames", "I", false)
  | 6 => ("FeatherBench$Shapes", "scopeSig", "I", false)
  | 7 => ("FeatherBench$Shapes", "env", "LFeatherBench$Row;", true)
  | 8 => ("FeatherBench$Shapes", "mine", "LFeatherBench$Row;", true)
  | _ => ("FeatherBench$Shapes", "theirs", "LFeatherBench$Row;", true)
def tyX7 : Nat → FieldType := fun k => match k with
  | 0 => .object "FeatherBench$Program"
  | 1 => .object "FeatherBench$Row"
  | 2 => .object "FeatherBench$Row"
  | 3 => .int
  | 4 => .int
  | 5 => .int
  | 6 => .int
  | 7 => .object "FeatherBench$Row"
  | 8 => .object "FeatherBench$Row"
  | _ => .object "FeatherBench$Row"
abbrev wsX70 : List Cond := u_ws RX7 TX7 10
theorem nmX7 : ∀ a, a < 10 → ∀ b, b < 10 → a ≠ b → (TX7 a).2.1 ≠ (TX7 b).2.1 := by decide +kernel
theorem tyX7_ok : ∀ k, k < 10 → parseFieldDescriptor (TX7 k).2.2.1 = some (tyX7 k) := by decide +kernel
abbrev cX7_init : ByteArray := prog_9_method_1_code
def yX7_init : MethodName := ⟨RX7, "<init>", "(LFeatherBench$Program;)V"⟩
abbrev cX7_use : ByteArray := prog_9_method_2_code
def yX7_use : MethodName := ⟨RX7, "use", "(LFeatherBench$Program;I)V"⟩
abbrev cX7_enter : ByteArray := prog_9_method_3_code
def yX7_enter : MethodName := ⟨RX7, "enter", "(III)V"⟩
abbrev cX7_end : ByteArray := prog_9_method_4_code
def yX7_end : MethodName := ⟨RX7, "end", "(I)I"⟩
abbrev cX7_same : ByteArray := prog_9_method_5_code
def yX7_same : MethodName := ⟨RX7, "same", "(II)Z"⟩
abbrev cX7_bind : ByteArray := prog_9_method_6_code
def yX7_bind : MethodName := ⟨RX7, "bind", "(LFeatherBench$Row;II)V"⟩
abbrev cX7_fill : ByteArray := prog_9_method_7_code
def yX7_fill : MethodName := ⟨RX7, "fill", "(LFeatherBench$Row;III)V"⟩
abbrev cX7_put : ByteArray := prog_9_method_8_code
def yX7_put : MethodName := ⟨RX7, "put", "(ILFeatherBench$Row;)I"⟩
abbrev cX7_meets : ByteArray := prog_9_method_9_code
def yX7_meets : MethodName := ⟨RX7, "meets", "(II)I"⟩
abbrev cX7_alike : ByteArray := prog_9_method_10_code
def yX7_alike : MethodName := ⟨RX7, "alike", "(II)I"⟩
abbrev cX7_methodOwner : ByteArray := prog_9_method_11_code
def yX7_methodOwner : MethodName := ⟨RX7, "methodOwner", "(I)I"⟩
abbrev cX7_settle : ByteArray := prog_9_method_12_code
def yX7_settle : MethodName := ⟨RX7, "settle", "(II)I"⟩
abbrev cX7_keep : ByteArray := prog_9_method_13_code
def yX7_keep : MethodName := ⟨RX7, "keep", "(I)I"⟩
def RX8 : String := "FeatherBench$Stock"
def TX8 : u_T := fun k => match k with
  | 0 => ("FeatherBench$Stock", "shapes", "LFeatherBench$Shapes;", true)
  | 1 => ("FeatherBench$Stock", "types", "LFeatherBench$Row;", true)
  | 2 => ("FeatherBench$Stock", "calls", "LFeatherBench$Row;", true)
  | 3 => ("FeatherBench$Stock", "methods", "LFeatherBench$Row;", true)
  | 4 => ("FeatherBench$Stock", "fresh", "LFeatherBench$Row;", true)
  | 5 => ("FeatherBench$Stock", "p", "LFeatherBench$Program;", false)
  | 6 => ("FeatherBench$Stock", "words", "LFeatherBench$Row;", false)
  | 7 => ("FeatherBench$Stock", "next", "I", false)
  | 8 => ("FeatherBench$Stock", "tried", "Z", false)
  | 9 => ("FeatherBench$Stock", "complete", "Z", false)
  | _ => ("FeatherBench$Stock", "endless", "Z", false)
def tyX8 : Nat → FieldType := fun k => match k with
  | 0 => .object "FeatherBench$Shapes"
  | 1 => .object "FeatherBench$Row"
  | 2 => .object "FeatherBench$Row"
  | 3 => .object "FeatherBench$Row"
  | 4 => .object "FeatherBench$Row"
  | 5 => .object "FeatherBench$Program"
  | 6 => .object "FeatherBench$Row"
  | 7 => .int
  | 8 => .boolean
  | 9 => .boolean
  | _ => .boolean
abbrev wsX80 : List Cond := u_ws RX8 TX8 11
theorem nmX8 : ∀ a, a < 11 → ∀ b, b < 11 → a ≠ b → (TX8 a).2.1 ≠ (TX8 b).2.1 := by decide +kernel
theorem tyX8_ok : ∀ k, k < 11 → parseFieldDescriptor (TX8 k).2.2.1 = some (tyX8 k) := by decide +kernel
abbrev cX8_init : ByteArray := prog_10_method_1_code
def yX8_init : MethodName := ⟨RX8, "<init>", "(LFeatherBench$Program;LFeatherBench$Shapes;)V"⟩
abbrev cX8_forget : ByteArray := prog_10_method_2_code
def yX8_forget : MethodName := ⟨RX8, "forget", "()V"⟩
abbrev cX8_callCount : ByteArray := prog_10_method_3_code
def yX8_callCount : MethodName := ⟨RX8, "callCount", "()I"⟩
abbrev cX8_methodCount : ByteArray := prog_10_method_4_code
def yX8_methodCount : MethodName := ⟨RX8, "methodCount", "()I"⟩
abbrev cX8_make : ByteArray := prog_10_method_5_code
def yX8_make : MethodName := ⟨RX8, "make", "(LFeatherBench$Program;)V"⟩
abbrev cX8_find : ByteArray := prog_10_method_6_code
def yX8_find : MethodName := ⟨RX8, "find", "(I)I"⟩
abbrev cX8_answer : ByteArray := prog_10_method_7_code
def yX8_answer : MethodName := ⟨RX8, "answer", "(I)V"⟩
abbrev cX8_addMethod : ByteArray := prog_10_method_8_code
def yX8_addMethod : MethodName := ⟨RX8, "addMethod", "(III)V"⟩
abbrev cX8_openMethod : ByteArray := prog_10_method_9_code
def yX8_openMethod : MethodName := ⟨RX8, "openMethod", "(I)I"⟩
abbrev cX8_begin : ByteArray := prog_10_method_10_code
def yX8_begin : MethodName := ⟨RX8, "begin", "(III)V"⟩
abbrev cX8_holds : ByteArray := prog_10_method_11_code
def yX8_holds : MethodName := ⟨RX8, "holds", "(LFeatherBench$Row;I)Z"⟩
abbrev cX8_countAll : ByteArray := prog_10_method_12_code
def yX8_countAll : MethodName := ⟨RX8, "countAll", "()V"⟩
abbrev cX8_goThrough : ByteArray := prog_10_method_13_code
def yX8_goThrough : MethodName := ⟨RX8, "goThrough", "(I)V"⟩
abbrev cX8_addTypes : ByteArray := prog_10_method_14_code
def yX8_addTypes : MethodName := ⟨RX8, "addTypes", "(I)I"⟩
abbrev cX8_copy : ByteArray := prog_10_method_15_code
def yX8_copy : MethodName := ⟨RX8, "copy", "(II)I"⟩
abbrev cX8_addCall : ByteArray := prog_10_method_16_code
def yX8_addCall : MethodName := ⟨RX8, "addCall", "(I)V"⟩
def RX9 : String := "FeatherBench$Text"
def TX9 : u_T := fun k => match k with
  | 0 => ("FeatherBench$Text", "signs", "LFeatherBench$Row;", true)
  | 1 => ("FeatherBench$Text", "kinds", "LFeatherBench$Row;", true)
  | 2 => ("FeatherBench$Text", "places", "LFeatherBench$Row;", true)
  | 3 => ("FeatherBench$Text", "lengths", "LFeatherBench$Row;", true)
  | 4 => ("FeatherBench$Text", "words", "LFeatherBench$Row;", true)
  | 5 => ("FeatherBench$Text", "lists", "LFeatherBench$Row;", true)
  | 6 => ("FeatherBench$Text", "heads", "LFeatherBench$Row;", true)
  | _ => ("FeatherBench$Text", "chain", "LFeatherBench$Row;", true)
def tyX9 : Nat → FieldType := fun k => match k with
  | 0 => .object "FeatherBench$Row"
  | 1 => .object "FeatherBench$Row"
  | 2 => .object "FeatherBench$Row"
  | 3 => .object "FeatherBench$Row"
  | 4 => .object "FeatherBench$Row"
  | 5 => .object "FeatherBench$Row"
  | 6 => .object "FeatherBench$Row"
  | _ => .object "FeatherBench$Row"
abbrev wsX90 : List Cond := u_ws RX9 TX9 8
theorem nmX9 : ∀ a, a < 8 → ∀ b, b < 8 → a ≠ b → (TX9 a).2.1 ≠ (TX9 b).2.1 := by decide +kernel
theorem tyX9_ok : ∀ k, k < 8 → parseFieldDescriptor (TX9 k).2.2.1 = some (tyX9 k) := by decide +kernel
abbrev cX9_init : ByteArray := prog_11_method_1_code
def yX9_init : MethodName := ⟨RX9, "<init>", "()V"⟩
abbrev cX9_scan : ByteArray := prog_11_method_2_code
def yX9_scan : MethodName := ⟨RX9, "scan", "(LFeatherBench$Row;)V"⟩
abbrev cX9_same : ByteArray := prog_11_method_3_code
def yX9_same : MethodName := ⟨RX9, "same", "(ILFeatherBench$Text;I)Z"⟩
abbrev cX9_takeToken : ByteArray := prog_11_method_4_code
def yX9_takeToken : MethodName := ⟨RX9, "takeToken", "(I)I"⟩
abbrev cX9_addToken : ByteArray := prog_11_method_5_code
def yX9_addToken : MethodName := ⟨RX9, "addToken", "(III)V"⟩
abbrev cX9_firstLike : ByteArray := prog_11_method_6_code
def yX9_firstLike : MethodName := ⟨RX9, "firstLike", "(I)I"⟩
abbrev cX9_wordKind : ByteArray := prog_11_method_7_code
def yX9_wordKind : MethodName := ⟨RX9, "wordKind", "(II)I"⟩
abbrev cX9_spells : ByteArray := prog_11_method_8_code
def yX9_spells : MethodName := ⟨RX9, "spells", "(IILjava/lang/String;)Z"⟩
abbrev cX9_isLetter : ByteArray := prog_11_method_9_code
def yX9_isLetter : MethodName := ⟨RX9, "isLetter", "(I)Z"⟩
abbrev cX9_isDigit : ByteArray := prog_11_method_10_code
def yX9_isDigit : MethodName := ⟨RX9, "isDigit", "(I)Z"⟩
abbrev cX9_isSign : ByteArray := prog_11_method_11_code
def yX9_isSign : MethodName := ⟨RX9, "isSign", "(I)Z"⟩
def RX10 : String := "FeatherBench$Told"
def TX10 : u_T := fun k => match k with
  | 0 => ("FeatherBench$Told", "shapes", "LFeatherBench$Shapes;", true)
  | 1 => ("FeatherBench$Told", "p", "LFeatherBench$Program;", false)
  | _ => ("FeatherBench$Told", "text", "LFeatherBench$Text;", false)
def tyX10 : Nat → FieldType := fun k => match k with
  | 0 => .object "FeatherBench$Shapes"
  | 1 => .object "FeatherBench$Program"
  | _ => .object "FeatherBench$Text"
abbrev wsX100 : List Cond := u_ws RX10 TX10 3
theorem nmX10 : ∀ a, a < 3 → ∀ b, b < 3 → a ≠ b → (TX10 a).2.1 ≠ (TX10 b).2.1 := by decide +kernel
theorem tyX10_ok : ∀ k, k < 3 → parseFieldDescriptor (TX10 k).2.2.1 = some (tyX10 k) := by decide +kernel
abbrev cX10_init : ByteArray := prog_12_method_1_code
def yX10_init : MethodName := ⟨RX10, "<init>", "(LFeatherBench$Program;LFeatherBench$Shapes;)V"⟩
abbrev cX10_use : ByteArray := prog_12_method_2_code
def yX10_use : MethodName := ⟨RX10, "use", "(LFeatherBench$Program;LFeatherBench$Text;)V"⟩
abbrev cX10_findTwice : ByteArray := prog_12_method_3_code
def yX10_findTwice : MethodName := ⟨RX10, "findTwice", "(LFeatherBench$Program;)V"⟩
abbrev cX10_twiceInSlots : ByteArray := prog_12_method_4_code
def yX10_twiceInSlots : MethodName := ⟨RX10, "twiceInSlots", "(I)I"⟩
abbrev cX10_isOneScope : ByteArray := prog_12_method_5_code
def yX10_isOneScope : MethodName := ⟨RX10, "isOneScope", "(II)Z"⟩
abbrev cX10_isOneWord : ByteArray := prog_12_method_6_code
def yX10_isOneWord : MethodName := ⟨RX10, "isOneWord", "(II)Z"⟩
abbrev cX10_twiceOfType : ByteArray := prog_12_method_7_code
def yX10_twiceOfType : MethodName := ⟨RX10, "twiceOfType", "(I)I"⟩
abbrev cX10_twiceOfFunc : ByteArray := prog_12_method_8_code
def yX10_twiceOfFunc : MethodName := ⟨RX10, "twiceOfFunc", "(I)I"⟩
abbrev cX10_tellAll : ByteArray := prog_12_method_9_code
def yX10_tellAll : MethodName := ⟨RX10, "tellAll", "(LFeatherBench$Program;)V"⟩
abbrev cX10_bindFunc : ByteArray := prog_12_method_10_code
def yX10_bindFunc : MethodName := ⟨RX10, "bindFunc", "(I)V"⟩
abbrev cX10_enterDecl : ByteArray := prog_12_method_11_code
def yX10_enterDecl : MethodName := ⟨RX10, "enterDecl", "(I)V"⟩
abbrev cX10_tellSlot : ByteArray := prog_12_method_12_code
def yX10_tellSlot : MethodName := ⟨RX10, "tellSlot", "(I)V"⟩
abbrev cX10_tell : ByteArray := prog_12_method_13_code
def yX10_tell : MethodName := ⟨RX10, "tell", "(II)I"⟩
abbrev cX10_codeOf : ByteArray := prog_12_method_14_code
def yX10_codeOf : MethodName := ⟨RX10, "codeOf", "(I)I"⟩
abbrev cX10_lookAtAll : ByteArray := prog_12_method_15_code
def yX10_lookAtAll : MethodName := ⟨RX10, "lookAtAll", "(LFeatherBench$Program;)V"⟩
abbrev cX10_lookAtBounds : ByteArray := prog_12_method_16_code
def yX10_lookAtBounds : MethodName := ⟨RX10, "lookAtBounds", "(II)V"⟩
abbrev cX10_findHoldingItself : ByteArray := prog_12_method_17_code
def yX10_findHoldingItself : MethodName := ⟨RX10, "findHoldingItself", "(LFeatherBench$Program;)V"⟩
abbrev cX10_heldBy : ByteArray := prog_12_method_18_code
def yX10_heldBy : MethodName := ⟨RX10, "heldBy", "(I)I"⟩
def RX11 : String := "FeatherBench"
def TX11 : u_T := fun k => match k with
  | 0 => ("FeatherBench", "tape", "LFeatherBench$Row;", true)
  | 1 => ("FeatherBench", "shapes", "LFeatherBench$Shapes;", true)
  | 2 => ("FeatherBench", "reader", "LFeatherBench$Reader;", true)
  | 3 => ("FeatherBench", "told", "LFeatherBench$Told;", true)
  | 4 => ("FeatherBench", "bodies", "LFeatherBench$Bodies;", true)
  | 5 => ("FeatherBench", "asked", "LFeatherBench$Asked;", true)
  | 6 => ("FeatherBench", "machine", "LFeatherBench$Machine;", true)
  | 7 => ("FeatherBench", "stock", "LFeatherBench$Stock;", true)
  | 8 => ("FeatherBench", "press", "LFeatherBench$Press;", true)
  | 9 => ("FeatherBench", "current", "LFeatherBench$Program;", false)
  | 10 => ("FeatherBench", "spare", "LFeatherBench$Program;", false)
  | 11 => ("FeatherBench", "loaded", "Z", false)
  | _ => ("FeatherBench", "stepsInAll", "I", false)
def tyX11 : Nat → FieldType := fun k => match k with
  | 0 => .object "FeatherBench$Row"
  | 1 => .object "FeatherBench$Shapes"
  | 2 => .object "FeatherBench$Reader"
  | 3 => .object "FeatherBench$Told"
  | 4 => .object "FeatherBench$Bodies"
  | 5 => .object "FeatherBench$Asked"
  | 6 => .object "FeatherBench$Machine"
  | 7 => .object "FeatherBench$Stock"
  | 8 => .object "FeatherBench$Press"
  | 9 => .object "FeatherBench$Program"
  | 10 => .object "FeatherBench$Program"
  | 11 => .boolean
  | _ => .int
abbrev wsX110 : List Cond := u_ws RX11 TX11 13
theorem nmX11 : ∀ a, a < 13 → ∀ b, b < 13 → a ≠ b → (TX11 a).2.1 ≠ (TX11 b).2.1 := by decide +kernel
theorem tyX11_ok : ∀ k, k < 13 → parseFieldDescriptor (TX11 k).2.2.1 = some (tyX11 k) := by decide +kernel
abbrev cX11_init : ByteArray := prog_1_method_1_code
def yX11_init : MethodName := ⟨RX11, "<init>", "()V"⟩
abbrev cX11_feed : ByteArray := prog_1_method_2_code
def yX11_feed : MethodName := ⟨RX11, "feed", "(JJJ)I"⟩
abbrev cX11_program : ByteArray := prog_1_method_3_code
def yX11_program : MethodName := ⟨RX11, "program", "()I"⟩
abbrev cX11_implementing : ByteArray := prog_1_method_4_code
def yX11_implementing : MethodName := ⟨RX11, "implementing", "()I"⟩
abbrev cX11_run : ByteArray := prog_1_method_5_code
def yX11_run : MethodName := ⟨RX11, "run", "(I)I"⟩
abbrev cX11_failed : ByteArray := prog_1_method_6_code
def yX11_failed : MethodName := ⟨RX11, "failed", "()I"⟩
abbrev cX11_calls : ByteArray := prog_1_method_7_code
def yX11_calls : MethodName := ⟨RX11, "calls", "()I"⟩
abbrev cX11_instances : ByteArray := prog_1_method_8_code
def yX11_instances : MethodName := ⟨RX11, "instances", "()I"⟩
abbrev cX11_made : ByteArray := prog_1_method_9_code
def yX11_made : MethodName := ⟨RX11, "made", "(I)I"⟩
abbrev cX11_isMade : ByteArray := prog_1_method_10_code
def yX11_isMade : MethodName := ⟨RX11, "isMade", "()I"⟩
abbrev cX11_print : ByteArray := prog_1_method_11_code
def yX11_print : MethodName := ⟨RX11, "print", "(I)I"⟩
abbrev cX11_out : ByteArray := prog_1_method_12_code
def yX11_out : MethodName := ⟨RX11, "out", "(I)I"⟩
abbrev cX11_count : ByteArray := prog_1_method_13_code
def yX11_count : MethodName := ⟨RX11, "count", "(I)I"⟩
abbrev cX11_takeSigns : ByteArray := prog_1_method_14_code
def yX11_takeSigns : MethodName := ⟨RX11, "takeSigns", "(J)V"⟩
abbrev cX11_readTape : ByteArray := prog_1_method_15_code
def yX11_readTape : MethodName := ⟨RX11, "readTape", "(I)I"⟩
def RX12 : String := "FeatherBenchModel"
def TX12 : u_T := fun k => match k with
  | 0 => ("FeatherBenchModel", "thrown", "I", false)
  | 1 => ("FeatherBenchModel", "tape", "[I", true)
  | 2 => ("FeatherBenchModel", "taped", "I", false)
  | 3 => ("FeatherBenchModel", "size", "I", false)
  | 4 => ("FeatherBenchModel", "sort", "[I", true)
  | 5 => ("FeatherBenchModel", "place", "[I", true)
  | 6 => ("FeatherBenchModel", "word", "[I", true)
  | 7 => ("FeatherBenchModel", "at", "I", false)
  | 8 => ("FeatherBenchModel", "fault", "I", false)
  | 9 => ("FeatherBenchModel", "bank", "I", false)
  | 10 => ("FeatherBenchModel", "wordA", "[J", true)
  | 11 => ("FeatherBenchModel", "wordB", "[J", true)
  | 12 => ("FeatherBenchModel", "words", "[I", true)
  | 13 => ("FeatherBenchModel", "keys", "Ljava/lang/String;", true)
  | 14 => ("FeatherBenchModel", "what", "[I", true)
  | 15 => ("FeatherBenchModel", "token", "[I", true)
  | 16 => ("FeatherBenchModel", "point", "[I", true)
  | 17 => ("FeatherBenchModel", "first", "[I", true)
  | 18 => ("FeatherBenchModel", "beside", "[I", true)
  | 19 => ("FeatherBenchModel", "many", "[I", true)
  | 20 => ("FeatherBenchModel", "ahead", "[I", true)
  | 21 => ("FeatherBenchModel", "behindIt", "[I", true)
  | 22 => ("FeatherBenchModel", "typeOf", "[I", true)
  | 23 => ("FeatherBenchModel", "typesMany", "[I", true)
  | 24 => ("FeatherBenchModel", "start", "[I", true)
  | 25 => ("FeatherBenchModel", "length", "[I", true)
  | 26 => ("FeatherBenchModel", "nodes", "I", false)
  | 27 => ("FeatherBenchModel", "deep", "I", false)
  | 28 => ("FeatherBenchModel", "listMany", "I", false)
  | 29 => ("FeatherBenchModel", "now", "I", false)
  | 30 => ("FeatherBenchModel", "next", "I", false)
  | 31 => ("FeatherBenchModel", "types", "[I", true)
  | 32 => ("FeatherBenchModel", "typeToken", "[I", true)
  | 33 => ("FeatherBenchModel", "isStruct", "[Z", true)
  | 34 => ("FeatherBenchModel", "formals", "[I", true)
  | 35 => ("FeatherBenchModel", "formalToken", "[I", true)
  | 36 => ("FeatherBenchModel", "formalBound", "[I", true)
  | 37 => ("FeatherBenchModel", "fields", "[I", true)
  | 38 => ("FeatherBenchModel", "fieldToken", "[I", true)
  | 39 => ("FeatherBenchModel", "fieldType", "[I", true)
  | 40 => ("FeatherBenchModel", "headsFrom", "[I", true)
  | 41 => ("FeatherBenchModel", "headsMany", "[I", true)
  | 42 => ("FeatherBenchModel", "heads", "I", false)
  | 43 => ("FeatherBenchModel", "headToken", "[I", true)
  | 44 => ("FeatherBenchModel", "headFormals", "[I", true)
  | 45 => ("FeatherBenchModel", "headFormalToken", "[I", true)
  | 46 => ("FeatherBenchModel", "headBound", "[I", true)
  | 47 => ("FeatherBenchModel", "vars", "[I", true)
  | 48 => ("FeatherBenchModel", "varToken", "[I", true)
  | 49 => ("FeatherBenchModel", "varType", "[I", true)
  | 50 => ("FeatherBenchModel", "headType", "[I", true)
  | 51 => ("FeatherBenchModel", "funcs", "[I", true)
  | 52 => ("FeatherBenchModel", "funcVar", "[I", true)
  | 53 => ("FeatherBenchModel", "funcName", "[I", true)
  | 54 => ("FeatherBenchModel", "funcParams", "[I", true)
  | 55 => ("FeatherBenchModel", "funcParam", "[I", true)
  | 56 => ("FeatherBenchModel", "funcHead", "[I", true)
  | 57 => ("FeatherBenchModel", "funcE", "[I", true)
  | 58 => ("FeatherBenchModel", "mainE", "[I", true)
  | 59 => ("FeatherBenchModel", "hasProgram", "[Z", true)
  | 60 => ("FeatherBenchModel", "structOf", "[I", true)
  | 61 => ("FeatherBenchModel", "declared", "[I", true)
  | 62 => ("FeatherBenchModel", "declaredMany", "[I", true)
  | 63 => ("FeatherBenchModel", "ty", "[I", true)
  | 64 => ("FeatherBenchModel", "top", "I", false)
  | 65 => ("FeatherBenchModel", "statics", "I", false)
  | 66 => ("FeatherBenchModel", "groupCode", "[I", true)
  | 67 => ("FeatherBenchModel", "groupMany", "[I", true)
  | 68 => ("FeatherBenchModel", "given", "[I", true)
  | 69 => ("FeatherBenchModel", "givenLong", "[I", true)
  | 70 => ("FeatherBenchModel", "envs", "I", false)
  | 71 => ("FeatherBenchModel", "putAt", "I", false)
  | 72 => ("FeatherBenchModel", "putLong", "I", false)
  | 73 => ("FeatherBenchModel", "headAt", "I", false)
  | 74 => ("FeatherBenchModel", "headCode", "I", false)
  | 75 => ("FeatherBenchModel", "now0", "I", false)
  | 76 => ("FeatherBenchModel", "inType", "I", false)
  | 77 => ("FeatherBenchModel", "inHead", "I", false)
  | 78 => ("FeatherBenchModel", "inFunc", "I", false)
  | 79 => ("FeatherBenchModel", "holds", "[Z", true)
  | 80 => ("FeatherBenchModel", "isAt", "I", false)
  | 81 => ("FeatherBenchModel", "isLong", "I", false)
  | 82 => ("FeatherBenchModel", "openTypes", "[I", true)
  | 83 => ("FeatherBenchModel", "openAt", "[I", true)
  | 84 => ("FeatherBenchModel", "openLong", "[I", true)
  | 85 => ("FeatherBenchModel", "opens", "I", false)
  | 86 => ("FeatherBenchModel", "mainAt", "I", false)
  | 87 => ("FeatherBenchModel", "mainLong", "I", false)
  | 88 => ("FeatherBenchModel", "mainType", "[I", true)
  | 89 => ("FeatherBenchModel", "mainTypeLong", "[I", true)
  | 90 => ("FeatherBenchModel", "isThere", "Z", false)
  | 91 => ("FeatherBenchModel", "hasRun", "I", false)
  | 92 => ("FeatherBenchModel", "failedAt", "I", false)
  | 93 => ("FeatherBenchModel", "callMany", "I", false)
  | 94 => ("FeatherBenchModel", "steps", "I", false)
  | 95 => ("FeatherBenchModel", "latest", "I", false)
  | 96 => ("FeatherBenchModel", "limit", "I", false)
  | 97 => ("FeatherBenchModel", "valueTop", "I", false)
  | 98 => ("FeatherBenchModel", "values", "I", false)
  | 99 => ("FeatherBenchModel", "valueAt", "[I", true)
  | 100 => ("FeatherBenchModel", "valueLong", "[I", true)
  | 101 => ("FeatherBenchModel", "part", "[I", true)
  | 102 => ("FeatherBenchModel", "got", "I", false)
  | 103 => ("FeatherBenchModel", "result", "I", false)
  | 104 => ("FeatherBenchModel", "pile", "[I", true)
  | 105 => ("FeatherBenchModel", "piled", "I", false)
  | 106 => ("FeatherBenchModel", "callsIn", "I", false)
  | 107 => ("FeatherBenchModel", "runAt", "I", false)
  | 108 => ("FeatherBenchModel", "runLong", "I", false)
  | 109 => ("FeatherBenchModel", "madeMany", "I", false)
  | 110 => ("FeatherBenchModel", "wasMade", "Z", false)
  | 111 => ("FeatherBenchModel", "isFit", "Z", false)
  | 112 => ("FeatherBenchModel", "rows", "I", false)
  | 113 => ("FeatherBenchModel", "rowSort", "[I", true)
  | 114 => ("FeatherBenchModel", "rowWord", "[I", true)
  | 115 => ("FeatherBenchModel", "rowMany", "[I", true)
  | 116 => ("FeatherBenchModel", "rowAt", "[I", true)
  | 117 => ("FeatherBenchModel", "rowLong", "[I", true)
  | 118 => ("FeatherBenchModel", "madeTop", "I", false)
  | 119 => ("FeatherBenchModel", "out", "[I", true)
  | 120 => ("FeatherBenchModel", "outs", "I", false)
  | 121 => ("FeatherBenchModel", "saidRow", "[I", true)
  | 122 => ("FeatherBenchModel", "saidValue", "[I", true)
  | 123 => ("FeatherBenchModel", "saidMany", "[I", true)
  | _ => ("FeatherBenchModel", "saids", "I", false)
def tyX12 : Nat → FieldType := fun k => match k with
  | 0 => .int
  | 1 => .array .int
  | 2 => .int
  | 3 => .int
  | 4 => .array .int
  | 5 => .array .int
  | 6 => .array .int
  | 7 => .int
  | 8 => .int
  | 9 => .int
  | 10 => .array .long
  | 11 => .array .long
  | 12 => .array .int
  | 13 => .object "java/lang/String"
  | 14 => .array .int
  | 15 => .array .int
  | 16 => .array .int
  | 17 => .array .int
  | 18 => .array .int
  | 19 => .array .int
  | 20 => .array .int
  | 21 => .array .int
  | 22 => .array .int
  | 23 => .array .int
  | 24 => .array .int
  | 25 => .array .int
  | 26 => .int
  | 27 => .int
  | 28 => .int
  | 29 => .int
  | 30 => .int
  | 31 => .array .int
  | 32 => .array .int
  | 33 => .array .boolean
  | 34 => .array .int
  | 35 => .array .int
  | 36 => .array .int
  | 37 => .array .int
  | 38 => .array .int
  | 39 => .array .int
  | 40 => .array .int
  | 41 => .array .int
  | 42 => .int
  | 43 => .array .int
  | 44 => .array .int
  | 45 => .array .int
  | 46 => .array .int
  | 47 => .array .int
  | 48 => .array .int
  | 49 => .array .int
  | 50 => .array .int
  | 51 => .array .int
  | 52 => .array .int
  | 53 => .array .int
  | 54 => .array .int
  | 55 => .array .int
  | 56 => .array .int
  | 57 => .array .int
  | 58 => .array .int
  | 59 => .array .boolean
  | 60 => .array .int
  | 61 => .array .int
  | 62 => .array .int
  | 63 => .array .int
  | 64 => .int
  | 65 => .int
  | 66 => .array .int
  | 67 => .array .int
  | 68 => .array .int
  | 69 => .array .int
  | 70 => .int
  | 71 => .int
  | 72 => .int
  | 73 => .int
  | 74 => .int
  | 75 => .int
  | 76 => .int
  | 77 => .int
  | 78 => .int
  | 79 => .array .boolean
  | 80 => .int
  | 81 => .int
  | 82 => .array .int
  | 83 => .array .int
  | 84 => .array .int
  | 85 => .int
  | 86 => .int
  | 87 => .int
  | 88 => .array .int
  | 89 => .array .int
  | 90 => .boolean
  | 91 => .int
  | 92 => .int
  | 93 => .int
  | 94 => .int
  | 95 => .int
  | 96 => .int
  | 97 => .int
  | 98 => .int
  | 99 => .array .int
  | 100 => .array .int
  | 101 => .array .int
  | 102 => .int
  | 103 => .int
  | 104 => .array .int
  | 105 => .int
  | 106 => .int
  | 107 => .int
  | 108 => .int
  | 109 => .int
  | 110 => .boolean
  | 111 => .boolean
  | 112 => .int
  | 113 => .array .int
  | 114 => .array .int
  | 115 => .array .int
  | 116 => .array .int
  | 117 => .array .int
  | 118 => .int
  | 119 => .array .int
  | 120 => .int
  | 121 => .array .int
  | 122 => .array .int
  | 123 => .array .int
  | _ => .int
abbrev wsX120 : List Cond := u_ws RX12 TX12 125
theorem nmX12 : ∀ a, a < 125 → ∀ b, b < 125 → a ≠ b → (TX12 a).2.1 ≠ (TX12 b).2.1 := by decide +kernel
theorem tyX12_ok : ∀ k, k < 125 → parseFieldDescriptor (TX12 k).2.2.1 = some (tyX12 k) := by decide +kernel
abbrev cX12_init : ByteArray := prog_14_method_1_code
def yX12_init : MethodName := ⟨RX12, "<init>", "()V"⟩
abbrev cX12_feed : ByteArray := prog_14_method_3_code
def yX12_feed : MethodName := ⟨RX12, "feed", "(JJJ)I"⟩
abbrev cX12_lay : ByteArray := prog_14_method_4_code
def yX12_lay : MethodName := ⟨RX12, "lay", "(J)V"⟩
abbrev cX12_isLetter : ByteArray := prog_14_method_5_code
def yX12_isLetter : MethodName := ⟨RX12, "isLetter", "(I)Z"⟩
abbrev cX12_isDigit : ByteArray := prog_14_method_6_code
def yX12_isDigit : MethodName := ⟨RX12, "isDigit", "(I)Z"⟩
abbrev cX12_rank : ByteArray := prog_14_method_7_code
def yX12_rank : MethodName := ⟨RX12, "rank", "(I)I"⟩
abbrev cX12_isSignOf : ByteArray := prog_14_method_8_code
def yX12_isSignOf : MethodName := ⟨RX12, "isSignOf", "(I)Z"⟩
abbrev cX12_wordOf : ByteArray := prog_14_method_9_code
def yX12_wordOf : MethodName := ⟨RX12, "wordOf", "(JJ)I"⟩
abbrev cX12_keptWords : ByteArray := prog_14_method_10_code
def yX12_keptWords : MethodName := ⟨RX12, "keptWords", "()V"⟩
abbrev cX12_cutAll : ByteArray := prog_14_method_11_code
def yX12_cutAll : MethodName := ⟨RX12, "cutAll", "()V"⟩
abbrev cX12_wrong : ByteArray := prog_14_method_12_code
def yX12_wrong : MethodName := ⟨RX12, "wrong", "(II)V"⟩
abbrev cX12_isSign : ByteArray := prog_14_method_13_code
def yX12_isSign : MethodName := ⟨RX12, "isSign", "(I)Z"⟩
abbrev cX12_isWord : ByteArray := prog_14_method_14_code
def yX12_isWord : MethodName := ⟨RX12, "isWord", "(I)Z"⟩
abbrev cX12_isName : ByteArray := prog_14_method_15_code
def yX12_isName : MethodName := ⟨RX12, "isName", "()Z"⟩
abbrev cX12_takeSign : ByteArray := prog_14_method_16_code
def yX12_takeSign : MethodName := ⟨RX12, "takeSign", "(I)V"⟩
abbrev cX12_hasSign : ByteArray := prog_14_method_17_code
def yX12_hasSign : MethodName := ⟨RX12, "hasSign", "(I)Z"⟩
abbrev cX12_takeWord : ByteArray := prog_14_method_18_code
def yX12_takeWord : MethodName := ⟨RX12, "takeWord", "(I)V"⟩
abbrev cX12_takeName : ByteArray := prog_14_method_19_code
def yX12_takeName : MethodName := ⟨RX12, "takeName", "()I"⟩
abbrev cX12_node : ByteArray := prog_14_method_20_code
def yX12_node : MethodName := ⟨RX12, "node", "(I)I"⟩
abbrev cX12_within : ByteArray := prog_14_method_21_code
def yX12_within : MethodName := ⟨RX12, "within", "(Z)V"⟩
abbrev cX12_takeType : ByteArray := prog_14_method_22_code
def yX12_takeType : MethodName := ⟨RX12, "takeType", "()I"⟩
abbrev cX12_takeTypes : ByteArray := prog_14_method_23_code
def yX12_takeTypes : MethodName := ⟨RX12, "takeTypes", "()I"⟩
abbrev cX12_takeE : ByteArray := prog_14_method_24_code
def yX12_takeE : MethodName := ⟨RX12, "takeE", "()I"⟩
abbrev cX12_takeList : ByteArray := prog_14_method_25_code
def yX12_takeList : MethodName := ⟨RX12, "takeList", "()I"⟩
abbrev cX12_behindPoint : ByteArray := prog_14_method_26_code
def yX12_behindPoint : MethodName := ⟨RX12, "behindPoint", "(I)I"⟩
abbrev cX12_firstOf : ByteArray := prog_14_method_27_code
def yX12_firstOf : MethodName := ⟨RX12, "firstOf", "(I)I"⟩
abbrev cX12_readAll : ByteArray := prog_14_method_28_code
def yX12_readAll : MethodName := ⟨RX12, "readAll", "()V"⟩
abbrev cX12_readType : ByteArray := prog_14_method_29_code
def yX12_readType : MethodName := ⟨RX12, "readType", "()V"⟩
abbrev cX12_readFormals : ByteArray := prog_14_method_30_code
def yX12_readFormals : MethodName := ⟨RX12, "readFormals", "([I[II)I"⟩
abbrev cX12_readField : ByteArray := prog_14_method_31_code
def yX12_readField : MethodName := ⟨RX12, "readField", "(I)V"⟩
abbrev cX12_readHead : ByteArray := prog_14_method_32_code
def yX12_readHead : MethodName := ⟨RX12, "readHead", "()V"⟩
abbrev cX12_readFunc : ByteArray := prog_14_method_33_code
def yX12_readFunc : MethodName := ⟨RX12, "readFunc", "()V"⟩
abbrev cX12_codeOf : ByteArray := prog_14_method_34_code
def yX12_codeOf : MethodName := ⟨RX12, "codeOf", "(I)I"⟩
abbrev cX12_behind : ByteArray := prog_14_method_35_code
def yX12_behind : MethodName := ⟨RX12, "behind", "(I)I"⟩
abbrev cX12_isSame : ByteArray := prog_14_method_36_code
def yX12_isSame : MethodName := ⟨RX12, "isSame", "(IIII)Z"⟩
abbrev cX12_newEnv : ByteArray := prog_14_method_37_code
def yX12_newEnv : MethodName := ⟨RX12, "newEnv", "()I"⟩
abbrev cX12_group : ByteArray := prog_14_method_38_code
def yX12_group : MethodName := ⟨RX12, "group", "(IIII)V"⟩
abbrev cX12_byPlaces : ByteArray := prog_14_method_39_code
def yX12_byPlaces : MethodName := ⟨RX12, "byPlaces", "(III)V"⟩
abbrev cX12_put : ByteArray := prog_14_method_40_code
def yX12_put : MethodName := ⟨RX12, "put", "(III)Z"⟩
abbrev cX12_found : ByteArray := prog_14_method_41_code
def yX12_found : MethodName := ⟨RX12, "found", "(II)I"⟩
abbrev cX12_findHead : ByteArray := prog_14_method_42_code
def yX12_findHead : MethodName := ⟨RX12, "findHead", "(II)Z"⟩
abbrev cX12_bound : ByteArray := prog_14_method_43_code
def yX12_bound : MethodName := ⟨RX12, "bound", "(I)V"⟩
abbrev cX12_implement : ByteArray := prog_14_method_44_code
def yX12_implement : MethodName := ⟨RX12, "implement", "(IIII)I"⟩
abbrev cX12_alike : ByteArray := prog_14_method_45_code
def yX12_alike : MethodName := ⟨RX12, "alike", "(IIIII)I"⟩
abbrev cX12_one : ByteArray := prog_14_method_46_code
def yX12_one : MethodName := ⟨RX12, "one", "(IIII)I"⟩
abbrev cX12_isToldAhead : ByteArray := prog_14_method_47_code
def yX12_isToldAhead : MethodName := ⟨RX12, "isToldAhead", "(I[III)Z"⟩
abbrev cX12_twice : ByteArray := prog_14_method_48_code
def yX12_twice : MethodName := ⟨RX12, "twice", "([IIII)V"⟩
abbrev cX12_paramOf : ByteArray := prog_14_method_49_code
def yX12_paramOf : MethodName := ⟨RX12, "paramOf", "(II)I"⟩
abbrev cX12_namesOfType : ByteArray := prog_14_method_50_code
def yX12_namesOfType : MethodName := ⟨RX12, "namesOfType", "(I)V"⟩
abbrev cX12_namesOfFunc : ByteArray := prog_14_method_51_code
def yX12_namesOfFunc : MethodName := ⟨RX12, "namesOfFunc", "(I)V"⟩
abbrev cX12_codeOfWord : ByteArray := prog_14_method_52_code
def yX12_codeOfWord : MethodName := ⟨RX12, "codeOfWord", "(I)I"⟩
abbrev cX12_resolve : ByteArray := prog_14_method_53_code
def yX12_resolve : MethodName := ⟨RX12, "resolve", "(IZ)V"⟩
abbrev cX12_wordNow : ByteArray := prog_14_method_54_code
def yX12_wordNow : MethodName := ⟨RX12, "wordNow", "(I)I"⟩
abbrev cX12_place : ByteArray := prog_14_method_55_code
def yX12_place : MethodName := ⟨RX12, "place", "(III)V"⟩
abbrev cX12_boundWords : ByteArray := prog_14_method_56_code
def yX12_boundWords : MethodName := ⟨RX12, "boundWords", "(I)V"⟩
abbrev cX12_headWords : ByteArray := prog_14_method_57_code
def yX12_headWords : MethodName := ⟨RX12, "headWords", "(III)V"⟩
abbrev cX12_typeWords : ByteArray := prog_14_method_58_code
def yX12_typeWords : MethodName := ⟨RX12, "typeWords", "(I)V"⟩
abbrev cX12_funcWords : ByteArray := prog_14_method_59_code
def yX12_funcWords : MethodName := ⟨RX12, "funcWords", "(I)V"⟩
abbrev cX12_bounds : ByteArray := prog_14_method_60_code
def yX12_bounds : MethodName := ⟨RX12, "bounds", "(I)V"⟩
abbrev cX12_fits : ByteArray := prog_14_method_61_code
def yX12_fits : MethodName := ⟨RX12, "fits", "(IIIII)V"⟩
abbrev cX12_headBounds : ByteArray := prog_14_method_62_code
def yX12_headBounds : MethodName := ⟨RX12, "headBounds", "(I)V"⟩
abbrev cX12_typeBounds : ByteArray := prog_14_method_63_code
def yX12_typeBounds : MethodName := ⟨RX12, "typeBounds", "(I)V"⟩
abbrev cX12_selves : ByteArray := prog_14_method_64_code
def yX12_selves : MethodName := ⟨RX12, "selves", "()V"⟩
abbrev cX12_is : ByteArray := prog_14_method_65_code
def yX12_is : MethodName := ⟨RX12, "is", "(II)V"⟩
abbrev cX12_typeE : ByteArray := prog_14_method_66_code
def yX12_typeE : MethodName := ⟨RX12, "typeE", "(I)V"⟩
abbrev cX12_typeVar : ByteArray := prog_14_method_67_code
def yX12_typeVar : MethodName := ⟨RX12, "typeVar", "(I)V"⟩
abbrev cX12_typeOfVar : ByteArray := prog_14_method_68_code
def yX12_typeOfVar : MethodName := ⟨RX12, "typeOfVar", "(I)V"⟩
abbrev cX12_isOfStruct : ByteArray := prog_14_method_69_code
def yX12_isOfStruct : MethodName := ⟨RX12, "isOfStruct", "(I)Z"⟩
abbrev cX12_typeStruct : ByteArray := prog_14_method_70_code
def yX12_typeStruct : MethodName := ⟨RX12, "typeStruct", "(I)V"⟩
abbrev cX12_takes : ByteArray := prog_14_method_71_code
def yX12_takes : MethodName := ⟨RX12, "takes", "(III)V"⟩
abbrev cX12_typeField : ByteArray := prog_14_method_72_code
def yX12_typeField : MethodName := ⟨RX12, "typeField", "(I)V"⟩
abbrev cX12_fieldOf : ByteArray := prog_14_method_73_code
def yX12_fieldOf : MethodName := ⟨RX12, "fieldOf", "(II)Z"⟩
abbrev cX12_keepOpen : ByteArray := prog_14_method_74_code
def yX12_keepOpen : MethodName := ⟨RX12, "keepOpen", "(I)V"⟩
abbrev cX12_typeMethod : ByteArray := prog_14_method_75_code
def yX12_typeMethod : MethodName := ⟨RX12, "typeMethod", "(I)V"⟩
abbrev cX12_told : ByteArray := prog_14_method_76_code
def yX12_told : MethodName := ⟨RX12, "told", "(III)V"⟩
abbrev cX12_typeAssert : ByteArray := prog_14_method_77_code
def yX12_typeAssert : MethodName := ⟨RX12, "typeAssert", "(I)V"⟩
abbrev cX12_typeFunc : ByteArray := prog_14_method_78_code
def yX12_typeFunc : MethodName := ⟨RX12, "typeFunc", "(I)V"⟩
abbrev cX12_program : ByteArray := prog_14_method_79_code
def yX12_program : MethodName := ⟨RX12, "program", "()I"⟩
abbrev cX12_goThrough : ByteArray := prog_14_method_80_code
def yX12_goThrough : MethodName := ⟨RX12, "goThrough", "(II)V"⟩
abbrev cX12_forget : ByteArray := prog_14_method_81_code
def yX12_forget : MethodName := ⟨RX12, "forget", "()V"⟩
abbrev cX12_askedType : ByteArray := prog_14_method_82_code
def yX12_askedType : MethodName := ⟨RX12, "askedType", "()I"⟩
abbrev cX12_isGood : ByteArray := prog_14_method_83_code
def yX12_isGood : MethodName := ⟨RX12, "isGood", "(I)Z"⟩
abbrev cX12_asks : ByteArray := prog_14_method_84_code
def yX12_asks : MethodName := ⟨RX12, "asks", "()V"⟩
abbrev cX12_implementing : ByteArray := prog_14_method_85_code
def yX12_implementing : MethodName := ⟨RX12, "implementing", "()I"⟩
abbrev cX12_spend : ByteArray := prog_14_method_86_code
def yX12_spend : MethodName := ⟨RX12, "spend", "(I)I"⟩
abbrev cX12_hasParams : ByteArray := prog_14_method_87_code
def yX12_hasParams : MethodName := ⟨RX12, "hasParams", "(II)Z"⟩
abbrev cX12_putForRun : ByteArray := prog_14_method_88_code
def yX12_putForRun : MethodName := ⟨RX12, "putForRun", "(II)I"⟩
abbrev cX12_eval : ByteArray := prog_14_method_89_code
def yX12_eval : MethodName := ⟨RX12, "eval", "(III)I"⟩
abbrev cX12_evalStruct : ByteArray := prog_14_method_90_code
def yX12_evalStruct : MethodName := ⟨RX12, "evalStruct", "(III)I"⟩
abbrev cX12_evalField : ByteArray := prog_14_method_91_code
def yX12_evalField : MethodName := ⟨RX12, "evalField", "(I)I"⟩
abbrev cX12_evalAssert : ByteArray := prog_14_method_92_code
def yX12_evalAssert : MethodName := ⟨RX12, "evalAssert", "(II)I"⟩
abbrev cX12_evalMethod : ByteArray := prog_14_method_93_code
def yX12_evalMethod : MethodName := ⟨RX12, "evalMethod", "(III)I"⟩
abbrev cX12_evalCall : ByteArray := prog_14_method_94_code
def yX12_evalCall : MethodName := ⟨RX12, "evalCall", "(III)I"⟩
abbrev cX12_funcOf : ByteArray := prog_14_method_95_code
def yX12_funcOf : MethodName := ⟨RX12, "funcOf", "(I)I"⟩
abbrev cX12_run : ByteArray := prog_14_method_96_code
def yX12_run : MethodName := ⟨RX12, "run", "(I)I"⟩
abbrev cX12_failed : ByteArray := prog_14_method_97_code
def yX12_failed : MethodName := ⟨RX12, "failed", "()I"⟩
abbrev cX12_calls : ByteArray := prog_14_method_98_code
def yX12_calls : MethodName := ⟨RX12, "calls", "()I"⟩
abbrev cX12_addRow : ByteArray := prog_14_method_99_code
def yX12_addRow : MethodName := ⟨RX12, "addRow", "(IIIII)V"⟩
abbrev cX12_putFor : ByteArray := prog_14_method_100_code
def yX12_putFor : MethodName := ⟨RX12, "putFor", "(II)Z"⟩
abbrev cX12_addTypes : ByteArray := prog_14_method_101_code
def yX12_addTypes : MethodName := ⟨RX12, "addTypes", "(II)V"⟩
abbrev cX12_addE : ByteArray := prog_14_method_102_code
def yX12_addE : MethodName := ⟨RX12, "addE", "(II)V"⟩
abbrev cX12_addParts : ByteArray := prog_14_method_103_code
def yX12_addParts : MethodName := ⟨RX12, "addParts", "(II)V"⟩
abbrev cX12_addMethod : ByteArray := prog_14_method_104_code
def yX12_addMethod : MethodName := ⟨RX12, "addMethod", "(II)V"⟩
abbrev cX12_addBody : ByteArray := prog_14_method_105_code
def yX12_addBody : MethodName := ⟨RX12, "addBody", "(III)V"⟩
abbrev cX12_instances : ByteArray := prog_14_method_106_code
def yX12_instances : MethodName := ⟨RX12, "instances", "()I"⟩
abbrev cX12_howMany : ByteArray := prog_14_method_107_code
def yX12_howMany : MethodName := ⟨RX12, "howMany", "(I)I"⟩
abbrev cX12_made : ByteArray := prog_14_method_108_code
def yX12_made : MethodName := ⟨RX12, "made", "(I)I"⟩
abbrev cX12_isMade : ByteArray := prog_14_method_109_code
def yX12_isMade : MethodName := ⟨RX12, "isMade", "()I"⟩
abbrev cX12_say : ByteArray := prog_14_method_110_code
def yX12_say : MethodName := ⟨RX12, "say", "(I)V"⟩
abbrev cX12_signOf : ByteArray := prog_14_method_111_code
def yX12_signOf : MethodName := ⟨RX12, "signOf", "(I)I"⟩
abbrev cX12_sayPart : ByteArray := prog_14_method_112_code
def yX12_sayPart : MethodName := ⟨RX12, "sayPart", "(J)V"⟩
abbrev cX12_sayWord : ByteArray := prog_14_method_113_code
def yX12_sayWord : MethodName := ⟨RX12, "sayWord", "(I)V"⟩
abbrev cX12_sayType : ByteArray := prog_14_method_114_code
def yX12_sayType : MethodName := ⟨RX12, "sayType", "(I)I"⟩
abbrev cX12_beginValue : ByteArray := prog_14_method_115_code
def yX12_beginValue : MethodName := ⟨RX12, "beginValue", "(I)V"⟩
abbrev cX12_sayValue : ByteArray := prog_14_method_116_code
def yX12_sayValue : MethodName := ⟨RX12, "sayValue", "(I)V"⟩
abbrev cX12_print : ByteArray := prog_14_method_117_code
def yX12_print : MethodName := ⟨RX12, "print", "(I)I"⟩
abbrev cX12_out : ByteArray := prog_14_method_118_code
def yX12_out : MethodName := ⟨RX12, "out", "(I)I"⟩
abbrev cX12_count : ByteArray := prog_14_method_119_code
def yX12_count : MethodName := ⟨RX12, "count", "(I)I"⟩
def RJx8e188 : String := "java/lang/Cloneable"
def TJx8e188 : u_T := fun k => match k with
  | _ => ("", "", "", false)
def tyJx8e188 : Nat → FieldType := fun k => match k with
  | _ => .int
abbrev wsJx8e1880 : List Cond := u_ws RJx8e188 TJx8e188 0
theorem nmJx8e188 : ∀ a, a < 0 → ∀ b, b < 0 → a ≠ b → (TJx8e188 a).2.1 ≠ (TJx8e188 b).2.1 := by decide +kernel
theorem tyJx8e188_ok : ∀ k, k < 0 → parseFieldDescriptor (TJx8e188 k).2.2.1 = some (tyJx8e188 k) := by decide +kernel
def RJ9 : String := "java/lang/Math"
def TJ9 : u_T := fun k => match k with
  | _ => ("", "", "", false)
def tyJ9 : Nat → FieldType := fun k => match k with
  | _ => .int
abbrev wsJ90 : List Cond := u_ws RJ9 TJ9 0
theorem nmJ9 : ∀ a, a < 0 → ∀ b, b < 0 → a ≠ b → (TJ9 a).2.1 ≠ (TJ9 b).2.1 := by decide +kernel
theorem tyJ9_ok : ∀ k, k < 0 → parseFieldDescriptor (TJ9 k).2.2.1 = some (tyJ9 k) := by decide +kernel
abbrev cJ9_max_7cf53 : ByteArray := prog_16_method_65_code
def yJ9_max_7cf53 : MethodName := ⟨RJ9, "max", "(II)I"⟩
abbrev cJ9_min_7cf53 : ByteArray := prog_16_method_69_code
def yJ9_min_7cf53 : MethodName := ⟨RJ9, "min", "(II)I"⟩
def RJ0 : String := "java/lang/String"
def TJ0 : u_T := fun k => match k with
  | _ => ("", "", "", false)
def tyJ0 : Nat → FieldType := fun k => match k with
  | _ => .int
abbrev wsJ00 : List Cond := u_ws RJ0 TJ0 0
theorem nmJ0 : ∀ a, a < 0 → ∀ b, b < 0 → a ≠ b → (TJ0 a).2.1 ≠ (TJ0 b).2.1 := by decide +kernel
theorem tyJ0_ok : ∀ k, k < 0 → parseFieldDescriptor (TJ0 k).2.2.1 = some (tyJ0 k) := by decide +kernel
abbrev cJ0_length_8abf5 : ByteArray := prog_17_method_54_code
def yJ0_length_8abf5 : MethodName := ⟨RJ0, "length", "()I"⟩
abbrev cJ0_charAt_5068e : ByteArray := prog_17_method_56_code
def yJ0_charAt_5068e : MethodName := ⟨RJ0, "charAt", "(I)C"⟩
abbrev cJ0_coder_7d493 : ByteArray := prog_17_method_152_code
def yJ0_coder_7d493 : MethodName := ⟨RJ0, "coder", "()B"⟩
abbrev cJ0_isLatin1_aae02 : ByteArray := prog_17_method_154_code
def yJ0_isLatin1_aae02 : MethodName := ⟨RJ0, "isLatin1", "()Z"⟩
abbrev cJ0_checkIndex_df160 : ByteArray := prog_17_method_155_code
def yJ0_checkIndex_df160 : MethodName := ⟨RJ0, "checkIndex", "(II)V"⟩
def RJ1 : String := "java/lang/StringLatin1"
def TJ1 : u_T := fun k => match k with
  | _ => ("", "", "", false)
def tyJ1 : Nat → FieldType := fun k => match k with
  | _ => .int
abbrev wsJ10 : List Cond := u_ws RJ1 TJ1 0
theorem nmJ1 : ∀ a, a < 0 → ∀ b, b < 0 → a ≠ b → (TJ1 a).2.1 ≠ (TJ1 b).2.1 := by decide +kernel
theorem tyJ1_ok : ∀ k, k < 0 → parseFieldDescriptor (TJ1 k).2.2.1 = some (tyJ1 k) := by decide +kernel
abbrev cJ1_charAt_3b067 : ByteArray := prog_18_method_2_code
def yJ1_charAt_3b067 : MethodName := ⟨RJ1, "charAt", "([BI)C"⟩
def RJ2 : String := "java/lang/StringUTF16"
def TJ2 : u_T := fun k => match k with
  | _ => ("", "", "", false)
def tyJ2 : Nat → FieldType := fun k => match k with
  | _ => .int
abbrev wsJ20 : List Cond := u_ws RJ2 TJ2 0
theorem nmJ2 : ∀ a, a < 0 → ∀ b, b < 0 → a ≠ b → (TJ2 a).2.1 ≠ (TJ2 b).2.1 := by decide +kernel
theorem tyJ2_ok : ∀ k, k < 0 → parseFieldDescriptor (TJ2 k).2.2.1 = some (tyJ2 k) := by decide +kernel
abbrev cJ2_getChar_3b067 : ByteArray := prog_19_method_5_code
def yJ2_getChar_3b067 : MethodName := ⟨RJ2, "getChar", "([BI)C"⟩
abbrev cJ2_length_9d52b : ByteArray := prog_19_method_6_code
def yJ2_length_9d52b : MethodName := ⟨RJ2, "length", "([B)I"⟩
abbrev cJ2_charAt_3b067 : ByteArray := prog_19_method_83_code
def yJ2_charAt_3b067 : MethodName := ⟨RJ2, "charAt", "([BI)C"⟩
abbrev cJ2_checkIndex_2214a : ByteArray := prog_19_method_91_code
def yJ2_checkIndex_2214a : MethodName := ⟨RJ2, "checkIndex", "(I[B)V"⟩
def RJ10 : String := "java/lang/System"
def TJ10 : u_T := fun k => match k with
  | _ => ("", "", "", false)
def tyJ10 : Nat → FieldType := fun k => match k with
  | _ => .int
abbrev wsJ100 : List Cond := u_ws RJ10 TJ10 0
theorem nmJ10 : ∀ a, a < 0 → ∀ b, b < 0 → a ≠ b → (TJ10 a).2.1 ≠ (TJ10 b).2.1 := by decide +kernel
theorem tyJ10_ok : ∀ k, k < 0 → parseFieldDescriptor (TJ10 k).2.2.1 = some (tyJ10 k) := by decide +kernel
def RJ7 : String := "java/util/Arrays"
def TJ7 : u_T := fun k => match k with
  | _ => ("", "", "", false)
def tyJ7 : Nat → FieldType := fun k => match k with
  | _ => .int
abbrev wsJ70 : List Cond := u_ws RJ7 TJ7 0
theorem nmJ7 : ∀ a, a < 0 → ∀ b, b < 0 → a ≠ b → (TJ7 a).2.1 ≠ (TJ7 b).2.1 := by decide +kernel
theorem tyJ7_ok : ∀ k, k < 0 → parseFieldDescriptor (TJ7 k).2.2.1 = some (tyJ7 k) := by decide +kernel
abbrev cJ7_copyOf_59c91 : ByteArray := prog_21_method_123_code
def yJ7_copyOf_59c91 : MethodName := ⟨RJ7, "copyOf", "([II)[I"⟩
def RJ3 : String := "jdk/internal/util/Preconditions"
def TJ3 : u_T := fun k => match k with
  | _ => ("", "", "", false)
def tyJ3 : Nat → FieldType := fun k => match k with
  | _ => .int
abbrev wsJ30 : List Cond := u_ws RJ3 TJ3 0
theorem nmJ3 : ∀ a, a < 0 → ∀ b, b < 0 → a ≠ b → (TJ3 a).2.1 ≠ (TJ3 b).2.1 := by decide +kernel
theorem tyJ3_ok : ∀ k, k < 0 → parseFieldDescriptor (TJ3 k).2.2.1 = some (tyJ3 k) := by decide +kernel
abbrev cJ3_checkIndex_8e157 : ByteArray := prog_22_method_11_code
def yJ3_checkIndex_8e157 : MethodName := ⟨RJ3, "checkIndex", "(IILjava/util/function/BiFunction;)I"⟩
def RL : String := "FeatherBenchLaw"
abbrev cL_law : ByteArray := code
def yL_law : MethodName := ⟨RL, "law", "([I)Z"⟩
abbrev vwCl : List vw_C := [(RX0, TX0, 7), (RX1, TX1, 8), (RX2, TX2, 15), (RX3, TX3, 4), (RX4, TX4, 15), (RX5, TX5, 4), (RX6, TX6, 3), (RX7, TX7, 10), (RX8, TX8, 11), (RX9, TX9, 8), (RX10, TX10, 3), (RX11, TX11, 13), (RX12, TX12, 125)]
/-- the words that go from a caller to a callee as they stand -/
def xT : List Cond := lw_tbl.filter goodWord
theorem xT_in {w : Cond} (i : Nat) (h : lw_tbl[i]? = some w) (hg : goodWord w = true) : w ∈ xT := List.mem_filter.mpr ⟨List.mem_of_getElem? h, hg⟩
