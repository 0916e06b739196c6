section
-- ===== PART A: goes FIRST, ahead of the names: the tables' words, and 'selects' of the private methods out of them =====
/-- a private method of a class that the tables say can be made, by its rows of tables_1 -/
def lw_okq (q : MethodName × Nat) : Prop := (q.1.cls ≠ "java/lang/invoke/MethodHandle" ∧ q.1.cls ≠ "java/lang/invoke/VarHandle") ∧ Cond.instantiable q.1.cls q.2 ∈ tables_1 ∧ Cond.privateMethod q.1 ∈ tables_1 ∧ Cond.instanceMethod q.1 ∈ tables_1
theorem lw_p0 : lw_okq (⟨"NestedVectors$Tokens", "ahead", "()I"⟩, 8) := ⟨⟨by decide +kernel, by decide +kernel⟩, List.mem_of_getElem? (i := 222) (by decide +kernel), List.mem_of_getElem? (i := 743) (by decide +kernel), List.mem_of_getElem? (i := 744) (by decide +kernel)⟩
theorem lw_p1 : lw_okq (⟨"NestedVectors$Tokens", "takeNumber", "()V"⟩, 8) := ⟨⟨by decide +kernel, by decide +kernel⟩, List.mem_of_getElem? (i := 222) (by decide +kernel), List.mem_of_getElem? (i := 750) (by decide +kernel), List.mem_of_getElem? (i := 751) (by decide +kernel)⟩
theorem lw_p2 : lw_okq (⟨"NestedVectors$Tokens", "takeWord", "()V"⟩, 8) := ⟨⟨by decide +kernel, by decide +kernel⟩, List.mem_of_getElem? (i := 222) (by decide +kernel), List.mem_of_getElem? (i := 757) (by decide +kernel), List.mem_of_getElem? (i := 758) (by decide +kernel)⟩
theorem lw_p3 : lw_okq (⟨"NestedVectors$Parser", "title", "(I)V"⟩, 5) := ⟨⟨by decide +kernel, by decide +kernel⟩, List.mem_of_getElem? (i := 216) (by decide +kernel), List.mem_of_getElem? (i := 819) (by decide +kernel), List.mem_of_getElem? (i := 820) (by decide +kernel)⟩
theorem lw_p4 : lw_okq (⟨"NestedVectors$Parser", "fail", "()V"⟩, 5) := ⟨⟨by decide +kernel, by decide +kernel⟩, List.mem_of_getElem? (i := 216) (by decide +kernel), List.mem_of_getElem? (i := 823) (by decide +kernel), List.mem_of_getElem? (i := 824) (by decide +kernel)⟩
theorem lw_p5 : lw_okq (⟨"NestedVectors$Parser", "expect", "(I)V"⟩, 5) := ⟨⟨by decide +kernel, by decide +kernel⟩, List.mem_of_getElem? (i := 216) (by decide +kernel), List.mem_of_getElem? (i := 840) (by decide +kernel), List.mem_of_getElem? (i := 841) (by decide +kernel)⟩
theorem lw_p6 : lw_okq (⟨"NestedVectors$Parser", "parameters", "(I)V"⟩, 5) := ⟨⟨by decide +kernel, by decide +kernel⟩, List.mem_of_getElem? (i := 216) (by decide +kernel), List.mem_of_getElem? (i := 844) (by decide +kernel), List.mem_of_getElem? (i := 845) (by decide +kernel)⟩
theorem lw_p7 : lw_okq (⟨"NestedVectors$Parser", "type", "()I"⟩, 5) := ⟨⟨by decide +kernel, by decide +kernel⟩, List.mem_of_getElem? (i := 216) (by decide +kernel), List.mem_of_getElem? (i := 855) (by decide +kernel), List.mem_of_getElem? (i := 856) (by decide +kernel)⟩
theorem lw_p8 : lw_okq (⟨"NestedVectors$Parser", "meaning", "(I)V"⟩, 5) := ⟨⟨by decide +kernel, by decide +kernel⟩, List.mem_of_getElem? (i := 216) (by decide +kernel), List.mem_of_getElem? (i := 861) (by decide +kernel), List.mem_of_getElem? (i := 862) (by decide +kernel)⟩
theorem lw_p9 : lw_okq (⟨"NestedVectors$Parser", "expression", "(I)I"⟩, 5) := ⟨⟨by decide +kernel, by decide +kernel⟩, List.mem_of_getElem? (i := 216) (by decide +kernel), List.mem_of_getElem? (i := 865) (by decide +kernel), List.mem_of_getElem? (i := 866) (by decide +kernel)⟩
theorem lw_p10 : lw_okq (⟨"NestedVectors$Parser", "within", "(I)Z"⟩, 5) := ⟨⟨by decide +kernel, by decide +kernel⟩, List.mem_of_getElem? (i := 216) (by decide +kernel), List.mem_of_getElem? (i := 869) (by decide +kernel), List.mem_of_getElem? (i := 870) (by decide +kernel)⟩
theorem lw_p11 : lw_okq (⟨"NestedVectors$Parser", "let", "(I)I"⟩, 5) := ⟨⟨by decide +kernel, by decide +kernel⟩, List.mem_of_getElem? (i := 216) (by decide +kernel), List.mem_of_getElem? (i := 873) (by decide +kernel), List.mem_of_getElem? (i := 874) (by decide +kernel)⟩
theorem lw_p12 : lw_okq (⟨"NestedVectors$Parser", "create", "()I"⟩, 5) := ⟨⟨by decide +kernel, by decide +kernel⟩, List.mem_of_getElem? (i := 216) (by decide +kernel), List.mem_of_getElem? (i := 877) (by decide +kernel), List.mem_of_getElem? (i := 878) (by decide +kernel)⟩
theorem lw_p13 : lw_okq (⟨"NestedVectors$Parser", "choice", "(I)I"⟩, 5) := ⟨⟨by decide +kernel, by decide +kernel⟩, List.mem_of_getElem? (i := 216) (by decide +kernel), List.mem_of_getElem? (i := 896) (by decide +kernel), List.mem_of_getElem? (i := 897) (by decide +kernel)⟩
theorem lw_p14 : lw_okq (⟨"NestedVectors$Parser", "comparison", "(I)I"⟩, 5) := ⟨⟨by decide +kernel, by decide +kernel⟩, List.mem_of_getElem? (i := 216) (by decide +kernel), List.mem_of_getElem? (i := 900) (by decide +kernel), List.mem_of_getElem? (i := 901) (by decide +kernel)⟩
theorem lw_p15 : lw_okq (⟨"NestedVectors$Parser", "sum", "(I)I"⟩, 5) := ⟨⟨by decide +kernel, by decide +kernel⟩, List.mem_of_getElem? (i := 216) (by decide +kernel), List.mem_of_getElem? (i := 904) (by decide +kernel), List.mem_of_getElem? (i := 905) (by decide +kernel)⟩
def lw_privs_1 : List (MethodName × Nat) := [(⟨"NestedVectors$Tokens", "ahead", "()I"⟩, 8), (⟨"NestedVectors$Tokens", "takeNumber", "()V"⟩, 8), (⟨"NestedVectors$Tokens", "takeWord", "()V"⟩, 8), (⟨"NestedVectors$Parser", "title", "(I)V"⟩, 5), (⟨"NestedVectors$Parser", "fail", "()V"⟩, 5), (⟨"NestedVectors$Parser", "expect", "(I)V"⟩, 5), (⟨"NestedVectors$Parser", "parameters", "(I)V"⟩, 5), (⟨"NestedVectors$Parser", "type", "()I"⟩, 5), (⟨"NestedVectors$Parser", "meaning", "(I)V"⟩, 5), (⟨"NestedVectors$Parser", "expression", "(I)I"⟩, 5), (⟨"NestedVectors$Parser", "within", "(I)Z"⟩, 5), (⟨"NestedVectors$Parser", "let", "(I)I"⟩, 5), (⟨"NestedVectors$Parser", "create", "()I"⟩, 5), (⟨"NestedVectors$Parser", "choice", "(I)I"⟩, 5), (⟨"NestedVectors$Parser", "comparison", "(I)I"⟩, 5), (⟨"NestedVectors$Parser", "sum", "(I)I"⟩, 5)]
theorem lw_r1 : ∀ q ∈ lw_privs_1, lw_okq q := List.forall_mem_cons.mpr ⟨lw_p0, List.forall_mem_cons.mpr ⟨lw_p1, List.forall_mem_cons.mpr ⟨lw_p2, List.forall_mem_cons.mpr ⟨lw_p3, List.forall_mem_cons.mpr ⟨lw_p4, List.forall_mem_cons.mpr ⟨lw_p5, List.forall_mem_cons.mpr ⟨lw_p6, List.forall_mem_cons.mpr ⟨lw_p7, List.forall_mem_cons.mpr ⟨lw_p8, List.forall_mem_cons.mpr ⟨lw_p9, List.forall_mem_cons.mpr ⟨lw_p10, List.forall_mem_cons.mpr ⟨lw_p11, List.forall_mem_cons.mpr ⟨lw_p12, List.forall_mem_cons.mpr ⟨lw_p13, List.forall_mem_cons.mpr ⟨lw_p14, List.forall_mem_cons.mpr ⟨lw_p15, fun _ h => absurd h List.not_mem_nil⟩⟩⟩⟩⟩⟩⟩⟩⟩⟩⟩⟩⟩⟩⟩⟩
theorem lw_p16 : lw_okq (⟨"NestedVectors$Parser", "product", "(I)I"⟩, 5) := ⟨⟨by decide +kernel, by decide +kernel⟩, List.mem_of_getElem? (i := 216) (by decide +kernel), List.mem_of_getElem? (i := 908) (by decide +kernel), List.mem_of_getElem? (i := 909) (by decide +kernel)⟩
theorem lw_p17 : lw_okq (⟨"NestedVectors$Parser", "unary", "(I)I"⟩, 5) := ⟨⟨by decide +kernel, by decide +kernel⟩, List.mem_of_getElem? (i := 216) (by decide +kernel), List.mem_of_getElem? (i := 912) (by decide +kernel), List.mem_of_getElem? (i := 913) (by decide +kernel)⟩
theorem lw_p18 : lw_okq (⟨"NestedVectors$Parser", "item", "(I)I"⟩, 5) := ⟨⟨by decide +kernel, by decide +kernel⟩, List.mem_of_getElem? (i := 216) (by decide +kernel), List.mem_of_getElem? (i := 916) (by decide +kernel), List.mem_of_getElem? (i := 917) (by decide +kernel)⟩
theorem lw_p19 : lw_okq (⟨"NestedVectors$Parser", "atom", "(I)I"⟩, 5) := ⟨⟨by decide +kernel, by decide +kernel⟩, List.mem_of_getElem? (i := 216) (by decide +kernel), List.mem_of_getElem? (i := 920) (by decide +kernel), List.mem_of_getElem? (i := 921) (by decide +kernel)⟩
theorem lw_p20 : lw_okq (⟨"NestedVectors$Parser", "word", "(II)I"⟩, 5) := ⟨⟨by decide +kernel, by decide +kernel⟩, List.mem_of_getElem? (i := 216) (by decide +kernel), List.mem_of_getElem? (i := 924) (by decide +kernel), List.mem_of_getElem? (i := 925) (by decide +kernel)⟩
theorem lw_p21 : lw_okq (⟨"NestedVectors$Parser", "list", "(II)V"⟩, 5) := ⟨⟨by decide +kernel, by decide +kernel⟩, List.mem_of_getElem? (i := 216) (by decide +kernel), List.mem_of_getElem? (i := 928) (by decide +kernel), List.mem_of_getElem? (i := 929) (by decide +kernel)⟩
theorem lw_p22 : lw_okq (⟨"NestedVectors$Parser", "row", "(I)I"⟩, 5) := ⟨⟨by decide +kernel, by decide +kernel⟩, List.mem_of_getElem? (i := 216) (by decide +kernel), List.mem_of_getElem? (i := 932) (by decide +kernel), List.mem_of_getElem? (i := 933) (by decide +kernel)⟩
theorem lw_p23 : lw_okq (⟨"NestedVectors$Parser", "each", "(I)I"⟩, 5) := ⟨⟨by decide +kernel, by decide +kernel⟩, List.mem_of_getElem? (i := 216) (by decide +kernel), List.mem_of_getElem? (i := 936) (by decide +kernel), List.mem_of_getElem? (i := 937) (by decide +kernel)⟩
theorem lw_p24 : lw_okq (⟨"NestedVectors$Parser", "generators", "(II)V"⟩, 5) := ⟨⟨by decide +kernel, by decide +kernel⟩, List.mem_of_getElem? (i := 216) (by decide +kernel), List.mem_of_getElem? (i := 940) (by decide +kernel), List.mem_of_getElem? (i := 941) (by decide +kernel)⟩
theorem lw_p25 : lw_okq (⟨"NestedVectors$Parser", "both", "(III)I"⟩, 5) := ⟨⟨by decide +kernel, by decide +kernel⟩, List.mem_of_getElem? (i := 216) (by decide +kernel), List.mem_of_getElem? (i := 944) (by decide +kernel), List.mem_of_getElem? (i := 945) (by decide +kernel)⟩
theorem lw_p26 : lw_okq (⟨"NestedVectors$Checker", "definition", "(I)V"⟩, 14) := ⟨⟨by decide +kernel, by decide +kernel⟩, List.mem_of_getElem? (i := 329) (by decide +kernel), List.mem_of_getElem? (i := 956) (by decide +kernel), List.mem_of_getElem? (i := 957) (by decide +kernel)⟩
theorem lw_p27 : lw_okq (⟨"NestedVectors$Checker", "blame", "(II)V"⟩, 14) := ⟨⟨by decide +kernel, by decide +kernel⟩, List.mem_of_getElem? (i := 329) (by decide +kernel), List.mem_of_getElem? (i := 967) (by decide +kernel), List.mem_of_getElem? (i := 968) (by decide +kernel)⟩
theorem lw_p28 : lw_okq (⟨"NestedVectors$Checker", "find", "(J)I"⟩, 14) := ⟨⟨by decide +kernel, by decide +kernel⟩, List.mem_of_getElem? (i := 329) (by decide +kernel), List.mem_of_getElem? (i := 972) (by decide +kernel), List.mem_of_getElem? (i := 973) (by decide +kernel)⟩
theorem lw_p29 : lw_okq (⟨"NestedVectors$Checker", "bind", "(JI)I"⟩, 14) := ⟨⟨by decide +kernel, by decide +kernel⟩, List.mem_of_getElem? (i := 329) (by decide +kernel), List.mem_of_getElem? (i := 977) (by decide +kernel), List.mem_of_getElem? (i := 978) (by decide +kernel)⟩
theorem lw_p30 : lw_okq (⟨"NestedVectors$Checker", "walk", "(II)V"⟩, 14) := ⟨⟨by decide +kernel, by decide +kernel⟩, List.mem_of_getElem? (i := 329) (by decide +kernel), List.mem_of_getElem? (i := 982) (by decide +kernel), List.mem_of_getElem? (i := 983) (by decide +kernel)⟩
theorem lw_p31 : lw_okq (⟨"NestedVectors$Checker", "enter", "(I)V"⟩, 14) := ⟨⟨by decide +kernel, by decide +kernel⟩, List.mem_of_getElem? (i := 329) (by decide +kernel), List.mem_of_getElem? (i := 986) (by decide +kernel), List.mem_of_getElem? (i := 987) (by decide +kernel)⟩
def lw_privs_2 : List (MethodName × Nat) := [(⟨"NestedVectors$Parser", "product", "(I)I"⟩, 5), (⟨"NestedVectors$Parser", "unary", "(I)I"⟩, 5), (⟨"NestedVectors$Parser", "item", "(I)I"⟩, 5), (⟨"NestedVectors$Parser", "atom", "(I)I"⟩, 5), (⟨"NestedVectors$Parser", "word", "(II)I"⟩, 5), (⟨"NestedVectors$Parser", "list", "(II)V"⟩, 5), (⟨"NestedVectors$Parser", "row", "(I)I"⟩, 5), (⟨"NestedVectors$Parser", "each", "(I)I"⟩, 5), (⟨"NestedVectors$Parser", "generators", "(II)V"⟩, 5), (⟨"NestedVectors$Parser", "both", "(III)I"⟩, 5), (⟨"NestedVectors$Checker", "definition", "(I)V"⟩, 14), (⟨"NestedVectors$Checker", "blame", "(II)V"⟩, 14), (⟨"NestedVectors$Checker", "find", "(J)I"⟩, 14), (⟨"NestedVectors$Checker", "bind", "(JI)I"⟩, 14), (⟨"NestedVectors$Checker", "walk", "(II)V"⟩, 14), (⟨"NestedVectors$Checker", "enter", "(I)V"⟩, 14)]
theorem lw_r2 : ∀ q ∈ lw_privs_2, lw_okq q := List.forall_mem_cons.mpr ⟨lw_p16, List.forall_mem_cons.mpr ⟨lw_p17, List.forall_mem_cons.mpr ⟨lw_p18, List.forall_mem_cons.mpr ⟨lw_p19, List.forall_mem_cons.mpr ⟨lw_p20, List.forall_mem_cons.mpr ⟨lw_p21, List.forall_mem_cons.mpr ⟨lw_p22, List.forall_mem_cons.mpr ⟨lw_p23, List.forall_mem_cons.mpr ⟨lw_p24, List.forall_mem_cons.mpr ⟨lw_p25, List.forall_mem_cons.mpr ⟨lw_p26, List.forall_mem_cons.mpr ⟨lw_p27, List.forall_mem_cons.mpr ⟨lw_p28, List.forall_mem_cons.mpr ⟨lw_p29, List.forall_mem_cons.mpr ⟨lw_p30, List.forall_mem_cons.mpr ⟨lw_p31, fun _ h => absurd h List.not_mem_nil⟩⟩⟩⟩⟩⟩⟩⟩⟩⟩⟩⟩⟩⟩⟩⟩
theorem lw_p32 : lw_okq (⟨"NestedVectors$Checker", "leave", "(I)V"⟩, 14) := ⟨⟨by decide +kernel, by decide +kernel⟩, List.mem_of_getElem? (i := 329) (by decide +kernel), List.mem_of_getElem? (i := 995) (by decide +kernel), List.mem_of_getElem? (i := 996) (by decide +kernel)⟩
theorem lw_p33 : lw_okq (⟨"NestedVectors$Checker", "resolve", "(II)V"⟩, 14) := ⟨⟨by decide +kernel, by decide +kernel⟩, List.mem_of_getElem? (i := 329) (by decide +kernel), List.mem_of_getElem? (i := 999) (by decide +kernel), List.mem_of_getElem? (i := 1000) (by decide +kernel)⟩
theorem lw_p34 : lw_okq (⟨"NestedVectors$Checker", "depthOf", "(II)I"⟩, 14) := ⟨⟨by decide +kernel, by decide +kernel⟩, List.mem_of_getElem? (i := 329) (by decide +kernel), List.mem_of_getElem? (i := 1003) (by decide +kernel), List.mem_of_getElem? (i := 1004) (by decide +kernel)⟩
theorem lw_p35 : lw_okq (⟨"NestedVectors$Checker", "depthOfChoice", "(I)I"⟩, 14) := ⟨⟨by decide +kernel, by decide +kernel⟩, List.mem_of_getElem? (i := 329) (by decide +kernel), List.mem_of_getElem? (i := 1007) (by decide +kernel), List.mem_of_getElem? (i := 1008) (by decide +kernel)⟩
theorem lw_p36 : lw_okq (⟨"NestedVectors$Checker", "depthOfRow", "(I)I"⟩, 14) := ⟨⟨by decide +kernel, by decide +kernel⟩, List.mem_of_getElem? (i := 329) (by decide +kernel), List.mem_of_getElem? (i := 1011) (by decide +kernel), List.mem_of_getElem? (i := 1012) (by decide +kernel)⟩
theorem lw_p37 : lw_okq (⟨"NestedVectors$Checker", "depthOfEach", "(I)I"⟩, 14) := ⟨⟨by decide +kernel, by decide +kernel⟩, List.mem_of_getElem? (i := 329) (by decide +kernel), List.mem_of_getElem? (i := 1015) (by decide +kernel), List.mem_of_getElem? (i := 1016) (by decide +kernel)⟩
theorem lw_p38 : lw_okq (⟨"NestedVectors$Checker", "depthOfCall", "(I)I"⟩, 14) := ⟨⟨by decide +kernel, by decide +kernel⟩, List.mem_of_getElem? (i := 329) (by decide +kernel), List.mem_of_getElem? (i := 1019) (by decide +kernel), List.mem_of_getElem? (i := 1020) (by decide +kernel)⟩
theorem lw_p39 : lw_okq (⟨"NestedVectors$Checker", "depthOfParts", "(II)I"⟩, 14) := ⟨⟨by decide +kernel, by decide +kernel⟩, List.mem_of_getElem? (i := 329) (by decide +kernel), List.mem_of_getElem? (i := 1026) (by decide +kernel), List.mem_of_getElem? (i := 1027) (by decide +kernel)⟩
theorem lw_p40 : lw_okq (⟨"NestedVectors$Checker", "conclude", "(II)V"⟩, 14) := ⟨⟨by decide +kernel, by decide +kernel⟩, List.mem_of_getElem? (i := 329) (by decide +kernel), List.mem_of_getElem? (i := 1030) (by decide +kernel), List.mem_of_getElem? (i := 1031) (by decide +kernel)⟩
theorem lw_p41 : lw_okq (⟨"NestedVectors$Checker", "ahead", "(II)V"⟩, 14) := ⟨⟨by decide +kernel, by decide +kernel⟩, List.mem_of_getElem? (i := 329) (by decide +kernel), List.mem_of_getElem? (i := 1034) (by decide +kernel), List.mem_of_getElem? (i := 1035) (by decide +kernel)⟩
theorem lw_p42 : lw_okq (⟨"NestedVectors$Checker", "open", "(I)V"⟩, 14) := ⟨⟨by decide +kernel, by decide +kernel⟩, List.mem_of_getElem? (i := 329) (by decide +kernel), List.mem_of_getElem? (i := 1038) (by decide +kernel), List.mem_of_getElem? (i := 1039) (by decide +kernel)⟩
theorem lw_p43 : lw_okq (⟨"NestedVectors$Lanes", "reset", "()V"⟩, 19) := ⟨⟨by decide +kernel, by decide +kernel⟩, List.mem_of_getElem? (i := 545) (by decide +kernel), List.mem_of_getElem? (i := 1079) (by decide +kernel), List.mem_of_getElem? (i := 1080) (by decide +kernel)⟩
theorem lw_p44 : lw_okq (⟨"NestedVectors$NestedRun", "spend", "(I)Z"⟩, 24) := ⟨⟨by decide +kernel, by decide +kernel⟩, List.mem_of_getElem? (i := 379) (by decide +kernel), List.mem_of_getElem? (i := 1104) (by decide +kernel), List.mem_of_getElem? (i := 1105) (by decide +kernel)⟩
theorem lw_p45 : lw_okq (⟨"NestedVectors$FlatRun", "give", "(I)V"⟩, 25) := ⟨⟨by decide +kernel, by decide +kernel⟩, List.mem_of_getElem? (i := 539) (by decide +kernel), List.mem_of_getElem? (i := 1123) (by decide +kernel), List.mem_of_getElem? (i := 1124) (by decide +kernel)⟩
theorem lw_p46 : lw_okq (⟨"NestedVectors$Lanes", "copyPicks", "()V"⟩, 19) := ⟨⟨by decide +kernel, by decide +kernel⟩, List.mem_of_getElem? (i := 545) (by decide +kernel), List.mem_of_getElem? (i := 1131) (by decide +kernel), List.mem_of_getElem? (i := 1132) (by decide +kernel)⟩
theorem lw_p47 : lw_okq (⟨"NestedVectors$Lanes", "store", "(I)V"⟩, 19) := ⟨⟨by decide +kernel, by decide +kernel⟩, List.mem_of_getElem? (i := 545) (by decide +kernel), List.mem_of_getElem? (i := 1140) (by decide +kernel), List.mem_of_getElem? (i := 1141) (by decide +kernel)⟩
def lw_privs_3 : List (MethodName × Nat) := [(⟨"NestedVectors$Checker", "leave", "(I)V"⟩, 14), (⟨"NestedVectors$Checker", "resolve", "(II)V"⟩, 14), (⟨"NestedVectors$Checker", "depthOf", "(II)I"⟩, 14), (⟨"NestedVectors$Checker", "depthOfChoice", "(I)I"⟩, 14), (⟨"NestedVectors$Checker", "depthOfRow", "(I)I"⟩, 14), (⟨"NestedVectors$Checker", "depthOfEach", "(I)I"⟩, 14), (⟨"NestedVectors$Checker", "depthOfCall", "(I)I"⟩, 14), (⟨"NestedVectors$Checker", "depthOfParts", "(II)I"⟩, 14), (⟨"NestedVectors$Checker", "conclude", "(II)V"⟩, 14), (⟨"NestedVectors$Checker", "ahead", "(II)V"⟩, 14), (⟨"NestedVectors$Checker", "open", "(I)V"⟩, 14), (⟨"NestedVectors$Lanes", "reset", "()V"⟩, 19), (⟨"NestedVectors$NestedRun", "spend", "(I)Z"⟩, 24), (⟨"NestedVectors$FlatRun", "give", "(I)V"⟩, 25), (⟨"NestedVectors$Lanes", "copyPicks", "()V"⟩, 19), (⟨"NestedVectors$Lanes", "store", "(I)V"⟩, 19)]
theorem lw_r3 : ∀ q ∈ lw_privs_3, lw_okq q := List.forall_mem_cons.mpr ⟨lw_p32, List.forall_mem_cons.mpr ⟨lw_p33, List.forall_mem_cons.mpr ⟨lw_p34, List.forall_mem_cons.mpr ⟨lw_p35, List.forall_mem_cons.mpr ⟨lw_p36, List.forall_mem_cons.mpr ⟨lw_p37, List.forall_mem_cons.mpr ⟨lw_p38, List.forall_mem_cons.mpr ⟨lw_p39, List.forall_mem_cons.mpr ⟨lw_p40, List.forall_mem_cons.mpr ⟨lw_p41, List.forall_mem_cons.mpr ⟨lw_p42, List.forall_mem_cons.mpr ⟨lw_p43, List.forall_mem_cons.mpr ⟨lw_p44, List.forall_mem_cons.mpr ⟨lw_p45, List.forall_mem_cons.mpr ⟨lw_p46, List.forall_mem_cons.mpr ⟨lw_p47, fun _ h => absurd h List.not_mem_nil⟩⟩⟩⟩⟩⟩⟩⟩⟩⟩⟩⟩⟩⟩⟩⟩
theorem lw_p48 : lw_okq (⟨"NestedVectors$Lanes", "copy", "([II)V"⟩, 19) := ⟨⟨by decide +kernel, by decide +kernel⟩, List.mem_of_getElem? (i := 545) (by decide +kernel), List.mem_of_getElem? (i := 1152) (by decide +kernel), List.mem_of_getElem? (i := 1153) (by decide +kernel)⟩
theorem lw_p49 : lw_okq (⟨"NestedVectors$Lanes", "layOut", "(I)V"⟩, 19) := ⟨⟨by decide +kernel, by decide +kernel⟩, List.mem_of_getElem? (i := 545) (by decide +kernel), List.mem_of_getElem? (i := 1156) (by decide +kernel), List.mem_of_getElem? (i := 1157) (by decide +kernel)⟩
theorem lw_p50 : lw_okq (⟨"NestedVectors$NestedRun", "gather", "(I)V"⟩, 24) := ⟨⟨by decide +kernel, by decide +kernel⟩, List.mem_of_getElem? (i := 379) (by decide +kernel), List.mem_of_getElem? (i := 1188) (by decide +kernel), List.mem_of_getElem? (i := 1189) (by decide +kernel)⟩
theorem lw_p51 : lw_okq (⟨"NestedVectors$NestedRun", "give", "()V"⟩, 24) := ⟨⟨by decide +kernel, by decide +kernel⟩, List.mem_of_getElem? (i := 379) (by decide +kernel), List.mem_of_getElem? (i := 1194) (by decide +kernel), List.mem_of_getElem? (i := 1195) (by decide +kernel)⟩
theorem lw_p52 : lw_okq (⟨"NestedVectors$NestedRun", "countOf", "(I)I"⟩, 24) := ⟨⟨by decide +kernel, by decide +kernel⟩, List.mem_of_getElem? (i := 379) (by decide +kernel), List.mem_of_getElem? (i := 1198) (by decide +kernel), List.mem_of_getElem? (i := 1199) (by decide +kernel)⟩
theorem lw_p53 : lw_okq (⟨"NestedVectors$NestedRun", "keep", "(I)V"⟩, 24) := ⟨⟨by decide +kernel, by decide +kernel⟩, List.mem_of_getElem? (i := 379) (by decide +kernel), List.mem_of_getElem? (i := 1202) (by decide +kernel), List.mem_of_getElem? (i := 1203) (by decide +kernel)⟩
theorem lw_p54 : lw_okq (⟨"NestedVectors$FlatRun", "restore", "(I)V"⟩, 25) := ⟨⟨by decide +kernel, by decide +kernel⟩, List.mem_of_getElem? (i := 539) (by decide +kernel), List.mem_of_getElem? (i := 1218) (by decide +kernel), List.mem_of_getElem? (i := 1219) (by decide +kernel)⟩
theorem lw_p55 : lw_okq (⟨"NestedVectors$NestedRun", "lengthOf", "(I)I"⟩, 24) := ⟨⟨by decide +kernel, by decide +kernel⟩, List.mem_of_getElem? (i := 379) (by decide +kernel), List.mem_of_getElem? (i := 1245) (by decide +kernel), List.mem_of_getElem? (i := 1246) (by decide +kernel)⟩
theorem lw_p56 : lw_okq (⟨"NestedVectors$FlatRun", "sizeIn", "(II)I"⟩, 25) := ⟨⟨by decide +kernel, by decide +kernel⟩, List.mem_of_getElem? (i := 539) (by decide +kernel), List.mem_of_getElem? (i := 1255) (by decide +kernel), List.mem_of_getElem? (i := 1256) (by decide +kernel)⟩
theorem lw_p57 : lw_okq (⟨"NestedVectors$NestedRun", "add", "(I)V"⟩, 24) := ⟨⟨by decide +kernel, by decide +kernel⟩, List.mem_of_getElem? (i := 379) (by decide +kernel), List.mem_of_getElem? (i := 1274) (by decide +kernel), List.mem_of_getElem? (i := 1275) (by decide +kernel)⟩
theorem lw_p58 : lw_okq (⟨"NestedVectors$NestedRun", "itemOf", "(II)I"⟩, 24) := ⟨⟨by decide +kernel, by decide +kernel⟩, List.mem_of_getElem? (i := 379) (by decide +kernel), List.mem_of_getElem? (i := 1293) (by decide +kernel), List.mem_of_getElem? (i := 1294) (by decide +kernel)⟩
theorem lw_p59 : lw_okq (⟨"NestedVectors$NestedRun", "addAll", "(I)V"⟩, 24) := ⟨⟨by decide +kernel, by decide +kernel⟩, List.mem_of_getElem? (i := 379) (by decide +kernel), List.mem_of_getElem? (i := 1315) (by decide +kernel), List.mem_of_getElem? (i := 1316) (by decide +kernel)⟩
theorem lw_p60 : lw_okq (⟨"NestedVectors$FlatRun", "ordered", "(III)I"⟩, 25) := ⟨⟨by decide +kernel, by decide +kernel⟩, List.mem_of_getElem? (i := 539) (by decide +kernel), List.mem_of_getElem? (i := 1380) (by decide +kernel), List.mem_of_getElem? (i := 1381) (by decide +kernel)⟩
theorem lw_p61 : lw_okq (⟨"NestedVectors$FlatRun", "cannotDivide", "(IIII)I"⟩, 25) := ⟨⟨by decide +kernel, by decide +kernel⟩, List.mem_of_getElem? (i := 539) (by decide +kernel), List.mem_of_getElem? (i := 1398) (by decide +kernel), List.mem_of_getElem? (i := 1399) (by decide +kernel)⟩
theorem lw_p62 : lw_okq (⟨"NestedVectors$NestedRun", "keepParts", "(IIZ)V"⟩, 24) := ⟨⟨by decide +kernel, by decide +kernel⟩, List.mem_of_getElem? (i := 379) (by decide +kernel), List.mem_of_getElem? (i := 1405) (by decide +kernel), List.mem_of_getElem? (i := 1406) (by decide +kernel)⟩
theorem lw_p63 : lw_okq (⟨"NestedVectors$FlatRun", "branch", "(IIZ)V"⟩, 25) := ⟨⟨by decide +kernel, by decide +kernel⟩, List.mem_of_getElem? (i := 539) (by decide +kernel), List.mem_of_getElem? (i := 1440) (by decide +kernel), List.mem_of_getElem? (i := 1441) (by decide +kernel)⟩
def lw_privs_4 : List (MethodName × Nat) := [(⟨"NestedVectors$Lanes", "copy", "([II)V"⟩, 19), (⟨"NestedVectors$Lanes", "layOut", "(I)V"⟩, 19), (⟨"NestedVectors$NestedRun", "gather", "(I)V"⟩, 24), (⟨"NestedVectors$NestedRun", "give", "()V"⟩, 24), (⟨"NestedVectors$NestedRun", "countOf", "(I)I"⟩, 24), (⟨"NestedVectors$NestedRun", "keep", "(I)V"⟩, 24), (⟨"NestedVectors$FlatRun", "restore", "(I)V"⟩, 25), (⟨"NestedVectors$NestedRun", "lengthOf", "(I)I"⟩, 24), (⟨"NestedVectors$FlatRun", "sizeIn", "(II)I"⟩, 25), (⟨"NestedVectors$NestedRun", "add", "(I)V"⟩, 24), (⟨"NestedVectors$NestedRun", "itemOf", "(II)I"⟩, 24), (⟨"NestedVectors$NestedRun", "addAll", "(I)V"⟩, 24), (⟨"NestedVectors$FlatRun", "ordered", "(III)I"⟩, 25), (⟨"NestedVectors$FlatRun", "cannotDivide", "(IIII)I"⟩, 25), (⟨"NestedVectors$NestedRun", "keepParts", "(IIZ)V"⟩, 24), (⟨"NestedVectors$FlatRun", "branch", "(IIZ)V"⟩, 25)]
theorem lw_r4 : ∀ q ∈ lw_privs_4, lw_okq q := List.forall_mem_cons.mpr ⟨lw_p48, List.forall_mem_cons.mpr ⟨lw_p49, List.forall_mem_cons.mpr ⟨lw_p50, List.forall_mem_cons.mpr ⟨lw_p51, List.forall_mem_cons.mpr ⟨lw_p52, List.forall_mem_cons.mpr ⟨lw_p53, List.forall_mem_cons.mpr ⟨lw_p54, List.forall_mem_cons.mpr ⟨lw_p55, List.forall_mem_cons.mpr ⟨lw_p56, List.forall_mem_cons.mpr ⟨lw_p57, List.forall_mem_cons.mpr ⟨lw_p58, List.forall_mem_cons.mpr ⟨lw_p59, List.forall_mem_cons.mpr ⟨lw_p60, List.forall_mem_cons.mpr ⟨lw_p61, List.forall_mem_cons.mpr ⟨lw_p62, List.forall_mem_cons.mpr ⟨lw_p63, fun _ h => absurd h List.not_mem_nil⟩⟩⟩⟩⟩⟩⟩⟩⟩⟩⟩⟩⟩⟩⟩⟩
theorem lw_p64 : lw_okq (⟨"NestedVectors$FlatRun", "want", "(II)V"⟩, 25) := ⟨⟨by decide +kernel, by decide +kernel⟩, List.mem_of_getElem? (i := 539) (by decide +kernel), List.mem_of_getElem? (i := 1444) (by decide +kernel), List.mem_of_getElem? (i := 1445) (by decide +kernel)⟩
theorem lw_p65 : lw_okq (⟨"NestedVectors$FlatRun", "insert", "(I)V"⟩, 25) := ⟨⟨by decide +kernel, by decide +kernel⟩, List.mem_of_getElem? (i := 539) (by decide +kernel), List.mem_of_getElem? (i := 1448) (by decide +kernel), List.mem_of_getElem? (i := 1449) (by decide +kernel)⟩
theorem lw_p66 : lw_okq (⟨"NestedVectors$FlatRun", "saveWanted", "(I)V"⟩, 25) := ⟨⟨by decide +kernel, by decide +kernel⟩, List.mem_of_getElem? (i := 539) (by decide +kernel), List.mem_of_getElem? (i := 1452) (by decide +kernel), List.mem_of_getElem? (i := 1453) (by decide +kernel)⟩
theorem lw_p67 : lw_okq (⟨"NestedVectors$FlatRun", "narrow", "(IZI)V"⟩, 25) := ⟨⟨by decide +kernel, by decide +kernel⟩, List.mem_of_getElem? (i := 539) (by decide +kernel), List.mem_of_getElem? (i := 1456) (by decide +kernel), List.mem_of_getElem? (i := 1457) (by decide +kernel)⟩
theorem lw_p68 : lw_okq (⟨"NestedVectors$FlatRun", "chosen", "(IIZ)Z"⟩, 25) := ⟨⟨by decide +kernel, by decide +kernel⟩, List.mem_of_getElem? (i := 539) (by decide +kernel), List.mem_of_getElem? (i := 1460) (by decide +kernel), List.mem_of_getElem? (i := 1461) (by decide +kernel)⟩
theorem lw_p69 : lw_okq (⟨"NestedVectors$FlatRun", "asLong", "(I)Z"⟩, 25) := ⟨⟨by decide +kernel, by decide +kernel⟩, List.mem_of_getElem? (i := 539) (by decide +kernel), List.mem_of_getElem? (i := 1494) (by decide +kernel), List.mem_of_getElem? (i := 1495) (by decide +kernel)⟩
theorem lw_p70 : lw_okq (⟨"NestedVectors$FlatRun", "spread", "(I)V"⟩, 25) := ⟨⟨by decide +kernel, by decide +kernel⟩, List.mem_of_getElem? (i := 539) (by decide +kernel), List.mem_of_getElem? (i := 1498) (by decide +kernel), List.mem_of_getElem? (i := 1499) (by decide +kernel)⟩
theorem lw_p71 : lw_okq (⟨"NestedVectors$NestedRun", "visit", "(I)V"⟩, 24) := ⟨⟨by decide +kernel, by decide +kernel⟩, List.mem_of_getElem? (i := 379) (by decide +kernel), List.mem_of_getElem? (i := 1509) (by decide +kernel), List.mem_of_getElem? (i := 1510) (by decide +kernel)⟩
theorem lw_p72 : lw_okq (⟨"NestedVectors$FlatRun", "shorten", "(II)V"⟩, 25) := ⟨⟨by decide +kernel, by decide +kernel⟩, List.mem_of_getElem? (i := 539) (by decide +kernel), List.mem_of_getElem? (i := 1519) (by decide +kernel), List.mem_of_getElem? (i := 1520) (by decide +kernel)⟩
theorem lw_p73 : lw_okq (⟨"NestedVectors$FlatRun", "drawLane", "(III)V"⟩, 25) := ⟨⟨by decide +kernel, by decide +kernel⟩, List.mem_of_getElem? (i := 539) (by decide +kernel), List.mem_of_getElem? (i := 1552) (by decide +kernel), List.mem_of_getElem? (i := 1553) (by decide +kernel)⟩
theorem lw_p74 : lw_okq (⟨"NestedVectors$NestedRun", "drawItem", "(II)V"⟩, 24) := ⟨⟨by decide +kernel, by decide +kernel⟩, List.mem_of_getElem? (i := 379) (by decide +kernel), List.mem_of_getElem? (i := 1564) (by decide +kernel), List.mem_of_getElem? (i := 1565) (by decide +kernel)⟩
theorem lw_p75 : lw_okq (⟨"NestedVectors$Image", "write", "(I)V"⟩, 6) := ⟨⟨by decide +kernel, by decide +kernel⟩, List.mem_of_getElem? (i := 391) (by decide +kernel), List.mem_of_getElem? (i := 1573) (by decide +kernel), List.mem_of_getElem? (i := 1574) (by decide +kernel)⟩
theorem lw_p76 : lw_okq (⟨"NestedVectors$Image", "number", "(I)V"⟩, 6) := ⟨⟨by decide +kernel, by decide +kernel⟩, List.mem_of_getElem? (i := 391) (by decide +kernel), List.mem_of_getElem? (i := 1578) (by decide +kernel), List.mem_of_getElem? (i := 1579) (by decide +kernel)⟩
theorem lw_p77 : lw_okq (⟨"NestedVectors$Image", "letter", "(C)V"⟩, 6) := ⟨⟨by decide +kernel, by decide +kernel⟩, List.mem_of_getElem? (i := 391) (by decide +kernel), List.mem_of_getElem? (i := 1582) (by decide +kernel), List.mem_of_getElem? (i := 1583) (by decide +kernel)⟩
theorem lw_p78 : lw_okq (⟨"NestedVectorsModel", "cutTokens", "()V"⟩, 106) := ⟨⟨by decide +kernel, by decide +kernel⟩, List.mem_of_getElem? (i := 1620) (by decide +kernel), List.mem_of_getElem? (i := 1967) (by decide +kernel), List.mem_of_getElem? (i := 1968) (by decide +kernel)⟩
theorem lw_p79 : lw_okq (⟨"NestedVectorsModel", "byteOf", "(I)I"⟩, 106) := ⟨⟨by decide +kernel, by decide +kernel⟩, List.mem_of_getElem? (i := 1620) (by decide +kernel), List.mem_of_getElem? (i := 1976) (by decide +kernel), List.mem_of_getElem? (i := 1977) (by decide +kernel)⟩
def lw_privs_5 : List (MethodName × Nat) := [(⟨"NestedVectors$FlatRun", "want", "(II)V"⟩, 25), (⟨"NestedVectors$FlatRun", "insert", "(I)V"⟩, 25), (⟨"NestedVectors$FlatRun", "saveWanted", "(I)V"⟩, 25), (⟨"NestedVectors$FlatRun", "narrow", "(IZI)V"⟩, 25), (⟨"NestedVectors$FlatRun", "chosen", "(IIZ)Z"⟩, 25), (⟨"NestedVectors$FlatRun", "asLong", "(I)Z"⟩, 25), (⟨"NestedVectors$FlatRun", "spread", "(I)V"⟩, 25), (⟨"NestedVectors$NestedRun", "visit", "(I)V"⟩, 24), (⟨"NestedVectors$FlatRun", "shorten", "(II)V"⟩, 25), (⟨"NestedVectors$FlatRun", "drawLane", "(III)V"⟩, 25), (⟨"NestedVectors$NestedRun", "drawItem", "(II)V"⟩, 24), (⟨"NestedVectors$Image", "write", "(I)V"⟩, 6), (⟨"NestedVectors$Image", "number", "(I)V"⟩, 6), (⟨"NestedVectors$Image", "letter", "(C)V"⟩, 6), (⟨"NestedVectorsModel", "cutTokens", "()V"⟩, 106), (⟨"NestedVectorsModel", "byteOf", "(I)I"⟩, 106)]
theorem lw_r5 : ∀ q ∈ lw_privs_5, lw_okq q := List.forall_mem_cons.mpr ⟨lw_p64, List.forall_mem_cons.mpr ⟨lw_p65, List.forall_mem_cons.mpr ⟨lw_p66, List.forall_mem_cons.mpr ⟨lw_p67, List.forall_mem_cons.mpr ⟨lw_p68, List.forall_mem_cons.mpr ⟨lw_p69, List.forall_mem_cons.mpr ⟨lw_p70, List.forall_mem_cons.mpr ⟨lw_p71, List.forall_mem_cons.mpr ⟨lw_p72, List.forall_mem_cons.mpr ⟨lw_p73, List.forall_mem_cons.mpr ⟨lw_p74, List.forall_mem_cons.mpr ⟨lw_p75, List.forall_mem_cons.mpr ⟨lw_p76, List.forall_mem_cons.mpr ⟨lw_p77, List.forall_mem_cons.mpr ⟨lw_p78, List.forall_mem_cons.mpr ⟨lw_p79, fun _ h => absurd h List.not_mem_nil⟩⟩⟩⟩⟩⟩⟩⟩⟩⟩⟩⟩⟩⟩⟩⟩
theorem lw_p80 : lw_okq (⟨"NestedVectorsModel", "token", "(IIJ)V"⟩, 106) := ⟨⟨by decide +kernel, by decide +kernel⟩, List.mem_of_getElem? (i := 1620) (by decide +kernel), List.mem_of_getElem? (i := 1981) (by decide +kernel), List.mem_of_getElem? (i := 1982) (by decide +kernel)⟩
theorem lw_p81 : lw_okq (⟨"NestedVectorsModel", "isWord", "(J)Z"⟩, 106) := ⟨⟨by decide +kernel, by decide +kernel⟩, List.mem_of_getElem? (i := 1620) (by decide +kernel), List.mem_of_getElem? (i := 1995) (by decide +kernel), List.mem_of_getElem? (i := 1996) (by decide +kernel)⟩
theorem lw_p82 : lw_okq (⟨"NestedVectorsModel", "readDef", "()V"⟩, 106) := ⟨⟨by decide +kernel, by decide +kernel⟩, List.mem_of_getElem? (i := 1620) (by decide +kernel), List.mem_of_getElem? (i := 2006) (by decide +kernel), List.mem_of_getElem? (i := 2007) (by decide +kernel)⟩
theorem lw_p83 : lw_okq (⟨"NestedVectorsModel", "wrong", "(II)V"⟩, 106) := ⟨⟨by decide +kernel, by decide +kernel⟩, List.mem_of_getElem? (i := 1620) (by decide +kernel), List.mem_of_getElem? (i := 2010) (by decide +kernel), List.mem_of_getElem? (i := 2011) (by decide +kernel)⟩
theorem lw_p84 : lw_okq (⟨"NestedVectorsModel", "want", "(Z)V"⟩, 106) := ⟨⟨by decide +kernel, by decide +kernel⟩, List.mem_of_getElem? (i := 1620) (by decide +kernel), List.mem_of_getElem? (i := 2014) (by decide +kernel), List.mem_of_getElem? (i := 2015) (by decide +kernel)⟩
theorem lw_p85 : lw_okq (⟨"NestedVectorsModel", "isName", "()Z"⟩, 106) := ⟨⟨by decide +kernel, by decide +kernel⟩, List.mem_of_getElem? (i := 1620) (by decide +kernel), List.mem_of_getElem? (i := 2018) (by decide +kernel), List.mem_of_getElem? (i := 2019) (by decide +kernel)⟩
theorem lw_p86 : lw_okq (⟨"NestedVectorsModel", "isSignNow", "(I)Z"⟩, 106) := ⟨⟨by decide +kernel, by decide +kernel⟩, List.mem_of_getElem? (i := 1620) (by decide +kernel), List.mem_of_getElem? (i := 2045) (by decide +kernel), List.mem_of_getElem? (i := 2046) (by decide +kernel)⟩
theorem lw_p87 : lw_okq (⟨"NestedVectorsModel", "readParams", "(I)V"⟩, 106) := ⟨⟨by decide +kernel, by decide +kernel⟩, List.mem_of_getElem? (i := 1620) (by decide +kernel), List.mem_of_getElem? (i := 2049) (by decide +kernel), List.mem_of_getElem? (i := 2050) (by decide +kernel)⟩
theorem lw_p88 : lw_okq (⟨"NestedVectorsModel", "readType", "()I"⟩, 106) := ⟨⟨by decide +kernel, by decide +kernel⟩, List.mem_of_getElem? (i := 1620) (by decide +kernel), List.mem_of_getElem? (i := 2053) (by decide +kernel), List.mem_of_getElem? (i := 2054) (by decide +kernel)⟩
theorem lw_p89 : lw_okq (⟨"NestedVectorsModel", "readWhole", "()I"⟩, 106) := ⟨⟨by decide +kernel, by decide +kernel⟩, List.mem_of_getElem? (i := 1620) (by decide +kernel), List.mem_of_getElem? (i := 2058) (by decide +kernel), List.mem_of_getElem? (i := 2059) (by decide +kernel)⟩
theorem lw_p90 : lw_okq (⟨"NestedVectorsModel", "pile", "(II)V"⟩, 106) := ⟨⟨by decide +kernel, by decide +kernel⟩, List.mem_of_getElem? (i := 1620) (by decide +kernel), List.mem_of_getElem? (i := 2062) (by decide +kernel), List.mem_of_getElem? (i := 2063) (by decide +kernel)⟩
theorem lw_p91 : lw_okq (⟨"NestedVectorsModel", "goOn", "(II)V"⟩, 106) := ⟨⟨by decide +kernel, by decide +kernel⟩, List.mem_of_getElem? (i := 1620) (by decide +kernel), List.mem_of_getElem? (i := 2066) (by decide +kernel), List.mem_of_getElem? (i := 2067) (by decide +kernel)⟩
theorem lw_p92 : lw_okq (⟨"NestedVectorsModel", "readExpr", "()V"⟩, 106) := ⟨⟨by decide +kernel, by decide +kernel⟩, List.mem_of_getElem? (i := 1620) (by decide +kernel), List.mem_of_getElem? (i := 2070) (by decide +kernel), List.mem_of_getElem? (i := 2071) (by decide +kernel)⟩
theorem lw_p93 : lw_okq (⟨"NestedVectorsModel", "enter", "()V"⟩, 106) := ⟨⟨by decide +kernel, by decide +kernel⟩, List.mem_of_getElem? (i := 1620) (by decide +kernel), List.mem_of_getElem? (i := 2074) (by decide +kernel), List.mem_of_getElem? (i := 2075) (by decide +kernel)⟩
theorem lw_p94 : lw_okq (⟨"NestedVectorsModel", "newNode", "(I)I"⟩, 106) := ⟨⟨by decide +kernel, by decide +kernel⟩, List.mem_of_getElem? (i := 1620) (by decide +kernel), List.mem_of_getElem? (i := 2078) (by decide +kernel), List.mem_of_getElem? (i := 2079) (by decide +kernel)⟩
theorem lw_p95 : lw_okq (⟨"NestedVectorsModel", "readBetween", "(III)V"⟩, 106) := ⟨⟨by decide +kernel, by decide +kernel⟩, List.mem_of_getElem? (i := 1620) (by decide +kernel), List.mem_of_getElem? (i := 2082) (by decide +kernel), List.mem_of_getElem? (i := 2083) (by decide +kernel)⟩
def lw_privs_6 : List (MethodName × Nat) := [(⟨"NestedVectorsModel", "token", "(IIJ)V"⟩, 106), (⟨"NestedVectorsModel", "isWord", "(J)Z"⟩, 106), (⟨"NestedVectorsModel", "readDef", "()V"⟩, 106), (⟨"NestedVectorsModel", "wrong", "(II)V"⟩, 106), (⟨"NestedVectorsModel", "want", "(Z)V"⟩, 106), (⟨"NestedVectorsModel", "isName", "()Z"⟩, 106), (⟨"NestedVectorsModel", "isSignNow", "(I)Z"⟩, 106), (⟨"NestedVectorsModel", "readParams", "(I)V"⟩, 106), (⟨"NestedVectorsModel", "readType", "()I"⟩, 106), (⟨"NestedVectorsModel", "readWhole", "()I"⟩, 106), (⟨"NestedVectorsModel", "pile", "(II)V"⟩, 106), (⟨"NestedVectorsModel", "goOn", "(II)V"⟩, 106), (⟨"NestedVectorsModel", "readExpr", "()V"⟩, 106), (⟨"NestedVectorsModel", "enter", "()V"⟩, 106), (⟨"NestedVectorsModel", "newNode", "(I)I"⟩, 106), (⟨"NestedVectorsModel", "readBetween", "(III)V"⟩, 106)]
theorem lw_r6 : ∀ q ∈ lw_privs_6, lw_okq q := List.forall_mem_cons.mpr ⟨lw_p80, List.forall_mem_cons.mpr ⟨lw_p81, List.forall_mem_cons.mpr ⟨lw_p82, List.forall_mem_cons.mpr ⟨lw_p83, List.forall_mem_cons.mpr ⟨lw_p84, List.forall_mem_cons.mpr ⟨lw_p85, List.forall_mem_cons.mpr ⟨lw_p86, List.forall_mem_cons.mpr ⟨lw_p87, List.forall_mem_cons.mpr ⟨lw_p88, List.forall_mem_cons.mpr ⟨lw_p89, List.forall_mem_cons.mpr ⟨lw_p90, List.forall_mem_cons.mpr ⟨lw_p91, List.forall_mem_cons.mpr ⟨lw_p92, List.forall_mem_cons.mpr ⟨lw_p93, List.forall_mem_cons.mpr ⟨lw_p94, List.forall_mem_cons.mpr ⟨lw_p95, fun _ h => absurd h List.not_mem_nil⟩⟩⟩⟩⟩⟩⟩⟩⟩⟩⟩⟩⟩⟩⟩⟩
theorem lw_p96 : lw_okq (⟨"NestedVectorsModel", "popped", "()I"⟩, 106) := ⟨⟨by decide +kernel, by decide +kernel⟩, List.mem_of_getElem? (i := 1620) (by decide +kernel), List.mem_of_getElem? (i := 2086) (by decide +kernel), List.mem_of_getElem? (i := 2087) (by decide +kernel)⟩
theorem lw_p97 : lw_okq (⟨"NestedVectorsModel", "kid", "(II)V"⟩, 106) := ⟨⟨by decide +kernel, by decide +kernel⟩, List.mem_of_getElem? (i := 1620) (by decide +kernel), List.mem_of_getElem? (i := 2090) (by decide +kernel), List.mem_of_getElem? (i := 2091) (by decide +kernel)⟩
theorem lw_p98 : lw_okq (⟨"NestedVectorsModel", "readAtom", "()V"⟩, 106) := ⟨⟨by decide +kernel, by decide +kernel⟩, List.mem_of_getElem? (i := 1620) (by decide +kernel), List.mem_of_getElem? (i := 2094) (by decide +kernel), List.mem_of_getElem? (i := 2095) (by decide +kernel)⟩
theorem lw_p99 : lw_okq (⟨"NestedVectorsModel", "pushed", "(I)V"⟩, 106) := ⟨⟨by decide +kernel, by decide +kernel⟩, List.mem_of_getElem? (i := 1620) (by decide +kernel), List.mem_of_getElem? (i := 2098) (by decide +kernel), List.mem_of_getElem? (i := 2099) (by decide +kernel)⟩
theorem lw_p100 : lw_okq (⟨"NestedVectorsModel", "readList", "(I)V"⟩, 106) := ⟨⟨by decide +kernel, by decide +kernel⟩, List.mem_of_getElem? (i := 1620) (by decide +kernel), List.mem_of_getElem? (i := 2102) (by decide +kernel), List.mem_of_getElem? (i := 2103) (by decide +kernel)⟩
theorem lw_p101 : lw_okq (⟨"NestedVectorsModel", "readGen", "(I)V"⟩, 106) := ⟨⟨by decide +kernel, by decide +kernel⟩, List.mem_of_getElem? (i := 1620) (by decide +kernel), List.mem_of_getElem? (i := 2106) (by decide +kernel), List.mem_of_getElem? (i := 2107) (by decide +kernel)⟩
theorem lw_p102 : lw_okq (⟨"NestedVectorsModel", "readGenned", "(I)V"⟩, 106) := ⟨⟨by decide +kernel, by decide +kernel⟩, List.mem_of_getElem? (i := 1620) (by decide +kernel), List.mem_of_getElem? (i := 2110) (by decide +kernel), List.mem_of_getElem? (i := 2111) (by decide +kernel)⟩
theorem lw_p103 : lw_okq (⟨"NestedVectorsModel", "look", "()V"⟩, 106) := ⟨⟨by decide +kernel, by decide +kernel⟩, List.mem_of_getElem? (i := 1620) (by decide +kernel), List.mem_of_getElem? (i := 2114) (by decide +kernel), List.mem_of_getElem? (i := 2115) (by decide +kernel)⟩
theorem lw_p104 : lw_okq (⟨"NestedVectorsModel", "lookDef", "(I)V"⟩, 106) := ⟨⟨by decide +kernel, by decide +kernel⟩, List.mem_of_getElem? (i := 1620) (by decide +kernel), List.mem_of_getElem? (i := 2118) (by decide +kernel), List.mem_of_getElem? (i := 2119) (by decide +kernel)⟩
theorem lw_p105 : lw_okq (⟨"NestedVectorsModel", "know", "(JII)V"⟩, 106) := ⟨⟨by decide +kernel, by decide +kernel⟩, List.mem_of_getElem? (i := 1620) (by decide +kernel), List.mem_of_getElem? (i := 2125) (by decide +kernel), List.mem_of_getElem? (i := 2126) (by decide +kernel)⟩
theorem lw_p106 : lw_okq (⟨"NestedVectorsModel", "lookThrough", "(I)V"⟩, 106) := ⟨⟨by decide +kernel, by decide +kernel⟩, List.mem_of_getElem? (i := 1620) (by decide +kernel), List.mem_of_getElem? (i := 2129) (by decide +kernel), List.mem_of_getElem? (i := 2130) (by decide +kernel)⟩
theorem lw_p107 : lw_okq (⟨"NestedVectorsModel", "kidType", "(II)I"⟩, 106) := ⟨⟨by decide +kernel, by decide +kernel⟩, List.mem_of_getElem? (i := 1620) (by decide +kernel), List.mem_of_getElem? (i := 2133) (by decide +kernel), List.mem_of_getElem? (i := 2134) (by decide +kernel)⟩
theorem lw_p108 : lw_okq (⟨"NestedVectorsModel", "lookGens", "(I)V"⟩, 106) := ⟨⟨by decide +kernel, by decide +kernel⟩, List.mem_of_getElem? (i := 1620) (by decide +kernel), List.mem_of_getElem? (i := 2137) (by decide +kernel), List.mem_of_getElem? (i := 2138) (by decide +kernel)⟩
theorem lw_p109 : lw_okq (⟨"NestedVectorsModel", "partOf", "(II)I"⟩, 106) := ⟨⟨by decide +kernel, by decide +kernel⟩, List.mem_of_getElem? (i := 1620) (by decide +kernel), List.mem_of_getElem? (i := 2144) (by decide +kernel), List.mem_of_getElem? (i := 2145) (by decide +kernel)⟩
theorem lw_p110 : lw_okq (⟨"NestedVectorsModel", "hasTest", "(I)Z"⟩, 106) := ⟨⟨by decide +kernel, by decide +kernel⟩, List.mem_of_getElem? (i := 1620) (by decide +kernel), List.mem_of_getElem? (i := 2148) (by decide +kernel), List.mem_of_getElem? (i := 2149) (by decide +kernel)⟩
theorem lw_p111 : lw_okq (⟨"NestedVectorsModel", "lookAt", "(I)V"⟩, 106) := ⟨⟨by decide +kernel, by decide +kernel⟩, List.mem_of_getElem? (i := 1620) (by decide +kernel), List.mem_of_getElem? (i := 2152) (by decide +kernel), List.mem_of_getElem? (i := 2153) (by decide +kernel)⟩
def lw_privs_7 : List (MethodName × Nat) := [(⟨"NestedVectorsModel", "popped", "()I"⟩, 106), (⟨"NestedVectorsModel", "kid", "(II)V"⟩, 106), (⟨"NestedVectorsModel", "readAtom", "()V"⟩, 106), (⟨"NestedVectorsModel", "pushed", "(I)V"⟩, 106), (⟨"NestedVectorsModel", "readList", "(I)V"⟩, 106), (⟨"NestedVectorsModel", "readGen", "(I)V"⟩, 106), (⟨"NestedVectorsModel", "readGenned", "(I)V"⟩, 106), (⟨"NestedVectorsModel", "look", "()V"⟩, 106), (⟨"NestedVectorsModel", "lookDef", "(I)V"⟩, 106), (⟨"NestedVectorsModel", "know", "(JII)V"⟩, 106), (⟨"NestedVectorsModel", "lookThrough", "(I)V"⟩, 106), (⟨"NestedVectorsModel", "kidType", "(II)I"⟩, 106), (⟨"NestedVectorsModel", "lookGens", "(I)V"⟩, 106), (⟨"NestedVectorsModel", "partOf", "(II)I"⟩, 106), (⟨"NestedVectorsModel", "hasTest", "(I)Z"⟩, 106), (⟨"NestedVectorsModel", "lookAt", "(I)V"⟩, 106)]
theorem lw_r7 : ∀ q ∈ lw_privs_7, lw_okq q := List.forall_mem_cons.mpr ⟨lw_p96, List.forall_mem_cons.mpr ⟨lw_p97, List.forall_mem_cons.mpr ⟨lw_p98, List.forall_mem_cons.mpr ⟨lw_p99, List.forall_mem_cons.mpr ⟨lw_p100, List.forall_mem_cons.mpr ⟨lw_p101, List.forall_mem_cons.mpr ⟨lw_p102, List.forall_mem_cons.mpr ⟨lw_p103, List.forall_mem_cons.mpr ⟨lw_p104, List.forall_mem_cons.mpr ⟨lw_p105, List.forall_mem_cons.mpr ⟨lw_p106, List.forall_mem_cons.mpr ⟨lw_p107, List.forall_mem_cons.mpr ⟨lw_p108, List.forall_mem_cons.mpr ⟨lw_p109, List.forall_mem_cons.mpr ⟨lw_p110, List.forall_mem_cons.mpr ⟨lw_p111, fun _ h => absurd h List.not_mem_nil⟩⟩⟩⟩⟩⟩⟩⟩⟩⟩⟩⟩⟩⟩⟩⟩
theorem lw_p112 : lw_okq (⟨"NestedVectorsModel", "knownAt", "(J)I"⟩, 106) := ⟨⟨by decide +kernel, by decide +kernel⟩, List.mem_of_getElem? (i := 1620) (by decide +kernel), List.mem_of_getElem? (i := 2156) (by decide +kernel), List.mem_of_getElem? (i := 2157) (by decide +kernel)⟩
theorem lw_p113 : lw_okq (⟨"NestedVectorsModel", "typed", "(IZI)V"⟩, 106) := ⟨⟨by decide +kernel, by decide +kernel⟩, List.mem_of_getElem? (i := 1620) (by decide +kernel), List.mem_of_getElem? (i := 2160) (by decide +kernel), List.mem_of_getElem? (i := 2161) (by decide +kernel)⟩
theorem lw_p114 : lw_okq (⟨"NestedVectorsModel", "lookCall", "(I)V"⟩, 106) := ⟨⟨by decide +kernel, by decide +kernel⟩, List.mem_of_getElem? (i := 1620) (by decide +kernel), List.mem_of_getElem? (i := 2164) (by decide +kernel), List.mem_of_getElem? (i := 2165) (by decide +kernel)⟩
theorem lw_p115 : lw_okq (⟨"NestedVectorsModel", "defNamed", "(J)I"⟩, 106) := ⟨⟨by decide +kernel, by decide +kernel⟩, List.mem_of_getElem? (i := 1620) (by decide +kernel), List.mem_of_getElem? (i := 2168) (by decide +kernel), List.mem_of_getElem? (i := 2169) (by decide +kernel)⟩
theorem lw_p116 : lw_okq (⟨"NestedVectorsModel", "lookAct", "(I)V"⟩, 106) := ⟨⟨by decide +kernel, by decide +kernel⟩, List.mem_of_getElem? (i := 1620) (by decide +kernel), List.mem_of_getElem? (i := 2172) (by decide +kernel), List.mem_of_getElem? (i := 2173) (by decide +kernel)⟩
theorem lw_p117 : lw_okq (⟨"NestedVectorsModel", "has", "(II)Z"⟩, 106) := ⟨⟨by decide +kernel, by decide +kernel⟩, List.mem_of_getElem? (i := 1620) (by decide +kernel), List.mem_of_getElem? (i := 2176) (by decide +kernel), List.mem_of_getElem? (i := 2177) (by decide +kernel)⟩
theorem lw_p118 : lw_okq (⟨"NestedVectorsModel", "begin", "(I)V"⟩, 106) := ⟨⟨by decide +kernel, by decide +kernel⟩, List.mem_of_getElem? (i := 1620) (by decide +kernel), List.mem_of_getElem? (i := 2197) (by decide +kernel), List.mem_of_getElem? (i := 2198) (by decide +kernel)⟩
theorem lw_p119 : lw_okq (⟨"NestedVectorsModel", "works", "(J)V"⟩, 106) := ⟨⟨by decide +kernel, by decide +kernel⟩, List.mem_of_getElem? (i := 1620) (by decide +kernel), List.mem_of_getElem? (i := 2201) (by decide +kernel), List.mem_of_getElem? (i := 2202) (by decide +kernel)⟩
theorem lw_p120 : lw_okq (⟨"NestedVectorsModel", "goNested", "()V"⟩, 106) := ⟨⟨by decide +kernel, by decide +kernel⟩, List.mem_of_getElem? (i := 1620) (by decide +kernel), List.mem_of_getElem? (i := 2206) (by decide +kernel), List.mem_of_getElem? (i := 2207) (by decide +kernel)⟩
theorem lw_p121 : lw_okq (⟨"NestedVectorsModel", "goEach", "(I)V"⟩, 106) := ⟨⟨by decide +kernel, by decide +kernel⟩, List.mem_of_getElem? (i := 1620) (by decide +kernel), List.mem_of_getElem? (i := 2210) (by decide +kernel), List.mem_of_getElem? (i := 2211) (by decide +kernel)⟩
theorem lw_p122 : lw_okq (⟨"NestedVectorsModel", "goPart", "(II)V"⟩, 106) := ⟨⟨by decide +kernel, by decide +kernel⟩, List.mem_of_getElem? (i := 1620) (by decide +kernel), List.mem_of_getElem? (i := 2214) (by decide +kernel), List.mem_of_getElem? (i := 2215) (by decide +kernel)⟩
theorem lw_p123 : lw_okq (⟨"NestedVectorsModel", "ends", "(I)V"⟩, 106) := ⟨⟨by decide +kernel, by decide +kernel⟩, List.mem_of_getElem? (i := 1620) (by decide +kernel), List.mem_of_getElem? (i := 2218) (by decide +kernel), List.mem_of_getElem? (i := 2219) (by decide +kernel)⟩
theorem lw_p124 : lw_okq (⟨"NestedVectorsModel", "donePlace", "(II)V"⟩, 106) := ⟨⟨by decide +kernel, by decide +kernel⟩, List.mem_of_getElem? (i := 1620) (by decide +kernel), List.mem_of_getElem? (i := 2222) (by decide +kernel), List.mem_of_getElem? (i := 2223) (by decide +kernel)⟩
theorem lw_p125 : lw_okq (⟨"NestedVectorsModel", "add", "(I)V"⟩, 106) := ⟨⟨by decide +kernel, by decide +kernel⟩, List.mem_of_getElem? (i := 1620) (by decide +kernel), List.mem_of_getElem? (i := 2226) (by decide +kernel), List.mem_of_getElem? (i := 2227) (by decide +kernel)⟩
theorem lw_p126 : lw_okq (⟨"NestedVectorsModel", "seq", "(III)I"⟩, 106) := ⟨⟨by decide +kernel, by decide +kernel⟩, List.mem_of_getElem? (i := 1620) (by decide +kernel), List.mem_of_getElem? (i := 2230) (by decide +kernel), List.mem_of_getElem? (i := 2231) (by decide +kernel)⟩
theorem lw_p127 : lw_okq (⟨"NestedVectorsModel", "leave", "(I)V"⟩, 106) := ⟨⟨by decide +kernel, by decide +kernel⟩, List.mem_of_getElem? (i := 1620) (by decide +kernel), List.mem_of_getElem? (i := 2234) (by decide +kernel), List.mem_of_getElem? (i := 2235) (by decide +kernel)⟩
def lw_privs_8 : List (MethodName × Nat) := [(⟨"NestedVectorsModel", "knownAt", "(J)I"⟩, 106), (⟨"NestedVectorsModel", "typed", "(IZI)V"⟩, 106), (⟨"NestedVectorsModel", "lookCall", "(I)V"⟩, 106), (⟨"NestedVectorsModel", "defNamed", "(J)I"⟩, 106), (⟨"NestedVectorsModel", "lookAct", "(I)V"⟩, 106), (⟨"NestedVectorsModel", "has", "(II)Z"⟩, 106), (⟨"NestedVectorsModel", "begin", "(I)V"⟩, 106), (⟨"NestedVectorsModel", "works", "(J)V"⟩, 106), (⟨"NestedVectorsModel", "goNested", "()V"⟩, 106), (⟨"NestedVectorsModel", "goEach", "(I)V"⟩, 106), (⟨"NestedVectorsModel", "goPart", "(II)V"⟩, 106), (⟨"NestedVectorsModel", "ends", "(I)V"⟩, 106), (⟨"NestedVectorsModel", "donePlace", "(II)V"⟩, 106), (⟨"NestedVectorsModel", "add", "(I)V"⟩, 106), (⟨"NestedVectorsModel", "seq", "(III)I"⟩, 106), (⟨"NestedVectorsModel", "leave", "(I)V"⟩, 106)]
theorem lw_r8 : ∀ q ∈ lw_privs_8, lw_okq q := List.forall_mem_cons.mpr ⟨lw_p112, List.forall_mem_cons.mpr ⟨lw_p113, List.forall_mem_cons.mpr ⟨lw_p114, List.forall_mem_cons.mpr ⟨lw_p115, List.forall_mem_cons.mpr ⟨lw_p116, List.forall_mem_cons.mpr ⟨lw_p117, List.forall_mem_cons.mpr ⟨lw_p118, List.forall_mem_cons.mpr ⟨lw_p119, List.forall_mem_cons.mpr ⟨lw_p120, List.forall_mem_cons.mpr ⟨lw_p121, List.forall_mem_cons.mpr ⟨lw_p122, List.forall_mem_cons.mpr ⟨lw_p123, List.forall_mem_cons.mpr ⟨lw_p124, List.forall_mem_cons.mpr ⟨lw_p125, List.forall_mem_cons.mpr ⟨lw_p126, List.forall_mem_cons.mpr ⟨lw_p127, fun _ h => absurd h List.not_mem_nil⟩⟩⟩⟩⟩⟩⟩⟩⟩⟩⟩⟩⟩⟩⟩⟩
theorem lw_p128 : lw_okq (⟨"NestedVectorsModel", "tellsCount", "(I)Z"⟩, 106) := ⟨⟨by decide +kernel, by decide +kernel⟩, List.mem_of_getElem? (i := 1620) (by decide +kernel), List.mem_of_getElem? (i := 2238) (by decide +kernel), List.mem_of_getElem? (i := 2239) (by decide +kernel)⟩
theorem lw_p129 : lw_okq (⟨"NestedVectorsModel", "isInPlaces", "(I)Z"⟩, 106) := ⟨⟨by decide +kernel, by decide +kernel⟩, List.mem_of_getElem? (i := 1620) (by decide +kernel), List.mem_of_getElem? (i := 2242) (by decide +kernel), List.mem_of_getElem? (i := 2243) (by decide +kernel)⟩
theorem lw_p130 : lw_okq (⟨"NestedVectorsModel", "itemAt", "(II)I"⟩, 106) := ⟨⟨by decide +kernel, by decide +kernel⟩, List.mem_of_getElem? (i := 1620) (by decide +kernel), List.mem_of_getElem? (i := 2246) (by decide +kernel), List.mem_of_getElem? (i := 2247) (by decide +kernel)⟩
theorem lw_p131 : lw_okq (⟨"NestedVectorsModel", "endNested", "(II)V"⟩, 106) := ⟨⟨by decide +kernel, by decide +kernel⟩, List.mem_of_getElem? (i := 1620) (by decide +kernel), List.mem_of_getElem? (i := 2250) (by decide +kernel), List.mem_of_getElem? (i := 2251) (by decide +kernel)⟩
theorem lw_p132 : lw_okq (⟨"NestedVectorsModel", "operated", "(III)I"⟩, 106) := ⟨⟨by decide +kernel, by decide +kernel⟩, List.mem_of_getElem? (i := 1620) (by decide +kernel), List.mem_of_getElem? (i := 2254) (by decide +kernel), List.mem_of_getElem? (i := 2255) (by decide +kernel)⟩
theorem lw_p133 : lw_okq (⟨"NestedVectorsModel", "acted", "(III)I"⟩, 106) := ⟨⟨by decide +kernel, by decide +kernel⟩, List.mem_of_getElem? (i := 1620) (by decide +kernel), List.mem_of_getElem? (i := 2258) (by decide +kernel), List.mem_of_getElem? (i := 2259) (by decide +kernel)⟩
theorem lw_p134 : lw_okq (⟨"NestedVectorsModel", "flattened", "(II)I"⟩, 106) := ⟨⟨by decide +kernel, by decide +kernel⟩, List.mem_of_getElem? (i := 1620) (by decide +kernel), List.mem_of_getElem? (i := 2263) (by decide +kernel), List.mem_of_getElem? (i := 2264) (by decide +kernel)⟩
theorem lw_p135 : lw_okq (⟨"NestedVectorsModel", "permuted", "(III)I"⟩, 106) := ⟨⟨by decide +kernel, by decide +kernel⟩, List.mem_of_getElem? (i := 1620) (by decide +kernel), List.mem_of_getElem? (i := 2267) (by decide +kernel), List.mem_of_getElem? (i := 2268) (by decide +kernel)⟩
theorem lw_p136 : lw_okq (⟨"NestedVectorsModel", "isOrder", "(IIZ)Z"⟩, 106) := ⟨⟨by decide +kernel, by decide +kernel⟩, List.mem_of_getElem? (i := 1620) (by decide +kernel), List.mem_of_getElem? (i := 2271) (by decide +kernel), List.mem_of_getElem? (i := 2272) (by decide +kernel)⟩
theorem lw_p137 : lw_okq (⟨"NestedVectorsModel", "parted", "(III)I"⟩, 106) := ⟨⟨by decide +kernel, by decide +kernel⟩, List.mem_of_getElem? (i := 1620) (by decide +kernel), List.mem_of_getElem? (i := 2275) (by decide +kernel), List.mem_of_getElem? (i := 2276) (by decide +kernel)⟩
theorem lw_p138 : lw_okq (⟨"NestedVectorsModel", "showNested", "()V"⟩, 106) := ⟨⟨by decide +kernel, by decide +kernel⟩, List.mem_of_getElem? (i := 1620) (by decide +kernel), List.mem_of_getElem? (i := 2279) (by decide +kernel), List.mem_of_getElem? (i := 2280) (by decide +kernel)⟩
theorem lw_p139 : lw_okq (⟨"NestedVectorsModel", "showNumber", "(I)V"⟩, 106) := ⟨⟨by decide +kernel, by decide +kernel⟩, List.mem_of_getElem? (i := 1620) (by decide +kernel), List.mem_of_getElem? (i := 2283) (by decide +kernel), List.mem_of_getElem? (i := 2284) (by decide +kernel)⟩
theorem lw_p140 : lw_okq (⟨"NestedVectorsModel", "show", "(I)V"⟩, 106) := ⟨⟨by decide +kernel, by decide +kernel⟩, List.mem_of_getElem? (i := 1620) (by decide +kernel), List.mem_of_getElem? (i := 2287) (by decide +kernel), List.mem_of_getElem? (i := 2288) (by decide +kernel)⟩
theorem lw_p141 : lw_okq (⟨"NestedVectorsModel", "flatBegin", "(II)V"⟩, 106) := ⟨⟨by decide +kernel, by decide +kernel⟩, List.mem_of_getElem? (i := 1620) (by decide +kernel), List.mem_of_getElem? (i := 2295) (by decide +kernel), List.mem_of_getElem? (i := 2296) (by decide +kernel)⟩
theorem lw_p142 : lw_okq (⟨"NestedVectorsModel", "stepped", "(J)Z"⟩, 106) := ⟨⟨by decide +kernel, by decide +kernel⟩, List.mem_of_getElem? (i := 1620) (by decide +kernel), List.mem_of_getElem? (i := 2299) (by decide +kernel), List.mem_of_getElem? (i := 2300) (by decide +kernel)⟩
theorem lw_p143 : lw_okq (⟨"NestedVectorsModel", "goFlat", "()V"⟩, 106) := ⟨⟨by decide +kernel, by decide +kernel⟩, List.mem_of_getElem? (i := 1620) (by decide +kernel), List.mem_of_getElem? (i := 2304) (by decide +kernel), List.mem_of_getElem? (i := 2305) (by decide +kernel)⟩
def lw_privs_9 : List (MethodName × Nat) := [(⟨"NestedVectorsModel", "tellsCount", "(I)Z"⟩, 106), (⟨"NestedVectorsModel", "isInPlaces", "(I)Z"⟩, 106), (⟨"NestedVectorsModel", "itemAt", "(II)I"⟩, 106), (⟨"NestedVectorsModel", "endNested", "(II)V"⟩, 106), (⟨"NestedVectorsModel", "operated", "(III)I"⟩, 106), (⟨"NestedVectorsModel", "acted", "(III)I"⟩, 106), (⟨"NestedVectorsModel", "flattened", "(II)I"⟩, 106), (⟨"NestedVectorsModel", "permuted", "(III)I"⟩, 106), (⟨"NestedVectorsModel", "isOrder", "(IIZ)Z"⟩, 106), (⟨"NestedVectorsModel", "parted", "(III)I"⟩, 106), (⟨"NestedVectorsModel", "showNested", "()V"⟩, 106), (⟨"NestedVectorsModel", "showNumber", "(I)V"⟩, 106), (⟨"NestedVectorsModel", "show", "(I)V"⟩, 106), (⟨"NestedVectorsModel", "flatBegin", "(II)V"⟩, 106), (⟨"NestedVectorsModel", "stepped", "(J)Z"⟩, 106), (⟨"NestedVectorsModel", "goFlat", "()V"⟩, 106)]
theorem lw_r9 : ∀ q ∈ lw_privs_9, lw_okq q := List.forall_mem_cons.mpr ⟨lw_p128, List.forall_mem_cons.mpr ⟨lw_p129, List.forall_mem_cons.mpr ⟨lw_p130, List.forall_mem_cons.mpr ⟨lw_p131, List.forall_mem_cons.mpr ⟨lw_p132, List.forall_mem_cons.mpr ⟨lw_p133, List.forall_mem_cons.mpr ⟨lw_p134, List.forall_mem_cons.mpr ⟨lw_p135, List.forall_mem_cons.mpr ⟨lw_p136, List.forall_mem_cons.mpr ⟨lw_p137, List.forall_mem_cons.mpr ⟨lw_p138, List.forall_mem_cons.mpr ⟨lw_p139, List.forall_mem_cons.mpr ⟨lw_p140, List.forall_mem_cons.mpr ⟨lw_p141, List.forall_mem_cons.mpr ⟨lw_p142, List.forall_mem_cons.mpr ⟨lw_p143, fun _ h => absurd h List.not_mem_nil⟩⟩⟩⟩⟩⟩⟩⟩⟩⟩⟩⟩⟩⟩⟩⟩
theorem lw_p144 : lw_okq (⟨"NestedVectorsModel", "flatEach", "(I)V"⟩, 106) := ⟨⟨by decide +kernel, by decide +kernel⟩, List.mem_of_getElem? (i := 1620) (by decide +kernel), List.mem_of_getElem? (i := 2308) (by decide +kernel), List.mem_of_getElem? (i := 2309) (by decide +kernel)⟩
theorem lw_p145 : lw_okq (⟨"NestedVectorsModel", "rowAt", "(II)I"⟩, 106) := ⟨⟨by decide +kernel, by decide +kernel⟩, List.mem_of_getElem? (i := 1620) (by decide +kernel), List.mem_of_getElem? (i := 2312) (by decide +kernel), List.mem_of_getElem? (i := 2313) (by decide +kernel)⟩
theorem lw_p146 : lw_okq (⟨"NestedVectorsModel", "clearInside", "()V"⟩, 106) := ⟨⟨by decide +kernel, by decide +kernel⟩, List.mem_of_getElem? (i := 1620) (by decide +kernel), List.mem_of_getElem? (i := 2316) (by decide +kernel), List.mem_of_getElem? (i := 2317) (by decide +kernel)⟩
theorem lw_p147 : lw_okq (⟨"NestedVectorsModel", "markInside", "(I)V"⟩, 106) := ⟨⟨by decide +kernel, by decide +kernel⟩, List.mem_of_getElem? (i := 1620) (by decide +kernel), List.mem_of_getElem? (i := 2320) (by decide +kernel), List.mem_of_getElem? (i := 2321) (by decide +kernel)⟩
theorem lw_p148 : lw_okq (⟨"NestedVectorsModel", "gatherOutside", "(I)V"⟩, 106) := ⟨⟨by decide +kernel, by decide +kernel⟩, List.mem_of_getElem? (i := 1620) (by decide +kernel), List.mem_of_getElem? (i := 2324) (by decide +kernel), List.mem_of_getElem? (i := 2325) (by decide +kernel)⟩
theorem lw_p149 : lw_okq (⟨"NestedVectorsModel", "isBoundInside", "(I)Z"⟩, 106) := ⟨⟨by decide +kernel, by decide +kernel⟩, List.mem_of_getElem? (i := 1620) (by decide +kernel), List.mem_of_getElem? (i := 2328) (by decide +kernel), List.mem_of_getElem? (i := 2329) (by decide +kernel)⟩
theorem lw_p150 : lw_okq (⟨"NestedVectorsModel", "outsider", "(I)V"⟩, 106) := ⟨⟨by decide +kernel, by decide +kernel⟩, List.mem_of_getElem? (i := 1620) (by decide +kernel), List.mem_of_getElem? (i := 2332) (by decide +kernel), List.mem_of_getElem? (i := 2333) (by decide +kernel)⟩
theorem lw_p151 : lw_okq (⟨"NestedVectorsModel", "list", "(I)V"⟩, 106) := ⟨⟨by decide +kernel, by decide +kernel⟩, List.mem_of_getElem? (i := 1620) (by decide +kernel), List.mem_of_getElem? (i := 2336) (by decide +kernel), List.mem_of_getElem? (i := 2337) (by decide +kernel)⟩
theorem lw_p152 : lw_okq (⟨"NestedVectorsModel", "carried", "()Z"⟩, 106) := ⟨⟨by decide +kernel, by decide +kernel⟩, List.mem_of_getElem? (i := 1620) (by decide +kernel), List.mem_of_getElem? (i := 2340) (by decide +kernel), List.mem_of_getElem? (i := 2341) (by decide +kernel)⟩
theorem lw_p153 : lw_okq (⟨"NestedVectorsModel", "extentOfLanes", "(I)J"⟩, 106) := ⟨⟨by decide +kernel, by decide +kernel⟩, List.mem_of_getElem? (i := 1620) (by decide +kernel), List.mem_of_getElem? (i := 2344) (by decide +kernel), List.mem_of_getElem? (i := 2345) (by decide +kernel)⟩
theorem lw_p154 : lw_okq (⟨"NestedVectorsModel", "findBegins", "(I)V"⟩, 106) := ⟨⟨by decide +kernel, by decide +kernel⟩, List.mem_of_getElem? (i := 1620) (by decide +kernel), List.mem_of_getElem? (i := 2348) (by decide +kernel), List.mem_of_getElem? (i := 2349) (by decide +kernel)⟩
theorem lw_p155 : lw_okq (⟨"NestedVectorsModel", "lanesOf", "(I)I"⟩, 106) := ⟨⟨by decide +kernel, by decide +kernel⟩, List.mem_of_getElem? (i := 1620) (by decide +kernel), List.mem_of_getElem? (i := 2352) (by decide +kernel), List.mem_of_getElem? (i := 2353) (by decide +kernel)⟩
theorem lw_p156 : lw_okq (⟨"NestedVectorsModel", "gathered", "(I)I"⟩, 106) := ⟨⟨by decide +kernel, by decide +kernel⟩, List.mem_of_getElem? (i := 1620) (by decide +kernel), List.mem_of_getElem? (i := 2356) (by decide +kernel), List.mem_of_getElem? (i := 2357) (by decide +kernel)⟩
theorem lw_p157 : lw_okq (⟨"NestedVectorsModel", "newFlat", "(I)I"⟩, 106) := ⟨⟨by decide +kernel, by decide +kernel⟩, List.mem_of_getElem? (i := 1620) (by decide +kernel), List.mem_of_getElem? (i := 2360) (by decide +kernel), List.mem_of_getElem? (i := 2361) (by decide +kernel)⟩
theorem lw_p158 : lw_okq (⟨"NestedVectorsModel", "inner", "(I)I"⟩, 106) := ⟨⟨by decide +kernel, by decide +kernel⟩, List.mem_of_getElem? (i := 1620) (by decide +kernel), List.mem_of_getElem? (i := 2364) (by decide +kernel), List.mem_of_getElem? (i := 2365) (by decide +kernel)⟩
theorem lw_p159 : lw_okq (⟨"NestedVectorsModel", "listWhere", "(IZ)V"⟩, 106) := ⟨⟨by decide +kernel, by decide +kernel⟩, List.mem_of_getElem? (i := 1620) (by decide +kernel), List.mem_of_getElem? (i := 2368) (by decide +kernel), List.mem_of_getElem? (i := 2369) (by decide +kernel)⟩
def lw_privs_10 : List (MethodName × Nat) := [(⟨"NestedVectorsModel", "flatEach", "(I)V"⟩, 106), (⟨"NestedVectorsModel", "rowAt", "(II)I"⟩, 106), (⟨"NestedVectorsModel", "clearInside", "()V"⟩, 106), (⟨"NestedVectorsModel", "markInside", "(I)V"⟩, 106), (⟨"NestedVectorsModel", "gatherOutside", "(I)V"⟩, 106), (⟨"NestedVectorsModel", "isBoundInside", "(I)Z"⟩, 106), (⟨"NestedVectorsModel", "outsider", "(I)V"⟩, 106), (⟨"NestedVectorsModel", "list", "(I)V"⟩, 106), (⟨"NestedVectorsModel", "carried", "()Z"⟩, 106), (⟨"NestedVectorsModel", "extentOfLanes", "(I)J"⟩, 106), (⟨"NestedVectorsModel", "findBegins", "(I)V"⟩, 106), (⟨"NestedVectorsModel", "lanesOf", "(I)I"⟩, 106), (⟨"NestedVectorsModel", "gathered", "(I)I"⟩, 106), (⟨"NestedVectorsModel", "newFlat", "(I)I"⟩, 106), (⟨"NestedVectorsModel", "inner", "(I)I"⟩, 106), (⟨"NestedVectorsModel", "listWhere", "(IZ)V"⟩, 106)]
theorem lw_r10 : ∀ q ∈ lw_privs_10, lw_okq q := List.forall_mem_cons.mpr ⟨lw_p144, List.forall_mem_cons.mpr ⟨lw_p145, List.forall_mem_cons.mpr ⟨lw_p146, List.forall_mem_cons.mpr ⟨lw_p147, List.forall_mem_cons.mpr ⟨lw_p148, List.forall_mem_cons.mpr ⟨lw_p149, List.forall_mem_cons.mpr ⟨lw_p150, List.forall_mem_cons.mpr ⟨lw_p151, List.forall_mem_cons.mpr ⟨lw_p152, List.forall_mem_cons.mpr ⟨lw_p153, List.forall_mem_cons.mpr ⟨lw_p154, List.forall_mem_cons.mpr ⟨lw_p155, List.forall_mem_cons.mpr ⟨lw_p156, List.forall_mem_cons.mpr ⟨lw_p157, List.forall_mem_cons.mpr ⟨lw_p158, List.forall_mem_cons.mpr ⟨lw_p159, fun _ h => absurd h List.not_mem_nil⟩⟩⟩⟩⟩⟩⟩⟩⟩⟩⟩⟩⟩⟩⟩⟩
theorem lw_p160 : lw_okq (⟨"NestedVectorsModel", "restore", "(I)V"⟩, 106) := ⟨⟨by decide +kernel, by decide +kernel⟩, List.mem_of_getElem? (i := 1620) (by decide +kernel), List.mem_of_getElem? (i := 2372) (by decide +kernel), List.mem_of_getElem? (i := 2373) (by decide +kernel)⟩
theorem lw_p161 : lw_okq (⟨"NestedVectorsModel", "outer", "(III)I"⟩, 106) := ⟨⟨by decide +kernel, by decide +kernel⟩, List.mem_of_getElem? (i := 1620) (by decide +kernel), List.mem_of_getElem? (i := 2376) (by decide +kernel), List.mem_of_getElem? (i := 2377) (by decide +kernel)⟩
theorem lw_p162 : lw_okq (⟨"NestedVectorsModel", "flatLeave", "(I)V"⟩, 106) := ⟨⟨by decide +kernel, by decide +kernel⟩, List.mem_of_getElem? (i := 1620) (by decide +kernel), List.mem_of_getElem? (i := 2380) (by decide +kernel), List.mem_of_getElem? (i := 2381) (by decide +kernel)⟩
theorem lw_p163 : lw_okq (⟨"NestedVectorsModel", "flatIf", "(I)V"⟩, 106) := ⟨⟨by decide +kernel, by decide +kernel⟩, List.mem_of_getElem? (i := 1620) (by decide +kernel), List.mem_of_getElem? (i := 2384) (by decide +kernel), List.mem_of_getElem? (i := 2385) (by decide +kernel)⟩
theorem lw_p164 : lw_okq (⟨"NestedVectorsModel", "extentOf", "(I)I"⟩, 106) := ⟨⟨by decide +kernel, by decide +kernel⟩, List.mem_of_getElem? (i := 1620) (by decide +kernel), List.mem_of_getElem? (i := 2388) (by decide +kernel), List.mem_of_getElem? (i := 2389) (by decide +kernel)⟩
theorem lw_p165 : lw_okq (⟨"NestedVectorsModel", "joined", "(II)I"⟩, 106) := ⟨⟨by decide +kernel, by decide +kernel⟩, List.mem_of_getElem? (i := 1620) (by decide +kernel), List.mem_of_getElem? (i := 2392) (by decide +kernel), List.mem_of_getElem? (i := 2393) (by decide +kernel)⟩
theorem lw_p166 : lw_okq (⟨"NestedVectorsModel", "flatWorked", "(III)I"⟩, 106) := ⟨⟨by decide +kernel, by decide +kernel⟩, List.mem_of_getElem? (i := 1620) (by decide +kernel), List.mem_of_getElem? (i := 2396) (by decide +kernel), List.mem_of_getElem? (i := 2397) (by decide +kernel)⟩
theorem lw_p167 : lw_okq (⟨"NestedVectorsModel", "put", "(I)V"⟩, 106) := ⟨⟨by decide +kernel, by decide +kernel⟩, List.mem_of_getElem? (i := 1620) (by decide +kernel), List.mem_of_getElem? (i := 2400) (by decide +kernel), List.mem_of_getElem? (i := 2401) (by decide +kernel)⟩
theorem lw_p168 : lw_okq (⟨"NestedVectorsModel", "numbers", "(I)I"⟩, 106) := ⟨⟨by decide +kernel, by decide +kernel⟩, List.mem_of_getElem? (i := 1620) (by decide +kernel), List.mem_of_getElem? (i := 2404) (by decide +kernel), List.mem_of_getElem? (i := 2405) (by decide +kernel)⟩
theorem lw_p169 : lw_okq (⟨"NestedVectorsModel", "flatIndex", "(III)I"⟩, 106) := ⟨⟨by decide +kernel, by decide +kernel⟩, List.mem_of_getElem? (i := 1620) (by decide +kernel), List.mem_of_getElem? (i := 2408) (by decide +kernel), List.mem_of_getElem? (i := 2409) (by decide +kernel)⟩
theorem lw_p170 : lw_okq (⟨"NestedVectorsModel", "lacks", "(II)V"⟩, 106) := ⟨⟨by decide +kernel, by decide +kernel⟩, List.mem_of_getElem? (i := 1620) (by decide +kernel), List.mem_of_getElem? (i := 2412) (by decide +kernel), List.mem_of_getElem? (i := 2413) (by decide +kernel)⟩
theorem lw_p171 : lw_okq (⟨"NestedVectorsModel", "flatRow", "(III)I"⟩, 106) := ⟨⟨by decide +kernel, by decide +kernel⟩, List.mem_of_getElem? (i := 1620) (by decide +kernel), List.mem_of_getElem? (i := 2416) (by decide +kernel), List.mem_of_getElem? (i := 2417) (by decide +kernel)⟩
theorem lw_p172 : lw_okq (⟨"NestedVectorsModel", "putLens", "(I)I"⟩, 106) := ⟨⟨by decide +kernel, by decide +kernel⟩, List.mem_of_getElem? (i := 1620) (by decide +kernel), List.mem_of_getElem? (i := 2420) (by decide +kernel), List.mem_of_getElem? (i := 2421) (by decide +kernel)⟩
theorem lw_p173 : lw_okq (⟨"NestedVectorsModel", "flatIota", "(II)I"⟩, 106) := ⟨⟨by decide +kernel, by decide +kernel⟩, List.mem_of_getElem? (i := 1620) (by decide +kernel), List.mem_of_getElem? (i := 2424) (by decide +kernel), List.mem_of_getElem? (i := 2425) (by decide +kernel)⟩
theorem lw_p174 : lw_okq (⟨"NestedVectorsModel", "flatDist", "(III)I"⟩, 106) := ⟨⟨by decide +kernel, by decide +kernel⟩, List.mem_of_getElem? (i := 1620) (by decide +kernel), List.mem_of_getElem? (i := 2428) (by decide +kernel), List.mem_of_getElem? (i := 2429) (by decide +kernel)⟩
theorem lw_p175 : lw_okq (⟨"NestedVectorsModel", "flatGone", "(III)I"⟩, 106) := ⟨⟨by decide +kernel, by decide +kernel⟩, List.mem_of_getElem? (i := 1620) (by decide +kernel), List.mem_of_getElem? (i := 2432) (by decide +kernel), List.mem_of_getElem? (i := 2433) (by decide +kernel)⟩
def lw_privs_11 : List (MethodName × Nat) := [(⟨"NestedVectorsModel", "restore", "(I)V"⟩, 106), (⟨"NestedVectorsModel", "outer", "(III)I"⟩, 106), (⟨"NestedVectorsModel", "flatLeave", "(I)V"⟩, 106), (⟨"NestedVectorsModel", "flatIf", "(I)V"⟩, 106), (⟨"NestedVectorsModel", "extentOf", "(I)I"⟩, 106), (⟨"NestedVectorsModel", "joined", "(II)I"⟩, 106), (⟨"NestedVectorsModel", "flatWorked", "(III)I"⟩, 106), (⟨"NestedVectorsModel", "put", "(I)V"⟩, 106), (⟨"NestedVectorsModel", "numbers", "(I)I"⟩, 106), (⟨"NestedVectorsModel", "flatIndex", "(III)I"⟩, 106), (⟨"NestedVectorsModel", "lacks", "(II)V"⟩, 106), (⟨"NestedVectorsModel", "flatRow", "(III)I"⟩, 106), (⟨"NestedVectorsModel", "putLens", "(I)I"⟩, 106), (⟨"NestedVectorsModel", "flatIota", "(II)I"⟩, 106), (⟨"NestedVectorsModel", "flatDist", "(III)I"⟩, 106), (⟨"NestedVectorsModel", "flatGone", "(III)I"⟩, 106)]
theorem lw_r11 : ∀ q ∈ lw_privs_11, lw_okq q := List.forall_mem_cons.mpr ⟨lw_p160, List.forall_mem_cons.mpr ⟨lw_p161, List.forall_mem_cons.mpr ⟨lw_p162, List.forall_mem_cons.mpr ⟨lw_p163, List.forall_mem_cons.mpr ⟨lw_p164, List.forall_mem_cons.mpr ⟨lw_p165, List.forall_mem_cons.mpr ⟨lw_p166, List.forall_mem_cons.mpr ⟨lw_p167, List.forall_mem_cons.mpr ⟨lw_p168, List.forall_mem_cons.mpr ⟨lw_p169, List.forall_mem_cons.mpr ⟨lw_p170, List.forall_mem_cons.mpr ⟨lw_p171, List.forall_mem_cons.mpr ⟨lw_p172, List.forall_mem_cons.mpr ⟨lw_p173, List.forall_mem_cons.mpr ⟨lw_p174, List.forall_mem_cons.mpr ⟨lw_p175, fun _ h => absurd h List.not_mem_nil⟩⟩⟩⟩⟩⟩⟩⟩⟩⟩⟩⟩⟩⟩⟩⟩
theorem lw_p176 : lw_okq (⟨"NestedVectorsModel", "flatRev", "(II)I"⟩, 106) := ⟨⟨by decide +kernel, by decide +kernel⟩, List.mem_of_getElem? (i := 1620) (by decide +kernel), List.mem_of_getElem? (i := 2436) (by decide +kernel), List.mem_of_getElem? (i := 2437) (by decide +kernel)⟩
theorem lw_p177 : lw_okq (⟨"NestedVectorsModel", "flatCat", "(III)I"⟩, 106) := ⟨⟨by decide +kernel, by decide +kernel⟩, List.mem_of_getElem? (i := 1620) (by decide +kernel), List.mem_of_getElem? (i := 2440) (by decide +kernel), List.mem_of_getElem? (i := 2441) (by decide +kernel)⟩
theorem lw_p178 : lw_okq (⟨"NestedVectorsModel", "listItems", "(II)V"⟩, 106) := ⟨⟨by decide +kernel, by decide +kernel⟩, List.mem_of_getElem? (i := 1620) (by decide +kernel), List.mem_of_getElem? (i := 2444) (by decide +kernel), List.mem_of_getElem? (i := 2445) (by decide +kernel)⟩
theorem lw_p179 : lw_okq (⟨"NestedVectorsModel", "flatFlat", "(II)I"⟩, 106) := ⟨⟨by decide +kernel, by decide +kernel⟩, List.mem_of_getElem? (i := 1620) (by decide +kernel), List.mem_of_getElem? (i := 2448) (by decide +kernel), List.mem_of_getElem? (i := 2449) (by decide +kernel)⟩
theorem lw_p180 : lw_okq (⟨"NestedVectorsModel", "flatChosen", "(IIII)I"⟩, 106) := ⟨⟨by decide +kernel, by decide +kernel⟩, List.mem_of_getElem? (i := 1620) (by decide +kernel), List.mem_of_getElem? (i := 2452) (by decide +kernel), List.mem_of_getElem? (i := 2453) (by decide +kernel)⟩
theorem lw_p181 : lw_okq (⟨"NestedVectorsModel", "flatPart", "(III)I"⟩, 106) := ⟨⟨by decide +kernel, by decide +kernel⟩, List.mem_of_getElem? (i := 1620) (by decide +kernel), List.mem_of_getElem? (i := 2456) (by decide +kernel), List.mem_of_getElem? (i := 2457) (by decide +kernel)⟩
theorem lw_p182 : lw_okq (⟨"NestedVectorsModel", "showFlat", "()V"⟩, 106) := ⟨⟨by decide +kernel, by decide +kernel⟩, List.mem_of_getElem? (i := 1620) (by decide +kernel), List.mem_of_getElem? (i := 2460) (by decide +kernel), List.mem_of_getElem? (i := 2461) (by decide +kernel)⟩
theorem lw_p183 : lw_okq (⟨"NestedVectorsModel", "hasCome", "(Z)Z"⟩, 106) := ⟨⟨by decide +kernel, by decide +kernel⟩, List.mem_of_getElem? (i := 1620) (by decide +kernel), List.mem_of_getElem? (i := 2474) (by decide +kernel), List.mem_of_getElem? (i := 2475) (by decide +kernel)⟩
def lw_privs_12 : List (MethodName × Nat) := [(⟨"NestedVectorsModel", "flatRev", "(II)I"⟩, 106), (⟨"NestedVectorsModel", "flatCat", "(III)I"⟩, 106), (⟨"NestedVectorsModel", "listItems", "(II)V"⟩, 106), (⟨"NestedVectorsModel", "flatFlat", "(II)I"⟩, 106), (⟨"NestedVectorsModel", "flatChosen", "(IIII)I"⟩, 106), (⟨"NestedVectorsModel", "flatPart", "(III)I"⟩, 106), (⟨"NestedVectorsModel", "showFlat", "()V"⟩, 106), (⟨"NestedVectorsModel", "hasCome", "(Z)Z"⟩, 106)]
theorem lw_r12 : ∀ q ∈ lw_privs_12, lw_okq q := List.forall_mem_cons.mpr ⟨lw_p176, List.forall_mem_cons.mpr ⟨lw_p177, List.forall_mem_cons.mpr ⟨lw_p178, List.forall_mem_cons.mpr ⟨lw_p179, List.forall_mem_cons.mpr ⟨lw_p180, List.forall_mem_cons.mpr ⟨lw_p181, List.forall_mem_cons.mpr ⟨lw_p182, List.forall_mem_cons.mpr ⟨lw_p183, fun _ h => absurd h List.not_mem_nil⟩⟩⟩⟩⟩⟩⟩⟩
def lw_privs : List (MethodName × Nat) := lw_privs_1 ++ (lw_privs_2 ++ (lw_privs_3 ++ (lw_privs_4 ++ (lw_privs_5 ++ (lw_privs_6 ++ (lw_privs_7 ++ (lw_privs_8 ++ (lw_privs_9 ++ (lw_privs_10 ++ (lw_privs_11 ++ (lw_privs_12)))))))))))
def lw_tbl : List Cond := k2_sels lw_privs ++ tables_1
theorem lw_privs_ok : ∀ q ∈ lw_privs, lw_okq q := by
  show ∀ q ∈ lw_privs_1 ++ (lw_privs_2 ++ (lw_privs_3 ++ (lw_privs_4 ++ (lw_privs_5 ++ (lw_privs_6 ++ (lw_privs_7 ++ (lw_privs_8 ++ (lw_privs_9 ++ (lw_privs_10 ++ (lw_privs_11 ++ (lw_privs_12))))))))))), lw_okq q
  exact List.forall_mem_append.mpr ⟨lw_r1, List.forall_mem_append.mpr ⟨lw_r2, List.forall_mem_append.mpr ⟨lw_r3, List.forall_mem_append.mpr ⟨lw_r4, List.forall_mem_append.mpr ⟨lw_r5, List.forall_mem_append.mpr ⟨lw_r6, List.forall_mem_append.mpr ⟨lw_r7, List.forall_mem_append.mpr ⟨lw_r8, List.forall_mem_append.mpr ⟨lw_r9, List.forall_mem_append.mpr ⟨lw_r10, List.forall_mem_append.mpr ⟨lw_r11, lw_r12⟩⟩⟩⟩⟩⟩⟩⟩⟩⟩⟩
-- ===== end of PART A; then your names; then what follows =====
end
section
/-! A SMALL MACHINE OVER PURE LISTS. A cell has a number; a reference to the cell k is .ref k; a reference to a foreign cell that nobody writes is .retAddr k: k below 1000 the text k, 1000 + k the bytes of the text k, 9999 the script. -/
abbrev am_C : Type := (Nat × Nat × (Nat → Int32)) ⊕ (Nat × (Nat → Int64)) ⊕ (Nat × List Value)
abbrev am_H : Type := List am_C
abbrev am_L : Type := List (Nat × Value)
abbrev am_K : Type := List (Nat × List Nat)
abbrev am_Q : Type := Nat × Instr × Int × am_K
abbrev am_M : Type := MethodName × ByteArray × Nat × Option FieldType × List am_Q
/-- fixed: the default fields of each class; the texts' bytes; what statics hold; the script's length and ints, if it is there -/
abbrev am_E : Type := List (List Value) × List (List Int32) × List Value × Option (Nat × (Nat → Int32))
abbrev am_R : Type := Option (Nat × am_L × List Value)
def am_get : am_L → Nat → Option Value
  | [], _ => none
  | q :: r, i => if q.1 = i then some q.2 else am_get r i
def am_find : List am_Q → Nat → Option am_Q
  | [], _ => none
  | q :: r, pc => if q.1 = pc then some q else am_find r pc
def am_key : am_K → Nat → Option (List Nat)
  | [], _ => none
  | q :: r, k => if q.1 = k then some q.2 else am_key r k
def am_put1 (ls : am_L) (i : Nat) (v : Value) : am_L := (i, v) :: ls.filter (fun q => !(q.1 == i) && !(q.1 + 1 == i && q.2.category == 2))
def am_put2 (ls : am_L) (i : Nat) (v : Value) : am_L := (i, v) :: ls.filter (fun q => !(q.1 == i) && (!(q.1 == i + 1) && !(q.1 + 1 == i && q.2.category == 2)))
def am_isI : Value → Bool
  | .int _ => true
  | _ => false
def am_isL : Value → Bool
  | .long _ => true
  | _ => false
def am_isA : Value → Bool
  | .ref _ => true
  | .null => true
  | .retAddr _ => true
  | _ => false
def am_ld (np : Nat) (t : Value → Bool) (ls : am_L) (i : Nat) (st : List Value) : am_R := match am_get ls i with
  | some v => if t v = true then some (np, ls, v :: st) else none
  | none => none
def am_st1 (np : Nat) (t : Value → Bool) (ls : am_L) (i : Nat) (st : List Value) : am_R := match st with
  | v :: r => if t v = true then some (np, am_put1 ls i v, r) else none
  | [] => none
def am_st2 (np : Nat) (ls : am_L) (i : Nat) (st : List Value) : am_R := match st with
  | v :: r => if am_isL v = true then some (np, am_put2 ls i v, r) else none
  | [] => none
def am_i2 (np : Nat) (ls : am_L) (f : Int32 → Int32 → Int32) (st : List Value) : am_R := match st with
  | .int y :: .int x :: r => some (np, ls, .int (f x y) :: r)
  | _ => none
def am_d2 (np : Nat) (ls : am_L) (f : Int32 → Int32 → Int32) (st : List Value) : am_R := match st with
  | .int y :: .int x :: r => if y = 0 then none else some (np, ls, .int (f x y) :: r)
  | _ => none
def am_l2 (np : Nat) (ls : am_L) (f : Int64 → Int64 → Int64) (st : List Value) : am_R := match st with
  | .long y :: .long x :: r => some (np, ls, .long (f x y) :: r)
  | _ => none
def am_dl2 (np : Nat) (ls : am_L) (f : Int64 → Int64 → Int64) (st : List Value) : am_R := match st with
  | .long y :: .long x :: r => if y = 0 then none else some (np, ls, .long (f x y) :: r)
  | _ => none
def am_l1 (np : Nat) (ls : am_L) (f : Int64 → Int64) (st : List Value) : am_R := match st with
  | .long x :: r => some (np, ls, .long (f x) :: r)
  | _ => none
def am_s2 (np : Nat) (ls : am_L) (f : Int64 → Int32 → Int64) (st : List Value) : am_R := match st with
  | .int y :: .long x :: r => some (np, ls, .long (f x y) :: r)
  | _ => none
def am_c2 (np : Nat) (ls : am_L) (st : List Value) : am_R := match st with
  | .long y :: .long x :: r => some (np, ls, .int (lg_cmp x y) :: r)
  | _ => none
def am_i1 (np : Nat) (ls : am_L) (f : Int32 → Int32) (st : List Value) : am_R := match st with
  | .int x :: r => some (np, ls, .int (f x) :: r)
  | _ => none
def am_il (np : Nat) (ls : am_L) (st : List Value) : am_R := match st with
  | .int x :: r => some (np, ls, .long x.toInt64 :: r)
  | _ => none
def am_li (np : Nat) (ls : am_L) (st : List Value) : am_R := match st with
  | .long x :: r => some (np, ls, .int x.toInt32 :: r)
  | _ => none
def am_jp (pc : Nat) (ls : am_L) (off : Int) (st : List Value) : am_R := if 0 ≤ (pc : Int) + off then some (((pc : Int) + off).toNat, ls, st) else none
def am_br (pc : Nat) (ls : am_L) (b : Bool) (off : Int) (st : List Value) : am_R := if 0 ≤ (pc : Int) + off then (if b = true then some (((pc : Int) + off).toNat, ls, st) else some (pc + 3, ls, st)) else none
def am_cmp (c : ClassFile.Cond) (x y : Int32) : Bool := match c with
  | .eq => decide (x = y)
  | .ne => decide (¬ x = y)
  | .lt => decide (x < y)
  | .ge => decide (y ≤ x)
  | .gt => decide (y < x)
  | .le => decide (x ≤ y)
def am_if (pc : Nat) (ls : am_L) (c : ClassFile.Cond) (off : Int) (st : List Value) : am_R := match st with
  | .int x :: r => am_br pc ls (am_cmp c x 0) off r
  | _ => none
def am_if2 (pc : Nat) (ls : am_L) (c : ClassFile.Cond) (off : Int) (st : List Value) : am_R := match st with
  | .int y :: .int x :: r => am_br pc ls (am_cmp c x y) off r
  | _ => none
/-- an int row: its length and its ints; t = 0: int[], t = 1: byte[] (or boolean[], tag 3) -/
def am_rowI (E : am_E) (h : am_H) (t : Nat) (v : Value) : Option (Nat × (Nat → Int32)) := match v with
  | .ref a => match h[a]? with
    | some (.inl (t', n, f)) => if t' = t ∨ (t = 1 ∧ t' = 3) then some (n, f) else none
    | _ => none
  | .retAddr k => if k = 9999 then (if t = 0 then E.2.2.2 else none) else if k < 1000 then none else match E.2.1[k - 1000]? with
    | some bs => if t = 1 then some (bs.length, fun j => bs.getD j 0) else none
    | none => none
  | _ => none
def am_rowL (h : am_H) (v : Value) : Option (Nat × (Nat → Int64)) := match v with
  | .ref a => match h[a]? with
    | some (.inr (.inl (n, f))) => some (n, f)
    | _ => none
  | _ => none
def am_rdI (E : am_E) (np t : Nat) (ls : am_L) (h : am_H) (st : List Value) : am_R := match st with
  | .int i :: v :: r => match am_rowI E h t v with
    | some (n, f) => if i < 0 ∨ n ≤ i.toNatClampNeg then none else some (np, ls, .int (f i.toNatClampNeg) :: r)
    | none => none
  | _ => none
def am_rdL (np : Nat) (ls : am_L) (h : am_H) (st : List Value) : am_R := match st with
  | .int i :: v :: r => match am_rowL h v with
    | some (n, f) => if i < 0 ∨ n ≤ i.toNatClampNeg then none else some (np, ls, .long (f i.toNatClampNeg) :: r)
    | none => none
  | _ => none
def am_len0 (E : am_E) (h : am_H) (v : Value) : Option Nat := match v with
  | .ref a => match h[a]? with
    | some (.inl (t, n, _)) => if t = 0 ∨ t = 1 ∨ t = 3 then some n else none
    | some (.inr (.inl (n, _))) => some n
    | _ => none
  | .retAddr k => if k = 9999 then E.2.2.2.map (fun q => q.1) else if k < 1000 then none else match E.2.1[k - 1000]? with
    | some bs => some bs.length
    | none => none
  | _ => none
def am_alen (E : am_E) (np : Nat) (ls : am_L) (h : am_H) (st : List Value) : am_R := match st with
  | v :: r => match am_len0 E h v with
    | some n => some (np, ls, .int (Int32.ofNat n) :: r)
    | none => none
  | [] => none
def am_fld (E : am_E) (lk : am_K) (h : am_H) (v : Value) : Option Value := match v with
  | .ref a => match h[a]? with
    | some (.inr (.inr (ci, fs))) => match am_key lk ci with
      | some (k :: _) => fs[k]?
      | _ => none
    | _ => none
  | .retAddr k => if k < E.2.1.length ∧ k < 1000 then match am_key lk 1000 with
      | some (0 :: _) => some (.int 0)
      | some (1 :: _) => some (.retAddr (1000 + k))
      | _ => none
    else none
  | _ => none
def am_gf (E : am_E) (np : Nat) (lk : am_K) (ls : am_L) (h : am_H) (st : List Value) : am_R := match st with
  | v :: r => match am_fld E lk h v with
    | some w => some (np, ls, w :: r)
    | none => none
  | [] => none
def am_sw (pc : Nat) (ls : am_L) (dflt lo hi : Int) (offs : Array Int) (st : List Value) : am_R := match st with
  | .int x :: r => if x.toInt < lo ∨ hi < x.toInt then am_jp pc ls dflt r else match offs[(x.toInt - lo).toNat]? with
    | some off => am_jp pc ls off r
    | none => none
  | _ => none
def am_lsw (pc : Nat) (ls : am_L) (dflt : Int) (ps : Array (Int × Int)) (st : List Value) : am_R := match st with
  | .int x :: r => if (ps.toList.zip (ps.toList.drop 1)).all (fun (a, next) => a.1 < next.1) = true then am_jp pc ls (Op.lookupswitch.offset ps.toList dflt x.toInt) r else none
  | _ => none
def am_inc (np : Nat) (ls : am_L) (i : Nat) (n : Int) (st : List Value) : am_R := match am_get ls i with
  | some (.int x) => some (np, am_put1 ls i (.int (x + Int32.ofInt n)), st)
  | _ => none
def am_dup (np : Nat) (ls : am_L) (st : List Value) : am_R := match st with
  | a :: r => if a.category = 1 then some (np, ls, a :: a :: r) else none
  | [] => none
def am_pop (np : Nat) (ls : am_L) (st : List Value) : am_R := match st with
  | a :: r => if a.category = 1 then some (np, ls, r) else none
  | [] => none
def am_pop2 (np : Nat) (ls : am_L) (st : List Value) : am_R := match st with
  | a :: r => if a.category = 2 then some (np, ls, r) else none
  | [] => none
def am_dupx1 (np : Nat) (ls : am_L) (st : List Value) : am_R := match st with
  | a :: b :: r => if a.category = 1 ∧ b.category = 1 then some (np, ls, a :: b :: a :: r) else none
  | _ => none
def am_dupx2 (np : Nat) (ls : am_L) (st : List Value) : am_R := match st with
  | a :: b :: c :: r => if a.category = 1 ∧ b.category = 1 ∧ c.category = 1 then some (np, ls, a :: b :: c :: a :: r) else none
  | _ => none
def am_dup2 (np : Nat) (ls : am_L) (st : List Value) : am_R := match st with
  | a :: b :: r => if a.category = 1 ∧ b.category = 1 then some (np, ls, a :: b :: a :: b :: r) else none
  | _ => none
def am_ldc (E : am_E) (pc : Nat) (num : Int) (lk : am_K) (ls : am_L) (st : List Value) : am_R := match lk with
  | (0, _) :: _ => some (pc + 2, ls, .int (Int32.ofInt num) :: st)
  | (1, _) :: _ => if num.toNat < E.2.1.length ∧ num.toNat < 1000 then some (pc + 2, ls, .retAddr num.toNat :: st) else none
  | _ => none
def am_gs (E : am_E) (pc : Nat) (num : Int) (ls : am_L) (st : List Value) : am_R := match E.2.2.1[num.toNat]? with
  | some v => some (pc + 3, ls, v :: st)
  | none => none
def am_step (E : am_E) (pc : Nat) (i : Instr) (num : Int) (lk : am_K) (ls : am_L) (st : List Value) (h : am_H) : am_R := match i with
  | .iconst n => some (pc + 1, ls, .int (Int32.ofInt n) :: st)
  | .bipush n => some (pc + 2, ls, .int (Int8.ofInt n).toInt32 :: st)
  | .sipush n => some (pc + 3, ls, .int (Int16.ofInt n).toInt32 :: st)
  | .lconst n => some (pc + 1, ls, .long (Int64.ofNat (n : Nat)) :: st)
  | .aconst_null => some (pc + 1, ls, .null :: st)
  | .ldc _ => am_ldc E pc num lk ls st
  | .ldc_w _ => some (pc + 3, ls, .int (Int32.ofInt num) :: st)
  | .ldc2_w _ => some (pc + 3, ls, .long (Int64.ofInt num) :: st)
  | .iload_n k => am_ld (pc + 1) am_isI ls k st
  | .iload k => am_ld (pc + 2) am_isI ls k st
  | .lload_n k => am_ld (pc + 1) am_isL ls k st
  | .lload k => am_ld (pc + 2) am_isL ls k st
  | .aload_n k => am_ld (pc + 1) am_isA ls k st
  | .aload k => am_ld (pc + 2) am_isA ls k st
  | .istore_n k => am_st1 (pc + 1) am_isI ls k st
  | .istore k => am_st1 (pc + 2) am_isI ls k st
  | .lstore_n k => am_st2 (pc + 1) ls k st
  | .lstore k => am_st2 (pc + 2) ls k st
  | .astore_n k => am_st1 (pc + 1) am_isA ls k st
  | .astore k => am_st1 (pc + 2) am_isA ls k st
  | .iinc k n => am_inc (pc + 3) ls k n st
  | .iadd => am_i2 (pc + 1) ls (fun x y => x + y) st
  | .isub => am_i2 (pc + 1) ls (fun x y => x - y) st
  | .imul => am_i2 (pc + 1) ls (fun x y => x * y) st
  | .iand => am_i2 (pc + 1) ls (fun x y => x &&& y) st
  | .ior => am_i2 (pc + 1) ls (fun x y => x ||| y) st
  | .ixor => am_i2 (pc + 1) ls (fun x y => x ^^^ y) st
  | .ishl => am_i2 (pc + 1) ls (fun x y => x <<< (y &&& 31)) st
  | .ishr => am_i2 (pc + 1) ls (fun x y => x >>> (y &&& 31)) st
  | .iushr => am_i2 (pc + 1) ls (fun x y => (x.toUInt32 >>> (y.toUInt32 &&& Int32.toUInt32 31)).toInt32) st
  | .idiv => am_d2 (pc + 1) ls (fun x y => x / y) st
  | .irem => am_d2 (pc + 1) ls (fun x y => x - x / y * y) st
  | .ineg => am_i1 (pc + 1) ls (fun x => -x) st
  | .i2b => am_i1 (pc + 1) ls (fun x => x.toInt8.toInt32) st
  | .i2c => am_i1 (pc + 1) ls (fun x => (x.toUInt32 % 65536).toInt32) st
  | .i2l => am_il (pc + 1) ls st
  | .l2i => am_li (pc + 1) ls st
  | .ladd => am_l2 (pc + 1) ls (fun x y => x + y) st
  | .lsub => am_l2 (pc + 1) ls (fun x y => x - y) st
  | .lmul => am_l2 (pc + 1) ls (fun x y => x * y) st
  | .land => am_l2 (pc + 1) ls (fun x y => x &&& y) st
  | .lor => am_l2 (pc + 1) ls (fun x y => x ||| y) st
  | .ldiv => am_dl2 (pc + 1) ls (fun x y => x / y) st
  | .lrem => am_dl2 (pc + 1) ls (fun x y => x - x / y * y) st
  | .lneg => am_l1 (pc + 1) ls (fun x => -x) st
  | .lshl => am_s2 (pc + 1) ls (fun x y => x <<< (y.toInt64 &&& 63)) st
  | .lshr => am_s2 (pc + 1) ls (fun x y => x >>> (y.toInt64 &&& 63)) st
  | .lushr => am_s2 (pc + 1) ls (fun x y => (x.toUInt64 >>> (y.toInt64.toUInt64 &&& Int64.toUInt64 63)).toInt64) st
  | .lcmp => am_c2 (pc + 1) ls st
  | .dup => am_dup (pc + 1) ls st
  | .pop => am_pop (pc + 1) ls st
  | .pop2 => am_pop2 (pc + 1) ls st
  | .dup_x1 => am_dupx1 (pc + 1) ls st
  | .dup_x2 => am_dupx2 (pc + 1) ls st
  | .dup2 => am_dup2 (pc + 1) ls st
  | .ifCond c off => am_if pc ls c off st
  | .if_icmp c off => am_if2 pc ls c off st
  | .goto off => am_jp pc ls off st
  | .tableswitch dflt lo hi offs => am_sw pc ls dflt lo hi offs st
  | .lookupswitch dflt ps => am_lsw pc ls dflt ps st
  | .iaload => am_rdI E (pc + 1) 0 ls h st
  | .baload => am_rdI E (pc + 1) 1 ls h st
  | .laload => am_rdL (pc + 1) ls h st
  | .arraylength => am_alen E (pc + 1) ls h st
  | .getfield _ => am_gf E (pc + 3) lk ls h st
  | .getstatic _ => am_gs E pc num ls st
  | _ => none
/-- 0: heap as it was; 1: a return; 2: heap written or grown; 3: a call -/
def am_sort (i : Instr) : Nat := match i with
  | .ireturn => 1
  | .lreturn => 1
  | .areturn => 1
  | .return_ => 1
  | .putfield _ => 2
  | .iastore => 2
  | .bastore => 2
  | .lastore => 2
  | .new _ => 2
  | .newarray _ => 2
  | .invokestatic _ => 3
  | .invokespecial _ => 3
  | .invokevirtual _ => 3
  | _ => 0
/-- how long an instruction is -/
def am_len (i : Instr) (num : Int) : Nat := match i with
  | .bipush _ => 2
  | .ldc _ => 2
  | .iload _ => 2
  | .lload _ => 2
  | .aload _ => 2
  | .istore _ => 2
  | .lstore _ => 2
  | .astore _ => 2
  | .newarray _ => 2
  | .sipush _ => 3
  | .ldc_w _ => 3
  | .ldc2_w _ => 3
  | .iinc _ _ => 3
  | .ifCond _ _ => 3
  | .if_icmp _ _ => 3
  | .goto _ => 3
  | .getfield _ => 3
  | .putfield _ => 3
  | .getstatic _ => 3
  | .new _ => 3
  | .invokestatic _ => 3
  | .invokespecial _ => 3
  | .invokevirtual _ => 3
  | .tableswitch _ _ _ _ => num.toNat
  | .lookupswitch _ _ => num.toNat
  | _ => 1
/-- may a field of that sort keep the value as it is: 0 int, 1 boolean, 2 long, 3 a reference -/
def am_fit (tag : Nat) (v : Value) : Bool := match tag, v with
  | 0, .int _ => true
  | 1, .int x => decide (x = 0 ∨ x = 1)
  | 2, .long _ => true
  | 3, .ref _ => true
  | 3, .null => true
  | _, _ => false
def am_nb (t : Nat) (x : Int32) : Int32 := match t with
  | 0 => x
  | 3 => vp_nar .boolean x
  | _ => vp_nar .byte x
def am_pf (lk : am_K) (st : List Value) (h : am_H) : Option (List Value × am_H) := match st with
  | v :: .ref a :: r => match h[a]? with
    | some (.inr (.inr (ci, fs))) => match am_key lk ci with
      | some (k :: tag :: _) => if am_fit tag v = true ∧ k < fs.length then some (r, h.set a (.inr (.inr (ci, fs.set k v)))) else none
      | _ => none
    | _ => none
  | _ => none
def am_wrI (t : Nat) (st : List Value) (h : am_H) : Option (List Value × am_H) := match st with
  | .int x :: .int i :: .ref a :: r => match h[a]? with
    | some (.inl (t', n, f)) => if t' = t ∨ (t = 1 ∧ t' = 3) then (if i < 0 ∨ n ≤ i.toNatClampNeg then none else some (r, h.set a (.inl (t', n, upd f i.toNatClampNeg (am_nb t' x))))) else none
    | _ => none
  | _ => none
def am_wrL (st : List Value) (h : am_H) : Option (List Value × am_H) := match st with
  | .long x :: .int i :: .ref a :: r => match h[a]? with
    | some (.inr (.inl (n, f))) => if i < 0 ∨ n ≤ i.toNatClampNeg then none else some (r, h.set a (.inr (.inl (n, vp_updL f i.toNatClampNeg x))))
    | _ => none
  | _ => none
def am_new (E : am_E) (lk : am_K) (st : List Value) (h : am_H) : Option (List Value × am_H) := match lk with
  | (ci, _) :: _ => match E.1[ci]? with
    | some fs => some (.ref h.length :: st, h ++ [.inr (.inr (ci, fs))])
    | none => none
  | [] => none
def am_blank (t : ArrayType) (n : Nat) : Option am_C := match t with
  | .int => some (.inl (0, n, fun _ => 0))
  | .byte => some (.inl (1, n, fun _ => 0))
  | .boolean => some (.inl (3, n, fun _ => 0))
  | .long => some (.inr (.inl (n, fun _ => 0)))
  | _ => none
def am_na (t : ArrayType) (st : List Value) (h : am_H) : Option (List Value × am_H) := match st with
  | .int n :: r => if n < 0 ∨ 60000000 < n.toNatClampNeg then none else match am_blank t n.toNatClampNeg with
    | some x => some (.ref h.length :: r, h ++ [x])
    | none => none
  | _ => none
def am_hs (E : am_E) (i : Instr) (lk : am_K) (st : List Value) (h : am_H) : Option (List Value × am_H) := match i with
  | .putfield _ => am_pf lk st h
  | .iastore => am_wrI 0 st h
  | .bastore => am_wrI 1 st h
  | .lastore => am_wrL st h
  | .new _ => am_new E lk st h
  | .newarray t => am_na t st h
  | _ => none
def am_ret (ret : Option FieldType) (i : Instr) (st : List Value) : Option (Option Value) := match i, st with
  | .return_, [] => if ret = none then some none else none
  | .ireturn, [.int x] => match ret with
    | some .int => some (some (.int x))
    | some .boolean => if x = 0 ∨ x = 1 then some (some (.int x)) else none
    | some .char => if narrow .char (.int x) = .int x then some (some (.int x)) else none
    | some .byte => if narrow .byte (.int x) = .int x then some (some (.int x)) else none
    | _ => none
  | .lreturn, [.long x] => if ret = some .long then some (some (.long x)) else none
  | _, _ => none
def am_sum (r : List Value) : Nat := (r.map fun v => v.category).sum
def am_cls (E : am_E) (h : am_H) (v : Value) : Option Nat := match v with
  | .ref a => match h[a]? with
    | some (.inr (.inr (ci, _))) => some ci
    | _ => none
  | .retAddr k => if k < E.2.1.length ∧ k < 1000 then some 1000 else none
  | _ => none
/-- the callee, its arguments, what lies below them -/
def am_call (E : am_E) (h : am_H) (i : Instr) (lk : am_K) (st : List Value) : Option (Nat × List Value × List Value) := match lk with
  | (_, j :: n :: _) :: _ => match i with
    | .invokestatic _ => if n ≤ st.length then some (j, (st.take n).reverse, st.drop n) else none
    | .invokespecial _ => match st.drop n with
      | .ref a :: r => some (j, .ref a :: (st.take n).reverse, r)
      | _ => none
    | .invokevirtual _ => match st.drop n with
      | v :: r => match am_cls E h v with
        | some ci => match am_key lk ci with
          | some (j' :: n' :: _) => if n' = n then some (j', v :: (st.take n).reverse, r) else none
          | _ => none
        | none => none
      | _ => none
    | _ => none
  | _ => none
/-- java.lang.Math by its own rows: max, min of ints -/
def am_isP (lk : am_K) : Bool := match lk with
  | (3000, _) :: _ => true
  | _ => false
def am_math (lk : am_K) (st : List Value) : Option (List Value × List Value) := match lk, st with
  | (_, 0 :: _) :: _, .int y :: .int x :: r => some (.int (if x < y then y else x) :: r, r)
  | (_, 1 :: _) :: _, .int y :: .int x :: r => some (.int (if y < x then y else x) :: r, r)
  | _, _ => none
/-- THE RUN: fuel, frames left, method, program counter, locals, stack, cells; the answer and the cells behind it -/
def am_ex (E : am_E) (T : List am_M) : Nat → Nat → Nat → Nat → am_L → List Value → am_H → Option (Option Value × am_H)
  | 0, _, _, _, _, _, _ => none
  | n + 1, d, j, pc, ls, st, h =>
    match T[j]? with
    | none => none
    | some M => match am_find M.2.2.2.2 pc with
      | none => none
      | some q => match am_sort q.2.1 with
        | 0 => match am_step E pc q.2.1 q.2.2.1 q.2.2.2 ls st h with
          | none => none
          | some S => am_ex E T n d j S.1 S.2.1 S.2.2 h
        | 1 => match am_ret M.2.2.2.1 q.2.1 st with
          | none => none
          | some v => some (v, h)
        | 2 => match am_hs E q.2.1 q.2.2.2 st h with
          | none => none
          | some S => am_ex E T n d j (pc + am_len q.2.1 q.2.2.1) ls S.1 S.2
        | _ => match d with
          | 0 => none
          | d' + 1 => match q.2.2.2 with
            | [] => match st with
              | .ref _ :: r => if am_sum r ≤ 8 then am_ex E T n (d' + 1) j (pc + 3) ls r h else none
              | _ => none
            | _ => if am_isP q.2.2.2 = true then
                (match am_math q.2.2.2 st with
                | none => none
                | some P => if am_sum P.2 ≤ 8 then am_ex E T n (d' + 1) j (pc + 3) ls P.1 h else none)
              else match am_call E h q.2.1 q.2.2.2 st with
              | none => none
              | some C => match T[C.1]? with
                | none => none
                | some M2 => if am_sum C.2.2 ≤ 8 ∧ M2.2.2.1 ≤ 41 ∧ am_sum C.2.1 ≤ M2.2.2.1 then
                    match am_ex E T n d' C.1 0 (lv_args 0 C.2.1) [] h with
                    | none => none
                    | some Z => am_ex E T n (d' + 1) j (pc + 3) ls (Z.1.toList ++ C.2.2) Z.2
                  else none
end
section
/-! WHAT THE TABLES MUST SAY of an entry: its place in a list of words. -/
def am_okF (Ts Ns : List Cond) (cl : List vw_C) (own : String) (idx ci : Nat) (dat : List Nat) : Bool := match dat, cl[ci]? with
  | k :: _ :: kind :: p1 :: p2 :: _, some (_, F, N) => decide (k < N) && (match kind with
    | 0 => decide (Ts[p1]? = some (.fieldLink own idx (F k).1 (F k).2.1 (F k).2.2.1))
    | 1 => (match Ts[p1]? with
      | some (.fieldLink _ _ r _ _) => decide (Ts[p1]? = some (.fieldLink own idx r (F k).2.1 (F k).2.2.1)) && decide (Ts[p2]? = some (.sameField r (F k).1 (F k).2.1 (F k).2.2.1))
      | _ => false)
    | 2 => (match Ns[p1]? with
      | some (.fieldLinkNest _ _ _ _ _ ho) => decide (Ns[p1]? = some (.fieldLinkNest own idx (F k).1 (F k).2.1 (F k).2.2.1 ho))
      | _ => false)
    | _ => false)
  | _, _ => false
def am_okT (d : String) (tag : Nat) : Bool := match tag, parseFieldDescriptor d with
  | 0, some .int => true
  | 1, some .boolean => true
  | 2, some .long => true
  | 3, some (.object _) => true
  | 3, some (.array _) => true
  | _, _ => false
/-- a field that is written: it is no final one, or a final one of its own constructor -/
def am_okP (cl : List vw_C) (own nm : String) (ci : Nat) (dat : List Nat) : Bool := match dat, cl[ci]? with
  | k :: tag :: kind :: _, some (_, F, _) => am_okT (F k).2.2.1 tag && (if (F k).2.2.2 = true then decide (nm = "<init>") && decide ((F k).1 = own) && decide (kind = 0) else true)
  | _, _ => false
def am_okX (Ts : List Cond) (own : String) (idx : Nat) (dat : List Nat) : Bool := match dat with
  | 0 :: p1 :: _ => decide (Ts[p1]? = some (.fieldLink own idx "java/lang/String" "coder" "B"))
  | 1 :: p1 :: _ => decide (Ts[p1]? = some (.fieldLink own idx "java/lang/String" "value" "[B"))
  | _ => false
/-- a class's name by its number; 1000: the texts' -/
def am_cn (cl : List vw_C) (ci : Nat) : Option String := if ci = 1000 then some "java/lang/String" else (cl[ci]?).map (fun q => q.1)
/-- a call of the method number j, with n parameters, for a receiver of the class ci -/
def am_okC (Ts Ns : List Cond) (cl : List vw_C) (T : List am_M) (own : String) (i : Instr) (ci : Nat) (dat : List Nat) : Bool := match dat with
  | j :: n :: kind :: p1 :: p2 :: p3 :: p4 :: p5 :: _ => (match T[j]? with
    | none => false
    | some M => decide (0 < j) && decide ((parseMethodDescriptor M.1.desc).map (fun d => d.parameters.length) = some n) && (match kind, i with
      | 0, .invokestatic idx => decide (Ts[p1]? = some (.methodLink own idx M.1)) && decide (Ts[p2]? = some (.static M.1))
      | 1, .invokestatic idx => (match Ns[p1]? with
        | some (.methodLinkNest _ _ _ ho) => decide (Ns[p1]? = some (.methodLinkNest own idx M.1 ho)) && decide (Ts[p2]? = some (.static M.1))
        | _ => false)
      | 2, .invokespecial idx => decide (Ts[p1]? = some (.methodLink own idx M.1)) && decide (Ts[p2]? = some (.instanceMethod M.1)) && decide (M.1.name = "<init>") && decide (M.2.2.2.1 = none)
      | 3, .invokespecial idx => (match Ns[p1]? with
        | some (.methodLinkNest _ _ _ ho) => decide (Ns[p1]? = some (.methodLinkNest own idx M.1 ho)) && decide (Ts[p2]? = some (.instanceMethod M.1)) && decide (M.1.name = "<init>") && decide (M.2.2.2.1 = none)
        | _ => false)
      | 4, .invokevirtual idx => (match am_cn cl ci with
        | some C => decide (Ts[p1]? = some (.methodLink own idx M.1)) && decide (Ts[p2]? = some (.instanceMethod M.1)) && decide (Ts[p3]? = some (.selects C M.1 M.1))
        | none => false)
      | 5, .invokevirtual idx => (match am_cn cl ci, Ns[p1]? with
        | some C, some (.methodLinkNest _ _ _ ho) => decide (Ns[p1]? = some (.methodLinkNest own idx M.1 ho)) && decide (Ts[p2]? = some (.instanceMethod M.1)) && decide (Ts[p3]? = some (.selects C M.1 M.1))
        | _, _ => false)
      | 6, .invokevirtual idx => (match am_cn cl ci, Ts[p1]?, Ts[p4]? with
        | some C, some (.methodLink _ _ x), some (.sameMethod _ o _ _) => decide (Ts[p1]? = some (.methodLink own idx x)) && decide (Ts[p2]? = some (.instanceMethod M.1)) && decide (Ts[p3]? = some (.selects C x M.1)) && decide (Ts[p4]? = some (.sameMethod x.cls o x.name x.desc)) && decide (M.1 = ⟨o, x.name, x.desc⟩)
        | _, _, _ => false)
      | 7, .invokevirtual idx => (match am_cn cl ci, Ts[p1]?, Ts[p4]? with
        | some C, some (.methodLink _ _ x), some (.sameMethod _ o _ _) => decide (Ts[p1]? = some (.methodLink own idx x)) && decide (Ts[p2]? = some (.instanceMethod M.1)) && decide (Ts[p3]? = some (.selects C x M.1)) && decide (Ts[p4]? = some (.sameMethod x.cls o x.name x.desc)) && decide (Ns[p5]? = some (.declares ⟨o, x.name, x.desc⟩)) && decide (o ≠ "java/lang/invoke/MethodHandle") && decide (o ≠ "java/lang/invoke/VarHandle") && decide (M.1.desc = x.desc)
        | _, _, _ => false)
      | _, _ => false))
  | _ => false
def am_okM (Ts : List Cond) (own : String) (idx : Nat) (lk : am_K) : Bool := match lk with
  | (_, 0 :: p1 :: p2 :: p3 :: p4 :: _) :: _ => decide (Ts[p1]? = some (.methodLink own idx Lib.Math.max.name)) && decide (Ts[p2]? = some (.static Lib.Math.max.name)) && decide (Ts[p3]? = some (.initialized "java/lang/Math")) && decide (Ts[p4]? = some (.code Lib.Math.max.name Lib.Math.max.code 2 (some .int)))
  | (_, 1 :: p1 :: p2 :: p3 :: p4 :: _) :: _ => decide (Ts[p1]? = some (.methodLink own idx Lib.Math.min.name)) && decide (Ts[p2]? = some (.static Lib.Math.min.name)) && decide (Ts[p3]? = some (.initialized "java/lang/Math")) && decide (Ts[p4]? = some (.code Lib.Math.min.name Lib.Math.min.code 2 (some .int)))
  | _ => false
abbrev am_Rs : Type := List (String × Nat × String × Nat)
abbrev am_Zs : Type := List (String × String × String)
def am_okI (Ts Ns : List Cond) (Rs : am_Rs) (Zs : am_Zs) (cl : List vw_C) (T : List am_M) (own nm : String) (maxL : Nat) (i : Instr) (num : Int) (lk : am_K) : Bool := match i with
  | .istore_n k => decide ((k : Nat) < maxL)
  | .istore k => decide (k < maxL)
  | .astore_n k => decide ((k : Nat) < maxL)
  | .astore k => decide (k < maxL)
  | .lstore_n k => decide ((k : Nat) + 1 < maxL)
  | .lstore k => decide (k + 1 < maxL)
  | .iinc k _ => decide (k < maxL)
  | .ldc idx => (match lk with
    | (0, p :: _) :: _ => decide (Ts[p]? = some (.constant own idx (Int32.ofInt num)))
    | (1, p :: _) :: _ => (match Rs[p]? with
      | some (o, ix, _, k) => decide (o = own) && decide (ix = idx) && decide (k = num.toNat)
      | none => false)
    | _ => false)
  | .ldc_w idx => (match lk with
    | (0, p :: _) :: _ => decide (Ts[p]? = some (.constant own idx (Int32.ofInt num)))
    | _ => false)
  | .ldc2_w idx => (match lk with
    | (0, p :: _) :: _ => decide (Ts[p]? = some (.constantLong own idx (Int64.ofInt num)))
    | _ => false)
  | .getfield idx => lk.all (fun q => if q.1 = 1000 then am_okX Ts own idx q.2 else am_okF Ts Ns cl own idx q.1 q.2)
  | .putfield idx => lk.all (fun q => am_okF Ts Ns cl own idx q.1 q.2 && am_okP cl own nm q.1 q.2)
  | .getstatic idx => (match lk with
    | (_, p :: _) :: _ => (match Zs[num.toNat]? with
      | some (C, n, d) => decide (Ts[p]? = some (.fieldLink own idx C n d))
      | none => false)
    | _ => false)
  | .new idx => (match lk with
    | (ci, p1 :: p2 :: p3 :: _) :: _ => (match cl[ci]? with
      | some (C, _, N) => decide (Ts[p1]? = some (.classLink own idx C)) && decide (Ts[p2]? = some (.instantiable C N)) && decide (Ts[p3]? = some (.initialized C))
      | none => false)
    | _ => false)
  | .newarray t => (match lk with
    | (_, p :: _) :: _ => decide (Ts[p]? = some (.arrayClass (newarray.typeOf t)))
    | _ => false)
  | .invokestatic idx => if am_isP lk = true then am_okM Ts own idx lk else !lk.isEmpty && lk.all (fun q => am_okC Ts Ns cl T own i q.1 q.2)
  | .invokevirtual _ => !am_isP lk && !lk.isEmpty && lk.all (fun q => am_okC Ts Ns cl T own i q.1 q.2)
  | .invokespecial idx => (match lk with
    | [] => decide (Ts[num.toNat]? = some (.methodLink own idx objectInit))
    | _ => !am_isP lk && lk.all (fun q => am_okC Ts Ns cl T own i q.1 q.2))
  | _ => true
def am_okQ (Ts Ns : List Cond) (Rs : am_Rs) (Zs : am_Zs) (cl : List vw_C) (T : List am_M) (M : am_M) (q : am_Q) : Bool :=
  decide (decode M.2.1 q.1 = .ok (q.2.1, am_len q.2.1 q.2.2.1)) && am_okI Ts Ns Rs Zs cl T M.1.cls M.1.name M.2.2.1 q.2.1 q.2.2.1 q.2.2.2
end
section
/-! ITS STEPS ARE STEPS OF THE MACHINE. -/
def am_cv (b : Nat) (sa : Nat → Nat) (v : Value) : Value := match v with
  | .ref i => .ref (b + i)
  | .retAddr k => .ref (sa k)
  | v => v
def am_cl (b : Nat) (sa : Nat → Nat) (ls : am_L) : am_L := ls.map (fun q => (q.1, am_cv b sa q.2))
def am_ce (K : Nat → ClassId) (b : Nat) (sa : Nat → Nat) (x : am_C) : va_E := match x with
  | .inl (t, n, f) => .inl (K t, n, .inl f)
  | .inr (.inl (n, f)) => .inl (K 2, n, .inr (.inl f))
  | .inr (.inr (ci, fs)) => .inr (ci, fs.map (am_cv b sa))
def am_W (K : Nat → ClassId) (b : Nat) (sa : Nat → Nat) (h : am_H) : va_W := h.mapIdx (fun i x => (b + i, am_ce K b sa x))
def am_tys (K : Nat → ClassId) : List (ClassId × FieldType) := [(K 0, .int), (K 1, .byte), (K 2, .long), (K 3, .boolean)]
theorem am_cat (b : Nat) (sa : Nat → Nat) (v : Value) : (am_cv b sa v).category = v.category := by cases v <;> rfl
theorem am_get_mem {ls : am_L} {i : Nat} {v : Value} (h : am_get ls i = some v) : (i, v) ∈ ls := by
  induction ls with
  | nil => cases h
  | cons q r ih =>
    unfold am_get at h
    split at h
    · rename_i e
      cases h
      rw [← e]
      exact List.mem_cons_self
    · exact List.mem_cons_of_mem _ (ih h)
theorem am_get_at {b nL : Nat} {sa : Nat → Nat} {Ls : Array Slot} {ls : am_L} {i : Nat} {v : Value} (hl : lv_has Ls nL (am_cl b sa ls)) (h : am_get ls i = some v) : Ls[i]? = some (.val (am_cv b sa v)) :=
  hl.2.2 (i, am_cv b sa v) (List.mem_map.mpr ⟨(i, v), am_get_mem h, rfl⟩)
theorem am_put1_cl (b : Nat) (sa : Nat → Nat) (ls : am_L) (i : Nat) (v : Value) : (i, am_cv b sa v) :: (am_cl b sa ls).filter (fun q => !(q.1 == i) && !(q.1 + 1 == i && q.2.category == 2)) = am_cl b sa (am_put1 ls i v) := by
  unfold am_cl am_put1
  rw [List.map_cons, List.filter_map]
  congr 2
  apply List.filter_congr
  intro q _
  simp only [Function.comp, am_cat]
theorem am_put2_cl (b : Nat) (sa : Nat → Nat) (ls : am_L) (i : Nat) (v : Value) : (i, am_cv b sa v) :: (am_cl b sa ls).filter (fun q => !(q.1 == i) && (!(q.1 == i + 1) && !(q.1 + 1 == i && q.2.category == 2))) = am_cl b sa (am_put2 ls i v) := by
  unfold am_cl am_put2
  rw [List.map_cons, List.filter_map]
  congr 2
  apply List.filter_congr
  intro q _
  simp only [Function.comp, am_cat]
theorem am_W_at {K : Nat → ClassId} {b : Nat} {sa : Nat → Nat} {h : am_H} {a : Nat} {x : am_C} (hx : h[a]? = some x) : (am_W K b sa h)[a]? = some (b + a, am_ce K b sa x) := by
  unfold am_W
  rw [List.getElem?_mapIdx, hx]
  rfl
section AMG
variable {Wg : JFrame → Prop} {m : MethodId} {Ls : Array Slot} {b nL pc np : Nat} {sa : Nat → Nat} {ls : am_L} {st : List Value} {S : Nat × am_L × List Value}
/-- where the walk goes on -/
abbrev am_kk (Wg : JFrame → Prop) (m : MethodId) (b nL : Nat) (sa : Nat → Nat) (S : Nat × am_L × List Value) : Prop := ∀ Ls' : Array Slot, lv_has Ls' nL (am_cl b sa S.2.1) → Wg (F0 m S.1 Ls' (S.2.2.map (am_cv b sa)))
theorem am_cst {v : Value} (row : Wg (F0 m np Ls (am_cv b sa v :: st.map (am_cv b sa))) → Wg (F0 m pc Ls (st.map (am_cv b sa)))) (hs : some (np, ls, v :: st) = some S) (hl : lv_has Ls nL (am_cl b sa ls)) (kk : am_kk Wg m b nL sa S) : Wg (F0 m pc Ls (st.map (am_cv b sa))) := by
  cases hs
  exact row (kk Ls hl)
theorem am_ld_ok {t : Value → Bool} {i : Nat} (row : ∀ v : Value, t v = true → Ls[i]? = some (.val (am_cv b sa v)) → Wg (F0 m np Ls (am_cv b sa v :: st.map (am_cv b sa))) → Wg (F0 m pc Ls (st.map (am_cv b sa)))) (hs : am_ld np t ls i st = some S) (hl : lv_has Ls nL (am_cl b sa ls)) (kk : am_kk Wg m b nL sa S) : Wg (F0 m pc Ls (st.map (am_cv b sa))) := by
  unfold am_ld at hs
  split at hs
  · rename_i v hv
    split at hs
    · rename_i ht
      cases hs
      exact row v ht (am_get_at hl hv) (kk Ls hl)
    · cases hs
  · cases hs
theorem am_st1_ok {t : Value → Bool} {i : Nat} (row : ∀ (v : Value) (r : List Value), t v = true → (∀ ls' : Array Slot, lv_has ls' nL (am_cl b sa (am_put1 ls i v)) → Wg (F0 m np ls' r)) → Wg (F0 m pc Ls (am_cv b sa v :: r))) (hs : am_st1 np t ls i st = some S) (kk : am_kk Wg m b nL sa S) : Wg (F0 m pc Ls (st.map (am_cv b sa))) := by
  unfold am_st1 at hs
  split at hs
  · split at hs
    · rename_i ht
      cases hs
      exact row _ _ ht (fun ls' h' => kk ls' h')
    · cases hs
  · cases hs
theorem am_st2_ok {i : Nat} (row : ∀ (v : Value) (r : List Value), am_isL v = true → (∀ ls' : Array Slot, lv_has ls' nL (am_cl b sa (am_put2 ls i v)) → Wg (F0 m np ls' r)) → Wg (F0 m pc Ls (am_cv b sa v :: r))) (hs : am_st2 np ls i st = some S) (kk : am_kk Wg m b nL sa S) : Wg (F0 m pc Ls (st.map (am_cv b sa))) := by
  unfold am_st2 at hs
  split at hs
  · split at hs
    · rename_i ht
      cases hs
      exact row _ _ ht (fun ls' h' => kk ls' h')
    · cases hs
  · cases hs
theorem am_i2_ok {f : Int32 → Int32 → Int32} (row : ∀ (x y : Int32) (r : List Value), Wg (F0 m np Ls (.int (f x y) :: r)) → Wg (F0 m pc Ls (.int y :: .int x :: r))) (hs : am_i2 np ls f st = some S) (hl : lv_has Ls nL (am_cl b sa ls)) (kk : am_kk Wg m b nL sa S) : Wg (F0 m pc Ls (st.map (am_cv b sa))) := by
  unfold am_i2 at hs
  split at hs
  · cases hs
    exact row _ _ _ (kk Ls hl)
  · cases hs
theorem am_d2_ok {f : Int32 → Int32 → Int32} (row : ∀ (x y : Int32) (r : List Value), ¬ y = 0 → Wg (F0 m np Ls (.int (f x y) :: r)) → Wg (F0 m pc Ls (.int y :: .int x :: r))) (hs : am_d2 np ls f st = some S) (hl : lv_has Ls nL (am_cl b sa ls)) (kk : am_kk Wg m b nL sa S) : Wg (F0 m pc Ls (st.map (am_cv b sa))) := by
  unfold am_d2 at hs
  split at hs
  · split at hs
    · cases hs
    · rename_i h0
      cases hs
      exact row _ _ _ h0 (kk Ls hl)
  · cases hs
theorem am_l2_ok {f : Int64 → Int64 → Int64} (row : ∀ (x y : Int64) (r : List Value), Wg (F0 m np Ls (.long (f x y) :: r)) → Wg (F0 m pc Ls (.long y :: .long x :: r))) (hs : am_l2 np ls f st = some S) (hl : lv_has Ls nL (am_cl b sa ls)) (kk : am_kk Wg m b nL sa S) : Wg (F0 m pc Ls (st.map (am_cv b sa))) := by
  unfold am_l2 at hs
  split at hs
  · cases hs
    exact row _ _ _ (kk Ls hl)
  · cases hs
theorem am_dl2_ok {f : Int64 → Int64 → Int64} (row : ∀ (x y : Int64) (r : List Value), ¬ y = 0 → Wg (F0 m np Ls (.long (f x y) :: r)) → Wg (F0 m pc Ls (.long y :: .long x :: r))) (hs : am_dl2 np ls f st = some S) (hl : lv_has Ls nL (am_cl b sa ls)) (kk : am_kk Wg m b nL sa S) : Wg (F0 m pc Ls (st.map (am_cv b sa))) := by
  unfold am_dl2 at hs
  split at hs
  · split at hs
    · cases hs
    · rename_i h0
      cases hs
      exact row _ _ _ h0 (kk Ls hl)
  · cases hs
theorem am_l1_ok {f : Int64 → Int64} (row : ∀ (x : Int64) (r : List Value), Wg (F0 m np Ls (.long (f x) :: r)) → Wg (F0 m pc Ls (.long x :: r))) (hs : am_l1 np ls f st = some S) (hl : lv_has Ls nL (am_cl b sa ls)) (kk : am_kk Wg m b nL sa S) : Wg (F0 m pc Ls (st.map (am_cv b sa))) := by
  unfold am_l1 at hs
  split at hs
  · cases hs
    exact row _ _ (kk Ls hl)
  · cases hs
theorem am_s2_ok {f : Int64 → Int32 → Int64} (row : ∀ (x : Int64) (y : Int32) (r : List Value), Wg (F0 m np Ls (.long (f x y) :: r)) → Wg (F0 m pc Ls (.int y :: .long x :: r))) (hs : am_s2 np ls f st = some S) (hl : lv_has Ls nL (am_cl b sa ls)) (kk : am_kk Wg m b nL sa S) : Wg (F0 m pc Ls (st.map (am_cv b sa))) := by
  unfold am_s2 at hs
  split at hs
  · cases hs
    exact row _ _ _ (kk Ls hl)
  · cases hs
theorem am_c2_ok (row : ∀ (x y : Int64) (r : List Value), Wg (F0 m np Ls (.int (lg_cmp x y) :: r)) → Wg (F0 m pc Ls (.long y :: .long x :: r))) (hs : am_c2 np ls st = some S) (hl : lv_has Ls nL (am_cl b sa ls)) (kk : am_kk Wg m b nL sa S) : Wg (F0 m pc Ls (st.map (am_cv b sa))) := by
  unfold am_c2 at hs
  split at hs
  · cases hs
    exact row _ _ _ (kk Ls hl)
  · cases hs
theorem am_i1_ok {f : Int32 → Int32} (row : ∀ (x : Int32) (r : List Value), Wg (F0 m np Ls (.int (f x) :: r)) → Wg (F0 m pc Ls (.int x :: r))) (hs : am_i1 np ls f st = some S) (hl : lv_has Ls nL (am_cl b sa ls)) (kk : am_kk Wg m b nL sa S) : Wg (F0 m pc Ls (st.map (am_cv b sa))) := by
  unfold am_i1 at hs
  split at hs
  · cases hs
    exact row _ _ (kk Ls hl)
  · cases hs
theorem am_il_ok (row : ∀ (x : Int32) (r : List Value), Wg (F0 m np Ls (.long x.toInt64 :: r)) → Wg (F0 m pc Ls (.int x :: r))) (hs : am_il np ls st = some S) (hl : lv_has Ls nL (am_cl b sa ls)) (kk : am_kk Wg m b nL sa S) : Wg (F0 m pc Ls (st.map (am_cv b sa))) := by
  unfold am_il at hs
  split at hs
  · cases hs
    exact row _ _ (kk Ls hl)
  · cases hs
theorem am_li_ok (row : ∀ (x : Int64) (r : List Value), Wg (F0 m np Ls (.int x.toInt32 :: r)) → Wg (F0 m pc Ls (.long x :: r))) (hs : am_li np ls st = some S) (hl : lv_has Ls nL (am_cl b sa ls)) (kk : am_kk Wg m b nL sa S) : Wg (F0 m pc Ls (st.map (am_cv b sa))) := by
  unfold am_li at hs
  split at hs
  · cases hs
    exact row _ _ (kk Ls hl)
  · cases hs
theorem am_jp_ok {off : Int} {r : List Value} {G : Prop} (row : ∀ tgt : Nat, (pc : Int) + off = (tgt : Int) → Wg (F0 m tgt Ls (r.map (am_cv b sa))) → G) (hs : am_jp pc ls off r = some S) (hl : lv_has Ls nL (am_cl b sa ls)) (kk : am_kk Wg m b nL sa S) : G := by
  unfold am_jp at hs
  split at hs
  · rename_i h0
    cases hs
    exact row _ (Int.toNat_of_nonneg h0).symm (kk Ls hl)
  · cases hs
theorem am_br_ok {bb : Bool} {off : Int} {r : List Value} {G : Prop} (rt : ∀ tgt : Nat, (pc : Int) + off = (tgt : Int) → bb = true → Wg (F0 m tgt Ls (r.map (am_cv b sa))) → G) (rf : ∀ tgt : Nat, (pc : Int) + off = (tgt : Int) → ¬ bb = true → Wg (F0 m (pc + 3) Ls (r.map (am_cv b sa))) → G) (hs : am_br pc ls bb off r = some S) (hl : lv_has Ls nL (am_cl b sa ls)) (kk : am_kk Wg m b nL sa S) : G := by
  unfold am_br at hs
  split at hs
  · rename_i h0
    have ht := (Int.toNat_of_nonneg h0).symm
    split at hs
    · rename_i h1
      cases hs
      exact rt _ ht h1 (kk Ls hl)
    · rename_i h1
      cases hs
      exact rf _ ht h1 (kk Ls hl)
  · cases hs
theorem am_inc_ok {i : Nat} {n : Int} (row : ∀ (x : Int32) (k : Nat), (am_cl b sa ls)[k]? = some (i, .int x) → (∀ ls' : Array Slot, lv_has ls' nL (am_cl b sa (am_put1 ls i (.int (x + Int32.ofInt n)))) → Wg (F0 m np ls' (st.map (am_cv b sa)))) → Wg (F0 m pc Ls (st.map (am_cv b sa)))) (hs : am_inc np ls i n st = some S) (kk : am_kk Wg m b nL sa S) : Wg (F0 m pc Ls (st.map (am_cv b sa))) := by
  unfold am_inc at hs
  split at hs
  · rename_i x hx
    cases hs
    have hm : (i, Value.int x) ∈ am_cl b sa ls := List.mem_map.mpr ⟨(i, .int x), am_get_mem hx, rfl⟩
    obtain ⟨k, hk⟩ := List.getElem?_of_mem hm
    exact row x k hk kk
  · cases hs
theorem am_dup_ok (row : ∀ (v : Value) (r : List Value), v.category = 1 → Wg (F0 m np Ls (v :: v :: r)) → Wg (F0 m pc Ls (v :: r))) (hs : am_dup np ls st = some S) (hl : lv_has Ls nL (am_cl b sa ls)) (kk : am_kk Wg m b nL sa S) : Wg (F0 m pc Ls (st.map (am_cv b sa))) := by
  unfold am_dup at hs
  split at hs
  · split at hs
    · rename_i h0
      cases hs
      exact row _ _ (by rw [am_cat]; exact h0) (kk Ls hl)
    · cases hs
  · cases hs
theorem am_pop_ok (row : ∀ (v : Value) (r : List Value), v.category = 1 → Wg (F0 m np Ls r) → Wg (F0 m pc Ls (v :: r))) (hs : am_pop np ls st = some S) (hl : lv_has Ls nL (am_cl b sa ls)) (kk : am_kk Wg m b nL sa S) : Wg (F0 m pc Ls (st.map (am_cv b sa))) := by
  unfold am_pop at hs
  split at hs
  · split at hs
    · rename_i h0
      cases hs
      exact row _ _ (by rw [am_cat]; exact h0) (kk Ls hl)
    · cases hs
  · cases hs
theorem am_pop2_ok (row : ∀ (v : Value) (r : List Value), v.category = 2 → Wg (F0 m np Ls r) → Wg (F0 m pc Ls (v :: r))) (hs : am_pop2 np ls st = some S) (hl : lv_has Ls nL (am_cl b sa ls)) (kk : am_kk Wg m b nL sa S) : Wg (F0 m pc Ls (st.map (am_cv b sa))) := by
  unfold am_pop2 at hs
  split at hs
  · split at hs
    · rename_i h0
      cases hs
      exact row _ _ (by rw [am_cat]; exact h0) (kk Ls hl)
    · cases hs
  · cases hs
theorem am_dupx1_ok (row : ∀ (v w : Value) (r : List Value), v.category = 1 → w.category = 1 → Wg (F0 m np Ls (v :: w :: v :: r)) → Wg (F0 m pc Ls (v :: w :: r))) (hs : am_dupx1 np ls st = some S) (hl : lv_has Ls nL (am_cl b sa ls)) (kk : am_kk Wg m b nL sa S) : Wg (F0 m pc Ls (st.map (am_cv b sa))) := by
  unfold am_dupx1 at hs
  split at hs
  · split at hs
    · rename_i h0
      cases hs
      exact row _ _ _ (by rw [am_cat]; exact h0.1) (by rw [am_cat]; exact h0.2) (kk Ls hl)
    · cases hs
  · cases hs
theorem am_dupx2_ok (row : ∀ (v w z : Value) (r : List Value), v.category = 1 → w.category = 1 → z.category = 1 → Wg (F0 m np Ls (v :: w :: z :: v :: r)) → Wg (F0 m pc Ls (v :: w :: z :: r))) (hs : am_dupx2 np ls st = some S) (hl : lv_has Ls nL (am_cl b sa ls)) (kk : am_kk Wg m b nL sa S) : Wg (F0 m pc Ls (st.map (am_cv b sa))) := by
  unfold am_dupx2 at hs
  split at hs
  · split at hs
    · rename_i h0
      cases hs
      exact row _ _ _ _ (by rw [am_cat]; exact h0.1) (by rw [am_cat]; exact h0.2.1) (by rw [am_cat]; exact h0.2.2) (kk Ls hl)
    · cases hs
  · cases hs
theorem am_dup2_ok (row : ∀ (v w : Value) (r : List Value), v.category = 1 → w.category = 1 → Wg (F0 m np Ls (v :: w :: v :: w :: r)) → Wg (F0 m pc Ls (v :: w :: r))) (hs : am_dup2 np ls st = some S) (hl : lv_has Ls nL (am_cl b sa ls)) (kk : am_kk Wg m b nL sa S) : Wg (F0 m pc Ls (st.map (am_cv b sa))) := by
  unfold am_dup2 at hs
  split at hs
  · split at hs
    · rename_i h0
      cases hs
      exact row _ _ _ (by rw [am_cat]; exact h0.1) (by rw [am_cat]; exact h0.2) (kk Ls hl)
    · cases hs
  · cases hs
end AMG
end
section
/-- what holds of a state whatever its cells hold: the tables, the private links, the texts, the statics, the script -/
def am_U (D : va_G) (cl : List vw_C) (K : Nat → ClassId) (b : Nat) (sa : Nat → Nat) (Ns : List Cond) (Rs : am_Rs) (Zs : am_Zs) (E : am_E) (U : State) : Prop :=
  va_K D cl (am_tys K) U ∧ (∀ w ∈ Ns, va_Nw w U) ∧ vk_S E.2.1.length (E.2.1.map List.length) E.2.1 sa (fun i => sa (1000 + i)) (fun q => b ≤ q) U U.heap ∧ (∀ q ∈ Rs, vk_R q.1 q.2.1 q.2.2.1 (sa q.2.2.2) U) ∧ (∀ (i : Nat) (C n d : String) (v : Value), Zs[i]? = some (C, n, d) → E.2.2.1[i]? = some v → va_Z C n d (am_cv b sa v) (fun q => b ≤ q) U U.heap) ∧ (∀ (L : Nat) (xs : Nat → Int32), E.2.2.2 = some (L, xs) → va_X (sa 9999) L xs U U.heap) ∧ sa 9999 < U.heap.size ∧ sa 9999 < b
/-- the classes, their words, their fields' types and default values -/
def am_CL (Ts : List Cond) (cl : List vw_C) (df : List (List Value)) : Prop := ∀ (ci : Nat) (C : String) (F : u_T) (N : Nat), cl[ci]? = some (C, F, N) → (∀ w ∈ u_ws C F N, w ∈ Ts) ∧ (∃ ty : Nat → FieldType, (∀ k, k < N → parseFieldDescriptor (F k).2.2.1 = some (ty k)) ∧ ∀ fs : List Value, df[ci]? = some fs → fs.length = N ∧ (∀ j, j < N → defaultValue (ty j) = vp_V fs j) ∧ ∀ (b : Nat) (sa : Nat → Nat), fs.map (am_cv b sa) = fs) ∧ ∀ x, x < N → ∀ y, y < N → x ≠ y → (F x).2.1 ≠ (F y).2.1
theorem am_key_mem {lk : am_K} {k : Nat} {d : List Nat} (h : am_key lk k = some d) : (k, d) ∈ lk := by
  induction lk with
  | nil => cases h
  | cons q r ih =>
    unfold am_key at h
    split at h
    · rename_i e
      cases h
      rw [← e]
      exact List.mem_cons_self
    · exact List.mem_cons_of_mem _ (ih h)
section AMR
variable {p : Program} {l : Launch} {e : Env} {R : Room} {s : State} {m : MethodId} {args : Array Value} {below : List Frame} {meth : Method} {c : Code} {H : Heap} {locs : List Loc} {cells slots : Nat} {Q : State → Prop}
variable {cc : ByteArray} {pc nL : Nat} {Ls : Array Slot} {D : va_G} {cl : List vw_C} {K : Nat → ClassId} {b : Nat} {sa : Nat → Nat} {Ts G Ns : List Cond} {Rs : am_Rs} {Zs : am_Zs} {E : am_E} {ls : am_L} {st : List Value} {h : am_H} {S : Nat × am_L × List Value} {own : String}
theorem am_rdI_ok {t : Nat} {i : Instr} (ht : (t = 0 ∧ i = .iaload) ∨ (t = 1 ∧ i = .baload)) (hx : p.tables.exec = Jvm.exec) (hb : c.code = cc) (hU : am_U D cl K b sa Ns Rs Zs E s) (hP : va_P D cl (am_W K b sa h) H) (hS : va_S (fun q => b ≤ q) s.heap H locs) (hdg : decode cc pc = .ok (i, 1)) (hs : am_rdI E (pc + 1) t ls h st = some S) (hl : lv_has Ls nL (am_cl b sa ls)) (kk : am_kk (W p l e R s m args below meth c H locs cells slots Q) m b nL sa S) : W p l e R s m args below meth c H locs cells slots Q (F0 m pc Ls (st.map (am_cv b sa))) := by
  unfold am_rdI at hs
  split at hs
  · rename_i ix v r
    split at hs
    · rename_i n f hr
      split at hs
      · cases hs
      · rename_i hin
        cases hs
        unfold am_rowI at hr
        split at hr
        · rename_i a
          split at hr
          · rename_i t' n' f' hc
            split at hr
            · rename_i et
              cases hr
              rcases ht with ⟨rfl, rfl⟩ | ⟨rfl, rfl⟩
              · rcases et with rfl | ⟨h1, -⟩
                · exact va_iald hx hb hU.1 hP a 0 (am_W_at hc) rfl hin hdg (kk Ls hl)
                · cases h1
              · rcases et with rfl | ⟨-, rfl⟩
                · exact va_bald hx hb hU.1 hP a 1 (am_W_at hc) rfl hin hdg (kk Ls hl)
                · exact va_zald hx hb hU.1 hP a 3 (am_W_at hc) rfl hin hdg (kk Ls hl)
            · cases hr
          · cases hr
        · rename_i k
          split at hr
          · rename_i ek
            subst ek
            split at hr
            · rename_i et
              subst et
              rcases ht with ⟨-, rfl⟩ | ⟨h1, -⟩
              · exact va_sld hx hb (hU.2.2.2.2.2.1 _ _ hr) hU.2.2.2.2.2.2.1 (Nat.not_le.mpr hU.2.2.2.2.2.2.2) hS hin hdg (kk Ls hl)
              · cases h1
            · cases hr
          · split at hr
            · cases hr
            · rename_i hk
              split at hr
              · rename_i bs hbs
                split at hr
                · rename_i et
                  subst et
                  cases hr
                  rcases ht with ⟨h1, -⟩ | ⟨-, rfl⟩
                  · cases h1
                  · obtain ⟨-, -, -, hT⟩ := hU.2.2.1.1 (k - 1000) (List.getElem?_eq_some_iff.mp hbs).1
                    have ek : 1000 + (k - 1000) = k := by omega
                    have e1 : (E.2.1.map List.length).getD (k - 1000) 0 = bs.length := by simp [List.getD, hbs]
                    have e2 : E.2.1.getD (k - 1000) [] = bs := by simp [List.getD, hbs]
                    rw [e1, e2] at hT
                    simp only [ek] at hT
                    exact va_tb hx hb hT hS hin rfl hdg (kk Ls hl)
                · cases hr
              · cases hr
        · cases hr
    · cases hs
  · cases hs
theorem am_rdL_ok (hx : p.tables.exec = Jvm.exec) (hb : c.code = cc) (hU : am_U D cl K b sa Ns Rs Zs E s) (hP : va_P D cl (am_W K b sa h) H) (hdg : decode cc pc = .ok (.laload, 1)) (hs : am_rdL (pc + 1) ls h st = some S) (hl : lv_has Ls nL (am_cl b sa ls)) (kk : am_kk (W p l e R s m args below meth c H locs cells slots Q) m b nL sa S) : W p l e R s m args below meth c H locs cells slots Q (F0 m pc Ls (st.map (am_cv b sa))) := by
  unfold am_rdL at hs
  split at hs
  · rename_i ix v r
    split at hs
    · rename_i n f hr
      split at hs
      · cases hs
      · rename_i hin
        cases hs
        unfold am_rowL at hr
        split at hr
        · rename_i a
          split at hr
          · rename_i n' f' hc
            cases hr
            exact va_lald hx hb hU.1 hP a 2 (am_W_at hc) rfl hin hdg (kk Ls hl)
          · cases hr
        · cases hr
    · cases hs
  · cases hs
theorem am_alen_ok (hx : p.tables.exec = Jvm.exec) (hb : c.code = cc) (hU : am_U D cl K b sa Ns Rs Zs E s) (hP : va_P D cl (am_W K b sa h) H) (hS : va_S (fun q => b ≤ q) s.heap H locs) (hdg : decode cc pc = .ok (.arraylength, 1)) (hs : am_alen E (pc + 1) ls h st = some S) (hl : lv_has Ls nL (am_cl b sa ls)) (kk : am_kk (W p l e R s m args below meth c H locs cells slots Q) m b nL sa S) : W p l e R s m args below meth c H locs cells slots Q (F0 m pc Ls (st.map (am_cv b sa))) := by
  unfold am_alen at hs
  split at hs
  · rename_i v r
    split at hs
    · rename_i n hr
      cases hs
      unfold am_len0 at hr
      split at hr
      · rename_i a
        split at hr
        · rename_i t n' f' hc
          split at hr
          · rename_i ht
            cases hr
            rcases ht with rfl | rfl | rfl
            · exact va_alen hx hb hU.1 hP a 0 (am_W_at hc) rfl rfl hdg (kk Ls hl)
            · exact va_alen hx hb hU.1 hP a 1 (am_W_at hc) rfl rfl hdg (kk Ls hl)
            · exact va_alen hx hb hU.1 hP a 3 (am_W_at hc) rfl rfl hdg (kk Ls hl)
          · cases hr
        · rename_i n' f' hc
          cases hr
          exact va_alen hx hb hU.1 hP a 2 (am_W_at hc) rfl rfl hdg (kk Ls hl)
        · cases hr
      · rename_i k
        split at hr
        · rename_i ek
          subst ek
          cases hq : E.2.2.2 with
          | none => rw [hq] at hr; cases hr
          | some q =>
            rw [hq] at hr
            cases hr
            exact va_slen hx hb (hU.2.2.2.2.2.1 _ _ hq) hU.2.2.2.2.2.2.1 (Nat.not_le.mpr hU.2.2.2.2.2.2.2) hS hdg (kk Ls hl)
        · split at hr
          · cases hr
          · split at hr
            · rename_i bs hbs
              cases hr
              obtain ⟨-, -, -, hT⟩ := hU.2.2.1.1 (k - 1000) (List.getElem?_eq_some_iff.mp hbs).1
              have ek : 1000 + (k - 1000) = k := by omega
              have e1 : (E.2.1.map List.length).getD (k - 1000) 0 = bs.length := by simp [List.getD, hbs]
              rw [e1] at hT
              simp only [ek] at hT
              exact va_tlen hx hb hT hS rfl hdg (kk Ls hl)
            · cases hr
      · cases hr
    · cases hs
  · cases hs
theorem am_gf_ok {idx : Nat} {lk : am_K} (hx : p.tables.exec = Jvm.exec) (hb : c.code = cc) (hown : s.vm.findClass own = some m.cls) (hts : ∀ w ∈ G, w.before args s = true) (hTG : ∀ w ∈ Ts, goodWord w = true → w ∈ G) (hCL : am_CL G cl E.1) (hU : am_U D cl K b sa Ns Rs Zs E s) (hP : va_P D cl (am_W K b sa h) H) (hS : va_S (fun q => b ≤ q) s.heap H locs) (hdg : decode cc pc = .ok (.getfield idx, 3)) (hok : lk.all (fun q => if q.1 = 1000 then am_okX Ts own idx q.2 else am_okF Ts Ns cl own idx q.1 q.2) = true) (hcl : cl.length ≤ 1000) (hs : am_gf E (pc + 3) lk ls h st = some S) (hl : lv_has Ls nL (am_cl b sa ls)) (kk : am_kk (W p l e R s m args below meth c H locs cells slots Q) m b nL sa S) : W p l e R s m args below meth c H locs cells slots Q (F0 m pc Ls (st.map (am_cv b sa))) := by
  unfold am_gf at hs
  split at hs
  · rename_i v r
    split at hs
    · rename_i w hw
      cases hs
      unfold am_fld at hw
      split at hw
      · rename_i a
        split at hw
        · rename_i ci fs hc
          split at hw
          · rename_i k dat hk
            have hq := List.all_eq_true.mp hok _ (am_key_mem hk)
            by_cases hc1 : ci = 1000
            · obtain ⟨r1, hr1, -⟩ := hP a _ (am_W_at hc)
              have := (List.getElem?_eq_some_iff.mp hr1).1
              simp only at this
              omega
            · simp only [hc1, if_false] at hq
              unfold am_okF at hq
              split at hq
              · rename_i k' tag kind p1 p2 rest C F N hd hC
                cases hd
                simp only [Bool.and_eq_true, decide_eq_true_eq] at hq
                obtain ⟨hkN, hq⟩ := hq
                have hfs : (fs.map (am_cv b sa))[k]? = some (am_cv b sa w) := by rw [List.getElem?_map, hw]; rfl
                split at hq
                · rw [decide_eq_true_eq] at hq
                  exact va_get hx hb hts (hCL ci C F N hC).1 hown hU.1 hP a (am_W_at hc) hC k hkN (hts _ (hTG _ (List.mem_of_getElem? hq) rfl)) (fun x hx => hx) hfs hdg (kk Ls hl)
                · split at hq
                  · simp only [Bool.and_eq_true, decide_eq_true_eq] at hq
                    obtain ⟨h1, h2⟩ := hq
                    exact va_get hx hb hts (hCL ci C F N hC).1 hown hU.1 hP a (am_W_at hc) hC k hkN (hts _ (hTG _ (List.mem_of_getElem? h1) rfl)) (fun x hx => u_same (hts _ (hTG _ (List.mem_of_getElem? h2) rfl)) x hx) hfs hdg (kk Ls hl)
                  · cases hq
                · split at hq
                  · rw [decide_eq_true_eq] at hq
                    exact va_getN hx hb hts (hCL ci C F N hC).1 hown hU.1 hP a (am_W_at hc) hC k hkN (va_Nw.use rfl (hU.2.1 _ (List.mem_of_getElem? hq))) (fun x hx => hx) hfs hdg (kk Ls hl)
                  · cases hq
                · cases hq
              · cases hq
          · cases hw
        · cases hw
      · rename_i k
        split at hw
        · rename_i hk
          obtain ⟨-, hco, hva, -⟩ := hU.2.2.1.1 k hk.1
          split at hw
          · rename_i dat hd
            cases hw
            have hq := List.all_eq_true.mp hok _ (am_key_mem hd)
            simp only [if_true] at hq
            unfold am_okX at hq
            split at hq
            · rename_i p1 rest e1
              cases e1
              rw [decide_eq_true_eq] at hq
              exact vk_getf hx hb hco hS hown (hts _ (hTG _ (List.mem_of_getElem? hq) rfl)) (fun x hx => hx) hdg (kk Ls hl)
            · rename_i e1
              cases e1
            · cases hq
          · rename_i dat hd
            cases hw
            have hq := List.all_eq_true.mp hok _ (am_key_mem hd)
            simp only [if_true] at hq
            unfold am_okX at hq
            split at hq
            · rename_i e1
              cases e1
            · rename_i p1 rest e1
              cases e1
              rw [decide_eq_true_eq] at hq
              exact vk_getf hx hb hva hS hown (hts _ (hTG _ (List.mem_of_getElem? hq) rfl)) (fun x hx => hx) hdg (kk Ls hl)
            · cases hq
          · cases hw
        · cases hw
      · cases hw
    · cases hs
  · cases hs
end AMR
end
section
section AMS
variable {p : Program} {l : Launch} {e : Env} {R : Room} {s : State} {m : MethodId} {args : Array Value} {below : List Frame} {meth : Method} {c : Code} {H : Heap} {locs : List Loc} {cells slots : Nat} {Q : State → Prop}
variable {cc : ByteArray} {pc nL : Nat} {Ls : Array Slot} {D : va_G} {cl : List vw_C} {K : Nat → ClassId} {b : Nat} {sa : Nat → Nat} {Ts G Ns : List Cond} {Rs : am_Rs} {Zs : am_Zs} {E : am_E} {T : List am_M} {ls : am_L} {st : List Value} {h : am_H} {S : Nat × am_L × List Value} {own nm : String} {num : Int} {lk : am_K}
theorem am_isI_eq {v : Value} (hv : am_isI v = true) : ∃ x, v = .int x := by cases v <;> first | exact ⟨_, rfl⟩ | cases hv
theorem am_isL_eq {v : Value} (hv : am_isL v = true) : ∃ x, v = .long x := by cases v <;> first | exact ⟨_, rfl⟩ | cases hv
theorem am_isA_eq {b : Nat} {sa : Nat → Nat} {v : Value} (hv : am_isA v = true) : (∃ a, am_cv b sa v = .ref a) ∨ am_cv b sa v = .null := by cases v <;> first | exact Or.inl ⟨_, rfl⟩ | exact Or.inr rfl | cases hv
theorem am_if_ok {cd : ClassFile.Cond} {off : Int} (hx : p.tables.exec = Jvm.exec) (hb : c.code = cc) (hdg : decode cc pc = .ok (.ifCond cd off, 3)) (hs : am_if pc ls cd off st = some S) (hl : lv_has Ls nL (am_cl b sa ls)) (kk : am_kk (W p l e R s m args below meth c H locs cells slots Q) m b nL sa S) : W p l e R s m args below meth c H locs cells slots Q (F0 m pc Ls (st.map (am_cv b sa))) := by
  unfold am_if at hs
  split at hs
  · rename_i x r
    refine am_br_ok (Wg := W p l e R s m args below meth c H locs cells slots Q) (fun tgt ht hc k => ?_) (fun tgt ht hc k => ?_) hs hl kk
    · cases cd <;> simp only [am_cmp, decide_eq_true_eq] at hc
      · exact lv_if_eq hx hb hdg ht (fun _ => k) (fun hn => absurd hc hn)
      · exact lv_if_ne hx hb hdg ht (fun _ => k) (fun hn => absurd hn hc)
      · exact lv_if_lt hx hb hdg ht (fun _ => k) (fun hn => absurd hc hn)
      · exact lv_if_ge hx hb hdg ht (fun _ => k) (fun hn => absurd hc hn)
      · exact lv_if_gt hx hb hdg ht (fun _ => k) (fun hn => absurd hc hn)
      · exact lv_if_le hx hb hdg ht (fun _ => k) (fun hn => absurd hc hn)
    · cases cd <;> simp only [am_cmp, decide_eq_true_eq] at hc
      · exact lv_if_eq hx hb hdg ht (fun hn => absurd hn hc) (fun _ => k)
      · exact lv_if_ne hx hb hdg ht (fun hn => absurd hn hc) (fun _ => k)
      · exact lv_if_lt hx hb hdg ht (fun hn => absurd hn hc) (fun _ => k)
      · exact lv_if_ge hx hb hdg ht (fun hn => absurd hn hc) (fun _ => k)
      · exact lv_if_gt hx hb hdg ht (fun hn => absurd hn hc) (fun _ => k)
      · exact lv_if_le hx hb hdg ht (fun hn => absurd hn hc) (fun _ => k)
  · cases hs
theorem am_if2_ok {cd : ClassFile.Cond} {off : Int} (hx : p.tables.exec = Jvm.exec) (hb : c.code = cc) (hdg : decode cc pc = .ok (.if_icmp cd off, 3)) (hs : am_if2 pc ls cd off st = some S) (hl : lv_has Ls nL (am_cl b sa ls)) (kk : am_kk (W p l e R s m args below meth c H locs cells slots Q) m b nL sa S) : W p l e R s m args below meth c H locs cells slots Q (F0 m pc Ls (st.map (am_cv b sa))) := by
  unfold am_if2 at hs
  split at hs
  · rename_i y x r
    refine am_br_ok (Wg := W p l e R s m args below meth c H locs cells slots Q) (fun tgt ht hc k => ?_) (fun tgt ht hc k => ?_) hs hl kk
    · cases cd <;> simp only [am_cmp, decide_eq_true_eq] at hc
      · exact lv_icmp_eq hx hb hdg ht (fun _ => k) (fun hn => absurd hc hn)
      · exact lv_icmp_ne hx hb hdg ht (fun _ => k) (fun hn => absurd hn hc)
      · exact lv_icmp_lt hx hb hdg ht (fun _ => k) (fun hn => absurd hc hn)
      · exact lv_icmp_ge hx hb hdg ht (fun _ => k) (fun hn => absurd hc hn)
      · exact lv_icmp_gt hx hb hdg ht (fun _ => k) (fun hn => absurd hc hn)
      · exact lv_icmp_le hx hb hdg ht (fun _ => k) (fun hn => absurd hc hn)
    · cases cd <;> simp only [am_cmp, decide_eq_true_eq] at hc
      · exact lv_icmp_eq hx hb hdg ht (fun hn => absurd hn hc) (fun _ => k)
      · exact lv_icmp_ne hx hb hdg ht (fun hn => absurd hn hc) (fun _ => k)
      · exact lv_icmp_lt hx hb hdg ht (fun hn => absurd hn hc) (fun _ => k)
      · exact lv_icmp_ge hx hb hdg ht (fun hn => absurd hn hc) (fun _ => k)
      · exact lv_icmp_gt hx hb hdg ht (fun hn => absurd hn hc) (fun _ => k)
      · exact lv_icmp_le hx hb hdg ht (fun hn => absurd hn hc) (fun _ => k)
  · cases hs
theorem am_sw_ok {dflt lo hi : Int} {offs : Array Int} {len : Nat} (hx : p.tables.exec = Jvm.exec) (hb : c.code = cc) (hdg : decode cc pc = .ok (.tableswitch dflt lo hi offs, len)) (hs : am_sw pc ls dflt lo hi offs st = some S) (hl : lv_has Ls nL (am_cl b sa ls)) (kk : am_kk (W p l e R s m args below meth c H locs cells slots Q) m b nL sa S) : W p l e R s m args below meth c H locs cells slots Q (F0 m pc Ls (st.map (am_cv b sa))) := by
  unfold am_sw at hs
  split at hs
  · rename_i x r
    split at hs
    · rename_i h0
      exact am_jp_ok (Wg := W p l e R s m args below meth c H locs cells slots Q) (fun tgt ht k => lv_tableOut hx hb hdg h0 ht k) hs hl kk
    · rename_i h0
      split at hs
      · rename_i off ho
        exact am_jp_ok (Wg := W p l e R s m args below meth c H locs cells slots Q) (fun tgt ht k => lv_tableIn hx hb hdg (fun q => h0 (Or.inl q)) (fun q => h0 (Or.inr q)) ho ht k) hs hl kk
      · cases hs
  · cases hs
theorem am_lsw_ok {dflt : Int} {ps : Array (Int × Int)} {len : Nat} (hx : p.tables.exec = Jvm.exec) (hb : c.code = cc) (hdg : decode cc pc = .ok (.lookupswitch dflt ps, len)) (hs : am_lsw pc ls dflt ps st = some S) (hl : lv_has Ls nL (am_cl b sa ls)) (kk : am_kk (W p l e R s m args below meth c H locs cells slots Q) m b nL sa S) : W p l e R s m args below meth c H locs cells slots Q (F0 m pc Ls (st.map (am_cv b sa))) := by
  unfold am_lsw at hs
  split at hs
  · rename_i x r
    split at hs
    · rename_i h0
      exact am_jp_ok (Wg := W p l e R s m args below meth c H locs cells slots Q) (fun tgt ht k => lv_lookup hx hb hdg h0 rfl ht k) hs hl kk
    · cases hs
  · cases hs
theorem am_ldc_ok {idx : Nat} (hx : p.tables.exec = Jvm.exec) (hb : c.code = cc) (hown : s.vm.findClass own = some m.cls) (hts : ∀ w ∈ G, w.before args s = true) (hTG : ∀ w ∈ Ts, goodWord w = true → w ∈ G) (hU : am_U D cl K b sa Ns Rs Zs E s) (hdg : decode cc pc = .ok (.ldc idx, 2)) (hok : am_okI Ts Ns Rs Zs cl T own nm nL (.ldc idx) num lk = true) (hs : am_ldc E pc num lk ls st = some S) (hl : lv_has Ls nL (am_cl b sa ls)) (kk : am_kk (W p l e R s m args below meth c H locs cells slots Q) m b nL sa S) : W p l e R s m args below meth c H locs cells slots Q (F0 m pc Ls (st.map (am_cv b sa))) := by
  unfold am_ldc at hs
  split at hs
  · cases hs
    simp only [am_okI] at hok
    split at hok
    · rw [decide_eq_true_eq] at hok
      exact lv_ldc hx hb hown (hts _ (hTG _ (List.mem_of_getElem? hok) rfl)) hdg (kk Ls hl)
    · rename_i e1
      cases e1
    · cases hok
  · split at hs
    · cases hs
      simp only [am_okI] at hok
      split at hok
      · rename_i e1
        cases e1
      · split at hok
        · rename_i o ix tx k hq
          simp only [Bool.and_eq_true, decide_eq_true_eq] at hok
          obtain ⟨⟨rfl, rfl⟩, rfl⟩ := hok
          exact va_ldcS hx hb hown (hU.2.2.2.1 _ (List.mem_of_getElem? hq)) hdg (kk Ls hl)
        · cases hok
      · cases hok
    · cases hs
  · cases hs
set_option maxHeartbeats 4000000 in
/-- A STEP that leaves the cells alone -/
theorem am_step_ok {i : Instr} (hx : p.tables.exec = Jvm.exec) (hb : c.code = cc) (hown : s.vm.findClass own = some m.cls) (hts : ∀ w ∈ G, w.before args s = true) (hTG : ∀ w ∈ Ts, goodWord w = true → w ∈ G) (hCL : am_CL G cl E.1) (hcl : cl.length ≤ 1000) (hU : am_U D cl K b sa Ns Rs Zs E s) (hP : va_P D cl (am_W K b sa h) H) (hS : va_S (fun q => b ≤ q) s.heap H locs) (hdg : decode cc pc = .ok (i, am_len i num)) (hok : am_okI Ts Ns Rs Zs cl T own nm nL i num lk = true) (hs : am_step E pc i num lk ls st h = some S) (hl : lv_has Ls nL (am_cl b sa ls)) (kk : am_kk (W p l e R s m args below meth c H locs cells slots Q) m b nL sa S) : W p l e R s m args below meth c H locs cells slots Q (F0 m pc Ls (st.map (am_cv b sa))) := by
  unfold am_step at hs
  split at hs
  · exact am_cst (Wg := W p l e R s m args below meth c H locs cells slots Q) (fun k => lv_iconst hx hb hdg rfl k) hs hl kk
  · exact am_cst (Wg := W p l e R s m args below meth c H locs cells slots Q) (fun k => lv_bipush hx hb hdg rfl k) hs hl kk
  · exact am_cst (Wg := W p l e R s m args below meth c H locs cells slots Q) (fun k => lv_sipush hx hb hdg rfl k) hs hl kk
  · exact am_cst (Wg := W p l e R s m args below meth c H locs cells slots Q) (fun k => lv_lconst hx hb hdg rfl k) hs hl kk
  · exact am_cst (Wg := W p l e R s m args below meth c H locs cells slots Q) (fun k => lv_null hx hb hdg k) hs hl kk
  · exact am_ldc_ok hx hb hown hts hTG hU hdg hok hs hl kk
  · simp only [am_okI] at hok
    split at hok
    · rw [decide_eq_true_eq] at hok
      exact am_cst (Wg := W p l e R s m args below meth c H locs cells slots Q) (fun k => lv_ldcw hx hb hown (hts _ (hTG _ (List.mem_of_getElem? hok) rfl)) hdg k) hs hl kk
    · cases hok
  · simp only [am_okI] at hok
    split at hok
    · rw [decide_eq_true_eq] at hok
      exact am_cst (Wg := W p l e R s m args below meth c H locs cells slots Q) (fun k => lv_ldc2 hx hb hown (hts _ (hTG _ (List.mem_of_getElem? hok) rfl)) hdg k) hs hl kk
    · cases hok
  · refine am_ld_ok (Wg := W p l e R s m args below meth c H locs cells slots Q) (fun v hv ha k => ?_) hs hl kk
    obtain ⟨x, rfl⟩ := am_isI_eq hv
    exact lv_iload_n hx hb hdg rfl ha k
  · refine am_ld_ok (Wg := W p l e R s m args below meth c H locs cells slots Q) (fun v hv ha k => ?_) hs hl kk
    obtain ⟨x, rfl⟩ := am_isI_eq hv
    exact lv_iload hx hb hdg ha k
  · refine am_ld_ok (Wg := W p l e R s m args below meth c H locs cells slots Q) (fun v hv ha k => ?_) hs hl kk
    obtain ⟨x, rfl⟩ := am_isL_eq hv
    exact lv_lload_n hx hb hdg rfl ha k
  · refine am_ld_ok (Wg := W p l e R s m args below meth c H locs cells slots Q) (fun v hv ha k => ?_) hs hl kk
    obtain ⟨x, rfl⟩ := am_isL_eq hv
    exact lv_lload hx hb hdg ha k
  · refine am_ld_ok (Wg := W p l e R s m args below meth c H locs cells slots Q) (fun v hv ha k => ?_) hs hl kk
    rcases am_isA_eq (b := b) (sa := sa) hv with ⟨a, e1⟩ | e1
    · rw [e1] at ha k
      exact lv_aload_n hx hb hdg rfl ha k
    · rw [e1] at ha k
      exact lv_aload_nN hx hb hdg rfl ha k
  · refine am_ld_ok (Wg := W p l e R s m args below meth c H locs cells slots Q) (fun v hv ha k => ?_) hs hl kk
    rcases am_isA_eq (b := b) (sa := sa) hv with ⟨a, e1⟩ | e1
    · rw [e1] at ha k
      exact lv_aload hx hb hdg ha k
    · rw [e1] at ha k
      exact lv_aloadN hx hb hdg ha k
  · have hi := of_decide_eq_true (show decide _ = true from hok)
    refine am_st1_ok (Wg := W p l e R s m args below meth c H locs cells slots Q) (fun v r hv k => ?_) hs kk
    obtain ⟨x, rfl⟩ := am_isI_eq hv
    exact lv_istore_n hx hb hdg rfl hl hi (am_put1_cl b sa ls _ (.int x)) k
  · have hi := of_decide_eq_true (show decide _ = true from hok)
    refine am_st1_ok (Wg := W p l e R s m args below meth c H locs cells slots Q) (fun v r hv k => ?_) hs kk
    obtain ⟨x, rfl⟩ := am_isI_eq hv
    exact lv_istore hx hb hdg hl hi (am_put1_cl b sa ls _ (.int x)) k
  · have hi := of_decide_eq_true (show decide _ = true from hok)
    refine am_st2_ok (Wg := W p l e R s m args below meth c H locs cells slots Q) (fun v r hv k => ?_) hs kk
    obtain ⟨x, rfl⟩ := am_isL_eq hv
    exact lv_lstore_n hx hb hdg rfl hl hi (am_put2_cl b sa ls _ (.long x)) k
  · have hi := of_decide_eq_true (show decide _ = true from hok)
    refine am_st2_ok (Wg := W p l e R s m args below meth c H locs cells slots Q) (fun v r hv k => ?_) hs kk
    obtain ⟨x, rfl⟩ := am_isL_eq hv
    exact lv_lstore hx hb hdg hl hi (am_put2_cl b sa ls _ (.long x)) k
  · rename_i kz
    have hi := of_decide_eq_true (show decide _ = true from hok)
    refine am_st1_ok (Wg := W p l e R s m args below meth c H locs cells slots Q) (fun v r hv k => ?_) hs kk
    have ep := am_put1_cl b sa ls kz v
    rcases am_isA_eq (b := b) (sa := sa) hv with ⟨a, e1⟩ | e1
    · rw [e1] at ep ⊢
      exact lv_astore_n hx hb hdg rfl hl hi ep k
    · rw [e1] at ep ⊢
      exact lv_astore_nN hx hb hdg rfl hl hi ep k
  · rename_i kz
    have hi := of_decide_eq_true (show decide _ = true from hok)
    refine am_st1_ok (Wg := W p l e R s m args below meth c H locs cells slots Q) (fun v r hv k => ?_) hs kk
    have ep := am_put1_cl b sa ls kz v
    rcases am_isA_eq (b := b) (sa := sa) hv with ⟨a, e1⟩ | e1
    · rw [e1] at ep ⊢
      exact lv_astore hx hb hdg hl hi ep k
    · rw [e1] at ep ⊢
      exact lv_astoreN hx hb hdg hl hi ep k
  · have hi := of_decide_eq_true (show decide _ = true from hok)
    refine am_inc_ok (Wg := W p l e R s m args below meth c H locs cells slots Q) (fun x k hk kx => ?_) hs kk
    exact lv_iinc hx hb hdg hl hk rfl hi (am_put1_cl b sa ls _ (.int _)) kx
  · exact am_i2_ok (Wg := W p l e R s m args below meth c H locs cells slots Q) (fun x y r k => lv_iadd hx hb hdg k) hs hl kk
  · exact am_i2_ok (Wg := W p l e R s m args below meth c H locs cells slots Q) (fun x y r k => lv_isub hx hb hdg k) hs hl kk
  · exact am_i2_ok (Wg := W p l e R s m args below meth c H locs cells slots Q) (fun x y r k => lv_imul hx hb hdg k) hs hl kk
  · exact am_i2_ok (Wg := W p l e R s m args below meth c H locs cells slots Q) (fun x y r k => lv_iand hx hb hdg k) hs hl kk
  · exact am_i2_ok (Wg := W p l e R s m args below meth c H locs cells slots Q) (fun x y r k => lv_ior hx hb hdg k) hs hl kk
  · exact am_i2_ok (Wg := W p l e R s m args below meth c H locs cells slots Q) (fun x y r k => lv_ixor hx hb hdg k) hs hl kk
  · exact am_i2_ok (Wg := W p l e R s m args below meth c H locs cells slots Q) (fun x y r k => lv_ishl hx hb hdg k) hs hl kk
  · exact am_i2_ok (Wg := W p l e R s m args below meth c H locs cells slots Q) (fun x y r k => lv_ishr hx hb hdg k) hs hl kk
  · exact am_i2_ok (Wg := W p l e R s m args below meth c H locs cells slots Q) (fun x y r k => lv_iushr hx hb hdg rfl k) hs hl kk
  · exact am_d2_ok (Wg := W p l e R s m args below meth c H locs cells slots Q) (fun x y r h0 k => lv_idiv hx hb hdg h0 k) hs hl kk
  · exact am_d2_ok (Wg := W p l e R s m args below meth c H locs cells slots Q) (fun x y r h0 k => lv_irem hx hb hdg h0 k) hs hl kk
  · exact am_i1_ok (Wg := W p l e R s m args below meth c H locs cells slots Q) (fun x r k => lv_ineg hx hb hdg k) hs hl kk
  · exact am_i1_ok (Wg := W p l e R s m args below meth c H locs cells slots Q) (fun x r k => lv_i2b hx hb hdg rfl k) hs hl kk
  · exact am_i1_ok (Wg := W p l e R s m args below meth c H locs cells slots Q) (fun x r k => lv_i2c hx hb hdg rfl k) hs hl kk
  · exact am_il_ok (Wg := W p l e R s m args below meth c H locs cells slots Q) (fun x r k => lv_i2l hx hb hdg rfl k) hs hl kk
  · exact am_li_ok (Wg := W p l e R s m args below meth c H locs cells slots Q) (fun x r k => lv_l2i hx hb hdg rfl k) hs hl kk
  · exact am_l2_ok (Wg := W p l e R s m args below meth c H locs cells slots Q) (fun x y r k => lv_ladd hx hb hdg k) hs hl kk
  · exact am_l2_ok (Wg := W p l e R s m args below meth c H locs cells slots Q) (fun x y r k => lv_lsub hx hb hdg k) hs hl kk
  · exact am_l2_ok (Wg := W p l e R s m args below meth c H locs cells slots Q) (fun x y r k => lv_lmul hx hb hdg k) hs hl kk
  · exact am_l2_ok (Wg := W p l e R s m args below meth c H locs cells slots Q) (fun x y r k => lv_land hx hb hdg k) hs hl kk
  · exact am_l2_ok (Wg := W p l e R s m args below meth c H locs cells slots Q) (fun x y r k => lv_lor hx hb hdg k) hs hl kk
  · exact am_dl2_ok (Wg := W p l e R s m args below meth c H locs cells slots Q) (fun x y r h0 k => lv_ldiv hx hb hdg h0 k) hs hl kk
  · exact am_dl2_ok (Wg := W p l e R s m args below meth c H locs cells slots Q) (fun x y r h0 k => lv_lrem hx hb hdg h0 k) hs hl kk
  · exact am_l1_ok (Wg := W p l e R s m args below meth c H locs cells slots Q) (fun x r k => lv_lneg hx hb hdg k) hs hl kk
  · exact am_s2_ok (Wg := W p l e R s m args below meth c H locs cells slots Q) (fun x y r k => lv_lshl hx hb hdg rfl k) hs hl kk
  · exact am_s2_ok (Wg := W p l e R s m args below meth c H locs cells slots Q) (fun x y r k => lv_lshr hx hb hdg rfl k) hs hl kk
  · exact am_s2_ok (Wg := W p l e R s m args below meth c H locs cells slots Q) (fun x y r k => lv_lushr hx hb hdg rfl k) hs hl kk
  · exact am_c2_ok (Wg := W p l e R s m args below meth c H locs cells slots Q) (fun x y r k => W.lcmp hx hb hdg k) hs hl kk
  · exact am_dup_ok (Wg := W p l e R s m args below meth c H locs cells slots Q) (fun v r h1 k => lv_dup hx hb hdg h1 k) hs hl kk
  · exact am_pop_ok (Wg := W p l e R s m args below meth c H locs cells slots Q) (fun v r h1 k => lv_pop hx hb hdg h1 k) hs hl kk
  · exact am_pop2_ok (Wg := W p l e R s m args below meth c H locs cells slots Q) (fun v r h1 k => lv_pop2_2 hx hb hdg h1 k) hs hl kk
  · exact am_dupx1_ok (Wg := W p l e R s m args below meth c H locs cells slots Q) (fun v w r h1 h2 k => lv_dup_x1 hx hb hdg h1 h2 k) hs hl kk
  · exact am_dupx2_ok (Wg := W p l e R s m args below meth c H locs cells slots Q) (fun v w z r h1 h2 h3 k => lv_dup_x2 hx hb hdg h1 h2 h3 k) hs hl kk
  · exact am_dup2_ok (Wg := W p l e R s m args below meth c H locs cells slots Q) (fun v w r h1 h2 k => lv_dup2_11 hx hb hdg h1 h2 k) hs hl kk
  · exact am_if_ok hx hb hdg hs hl kk
  · exact am_if2_ok hx hb hdg hs hl kk
  · exact am_jp_ok (Wg := W p l e R s m args below meth c H locs cells slots Q) (fun tgt ht k => lv_goto hx hb hdg ht k) hs hl kk
  · exact am_sw_ok hx hb hdg hs hl kk
  · exact am_lsw_ok hx hb hdg hs hl kk
  · exact am_rdI_ok (Or.inl ⟨rfl, rfl⟩) hx hb hU hP hS hdg hs hl kk
  · exact am_rdI_ok (Or.inr ⟨rfl, rfl⟩) hx hb hU hP hS hdg hs hl kk
  · exact am_rdL_ok hx hb hU hP hdg hs hl kk
  · exact am_alen_ok hx hb hU hP hS hdg hs hl kk
  · exact am_gf_ok hx hb hown hts hTG hCL hU hP hS hdg hok hcl hs hl kk
  · unfold am_gs at hs
    split at hs
    · rename_i v hv
      simp only [am_okI] at hok
      split at hok
      · split at hok
        · rename_i C n d hz
          rw [decide_eq_true_eq] at hok
          exact am_cst (Wg := W p l e R s m args below meth c H locs cells slots Q) (fun k => va_gets hx hb (hU.2.2.2.2.1 _ _ _ _ _ hz hv) hS hown (hts _ (hTG _ (List.mem_of_getElem? hok) rfl)) (fun x hx => hx) hdg k) hs hl kk
        · cases hok
      · cases hok
    · cases hs
  · cases hs
end AMS
end
section
/-! STEPS THAT WRITE OR MAKE CELLS. -/
def am_sz1 (x : am_C) : Nat := match x with
  | .inl (_, n, _) => n
  | .inr (.inl (n, _)) => n
  | .inr (.inr (_, fs)) => fs.length
def am_sz (h : am_H) : Nat := (h.map am_sz1).sum
theorem am_sz_set {h : am_H} {a : Nat} {x y : am_C} (hx : h[a]? = some x) (he : am_sz1 y = am_sz1 x) : am_sz (h.set a y) = am_sz h := by
  unfold am_sz
  induction h generalizing a with
  | nil => cases hx
  | cons z r ih =>
    cases a with
    | zero =>
      rw [List.getElem?_cons_zero] at hx
      cases hx
      simp [he]
    | succ a =>
      rw [List.getElem?_cons_succ] at hx
      have := ih hx
      simp only [List.set_cons_succ, List.map_cons, List.sum_cons]
      omega
theorem am_sz_push (h : am_H) (x : am_C) : am_sz (h ++ [x]) = am_sz h + am_sz1 x := by simp [am_sz]
theorem am_W_set {K : Nat → ClassId} {b : Nat} {sa : Nat → Nat} (h : am_H) (a : Nat) (x : am_C) : (am_W K b sa h).set a (b + a, am_ce K b sa x) = am_W K b sa (h.set a x) := by
  unfold am_W
  rw [List.mapIdx_set]
theorem am_W_push {K : Nat → ClassId} {b : Nat} {sa : Nat → Nat} (h : am_H) (x : am_C) : am_W K b sa (h ++ [x]) = am_W K b sa h ++ [(b + h.length, am_ce K b sa x)] := by
  unfold am_W
  rw [List.mapIdx_concat]
theorem am_W_len {K : Nat → ClassId} {b : Nat} {sa : Nat → Nat} (h : am_H) : (am_W K b sa h).length = h.length := by
  unfold am_W
  rw [List.length_mapIdx]
theorem am_W_of {K : Nat → ClassId} {b : Nat} {sa : Nat → Nat} {h : am_H} {a : Nat} {q : Nat × va_E} (hq : (am_W K b sa h)[a]? = some q) : q.1 = b + a := by
  unfold am_W at hq
  rw [List.getElem?_mapIdx] at hq
  cases hx : h[a]? with
  | none => rw [hx] at hq; cases hq
  | some x => rw [hx] at hq; cases hq; rfl
theorem am_D (K : Nat → ClassId) (b : Nat) (sa : Nat → Nat) (h : am_H) : va_D (fun q => b ≤ q) (am_W K b sa h) := by
  refine ⟨fun i j p q hi hj e => ?_, fun k q hk => ?_⟩
  · have h1 := am_W_of hi
    have h2 := am_W_of hj
    omega
  · show b ≤ q.1
    rw [am_W_of hk]
    omega
theorem am_hs_mono {E : am_E} {i : Instr} {lk : am_K} {st : List Value} {h : am_H} {S : List Value × am_H} (hs : am_hs E i lk st h = some S) : h.length ≤ S.2.length ∧ am_sz h ≤ am_sz S.2 := by
  unfold am_hs at hs
  split at hs
  · unfold am_pf at hs
    split at hs
    · split at hs
      · rename_i ci fs hc
        split at hs
        · split at hs
          · cases hs
            exact ⟨by rw [List.length_set]; exact Nat.le_refl _, Nat.le_of_eq (am_sz_set hc (by simp [am_sz1])).symm⟩
          · cases hs
        · cases hs
      · cases hs
    · cases hs
  · unfold am_wrI at hs
    split at hs
    · split at hs
      · rename_i t' n f hc
        split at hs
        · split at hs
          · cases hs
          · cases hs
            exact ⟨by rw [List.length_set]; exact Nat.le_refl _, Nat.le_of_eq (am_sz_set hc (by rfl)).symm⟩
        · cases hs
      · cases hs
    · cases hs
  · unfold am_wrI at hs
    split at hs
    · split at hs
      · rename_i t' n f hc
        split at hs
        · split at hs
          · cases hs
          · cases hs
            exact ⟨by rw [List.length_set]; exact Nat.le_refl _, Nat.le_of_eq (am_sz_set hc (by rfl)).symm⟩
        · cases hs
      · cases hs
    · cases hs
  · unfold am_wrL at hs
    split at hs
    · split at hs
      · rename_i n f hc
        split at hs
        · cases hs
        · cases hs
          exact ⟨by rw [List.length_set]; exact Nat.le_refl _, Nat.le_of_eq (am_sz_set hc (by rfl)).symm⟩
      · cases hs
    · cases hs
  · unfold am_new at hs
    split at hs
    · split at hs
      · cases hs
        rw [am_sz_push, List.length_append]
        exact ⟨by omega, by omega⟩
      · cases hs
    · cases hs
  · unfold am_na at hs
    split at hs
    · split at hs
      · cases hs
      · split at hs
        · cases hs
          rw [am_sz_push, List.length_append]
          exact ⟨by omega, by omega⟩
        · cases hs
    · cases hs
  · cases hs
theorem am_ex_mono {E : am_E} {T : List am_M} : ∀ (n d j pc : Nat) (ls : am_L) (st : List Value) (h : am_H) (v : Option Value) (h' : am_H), am_ex E T n d j pc ls st h = some (v, h') → h.length ≤ h'.length ∧ am_sz h ≤ am_sz h' := by
  intro n
  induction n with
  | zero => intro d j pc ls st h v h' hs; cases hs
  | succ n ih =>
    intro d j pc ls st h v h' hs
    unfold am_ex at hs
    split at hs
    · cases hs
    · split at hs
      · cases hs
      · split at hs
        · split at hs
          · cases hs
          · exact ih _ _ _ _ _ _ _ _ hs
        · split at hs
          · cases hs
          · cases hs
            exact ⟨Nat.le_refl _, Nat.le_refl _⟩
        · split at hs
          · cases hs
          · rename_i S hS
            have h1 := am_hs_mono hS
            have h2 := ih _ _ _ _ _ _ _ _ hs
            omega
        · split at hs
          · cases hs
          · split at hs
            · split at hs
              · split at hs
                · exact ih _ _ _ _ _ _ _ _ hs
                · cases hs
              · cases hs
            · split at hs
              · split at hs
                · cases hs
                · split at hs
                  · exact ih _ _ _ _ _ _ _ _ hs
                  · cases hs
              · split at hs
                · cases hs
                · split at hs
                  · cases hs
                  · split at hs
                    · split at hs
                      · cases hs
                      · rename_i Z hZ
                        have h1 := ih _ _ _ _ _ _ _ _ hZ
                        have h2 := ih _ _ _ _ _ _ _ _ hs
                        omega
                    · cases hs
section AMH
variable {p : Program} {l : Launch} {e : Env} {R : Room} {s : State} {m : MethodId} {args : Array Value} {below : List Frame} {meth : Method} {c : Code} {H : Heap} {locs : List Loc} {cells slots : Nat} {Q : State → Prop}
variable {cc : ByteArray} {pc nL n0 : Nat} {Ls : Array Slot} {D : va_G} {cl : List vw_C} {K : Nat → ClassId} {b : Nat} {sa : Nat → Nat} {Ts G Ns : List Cond} {Rs : am_Rs} {Zs : am_Zs} {E : am_E} {T : List am_M} {ls : am_L} {st : List Value} {h : am_H} {S : List Value × am_H} {own nm : String} {num : Int} {lk : am_K}
/-- the heap has the cells of before, and these: its size -/
theorem am_szW {g : JFrame} (hz : s.heap.size = b + n0) (hn : cells + n0 = h.length) (hP : va_P D cl (am_W K b sa h) H) (hS : va_S (fun q => b ≤ q) s.heap H locs) (kk : H.size = b + h.length → W p l e R s m args below meth c H locs cells slots Q g) : W p l e R s m args below meth c H locs cells slots Q g := by
  intro T hT X
  have h1 := X.heapSize
  rw [hT] at h1
  have h2 := hS.1
  refine kk ?_ T hT X
  cases hl : h.length with
  | zero => omega
  | succ k =>
    have hk : k < h.length := by omega
    have h3 := (hP k _ (am_W_at (List.getElem?_eq_getElem hk))).lt
    simp only at h3
    omega
/-- where the walk goes on behind a write -/
abbrev am_kh (p : Program) (l : Launch) (e : Env) (R : Room) (s : State) (m : MethodId) (args : Array Value) (below : List Frame) (meth : Method) (c : Code) (cells slots : Nat) (Q : State → Prop) (D : va_G) (cl : List vw_C) (K : Nat → ClassId) (b : Nat) (sa : Nat → Nat) (h : am_H) (np : Nat) (Ls : Array Slot) (S : List Value × am_H) : Prop :=
  ∀ (H1 : Heap) (locs1 : List Loc), va_P D cl (am_W K b sa S.2) H1 → va_S (fun q => b ≤ q) s.heap H1 locs1 → W p l e R s m args below meth c H1 locs1 (cells + (S.2.length - h.length)) (slots + (am_sz S.2 - am_sz h)) Q (F0 m np Ls (S.1.map (am_cv b sa)))
theorem am_fit_ok {tag : Nat} {v : Value} {d : String} (h1 : am_fit tag v = true) (h2 : am_okT d tag = true) : ∃ ty, parseFieldDescriptor d = some ty ∧ narrow ty (am_cv b sa v) = am_cv b sa v ∧ fits ty (am_cv b sa v) = true := by
  unfold am_okT at h2
  split at h2
  · rename_i e1
    cases v <;> first | exact ⟨_, e1, rfl, rfl⟩ | cases h1
  · rename_i e1
    cases v <;> first | (cases h1; done) | skip
    rename_i x
    have hx : x = 0 ∨ x = 1 := of_decide_eq_true h1
    refine ⟨_, e1, ?_⟩
    rcases hx with rfl | rfl
    · exact ⟨rfl, rfl⟩
    · exact ⟨rfl, rfl⟩
  · rename_i e1
    cases v <;> first | exact ⟨_, e1, rfl, rfl⟩ | cases h1
  · rename_i e1
    cases v <;> first | exact ⟨_, e1, rfl, rfl⟩ | cases h1
  · rename_i e1
    cases v <;> first | exact ⟨_, e1, rfl, rfl⟩ | cases h1
  · cases h2
theorem am_pf_ok {idx : Nat} (hx : p.tables.exec = Jvm.exec) (hb : c.code = cc) (hown : s.vm.findClass own = some m.cls) (hnm : meth.name = nm) (hts : ∀ w ∈ G, w.before args s = true) (hTG : ∀ w ∈ Ts, goodWord w = true → w ∈ G) (hCL : am_CL G cl E.1) (hU : am_U D cl K b sa Ns Rs Zs E s) (hP : va_P D cl (am_W K b sa h) H) (hS : va_S (fun q => b ≤ q) s.heap H locs) (hdg : decode cc pc = .ok (.putfield idx, 3)) (hok : lk.all (fun q => am_okF Ts Ns cl own idx q.1 q.2 && am_okP cl own nm q.1 q.2) = true) (hs : am_pf lk st h = some S) (kk : am_kh p l e R s m args below meth c cells slots Q D cl K b sa h (pc + 3) Ls S) : W p l e R s m args below meth c H locs cells slots Q (F0 m pc Ls (st.map (am_cv b sa))) := by
  unfold am_pf at hs
  split at hs
  · rename_i v a r
    split at hs
    · rename_i ci fs hc
      split at hs
      · rename_i k tag dat hk
        split at hs
        · rename_i hf
          cases hs
          have kk2 : ∀ (H1 : Heap) (locs1 : List Loc), va_P D cl ((am_W K b sa h).set a (b + a, .inr (ci, (fs.map (am_cv b sa)).set k (am_cv b sa v)))) H1 → va_D (fun q => b ≤ q) ((am_W K b sa h).set a (b + a, .inr (ci, (fs.map (am_cv b sa)).set k (am_cv b sa v)))) → va_S (fun q => b ≤ q) s.heap H1 locs1 → W p l e R s m args below meth c H1 locs1 cells slots Q (F0 m (pc + 3) Ls (r.map (am_cv b sa))) := by
            intro H1 locs1 q1 _ q3
            have q4 := kk H1 locs1 (by rw [← am_W_set]; simp only [am_ce, List.map_set]; exact q1) q3
            simp only [List.length_set, Nat.sub_self, Nat.add_zero, am_sz_set hc (show am_sz1 (.inr (.inr (ci, fs.set k v))) = am_sz1 (.inr (.inr (ci, fs))) by simp [am_sz1])] at q4
            exact q4
          have hq := List.all_eq_true.mp hok _ (am_key_mem hk)
          simp only [Bool.and_eq_true] at hq
          obtain ⟨hq1, hq2⟩ := hq
          unfold am_okP at hq2
          split at hq2
          · rename_i k2 tag2 kind2 rest2 C2 F N2 hd2 hC
            cases hd2
            simp only [Bool.and_eq_true] at hq2
            obtain ⟨hty, hfin⟩ := hq2
            obtain ⟨ty, ht1, ht2, ht3⟩ := am_fit_ok (b := b) (sa := sa) hf.1 hty
            unfold am_okF at hq1
            split at hq1
            · rename_i k3 tag3 kind3 p1 p2 rest3 C3 F3 N3 hd3 hC3
              cases hd3
              cases hC.symm.trans hC3
              obtain ⟨hin, ⟨ty0, hty0, -⟩, hnm2⟩ := hCL ci _ _ _ hC
              simp only [Bool.and_eq_true, decide_eq_true_eq] at hq1
              obtain ⟨hkN, hq1⟩ := hq1
              have hlen : k < (fs.map (am_cv b sa)).length := by rw [List.length_map]; exact hf.2
              by_cases hF : (F k).2.2.2 = true
              · rw [if_pos hF] at hfin
                simp only [Bool.and_eq_true, decide_eq_true_eq] at hfin
                obtain ⟨⟨hi1, hi2⟩, hi3⟩ := hfin
                subst hi3
                simp only [decide_eq_true_eq] at hq1
                exact va_putF hx hb hts hin ty0 hty0 hnm2 hown hU.1 hP (am_D K b sa h) hS a (am_W_at hc) hC k hkN (hts _ (hTG _ (List.mem_of_getElem? hq1) rfl)) (fun x hx => hx) hF (by rw [hnm]; exact hi1) hi2 ht1 ht2 ht3 hlen hdg kk2
              · have hF0 : (F k).2.2.2 = false := by
                  cases hh : (F k).2.2.2 with
                  | true => exact absurd hh hF
                  | false => rfl
                split at hq1
                · rw [decide_eq_true_eq] at hq1
                  exact va_put hx hb hts hin ty0 hty0 hnm2 hown hU.1 hP (am_D K b sa h) hS a (am_W_at hc) hC k hkN (hts _ (hTG _ (List.mem_of_getElem? hq1) rfl)) (fun x hx => hx) hF0 ht1 ht2 ht3 hlen hdg kk2
                · split at hq1
                  · simp only [Bool.and_eq_true, decide_eq_true_eq] at hq1
                    obtain ⟨h1, h2⟩ := hq1
                    exact va_put hx hb hts hin ty0 hty0 hnm2 hown hU.1 hP (am_D K b sa h) hS a (am_W_at hc) hC k hkN (hts _ (hTG _ (List.mem_of_getElem? h1) rfl)) (fun x hx => u_same (hts _ (hTG _ (List.mem_of_getElem? h2) rfl)) x hx) hF0 ht1 ht2 ht3 hlen hdg kk2
                  · cases hq1
                · split at hq1
                  · rw [decide_eq_true_eq] at hq1
                    exact va_putN hx hb hts hin ty0 hty0 hnm2 hown hU.1 hP (am_D K b sa h) hS a (am_W_at hc) hC k hkN (va_Nw.use rfl (hU.2.1 _ (List.mem_of_getElem? hq1))) (fun x hx => hx) hF0 ht1 ht2 ht3 hlen hdg kk2
                  · cases hq1
                · cases hq1
            · cases hq1
          · cases hq2
        · cases hs
      · cases hs
    · cases hs
  · cases hs
theorem am_wrI_ok {t : Nat} {i : Instr} (ht : (t = 0 ∧ i = .iastore) ∨ (t = 1 ∧ i = .bastore)) (hx : p.tables.exec = Jvm.exec) (hb : c.code = cc) (hU : am_U D cl K b sa Ns Rs Zs E s) (hP : va_P D cl (am_W K b sa h) H) (hS : va_S (fun q => b ≤ q) s.heap H locs) (hdg : decode cc pc = .ok (i, 1)) (hs : am_wrI t st h = some S) (kk : am_kh p l e R s m args below meth c cells slots Q D cl K b sa h (pc + 1) Ls S) : W p l e R s m args below meth c H locs cells slots Q (F0 m pc Ls (st.map (am_cv b sa))) := by
  unfold am_wrI at hs
  split at hs
  · rename_i x ix a r
    split at hs
    · rename_i t' n f hc
      split at hs
      · rename_i et
        split at hs
        · cases hs
        · rename_i hin
          cases hs
          have kk2 : ∀ (H1 : Heap) (locs1 : List Loc), va_P D cl ((am_W K b sa h).set a (b + a, .inl (K t', n, .inl (upd f ix.toNatClampNeg (am_nb t' x))))) H1 → va_D (fun q => b ≤ q) ((am_W K b sa h).set a (b + a, .inl (K t', n, .inl (upd f ix.toNatClampNeg (am_nb t' x))))) → va_S (fun q => b ≤ q) s.heap H1 locs1 → W p l e R s m args below meth c H1 locs1 cells slots Q (F0 m (pc + 1) Ls (r.map (am_cv b sa))) := by
            intro H1 locs1 q1 _ q3
            have q4 := kk H1 locs1 (by rw [← am_W_set]; exact q1) q3
            simp only [List.length_set, Nat.sub_self, Nat.add_zero, am_sz_set hc (show am_sz1 (.inl (t', n, upd f ix.toNatClampNeg (am_nb t' x))) = am_sz1 (.inl (t', n, f)) from rfl)] at q4
            exact q4
          rcases ht with ⟨rfl, rfl⟩ | ⟨rfl, rfl⟩
          · rcases et with rfl | ⟨h1, -⟩
            · exact va_iast hx hb hU.1 hP (am_D K b sa h) hS a 0 (am_W_at hc) rfl hin hdg kk2
            · cases h1
          · rcases et with rfl | ⟨-, rfl⟩
            · exact va_bast hx hb hU.1 hP (am_D K b sa h) hS a 1 (am_W_at hc) rfl hin hdg kk2
            · exact va_zast hx hb hU.1 hP (am_D K b sa h) hS a 3 (am_W_at hc) rfl hin hdg kk2
      · cases hs
    · cases hs
  · cases hs
theorem am_wrL_ok (hx : p.tables.exec = Jvm.exec) (hb : c.code = cc) (hU : am_U D cl K b sa Ns Rs Zs E s) (hP : va_P D cl (am_W K b sa h) H) (hS : va_S (fun q => b ≤ q) s.heap H locs) (hdg : decode cc pc = .ok (.lastore, 1)) (hs : am_wrL st h = some S) (kk : am_kh p l e R s m args below meth c cells slots Q D cl K b sa h (pc + 1) Ls S) : W p l e R s m args below meth c H locs cells slots Q (F0 m pc Ls (st.map (am_cv b sa))) := by
  unfold am_wrL at hs
  split at hs
  · rename_i x ix a r
    split at hs
    · rename_i n f hc
      split at hs
      · cases hs
      · rename_i hin
        cases hs
        have kk2 : ∀ (H1 : Heap) (locs1 : List Loc), va_P D cl ((am_W K b sa h).set a (b + a, .inl (K 2, n, .inr (.inl (vp_updL f ix.toNatClampNeg x))))) H1 → va_D (fun q => b ≤ q) ((am_W K b sa h).set a (b + a, .inl (K 2, n, .inr (.inl (vp_updL f ix.toNatClampNeg x))))) → va_S (fun q => b ≤ q) s.heap H1 locs1 → W p l e R s m args below meth c H1 locs1 cells slots Q (F0 m (pc + 1) Ls (r.map (am_cv b sa))) := by
          intro H1 locs1 q1 _ q3
          have q4 := kk H1 locs1 (by rw [← am_W_set]; exact q1) q3
          simp only [List.length_set, Nat.sub_self, Nat.add_zero, am_sz_set hc (show am_sz1 (.inr (.inl (n, vp_updL f ix.toNatClampNeg x))) = am_sz1 (.inr (.inl (n, f))) from rfl)] at q4
          exact q4
        exact va_last hx hb hU.1 hP (am_D K b sa h) hS a 2 (am_W_at hc) rfl hin hdg kk2
    · cases hs
  · cases hs
/-- a new cell lies at the end -/
theorem am_last {x : va_E} {q : Nat} {H1 : Heap} (h1 : H1.size ≤ b + h.length + 1) (hP : va_P D cl (am_W K b sa h ++ [(q, x)]) H1) (hD : va_D (fun q => b ≤ q) (am_W K b sa h ++ [(q, x)])) : q = b + h.length := by
  have hq : (am_W K b sa h ++ [(q, x)])[h.length]? = some (q, x) := by
    rw [List.getElem?_append_right (by rw [am_W_len]; exact Nat.le_refl _), am_W_len, Nat.sub_self]
    rfl
  have h2 := (hP h.length _ hq).lt
  have h3 : b ≤ q := hD.2 h.length _ hq
  simp only at h2
  rcases Nat.lt_or_ge q (b + h.length) with h4 | h4
  · exfalso
    have hk : q - b < h.length := by omega
    have h5 : (am_W K b sa h ++ [(q, x)])[q - b]? = some (b + (q - b), am_ce K b sa h[q - b]) := by
      rw [List.getElem?_append_left (by rw [am_W_len]; exact hk)]
      exact am_W_at (List.getElem?_eq_getElem hk)
    have h6 := hD.1 (q - b) h.length _ _ h5 hq (by simp only; omega)
    omega
  · omega
theorem am_new_ok {idx : Nat} (hx : p.tables.exec = Jvm.exec) (hb : c.code = cc) (hown : s.vm.findClass own = some m.cls) (hts : ∀ w ∈ G, w.before args s = true) (hTG : ∀ w ∈ Ts, goodWord w = true → w ∈ G) (hCL : am_CL G cl E.1) (hU : am_U D cl K b sa Ns Rs Zs E s) (hz : s.heap.size = b + n0) (hn : cells + n0 = h.length) (hP : va_P D cl (am_W K b sa h) H) (hS : va_S (fun q => b ≤ q) s.heap H locs) (hdg : decode cc pc = .ok (.new idx, 3)) (hok : am_okI Ts Ns Rs Zs cl T own nm nL (.new idx) num lk = true) (hs : am_new E lk st h = some S) (hR : cells + (S.2.length - h.length) ≤ R.cells ∧ slots + (am_sz S.2 - am_sz h) ≤ R.slots) (kk : am_kh p l e R s m args below meth c cells slots Q D cl K b sa h (pc + 3) Ls S) : W p l e R s m args below meth c H locs cells slots Q (F0 m pc Ls (st.map (am_cv b sa))) := by
  simp only [am_okI] at hok
  split at hok
  · rename_i ci p1 p2 p3 r1 r2
    split at hok
    · rename_i C F N hC
      simp only [Bool.and_eq_true, decide_eq_true_eq] at hok
      obtain ⟨⟨h1, h2⟩, h3⟩ := hok
      simp only [am_new] at hs
      split at hs
      · rename_i fs hfs
        cases hs
        obtain ⟨hin, ⟨ty, hty, hdf⟩, -⟩ := hCL ci _ _ _ hC
        obtain ⟨e1, e2, e3⟩ := hdf fs hfs
        have eL : (h ++ [(.inr (.inr (ci, fs)) : am_C)]).length - h.length = 1 := by simp
        have eZ : am_sz (h ++ [.inr (.inr (ci, fs))]) - am_sz h = N := by rw [am_sz_push, am_sz1, e1]; omega
        simp only [eL, eZ] at hR
        refine va_new (ci := ci) (fs := fs) hx hb hts hin ty hty hown (hts _ (hTG _ (List.mem_of_getElem? h1) rfl)) (hts _ (hTG _ (List.mem_of_getElem? h2) rfl)) (hts _ (hTG _ (List.mem_of_getElem? h3) rfl)) hU.1 hP (am_D K b sa h) hS (fun q hq => by show b ≤ q; omega) hC e2 hR.1 hR.2 hdg (fun q H1 hP1 hD1 hS1 => ?_)
        intro T1 hT1 X1
        have hz1 := X1.heapSize
        rw [hT1] at hz1
        have eq1 := am_last (by omega) hP1 hD1
        subst eq1
        have hP2 : va_P D cl (am_W K b sa (h ++ [.inr (.inr (ci, fs))])) H1 := by rw [am_W_push, am_ce, e3]; exact hP1
        have kk2 := kk H1 locs hP2 hS1
        simp only [eL, eZ] at kk2
        exact kk2 T1 hT1 X1
      · cases hs
    · cases hok
  · cases hok
theorem am_na_ok {t : ArrayType} (hx : p.tables.exec = Jvm.exec) (hb : c.code = cc) (hts : ∀ w ∈ G, w.before args s = true) (hTG : ∀ w ∈ Ts, goodWord w = true → w ∈ G) (hU : am_U D cl K b sa Ns Rs Zs E s) (hz : s.heap.size = b + n0) (hn : cells + n0 = h.length) (hP : va_P D cl (am_W K b sa h) H) (hS : va_S (fun q => b ≤ q) s.heap H locs) (hdg : decode cc pc = .ok (.newarray t, 2)) (hok : am_okI Ts Ns Rs Zs cl T own nm nL (.newarray t) num lk = true) (hs : am_na t st h = some S) (hR : cells + (S.2.length - h.length) ≤ R.cells ∧ slots + (am_sz S.2 - am_sz h) ≤ R.slots) (kk : am_kh p l e R s m args below meth c cells slots Q D cl K b sa h (pc + 2) Ls S) : W p l e R s m args below meth c H locs cells slots Q (F0 m pc Ls (st.map (am_cv b sa))) := by
  simp only [am_okI] at hok
  split at hok
  · rename_i k1 p1 r1 r2
    rw [decide_eq_true_eq] at hok
    unfold am_na at hs
    split at hs
    · rename_i n r
      split at hs
      · cases hs
      · rename_i hn0
        have hneg : ¬ n < 0 := fun q => hn0 (Or.inl q)
        have hbig : n.toNatClampNeg ≤ 60000000 := by
          rcases Nat.lt_or_ge 60000000 n.toNatClampNeg with q | q
          · exact absurd (Or.inr q) hn0
          · exact q
        split at hs
        · rename_i x hbl
          cases hs
          have eL : (h ++ [x]).length - h.length = 1 := by simp
          have eZ : am_sz (h ++ [x]) - am_sz h = am_sz1 x := by rw [am_sz_push]; omega
          simp only [eL, eZ] at hR
          have go : ∀ (ty : FieldType) (q : Nat) (cA : ClassId) (a0 : vp_A) (H1 : Heap), (am_ce K b sa x = .inl (cA, a0)) → va_P D cl (am_W K b sa h ++ [(q, .inl (cA, a0))]) H1 → va_D (fun q => b ≤ q) (am_W K b sa h ++ [(q, .inl (cA, a0))]) → va_S (fun q => b ≤ q) s.heap H1 locs → W p l e R s m args below meth c H1 locs (cells + 1) (slots + am_sz1 x) Q (F0 m (pc + 2) Ls (.ref q :: r.map (am_cv b sa))) := by
            intro ty q cA a0 H1 ea hP1 hD1 hS1 T1 hT1 X1
            have hz1 := X1.heapSize
            rw [hT1] at hz1
            have eq1 := am_last (by omega) hP1 hD1
            subst eq1
            have hP2 : va_P D cl (am_W K b sa (h ++ [x])) H1 := by rw [am_W_push, ea]; exact hP1
            have kk2 := kk H1 locs hP2 hS1
            simp only [eL, eZ] at kk2
            exact kk2 T1 hT1 X1
          unfold am_blank at hbl
          split at hbl
          · cases hbl
            refine va_newa (ty := .int) (a0 := (n.toNatClampNeg, .inl (fun _ => 0))) hx hb (hts _ (hTG _ (List.mem_of_getElem? hok) rfl)) rfl hU.1 hP (am_D K b sa h) hS (fun q hq => by show b ≤ q; omega) (fun cA => rfl) hneg rfl (by simp only [componentBytes]; omega) hR.1 hR.2 hdg (fun q cA H1 hK1 hP1 hD1 hS1 => ?_)
            have e1 := (hK1.2 4 (cA, .int) rfl).2
            have e2 := (hK1.2 0 (K 0, .int) rfl).2
            have e3 : cA = K 0 := Option.some.inj (Eq.trans (Eq.symm e1) e2)
            subst e3
            exact go .int q (K 0) _ H1 rfl hP1 hD1 hS1
          · cases hbl
            refine va_newa (ty := .byte) (a0 := (n.toNatClampNeg, .inl (fun _ => 0))) hx hb (hts _ (hTG _ (List.mem_of_getElem? hok) rfl)) rfl hU.1 hP (am_D K b sa h) hS (fun q hq => by show b ≤ q; omega) (fun cA => rfl) hneg rfl (by simp only [componentBytes]; omega) hR.1 hR.2 hdg (fun q cA H1 hK1 hP1 hD1 hS1 => ?_)
            have e1 := (hK1.2 4 (cA, .byte) rfl).2
            have e2 := (hK1.2 1 (K 1, .byte) rfl).2
            have e3 : cA = K 1 := Option.some.inj (Eq.trans (Eq.symm e1) e2)
            subst e3
            exact go .byte q (K 1) _ H1 rfl hP1 hD1 hS1
          · cases hbl
            refine va_newa (ty := .boolean) (a0 := (n.toNatClampNeg, .inl (fun _ => 0))) hx hb (hts _ (hTG _ (List.mem_of_getElem? hok) rfl)) rfl hU.1 hP (am_D K b sa h) hS (fun q hq => by show b ≤ q; omega) (fun cA => rfl) hneg rfl (by simp only [componentBytes]; omega) hR.1 hR.2 hdg (fun q cA H1 hK1 hP1 hD1 hS1 => ?_)
            have e1 := (hK1.2 4 (cA, .boolean) rfl).2
            have e2 := (hK1.2 3 (K 3, .boolean) rfl).2
            have e3 : cA = K 3 := Option.some.inj (Eq.trans (Eq.symm e1) e2)
            subst e3
            exact go .boolean q (K 3) _ H1 rfl hP1 hD1 hS1
          · cases hbl
            refine va_newa (ty := .long) (a0 := (n.toNatClampNeg, .inr (.inl (fun _ => 0)))) hx hb (hts _ (hTG _ (List.mem_of_getElem? hok) rfl)) rfl hU.1 hP (am_D K b sa h) hS (fun q hq => by show b ≤ q; omega) (fun cA => rfl) hneg rfl (by simp only [componentBytes]; omega) hR.1 hR.2 hdg (fun q cA H1 hK1 hP1 hD1 hS1 => ?_)
            have e1 := (hK1.2 4 (cA, .long) rfl).2
            have e2 := (hK1.2 2 (K 2, .long) rfl).2
            have e3 : cA = K 2 := Option.some.inj (Eq.trans (Eq.symm e1) e2)
            subst e3
            exact go .long q (K 2) _ H1 rfl hP1 hD1 hS1
          · cases hbl
        · cases hs
    · cases hs
  · cases hok
/-- A STEP that writes or makes a cell -/
theorem am_hs_ok {i : Instr} (hx : p.tables.exec = Jvm.exec) (hb : c.code = cc) (hown : s.vm.findClass own = some m.cls) (hnm : meth.name = nm) (hts : ∀ w ∈ G, w.before args s = true) (hTG : ∀ w ∈ Ts, goodWord w = true → w ∈ G) (hCL : am_CL G cl E.1) (hU : am_U D cl K b sa Ns Rs Zs E s) (hz : s.heap.size = b + n0) (hn : cells + n0 = h.length) (hP : va_P D cl (am_W K b sa h) H) (hS : va_S (fun q => b ≤ q) s.heap H locs) (hdg : decode cc pc = .ok (i, am_len i num)) (hok : am_okI Ts Ns Rs Zs cl T own nm nL i num lk = true) (hs : am_hs E i lk st h = some S) (hR : cells + (S.2.length - h.length) ≤ R.cells ∧ slots + (am_sz S.2 - am_sz h) ≤ R.slots) (kk : am_kh p l e R s m args below meth c cells slots Q D cl K b sa h (pc + am_len i num) Ls S) : W p l e R s m args below meth c H locs cells slots Q (F0 m pc Ls (st.map (am_cv b sa))) := by
  unfold am_hs at hs
  split at hs
  · exact am_pf_ok hx hb hown hnm hts hTG hCL hU hP hS hdg hok hs kk
  · exact am_wrI_ok (Or.inl ⟨rfl, rfl⟩) hx hb hU hP hS hdg hs kk
  · exact am_wrI_ok (Or.inr ⟨rfl, rfl⟩) hx hb hU hP hS hdg hs kk
  · exact am_wrL_ok hx hb hU hP hS hdg hs kk
  · exact am_new_ok hx hb hown hts hTG hCL hU hz hn hP hS hdg hok hs hR kk
  · exact am_na_ok hx hb hts hTG hU hz hn hP hS hdg hok hs hR kk
  · cases hs
end AMH
end
section
/-! CALLS, AND THE WHOLE RUN. -/
def am_nw (w : Cond) : Bool := match w with
  | .methodLinkNest _ _ _ _ => true
  | .fieldLinkNest _ _ _ _ _ _ => true
  | .declares _ => true
  | _ => false
/-- the state holds these cells -/
def am_Pre (D : va_G) (cl : List vw_C) (K : Nat → ClassId) (b : Nat) (sa : Nat → Nat) (Ns : List Cond) (Rs : am_Rs) (Zs : am_Zs) (E : am_E) (h : am_H) (U : State) : Prop := U.heap.size = b + h.length ∧ va_P D cl (am_W K b sa h) U.heap ∧ am_U D cl K b sa Ns Rs Zs E U
def am_Post (D : va_G) (cl : List vw_C) (K : Nat → ClassId) (b : Nat) (sa : Nat → Nat) (Ns : List Cond) (Rs : am_Rs) (Zs : am_Zs) (E : am_E) (v : Option Value) (h : am_H) : Array Value → State → Outcome → State → Prop := fun _ st oc t => oc = .returned (v.map (am_cv b sa)) ∧ va_P D cl (am_W K b sa h) t.heap ∧ va_F (fun q => b ≤ q) st t
def am_Cx (p : Program) (s : State) (m : MethodId) (meth : Method) (c : Code) (args : Array Value) (M : am_M) (G : List Cond) : Prop :=
  p.tables.exec = Jvm.exec ∧ c.code = M.2.1 ∧ c.maxLocals = M.2.2.1 ∧ s.vm.findClass M.1.cls = some m.cls ∧ (∀ w ∈ G, w.before args s = true) ∧ meth.name = M.1.name ∧ meth.sig.returnType = M.2.2.2.1 ∧ meth.locks = false
/-- all that the tables must say, once for all methods -/
def am_OK (E : am_E) (T : List am_M) (cl : List vw_C) (Ts G Ns : List Cond) (Rs : am_Rs) (Zs : am_Zs) : Prop :=
  (∀ w ∈ Ts, goodWord w = true → w ∈ G) ∧ (∀ w ∈ G, goodWord w = true) ∧ (∀ w ∈ Ns, am_nw w = true) ∧ am_CL G cl E.1 ∧ cl.length ≤ 1000 ∧ (Cond.instanceMethod objectInit ∈ G ∧ Cond.code objectInit ⟨#[0xb1]⟩ 1 none ∈ G) ∧
  (∀ (j : Nat) (M : am_M), 0 < j → T[j]? = some M → Cond.code M.1 M.2.1 M.2.2.1 M.2.2.2.1 ∈ G ∧ Cond.initialized M.1.cls ∈ G ∧ Jvm.plainName M.1.cls = true ∧ (M.1.cls ≠ "java/lang/invoke/MethodHandle" ∧ M.1.cls ≠ "java/lang/invoke/VarHandle")) ∧
  (∀ (j : Nat) (M : am_M), T[j]? = some M → ∀ q ∈ M.2.2.2.2, am_okQ Ts Ns Rs Zs cl T M q = true)
def am_rm (d mc ms : Nat) : Room := { frames := d, cells := mc, slots := ms, locals := 60 * d }
abbrev am_ws (M : am_M) (G : List Cond) : List Cond := Cond.code M.1 M.2.1 M.2.2.1 M.2.2.2.1 :: G
theorem am_find_mem {l : List am_Q} {pc : Nat} {q : am_Q} (h : am_find l pc = some q) : q ∈ l ∧ q.1 = pc := by
  induction l with
  | nil => cases h
  | cons z r ih =>
    unfold am_find at h
    split at h
    · rename_i e
      cases h
      exact ⟨List.mem_cons_self, e⟩
    · exact ⟨List.mem_cons_of_mem _ (ih h).1, (ih h).2⟩
theorem am_nw_on {w : Cond} (h : am_nw w = true) : w.onTables = true := by
  unfold am_nw at h
  split at h <;> first | rfl | cases h
theorem am_wid (vs : List Value) : (lg_sl vs).length = am_sum vs := by
  induction vs with
  | nil => rfl
  | cons v r ih =>
    have e : (lg_sl (v :: r)).length = (if v.category = 2 then 2 else 1) + (lg_sl r).length := by
      unfold lg_sl
      rw [List.flatMap_cons, List.length_append]
      congr 1
      split <;> rfl
    rw [e, ih]
    unfold am_sum
    rw [List.map_cons, List.sum_cons]
    congr 1
    cases v <;> rfl
theorem am_sum_cv (b : Nat) (sa : Nat → Nat) (vs : List Value) : am_sum (vs.map (am_cv b sa)) = am_sum vs := by
  unfold am_sum
  rw [List.map_map]
  congr 1
  apply List.map_congr_left
  intro v _
  exact am_cat b sa v
theorem am_args_cv (b : Nat) (sa : Nat → Nat) : ∀ (i : Nat) (vs : List Value), lv_args i (vs.map (am_cv b sa)) = am_cl b sa (lv_args i vs) := by
  intro i vs
  induction vs generalizing i with
  | nil => rfl
  | cons v r ih =>
    rw [List.map_cons, lv_args, lv_args, am_cat, ih]
    rfl
theorem am_ret_st {ret : Option FieldType} {i : Instr} {st : List Value} {v : Option Value} (h : am_ret ret i st = some v) : st = v.toList := by
  unfold am_ret at h
  split at h
  · split at h
    · cases h; rfl
    · cases h
  · split at h
    · cases h; rfl
    · split at h
      · cases h; rfl
      · cases h
    · split at h
      · cases h; rfl
      · cases h
    · split at h
      · cases h; rfl
      · cases h
    · cases h
  · split at h
    · cases h; rfl
    · cases h
  · cases h
section AMV
variable {p : Program} {l : Launch} {e : Env} {R : Room} {s : State} {m : MethodId} {args : Array Value} {below : List Frame} {meth : Method} {c : Code} {H : Heap} {locs : List Loc} {cells slots : Nat} {Q : State → Prop}
variable {cc : ByteArray} {pc nL n0 : Nat} {Ls : Array Slot} {D : va_G} {cl : List vw_C} {K : Nat → ClassId} {b : Nat} {sa : Nat → Nat} {Ts G Ns : List Cond} {Rs : am_Rs} {Zs : am_Zs} {E : am_E} {T : List am_M} {ls : am_L} {st : List Value} {h : am_H} {num : Int} {lk : am_K}
theorem am_U_move {t : State} (hNs : ∀ w ∈ Ns, am_nw w = true) (hU : am_U D cl K b sa Ns Rs Zs E s) (hS : va_S (fun q => b ≤ q) s.heap H locs) (ht : t.heap = H) (hW : s.WarmedH t.vm) : am_U D cl K b sa Ns Rs Zs E t := by
  subst ht
  obtain ⟨h1, h2, h3, h4, h5, h6, h7, h8⟩ := hU
  have hq : ∀ a : Nat, a < s.heap.size → ¬ (fun q => b ≤ q) a → t.heap[a]? = s.heap[a]? := hS.2.1
  refine ⟨va_K.moved hW.alike h1, fun w hw => ?_, (vk_S.moved hW.alike h3).kept hq, fun q hq => vk_R.warm hW (h4 q hq), fun i C n d v g1 g2 => (va_Z.moved hW.alike (h5 i C n d v g1 g2)).kept hq, fun L xs z => (va_X.moved hW.alike (h6 L xs z)).kept (hq _ h7 (Nat.not_le.mpr h8)), Nat.lt_of_lt_of_le h7 hS.1, h8⟩
  have hn := hNs w hw
  unfold am_nw at hn
  split at hn
  · exact va_Nw.warmM hW (h2 _ hw)
  · exact va_Nw.warmF hW (h2 _ hw)
  · exact va_Nw.warmD hW (h2 _ hw)
  · cases hn
theorem am_blind (hNs : ∀ w ∈ Ns, am_nw w = true) (av : List Value) : FrameBlind (va_Pc av (am_Pre D cl K b sa Ns Rs Zs E h)) := by
  intro a U g mk hq
  obtain ⟨e0, g1, g2, h1, h2, h3, h4, h5, h6, h7, h8⟩ := hq
  exact ⟨e0, g1, g2, va_K.moved (u := U) (U := U.calling g mk a) (Vm.Alike.refl U.vm) h1, fun w hw => va_Nw.same (u := U) (U := U.calling g mk a) (am_nw_on (hNs w hw)) rfl (h2 w hw), vk_S.moved (u := U) (U := U.calling g mk a) (Vm.Alike.refl U.vm) h3, fun q hq => vk_R.same (u := U) (U := U.calling g mk a) rfl (h4 q hq), fun i C n d v z1 z2 => va_Z.moved (u := U) (U := U.calling g mk a) (Vm.Alike.refl U.vm) (h5 i C n d v z1 z2), fun L xs z => va_X.moved (u := U) (U := U.calling g mk a) (Vm.Alike.refl U.vm) (h6 L xs z), h7, h8⟩
theorem am_pre (hNs : ∀ w ∈ Ns, am_nw w = true) (hU : am_U D cl K b sa Ns Rs Zs E s) (hP : va_P D cl (am_W K b sa h) H) (hS : va_S (fun q => b ≤ q) s.heap H locs) (hz : H.size = b + h.length) (av : List Value) : ∀ U : State, U.heap = H → s.WarmedH U.vm → va_Pc av (am_Pre D cl K b sa Ns Rs Zs E h) av.toArray U := fun U e1 hW => ⟨rfl, by rw [e1]; exact hz, by rw [e1]; exact hP, am_U_move hNs hU hS e1 hW⟩
/-- behind a call -/
theorem am_after {mc ms : Nat} {st0 rest : List Value} {v : Option Value} {h2 : am_H} {a : Array Value} (hr : va_Run p l e R s m args below meth c H locs cells slots mc ms (F0 m pc Ls st0) rest (am_Post D cl K b sa Ns Rs Zs E v h2 a) (fun q => b ≤ q)) (hS : va_S (fun q => b ≤ q) s.heap H locs)
    (kk : ∀ (H1 : Heap) (locs1 : List Loc), va_P D cl (am_W K b sa h2) H1 → va_S (fun q => b ≤ q) s.heap H1 locs1 → W p l e R s m args below meth c H1 locs1 (cells + mc) (slots + ms) Q (F0 m (pc + 3) Ls ((v.map (am_cv b sa)).toList ++ rest))) : W p l e R s m args below meth c H locs cells slots Q (F0 m pc Ls st0) := by
  intro T1 hT X
  obtain ⟨w, st₀, t, T', L, h0, X', hL, e1, e2, ⟨hv, hPost, hz, hk⟩, st⟩ := hr T1 hT X
  cases hv
  rw [h0] at hz hk
  obtain ⟨t2, a1, b1⟩ := kk T'.heap (locs ++ L) (by rw [e1]; exact hPost)
    ⟨Nat.le_trans hS.1 (by rw [e1]; exact hz), fun q h1 h2 => by rw [e1, hk q (Nat.lt_of_lt_of_le h1 hS.1) h2]; exact hS.2.1 q h1 h2, fun q hq => by
      rcases List.mem_append.mp hq with h | h
      · exact hS.2.2 q h
      · exact hL q h⟩ T' rfl X'
  exact ⟨t2, st t2 a1, b1⟩
end AMV
end
section
section AMC
variable {p : Program} {l : Launch} {e : Env} {R : Room} {s : State} {m : MethodId} {args : Array Value} {below : List Frame} {meth : Method} {c : Code} {H : Heap} {locs : List Loc} {cells slots : Nat} {Q : State → Prop}
variable {pc nL n0 : Nat} {Ls : Array Slot} {D : va_G} {cl : List vw_C} {K : Nat → ClassId} {b : Nat} {sa : Nat → Nat} {Ts G Ns : List Cond} {Rs : am_Rs} {Zs : am_Zs} {E : am_E} {T : List am_M} {ls : am_L} {st : List Value} {h : am_H} {num : Int} {lk : am_K} {M M2 : am_M} {d n mc ms : Nat} {v : Option Value} {h2 : am_H}
theorem am_goodIn (hO : am_OK E T cl Ts G Ns Rs Zs) {j : Nat} (hj : 0 < j) (hM : T[j]? = some M2) : GoodIn G (am_ws M2 G) := by
  intro w hw
  have hg : w ∈ G := by
    rcases List.mem_cons.mp hw with rfl | hw
    · exact (hO.2.2.2.2.2.2.1 j M2 hj hM).1
    · exact hw
  exact ⟨hg, good_of_word (hO.2.1 w hg)⟩
theorem am_room (hd : d + 1 ≤ R.frames) (hl : 60 * (d + 1) ≤ R.locals) (hm : M2.2.2.1 ≤ 41) : (am_rm d mc ms).frames + 1 ≤ R.frames ∧ 8 + (M2.2.2.1 + 11) + (am_rm d mc ms).locals ≤ R.locals := by
  refine ⟨hd, ?_⟩
  show 8 + (M2.2.2.1 + 11) + 60 * d ≤ R.locals
  omega
theorem am_hW {r : List Value} (hr : am_sum r ≤ 8) : 2 * (F0 m pc Ls (st.map (am_cv b sa))).monitorRoom + ((r.map (am_cv b sa)).map fun v => v.category).sum ≤ 8 := by
  have h1 := am_sum_cv b sa r
  unfold am_sum at h1 hr
  exact lv_room (by rw [h1]; exact hr)
theorem am_stack (r : List Value) (n : Nat) (hr : st.drop n = r) : st.map (am_cv b sa) = (((st.take n).reverse).map (am_cv b sa)).reverse ++ r.map (am_cv b sa) := by
  rw [List.map_reverse, List.reverse_reverse, ← List.map_append, ← hr, List.take_append_drop]
theorem am_nlen {z : Value} {r : List Value} (hr : st.drop n = z :: r) : (((st.take n).reverse).map (am_cv b sa)).length = n := by
  have h1 : n < st.length := by
    rcases Nat.lt_or_ge n st.length with q | q
    · exact q
    · rw [List.drop_eq_nil_iff.mpr q] at hr; cases hr
  simp
  omega
/-- what a call asks of the tables, for the callee number j -/
theorem am_callB (hO : am_OK E T cl Ts G Ns Rs Zs) (hts : ∀ w ∈ G, w.before args s = true) {j idx : Nat} (hj : 0 < j) (hM : T[j]? = some M2) (hn : (parseMethodDescriptor M2.1.desc).map (fun d => d.parameters.length) = some n) (hl : (Cond.methodLink M.1.cls idx M2.1).before args s = true) (hR : (am_rm d mc ms).frames + 1 ≤ R.frames ∧ 8 + (M2.2.2.1 + 11) + (am_rm d mc ms).locals ≤ R.locals) : CallB R s args M.1.cls idx M2.1 M2.2.1 M2.2.2.1 M2.2.2.2.1 (am_ws M2 G) (am_rm d mc ms) mc ms n := by
  obtain ⟨-, hini, -, hmh⟩ := hO.2.2.2.2.2.2.1 j M2 hj hM
  exact callB_of n hts (am_goodIn hO hj hM) rfl rfl rfl (hts _ hini) hl ⟨hmh.1, hmh.2, hn⟩ hR
theorem am_callN (hO : am_OK E T cl Ts G Ns Rs Zs) (hts : ∀ w ∈ G, w.before args s = true) {j idx : Nat} {ho : String} (hj : 0 < j) (hM : T[j]? = some M2) (hn : (parseMethodDescriptor M2.1.desc).map (fun d => d.parameters.length) = some n) (hl : va_Nw (.methodLinkNest M.1.cls idx M2.1 ho) s) (hR : (am_rm d mc ms).frames + 1 ≤ R.frames ∧ 8 + (M2.2.2.1 + 11) + (am_rm d mc ms).locals ≤ R.locals) : va_CN R s args M.1.cls idx M2.1 ho M2.2.1 M2.2.2.1 M2.2.2.2.1 (am_ws M2 G) (am_rm d mc ms) mc ms n := by
  obtain ⟨-, hini, -, hmh⟩ := hO.2.2.2.2.2.2.1 j M2 hj hM
  exact va_cnB n hts (am_goodIn hO hj hM) rfl rfl rfl hl (hts _ hini) ⟨hmh.1, hmh.2, hn⟩ hR
/-- a receiver's class -/
theorem am_recv {v : Value} {ci : Nat} {C : String} (hcl : cl.length ≤ 1000) (hU : am_U D cl K b sa Ns Rs Zs E s) (hP : va_P D cl (am_W K b sa h) H) (hS : va_S (fun q => b ≤ q) s.heap H locs) (hv : am_cls E h v = some ci) (hC : am_cn cl ci = some C) : ∃ a : Nat, am_cv b sa v = .ref a ∧ ∃ cellB : Cell, H[a]? = some cellB ∧ cellB.vm.isStatics = false ∧ s.vm.findClass C = some cellB.cls := by
  unfold am_cls at hv
  split at hv
  · rename_i a
    split at hv
    · rename_i ci' fs hc
      cases hv
      refine ⟨b + a, rfl, ?_⟩
      obtain ⟨r1, hr1, -⟩ := hP a _ (am_W_at hc)
      have hlt := (List.getElem?_eq_some_iff.mp hr1).1
      simp only at hlt
      unfold am_cn at hC
      rw [if_neg (by omega)] at hC
      cases hq : cl[ci]? with
      | none => rw [hq] at hC; cases hC
      | some q =>
        rw [hq] at hC
        cases hC
        exact va_recv hU.1 hP hq (am_W_at hc)
    · cases hv
  · rename_i k
    split at hv
    · rename_i hk
      cases hv
      cases hC
      exact ⟨sa k, rfl, vk_recv hU.2.2.1 hk.1 hS⟩
    · cases hv
  · cases hv
theorem am_run_ok (hO : am_OK E T cl Ts G Ns Rs Zs) (C : am_Cx p s m meth c args M G) (hU : am_U D cl K b sa Ns Rs Zs E s) (hz : H.size = b + h.length) (hP : va_P D cl (am_W K b sa h) H) (hS : va_S (fun q => b ≤ q) s.heap H locs) (hl : lv_has Ls M.2.2.1 (am_cl b sa ls)) {i : Instr} {j : Nat} {as r : List Value} (hdg : decode M.2.1 pc = .ok (i, 3)) (hok : am_okI Ts Ns Rs Zs cl T M.1.cls M.1.name M.2.2.1 i num lk = true) (hc : am_call E h i lk st = some (j, as, r)) (hne : lk ≠ []) (hnp : ¬ am_isP lk = true) (hM : T[j]? = some M2) (hr8 : am_sum r ≤ 8) (hm41 : M2.2.2.1 ≤ 41) (hd : d + 1 ≤ R.frames) (hlo : 60 * (d + 1) ≤ R.locals) (hf : cells + mc ≤ R.cells ∧ slots + ms ≤ R.slots)
    (hMet : Met l M2.1 (am_ws M2 G) (am_rm d mc ms) (va_Pc (as.map (am_cv b sa)) (am_Pre D cl K b sa Ns Rs Zs E h)) (am_Post D cl K b sa Ns Rs Zs E v h2) mc ms (fun q => b ≤ q)) :
    va_Run p l e R s m args below meth c H locs cells slots mc ms (F0 m pc Ls (st.map (am_cv b sa))) (r.map (am_cv b sa)) (am_Post D cl K b sa Ns Rs Zs E v h2 (as.map (am_cv b sa)).toArray) (fun q => b ≤ q) := by
  obtain ⟨hx, hb, hml, hown, hts, -, -, -⟩ := C
  obtain ⟨hTG, hGG, hNs, hCL, hcl, -, hTM, -⟩ := id hO
  have hR := am_room (mc := mc) (ms := ms) hd hlo hm41
  unfold am_call at hc
  split at hc
  · rename_i k0 j0 n dat tl
    split at hc
    · -- static
      rename_i idx
      split at hc
      · rename_i hn
        cases hc
        simp only [am_okI, if_neg hnp, Bool.and_eq_true] at hok
        have hq := List.all_eq_true.mp hok.2 _ (List.mem_cons_self)
        unfold am_okC at hq
        split at hq
        · rename_i j1 n1 kind p1 p2 p3 p4 p5 more hd1
          cases hd1
          rw [hM] at hq
          simp only [Bool.and_eq_true, decide_eq_true_eq] at hq
          obtain ⟨⟨hj, hnq⟩, hq⟩ := hq
          split at hq
          · rename_i idx' e1 e2
            cases e2
            simp only [Bool.and_eq_true, decide_eq_true_eq] at hq
            obtain ⟨h1, h3⟩ := hq
            exact va_runS (As := ((st.take n).reverse).map (am_cv b sa)) ⟨hx, hb, hml, hown, hts⟩ hMet ⟨am_callB hO hts hj hM hnq (hts _ (hTG _ (List.mem_of_getElem? h1) rfl)) hR, hts _ (hTG _ (List.mem_of_getElem? h3) rfl)⟩ ⟨am_blind hNs _, am_pre hNs hU hP hS hz _⟩ rfl (by simp; omega) hl.1 (am_stack _ n rfl) (am_hW hr8) hdg hf
          · rename_i idx' e1 e2
            cases e2
            split at hq
            · simp only [Bool.and_eq_true, decide_eq_true_eq] at hq
              obtain ⟨h1, h3⟩ := hq
              exact va_runSN (As := ((st.take n).reverse).map (am_cv b sa)) ⟨hx, hb, hml, hown, hts⟩ hMet ⟨am_callN hO hts hj hM hnq (hU.2.1 _ (List.mem_of_getElem? h1)) hR, hts _ (hTG _ (List.mem_of_getElem? h3) rfl), trivial⟩ ⟨am_blind hNs _, am_pre hNs hU hP hS hz _⟩ rfl (by simp; omega) hl.1 (am_stack _ n rfl) (am_hW hr8) hdg hf
            · cases hq
          all_goals first | (rename_i e2; cases e2; done) | cases hq
        · cases hq
      · cases hc
    · -- special
      rename_i idx
      split at hc
      · rename_i a r1 hdr
        cases hc
        have hq0 : ((k0, j :: n :: dat) :: tl).all (fun q => am_okC Ts Ns cl T M.1.cls (.invokespecial idx) q.1 q.2) = true := (Bool.and_eq_true_iff.mp (show (!am_isP ((k0, j :: n :: dat) :: tl) && _) = true from hok)).2
        have hq := List.all_eq_true.mp hq0 _ (List.mem_cons_self)
        unfold am_okC at hq
        split at hq
        · rename_i j1 n1 kind p1 p2 p3 p4 p5 more hd1
          cases hd1
          rw [hM] at hq
          simp only [Bool.and_eq_true, decide_eq_true_eq] at hq
          obtain ⟨⟨hj, hnq⟩, hq⟩ := hq
          split at hq
          all_goals first | (rename_i e2; cases e2; done) | skip
          · rename_i idx' e1 e2
            cases e2
            simp only [Bool.and_eq_true, decide_eq_true_eq] at hq
            obtain ⟨⟨⟨h1, h3⟩, h4⟩, h5⟩ := hq
            have cb := am_callB (M := M) (d := d) (mc := mc) (ms := ms) hO hts hj hM hnq (hts _ (hTG _ (List.mem_of_getElem? h1) rfl)) hR
            rw [h5] at cb
            exact va_runI (b := b + a) (As := ((st.take n).reverse).map (am_cv b sa)) ⟨hx, hb, hml, hown, hts⟩ hMet ⟨cb, h4, hts _ (hTG _ (List.mem_of_getElem? h3) rfl)⟩ ⟨am_blind hNs _, am_pre hNs hU hP hS hz (.ref (b + a) :: ((st.take n).reverse).map (am_cv b sa))⟩ rfl (am_nlen hdr) hl.1 (am_stack _ n hdr) (am_hW hr8) hdg hf
          · rename_i idx' e1 e2
            cases e2
            split at hq
            · simp only [Bool.and_eq_true, decide_eq_true_eq] at hq
              obtain ⟨⟨⟨h1, h3⟩, h4⟩, h5⟩ := hq
              have cb := am_callN (M := M) (d := d) (mc := mc) (ms := ms) hO hts hj hM hnq (hU.2.1 _ (List.mem_of_getElem? h1)) hR
              rw [h5] at cb
              exact va_runIN (b := b + a) (As := ((st.take n).reverse).map (am_cv b sa)) ⟨hx, hb, hml, hown, hts⟩ hMet ⟨cb, h4, hts _ (hTG _ (List.mem_of_getElem? h3) rfl)⟩ ⟨am_blind hNs _, am_pre hNs hU hP hS hz (.ref (b + a) :: ((st.take n).reverse).map (am_cv b sa))⟩ rfl (am_nlen hdr) hl.1 (am_stack _ n hdr) (am_hW hr8) hdg hf
            · cases hq
          · cases hq
        · cases hq
      · cases hc
    · -- virtual
      rename_i idx
      split at hc
      · rename_i w r1 hdr
        split at hc
        · rename_i ci hci
          split at hc
          · rename_i j' n' dat' hkey
            split at hc
            · rename_i en
              cases hc
              subst en
              simp only [am_okI, Bool.and_eq_true] at hok
              have hq := List.all_eq_true.mp hok.2 _ (am_key_mem hkey)
              unfold am_okC at hq
              split at hq
              · rename_i j1 n1 kind p1 p2 p3 p4 p5 more hd1
                cases hd1
                rw [hM] at hq
                simp only [Bool.and_eq_true, decide_eq_true_eq] at hq
                obtain ⟨⟨hj, hnq⟩, hq⟩ := hq
                obtain ⟨hcode, hini, -, hmh⟩ := hTM j M2 hj hM
                have hpre := am_pre hNs hU hP hS hz ((w :: (st.take n').reverse).map (am_cv b sa))
                split at hq
                all_goals first | (rename_i e2; cases e2; done) | skip
                · rename_i idx' e1 e2
                  cases e2
                  split at hq
                  · rename_i C hC
                    simp only [Bool.and_eq_true, decide_eq_true_eq] at hq
                    obtain ⟨⟨h1, h3⟩, h4⟩ := hq
                    obtain ⟨a, ea, hrecv⟩ := am_recv hcl hU hP hS hci hC
                    rw [List.map_cons, ea] at hMet hpre ⊢
                    exact va_runV (b := a) (C := C) (As := ((st.take n').reverse).map (am_cv b sa)) ⟨hx, hb, hml, hown, hts⟩ hMet ⟨am_callB hO hts hj hM hnq (hts _ (hTG _ (List.mem_of_getElem? h1) rfl)) hR, hts _ (hTG _ (List.mem_of_getElem? h3) rfl), hts _ (hTG _ (List.mem_of_getElem? h4) rfl)⟩ ⟨am_blind hNs _, hrecv, hpre⟩ rfl (am_nlen hdr) hl.1 (by rw [am_stack _ n' hdr, List.map_cons, ea]) (am_hW hr8) hdg hf
                  · cases hq
                · rename_i idx' e1 e2
                  cases e2
                  split at hq
                  · rename_i C ho e5 e6 e7 hC hN
                    simp only [Bool.and_eq_true, decide_eq_true_eq] at hq
                    obtain ⟨⟨h1, h3⟩, h4⟩ := hq
                    obtain ⟨a, ea, hrecv⟩ := am_recv hcl hU hP hS hci hC
                    rw [List.map_cons, ea] at hMet hpre ⊢
                    exact va_runVN (b := a) (C := C) (As := ((st.take n').reverse).map (am_cv b sa)) ⟨hx, hb, hml, hown, hts⟩ hMet ⟨am_callN hO hts hj hM hnq (hU.2.1 _ (List.mem_of_getElem? h1)) hR, hts _ (hTG _ (List.mem_of_getElem? h3) rfl), hts _ (hTG _ (List.mem_of_getElem? h4) rfl)⟩ ⟨am_blind hNs _, hrecv, hpre⟩ rfl (am_nlen hdr) hl.1 (by rw [am_stack _ n' hdr, List.map_cons, ea]) (am_hW hr8) hdg hf
                  · cases hq
                · rename_i idx' e1 e2
                  cases e2
                  split at hq
                  · rename_i C w1 w2 x w3 o w4 w5 hC hX hY
                    simp only [Bool.and_eq_true, decide_eq_true_eq] at hq
                    obtain ⟨⟨⟨⟨h1, h3⟩, h4⟩, h5⟩, h6⟩ := hq
                    obtain ⟨a, ea, hrecv⟩ := am_recv hcl hU hP hS hci hC
                    rw [List.map_cons, ea] at hMet hpre ⊢
                    have hg : GoodIn G (va_wsU M.1.cls idx C o x M2.1 (am_ws M2 G)) := by
                      intro z hz
                      rcases List.mem_append.mp hz with hz | hz
                      · simp only [List.mem_cons, List.not_mem_nil, or_false] at hz
                        have hg : z ∈ G := by
                          rcases hz with rfl | rfl | rfl | rfl | rfl
                          · exact hTG _ (List.mem_of_getElem? h1) rfl
                          · exact hTG _ (List.mem_of_getElem? h5) rfl
                          · exact hTG _ (List.mem_of_getElem? h4) rfl
                          · exact hTG _ (List.mem_of_getElem? h3) rfl
                          · exact hini
                        exact ⟨hg, good_of_word (hGG z hg)⟩
                      · exact am_goodIn hO hj hM z hz
                    have ho : o = M2.1.cls := by rw [h6]
                    have hxd : M2.1.desc = x.desc := by rw [h6]
                    exact va_runU (b := a) (C := C) (owner := o) (As := ((st.take n').reverse).map (am_cv b sa)) ⟨hx, hb, hml, hown, hts⟩ hMet (va_cwU n' hts hg rfl rfl rfl h6 ⟨by rw [ho]; exact hmh.1, by rw [ho]; exact hmh.2, by rw [← hxd]; exact hnq⟩ hR) ⟨am_blind hNs _, hrecv, hpre⟩ rfl (am_nlen hdr) hl.1 (by rw [am_stack _ n' hdr, List.map_cons, ea]) (am_hW hr8) hdg hf
                  · cases hq
                · rename_i idx' e1 e2
                  cases e2
                  split at hq
                  · rename_i C w1 w2 x w3 o w4 w5 hC hX hY
                    simp only [Bool.and_eq_true, decide_eq_true_eq] at hq
                    obtain ⟨⟨⟨⟨⟨⟨⟨h1, h3⟩, h4⟩, h5⟩, h6⟩, h7⟩, h8⟩, h9⟩ := hq
                    obtain ⟨a, ea, hrecv⟩ := am_recv hcl hU hP hS hci hC
                    rw [List.map_cons, ea] at hMet hpre ⊢
                    have hg : GoodIn G (va_wsU M.1.cls idx C o x M2.1 (am_ws M2 G)) := by
                      intro z hz
                      rcases List.mem_append.mp hz with hz | hz
                      · simp only [List.mem_cons, List.not_mem_nil, or_false] at hz
                        have hg : z ∈ G := by
                          rcases hz with rfl | rfl | rfl | rfl | rfl
                          · exact hTG _ (List.mem_of_getElem? h1) rfl
                          · exact hTG _ (List.mem_of_getElem? h5) rfl
                          · exact hTG _ (List.mem_of_getElem? h4) rfl
                          · exact hTG _ (List.mem_of_getElem? h3) rfl
                          · exact hini
                        exact ⟨hg, good_of_word (hGG z hg)⟩
                      · exact am_goodIn hO hj hM z hz
                    exact va_runU (b := a) (C := C) (owner := o) (As := ((st.take n').reverse).map (am_cv b sa)) ⟨hx, hb, hml, hown, hts⟩ hMet (va_cwA n' hts hg rfl rfl rfl (hU.2.1 _ (List.mem_of_getElem? h6)) ⟨h7, h8, by rw [← h9]; exact hnq⟩ hR) ⟨am_blind hNs _, hrecv, hpre⟩ rfl (am_nlen hdr) hl.1 (by rw [am_stack _ n' hdr, List.map_cons, ea]) (am_hW hr8) hdg hf
                  · cases hq
                · cases hq
              · cases hq
            · cases hc
          · cases hc
        · cases hc
      · cases hc
    · cases hc
  · cases hc
end AMC
end
section
theorem am_sort3 {i : Instr} (h0 : am_sort i = 0 → False) (h1 : am_sort i = 1 → False) (h2 : am_sort i = 2 → False) : (∃ k, i = .invokestatic k) ∨ (∃ k, i = .invokespecial k) ∨ ∃ k, i = .invokevirtual k := by
  cases i <;> first | exact absurd rfl h0 | exact absurd rfl h1 | exact absurd rfl h2 | exact Or.inl ⟨_, rfl⟩ | exact Or.inr (Or.inl ⟨_, rfl⟩) | exact Or.inr (Or.inr ⟨_, rfl⟩)
theorem am_okC_pos {Ts Ns : List Cond} {cl : List vw_C} {T : List am_M} {own : String} {i : Instr} {ci j : Nat} {dat : List Nat} (h : am_okC Ts Ns cl T own i ci (j :: dat) = true) : 0 < j := by
  unfold am_okC at h
  split at h
  · rename_i e1
    cases e1
    split at h
    · cases h
    · simp only [Bool.and_eq_true, decide_eq_true_eq] at h
      exact h.1.1
  · cases h
theorem am_call_pos {E : am_E} {Ts Ns : List Cond} {Rs : am_Rs} {Zs : am_Zs} {cl : List vw_C} {T : List am_M} {own nm : String} {nL : Nat} {num : Int} {h : am_H} {i : Instr} {lk : am_K} {st : List Value} {C : Nat × List Value × List Value} (hok : am_okI Ts Ns Rs Zs cl T own nm nL i num lk = true) (hnp : ¬ am_isP lk = true) (hc : am_call E h i lk st = some C) : 0 < C.1 := by
  unfold am_call at hc
  split at hc
  · rename_i k0 j0 n dat tl
    split at hc
    · split at hc
      · cases hc
        simp only [am_okI, if_neg hnp, Bool.and_eq_true] at hok
        exact am_okC_pos (List.all_eq_true.mp hok.2 _ (List.mem_cons_self))
      · cases hc
    · rename_i idx
      split at hc
      · cases hc
        have hq0 : ((k0, j0 :: n :: dat) :: tl).all (fun q => am_okC Ts Ns cl T own (.invokespecial idx) q.1 q.2) = true := (Bool.and_eq_true_iff.mp (show (!am_isP ((k0, j0 :: n :: dat) :: tl) && _) = true from hok)).2
        exact am_okC_pos (List.all_eq_true.mp hq0 _ (List.mem_cons_self))
      · cases hc
    · split at hc
      · split at hc
        · split at hc
          · rename_i j' n' dat' hkey
            split at hc
            · cases hc
              simp only [am_okI, Bool.and_eq_true] at hok
              exact am_okC_pos (List.all_eq_true.mp hok.2 _ (am_key_mem hkey))
            · cases hc
          · cases hc
        · cases hc
      · cases hc
    · cases hc
  · cases hc
/-- the run of a body is a walk of the machine -/
def am_B (l : Launch) (E : am_E) (T : List am_M) (cl : List vw_C) (G Ns : List Cond) (Rs : am_Rs) (Zs : am_Zs) (D : va_G) (K : Nat → ClassId) (b : Nat) (sa : Nat → Nat) (n : Nat) : Prop :=
  ∀ (d j pc : Nat) (M : am_M) (ls : am_L) (st : List Value) (h : am_H) (v : Option Value) (h' : am_H), T[j]? = some M → am_ex E T n d j pc ls st h = some (v, h') →
  ∀ (p : Program) (e : Env) (R : Room) (s : State) (m : MethodId) (args : Array Value) (below : List Frame) (meth : Method) (c : Code) (H : Heap) (locs : List Loc) (cells slots n0 tc ts : Nat) (Q : State → Prop) (Ls : Array Slot),
  am_Cx p s m meth c args M G → am_U D cl K b sa Ns Rs Zs E s → s.heap.size = b + n0 → cells + n0 = h.length → va_P D cl (am_W K b sa h) H → va_S (fun q => b ≤ q) s.heap H locs → lv_has Ls M.2.2.1 (am_cl b sa ls) →
  d ≤ R.frames → 60 * d ≤ R.locals → tc = cells + (h'.length - h.length) → ts = slots + (am_sz h' - am_sz h) → tc ≤ R.cells → ts ≤ R.slots →
  (∀ (pc' : Nat) (i : Instr) (num : Int) (H1 : Heap) (locs1 : List Loc) (Ls1 : Array Slot), am_ret M.2.2.2.1 i v.toList = some v → decode c.code pc' = .ok (i, am_len i num) → va_P D cl (am_W K b sa h') H1 → va_S (fun q => b ≤ q) s.heap H1 locs1 → W p l e R s m args below meth c H1 locs1 tc ts Q (F0 m pc' Ls1 (v.toList.map (am_cv b sa)))) →
  W p l e R s m args below meth c H locs cells slots Q (F0 m pc Ls (st.map (am_cv b sa)))
section AMB
variable {l : Launch} {E : am_E} {T : List am_M} {cl : List vw_C} {Ts G Ns : List Cond} {Rs : am_Rs} {Zs : am_Zs} {D : va_G} {K : Nat → ClassId} {b : Nat} {sa : Nat → Nat}
/-- A METHOD's CONTRACT out of its run -/
theorem am_met_of {n : Nat} (hO : am_OK E T cl Ts G Ns Rs Zs) (hB : am_B l E T cl G Ns Rs Zs D K b sa n) {d j : Nat} {M : am_M} {as : List Value} {h : am_H} {v : Option Value} {h' : am_H} (hj : 0 < j) (hM : T[j]? = some M) (ha : am_sum as ≤ M.2.2.1) (hex : am_ex E T n d j 0 (lv_args 0 as) [] h = some (v, h')) :
    Met l M.1 (am_ws M G) (am_rm d (h'.length - h.length) (am_sz h' - am_sz h)) (va_Pc (as.map (am_cv b sa)) (am_Pre D cl K b sa Ns Rs Zs E h)) (am_Post D cl K b sa Ns Rs Zs E v h') (h'.length - h.length) (am_sz h' - am_sz h) (fun q => b ≤ q) := by
  obtain ⟨-, -, hpl, -⟩ := hO.2.2.2.2.2.2.1 j M hj hM
  refine Met.ofW (cc := M.2.1) (maxL := M.2.2.1) (ret := M.2.2.2.1) hpl rfl ?_
  intro p e s m args below meth c s₁ B hml hv
  obtain ⟨rfl, hsz, hP, hU⟩ := hv
  have hts := atoms_spec (ws := am_ws M G) B.pre
  have hlocks := B.notSynchronized
  have hl := lv_entry (as.map (am_cv b sa)) (n := M.2.2.1) (by rw [am_wid, am_sum_cv]; exact ha)
  rw [am_args_cv] at hl
  rw [lg_entry_eq]
  refine hB d j 0 M (lv_args 0 as) [] h v h' hM hex p e _ s m _ below meth c s.heap [] 0 0 h.length (h'.length - h.length) (am_sz h' - am_sz h) _ _ ⟨B.exec, B.bytes, hml, findClass_of_methodNamed B.named, fun w hw => hts w (List.mem_cons_of_mem _ hw), (name_of_methodNamed B.named B.method).1, B.returns, hlocks⟩ hU hsz (by omega) hP va_S.rf hl (Nat.le_refl _) (Nat.le_refl _) (by omega) (by omega) (Nat.le_refl _) (Nat.le_refl _) ?_
  intro pc' i num H1 locs1 Ls1 hr hdg hP1 hS1
  have hb : c.code = M.2.1 := B.bytes
  rw [hb] at hdg
  have hret := B.returns
  have post : ∀ t : State, t.heap = H1 → s.WarmedH t.vm → am_Post D cl K b sa Ns Rs Zs E v h' (as.map (am_cv b sa)).toArray s (.returned (v.map (am_cv b sa))) t := fun t ht hW => ⟨rfl, by rw [ht]; exact hP1, hS1.F ht⟩
  unfold am_ret at hr
  split at hr
  · rename_i e1
    split at hr
    · rename_i e2
      cases hr
      exact W.vret B.exec hb (by rw [hret]; exact e2) post hS1.2.2 hdg
    · cases hr
  · rename_i x e1
    split at hr
    · rename_i e2
      cases hr
      exact W.iret B.exec hb (by rw [hret]; exact e2) post hS1.2.2 hdg
    · rename_i e2
      split at hr
      · rename_i hx
        cases hr
        exact W.zret (ty := .boolean) B.exec hb (by rw [hret]; exact e2) (by rcases hx with rfl | rfl <;> decide) post hS1.2.2 hdg
      · cases hr
    · rename_i e2
      split at hr
      · rename_i hx
        cases hr
        exact W.zret (ty := .char) B.exec hb (by rw [hret]; exact e2) hx post hS1.2.2 hdg
      · cases hr
    · rename_i e2
      split at hr
      · rename_i hx
        cases hr
        exact W.zret (ty := .byte) B.exec hb (by rw [hret]; exact e2) hx post hS1.2.2 hdg
      · cases hr
    · cases hr
  · rename_i x e1
    split at hr
    · rename_i e2
      cases hr
      exact W.lret B.exec hb (by rw [hret]; exact e2) post hS1.2.2 hdg
    · cases hr
  · cases hr
set_option maxHeartbeats 4000000 in
/-- THE RUN IS A WALK -/
theorem am_body (hO : am_OK E T cl Ts G Ns Rs Zs) : ∀ n, am_B l E T cl G Ns Rs Zs D K b sa n := by
  intro n
  induction n with
  | zero => intro d j pc M ls st h v h' _ hex; cases hex
  | succ n ih =>
    intro d j pc M ls st h v h' hM hex p e R s m args below meth c H locs cells slots n0 tc ts Q Ls C hU hz hn hP hS hl hd hlo htc hts' hRc hRs kr
    obtain ⟨hTG, hGG, hNs, hCL, hcl, hOI, hTM, hTQ⟩ := id hO
    obtain ⟨hx, hb, hml, hown, hts, hnm, hret, hlocks⟩ := id C
    unfold am_ex at hex
    rw [hM] at hex
    simp only at hex
    split at hex
    · cases hex
    · rename_i q hq
      obtain ⟨hq1, hq2⟩ := am_find_mem hq
      have hokq := hTQ j M hM q hq1
      unfold am_okQ at hokq
      rw [Bool.and_eq_true] at hokq
      obtain ⟨hdg0, hok⟩ := hokq
      have hdg := of_decide_eq_true hdg0
      rw [hq2] at hdg
      split at hex
      · split at hex
        · cases hex
        · rename_i S hst
          exact am_step_ok hx hb hown hts hTG hCL hcl hU hP hS hdg hok hst hl (fun Ls' hl' => ih d j S.1 M S.2.1 S.2.2 h v h' hM hex p e R s m args below meth c H locs cells slots n0 tc ts Q Ls' C hU hz hn hP hS hl' hd hlo htc hts' hRc hRs kr)
      · split at hex
        · cases hex
        · rename_i w hw
          cases hex
          have e1 := am_ret_st hw
          rw [e1] at hw ⊢
          have h1 := kr pc q.2.1 q.2.2.1 H locs Ls hw (by rw [hb]; exact hdg) hP hS
          rw [htc, hts', Nat.sub_self, Nat.sub_self, Nat.add_zero, Nat.add_zero] at h1
          exact h1
      · split at hex
        · cases hex
        · rename_i S hst
          have m1 := am_hs_mono hst
          have m2 := am_ex_mono _ _ _ _ _ _ _ _ _ hex
          exact am_hs_ok hx hb hown hnm hts hTG hCL hU hz hn hP hS hdg hok hst ⟨by omega, by omega⟩ (fun H1 locs1 hP1 hS1 => ih d j _ M ls S.1 S.2 v h' hM hex p e R s m args below meth c H1 locs1 _ _ n0 tc ts Q Ls C hU hz (by omega) hP1 hS1 hl hd hlo (by omega) (by omega) hRc hRs kr)
      · rename_i hs0 hs1 hs2
        have hi3 := am_sort3 hs0 hs1 hs2
        have hlen : am_len q.2.1 q.2.2.1 = 3 := by
          rcases hi3 with ⟨k, e⟩ | ⟨k, e⟩ | ⟨k, e⟩ <;> rw [e] <;> rfl
        rw [hlen] at hdg
        split at hex
        · cases hex
        · rename_i d'
          split at hex
          · rename_i hlk
            split at hex
            · rename_i a r
              split at hex
              · rename_i h8
                rw [hlk] at hok
                have hi : ∃ idx, q.2.1 = .invokespecial idx ∧ (Cond.methodLink M.1.cls idx objectInit).before args s = true := by
                  rcases hi3 with ⟨k, e⟩ | ⟨k, e⟩ | ⟨k, e⟩
                  · rw [e] at hok
                    cases hok
                  · rw [e] at hok
                    exact ⟨k, e, hts _ (hTG _ (List.mem_of_getElem? (of_decide_eq_true (show decide _ = true from hok))) rfl)⟩
                  · rw [e] at hok
                    cases hok
                obtain ⟨idx, hi1, hi2⟩ := hi
                rw [hi1] at hdg
                have h8' := am_hW (m := m) (pc := pc) (Ls := Ls) (st := .ref a :: r) (b := b) (sa := sa) h8
                refine W.objInit hx hb hown hi2 (hts _ hOI.1) (hts _ hOI.2) rfl (by rw [hml]; exact hl.1) rfl hdg (by omega) (Nat.le_trans (Nat.add_le_add_right h8' 12) (by omega)) ?_
                exact ih (d' + 1) j (pc + 3) M ls r h v h' hM hex p e R s m args below meth c H locs cells slots n0 tc ts Q Ls C hU hz hn hP hS hl hd hlo htc hts' hRc hRs kr
              · cases hex
            · cases hex
          · rename_i hlk
            split at hex
            · rename_i hip
              split at hex
              · cases hex
              · rename_i P hmath
                split at hex
                · rename_i h8
                  have h13 : (P.2.map (am_cv b sa)).map (fun v => v.category) = P.2.map (fun v => v.category) := by
                    rw [List.map_map]
                    apply List.map_congr_left
                    intro z _
                    exact am_cat b sa z
                  have h8' : ((P.2.map (am_cv b sa)).map fun v => v.category).sum + 13 ≤ R.locals := by
                    rw [h13]
                    unfold am_sum at h8
                    omega
                  have hce := am_ex_mono _ _ _ _ _ _ _ _ _ hex
                  have go := ih (d' + 1) j (pc + 3) M ls P.1 h v h' hM hex p e R s m args below meth c H locs cells slots n0 tc ts Q Ls C hU hz hn hP hS hl hd hlo htc hts' hRc hRs kr
                  rcases hi3 with ⟨k, e1⟩ | ⟨k, e1⟩ | ⟨k, e1⟩
                  · rw [e1] at hok hdg
                    simp only [am_okI, if_pos hip] at hok
                    unfold am_math at hmath
                    split at hmath
                    · rename_i hq4
                      cases hmath
                      rw [hq4] at hok
                      unfold am_okM at hok
                      split at hok
                      · simp only [Bool.and_eq_true, decide_eq_true_eq] at hok
                        obtain ⟨⟨⟨g1, g2⟩, g3⟩, g4⟩ := hok
                        exact va_mmax hx hb (hml.trans hl.1.symm) hown (hts _ (hTG _ (List.mem_of_getElem? g1) rfl)) (hts _ (hTG _ (List.mem_of_getElem? g2) rfl)) (hts _ (hTG _ (List.mem_of_getElem? g3) rfl)) (hts _ (hTG _ (List.mem_of_getElem? g4) rfl)) (by omega) h8' (by omega) (by omega) hdg go
                      · rename_i e5
                        cases e5
                      · cases hok
                    · rename_i hq4
                      cases hmath
                      rw [hq4] at hok
                      unfold am_okM at hok
                      split at hok
                      · rename_i e5
                        cases e5
                      · simp only [Bool.and_eq_true, decide_eq_true_eq] at hok
                        obtain ⟨⟨⟨g1, g2⟩, g3⟩, g4⟩ := hok
                        exact va_mmin hx hb (hml.trans hl.1.symm) hown (hts _ (hTG _ (List.mem_of_getElem? g1) rfl)) (hts _ (hTG _ (List.mem_of_getElem? g2) rfl)) (hts _ (hTG _ (List.mem_of_getElem? g3) rfl)) (hts _ (hTG _ (List.mem_of_getElem? g4) rfl)) (by omega) h8' (by omega) (by omega) hdg go
                      · cases hok
                    · cases hmath
                  · rw [e1] at hok
                    simp only [am_okI] at hok
                    rw [hip] at hok
                    cases hok
                  · rw [e1] at hok
                    simp only [am_okI, hip] at hok
                    cases hok
                · cases hex
            · rename_i hnp
              split at hex
              · cases hex
              · rename_i CC hcall
                split at hex
                · cases hex
                · rename_i M2 hM2
                  split at hex
                  · rename_i hcond
                    split at hex
                    · cases hex
                    · rename_i Z hZ
                      have m1 := am_ex_mono _ _ _ _ _ _ _ _ _ hZ
                      have m2 := am_ex_mono _ _ _ _ _ _ _ _ _ hex
                      have hj : 0 < CC.1 := am_call_pos hok hnp hcall
                      have hMet := am_met_of (l := l) (D := D) (K := K) (b := b) (sa := sa) hO ih (as := CC.2.1) hj hM2 hcond.2.2 hZ
                      refine am_szW hz hn hP hS (fun hHz => ?_)
                      refine am_after (am_run_ok hO C hU hHz hP hS hl hdg hok hcall (fun e => hlk e) hnp hM2 hcond.1 hcond.2.1 hd hlo ⟨by omega, by omega⟩ hMet) hS (fun H1 locs1 hP1 hS1 => ?_)
                      have hst : (Z.1.map (am_cv b sa)).toList ++ CC.2.2.map (am_cv b sa) = (Z.1.toList ++ CC.2.2).map (am_cv b sa) := by cases Z.1 <;> rfl
                      rw [hst]
                      exact ih (d' + 1) j (pc + 3) M ls _ Z.2 v h' hM hex p e R s m args below meth c H1 locs1 _ _ n0 tc ts Q Ls C hU hz (by omega) hP1 hS1 hl hd hlo (by omega) (by omega) hRc hRs kr
                  · cases hex
end AMB
end
section
/-! RUNS, by rows: a run from a state, out of a run from the next one. -/
theorem am_ex_up {E E' : am_E} {T : List am_M} (h1 : ∀ pc i num lk ls st h S, am_step E pc i num lk ls st h = some S → am_step E' pc i num lk ls st h = some S) (h2 : ∀ i lk st h S, am_hs E i lk st h = some S → am_hs E' i lk st h = some S) (h3 : ∀ h i lk st C, am_call E h i lk st = some C → am_call E' h i lk st = some C) :
    ∀ (n n' d d' j pc : Nat) (ls : am_L) (st : List Value) (h : am_H) (r : Option Value × am_H), n ≤ n' → d ≤ d' → am_ex E T n d j pc ls st h = some r → am_ex E' T n' d' j pc ls st h = some r := by
  intro n
  induction n with
  | zero => intro n' d d' j pc ls st h r _ _ hs; cases hs
  | succ n ih =>
    intro n' d d' j pc ls st h r hn hd hs
    obtain ⟨m, rfl⟩ : ∃ m, n' = m + 1 := ⟨n' - 1, by omega⟩
    have hn : n ≤ m := by omega
    unfold am_ex at hs ⊢
    split at hs
    · cases hs
    · rename_i M hM
      try simp only [hM]
      split at hs
      · cases hs
      · rename_i q hq
        try simp only [hq]
        split at hs
        · rename_i hso
          try simp only [hso]
          split at hs
          · cases hs
          · rename_i S hS
            try simp only [h1 _ _ _ _ _ _ _ _ hS]
            exact ih _ _ _ _ _ _ _ _ _ hn hd hs
        · rename_i hso
          try simp only [hso]
          exact hs
        · rename_i hso
          try simp only [hso]
          split at hs
          · cases hs
          · rename_i S hS
            try simp only [h2 _ _ _ _ _ hS]
            exact ih _ _ _ _ _ _ _ _ _ hn hd hs
        · rename_i s0 s1 s2
          split at hs
          · cases hs
          · rename_i d1
            obtain ⟨e', rfl⟩ : ∃ e', d' = e' + 1 := ⟨d' - 1, by omega⟩
            have hd1 : d1 ≤ e' := by omega
            try simp only
            split at hs
            · rename_i hlk
              try simp only [hlk]
              split at hs
              · split at hs
                · rename_i h8
                  try simp only [h8, if_true]
                  exact ih _ _ _ _ _ _ _ _ _ hn hd hs
                · cases hs
              · cases hs
            · rename_i hlk
              try simp only
              split at hs
              · rename_i hp
                try simp only [hp, if_true]
                split at hs
                · cases hs
                · rename_i P hP
                  try simp only [hP]
                  split at hs
                  · rename_i h8
                    try simp only [h8, if_true]
                    exact ih _ _ _ _ _ _ _ _ _ hn hd hs
                  · cases hs
              · rename_i hp
                try simp only [hp, if_false]
                split at hs
                · cases hs
                · rename_i C hC
                  try simp only [h3 _ _ _ _ _ hC]
                  split at hs
                  · cases hs
                  · rename_i M2 hM2
                    try simp only [hM2]
                    split at hs
                    · rename_i hc
                      try rw [if_pos hc]
                      split at hs
                      · cases hs
                      · rename_i Z hZ
                        try simp only [ih _ _ _ _ _ _ _ _ _ hn hd1 hZ]
                        exact ih _ _ _ _ _ _ _ _ _ hn hd hs
                    · cases hs
theorem am_ex_same {E : am_E} {T : List am_M} {n n' d d' j pc : Nat} {ls : am_L} {st : List Value} {h : am_H} {r : Option Value × am_H} (hn : n ≤ n') (hd : d ≤ d') (hs : am_ex E T n d j pc ls st h = some r) : am_ex E T n' d' j pc ls st h = some r :=
  am_ex_up (fun _ _ _ _ _ _ _ _ z => z) (fun _ _ _ _ _ z => z) (fun _ _ _ _ _ z => z) n n' d d' j pc ls st h r hn hd hs
theorem am_step_sc {a : List (List Value)} {t : List (List Int32)} {z : List Value} {sc : Option (Nat × (Nat → Int32))} {pc : Nat} {i : Instr} {num : Int} {lk : am_K} {ls : am_L} {st : List Value} {h : am_H} {S : Nat × am_L × List Value} (hs : am_step (a, t, z, none) pc i num lk ls st h = some S) : am_step (a, t, z, sc) pc i num lk ls st h = some S := by
  have hrow : ∀ (k : Nat) (v : Value) (r : Nat × (Nat → Int32)), am_rowI (a, t, z, none) h k v = some r → am_rowI (a, t, z, sc) h k v = some r := by
    intro k v r hr
    unfold am_rowI at hr ⊢
    split at hr
    · exact hr
    · split at hr
      · split at hr
        · cases hr
        · cases hr
      · rename_i h9
        simp only [h9, if_false]
        exact hr
    · cases hr
  have hrd : ∀ np k, am_rdI (a, t, z, none) np k ls h st = some S → am_rdI (a, t, z, sc) np k ls h st = some S := by
    intro np k hr
    unfold am_rdI at hr ⊢
    split at hr
    · split at hr
      · rename_i hq
        simp only [hrow _ _ _ hq]
        exact hr
      · cases hr
    · cases hr
  have hln : ∀ np, am_alen (a, t, z, none) np ls h st = some S → am_alen (a, t, z, sc) np ls h st = some S := by
    intro np hr
    unfold am_alen at hr ⊢
    split at hr
    · rename_i v0 r0
      split at hr
      · rename_i n hq
        have h2 : am_len0 (a, t, z, sc) h v0 = some n := by
          unfold am_len0 at hq ⊢
          split at hq
          · exact hq
          · split at hq
            · cases hq
            · rename_i h9
              simp only [h9, if_false]
              exact hq
          · cases hq
        simp only [h2]
        exact hr
      · cases hr
    · cases hr
  cases i <;> first | exact hs | exact hrd _ _ hs | exact hln _ hs
theorem am_ex_sc {a : List (List Value)} {t : List (List Int32)} {z : List Value} (sc : Option (Nat × (Nat → Int32))) {T : List am_M} {n n' d d' j pc : Nat} {ls : am_L} {st : List Value} {h : am_H} {r : Option Value × am_H} (hn : n ≤ n') (hd : d ≤ d') (hs : am_ex (a, t, z, none) T n d j pc ls st h = some r) : am_ex (a, t, z, sc) T n' d' j pc ls st h = some r :=
  am_ex_up (E := (a, t, z, none)) (E' := (a, t, z, sc)) (fun _ _ _ _ _ _ _ _ q => am_step_sc q) (fun _ _ _ _ _ q => q) (fun _ _ _ _ _ q => q) n n' d d' j pc ls st h r hn hd hs
def am_run (E : am_E) (T : List am_M) (d j pc : Nat) (ls : am_L) (st : List Value) (h : am_H) (v : Option Value) (h' : am_H) : Prop := ∃ n, am_ex E T n d j pc ls st h = some (v, h')
section AMR2
variable {E : am_E} {T : List am_M} {d j pc : Nat} {ls : am_L} {st : List Value} {h : am_H} {v : Option Value} {h' : am_H} {M : am_M} {q : am_Q}
theorem am_r0 {S : Nat × am_L × List Value} (hM : T[j]? = some M) (hq : am_find M.2.2.2.2 pc = some q) (hso : am_sort q.2.1 = 0) (hs : am_step E pc q.2.1 q.2.2.1 q.2.2.2 ls st h = some S) (k : am_run E T d j S.1 S.2.1 S.2.2 h v h') : am_run E T d j pc ls st h v h' := by
  obtain ⟨n, hn⟩ := k
  exact ⟨n + 1, by simp only [am_ex, hM, hq, hso, hs]; exact hn⟩
theorem am_r2 {S : List Value × am_H} (hM : T[j]? = some M) (hq : am_find M.2.2.2.2 pc = some q) (hso : am_sort q.2.1 = 2) (hs : am_hs E q.2.1 q.2.2.2 st h = some S) (k : am_run E T d j (pc + am_len q.2.1 q.2.2.1) ls S.1 S.2 v h') : am_run E T d j pc ls st h v h' := by
  obtain ⟨n, hn⟩ := k
  exact ⟨n + 1, by simp only [am_ex, hM, hq, hso, hs]; exact hn⟩
theorem am_r1 (hM : T[j]? = some M) (hq : am_find M.2.2.2.2 pc = some q) (hso : am_sort q.2.1 = 1) (hs : am_ret M.2.2.2.1 q.2.1 st = some v) : am_run E T d j pc ls st h v h :=
  ⟨1, by simp only [am_ex, hM, hq, hso, hs]⟩
/-- a call -/
theorem am_rC {j2 : Nat} {as r : List Value} {M2 : am_M} {v2 : Option Value} {h2 : am_H} (hM : T[j]? = some M) (hq : am_find M.2.2.2.2 pc = some q) (hso : am_sort q.2.1 = 3) (hlk : q.2.2.2.isEmpty = false) (hp : am_isP q.2.2.2 = false) (hc : am_call E h q.2.1 q.2.2.2 st = some (j2, as, r)) (hM2 : T[j2]? = some M2) (hcond : am_sum r ≤ 8 ∧ M2.2.2.1 ≤ 41 ∧ am_sum as ≤ M2.2.2.1) (k1 : am_run E T d j2 0 (lv_args 0 as) [] h v2 h2) (k2 : am_run E T (d + 1) j (pc + 3) ls (v2.toList ++ r) h2 v h') : am_run E T (d + 1) j pc ls st h v h' := by
  obtain ⟨n1, hn1⟩ := k1
  obtain ⟨n2, hn2⟩ := k2
  refine ⟨max n1 n2 + 1, ?_⟩
  have g1 := am_ex_same (Nat.le_max_left n1 n2) (Nat.le_refl d) hn1
  have g2 := am_ex_same (Nat.le_max_right n1 n2) (Nat.le_refl (d + 1)) hn2
  unfold am_ex
  simp only [hM, hq, hso]
  cases hl : q.2.2.2 with
  | nil => rw [hl] at hlk; cases hlk
  | cons x y =>
    rw [hl] at hc hp
    simp only [hp, hc, hM2, if_pos hcond, g1, g2]
    rfl
/-- a field is read -/
theorem am_rG {a ci k : Nat} {fs : List Value} {w : Value} {idx : Nat} {num : Int} {lk : am_K} {dat : List Nat} (hM : T[j]? = some M) (hq : am_find M.2.2.2.2 pc = some (pc, .getfield idx, num, lk)) (hh : h[a]? = some (.inr (.inr (ci, fs)))) (hk : am_key lk ci = some (k :: dat)) (hf : fs[k]? = some w) (kk : am_run E T d j (pc + 3) ls (w :: st) h v h') : am_run E T d j pc ls (.ref a :: st) h v h' :=
  am_r0 (S := (pc + 3, ls, w :: st)) hM hq rfl (by simp only [am_step, am_gf, am_fld, hh, hk, hf]) kk
/-- a field is written -/
theorem am_rW {a ci k tag : Nat} {fs : List Value} {w : Value} {idx : Nat} {num : Int} {lk : am_K} {dat : List Nat} (hM : T[j]? = some M) (hq : am_find M.2.2.2.2 pc = some (pc, .putfield idx, num, lk)) (hh : h[a]? = some (.inr (.inr (ci, fs)))) (hk : am_key lk ci = some (k :: tag :: dat)) (ht : am_fit tag w = true) (hf : k < fs.length) (kk : am_run E T d j (pc + 3) ls st (h.set a (.inr (.inr (ci, fs.set k w)))) v h') : am_run E T d j pc ls (w :: .ref a :: st) h v h' :=
  am_r2 (S := (st, h.set a (.inr (.inr (ci, fs.set k w))))) hM hq rfl (by simp only [am_hs, am_pf, hh, hk, ht, hf, and_self, if_true]) kk
/-- branches -/
theorem am_rT {x : Int32} {c : ClassFile.Cond} {off num : Int} {lk : am_K} {tgt : Nat} (hM : T[j]? = some M) (hq : am_find M.2.2.2.2 pc = some (pc, .ifCond c off, num, lk)) (hc : am_cmp c x 0 = true) (ht : (pc : Int) + off = (tgt : Int)) (kk : am_run E T d j tgt ls st h v h') : am_run E T d j pc ls (.int x :: st) h v h' :=
  am_r0 (S := (tgt, ls, st)) hM hq rfl (by simp only [am_step, am_if, am_br, hc, ht]; simp) kk
theorem am_rF {x : Int32} {c : ClassFile.Cond} {off num : Int} {lk : am_K} {tgt : Nat} (hM : T[j]? = some M) (hq : am_find M.2.2.2.2 pc = some (pc, .ifCond c off, num, lk)) (hc : am_cmp c x 0 = false) (ht : (pc : Int) + off = (tgt : Int)) (kk : am_run E T d j (pc + 3) ls st h v h') : am_run E T d j pc ls (.int x :: st) h v h' :=
  am_r0 (S := (pc + 3, ls, st)) hM hq rfl (by simp only [am_step, am_if, am_br, hc, ht]; simp) kk
theorem am_rT2 {x y : Int32} {c : ClassFile.Cond} {off num : Int} {lk : am_K} {tgt : Nat} (hM : T[j]? = some M) (hq : am_find M.2.2.2.2 pc = some (pc, .if_icmp c off, num, lk)) (hc : am_cmp c x y = true) (ht : (pc : Int) + off = (tgt : Int)) (kk : am_run E T d j tgt ls st h v h') : am_run E T d j pc ls (.int y :: .int x :: st) h v h' :=
  am_r0 (S := (tgt, ls, st)) hM hq rfl (by simp only [am_step, am_if2, am_br, hc, ht]; simp) kk
theorem am_rF2 {x y : Int32} {c : ClassFile.Cond} {off num : Int} {lk : am_K} {tgt : Nat} (hM : T[j]? = some M) (hq : am_find M.2.2.2.2 pc = some (pc, .if_icmp c off, num, lk)) (hc : am_cmp c x y = false) (ht : (pc : Int) + off = (tgt : Int)) (kk : am_run E T d j (pc + 3) ls st h v h') : am_run E T d j pc ls (.int y :: .int x :: st) h v h' :=
  am_r0 (S := (pc + 3, ls, st)) hM hq rfl (by simp only [am_step, am_if2, am_br, hc, ht]; simp) kk
theorem am_rJ {off num : Int} {lk : am_K} {tgt : Nat} (hM : T[j]? = some M) (hq : am_find M.2.2.2.2 pc = some (pc, .goto off, num, lk)) (ht : (pc : Int) + off = (tgt : Int)) (kk : am_run E T d j tgt ls st h v h') : am_run E T d j pc ls st h v h' :=
  am_r0 (S := (tgt, ls, st)) hM hq rfl (by simp only [am_step, am_jp, ht]; simp) kk
end AMR2
end
