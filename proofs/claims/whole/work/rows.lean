section
-- ===== PART A: goes FIRST, ahead of the names: the tables' words, and 'selects' of the private methods out of them =====
/-- a private method of a class that the tables say can be made, by its rows of tables_1 -/
def lw_okq (q : MethodName × Nat) : Prop := (q.1.cls ≠ "java/lang/invoke/MethodHandle" ∧ q.1.cls ≠ "java/lang/invoke/VarHandle") ∧ Cond.instantiable q.1.cls q.2 ∈ tables_1 ∧ Cond.privateMethod q.1 ∈ tables_1 ∧ Cond.instanceMethod q.1 ∈ tables_1
theorem lw_p0 : lw_okq (⟨"PlanarityTester$History", "forgetOldest", "()V"⟩, 4) := ⟨⟨by decide +kernel, by decide +kernel⟩, List.mem_of_getElem? (i := 42) (by decide +kernel), List.mem_of_getElem? (i := 279) (by decide +kernel), List.mem_of_getElem? (i := 280) (by decide +kernel)⟩
theorem lw_p1 : lw_okq (⟨"PlanarityTester$Plan", "fillNear", "()V"⟩, 11) := ⟨⟨by decide +kernel, by decide +kernel⟩, List.mem_of_getElem? (i := 85) (by decide +kernel), List.mem_of_getElem? (i := 332) (by decide +kernel), List.mem_of_getElem? (i := 333) (by decide +kernel)⟩
theorem lw_p2 : lw_okq (⟨"PlanarityTester$Plan", "blockAround", "(II)I"⟩, 11) := ⟨⟨by decide +kernel, by decide +kernel⟩, List.mem_of_getElem? (i := 85) (by decide +kernel), List.mem_of_getElem? (i := 353) (by decide +kernel), List.mem_of_getElem? (i := 354) (by decide +kernel)⟩
theorem lw_p3 : lw_okq (⟨"PlanarityTester$Embedding", "start", "([II)V"⟩, 16) := ⟨⟨by decide +kernel, by decide +kernel⟩, List.mem_of_getElem? (i := 91) (by decide +kernel), List.mem_of_getElem? (i := 367) (by decide +kernel), List.mem_of_getElem? (i := 368) (by decide +kernel)⟩
theorem lw_p4 : lw_okq (⟨"PlanarityTester$Embedding", "placeCycle", "()Z"⟩, 16) := ⟨⟨by decide +kernel, by decide +kernel⟩, List.mem_of_getElem? (i := 91) (by decide +kernel), List.mem_of_getElem? (i := 380) (by decide +kernel), List.mem_of_getElem? (i := 381) (by decide +kernel)⟩
theorem lw_p5 : lw_okq (⟨"PlanarityTester$Embedding", "findPath", "(III)Z"⟩, 16) := ⟨⟨by decide +kernel, by decide +kernel⟩, List.mem_of_getElem? (i := 91) (by decide +kernel), List.mem_of_getElem? (i := 388) (by decide +kernel), List.mem_of_getElem? (i := 389) (by decide +kernel)⟩
theorem lw_p6 : lw_okq (⟨"PlanarityTester$Embedding", "placeEdge", "(II)V"⟩, 16) := ⟨⟨by decide +kernel, by decide +kernel⟩, List.mem_of_getElem? (i := 91) (by decide +kernel), List.mem_of_getElem? (i := 396) (by decide +kernel), List.mem_of_getElem? (i := 397) (by decide +kernel)⟩
theorem lw_p7 : lw_okq (⟨"PlanarityTester$Embedding", "chooseFragment", "()Z"⟩, 16) := ⟨⟨by decide +kernel, by decide +kernel⟩, List.mem_of_getElem? (i := 91) (by decide +kernel), List.mem_of_getElem? (i := 400) (by decide +kernel), List.mem_of_getElem? (i := 401) (by decide +kernel)⟩
theorem lw_p8 : lw_okq (⟨"PlanarityTester$Embedding", "weigh", "(II)Z"⟩, 16) := ⟨⟨by decide +kernel, by decide +kernel⟩, List.mem_of_getElem? (i := 91) (by decide +kernel), List.mem_of_getElem? (i := 405) (by decide +kernel), List.mem_of_getElem? (i := 406) (by decide +kernel)⟩
theorem lw_p9 : lw_okq (⟨"PlanarityTester$Embedding", "choosePath", "()Z"⟩, 16) := ⟨⟨by decide +kernel, by decide +kernel⟩, List.mem_of_getElem? (i := 91) (by decide +kernel), List.mem_of_getElem? (i := 409) (by decide +kernel), List.mem_of_getElem? (i := 410) (by decide +kernel)⟩
theorem lw_p10 : lw_okq (⟨"PlanarityTester$Embedding", "splitFace", "()V"⟩, 16) := ⟨⟨by decide +kernel, by decide +kernel⟩, List.mem_of_getElem? (i := 91) (by decide +kernel), List.mem_of_getElem? (i := 413) (by decide +kernel), List.mem_of_getElem? (i := 414) (by decide +kernel)⟩
theorem lw_p11 : lw_okq (⟨"PlanarityTester$Plan", "keepBlock", "(I)V"⟩, 11) := ⟨⟨by decide +kernel, by decide +kernel⟩, List.mem_of_getElem? (i := 85) (by decide +kernel), List.mem_of_getElem? (i := 417) (by decide +kernel), List.mem_of_getElem? (i := 418) (by decide +kernel)⟩
theorem lw_p12 : lw_okq (⟨"PlanarityTester$EditText", "formAt", "(I)Ljava/lang/String;"⟩, 5) := ⟨⟨by decide +kernel, by decide +kernel⟩, List.mem_of_getElem? (i := 63) (by decide +kernel), List.mem_of_getElem? (i := 471) (by decide +kernel), List.mem_of_getElem? (i := 472) (by decide +kernel)⟩
theorem lw_p13 : lw_okq (⟨"PlanarityTester$EditText", "signAt", "(I)I"⟩, 5) := ⟨⟨by decide +kernel, by decide +kernel⟩, List.mem_of_getElem? (i := 63) (by decide +kernel), List.mem_of_getElem? (i := 475) (by decide +kernel), List.mem_of_getElem? (i := 476) (by decide +kernel)⟩
theorem lw_p14 : lw_okq (⟨"PlanarityTester$EditText", "signsRight", "(ILjava/lang/String;)I"⟩, 5) := ⟨⟨by decide +kernel, by decide +kernel⟩, List.mem_of_getElem? (i := 63) (by decide +kernel), List.mem_of_getElem? (i := 484) (by decide +kernel), List.mem_of_getElem? (i := 485) (by decide +kernel)⟩
theorem lw_p15 : lw_okq (⟨"PlanarityTester", "carryOut", "(CII)Z"⟩, 9) := ⟨⟨by decide +kernel, by decide +kernel⟩, List.mem_of_getElem? (i := 18) (by decide +kernel), List.mem_of_getElem? (i := 561) (by decide +kernel), List.mem_of_getElem? (i := 562) (by decide +kernel)⟩
def lw_privs_1 : List (MethodName × Nat) := [(⟨"PlanarityTester$History", "forgetOldest", "()V"⟩, 4), (⟨"PlanarityTester$Plan", "fillNear", "()V"⟩, 11), (⟨"PlanarityTester$Plan", "blockAround", "(II)I"⟩, 11), (⟨"PlanarityTester$Embedding", "start", "([II)V"⟩, 16), (⟨"PlanarityTester$Embedding", "placeCycle", "()Z"⟩, 16), (⟨"PlanarityTester$Embedding", "findPath", "(III)Z"⟩, 16), (⟨"PlanarityTester$Embedding", "placeEdge", "(II)V"⟩, 16), (⟨"PlanarityTester$Embedding", "chooseFragment", "()Z"⟩, 16), (⟨"PlanarityTester$Embedding", "weigh", "(II)Z"⟩, 16), (⟨"PlanarityTester$Embedding", "choosePath", "()Z"⟩, 16), (⟨"PlanarityTester$Embedding", "splitFace", "()V"⟩, 16), (⟨"PlanarityTester$Plan", "keepBlock", "(I)V"⟩, 11), (⟨"PlanarityTester$EditText", "formAt", "(I)Ljava/lang/String;"⟩, 5), (⟨"PlanarityTester$EditText", "signAt", "(I)I"⟩, 5), (⟨"PlanarityTester$EditText", "signsRight", "(ILjava/lang/String;)I"⟩, 5), (⟨"PlanarityTester", "carryOut", "(CII)Z"⟩, 9)]
theorem lw_r1 : ∀ q ∈ lw_privs_1, lw_okq q := List.forall_mem_cons.mpr ⟨lw_p0, List.forall_mem_cons.mpr ⟨lw_p1, List.forall_mem_cons.mpr ⟨lw_p2, List.forall_mem_cons.mpr ⟨lw_p3, List.forall_mem_cons.mpr ⟨lw_p4, List.forall_mem_cons.mpr ⟨lw_p5, List.forall_mem_cons.mpr ⟨lw_p6, List.forall_mem_cons.mpr ⟨lw_p7, List.forall_mem_cons.mpr ⟨lw_p8, List.forall_mem_cons.mpr ⟨lw_p9, List.forall_mem_cons.mpr ⟨lw_p10, List.forall_mem_cons.mpr ⟨lw_p11, List.forall_mem_cons.mpr ⟨lw_p12, List.forall_mem_cons.mpr ⟨lw_p13, List.forall_mem_cons.mpr ⟨lw_p14, List.forall_mem_cons.mpr ⟨lw_p15, fun _ h => absurd h List.not_mem_nil⟩⟩⟩⟩⟩⟩⟩⟩⟩⟩⟩⟩⟩⟩⟩⟩
theorem lw_p16 : lw_okq (⟨"PlanarityTester", "traced", "()Z"⟩, 9) := ⟨⟨by decide +kernel, by decide +kernel⟩, List.mem_of_getElem? (i := 18) (by decide +kernel), List.mem_of_getElem? (i := 655) (by decide +kernel), List.mem_of_getElem? (i := 656) (by decide +kernel)⟩
theorem lw_p17 : lw_okq (⟨"PlanarityTester$Walks", "orderAround", "(LPlanarityTester$Plan;I)V"⟩, 8) := ⟨⟨by decide +kernel, by decide +kernel⟩, List.mem_of_getElem? (i := 180) (by decide +kernel), List.mem_of_getElem? (i := 668) (by decide +kernel), List.mem_of_getElem? (i := 669) (by decide +kernel)⟩
theorem lw_p18 : lw_okq (⟨"PlanarityTester$Walks", "follow", "(II)V"⟩, 8) := ⟨⟨by decide +kernel, by decide +kernel⟩, List.mem_of_getElem? (i := 180) (by decide +kernel), List.mem_of_getElem? (i := 689) (by decide +kernel), List.mem_of_getElem? (i := 690) (by decide +kernel)⟩
theorem lw_p19 : lw_okq (⟨"PlanarityTesterModel", "edges", "()I"⟩, 35) := ⟨⟨by decide +kernel, by decide +kernel⟩, List.mem_of_getElem? (i := 776) (by decide +kernel), List.mem_of_getElem? (i := 896) (by decide +kernel), List.mem_of_getElem? (i := 897) (by decide +kernel)⟩
theorem lw_p20 : lw_okq (⟨"PlanarityTesterModel", "record", "()V"⟩, 35) := ⟨⟨by decide +kernel, by decide +kernel⟩, List.mem_of_getElem? (i := 776) (by decide +kernel), List.mem_of_getElem? (i := 907) (by decide +kernel), List.mem_of_getElem? (i := 908) (by decide +kernel)⟩
theorem lw_p21 : lw_okq (⟨"PlanarityTesterModel", "isEdge", "(II)Z"⟩, 35) := ⟨⟨by decide +kernel, by decide +kernel⟩, List.mem_of_getElem? (i := 776) (by decide +kernel), List.mem_of_getElem? (i := 921) (by decide +kernel), List.mem_of_getElem? (i := 922) (by decide +kernel)⟩
theorem lw_p22 : lw_okq (⟨"PlanarityTesterModel", "flip", "(II)V"⟩, 35) := ⟨⟨by decide +kernel, by decide +kernel⟩, List.mem_of_getElem? (i := 776) (by decide +kernel), List.mem_of_getElem? (i := 925) (by decide +kernel), List.mem_of_getElem? (i := 926) (by decide +kernel)⟩
theorem lw_p23 : lw_okq (⟨"PlanarityTesterModel", "isPlanarNow", "()Z"⟩, 35) := ⟨⟨by decide +kernel, by decide +kernel⟩, List.mem_of_getElem? (i := 776) (by decide +kernel), List.mem_of_getElem? (i := 941) (by decide +kernel), List.mem_of_getElem? (i := 942) (by decide +kernel)⟩
theorem lw_p24 : lw_okq (⟨"PlanarityTesterModel", "takeGraph", "()V"⟩, 35) := ⟨⟨by decide +kernel, by decide +kernel⟩, List.mem_of_getElem? (i := 776) (by decide +kernel), List.mem_of_getElem? (i := 945) (by decide +kernel), List.mem_of_getElem? (i := 946) (by decide +kernel)⟩
theorem lw_p25 : lw_okq (⟨"PlanarityTesterModel", "isPlanar", "()Z"⟩, 35) := ⟨⟨by decide +kernel, by decide +kernel⟩, List.mem_of_getElem? (i := 776) (by decide +kernel), List.mem_of_getElem? (i := 949) (by decide +kernel), List.mem_of_getElem? (i := 950) (by decide +kernel)⟩
theorem lw_p26 : lw_okq (⟨"PlanarityTesterModel", "findBlocks", "()V"⟩, 35) := ⟨⟨by decide +kernel, by decide +kernel⟩, List.mem_of_getElem? (i := 776) (by decide +kernel), List.mem_of_getElem? (i := 953) (by decide +kernel), List.mem_of_getElem? (i := 954) (by decide +kernel)⟩
theorem lw_p27 : lw_okq (⟨"PlanarityTesterModel", "joinAround", "(I)V"⟩, 35) := ⟨⟨by decide +kernel, by decide +kernel⟩, List.mem_of_getElem? (i := 776) (by decide +kernel), List.mem_of_getElem? (i := 960) (by decide +kernel), List.mem_of_getElem? (i := 961) (by decide +kernel)⟩
theorem lw_p28 : lw_okq (⟨"PlanarityTesterModel", "joined", "(IIZ)I"⟩, 35) := ⟨⟨by decide +kernel, by decide +kernel⟩, List.mem_of_getElem? (i := 776) (by decide +kernel), List.mem_of_getElem? (i := 964) (by decide +kernel), List.mem_of_getElem? (i := 965) (by decide +kernel)⟩
theorem lw_p29 : lw_okq (⟨"PlanarityTesterModel", "joinBlocks", "(II)V"⟩, 35) := ⟨⟨by decide +kernel, by decide +kernel⟩, List.mem_of_getElem? (i := 776) (by decide +kernel), List.mem_of_getElem? (i := 968) (by decide +kernel), List.mem_of_getElem? (i := 969) (by decide +kernel)⟩
theorem lw_p30 : lw_okq (⟨"PlanarityTesterModel", "embed", "(I)V"⟩, 35) := ⟨⟨by decide +kernel, by decide +kernel⟩, List.mem_of_getElem? (i := 776) (by decide +kernel), List.mem_of_getElem? (i := 972) (by decide +kernel), List.mem_of_getElem? (i := 973) (by decide +kernel)⟩
theorem lw_p31 : lw_okq (⟨"PlanarityTesterModel", "neighborsIn", "(II)I"⟩, 35) := ⟨⟨by decide +kernel, by decide +kernel⟩, List.mem_of_getElem? (i := 776) (by decide +kernel), List.mem_of_getElem? (i := 976) (by decide +kernel), List.mem_of_getElem? (i := 977) (by decide +kernel)⟩
def lw_privs_2 : List (MethodName × Nat) := [(⟨"PlanarityTester", "traced", "()Z"⟩, 9), (⟨"PlanarityTester$Walks", "orderAround", "(LPlanarityTester$Plan;I)V"⟩, 8), (⟨"PlanarityTester$Walks", "follow", "(II)V"⟩, 8), (⟨"PlanarityTesterModel", "edges", "()I"⟩, 35), (⟨"PlanarityTesterModel", "record", "()V"⟩, 35), (⟨"PlanarityTesterModel", "isEdge", "(II)Z"⟩, 35), (⟨"PlanarityTesterModel", "flip", "(II)V"⟩, 35), (⟨"PlanarityTesterModel", "isPlanarNow", "()Z"⟩, 35), (⟨"PlanarityTesterModel", "takeGraph", "()V"⟩, 35), (⟨"PlanarityTesterModel", "isPlanar", "()Z"⟩, 35), (⟨"PlanarityTesterModel", "findBlocks", "()V"⟩, 35), (⟨"PlanarityTesterModel", "joinAround", "(I)V"⟩, 35), (⟨"PlanarityTesterModel", "joined", "(IIZ)I"⟩, 35), (⟨"PlanarityTesterModel", "joinBlocks", "(II)V"⟩, 35), (⟨"PlanarityTesterModel", "embed", "(I)V"⟩, 35), (⟨"PlanarityTesterModel", "neighborsIn", "(II)I"⟩, 35)]
theorem lw_r2 : ∀ q ∈ lw_privs_2, lw_okq q := List.forall_mem_cons.mpr ⟨lw_p16, List.forall_mem_cons.mpr ⟨lw_p17, List.forall_mem_cons.mpr ⟨lw_p18, List.forall_mem_cons.mpr ⟨lw_p19, List.forall_mem_cons.mpr ⟨lw_p20, List.forall_mem_cons.mpr ⟨lw_p21, List.forall_mem_cons.mpr ⟨lw_p22, List.forall_mem_cons.mpr ⟨lw_p23, List.forall_mem_cons.mpr ⟨lw_p24, List.forall_mem_cons.mpr ⟨lw_p25, List.forall_mem_cons.mpr ⟨lw_p26, List.forall_mem_cons.mpr ⟨lw_p27, List.forall_mem_cons.mpr ⟨lw_p28, List.forall_mem_cons.mpr ⟨lw_p29, List.forall_mem_cons.mpr ⟨lw_p30, List.forall_mem_cons.mpr ⟨lw_p31, fun _ h => absurd h List.not_mem_nil⟩⟩⟩⟩⟩⟩⟩⟩⟩⟩⟩⟩⟩⟩⟩⟩
theorem lw_p32 : lw_okq (⟨"PlanarityTesterModel", "isInBlock", "(III)Z"⟩, 35) := ⟨⟨by decide +kernel, by decide +kernel⟩, List.mem_of_getElem? (i := 776) (by decide +kernel), List.mem_of_getElem? (i := 980) (by decide +kernel), List.mem_of_getElem? (i := 981) (by decide +kernel)⟩
theorem lw_p33 : lw_okq (⟨"PlanarityTesterModel", "placeCycle", "(I)V"⟩, 35) := ⟨⟨by decide +kernel, by decide +kernel⟩, List.mem_of_getElem? (i := 776) (by decide +kernel), List.mem_of_getElem? (i := 987) (by decide +kernel), List.mem_of_getElem? (i := 988) (by decide +kernel)⟩
theorem lw_p34 : lw_okq (⟨"PlanarityTesterModel", "layDistances", "(II)V"⟩, 35) := ⟨⟨by decide +kernel, by decide +kernel⟩, List.mem_of_getElem? (i := 776) (by decide +kernel), List.mem_of_getElem? (i := 991) (by decide +kernel), List.mem_of_getElem? (i := 992) (by decide +kernel)⟩
theorem lw_p35 : lw_okq (⟨"PlanarityTesterModel", "addToFace", "(II)V"⟩, 35) := ⟨⟨by decide +kernel, by decide +kernel⟩, List.mem_of_getElem? (i := 776) (by decide +kernel), List.mem_of_getElem? (i := 995) (by decide +kernel), List.mem_of_getElem? (i := 996) (by decide +kernel)⟩
theorem lw_p36 : lw_okq (⟨"PlanarityTesterModel", "lowestAt", "(II)I"⟩, 35) := ⟨⟨by decide +kernel, by decide +kernel⟩, List.mem_of_getElem? (i := 776) (by decide +kernel), List.mem_of_getElem? (i := 999) (by decide +kernel), List.mem_of_getElem? (i := 1000) (by decide +kernel)⟩
theorem lw_p37 : lw_okq (⟨"PlanarityTesterModel", "placeEdge", "(II)V"⟩, 35) := ⟨⟨by decide +kernel, by decide +kernel⟩, List.mem_of_getElem? (i := 776) (by decide +kernel), List.mem_of_getElem? (i := 1003) (by decide +kernel), List.mem_of_getElem? (i := 1004) (by decide +kernel)⟩
theorem lw_p38 : lw_okq (⟨"PlanarityTesterModel", "findFragments", "()V"⟩, 35) := ⟨⟨by decide +kernel, by decide +kernel⟩, List.mem_of_getElem? (i := 776) (by decide +kernel), List.mem_of_getElem? (i := 1007) (by decide +kernel), List.mem_of_getElem? (i := 1008) (by decide +kernel)⟩
theorem lw_p39 : lw_okq (⟨"PlanarityTesterModel", "addFragment", "(II)V"⟩, 35) := ⟨⟨by decide +kernel, by decide +kernel⟩, List.mem_of_getElem? (i := 776) (by decide +kernel), List.mem_of_getElem? (i := 1011) (by decide +kernel), List.mem_of_getElem? (i := 1012) (by decide +kernel)⟩
theorem lw_p40 : lw_okq (⟨"PlanarityTesterModel", "isFragment", "(I)Z"⟩, 35) := ⟨⟨by decide +kernel, by decide +kernel⟩, List.mem_of_getElem? (i := 776) (by decide +kernel), List.mem_of_getElem? (i := 1015) (by decide +kernel), List.mem_of_getElem? (i := 1016) (by decide +kernel)⟩
theorem lw_p41 : lw_okq (⟨"PlanarityTesterModel", "contactsOf", "(I)I"⟩, 35) := ⟨⟨by decide +kernel, by decide +kernel⟩, List.mem_of_getElem? (i := 776) (by decide +kernel), List.mem_of_getElem? (i := 1019) (by decide +kernel), List.mem_of_getElem? (i := 1020) (by decide +kernel)⟩
theorem lw_p42 : lw_okq (⟨"PlanarityTesterModel", "chooseFragment", "()I"⟩, 35) := ⟨⟨by decide +kernel, by decide +kernel⟩, List.mem_of_getElem? (i := 776) (by decide +kernel), List.mem_of_getElem? (i := 1023) (by decide +kernel), List.mem_of_getElem? (i := 1024) (by decide +kernel)⟩
theorem lw_p43 : lw_okq (⟨"PlanarityTesterModel", "fitting", "(I)I"⟩, 35) := ⟨⟨by decide +kernel, by decide +kernel⟩, List.mem_of_getElem? (i := 776) (by decide +kernel), List.mem_of_getElem? (i := 1027) (by decide +kernel), List.mem_of_getElem? (i := 1028) (by decide +kernel)⟩
theorem lw_p44 : lw_okq (⟨"PlanarityTesterModel", "isOnFace", "(II)Z"⟩, 35) := ⟨⟨by decide +kernel, by decide +kernel⟩, List.mem_of_getElem? (i := 776) (by decide +kernel), List.mem_of_getElem? (i := 1031) (by decide +kernel), List.mem_of_getElem? (i := 1032) (by decide +kernel)⟩
theorem lw_p45 : lw_okq (⟨"PlanarityTesterModel", "layPath", "(I)V"⟩, 35) := ⟨⟨by decide +kernel, by decide +kernel⟩, List.mem_of_getElem? (i := 776) (by decide +kernel), List.mem_of_getElem? (i := 1035) (by decide +kernel), List.mem_of_getElem? (i := 1036) (by decide +kernel)⟩
theorem lw_p46 : lw_okq (⟨"PlanarityTesterModel", "addToPath", "(I)V"⟩, 35) := ⟨⟨by decide +kernel, by decide +kernel⟩, List.mem_of_getElem? (i := 776) (by decide +kernel), List.mem_of_getElem? (i := 1039) (by decide +kernel), List.mem_of_getElem? (i := 1040) (by decide +kernel)⟩
theorem lw_p47 : lw_okq (⟨"PlanarityTesterModel", "placePath", "()V"⟩, 35) := ⟨⟨by decide +kernel, by decide +kernel⟩, List.mem_of_getElem? (i := 776) (by decide +kernel), List.mem_of_getElem? (i := 1043) (by decide +kernel), List.mem_of_getElem? (i := 1044) (by decide +kernel)⟩
def lw_privs_3 : List (MethodName × Nat) := [(⟨"PlanarityTesterModel", "isInBlock", "(III)Z"⟩, 35), (⟨"PlanarityTesterModel", "placeCycle", "(I)V"⟩, 35), (⟨"PlanarityTesterModel", "layDistances", "(II)V"⟩, 35), (⟨"PlanarityTesterModel", "addToFace", "(II)V"⟩, 35), (⟨"PlanarityTesterModel", "lowestAt", "(II)I"⟩, 35), (⟨"PlanarityTesterModel", "placeEdge", "(II)V"⟩, 35), (⟨"PlanarityTesterModel", "findFragments", "()V"⟩, 35), (⟨"PlanarityTesterModel", "addFragment", "(II)V"⟩, 35), (⟨"PlanarityTesterModel", "isFragment", "(I)Z"⟩, 35), (⟨"PlanarityTesterModel", "contactsOf", "(I)I"⟩, 35), (⟨"PlanarityTesterModel", "chooseFragment", "()I"⟩, 35), (⟨"PlanarityTesterModel", "fitting", "(I)I"⟩, 35), (⟨"PlanarityTesterModel", "isOnFace", "(II)Z"⟩, 35), (⟨"PlanarityTesterModel", "layPath", "(I)V"⟩, 35), (⟨"PlanarityTesterModel", "addToPath", "(I)V"⟩, 35), (⟨"PlanarityTesterModel", "placePath", "()V"⟩, 35)]
theorem lw_r3 : ∀ q ∈ lw_privs_3, lw_okq q := List.forall_mem_cons.mpr ⟨lw_p32, List.forall_mem_cons.mpr ⟨lw_p33, List.forall_mem_cons.mpr ⟨lw_p34, List.forall_mem_cons.mpr ⟨lw_p35, List.forall_mem_cons.mpr ⟨lw_p36, List.forall_mem_cons.mpr ⟨lw_p37, List.forall_mem_cons.mpr ⟨lw_p38, List.forall_mem_cons.mpr ⟨lw_p39, List.forall_mem_cons.mpr ⟨lw_p40, List.forall_mem_cons.mpr ⟨lw_p41, List.forall_mem_cons.mpr ⟨lw_p42, List.forall_mem_cons.mpr ⟨lw_p43, List.forall_mem_cons.mpr ⟨lw_p44, List.forall_mem_cons.mpr ⟨lw_p45, List.forall_mem_cons.mpr ⟨lw_p46, List.forall_mem_cons.mpr ⟨lw_p47, fun _ h => absurd h List.not_mem_nil⟩⟩⟩⟩⟩⟩⟩⟩⟩⟩⟩⟩⟩⟩⟩⟩
theorem lw_p48 : lw_okq (⟨"PlanarityTesterModel", "laySuccessors", "()V"⟩, 35) := ⟨⟨by decide +kernel, by decide +kernel⟩, List.mem_of_getElem? (i := 776) (by decide +kernel), List.mem_of_getElem? (i := 1047) (by decide +kernel), List.mem_of_getElem? (i := 1048) (by decide +kernel)⟩
theorem lw_p49 : lw_okq (⟨"PlanarityTesterModel", "isPlanarIfFlipped", "(II)Z"⟩, 35) := ⟨⟨by decide +kernel, by decide +kernel⟩, List.mem_of_getElem? (i := 776) (by decide +kernel), List.mem_of_getElem? (i := 1051) (by decide +kernel), List.mem_of_getElem? (i := 1052) (by decide +kernel)⟩
theorem lw_p50 : lw_okq (⟨"PlanarityTesterModel", "flipInGraph", "(II)V"⟩, 35) := ⟨⟨by decide +kernel, by decide +kernel⟩, List.mem_of_getElem? (i := 776) (by decide +kernel), List.mem_of_getElem? (i := 1055) (by decide +kernel), List.mem_of_getElem? (i := 1056) (by decide +kernel)⟩
theorem lw_p51 : lw_okq (⟨"PlanarityTesterModel", "findFault", "()I"⟩, 35) := ⟨⟨by decide +kernel, by decide +kernel⟩, List.mem_of_getElem? (i := 776) (by decide +kernel), List.mem_of_getElem? (i := 1071) (by decide +kernel), List.mem_of_getElem? (i := 1072) (by decide +kernel)⟩
theorem lw_p52 : lw_okq (⟨"PlanarityTesterModel", "readsEdit", "()Z"⟩, 35) := ⟨⟨by decide +kernel, by decide +kernel⟩, List.mem_of_getElem? (i := 776) (by decide +kernel), List.mem_of_getElem? (i := 1075) (by decide +kernel), List.mem_of_getElem? (i := 1076) (by decide +kernel)⟩
theorem lw_p53 : lw_okq (⟨"PlanarityTesterModel", "readsWord", "()Z"⟩, 35) := ⟨⟨by decide +kernel, by decide +kernel⟩, List.mem_of_getElem? (i := 776) (by decide +kernel), List.mem_of_getElem? (i := 1079) (by decide +kernel), List.mem_of_getElem? (i := 1080) (by decide +kernel)⟩
theorem lw_p54 : lw_okq (⟨"PlanarityTesterModel", "nextCharacter", "()I"⟩, 35) := ⟨⟨by decide +kernel, by decide +kernel⟩, List.mem_of_getElem? (i := 776) (by decide +kernel), List.mem_of_getElem? (i := 1083) (by decide +kernel), List.mem_of_getElem? (i := 1084) (by decide +kernel)⟩
theorem lw_p55 : lw_okq (⟨"PlanarityTesterModel", "takes", "(I)Z"⟩, 35) := ⟨⟨by decide +kernel, by decide +kernel⟩, List.mem_of_getElem? (i := 776) (by decide +kernel), List.mem_of_getElem? (i := 1087) (by decide +kernel), List.mem_of_getElem? (i := 1088) (by decide +kernel)⟩
theorem lw_p56 : lw_okq (⟨"PlanarityTesterModel", "components", "()I"⟩, 35) := ⟨⟨by decide +kernel, by decide +kernel⟩, List.mem_of_getElem? (i := 776) (by decide +kernel), List.mem_of_getElem? (i := 1103) (by decide +kernel), List.mem_of_getElem? (i := 1104) (by decide +kernel)⟩
theorem lw_p57 : lw_okq (⟨"PlanarityTesterModel", "blocksNow", "()I"⟩, 35) := ⟨⟨by decide +kernel, by decide +kernel⟩, List.mem_of_getElem? (i := 776) (by decide +kernel), List.mem_of_getElem? (i := 1107) (by decide +kernel), List.mem_of_getElem? (i := 1108) (by decide +kernel)⟩
theorem lw_p58 : lw_okq (⟨"PlanarityTesterModel", "cutVertices", "()I"⟩, 35) := ⟨⟨by decide +kernel, by decide +kernel⟩, List.mem_of_getElem? (i := 776) (by decide +kernel), List.mem_of_getElem? (i := 1111) (by decide +kernel), List.mem_of_getElem? (i := 1112) (by decide +kernel)⟩
theorem lw_p59 : lw_okq (⟨"PlanarityTesterModel", "bridges", "()I"⟩, 35) := ⟨⟨by decide +kernel, by decide +kernel⟩, List.mem_of_getElem? (i := 776) (by decide +kernel), List.mem_of_getElem? (i := 1115) (by decide +kernel), List.mem_of_getElem? (i := 1116) (by decide +kernel)⟩
theorem lw_p60 : lw_okq (⟨"PlanarityTesterModel", "edgesOf", "(I)I"⟩, 35) := ⟨⟨by decide +kernel, by decide +kernel⟩, List.mem_of_getElem? (i := 776) (by decide +kernel), List.mem_of_getElem? (i := 1119) (by decide +kernel), List.mem_of_getElem? (i := 1120) (by decide +kernel)⟩
theorem lw_p61 : lw_okq (⟨"PlanarityTesterModel", "verticesOf", "(I)I"⟩, 35) := ⟨⟨by decide +kernel, by decide +kernel⟩, List.mem_of_getElem? (i := 776) (by decide +kernel), List.mem_of_getElem? (i := 1131) (by decide +kernel), List.mem_of_getElem? (i := 1132) (by decide +kernel)⟩
theorem lw_p62 : lw_okq (⟨"PlanarityTesterModel", "behind", "(II)I"⟩, 35) := ⟨⟨by decide +kernel, by decide +kernel⟩, List.mem_of_getElem? (i := 776) (by decide +kernel), List.mem_of_getElem? (i := 1143) (by decide +kernel), List.mem_of_getElem? (i := 1144) (by decide +kernel)⟩
theorem lw_p63 : lw_okq (⟨"PlanarityTesterModel", "findWalks", "()Z"⟩, 35) := ⟨⟨by decide +kernel, by decide +kernel⟩, List.mem_of_getElem? (i := 776) (by decide +kernel), List.mem_of_getElem? (i := 1151) (by decide +kernel), List.mem_of_getElem? (i := 1152) (by decide +kernel)⟩
def lw_privs_4 : List (MethodName × Nat) := [(⟨"PlanarityTesterModel", "laySuccessors", "()V"⟩, 35), (⟨"PlanarityTesterModel", "isPlanarIfFlipped", "(II)Z"⟩, 35), (⟨"PlanarityTesterModel", "flipInGraph", "(II)V"⟩, 35), (⟨"PlanarityTesterModel", "findFault", "()I"⟩, 35), (⟨"PlanarityTesterModel", "readsEdit", "()Z"⟩, 35), (⟨"PlanarityTesterModel", "readsWord", "()Z"⟩, 35), (⟨"PlanarityTesterModel", "nextCharacter", "()I"⟩, 35), (⟨"PlanarityTesterModel", "takes", "(I)Z"⟩, 35), (⟨"PlanarityTesterModel", "components", "()I"⟩, 35), (⟨"PlanarityTesterModel", "blocksNow", "()I"⟩, 35), (⟨"PlanarityTesterModel", "cutVertices", "()I"⟩, 35), (⟨"PlanarityTesterModel", "bridges", "()I"⟩, 35), (⟨"PlanarityTesterModel", "edgesOf", "(I)I"⟩, 35), (⟨"PlanarityTesterModel", "verticesOf", "(I)I"⟩, 35), (⟨"PlanarityTesterModel", "behind", "(II)I"⟩, 35), (⟨"PlanarityTesterModel", "findWalks", "()Z"⟩, 35)]
theorem lw_r4 : ∀ q ∈ lw_privs_4, lw_okq q := List.forall_mem_cons.mpr ⟨lw_p48, List.forall_mem_cons.mpr ⟨lw_p49, List.forall_mem_cons.mpr ⟨lw_p50, List.forall_mem_cons.mpr ⟨lw_p51, List.forall_mem_cons.mpr ⟨lw_p52, List.forall_mem_cons.mpr ⟨lw_p53, List.forall_mem_cons.mpr ⟨lw_p54, List.forall_mem_cons.mpr ⟨lw_p55, List.forall_mem_cons.mpr ⟨lw_p56, List.forall_mem_cons.mpr ⟨lw_p57, List.forall_mem_cons.mpr ⟨lw_p58, List.forall_mem_cons.mpr ⟨lw_p59, List.forall_mem_cons.mpr ⟨lw_p60, List.forall_mem_cons.mpr ⟨lw_p61, List.forall_mem_cons.mpr ⟨lw_p62, List.forall_mem_cons.mpr ⟨lw_p63, fun _ h => absurd h List.not_mem_nil⟩⟩⟩⟩⟩⟩⟩⟩⟩⟩⟩⟩⟩⟩⟩⟩
theorem lw_p64 : lw_okq (⟨"PlanarityTesterModel", "lengthOf", "(I)I"⟩, 35) := ⟨⟨by decide +kernel, by decide +kernel⟩, List.mem_of_getElem? (i := 776) (by decide +kernel), List.mem_of_getElem? (i := 1159) (by decide +kernel), List.mem_of_getElem? (i := 1160) (by decide +kernel)⟩
theorem lw_p65 : lw_okq (⟨"PlanarityTesterModel", "findForbidden", "()Z"⟩, 35) := ⟨⟨by decide +kernel, by decide +kernel⟩, List.mem_of_getElem? (i := 776) (by decide +kernel), List.mem_of_getElem? (i := 1175) (by decide +kernel), List.mem_of_getElem? (i := 1176) (by decide +kernel)⟩
def lw_privs_5 : List (MethodName × Nat) := [(⟨"PlanarityTesterModel", "lengthOf", "(I)I"⟩, 35), (⟨"PlanarityTesterModel", "findForbidden", "()Z"⟩, 35)]
theorem lw_r5 : ∀ q ∈ lw_privs_5, lw_okq q := List.forall_mem_cons.mpr ⟨lw_p64, List.forall_mem_cons.mpr ⟨lw_p65, fun _ h => absurd h List.not_mem_nil⟩⟩
def lw_privs : List (MethodName × Nat) := lw_privs_1 ++ (lw_privs_2 ++ (lw_privs_3 ++ (lw_privs_4 ++ (lw_privs_5))))
def lw_tbl : List Cond := k2_sels lw_privs ++ tables_1
theorem lw_privs_ok : ∀ q ∈ lw_privs, lw_okq q := by
  show ∀ q ∈ lw_privs_1 ++ (lw_privs_2 ++ (lw_privs_3 ++ (lw_privs_4 ++ (lw_privs_5)))), lw_okq q
  exact List.forall_mem_append.mpr ⟨lw_r1, List.forall_mem_append.mpr ⟨lw_r2, List.forall_mem_append.mpr ⟨lw_r3, List.forall_mem_append.mpr ⟨lw_r4, lw_r5⟩⟩⟩⟩
/-- the streams that the claim lets the run draw from -/
abbrev lw_cs : List Choice := [Jvm.Choice.named "NaN.bits"]
theorem lw_bits : nanBits ∈ lw_cs := by first | decide | exact List.mem_cons_self | simp [lw_cs, nanBits]
end
section
def RX0 : String := "PlanarityTester$EditText"
def TX0 : u_T := fun k => match k with
  | 0 => ("PlanarityTester$EditText", "signs", "[I", true)
  | 1 => ("PlanarityTester$EditText", "length", "I", false)
  | 2 => ("PlanarityTester$EditText", "starts", "[I", true)
  | 3 => ("PlanarityTester$EditText", "ends", "[I", true)
  | _ => ("PlanarityTester$EditText", "edits", "I", false)
def tyX0 : Nat → FieldType := fun k => match k with
  | 0 => .array .int
  | 1 => .int
  | 2 => .array .int
  | 3 => .array .int
  | _ => .int
abbrev wsX00 : List Cond := u_ws RX0 TX0 5
theorem nmX0 : ∀ a, a < 5 → ∀ b, b < 5 → a ≠ b → (TX0 a).2.1 ≠ (TX0 b).2.1 := by decide +kernel
theorem tyX0_ok : ∀ k, k < 5 → parseFieldDescriptor (TX0 k).2.2.1 = some (tyX0 k) := by decide +kernel
abbrev cX0_init : ByteArray := prog_2_method_1_code
def yX0_init : MethodName := ⟨RX0, "<init>", "()V"⟩
abbrev cX0_length : ByteArray := prog_2_method_2_code
def yX0_length : MethodName := ⟨RX0, "length", "()I"⟩
abbrev cX0_edits : ByteArray := prog_2_method_3_code
def yX0_edits : MethodName := ⟨RX0, "edits", "()I"⟩
abbrev cX0_kindOf : ByteArray := prog_2_method_4_code
def yX0_kindOf : MethodName := ⟨RX0, "kindOf", "(I)C"⟩
abbrev cX0_firstOf : ByteArray := prog_2_method_5_code
def yX0_firstOf : MethodName := ⟨RX0, "firstOf", "(I)I"⟩
abbrev cX0_secondOf : ByteArray := prog_2_method_6_code
def yX0_secondOf : MethodName := ⟨RX0, "secondOf", "(I)I"⟩
abbrev cX0_write : ByteArray := prog_2_method_7_code
def yX0_write : MethodName := ⟨RX0, "write", "(C)Z"⟩
abbrev cX0_erase : ByteArray := prog_2_method_8_code
def yX0_erase : MethodName := ⟨RX0, "erase", "()V"⟩
abbrev cX0_scan : ByteArray := prog_2_method_9_code
def yX0_scan : MethodName := ⟨RX0, "scan", "()I"⟩
abbrev cX0_signAt : ByteArray := prog_2_method_10_code
def yX0_signAt : MethodName := ⟨RX0, "signAt", "(I)I"⟩
abbrev cX0_formAt : ByteArray := prog_2_method_11_code
def yX0_formAt : MethodName := ⟨RX0, "formAt", "(I)Ljava/lang/String;"⟩
abbrev cX0_signsRight : ByteArray := prog_2_method_12_code
def yX0_signsRight : MethodName := ⟨RX0, "signsRight", "(ILjava/lang/String;)I"⟩
def RX1 : String := "PlanarityTester$Embedding"
def TX1 : u_T := fun k => match k with
  | 0 => ("PlanarityTester$Embedding", "near", "[I", true)
  | 1 => ("PlanarityTester$Embedding", "joined", "[I", true)
  | 2 => ("PlanarityTester$Embedding", "vertices", "I", false)
  | 3 => ("PlanarityTester$Embedding", "placed", "I", false)
  | 4 => ("PlanarityTester$Embedding", "edges", "I", false)
  | 5 => ("PlanarityTester$Embedding", "placedEdges", "I", false)
  | 6 => ("PlanarityTester$Embedding", "faceSets", "[I", true)
  | 7 => ("PlanarityTester$Embedding", "followers", "[I", true)
  | 8 => ("PlanarityTester$Embedding", "faces", "I", false)
  | 9 => ("PlanarityTester$Embedding", "inside", "I", false)
  | 10 => ("PlanarityTester$Embedding", "contacts", "I", false)
  | 11 => ("PlanarityTester$Embedding", "face", "I", false)
  | 12 => ("PlanarityTester$Embedding", "fitting", "I", false)
  | 13 => ("PlanarityTester$Embedding", "path", "[I", true)
  | 14 => ("PlanarityTester$Embedding", "pathLength", "I", false)
  | _ => ("PlanarityTester$Embedding", "layers", "[I", true)
def tyX1 : Nat → FieldType := fun k => match k with
  | 0 => .array .int
  | 1 => .array .int
  | 2 => .int
  | 3 => .int
  | 4 => .int
  | 5 => .int
  | 6 => .array .int
  | 7 => .array .int
  | 8 => .int
  | 9 => .int
  | 10 => .int
  | 11 => .int
  | 12 => .int
  | 13 => .array .int
  | 14 => .int
  | _ => .array .int
abbrev wsX10 : List Cond := u_ws RX1 TX1 16
theorem nmX1 : ∀ a, a < 16 → ∀ b, b < 16 → a ≠ b → (TX1 a).2.1 ≠ (TX1 b).2.1 := by decide +kernel
theorem tyX1_ok : ∀ k, k < 16 → parseFieldDescriptor (TX1 k).2.2.1 = some (tyX1 k) := by decide +kernel
abbrev cX1_init : ByteArray := prog_3_method_1_code
def yX1_init : MethodName := ⟨RX1, "<init>", "()V"⟩
abbrev cX1_edges : ByteArray := prog_3_method_2_code
def yX1_edges : MethodName := ⟨RX1, "edges", "()I"⟩
abbrev cX1_placedEdges : ByteArray := prog_3_method_3_code
def yX1_placedEdges : MethodName := ⟨RX1, "placedEdges", "()I"⟩
abbrev cX1_faces : ByteArray := prog_3_method_4_code
def yX1_faces : MethodName := ⟨RX1, "faces", "()I"⟩
abbrev cX1_embed : ByteArray := prog_3_method_5_code
def yX1_embed : MethodName := ⟨RX1, "embed", "([II)V"⟩
abbrev cX1_writeSuccessors : ByteArray := prog_3_method_6_code
def yX1_writeSuccessors : MethodName := ⟨RX1, "writeSuccessors", "([I)V"⟩
abbrev cX1_start : ByteArray := prog_3_method_7_code
def yX1_start : MethodName := ⟨RX1, "start", "([II)V"⟩
abbrev cX1_placeCycle : ByteArray := prog_3_method_8_code
def yX1_placeCycle : MethodName := ⟨RX1, "placeCycle", "()Z"⟩
abbrev cX1_placeEdge : ByteArray := prog_3_method_9_code
def yX1_placeEdge : MethodName := ⟨RX1, "placeEdge", "(II)V"⟩
abbrev cX1_findPath : ByteArray := prog_3_method_10_code
def yX1_findPath : MethodName := ⟨RX1, "findPath", "(III)Z"⟩
abbrev cX1_chooseFragment : ByteArray := prog_3_method_11_code
def yX1_chooseFragment : MethodName := ⟨RX1, "chooseFragment", "()Z"⟩
abbrev cX1_weigh : ByteArray := prog_3_method_12_code
def yX1_weigh : MethodName := ⟨RX1, "weigh", "(II)Z"⟩
abbrev cX1_choosePath : ByteArray := prog_3_method_13_code
def yX1_choosePath : MethodName := ⟨RX1, "choosePath", "()Z"⟩
abbrev cX1_splitFace : ByteArray := prog_3_method_14_code
def yX1_splitFace : MethodName := ⟨RX1, "splitFace", "()V"⟩
def RX2 : String := "PlanarityTester$History"
def TX2 : u_T := fun k => match k with
  | 0 => ("PlanarityTester$History", "edges", "[J", true)
  | 1 => ("PlanarityTester$History", "added", "[I", true)
  | 2 => ("PlanarityTester$History", "dropped", "[I", true)
  | _ => ("PlanarityTester$History", "size", "I", false)
def tyX2 : Nat → FieldType := fun k => match k with
  | 0 => .array .long
  | 1 => .array .int
  | 2 => .array .int
  | _ => .int
abbrev wsX20 : List Cond := u_ws RX2 TX2 4
theorem nmX2 : ∀ a, a < 4 → ∀ b, b < 4 → a ≠ b → (TX2 a).2.1 ≠ (TX2 b).2.1 := by decide +kernel
theorem tyX2_ok : ∀ k, k < 4 → parseFieldDescriptor (TX2 k).2.2.1 = some (tyX2 k) := by decide +kernel
abbrev cX2_init : ByteArray := prog_4_method_1_code
def yX2_init : MethodName := ⟨RX2, "<init>", "()V"⟩
abbrev cX2_size : ByteArray := prog_4_method_2_code
def yX2_size : MethodName := ⟨RX2, "size", "()I"⟩
abbrev cX2_remember : ByteArray := prog_4_method_3_code
def yX2_remember : MethodName := ⟨RX2, "remember", "(LPlanarityTester$State;)V"⟩
abbrev cX2_giveBack : ByteArray := prog_4_method_4_code
def yX2_giveBack : MethodName := ⟨RX2, "giveBack", "(LPlanarityTester$State;)Z"⟩
abbrev cX2_forgetOldest : ByteArray := prog_4_method_5_code
def yX2_forgetOldest : MethodName := ⟨RX2, "forgetOldest", "()V"⟩
def RX3 : String := "PlanarityTester$Obstruction"
def TX3 : u_T := fun k => match k with
  | 0 => ("PlanarityTester$Obstruction", "kept", "J", false)
  | 1 => ("PlanarityTester$Obstruction", "edges", "J", false)
  | _ => ("PlanarityTester$Obstruction", "known", "Z", false)
def tyX3 : Nat → FieldType := fun k => match k with
  | 0 => .long
  | 1 => .long
  | _ => .boolean
abbrev wsX30 : List Cond := u_ws RX3 TX3 3
theorem nmX3 : ∀ a, a < 3 → ∀ b, b < 3 → a ≠ b → (TX3 a).2.1 ≠ (TX3 b).2.1 := by decide +kernel
theorem tyX3_ok : ∀ k, k < 3 → parseFieldDescriptor (TX3 k).2.2.1 = some (tyX3 k) := by decide +kernel
abbrev cX3_init : ByteArray := prog_5_method_1_code
def yX3_init : MethodName := ⟨RX3, "<init>", "()V"⟩
abbrev cX3_find : ByteArray := prog_5_method_2_code
def yX3_find : MethodName := ⟨RX3, "find", "(JLPlanarityTester$Plan;)V"⟩
abbrev cX3_size : ByteArray := prog_5_method_3_code
def yX3_size : MethodName := ⟨RX3, "size", "()I"⟩
abbrev cX3_holds : ByteArray := prog_5_method_4_code
def yX3_holds : MethodName := ⟨RX3, "holds", "(II)Z"⟩
abbrev cX3_verticesInMoreThan : ByteArray := prog_5_method_5_code
def yX3_verticesInMoreThan : MethodName := ⟨RX3, "verticesInMoreThan", "(I)I"⟩
def RX4 : String := "PlanarityTester$Plan"
def TX4 : u_T := fun k => match k with
  | 0 => ("PlanarityTester$Plan", "near", "[I", true)
  | 1 => ("PlanarityTester$Plan", "blockVertices", "[I", true)
  | 2 => ("PlanarityTester$Plan", "blockEdges", "[I", true)
  | 3 => ("PlanarityTester$Plan", "blockFaces", "[I", true)
  | 4 => ("PlanarityTester$Plan", "blockPlaced", "[I", true)
  | 5 => ("PlanarityTester$Plan", "successors", "[I", true)
  | 6 => ("PlanarityTester$Plan", "embedding", "LPlanarityTester$Embedding;", true)
  | 7 => ("PlanarityTester$Plan", "blocks", "I", false)
  | 8 => ("PlanarityTester$Plan", "flat", "Z", false)
  | 9 => ("PlanarityTester$Plan", "edges", "J", false)
  | _ => ("PlanarityTester$Plan", "known", "Z", false)
def tyX4 : Nat → FieldType := fun k => match k with
  | 0 => .array .int
  | 1 => .array .int
  | 2 => .array .int
  | 3 => .array .int
  | 4 => .array .int
  | 5 => .array .int
  | 6 => .object "PlanarityTester$Embedding"
  | 7 => .int
  | 8 => .boolean
  | 9 => .long
  | _ => .boolean
abbrev wsX40 : List Cond := u_ws RX4 TX4 11
theorem nmX4 : ∀ a, a < 11 → ∀ b, b < 11 → a ≠ b → (TX4 a).2.1 ≠ (TX4 b).2.1 := by decide +kernel
theorem tyX4_ok : ∀ k, k < 11 → parseFieldDescriptor (TX4 k).2.2.1 = some (tyX4 k) := by decide +kernel
abbrev cX4_init : ByteArray := prog_6_method_1_code
def yX4_init : MethodName := ⟨RX4, "<init>", "()V"⟩
abbrev cX4_read : ByteArray := prog_6_method_2_code
def yX4_read : MethodName := ⟨RX4, "read", "(J)Z"⟩
abbrev cX4_edges : ByteArray := prog_6_method_3_code
def yX4_edges : MethodName := ⟨RX4, "edges", "()J"⟩
abbrev cX4_near : ByteArray := prog_6_method_4_code
def yX4_near : MethodName := ⟨RX4, "near", "(I)I"⟩
abbrev cX4_blocks : ByteArray := prog_6_method_5_code
def yX4_blocks : MethodName := ⟨RX4, "blocks", "()I"⟩
abbrev cX4_verticesOf : ByteArray := prog_6_method_6_code
def yX4_verticesOf : MethodName := ⟨RX4, "verticesOf", "(I)I"⟩
abbrev cX4_edgesOf : ByteArray := prog_6_method_7_code
def yX4_edgesOf : MethodName := ⟨RX4, "edgesOf", "(I)I"⟩
abbrev cX4_facesOf : ByteArray := prog_6_method_8_code
def yX4_facesOf : MethodName := ⟨RX4, "facesOf", "(I)I"⟩
abbrev cX4_placedOf : ByteArray := prog_6_method_9_code
def yX4_placedOf : MethodName := ⟨RX4, "placedOf", "(I)I"⟩
abbrev cX4_isPlanar : ByteArray := prog_6_method_10_code
def yX4_isPlanar : MethodName := ⟨RX4, "isPlanar", "(I)Z"⟩
abbrev cX4_successor : ByteArray := prog_6_method_11_code
def yX4_successor : MethodName := ⟨RX4, "successor", "(II)I"⟩
abbrev cX4_blockOf : ByteArray := prog_6_method_12_code
def yX4_blockOf : MethodName := ⟨RX4, "blockOf", "(II)I"⟩
abbrev cX4_components : ByteArray := prog_6_method_13_code
def yX4_components : MethodName := ⟨RX4, "components", "()I"⟩
abbrev cX4_cutVertices : ByteArray := prog_6_method_14_code
def yX4_cutVertices : MethodName := ⟨RX4, "cutVertices", "()I"⟩
abbrev cX4_bridges : ByteArray := prog_6_method_15_code
def yX4_bridges : MethodName := ⟨RX4, "bridges", "()I"⟩
abbrev cX4_fillNear : ByteArray := prog_6_method_16_code
def yX4_fillNear : MethodName := ⟨RX4, "fillNear", "()V"⟩
abbrev cX4_blockAround : ByteArray := prog_6_method_17_code
def yX4_blockAround : MethodName := ⟨RX4, "blockAround", "(II)I"⟩
abbrev cX4_keepBlock : ByteArray := prog_6_method_18_code
def yX4_keepBlock : MethodName := ⟨RX4, "keepBlock", "(I)V"⟩
def RX5 : String := "PlanarityTester$State"
def TX5 : u_T := fun k => match k with
  | 0 => ("PlanarityTester$State", "edges", "J", false)
  | 1 => ("PlanarityTester$State", "added", "I", false)
  | _ => ("PlanarityTester$State", "dropped", "I", false)
def tyX5 : Nat → FieldType := fun k => match k with
  | 0 => .long
  | 1 => .int
  | _ => .int
abbrev wsX50 : List Cond := u_ws RX5 TX5 3
theorem nmX5 : ∀ a, a < 3 → ∀ b, b < 3 → a ≠ b → (TX5 a).2.1 ≠ (TX5 b).2.1 := by decide +kernel
theorem tyX5_ok : ∀ k, k < 3 → parseFieldDescriptor (TX5 k).2.2.1 = some (tyX5 k) := by decide +kernel
abbrev cX5_init : ByteArray := prog_7_method_1_code
def yX5_init : MethodName := ⟨RX5, "<init>", "()V"⟩
abbrev cX5_edges : ByteArray := prog_7_method_2_code
def yX5_edges : MethodName := ⟨RX5, "edges", "()J"⟩
abbrev cX5_added : ByteArray := prog_7_method_3_code
def yX5_added : MethodName := ⟨RX5, "added", "()I"⟩
abbrev cX5_dropped : ByteArray := prog_7_method_4_code
def yX5_dropped : MethodName := ⟨RX5, "dropped", "()I"⟩
abbrev cX5_size : ByteArray := prog_7_method_5_code
def yX5_size : MethodName := ⟨RX5, "size", "()I"⟩
abbrev cX5_joins : ByteArray := prog_7_method_6_code
def yX5_joins : MethodName := ⟨RX5, "joins", "(II)Z"⟩
abbrev cX5_become : ByteArray := prog_7_method_7_code
def yX5_become : MethodName := ⟨RX5, "become", "(JII)V"⟩
abbrev cX5_flip : ByteArray := prog_7_method_8_code
def yX5_flip : MethodName := ⟨RX5, "flip", "(II)V"⟩
abbrev cX5_removeAll : ByteArray := prog_7_method_9_code
def yX5_removeAll : MethodName := ⟨RX5, "removeAll", "()V"⟩
def RX6 : String := "PlanarityTester$Walks"
def TX6 : u_T := fun k => match k with
  | 0 => ("PlanarityTester$Walks", "order", "[I", true)
  | 1 => ("PlanarityTester$Walks", "walkAt", "[I", true)
  | 2 => ("PlanarityTester$Walks", "starts", "[I", true)
  | 3 => ("PlanarityTester$Walks", "vertices", "[I", true)
  | 4 => ("PlanarityTester$Walks", "size", "I", false)
  | 5 => ("PlanarityTester$Walks", "darts", "I", false)
  | 6 => ("PlanarityTester$Walks", "edges", "J", false)
  | _ => ("PlanarityTester$Walks", "known", "Z", false)
def tyX6 : Nat → FieldType := fun k => match k with
  | 0 => .array .int
  | 1 => .array .int
  | 2 => .array .int
  | 3 => .array .int
  | 4 => .int
  | 5 => .int
  | 6 => .long
  | _ => .boolean
abbrev wsX60 : List Cond := u_ws RX6 TX6 8
theorem nmX6 : ∀ a, a < 8 → ∀ b, b < 8 → a ≠ b → (TX6 a).2.1 ≠ (TX6 b).2.1 := by decide +kernel
theorem tyX6_ok : ∀ k, k < 8 → parseFieldDescriptor (TX6 k).2.2.1 = some (tyX6 k) := by decide +kernel
abbrev cX6_init : ByteArray := prog_8_method_1_code
def yX6_init : MethodName := ⟨RX6, "<init>", "()V"⟩
abbrev cX6_trace : ByteArray := prog_8_method_2_code
def yX6_trace : MethodName := ⟨RX6, "trace", "(LPlanarityTester$Plan;)V"⟩
abbrev cX6_size : ByteArray := prog_8_method_3_code
def yX6_size : MethodName := ⟨RX6, "size", "()I"⟩
abbrev cX6_holds : ByteArray := prog_8_method_4_code
def yX6_holds : MethodName := ⟨RX6, "holds", "(I)Z"⟩
abbrev cX6_lengthOf : ByteArray := prog_8_method_5_code
def yX6_lengthOf : MethodName := ⟨RX6, "lengthOf", "(I)I"⟩
abbrev cX6_vertexOf : ByteArray := prog_8_method_6_code
def yX6_vertexOf : MethodName := ⟨RX6, "vertexOf", "(II)I"⟩
abbrev cX6_ofDart : ByteArray := prog_8_method_7_code
def yX6_ofDart : MethodName := ⟨RX6, "ofDart", "(II)I"⟩
abbrev cX6_behind : ByteArray := prog_8_method_8_code
def yX6_behind : MethodName := ⟨RX6, "behind", "(II)I"⟩
abbrev cX6_orderAround : ByteArray := prog_8_method_9_code
def yX6_orderAround : MethodName := ⟨RX6, "orderAround", "(LPlanarityTester$Plan;I)V"⟩
abbrev cX6_follow : ByteArray := prog_8_method_10_code
def yX6_follow : MethodName := ⟨RX6, "follow", "(II)V"⟩
def RX7 : String := "PlanarityTester"
def TX7 : u_T := fun k => match k with
  | 0 => ("PlanarityTester", "now", "LPlanarityTester$State;", true)
  | 1 => ("PlanarityTester", "snapshot", "LPlanarityTester$State;", true)
  | 2 => ("PlanarityTester", "snapshotTaken", "Z", false)
  | 3 => ("PlanarityTester", "history", "LPlanarityTester$History;", true)
  | 4 => ("PlanarityTester", "text", "LPlanarityTester$EditText;", true)
  | 5 => ("PlanarityTester", "plan", "LPlanarityTester$Plan;", true)
  | 6 => ("PlanarityTester", "trial", "LPlanarityTester$Plan;", true)
  | 7 => ("PlanarityTester", "cycles", "LPlanarityTester$Walks;", true)
  | _ => ("PlanarityTester", "obstruction", "LPlanarityTester$Obstruction;", true)
def tyX7 : Nat → FieldType := fun k => match k with
  | 0 => .object "PlanarityTester$State"
  | 1 => .object "PlanarityTester$State"
  | 2 => .boolean
  | 3 => .object "PlanarityTester$History"
  | 4 => .object "PlanarityTester$EditText"
  | 5 => .object "PlanarityTester$Plan"
  | 6 => .object "PlanarityTester$Plan"
  | 7 => .object "PlanarityTester$Walks"
  | _ => .object "PlanarityTester$Obstruction"
abbrev wsX70 : List Cond := u_ws RX7 TX7 9
theorem nmX7 : ∀ a, a < 9 → ∀ b, b < 9 → a ≠ b → (TX7 a).2.1 ≠ (TX7 b).2.1 := by decide +kernel
theorem tyX7_ok : ∀ k, k < 9 → parseFieldDescriptor (TX7 k).2.2.1 = some (tyX7 k) := by decide +kernel
abbrev cX7_init : ByteArray := prog_1_method_1_code
def yX7_init : MethodName := ⟨RX7, "<init>", "()V"⟩
abbrev cX7_add : ByteArray := prog_1_method_2_code
def yX7_add : MethodName := ⟨RX7, "add", "(II)I"⟩
abbrev cX7_drop : ByteArray := prog_1_method_3_code
def yX7_drop : MethodName := ⟨RX7, "drop", "(II)I"⟩
abbrev cX7_clear : ByteArray := prog_1_method_4_code
def yX7_clear : MethodName := ⟨RX7, "clear", "()I"⟩
abbrev cX7_complete : ByteArray := prog_1_method_5_code
def yX7_complete : MethodName := ⟨RX7, "complete", "()I"⟩
abbrev cX7_append : ByteArray := prog_1_method_6_code
def yX7_append : MethodName := ⟨RX7, "append", "(I)I"⟩
abbrev cX7_clearText : ByteArray := prog_1_method_7_code
def yX7_clearText : MethodName := ⟨RX7, "clearText", "()I"⟩
abbrev cX7_fault : ByteArray := prog_1_method_8_code
def yX7_fault : MethodName := ⟨RX7, "fault", "()I"⟩
abbrev cX7_run : ByteArray := prog_1_method_9_code
def yX7_run : MethodName := ⟨RX7, "run", "()I"⟩
abbrev cX7_undo : ByteArray := prog_1_method_10_code
def yX7_undo : MethodName := ⟨RX7, "undo", "()I"⟩
abbrev cX7_save : ByteArray := prog_1_method_11_code
def yX7_save : MethodName := ⟨RX7, "save", "()I"⟩
abbrev cX7_restore : ByteArray := prog_1_method_12_code
def yX7_restore : MethodName := ⟨RX7, "restore", "()I"⟩
abbrev cX7_neighbors : ByteArray := prog_1_method_13_code
def yX7_neighbors : MethodName := ⟨RX7, "neighbors", "(I)I"⟩
abbrev cX7_count : ByteArray := prog_1_method_14_code
def yX7_count : MethodName := ⟨RX7, "count", "(I)I"⟩
abbrev cX7_block : ByteArray := prog_1_method_15_code
def yX7_block : MethodName := ⟨RX7, "block", "(II)I"⟩
abbrev cX7_blockInfo : ByteArray := prog_1_method_16_code
def yX7_blockInfo : MethodName := ⟨RX7, "blockInfo", "(II)I"⟩
abbrev cX7_planar : ByteArray := prog_1_method_17_code
def yX7_planar : MethodName := ⟨RX7, "planar", "()I"⟩
abbrev cX7_next : ByteArray := prog_1_method_18_code
def yX7_next : MethodName := ⟨RX7, "next", "(II)I"⟩
abbrev cX7_walks : ByteArray := prog_1_method_19_code
def yX7_walks : MethodName := ⟨RX7, "walks", "()I"⟩
abbrev cX7_walkLength : ByteArray := prog_1_method_20_code
def yX7_walkLength : MethodName := ⟨RX7, "walkLength", "(I)I"⟩
abbrev cX7_walkVertex : ByteArray := prog_1_method_21_code
def yX7_walkVertex : MethodName := ⟨RX7, "walkVertex", "(II)I"⟩
abbrev cX7_walkOf : ByteArray := prog_1_method_22_code
def yX7_walkOf : MethodName := ⟨RX7, "walkOf", "(II)I"⟩
abbrev cX7_forbidden : ByteArray := prog_1_method_23_code
def yX7_forbidden : MethodName := ⟨RX7, "forbidden", "(I)I"⟩
abbrev cX7_inForbidden : ByteArray := prog_1_method_24_code
def yX7_inForbidden : MethodName := ⟨RX7, "inForbidden", "(II)I"⟩
abbrev cX7_ifFlipped : ByteArray := prog_1_method_25_code
def yX7_ifFlipped : MethodName := ⟨RX7, "ifFlipped", "(II)I"⟩
abbrev cX7_joinable : ByteArray := prog_1_method_26_code
def yX7_joinable : MethodName := ⟨RX7, "joinable", "(I)I"⟩
abbrev cX7_density : ByteArray := prog_1_method_27_code
def yX7_density : MethodName := ⟨RX7, "density", "()D"⟩
abbrev cX7_carryOut : ByteArray := prog_1_method_28_code
def yX7_carryOut : MethodName := ⟨RX7, "carryOut", "(CII)Z"⟩
abbrev cX7_traced : ByteArray := prog_1_method_29_code
def yX7_traced : MethodName := ⟨RX7, "traced", "()Z"⟩
abbrev cX7_isVertex : ByteArray := prog_1_method_30_code
def yX7_isVertex : MethodName := ⟨RX7, "isVertex", "(I)Z"⟩
abbrev cX7_bit : ByteArray := prog_1_method_31_code
def yX7_bit : MethodName := ⟨RX7, "bit", "(I)I"⟩
abbrev cX7_has : ByteArray := prog_1_method_32_code
def yX7_has : MethodName := ⟨RX7, "has", "(II)Z"⟩
abbrev cX7_least : ByteArray := prog_1_method_33_code
def yX7_least : MethodName := ⟨RX7, "least", "(I)I"⟩
abbrev cX7_pairBit : ByteArray := prog_1_method_34_code
def yX7_pairBit : MethodName := ⟨RX7, "pairBit", "(II)J"⟩
abbrev cX7_cell : ByteArray := prog_1_method_35_code
def yX7_cell : MethodName := ⟨RX7, "cell", "(II)I"⟩
abbrev cX7_at : ByteArray := prog_1_method_36_code
def yX7_at : MethodName := ⟨RX7, "at", "([II)I"⟩
abbrev cX7_put : ByteArray := prog_1_method_37_code
def yX7_put : MethodName := ⟨RX7, "put", "([III)V"⟩
abbrev cX7_around : ByteArray := prog_1_method_38_code
def yX7_around : MethodName := ⟨RX7, "around", "([II)I"⟩
abbrev cX7_reach : ByteArray := prog_1_method_39_code
def yX7_reach : MethodName := ⟨RX7, "reach", "([III)I"⟩
def RX8 : String := "PlanarityTesterModel"
def TX8 : u_T := fun k => match k with
  | 0 => ("PlanarityTesterModel", "state", "[I", true)
  | 1 => ("PlanarityTesterModel", "history", "[I", true)
  | 2 => ("PlanarityTesterModel", "states", "I", false)
  | 3 => ("PlanarityTesterModel", "snapshot", "[I", true)
  | 4 => ("PlanarityTesterModel", "hasSnapshot", "Z", false)
  | 5 => ("PlanarityTesterModel", "text", "[I", true)
  | 6 => ("PlanarityTesterModel", "length", "I", false)
  | 7 => ("PlanarityTesterModel", "at", "I", false)
  | 8 => ("PlanarityTesterModel", "kind", "I", false)
  | 9 => ("PlanarityTesterModel", "firstVertex", "I", false)
  | 10 => ("PlanarityTesterModel", "secondVertex", "I", false)
  | 11 => ("PlanarityTesterModel", "graph", "[I", true)
  | 12 => ("PlanarityTesterModel", "blockOf", "[I", true)
  | 13 => ("PlanarityTesterModel", "blocks", "I", false)
  | 14 => ("PlanarityTesterModel", "isPlanarBlock", "[I", true)
  | 15 => ("PlanarityTesterModel", "placedOf", "[I", true)
  | 16 => ("PlanarityTesterModel", "facesOf", "[I", true)
  | 17 => ("PlanarityTesterModel", "inBlock", "[I", true)
  | 18 => ("PlanarityTesterModel", "placed", "[I", true)
  | 19 => ("PlanarityTesterModel", "placedVertices", "I", false)
  | 20 => ("PlanarityTesterModel", "placedEdges", "I", false)
  | 21 => ("PlanarityTesterModel", "faces", "I", false)
  | 22 => ("PlanarityTesterModel", "faceLength", "[I", true)
  | 23 => ("PlanarityTesterModel", "face", "[I", true)
  | 24 => ("PlanarityTesterModel", "fragments", "I", false)
  | 25 => ("PlanarityTesterModel", "fragmentPart", "[I", true)
  | 26 => ("PlanarityTesterModel", "fragmentContacts", "[I", true)
  | 27 => ("PlanarityTesterModel", "chosenFace", "I", false)
  | 28 => ("PlanarityTesterModel", "path", "[I", true)
  | 29 => ("PlanarityTesterModel", "pathLength", "I", false)
  | 30 => ("PlanarityTesterModel", "distance", "[I", true)
  | 31 => ("PlanarityTesterModel", "turned", "[I", true)
  | 32 => ("PlanarityTesterModel", "successor", "[I", true)
  | 33 => ("PlanarityTesterModel", "walkOfDart", "[I", true)
  | _ => ("PlanarityTesterModel", "walks", "I", false)
def tyX8 : Nat → FieldType := fun k => match k with
  | 0 => .array .int
  | 1 => .array .int
  | 2 => .int
  | 3 => .array .int
  | 4 => .boolean
  | 5 => .array .int
  | 6 => .int
  | 7 => .int
  | 8 => .int
  | 9 => .int
  | 10 => .int
  | 11 => .array .int
  | 12 => .array .int
  | 13 => .int
  | 14 => .array .int
  | 15 => .array .int
  | 16 => .array .int
  | 17 => .array .int
  | 18 => .array .int
  | 19 => .int
  | 20 => .int
  | 21 => .int
  | 22 => .array .int
  | 23 => .array .int
  | 24 => .int
  | 25 => .array .int
  | 26 => .array .int
  | 27 => .int
  | 28 => .array .int
  | 29 => .int
  | 30 => .array .int
  | 31 => .array .int
  | 32 => .array .int
  | 33 => .array .int
  | _ => .int
abbrev wsX80 : List Cond := u_ws RX8 TX8 35
theorem nmX8 : ∀ a, a < 35 → ∀ b, b < 35 → a ≠ b → (TX8 a).2.1 ≠ (TX8 b).2.1 := by decide +kernel
theorem tyX8_ok : ∀ k, k < 35 → parseFieldDescriptor (TX8 k).2.2.1 = some (tyX8 k) := by decide +kernel
abbrev cX8_init : ByteArray := prog_10_method_1_code
def yX8_init : MethodName := ⟨RX8, "<init>", "()V"⟩
abbrev cX8_within : ByteArray := prog_10_method_2_code
def yX8_within : MethodName := ⟨RX8, "within", "(III)Z"⟩
abbrev cX8_isVertex : ByteArray := prog_10_method_3_code
def yX8_isVertex : MethodName := ⟨RX8, "isVertex", "(I)Z"⟩
abbrev cX8_pair : ByteArray := prog_10_method_4_code
def yX8_pair : MethodName := ⟨RX8, "pair", "(II)I"⟩
abbrev cX8_ones : ByteArray := prog_10_method_5_code
def yX8_ones : MethodName := ⟨RX8, "ones", "(I)I"⟩
abbrev cX8_lowest : ByteArray := prog_10_method_6_code
def yX8_lowest : MethodName := ⟨RX8, "lowest", "(I)I"⟩
abbrev cX8_isEdge : ByteArray := prog_10_method_7_code
def yX8_isEdge : MethodName := ⟨RX8, "isEdge", "(II)Z"⟩
abbrev cX8_edges : ByteArray := prog_10_method_8_code
def yX8_edges : MethodName := ⟨RX8, "edges", "()I"⟩
abbrev cX8_record : ByteArray := prog_10_method_9_code
def yX8_record : MethodName := ⟨RX8, "record", "()V"⟩
abbrev cX8_undo : ByteArray := prog_10_method_10_code
def yX8_undo : MethodName := ⟨RX8, "undo", "()I"⟩
abbrev cX8_save : ByteArray := prog_10_method_11_code
def yX8_save : MethodName := ⟨RX8, "save", "()I"⟩
abbrev cX8_restore : ByteArray := prog_10_method_12_code
def yX8_restore : MethodName := ⟨RX8, "restore", "()I"⟩
abbrev cX8_takeGraph : ByteArray := prog_10_method_13_code
def yX8_takeGraph : MethodName := ⟨RX8, "takeGraph", "()V"⟩
abbrev cX8_flipInGraph : ByteArray := prog_10_method_14_code
def yX8_flipInGraph : MethodName := ⟨RX8, "flipInGraph", "(II)V"⟩
abbrev cX8_joined : ByteArray := prog_10_method_15_code
def yX8_joined : MethodName := ⟨RX8, "joined", "(IIZ)I"⟩
abbrev cX8_joinBlocks : ByteArray := prog_10_method_16_code
def yX8_joinBlocks : MethodName := ⟨RX8, "joinBlocks", "(II)V"⟩
abbrev cX8_joinAround : ByteArray := prog_10_method_17_code
def yX8_joinAround : MethodName := ⟨RX8, "joinAround", "(I)V"⟩
abbrev cX8_findBlocks : ByteArray := prog_10_method_18_code
def yX8_findBlocks : MethodName := ⟨RX8, "findBlocks", "()V"⟩
abbrev cX8_isInBlock : ByteArray := prog_10_method_19_code
def yX8_isInBlock : MethodName := ⟨RX8, "isInBlock", "(III)Z"⟩
abbrev cX8_neighborsIn : ByteArray := prog_10_method_20_code
def yX8_neighborsIn : MethodName := ⟨RX8, "neighborsIn", "(II)I"⟩
abbrev cX8_addToFace : ByteArray := prog_10_method_21_code
def yX8_addToFace : MethodName := ⟨RX8, "addToFace", "(II)V"⟩
abbrev cX8_isOnFace : ByteArray := prog_10_method_22_code
def yX8_isOnFace : MethodName := ⟨RX8, "isOnFace", "(II)Z"⟩
abbrev cX8_placeEdge : ByteArray := prog_10_method_23_code
def yX8_placeEdge : MethodName := ⟨RX8, "placeEdge", "(II)V"⟩
abbrev cX8_layDistances : ByteArray := prog_10_method_24_code
def yX8_layDistances : MethodName := ⟨RX8, "layDistances", "(II)V"⟩
abbrev cX8_lowestAt : ByteArray := prog_10_method_25_code
def yX8_lowestAt : MethodName := ⟨RX8, "lowestAt", "(II)I"⟩
abbrev cX8_placeCycle : ByteArray := prog_10_method_26_code
def yX8_placeCycle : MethodName := ⟨RX8, "placeCycle", "(I)V"⟩
abbrev cX8_isFragment : ByteArray := prog_10_method_27_code
def yX8_isFragment : MethodName := ⟨RX8, "isFragment", "(I)Z"⟩
abbrev cX8_addFragment : ByteArray := prog_10_method_28_code
def yX8_addFragment : MethodName := ⟨RX8, "addFragment", "(II)V"⟩
abbrev cX8_contactsOf : ByteArray := prog_10_method_29_code
def yX8_contactsOf : MethodName := ⟨RX8, "contactsOf", "(I)I"⟩
abbrev cX8_findFragments : ByteArray := prog_10_method_30_code
def yX8_findFragments : MethodName := ⟨RX8, "findFragments", "()V"⟩
abbrev cX8_fitting : ByteArray := prog_10_method_31_code
def yX8_fitting : MethodName := ⟨RX8, "fitting", "(I)I"⟩
abbrev cX8_chooseFragment : ByteArray := prog_10_method_32_code
def yX8_chooseFragment : MethodName := ⟨RX8, "chooseFragment", "()I"⟩
abbrev cX8_addToPath : ByteArray := prog_10_method_33_code
def yX8_addToPath : MethodName := ⟨RX8, "addToPath", "(I)V"⟩
abbrev cX8_layPath : ByteArray := prog_10_method_34_code
def yX8_layPath : MethodName := ⟨RX8, "layPath", "(I)V"⟩
abbrev cX8_placePath : ByteArray := prog_10_method_35_code
def yX8_placePath : MethodName := ⟨RX8, "placePath", "()V"⟩
abbrev cX8_laySuccessors : ByteArray := prog_10_method_36_code
def yX8_laySuccessors : MethodName := ⟨RX8, "laySuccessors", "()V"⟩
abbrev cX8_embed : ByteArray := prog_10_method_37_code
def yX8_embed : MethodName := ⟨RX8, "embed", "(I)V"⟩
abbrev cX8_isPlanar : ByteArray := prog_10_method_38_code
def yX8_isPlanar : MethodName := ⟨RX8, "isPlanar", "()Z"⟩
abbrev cX8_isPlanarNow : ByteArray := prog_10_method_39_code
def yX8_isPlanarNow : MethodName := ⟨RX8, "isPlanarNow", "()Z"⟩
abbrev cX8_isPlanarIfFlipped : ByteArray := prog_10_method_40_code
def yX8_isPlanarIfFlipped : MethodName := ⟨RX8, "isPlanarIfFlipped", "(II)Z"⟩
abbrev cX8_flip : ByteArray := prog_10_method_41_code
def yX8_flip : MethodName := ⟨RX8, "flip", "(II)V"⟩
abbrev cX8_add : ByteArray := prog_10_method_42_code
def yX8_add : MethodName := ⟨RX8, "add", "(II)I"⟩
abbrev cX8_drop : ByteArray := prog_10_method_43_code
def yX8_drop : MethodName := ⟨RX8, "drop", "(II)I"⟩
abbrev cX8_clear : ByteArray := prog_10_method_44_code
def yX8_clear : MethodName := ⟨RX8, "clear", "()I"⟩
abbrev cX8_complete : ByteArray := prog_10_method_45_code
def yX8_complete : MethodName := ⟨RX8, "complete", "()I"⟩
abbrev cX8_append : ByteArray := prog_10_method_46_code
def yX8_append : MethodName := ⟨RX8, "append", "(I)I"⟩
abbrev cX8_clearText : ByteArray := prog_10_method_47_code
def yX8_clearText : MethodName := ⟨RX8, "clearText", "()I"⟩
abbrev cX8_nextCharacter : ByteArray := prog_10_method_48_code
def yX8_nextCharacter : MethodName := ⟨RX8, "nextCharacter", "()I"⟩
abbrev cX8_takes : ByteArray := prog_10_method_49_code
def yX8_takes : MethodName := ⟨RX8, "takes", "(I)Z"⟩
abbrev cX8_readsWord : ByteArray := prog_10_method_50_code
def yX8_readsWord : MethodName := ⟨RX8, "readsWord", "()Z"⟩
abbrev cX8_readsEdit : ByteArray := prog_10_method_51_code
def yX8_readsEdit : MethodName := ⟨RX8, "readsEdit", "()Z"⟩
abbrev cX8_findFault : ByteArray := prog_10_method_52_code
def yX8_findFault : MethodName := ⟨RX8, "findFault", "()I"⟩
abbrev cX8_fault : ByteArray := prog_10_method_53_code
def yX8_fault : MethodName := ⟨RX8, "fault", "()I"⟩
abbrev cX8_run : ByteArray := prog_10_method_54_code
def yX8_run : MethodName := ⟨RX8, "run", "()I"⟩
abbrev cX8_neighbors : ByteArray := prog_10_method_55_code
def yX8_neighbors : MethodName := ⟨RX8, "neighbors", "(I)I"⟩
abbrev cX8_components : ByteArray := prog_10_method_56_code
def yX8_components : MethodName := ⟨RX8, "components", "()I"⟩
abbrev cX8_blocksNow : ByteArray := prog_10_method_57_code
def yX8_blocksNow : MethodName := ⟨RX8, "blocksNow", "()I"⟩
abbrev cX8_cutVertices : ByteArray := prog_10_method_58_code
def yX8_cutVertices : MethodName := ⟨RX8, "cutVertices", "()I"⟩
abbrev cX8_edgesOf : ByteArray := prog_10_method_59_code
def yX8_edgesOf : MethodName := ⟨RX8, "edgesOf", "(I)I"⟩
abbrev cX8_bridges : ByteArray := prog_10_method_60_code
def yX8_bridges : MethodName := ⟨RX8, "bridges", "()I"⟩
abbrev cX8_count : ByteArray := prog_10_method_61_code
def yX8_count : MethodName := ⟨RX8, "count", "(I)I"⟩
abbrev cX8_block : ByteArray := prog_10_method_62_code
def yX8_block : MethodName := ⟨RX8, "block", "(II)I"⟩
abbrev cX8_verticesOf : ByteArray := prog_10_method_63_code
def yX8_verticesOf : MethodName := ⟨RX8, "verticesOf", "(I)I"⟩
abbrev cX8_blockInfo : ByteArray := prog_10_method_64_code
def yX8_blockInfo : MethodName := ⟨RX8, "blockInfo", "(II)I"⟩
abbrev cX8_planar : ByteArray := prog_10_method_65_code
def yX8_planar : MethodName := ⟨RX8, "planar", "()I"⟩
abbrev cX8_behind : ByteArray := prog_10_method_66_code
def yX8_behind : MethodName := ⟨RX8, "behind", "(II)I"⟩
abbrev cX8_next : ByteArray := prog_10_method_67_code
def yX8_next : MethodName := ⟨RX8, "next", "(II)I"⟩
abbrev cX8_findWalks : ByteArray := prog_10_method_68_code
def yX8_findWalks : MethodName := ⟨RX8, "findWalks", "()Z"⟩
abbrev cX8_walks : ByteArray := prog_10_method_69_code
def yX8_walks : MethodName := ⟨RX8, "walks", "()I"⟩
abbrev cX8_lengthOf : ByteArray := prog_10_method_70_code
def yX8_lengthOf : MethodName := ⟨RX8, "lengthOf", "(I)I"⟩
abbrev cX8_walkLength : ByteArray := prog_10_method_71_code
def yX8_walkLength : MethodName := ⟨RX8, "walkLength", "(I)I"⟩
abbrev cX8_walkVertex : ByteArray := prog_10_method_72_code
def yX8_walkVertex : MethodName := ⟨RX8, "walkVertex", "(II)I"⟩
abbrev cX8_walkOf : ByteArray := prog_10_method_73_code
def yX8_walkOf : MethodName := ⟨RX8, "walkOf", "(II)I"⟩
abbrev cX8_findForbidden : ByteArray := prog_10_method_74_code
def yX8_findForbidden : MethodName := ⟨RX8, "findForbidden", "()Z"⟩
abbrev cX8_forbidden : ByteArray := prog_10_method_75_code
def yX8_forbidden : MethodName := ⟨RX8, "forbidden", "(I)I"⟩
abbrev cX8_inForbidden : ByteArray := prog_10_method_76_code
def yX8_inForbidden : MethodName := ⟨RX8, "inForbidden", "(II)I"⟩
abbrev cX8_ifFlipped : ByteArray := prog_10_method_77_code
def yX8_ifFlipped : MethodName := ⟨RX8, "ifFlipped", "(II)I"⟩
abbrev cX8_joinable : ByteArray := prog_10_method_78_code
def yX8_joinable : MethodName := ⟨RX8, "joinable", "(I)I"⟩
abbrev cX8_density : ByteArray := prog_10_method_79_code
def yX8_density : MethodName := ⟨RX8, "density", "()D"⟩
def RJ6 : String := "java/lang/Integer"
def TJ6 : u_T := fun k => match k with
  | _ => ("", "", "", false)
def tyJ6 : Nat → FieldType := fun k => match k with
  | _ => .int
abbrev wsJ60 : List Cond := u_ws RJ6 TJ6 0
theorem nmJ6 : ∀ a, a < 0 → ∀ b, b < 0 → a ≠ b → (TJ6 a).2.1 ≠ (TJ6 b).2.1 := by decide +kernel
theorem tyJ6_ok : ∀ k, k < 0 → parseFieldDescriptor (TJ6 k).2.2.1 = some (tyJ6 k) := by decide +kernel
abbrev cJ6_bitCount_0f7a4 : ByteArray := prog_11_method_49_code
def yJ6_bitCount_0f7a4 : MethodName := ⟨RJ6, "bitCount", "(I)I"⟩
def RJ13 : String := "java/lang/Long"
def TJ13 : u_T := fun k => match k with
  | _ => ("", "", "", false)
def tyJ13 : Nat → FieldType := fun k => match k with
  | _ => .int
abbrev wsJ130 : List Cond := u_ws RJ13 TJ13 0
theorem nmJ13 : ∀ a, a < 0 → ∀ b, b < 0 → a ≠ b → (TJ13 a).2.1 ≠ (TJ13 b).2.1 := by decide +kernel
theorem tyJ13_ok : ∀ k, k < 0 → parseFieldDescriptor (TJ13 k).2.2.1 = some (tyJ13 k) := by decide +kernel
abbrev cJ13_bitCount_95d88 : ByteArray := prog_12_method_50_code
def yJ13_bitCount_95d88 : MethodName := ⟨RJ13, "bitCount", "(J)I"⟩
def RJ9 : String := "java/lang/Math"
def TJ9 : u_T := fun k => match k with
  | _ => ("", "", "", false)
def tyJ9 : Nat → FieldType := fun k => match k with
  | _ => .int
abbrev wsJ90 : List Cond := u_ws RJ9 TJ9 0
theorem nmJ9 : ∀ a, a < 0 → ∀ b, b < 0 → a ≠ b → (TJ9 a).2.1 ≠ (TJ9 b).2.1 := by decide +kernel
theorem tyJ9_ok : ∀ k, k < 0 → parseFieldDescriptor (TJ9 k).2.2.1 = some (tyJ9 k) := by decide +kernel
abbrev cJ9_max_7cf53 : ByteArray := prog_13_method_65_code
def yJ9_max_7cf53 : MethodName := ⟨RJ9, "max", "(II)I"⟩
abbrev cJ9_min_7cf53 : ByteArray := prog_13_method_69_code
def yJ9_min_7cf53 : MethodName := ⟨RJ9, "min", "(II)I"⟩
def RJ0 : String := "java/lang/String"
def TJ0 : u_T := fun k => match k with
  | _ => ("", "", "", false)
def tyJ0 : Nat → FieldType := fun k => match k with
  | _ => .int
abbrev wsJ00 : List Cond := u_ws RJ0 TJ0 0
theorem nmJ0 : ∀ a, a < 0 → ∀ b, b < 0 → a ≠ b → (TJ0 a).2.1 ≠ (TJ0 b).2.1 := by decide +kernel
theorem tyJ0_ok : ∀ k, k < 0 → parseFieldDescriptor (TJ0 k).2.2.1 = some (tyJ0 k) := by decide +kernel
abbrev cJ0_length_8abf5 : ByteArray := prog_14_method_54_code
def yJ0_length_8abf5 : MethodName := ⟨RJ0, "length", "()I"⟩
abbrev cJ0_isEmpty_aae02 : ByteArray := prog_14_method_55_code
def yJ0_isEmpty_aae02 : MethodName := ⟨RJ0, "isEmpty", "()Z"⟩
abbrev cJ0_charAt_5068e : ByteArray := prog_14_method_56_code
def yJ0_charAt_5068e : MethodName := ⟨RJ0, "charAt", "(I)C"⟩
abbrev cJ0_coder_7d493 : ByteArray := prog_14_method_152_code
def yJ0_coder_7d493 : MethodName := ⟨RJ0, "coder", "()B"⟩
abbrev cJ0_isLatin1_aae02 : ByteArray := prog_14_method_154_code
def yJ0_isLatin1_aae02 : MethodName := ⟨RJ0, "isLatin1", "()Z"⟩
abbrev cJ0_checkIndex_df160 : ByteArray := prog_14_method_155_code
def yJ0_checkIndex_df160 : MethodName := ⟨RJ0, "checkIndex", "(II)V"⟩
def RJ1 : String := "java/lang/StringLatin1"
def TJ1 : u_T := fun k => match k with
  | _ => ("", "", "", false)
def tyJ1 : Nat → FieldType := fun k => match k with
  | _ => .int
abbrev wsJ10 : List Cond := u_ws RJ1 TJ1 0
theorem nmJ1 : ∀ a, a < 0 → ∀ b, b < 0 → a ≠ b → (TJ1 a).2.1 ≠ (TJ1 b).2.1 := by decide +kernel
theorem tyJ1_ok : ∀ k, k < 0 → parseFieldDescriptor (TJ1 k).2.2.1 = some (tyJ1 k) := by decide +kernel
abbrev cJ1_charAt_3b067 : ByteArray := prog_15_method_2_code
def yJ1_charAt_3b067 : MethodName := ⟨RJ1, "charAt", "([BI)C"⟩
def RJ2 : String := "java/lang/StringUTF16"
def TJ2 : u_T := fun k => match k with
  | _ => ("", "", "", false)
def tyJ2 : Nat → FieldType := fun k => match k with
  | _ => .int
abbrev wsJ20 : List Cond := u_ws RJ2 TJ2 0
theorem nmJ2 : ∀ a, a < 0 → ∀ b, b < 0 → a ≠ b → (TJ2 a).2.1 ≠ (TJ2 b).2.1 := by decide +kernel
theorem tyJ2_ok : ∀ k, k < 0 → parseFieldDescriptor (TJ2 k).2.2.1 = some (tyJ2 k) := by decide +kernel
abbrev cJ2_getChar_3b067 : ByteArray := prog_16_method_5_code
def yJ2_getChar_3b067 : MethodName := ⟨RJ2, "getChar", "([BI)C"⟩
abbrev cJ2_length_9d52b : ByteArray := prog_16_method_6_code
def yJ2_length_9d52b : MethodName := ⟨RJ2, "length", "([B)I"⟩
abbrev cJ2_charAt_3b067 : ByteArray := prog_16_method_83_code
def yJ2_charAt_3b067 : MethodName := ⟨RJ2, "charAt", "([BI)C"⟩
abbrev cJ2_checkIndex_2214a : ByteArray := prog_16_method_91_code
def yJ2_checkIndex_2214a : MethodName := ⟨RJ2, "checkIndex", "(I[B)V"⟩
def RJ3 : String := "jdk/internal/util/Preconditions"
def TJ3 : u_T := fun k => match k with
  | _ => ("", "", "", false)
def tyJ3 : Nat → FieldType := fun k => match k with
  | _ => .int
abbrev wsJ30 : List Cond := u_ws RJ3 TJ3 0
theorem nmJ3 : ∀ a, a < 0 → ∀ b, b < 0 → a ≠ b → (TJ3 a).2.1 ≠ (TJ3 b).2.1 := by decide +kernel
theorem tyJ3_ok : ∀ k, k < 0 → parseFieldDescriptor (TJ3 k).2.2.1 = some (tyJ3 k) := by decide +kernel
abbrev cJ3_checkIndex_8e157 : ByteArray := prog_17_method_11_code
def yJ3_checkIndex_8e157 : MethodName := ⟨RJ3, "checkIndex", "(IILjava/util/function/BiFunction;)I"⟩
def RL : String := "PlanarityTesterLaw"
abbrev cL_law : ByteArray := code
def yL_law : MethodName := ⟨RL, "law", "([I)Z"⟩
abbrev vwCl : List vw_C := [(RX0, TX0, 5), (RX1, TX1, 16), (RX2, TX2, 4), (RX3, TX3, 3), (RX4, TX4, 11), (RX5, TX5, 3), (RX6, TX6, 8), (RX7, TX7, 9), (RX8, TX8, 35)]
end
