section
-- ===== PART A: goes FIRST, ahead of the names: the tables' words, and 'selects' of the private methods out of them =====
/-- a private method of a class that the tables say can be made, by its rows of tables_1 -/
def lw_okq (q : MethodName × Nat) : Prop := (q.1.cls ≠ "java/lang/invoke/MethodHandle" ∧ q.1.cls ≠ "java/lang/invoke/VarHandle") ∧ Cond.instantiable q.1.cls q.2 ∈ tables_1 ∧ Cond.privateMethod q.1 ∈ tables_1 ∧ Cond.instanceMethod q.1 ∈ tables_1
theorem lw_p0 : lw_okq (⟨"PlanarityTester$History", "forgetOldest", "()V"⟩, 4) := ⟨⟨by decide +kernel, by decide +kernel⟩, List.mem_of_getElem? (i := 42) (by decide +kernel), List.mem_of_getElem? (i := 279) (by decide +kernel), List.mem_of_getElem? (i := 280) (by decide +kernel)⟩
theorem lw_p1 : lw_okq (⟨"PlanarityTester$Plan", "fillNear", "()V"⟩, 11) := ⟨⟨by decide +kernel, by decide +kernel⟩, List.mem_of_getElem? (i := 85) (by decide +kernel), List.mem_of_getElem? (i := 332) (by decide +kernel), List.mem_of_getElem? (i := 333) (by decide +kernel)⟩
theorem lw_p2 : lw_okq (⟨"PlanarityTester$Plan", "blockAround", "(II)I"⟩, 11) := ⟨⟨by decide +kernel, by decide +kernel⟩, List.mem_of_getElem? (i := 85) (by decide +kernel), List.mem_of_getElem? (i := 353) (by decide +kernel), List.mem_of_getElem? (i := 354) (by decide +kernel)⟩
theorem lw_p3 : lw_okq (⟨"PlanarityTester$Embedding", "start", "([II)V"⟩, 16) := ⟨⟨by decide +kernel, by decide +kernel⟩, List.mem_of_getElem? (i := 91) (by decide +kernel), List.mem_of_getElem? (i := 367) (by decide +kernel), List.mem_of_getElem? (i := 368) (by decide +kernel)⟩
theorem lw_p4 : lw_okq (⟨"PlanarityTester$Embedding", "placeCycle", "()Z"⟩, 16) := ⟨⟨by decide +kernel, by decide +kernel⟩, List.mem_of_getElem? (i := 91) (by decide +kernel), List.mem_of_getElem? (i := 380) (by decide +kernel), List.mem_of_getElem? (i := 381) (by decide +kernel)⟩
theorem lw_p5 : lw_okq (⟨"PlanarityTester$Embedding", "findPath", "(III)Z"⟩, 16) := ⟨⟨by decide +kernel, by decide +kernel⟩, List.mem_of_getElem? (i := 91) (by decide +kernel), List.mem_of_getElem? (i := 388) (by decide +kernel), List.mem_of_getElem? (i := 389) (by decide +kernel)⟩
theorem lw_p6 : lw_okq (⟨"PlanarityTester$Embedding", "placeEdge", "(II)V"⟩, 16) := ⟨⟨by decide +kernel, by decide +kernel⟩, List.mem_of_getElem? (i := 91) (by decide +kernel), List.mem_of_getElem? (i := 396) (by decide +kernel), List.mem_of_getElem? (i := 397) (by decide +kernel)⟩
theorem lw_p7 : lw_okq (⟨"PlanarityTester$Embedding", "chooseFragment", "()Z"⟩, 16) := ⟨⟨by decide +kernel, by decide +kernel⟩, List.mem_of_getElem? (i := 91) (by decide +kernel), List.mem_of_getElem? (i := 400) (by decide +kernel), List.mem_of_getElem? (i := 401) (by decide +kernel)⟩
theorem lw_p8 : lw_okq (⟨"PlanarityTester$Embedding", "weigh", "(II)Z"⟩, 16) := ⟨⟨by decide +kernel, by decide +kernel⟩, List.mem_of_getElem? (i := 91) (by decide +kernel), List.mem_of_getElem? (i := 405) (by decide +kernel), List.mem_of_getElem? (i := 406) (by decide +kernel)⟩
theorem lw_p9 : lw_okq (⟨"PlanarityTester$Embedding", "choosePath", "()Z"⟩, 16) := ⟨⟨by decide +kernel, by decide +kernel⟩, List.mem_of_getElem? (i := 91) (by decide +kernel), List.mem_of_getElem? (i := 409) (by decide +kernel), List.mem_of_getElem? (i := 410) (by decide +kernel)⟩
theorem lw_p10 : lw_okq (⟨"PlanarityTester$Embedding", "splitFace", "()V"⟩, 16) := ⟨⟨by decide +kernel, by decide +kernel⟩, List.mem_of_getElem? (i := 91) (by decide +kernel), List.mem_of_getElem? (i := 413) (by decide +kernel), List.mem_of_getElem? (i := 414) (by decide +kernel)⟩
theorem lw_p11 : lw_okq (⟨"PlanarityTester$Plan", "keepBlock", "(I)V"⟩, 11) := ⟨⟨by decide +kernel, by decide +kernel⟩, List.mem_of_getElem? (i := 85) (by decide +kernel), List.mem_of_getElem? (i := 417) (by decide +kernel), List.mem_of_getElem? (i := 418) (by decide +kernel)⟩
theorem lw_p12 : lw_okq (⟨"PlanarityTester$EditText", "formAt", "(I)Ljava/lang/String;"⟩, 5) := ⟨⟨by decide +kernel, by decide +kernel⟩, List.mem_of_getElem? (i := 63) (by decide +kernel), List.mem_of_getElem? (i := 471) (by decide +kernel), List.mem_of_getElem? (i := 472) (by decide +kernel)⟩
theorem lw_p13 : lw_okq (⟨"PlanarityTester$EditText", "signAt", "(I)I"⟩, 5) := ⟨⟨by decide +kernel, by decide +kernel⟩, List.mem_of_getElem? (i := 63) (by decide +kernel), List.mem_of_getElem? (i := 475) (by decide +kernel), List.mem_of_getElem? (i := 476) (by decide +kernel)⟩
theorem lw_p14 : lw_okq (⟨"PlanarityTester$EditText", "signsRight", "(ILjava/lang/String;)I"⟩, 5) := ⟨⟨by decide +kernel, by decide +kernel⟩, List.mem_of_getElem? (i := 63) (by decide +kernel), List.mem_of_getElem? (i := 484) (by decide +kernel), List.mem_of_getElem? (i := 485) (by decide +kernel)⟩
theorem lw_p15 : lw_okq (⟨"PlanarityTester", "carryOut", "(CII)Z"⟩, 9) := ⟨⟨by decide +kernel, by decide +kernel⟩, List.mem_of_getElem? (i := 18) (by decide +kernel), List.mem_of_getElem? (i := 561) (by decide +kernel), List.mem_of_getElem? (i := 562) (by decide +kernel)⟩
def lw_privs_1 : List (MethodName × Nat) := [(⟨"PlanarityTester$History", "forgetOldest", "()V"⟩, 4), (⟨"PlanarityTester$Plan", "fillNear", "()V"⟩, 11), (⟨"PlanarityTester$Plan", "blockAround", "(II)I"⟩, 11), (⟨"PlanarityTester$Embedding", "start", "([II)V"⟩, 16), (⟨"PlanarityTester$Embedding", "placeCycle", "()Z"⟩, 16), (⟨"PlanarityTester$Embedding", "findPath", "(III)Z"⟩, 16), (⟨"PlanarityTester$Embedding", "placeEdge", "(II)V"⟩, 16), (⟨"PlanarityTester$Embedding", "chooseFragment", "()Z"⟩, 16), (⟨"PlanarityTester$Embedding", "weigh", "(II)Z"⟩, 16), (⟨"PlanarityTester$Embedding", "choosePath", "()Z"⟩, 16), (⟨"PlanarityTester$Embedding", "splitFace", "()V"⟩, 16), (⟨"PlanarityTester$Plan", "keepBlock", "(I)V"⟩, 11), (⟨"PlanarityTester$EditText", "formAt", "(I)Ljava/lang/String;"⟩, 5), (⟨"PlanarityTester$EditText", "signAt", "(I)I"⟩, 5), (⟨"PlanarityTester$EditText", "signsRight", "(ILjava/lang/String;)I"⟩, 5), (⟨"PlanarityTester", "carryOut", "(CII)Z"⟩, 9)]
theorem lw_r1 : ∀ q ∈ lw_privs_1, lw_okq q := List.forall_mem_cons.mpr ⟨lw_p0, List.forall_mem_cons.mpr ⟨lw_p1, List.forall_mem_cons.mpr ⟨lw_p2, List.forall_mem_cons.mpr ⟨lw_p3, List.forall_mem_cons.mpr ⟨lw_p4, List.forall_mem_cons.mpr ⟨lw_p5, List.forall_mem_cons.mpr ⟨lw_p6, List.forall_mem_cons.mpr ⟨lw_p7, List.forall_mem_cons.mpr ⟨lw_p8, List.forall_mem_cons.mpr ⟨lw_p9, List.forall_mem_cons.mpr ⟨lw_p10, List.forall_mem_cons.mpr ⟨lw_p11, List.forall_mem_cons.mpr ⟨lw_p12, List.forall_mem_cons.mpr ⟨lw_p13, List.forall_mem_cons.mpr ⟨lw_p14, List.forall_mem_cons.mpr ⟨lw_p15, fun _ h => absurd h List.not_mem_nil⟩⟩⟩⟩⟩⟩⟩⟩⟩⟩⟩⟩⟩⟩⟩⟩
theorem lw_p16 : lw_okq (⟨"PlanarityTester", "traced", "()Z"⟩, 9) := ⟨⟨by decide +kernel, by decide +kernel⟩, List.mem_of_getElem? (i := 18) (by decide +kernel), List.mem_of_getElem? (i := 655) (by decide +kernel), List.mem_of_getElem? (i := 656) (by decide +kernel)⟩
theorem lw_p17 : lw_okq (⟨"PlanarityTester$Walks", "orderAround", "(LPlanarityTester$Plan;I)V"⟩, 8) := ⟨⟨by decide +kernel, by decide +kernel⟩, List.mem_of_getElem? (i := 180) (by decide +kernel), List.mem_of_getElem? (i := 668) (by decide +kernel), List.mem_of_getElem? (i := 669) (by decide +kernel)⟩
theorem lw_p18 : lw_okq (⟨"PlanarityTester$Walks", "follow", "(II)V"⟩, 8) := ⟨⟨by decide +kernel, by decide +kernel⟩, List.mem_of_getElem? (i := 180) (by decide +kernel), List.mem_of_getElem? (i := 689) (by decide +kernel), List.mem_of_getElem? (i := 690) (by decide +kernel)⟩
theorem lw_p19 : lw_okq (⟨"PlanarityTesterModel", "edges", "()I"⟩, 35) := ⟨⟨by decide +kernel, by decide +kernel⟩, List.mem_of_getElem? (i := 776) (by decide +kernel), List.mem_of_getElem? (i := 896) (by decide +kernel), List.mem_of_getElem? (i := 897) (by decide +kernel)⟩
theorem lw_p20 : lw_okq (⟨"PlanarityTesterModel", "record", "()V"⟩, 35) := ⟨⟨by decide +kernel, by decide +kernel⟩, List.mem_of_getElem? (i := 776) (by decide +kernel), List.mem_of_getElem? (i := 907) (by decide +kernel), List.mem_of_getElem? (i := 908) (by decide +kernel)⟩
theorem lw_p21 : lw_okq (⟨"PlanarityTesterModel", "isEdge", "(II)Z"⟩, 35) := ⟨⟨by decide +kernel, by decide +kernel⟩, List.mem_of_getElem? (i := 776) (by decide +kernel), List.mem_of_getElem? (i := 921) (by decide +kernel), List.mem_of_getElem? (i := 922) (by decide +kernel)⟩
theorem lw_p22 : lw_okq (⟨"PlanarityTesterModel", "flip", "(II)V"⟩, 35) := ⟨⟨by decide +kernel, by decide +kernel⟩, List.mem_of_getElem? (i := 776) (by decide +kernel), List.mem_of_getElem? (i := 925) (by decide +kernel), List.mem_of_getElem? (i := 926) (by decide +kernel)⟩
theorem lw_p23 : lw_okq (⟨"PlanarityTesterModel", "isPlanarNow", "()Z"⟩, 35) := ⟨⟨by decide +kernel, by decide +kernel⟩, List.mem_of_getElem? (i := 776) (by decide +kernel), List.mem_of_getElem? (i := 941) (by decide +kernel), List.mem_of_getElem? (i := 942) (by decide +kernel)⟩
theorem lw_p24 : lw_okq (⟨"PlanarityTesterModel", "takeGraph", "()V"⟩, 35) := ⟨⟨by decide +kernel, by decide +kernel⟩, List.mem_of_getElem? (i := 776) (by decide +kernel), List.mem_of_getElem? (i := 945) (by decide +kernel), List.mem_of_getElem? (i := 946) (by decide +kernel)⟩
theorem lw_p25 : lw_okq (⟨"PlanarityTesterModel", "isPlanar", "()Z"⟩, 35) := ⟨⟨by decide +kernel, by decide +kernel⟩, List.mem_of_getElem? (i := 776) (by decide +kernel), List.mem_of_getElem? (i := 949) (by decide +kernel), List.mem_of_getElem? (i := 950) (by decide +kernel)⟩
theorem lw_p26 : lw_okq (⟨"PlanarityTesterModel", "findBlocks", "()V"⟩, 35) := ⟨⟨by decide +kernel, by decide +kernel⟩, List.mem_of_getElem? (i := 776) (by decide +kernel), List.mem_of_getElem? (i := 953) (by decide +kernel), List.mem_of_getElem? (i := 954) (by decide +kernel)⟩
theorem lw_p27 : lw_okq (⟨"PlanarityTesterModel", "joinAround", "(I)V"⟩, 35) := ⟨⟨by decide +kernel, by decide +kernel⟩, List.mem_of_getElem? (i := 776) (by decide +kernel), List.mem_of_getElem? (i := 960) (by decide +kernel), List.mem_of_getElem? (i := 961) (by decide +kernel)⟩
theorem lw_p28 : lw_okq (⟨"PlanarityTesterModel", "joined", "(IIZ)I"⟩, 35) := ⟨⟨by decide +kernel, by decide +kernel⟩, List.mem_of_getElem? (i := 776) (by decide +kernel), List.mem_of_getElem? (i := 964) (by decide +kernel), List.mem_of_getElem? (i := 965) (by decide +kernel)⟩
theorem lw_p29 : lw_okq (⟨"PlanarityTesterModel", "joinBlocks", "(II)V"⟩, 35) := ⟨⟨by decide +kernel, by decide +kernel⟩, List.mem_of_getElem? (i := 776) (by decide +kernel), List.mem_of_getElem? (i := 968) (by decide +kernel), List.mem_of_getElem? (i := 969) (by decide +kernel)⟩
theorem lw_p30 : lw_okq (⟨"PlanarityTesterModel", "embed", "(I)V"⟩, 35) := ⟨⟨by decide +kernel, by decide +kernel⟩, List.mem_of_getElem? (i := 776) (by decide +kernel), List.mem_of_getElem? (i := 972) (by decide +kernel), List.mem_of_getElem? (i := 973) (by decide +kernel)⟩
theorem lw_p31 : lw_okq (⟨"PlanarityTesterModel", "neighborsIn", "(II)I"⟩, 35) := ⟨⟨by decide +kernel, by decide +kernel⟩, List.mem_of_getElem? (i := 776) (by decide +kernel), List.mem_of_getElem? (i := 976) (by decide +kernel), List.mem_of_getElem? (i := 977) (by decide +kernel)⟩
def lw_privs_2 : List (MethodName × Nat) := [(⟨"PlanarityTester", "traced", "()Z"⟩, 9), (⟨"PlanarityTester$Walks", "orderAround", "(LPlanarityTester$Plan;I)V"⟩, 8), (⟨"PlanarityTester$Walks", "follow", "(II)V"⟩, 8), (⟨"PlanarityTesterModel", "edges", "()I"⟩, 35), (⟨"PlanarityTesterModel", "record", "()V"⟩, 35), (⟨"PlanarityTesterModel", "isEdge", "(II)Z"⟩, 35), (⟨"PlanarityTesterModel", "flip", "(II)V"⟩, 35), (⟨"PlanarityTesterModel", "isPlanarNow", "()Z"⟩, 35), (⟨"PlanarityTesterModel", "takeGraph", "()V"⟩, 35), (⟨"PlanarityTesterModel", "isPlanar", "()Z"⟩, 35), (⟨"PlanarityTesterModel", "findBlocks", "()V"⟩, 35), (⟨"PlanarityTesterModel", "joinAround", "(I)V"⟩, 35), (⟨"PlanarityTesterModel", "joined", "(IIZ)I"⟩, 35), (⟨"PlanarityTesterModel", "joinBlocks", "(II)V"⟩, 35), (⟨"PlanarityTesterModel", "embed", "(I)V"⟩, 35), (⟨"PlanarityTesterModel", "neighborsIn", "(II)I"⟩, 35)]
theorem lw_r2 : ∀ q ∈ lw_privs_2, lw_okq q := List.forall_mem_cons.mpr ⟨lw_p16, List.forall_mem_cons.mpr ⟨lw_p17, List.forall_mem_cons.mpr ⟨lw_p18, List.forall_mem_cons.mpr ⟨lw_p19, List.forall_mem_cons.mpr ⟨lw_p20, List.forall_mem_cons.mpr ⟨lw_p21, List.forall_mem_cons.mpr ⟨lw_p22, List.forall_mem_cons.mpr ⟨lw_p23, List.forall_mem_cons.mpr ⟨lw_p24, List.forall_mem_cons.mpr ⟨lw_p25, List.forall_mem_cons.mpr ⟨lw_p26, List.forall_mem_cons.mpr ⟨lw_p27, List.forall_mem_cons.mpr ⟨lw_p28, List.forall_mem_cons.mpr ⟨lw_p29, List.forall_mem_cons.mpr ⟨lw_p30, List.forall_mem_cons.mpr ⟨lw_p31, fun _ h => absurd h List.not_mem_nil⟩⟩⟩⟩⟩⟩⟩⟩⟩⟩⟩⟩⟩⟩⟩⟩
theorem lw_p32 : lw_okq (⟨"PlanarityTesterModel", "isInBlock", "(III)Z"⟩, 35) := ⟨⟨by decide +kernel, by decide +kernel⟩, List.mem_of_getElem? (i := 776) (by decide +kernel), List.mem_of_getElem? (i := 980) (by decide +kernel), List.mem_of_getElem? (i := 981) (by decide +kernel)⟩
theorem lw_p33 : lw_okq (⟨"PlanarityTesterModel", "placeCycle", "(I)V"⟩, 35) := ⟨⟨by decide +kernel, by decide +kernel⟩, List.mem_of_getElem? (i := 776) (by decide +kernel), List.mem_of_getElem? (i := 987) (by decide +kernel), List.mem_of_getElem? (i := 988) (by decide +kernel)⟩
theorem lw_p34 : lw_okq (⟨"PlanarityTesterModel", "layDistances", "(II)V"⟩, 35) := ⟨⟨by decide +kernel, by decide +kernel⟩, List.mem_of_getElem? (i := 776) (by decide +kernel), List.mem_of_getElem? (i := 991) (by decide +kernel), List.mem_of_getElem? (i := 992) (by decide +kernel)⟩
theorem lw_p35 : lw_okq (⟨"PlanarityTesterModel", "addToFace", "(II)V"⟩, 35) := ⟨⟨by decide +kernel, by decide +kernel⟩, List.mem_of_getElem? (i := 776) (by decide +kernel), List.mem_of_getElem? (i := 995) (by decide +kernel), List.mem_of_getElem? (i := 996) (by decide +kernel)⟩
theorem lw_p36 : lw_okq (⟨"PlanarityTesterModel", "lowestAt", "(II)I"⟩, 35) := ⟨⟨by decide +kernel, by decide +kernel⟩, List.mem_of_getElem? (i := 776) (by decide +kernel), List.mem_of_getElem? (i := 999) (by decide +kernel), List.mem_of_getElem? (i := 1000) (by decide +kernel)⟩
theorem lw_p37 : lw_okq (⟨"PlanarityTesterModel", "placeEdge", "(II)V"⟩, 35) := ⟨⟨by decide +kernel, by decide +kernel⟩, List.mem_of_getElem? (i := 776) (by decide +kernel), List.mem_of_getElem? (i := 1003) (by decide +kernel), List.mem_of_getElem? (i := 1004) (by decide +kernel)⟩
theorem lw_p38 : lw_okq (⟨"PlanarityTesterModel", "findFragments", "()V"⟩, 35) := ⟨⟨by decide +kernel, by decide +kernel⟩, List.mem_of_getElem? (i := 776) (by decide +kernel), List.mem_of_getElem? (i := 1007) (by decide +kernel), List.mem_of_getElem? (i := 1008) (by decide +kernel)⟩
theorem lw_p39 : lw_okq (⟨"PlanarityTesterModel", "addFragment", "(II)V"⟩, 35) := ⟨⟨by decide +kernel, by decide +kernel⟩, List.mem_of_getElem? (i := 776) (by decide +kernel), List.mem_of_getElem? (i := 1011) (by decide +kernel), List.mem_of_getElem? (i := 1012) (by decide +kernel)⟩
theorem lw_p40 : lw_okq (⟨"PlanarityTesterModel", "isFragment", "(I)Z"⟩, 35) := ⟨⟨by decide +kernel, by decide +kernel⟩, List.mem_of_getElem? (i := 776) (by decide +kernel), List.mem_of_getElem? (i := 1015) (by decide +kernel), List.mem_of_getElem? (i := 1016) (by decide +kernel)⟩
theorem lw_p41 : lw_okq (⟨"PlanarityTesterModel", "contactsOf", "(I)I"⟩, 35) := ⟨⟨by decide +kernel, by decide +kernel⟩, List.mem_of_getElem? (i := 776) (by decide +kernel), List.mem_of_getElem? (i := 1019) (by decide +kernel), List.mem_of_getElem? (i := 1020) (by decide +kernel)⟩
theorem lw_p42 : lw_okq (⟨"PlanarityTesterModel", "chooseFragment", "()I"⟩, 35) := ⟨⟨by decide +kernel, by decide +kernel⟩, List.mem_of_getElem? (i := 776) (by decide +kernel), List.mem_of_getElem? (i := 1023) (by decide +kernel), List.mem_of_getElem? (i := 1024) (by decide +kernel)⟩
theorem lw_p43 : lw_okq (⟨"PlanarityTesterModel", "fitting", "(I)I"⟩, 35) := ⟨⟨by decide +kernel, by decide +kernel⟩, List.mem_of_getElem? (i := 776) (by decide +kernel), List.mem_of_getElem? (i := 1027) (by decide +kernel), List.mem_of_getElem? (i := 1028) (by decide +kernel)⟩
theorem lw_p44 : lw_okq (⟨"PlanarityTesterModel", "isOnFace", "(II)Z"⟩, 35) := ⟨⟨by decide +kernel, by decide +kernel⟩, List.mem_of_getElem? (i := 776) (by decide +kernel), List.mem_of_getElem? (i := 1031) (by decide +kernel), List.mem_of_getElem? (i := 1032) (by decide +kernel)⟩
theorem lw_p45 : lw_okq (⟨"PlanarityTesterModel", "layPath", "(I)V"⟩, 35) := ⟨⟨by decide +kernel, by decide +kernel⟩, List.mem_of_getElem? (i := 776) (by decide +kernel), List.mem_of_getElem? (i := 1035) (by decide +kernel), List.mem_of_getElem? (i := 1036) (by decide +kernel)⟩
theorem lw_p46 : lw_okq (⟨"PlanarityTesterModel", "addToPath", "(I)V"⟩, 35) := ⟨⟨by decide +kernel, by decide +kernel⟩, List.mem_of_getElem? (i := 776) (by decide +kernel), List.mem_of_getElem? (i := 1039) (by decide +kernel), List.mem_of_getElem? (i := 1040) (by decide +kernel)⟩
theorem lw_p47 : lw_okq (⟨"PlanarityTesterModel", "placePath", "()V"⟩, 35) := ⟨⟨by decide +kernel, by decide +kernel⟩, List.mem_of_getElem? (i := 776) (by decide +kernel), List.mem_of_getElem? (i := 1043) (by decide +kernel), List.mem_of_getElem? (i := 1044) (by decide +kernel)⟩
def lw_privs_3 : List (MethodName × Nat) := [(⟨"PlanarityTesterModel", "isInBlock", "(III)Z"⟩, 35), (⟨"PlanarityTesterModel", "placeCycle", "(I)V"⟩, 35), (⟨"PlanarityTesterModel", "layDistances", "(II)V"⟩, 35), (⟨"PlanarityTesterModel", "addToFace", "(II)V"⟩, 35), (⟨"PlanarityTesterModel", "lowestAt", "(II)I"⟩, 35), (⟨"PlanarityTesterModel", "placeEdge", "(II)V"⟩, 35), (⟨"PlanarityTesterModel", "findFragments", "()V"⟩, 35), (⟨"PlanarityTesterModel", "addFragment", "(II)V"⟩, 35), (⟨"PlanarityTesterModel", "isFragment", "(I)Z"⟩, 35), (⟨"PlanarityTesterModel", "contactsOf", "(I)I"⟩, 35), (⟨"PlanarityTesterModel", "chooseFragment", "()I"⟩, 35), (⟨"PlanarityTesterModel", "fitting", "(I)I"⟩, 35), (⟨"PlanarityTesterModel", "isOnFace", "(II)Z"⟩, 35), (⟨"PlanarityTesterModel", "layPath", "(I)V"⟩, 35), (⟨"PlanarityTesterModel", "addToPath", "(I)V"⟩, 35), (⟨"PlanarityTesterModel", "placePath", "()V"⟩, 35)]
theorem lw_r3 : ∀ q ∈ lw_privs_3, lw_okq q := List.forall_mem_cons.mpr ⟨lw_p32, List.forall_mem_cons.mpr ⟨lw_p33, List.forall_mem_cons.mpr ⟨lw_p34, List.forall_mem_cons.mpr ⟨lw_p35, List.forall_mem_cons.mpr ⟨lw_p36, List.forall_mem_cons.mpr ⟨lw_p37, List.forall_mem_cons.mpr ⟨lw_p38, List.forall_mem_cons.mpr ⟨lw_p39, List.forall_mem_cons.mpr ⟨lw_p40, List.forall_mem_cons.mpr ⟨lw_p41, List.forall_mem_cons.mpr ⟨lw_p42, List.forall_mem_cons.mpr ⟨lw_p43, List.forall_mem_cons.mpr ⟨lw_p44, List.forall_mem_cons.mpr ⟨lw_p45, List.forall_mem_cons.mpr ⟨lw_p46, List.forall_mem_cons.mpr ⟨lw_p47, fun _ h => absurd h List.not_mem_nil⟩⟩⟩⟩⟩⟩⟩⟩⟩⟩⟩⟩⟩⟩⟩⟩
theorem lw_p48 : lw_okq (⟨"PlanarityTesterModel", "laySuccessors", "()V"⟩, 35) := ⟨⟨by decide +kernel, by decide +kernel⟩, List.mem_of_getElem? (i := 776) (by decide +kernel), List.mem_of_getElem? (i := 1047) (by decide +kernel), List.mem_of_getElem? (i := 1048) (by decide +kernel)⟩
theorem lw_p49 : lw_okq (⟨"PlanarityTesterModel", "isPlanarIfFlipped", "(II)Z"⟩, 35) := ⟨⟨by decide +kernel, by decide +kernel⟩, List.mem_of_getElem? (i := 776) (by decide +kernel), List.mem_of_getElem? (i := 1051) (by decide +kernel), List.mem_of_getElem? (i := 1052) (by decide +kernel)⟩
theorem lw_p50 : lw_okq (⟨"PlanarityTesterModel", "flipInGraph", "(II)V"⟩, 35) := ⟨⟨by decide +kernel, by decide +kernel⟩, List.mem_of_getElem? (i := 776) (by decide +kernel), List.mem_of_getElem? (i := 1055) (by decide +kernel), List.mem_of_getElem? (i := 1056) (by decide +kernel)⟩
theorem lw_p51 : lw_okq (⟨"PlanarityTesterModel", "findFault", "()I"⟩, 35) := ⟨⟨by decide +kernel, by decide +kernel⟩, List.mem_of_getElem? (i := 776) (by decide +kernel), List.mem_of_getElem? (i := 1071) (by decide +kernel), List.mem_of_getElem? (i := 1072) (by decide +kernel)⟩
theorem lw_p52 : lw_okq (⟨"PlanarityTesterModel", "readsEdit", "()Z"⟩, 35) := ⟨⟨by decide +kernel, by decide +kernel⟩, List.mem_of_getElem? (i := 776) (by decide +kernel), List.mem_of_getElem? (i := 1075) (by decide +kernel), List.mem_of_getElem? (i := 1076) (by decide +kernel)⟩
theorem lw_p53 : lw_okq (⟨"PlanarityTesterModel", "readsWord", "()Z"⟩, 35) := ⟨⟨by decide +kernel, by decide +kernel⟩, List.mem_of_getElem? (i := 776) (by decide +kernel), List.mem_of_getElem? (i := 1079) (by decide +kernel), List.mem_of_getElem? (i := 1080) (by decide +kernel)⟩
theorem lw_p54 : lw_okq (⟨"PlanarityTesterModel", "nextCharacter", "()I"⟩, 35) := ⟨⟨by decide +kernel, by decide +kernel⟩, List.mem_of_getElem? (i := 776) (by decide +kernel), List.mem_of_getElem? (i := 1083) (by decide +kernel), List.mem_of_getElem? (i := 1084) (by decide +kernel)⟩
theorem lw_p55 : lw_okq (⟨"PlanarityTesterModel", "takes", "(I)Z"⟩, 35) := ⟨⟨by decide +kernel, by decide +kernel⟩, List.mem_of_getElem? (i := 776) (by decide +kernel), List.mem_of_getElem? (i := 1087) (by decide +kernel), List.mem_of_getElem? (i := 1088) (by decide +kernel)⟩
theorem lw_p56 : lw_okq (⟨"PlanarityTesterModel", "components", "()I"⟩, 35) := ⟨⟨by decide +kernel, by decide +kernel⟩, List.mem_of_getElem? (i := 776) (by decide +kernel), List.mem_of_getElem? (i := 1103) (by decide +kernel), List.mem_of_getElem? (i := 1104) (by decide +kernel)⟩
theorem lw_p57 : lw_okq (⟨"PlanarityTesterModel", "blocksNow", "()I"⟩, 35) := ⟨⟨by decide +kernel, by decide +kernel⟩, List.mem_of_getElem? (i := 776) (by decide +kernel), List.mem_of_getElem? (i := 1107) (by decide +kernel), List.mem_of_getElem? (i := 1108) (by decide +kernel)⟩
theorem lw_p58 : lw_okq (⟨"PlanarityTesterModel", "cutVertices", "()I"⟩, 35) := ⟨⟨by decide +kernel, by decide +kernel⟩, List.mem_of_getElem? (i := 776) (by decide +kernel), List.mem_of_getElem? (i := 1111) (by decide +kernel), List.mem_of_getElem? (i := 1112) (by decide +kernel)⟩
theorem lw_p59 : lw_okq (⟨"PlanarityTesterModel", "bridges", "()I"⟩, 35) := ⟨⟨by decide +kernel, by decide +kernel⟩, List.mem_of_getElem? (i := 776) (by decide +kernel), List.mem_of_getElem? (i := 1115) (by decide +kernel), List.mem_of_getElem? (i := 1116) (by decide +kernel)⟩
theorem lw_p60 : lw_okq (⟨"PlanarityTesterModel", "edgesOf", "(I)I"⟩, 35) := ⟨⟨by decide +kernel, by decide +kernel⟩, List.mem_of_getElem? (i := 776) (by decide +kernel), List.mem_of_getElem? (i := 1119) (by decide +kernel), List.mem_of_getElem? (i := 1120) (by decide +kernel)⟩
theorem lw_p61 : lw_okq (⟨"PlanarityTesterModel", "verticesOf", "(I)I"⟩, 35) := ⟨⟨by decide +kernel, by decide +kernel⟩, List.mem_of_getElem? (i := 776) (by decide +kernel), List.mem_of_getElem? (i := 1131) (by decide +kernel), List.mem_of_getElem? (i := 1132) (by decide +kernel)⟩
theorem lw_p62 : lw_okq (⟨"PlanarityTesterModel", "behind", "(II)I"⟩, 35) := ⟨⟨by decide +kernel, by decide +kernel⟩, List.mem_of_getElem? (i := 776) (by decide +kernel), List.mem_of_getElem? (i := 1143) (by decide +kernel), List.mem_of_getElem? (i := 1144) (by decide +kernel)⟩
theorem lw_p63 : lw_okq (⟨"PlanarityTesterModel", "findWalks", "()Z"⟩, 35) := ⟨⟨by decide +kernel, by decide +kernel⟩, List.mem_of_getElem? (i := 776) (by decide +kernel), List.mem_of_getElem? (i := 1151) (by decide +kernel), List.mem_of_getElem? (i := 1152) (by decide +kernel)⟩
def lw_privs_4 : List (MethodName × Nat) := [(⟨"PlanarityTesterModel", "laySuccessors", "()V"⟩, 35), (⟨"PlanarityTesterModel", "isPlanarIfFlipped", "(II)Z"⟩, 35), (⟨"PlanarityTesterModel", "flipInGraph", "(II)V"⟩, 35), (⟨"PlanarityTesterModel", "findFault", "()I"⟩, 35), (⟨"PlanarityTesterModel", "readsEdit", "()Z"⟩, 35), (⟨"PlanarityTesterModel", "readsWord", "()Z"⟩, 35), (⟨"PlanarityTesterModel", "nextCharacter", "()I"⟩, 35), (⟨"PlanarityTesterModel", "takes", "(I)Z"⟩, 35), (⟨"PlanarityTesterModel", "components", "()I"⟩, 35), (⟨"PlanarityTesterModel", "blocksNow", "()I"⟩, 35), (⟨"PlanarityTesterModel", "cutVertices", "()I"⟩, 35), (⟨"PlanarityTesterModel", "bridges", "()I"⟩, 35), (⟨"PlanarityTesterModel", "edgesOf", "(I)I"⟩, 35), (⟨"PlanarityTesterModel", "verticesOf", "(I)I"⟩, 35), (⟨"PlanarityTesterModel", "behind", "(II)I"⟩, 35), (⟨"PlanarityTesterModel", "findWalks", "()Z"⟩, 35)]
theorem lw_r4 : ∀ q ∈ lw_privs_4, lw_okq q := List.forall_mem_cons.mpr ⟨lw_p48, List.forall_mem_cons.mpr ⟨lw_p49, List.forall_mem_cons.mpr ⟨lw_p50, List.forall_mem_cons.mpr ⟨lw_p51, List.forall_mem_cons.mpr ⟨lw_p52, List.forall_mem_cons.mpr ⟨lw_p53, List.forall_mem_cons.mpr ⟨lw_p54, List.forall_mem_cons.mpr ⟨lw_p55, List.forall_mem_cons.mpr ⟨lw_p56, List.forall_mem_cons.mpr ⟨lw_p57, List.forall_mem_cons.mpr ⟨lw_p58, List.forall_mem_cons.mpr ⟨lw_p59, List.forall_mem_cons.mpr ⟨lw_p60, List.forall_mem_cons.mpr ⟨lw_p61, List.forall_mem_cons.mpr ⟨lw_p62, List.forall_mem_cons.mpr ⟨lw_p63, fun _ h => absurd h List.not_mem_nil⟩⟩⟩⟩⟩⟩⟩⟩⟩⟩⟩⟩⟩⟩⟩⟩
theorem lw_p64 : lw_okq (⟨"PlanarityTesterModel", "lengthOf", "(I)I"⟩, 35) := ⟨⟨by decide +kernel, by decide +kernel⟩, List.mem_of_getElem? (i := 776) (by decide +kernel), List.mem_of_getElem? (i := 1159) (by decide +kernel), List.mem_of_getElem? (i := 1160) (by decide +kernel)⟩
theorem lw_p65 : lw_okq (⟨"PlanarityTesterModel", "findForbidden", "()Z"⟩, 35) := ⟨⟨by decide +kernel, by decide +kernel⟩, List.mem_of_getElem? (i := 776) (by decide +kernel), List.mem_of_getElem? (i := 1175) (by decide +kernel), List.mem_of_getElem? (i := 1176) (by decide +kernel)⟩
def lw_privs_5 : List (MethodName × Nat) := [(⟨"PlanarityTesterModel", "lengthOf", "(I)I"⟩, 35), (⟨"PlanarityTesterModel", "findForbidden", "()Z"⟩, 35)]
theorem lw_r5 : ∀ q ∈ lw_privs_5, lw_okq q := List.forall_mem_cons.mpr ⟨lw_p64, List.forall_mem_cons.mpr ⟨lw_p65, fun _ h => absurd h List.not_mem_nil⟩⟩
def lw_privs : List (MethodName × Nat) := lw_privs_1 ++ (lw_privs_2 ++ (lw_privs_3 ++ (lw_privs_4 ++ (lw_privs_5))))
def lw_tbl : List Cond := k2_sels lw_privs ++ tables_1
theorem lw_privs_ok : ∀ q ∈ lw_privs, lw_okq q := by
  show ∀ q ∈ lw_privs_1 ++ (lw_privs_2 ++ (lw_privs_3 ++ (lw_privs_4 ++ (lw_privs_5)))), lw_okq q
  exact List.forall_mem_append.mpr ⟨lw_r1, List.forall_mem_append.mpr ⟨lw_r2, List.forall_mem_append.mpr ⟨lw_r3, List.forall_mem_append.mpr ⟨lw_r4, lw_r5⟩⟩⟩⟩
/-- the streams that the claim lets the run draw from -/
abbrev lw_cs : List Choice := [Jvm.Choice.named "NaN.bits"]
theorem lw_bits : nanBits ∈ lw_cs := by first | decide | exact List.mem_cons_self | simp [lw_cs, nanBits]
end
section
def RX0 : String := "PlanarityTester$EditText"
def TX0 : u_T := fun k => match k with
  | 0 => ("PlanarityTester$EditText", "signs", "[I", true)
  | 1 => ("PlanarityTester$EditText", "length", "I", false)
  | 2 => ("PlanarityTester$EditText", "starts", "[I", true)
  | 3 => ("PlanarityTester$EditText", "ends", "[I", true)
  | _ => ("PlanarityTester$EditText", "edits", "I", false)
def tyX0 : Nat → FieldType := fun k => match k with
  | 0 => .array .int
  | 1 => .int
  | 2 => .array .int
  | 3 => .array .int
  | _ => .int
abbrev wsX00 : List Cond := u_ws RX0 TX0 5
theorem nmX0 : ∀ a, a < 5 → ∀ b, b < 5 → a ≠ b → (TX0 a).2.1 ≠ (TX0 b).2.1 := by decide +kernel
theorem tyX0_ok : ∀ k, k < 5 → parseFieldDescriptor (TX0 k).2.2.1 = some (tyX0 k) := by decide +kernel
abbrev cX0_init : ByteArray := prog_2_method_1_code
def yX0_init : MethodName := ⟨RX0, "<init>", "()V"⟩
abbrev cX0_length : ByteArray := prog_2_method_2_code
def yX0_length : MethodName := ⟨RX0, "length", "()I"⟩
abbrev cX0_edits : ByteArray := prog_2_method_3_code
def yX0_edits : MethodName := ⟨RX0, "edits", "()I"⟩
abbrev cX0_kindOf : ByteArray := prog_2_method_4_code
def yX0_kindOf : MethodName := ⟨RX0, "kindOf", "(I)C"⟩
abbrev cX0_firstOf : ByteArray := prog_2_method_5_code
def yX0_firstOf : MethodName := ⟨RX0, "firstOf", "(I)I"⟩
abbrev cX0_secondOf : ByteArray := prog_2_method_6_code
def yX0_secondOf : MethodName := ⟨RX0, "secondOf", "(I)I"⟩
abbrev cX0_write : ByteArray := prog_2_method_7_code
def yX0_write : MethodName := ⟨RX0, "write", "(C)Z"⟩
abbrev cX0_erase : ByteArray := prog_2_method_8_code
def yX0_erase : MethodName := ⟨RX0, "erase", "()V"⟩
abbrev cX0_scan : ByteArray := prog_2_method_9_code
def yX0_scan : MethodName := ⟨RX0, "scan", "()I"⟩
abbrev cX0_signAt : ByteArray := prog_2_method_10_code
def yX0_signAt : MethodName := ⟨RX0, "signAt", "(I)I"⟩
abbrev cX0_formAt : ByteArray := prog_2_method_11_code
def yX0_formAt : MethodName := ⟨RX0, "formAt", "(I)Ljava/lang/String;"⟩
abbrev cX0_signsRight : ByteArray := prog_2_method_12_code
def yX0_signsRight : MethodName := ⟨RX0, "signsRight", "(ILjava/lang/String;)I"⟩
def RX1 : String := "PlanarityTester$Embedding"
def TX1 : u_T := fun k => match k with
  | 0 => ("PlanarityTester$Embedding", "near", "[I", true)
  | 1 => ("PlanarityTester$Embedding", "joined", "[I", true)
  | 2 => ("PlanarityTester$Embedding", "vertices", "I", false)
  | 3 => ("PlanarityTester$Embedding", "placed", "I", false)
  | 4 => ("PlanarityTester$Embedding", "edges", "I", false)
  | 5 => ("PlanarityTester$Embedding", "placedEdges", "I", false)
  | 6 => ("PlanarityTester$Embedding", "faceSets", "[I", true)
  | 7 => ("PlanarityTester$Embedding", "followers", "[I", true)
  | 8 => ("PlanarityTester$Embedding", "faces", "I", false)
  | 9 => ("PlanarityTester$Embedding", "inside", "I", false)
  | 10 => ("PlanarityTester$Embedding", "contacts", "I", false)
  | 11 => ("PlanarityTester$Embedding", "face", "I", false)
  | 12 => ("PlanarityTester$Embedding", "fitting", "I", false)
  | 13 => ("PlanarityTester$Embedding", "path", "[I", true)
  | 14 => ("PlanarityTester$Embedding", "pathLength", "I", false)
  | _ => ("PlanarityTester$Embedding", "layers", "[I", true)
def tyX1 : Nat → FieldType := fun k => match k with
  | 0 => .array .int
  | 1 => .array .int
  | 2 => .int
  | 3 => .int
  | 4 => .int
  | 5 => .int
  | 6 => .array .int
  | 7 => .array .int
  | 8 => .int
  | 9 => .int
  | 10 => .int
  | 11 => .int
  | 12 => .int
  | 13 => .array .int
  | 14 => .int
  | _ => .array .int
abbrev wsX10 : List Cond := u_ws RX1 TX1 16
theorem nmX1 : ∀ a, a < 16 → ∀ b, b < 16 → a ≠ b → (TX1 a).2.1 ≠ (TX1 b).2.1 := by decide +kernel
theorem tyX1_ok : ∀ k, k < 16 → parseFieldDescriptor (TX1 k).2.2.1 = some (tyX1 k) := by decide +kernel
abbrev cX1_init : ByteArray := prog_3_method_1_code
def yX1_init : MethodName := ⟨RX1, "<init>", "()V"⟩
abbrev cX1_edges : ByteArray := prog_3_method_2_code
def yX1_edges : MethodName := ⟨RX1, "edges", "()I"⟩
abbrev cX1_placedEdges : ByteArray := prog_3_method_3_code
def yX1_placedEdges : MethodName := ⟨RX1, "placedEdges", "()I"⟩
abbrev cX1_faces : ByteArray := prog_3_method_4_code
def yX1_faces : MethodName := ⟨RX1, "faces", "()I"⟩
abbrev cX1_embed : ByteArray := prog_3_method_5_code
def yX1_embed : MethodName := ⟨RX1, "embed", "([II)V"⟩
abbrev cX1_writeSuccessors : ByteArray := prog_3_method_6_code
def yX1_writeSuccessors : MethodName := ⟨RX1, "writeSuccessors", "([I)V"⟩
abbrev cX1_start : ByteArray := prog_3_method_7_code
def yX1_start : MethodName := ⟨RX1, "start", "([II)V"⟩
abbrev cX1_placeCycle : ByteArray := prog_3_method_8_code
def yX1_placeCycle : MethodName := ⟨RX1, "placeCycle", "()Z"⟩
abbrev cX1_placeEdge : ByteArray := prog_3_method_9_code
def yX1_placeEdge : MethodName := ⟨RX1, "placeEdge", "(II)V"⟩
abbrev cX1_findPath : ByteArray := prog_3_method_10_code
def yX1_findPath : MethodName := ⟨RX1, "findPath", "(III)Z"⟩
abbrev cX1_chooseFragment : ByteArray := prog_3_method_11_code
def yX1_chooseFragment : MethodName := ⟨RX1, "chooseFragment", "()Z"⟩
abbrev cX1_weigh : ByteArray := prog_3_method_12_code
def yX1_weigh : MethodName := ⟨RX1, "weigh", "(II)Z"⟩
abbrev cX1_choosePath : ByteArray := prog_3_method_13_code
def yX1_choosePath : MethodName := ⟨RX1, "choosePath", "()Z"⟩
abbrev cX1_splitFace : ByteArray := prog_3_method_14_code
def yX1_splitFace : MethodName := ⟨RX1, "splitFace", "()V"⟩
def RX2 : String := "PlanarityTester$History"
def TX2 : u_T := fun k => match k with
  | 0 => ("PlanarityTester$History", "edges", "[J", true)
  | 1 => ("PlanarityTester$History", "added", "[I", true)
  | 2 => ("PlanarityTester$History", "dropped", "[I", true)
  | _ => ("PlanarityTester$History", "size", "I", false)
def tyX2 : Nat → FieldType := fun k => match k with
  | 0 => .array .long
  | 1 => .array .int
  | 2 => .array .int
  | _ => .int
abbrev wsX20 : List Cond := u_ws RX2 TX2 4
theorem nmX2 : ∀ a, a < 4 → ∀ b, b < 4 → a ≠ b → (TX2 a).2.1 ≠ (TX2 b).2.1 := by decide +kernel
theorem tyX2_ok : ∀ k, k < 4 → parseFieldDescriptor (TX2 k).2.2.1 = some (tyX2 k) := by decide +kernel
abbrev cX2_init : ByteArray := prog_4_method_1_code
def yX2_init : MethodName := ⟨RX2, "<init>", "()V"⟩
abbrev cX2_size : ByteArray := prog_4_method_2_code
def yX2_size : MethodName := ⟨RX2, "size", "()I"⟩
abbrev cX2_remember : ByteArray := prog_4_method_3_code
def yX2_remember : MethodName := ⟨RX2, "remember", "(LPlanarityTester$State;)V"⟩
abbrev cX2_giveBack : ByteArray := prog_4_method_4_code
def yX2_giveBack : MethodName := ⟨RX2, "giveBack", "(LPlanarityTester$State;)Z"⟩
abbrev cX2_forgetOldest : ByteArray := prog_4_method_5_code
def yX2_forgetOldest : MethodName := ⟨RX2, "forgetOldest", "()V"⟩
def RX3 : String := "PlanarityTester$Obstruction"
def TX3 : u_T := fun k => match k with
  | 0 => ("PlanarityTester$Obstruction", "kept", "J", false)
  | 1 => ("PlanarityTester$Obstruction", "edges", "J", false)
  | _ => ("PlanarityTester$Obstruction", "known", "Z", false)
def tyX3 : Nat → FieldType := fun k => match k with
  | 0 => .long
  | 1 => .long
  | _ => .boolean
abbrev wsX30 : List Cond := u_ws RX3 TX3 3
theorem nmX3 : ∀ a, a < 3 → ∀ b, b < 3 → a ≠ b → (TX3 a).2.1 ≠ (TX3 b).2.1 := by decide +kernel
theorem tyX3_ok : ∀ k, k < 3 → parseFieldDescriptor (TX3 k).2.2.1 = some (tyX3 k) := by decide +kernel
abbrev cX3_init : ByteArray := prog_5_method_1_code
def yX3_init : MethodName := ⟨RX3, "<init>", "()V"⟩
abbrev cX3_find : ByteArray := prog_5_method_2_code
def yX3_find : MethodName := ⟨RX3, "find", "(JLPlanarityTester$Plan;)V"⟩
abbrev cX3_size : ByteArray := prog_5_method_3_code
def yX3_size : MethodName := ⟨RX3, "size", "()I"⟩
abbrev cX3_holds : ByteArray := prog_5_method_4_code
def yX3_holds : MethodName := ⟨RX3, "holds", "(II)Z"⟩
abbrev cX3_verticesInMoreThan : ByteArray := prog_5_method_5_code
def yX3_verticesInMoreThan : MethodName := ⟨RX3, "verticesInMoreThan", "(I)I"⟩
def RX4 : String := "PlanarityTester$Plan"
def TX4 : u_T := fun k => match k with
  | 0 => ("PlanarityTester$Plan", "near", "[I", true)
  | 1 => ("PlanarityTester$Plan", "blockVertices", "[I", true)
  | 2 => ("PlanarityTester$Plan", "blockEdges", "[I", true)
  | 3 => ("PlanarityTester$Plan", "blockFaces", "[I", true)
  | 4 => ("PlanarityTester$Plan", "blockPlaced", "[I", true)
  | 5 => ("PlanarityTester$Plan", "successors", "[I", true)
  | 6 => ("PlanarityTester$Plan", "embedding", "LPlanarityTester$Embedding;", true)
  | 7 => ("PlanarityTester$Plan", "blocks", "I", false)
  | 8 => ("PlanarityTester$Plan", "flat", "Z", false)
  | 9 => ("PlanarityTester$Plan", "edges", "J", false)
  | _ => ("PlanarityTester$Plan", "known", "Z", false)
def tyX4 : Nat → FieldType := fun k => match k with
  | 0 => .array .int
  | 1 => .array .int
  | 2 => .array .int
  | 3 => .array .int
  | 4 => .array .int
  | 5 => .array .int
  | 6 => .object "PlanarityTester$Embedding"
  | 7 => .int
  | 8 => .boolean
  | 9 => .long
  | _ => .boolean
abbrev wsX40 : List Cond := u_ws RX4 TX4 11
theorem nmX4 : ∀ a, a < 11 → ∀ b, b < 11 → a ≠ b → (TX4 a).2.1 ≠ (TX4 b).2.1 := by decide +kernel
theorem tyX4_ok : ∀ k, k < 11 → parseFieldDescriptor (TX4 k).2.2.1 = some (tyX4 k) := by decide +kernel
abbrev cX4_init : ByteArray := prog_6_method_1_code
def yX4_init : MethodName := ⟨RX4, "<init>", "()V"⟩
abbrev cX4_read : ByteArray := prog_6_method_2_code
def yX4_read : MethodName := ⟨RX4, "read", "(J)Z"⟩
abbrev cX4_edges : ByteArray := prog_6_method_3_code
def yX4_edges : MethodName := ⟨RX4, "edges", "()J"⟩
abbrev cX4_near : ByteArray := prog_6_method_4_code
def yX4_near : MethodName := ⟨RX4, "near", "(I)I"⟩
abbrev cX4_blocks : ByteArray := prog_6_method_5_code
def yX4_blocks : MethodName := ⟨RX4, "blocks", "()I"⟩
abbrev cX4_verticesOf : ByteArray := prog_6_method_6_code
def yX4_verticesOf : MethodName := ⟨RX4, "verticesOf", "(I)I"⟩
abbrev cX4_edgesOf : ByteArray := prog_6_method_7_code
def yX4_edgesOf : MethodName := ⟨RX4, "edgesOf", "(I)I"⟩
abbrev cX4_facesOf : ByteArray := prog_6_method_8_code
def yX4_facesOf : MethodName := ⟨RX4, "facesOf", "(I)I"⟩
abbrev cX4_placedOf : ByteArray := prog_6_method_9_code
def yX4_placedOf : MethodName := ⟨RX4, "placedOf", "(I)I"⟩
abbrev cX4_isPlanar : ByteArray := prog_6_method_10_code
def yX4_isPlanar : MethodName := ⟨RX4, "isPlanar", "(I)Z"⟩
abbrev cX4_successor : ByteArray := prog_6_method_11_code
def yX4_successor : MethodName := ⟨RX4, "successor", "(II)I"⟩
abbrev cX4_blockOf : ByteArray := prog_6_method_12_code
def yX4_blockOf : MethodName := ⟨RX4, "blockOf", "(II)I"⟩
abbrev cX4_components : ByteArray := prog_6_method_13_code
def yX4_components : MethodName := ⟨RX4, "components", "()I"⟩
abbrev cX4_cutVertices : ByteArray := prog_6_method_14_code
def yX4_cutVertices : MethodName := ⟨RX4, "cutVertices", "()I"⟩
abbrev cX4_bridges : ByteArray := prog_6_method_15_code
def yX4_bridges : MethodName := ⟨RX4, "bridges", "()I"⟩
abbrev cX4_fillNear : ByteArray := prog_6_method_16_code
def yX4_fillNear : MethodName := ⟨RX4, "fillNear", "()V"⟩
abbrev cX4_blockAround : ByteArray := prog_6_method_17_code
def yX4_blockAround : MethodName := ⟨RX4, "blockAround", "(II)I"⟩
abbrev cX4_keepBlock : ByteArray := prog_6_method_18_code
def yX4_keepBlock : MethodName := ⟨RX4, "keepBlock", "(I)V"⟩
def RX5 : String := "PlanarityTester$State"
def TX5 : u_T := fun k => match k with
  | 0 => ("PlanarityTester$State", "edges", "J", false)
  | 1 => ("PlanarityTester$State", "added", "I", false)
  | _ => ("PlanarityTester$State", "dropped", "I", false)
def tyX5 : Nat → FieldType := fun k => match k with
  | 0 => .long
  | 1 => .int
  | _ => .int
abbrev wsX50 : List Cond := u_ws RX5 TX5 3
theorem nmX5 : ∀ a, a < 3 → ∀ b, b < 3 → a ≠ b → (TX5 a).2.1 ≠ (TX5 b).2.1 := by decide +kernel
theorem tyX5_ok : ∀ k, k < 3 → parseFieldDescriptor (TX5 k).2.2.1 = some (tyX5 k) := by decide +kernel
abbrev cX5_init : ByteArray := prog_7_method_1_code
def yX5_init : MethodName := ⟨RX5, "<init>", "()V"⟩
abbrev cX5_edges : ByteArray := prog_7_method_2_code
def yX5_edges : MethodName := ⟨RX5, "edges", "()J"⟩
abbrev cX5_added : ByteArray := prog_7_method_3_code
def yX5_added : MethodName := ⟨RX5, "added", "()I"⟩
abbrev cX5_dropped : ByteArray := prog_7_method_4_code
def yX5_dropped : MethodName := ⟨RX5, "dropped", "()I"⟩
abbrev cX5_size : ByteArray := prog_7_method_5_code
def yX5_size : MethodName := ⟨RX5, "size", "()I"⟩
abbrev cX5_joins : ByteArray := prog_7_method_6_code
def yX5_joins : MethodName := ⟨RX5, "joins", "(II)Z"⟩
abbrev cX5_become : ByteArray := prog_7_method_7_code
def yX5_become : MethodName := ⟨RX5, "become", "(JII)V"⟩
abbrev cX5_flip : ByteArray := prog_7_method_8_code
def yX5_flip : MethodName := ⟨RX5, "flip", "(II)V"⟩
abbrev cX5_removeAll : ByteArray := prog_7_method_9_code
def yX5_removeAll : MethodName := ⟨RX5, "removeAll", "()V"⟩
def RX6 : String := "PlanarityTester$Walks"
def TX6 : u_T := fun k => match k with
  | 0 => ("PlanarityTester$Walks", "order", "[I", true)
  | 1 => ("PlanarityTester$Walks", "walkAt", "[I", true)
  | 2 => ("PlanarityTester$Walks", "starts", "[I", true)
  | 3 => ("PlanarityTester$Walks", "vertices", "[I", true)
  | 4 => ("PlanarityTester$Walks", "size", "I", false)
  | 5 => ("PlanarityTester$Walks", "darts", "I", false)
  | 6 => ("PlanarityTester$Walks", "edges", "J", false)
  | _ => ("PlanarityTester$Walks", "known", "Z", false)
def tyX6 : Nat → FieldType := fun k => match k with
  | 0 => .array .int
  | 1 => .array .int
  | 2 => .array .int
  | 3 => .array .int
  | 4 => .int
  | 5 => .int
  | 6 => .long
  | _ => .boolean
abbrev wsX60 : List Cond := u_ws RX6 TX6 8
theorem nmX6 : ∀ a, a < 8 → ∀ b, b < 8 → a ≠ b → (TX6 a).2.1 ≠ (TX6 b).2.1 := by decide +kernel
theorem tyX6_ok : ∀ k, k < 8 → parseFieldDescriptor (TX6 k).2.2.1 = some (tyX6 k) := by decide +kernel
abbrev cX6_init : ByteArray := prog_8_method_1_code
def yX6_init : MethodName := ⟨RX6, "<init>", "()V"⟩
abbrev cX6_trace : ByteArray := prog_8_method_2_code
def yX6_trace : MethodName := ⟨RX6, "trace", "(LPlanarityTester$Plan;)V"⟩
abbrev cX6_size : ByteArray := prog_8_method_3_code
def yX6_size : MethodName := ⟨RX6, "size", "()I"⟩
abbrev cX6_holds : ByteArray := prog_8_method_4_code
def yX6_holds : MethodName := ⟨RX6, "holds", "(I)Z"⟩
abbrev cX6_lengthOf : ByteArray := prog_8_method_5_code
def yX6_lengthOf : MethodName := ⟨RX6, "lengthOf", "(I)I"⟩
abbrev cX6_vertexOf : ByteArray := prog_8_method_6_code
def yX6_vertexOf : MethodName := ⟨RX6, "vertexOf", "(II)I"⟩
abbrev cX6_ofDart : ByteArray := prog_8_method_7_code
def yX6_ofDart : MethodName := ⟨RX6, "ofDart", "(II)I"⟩
abbrev cX6_behind : ByteArray := prog_8_method_8_code
def yX6_behind : MethodName := ⟨RX6, "behind", "(II)I"⟩
abbrev cX6_orderAround : ByteArray := prog_8_method_9_code
def yX6_orderAround : MethodName := ⟨RX6, "orderAround", "(LPlanarityTester$Plan;I)V"⟩
abbrev cX6_follow : ByteArray := prog_8_method_10_code
def yX6_follow : MethodName := ⟨RX6, "follow", "(II)V"⟩
def RX7 : String := "PlanarityTester"
def TX7 : u_T := fun k => match k with
  | 0 => ("PlanarityTester", "now", "LPlanarityTester$State;", true)
  | 1 => ("PlanarityTester", "snapshot", "LPlanarityTester$State;", true)
  | 2 => ("PlanarityTester", "snapshotTaken", "Z", false)
  | 3 => ("PlanarityTester", "history", "LPlanarityTester$History;", true)
  | 4 => ("PlanarityTester", "text", "LPlanarityTester$EditText;", true)
  | 5 => ("PlanarityTester", "plan", "LPlanarityTester$Plan;", true)
  | 6 => ("PlanarityTester", "trial", "LPlanarityTester$Plan;", true)
  | 7 => ("PlanarityTester", "cycles", "LPlanarityTester$Walks;", true)
  | _ => ("PlanarityTester", "obstruction", "LPlanarityTester$Obstruction;", true)
def tyX7 : Nat → FieldType := fun k => match k with
  | 0 => .object "PlanarityTester$State"
  | 1 => .object "PlanarityTester$State"
  | 2 => .boolean
  | 3 => .object "PlanarityTester$History"
  | 4 => .object "PlanarityTester$EditText"
  | 5 => .object "PlanarityTester$Plan"
  | 6 => .object "PlanarityTester$Plan"
  | 7 => .object "PlanarityTester$Walks"
  | _ => .object "PlanarityTester$Obstruction"
abbrev wsX70 : List Cond := u_ws RX7 TX7 9
theorem nmX7 : ∀ a, a < 9 → ∀ b, b < 9 → a ≠ b → (TX7 a).2.1 ≠ (TX7 b).2.1 := by decide +kernel
theorem tyX7_ok : ∀ k, k < 9 → parseFieldDescriptor (TX7 k).2.2.1 = some (tyX7 k) := by decide +kernel
abbrev cX7_init : ByteArray := prog_1_method_1_code
def yX7_init : MethodName := ⟨RX7, "<init>", "()V"⟩
abbrev cX7_add : ByteArray := prog_1_method_2_code
def yX7_add : MethodName := ⟨RX7, "add", "(II)I"⟩
abbrev cX7_drop : ByteArray := prog_1_method_3_code
def yX7_drop : MethodName := ⟨RX7, "drop", "(II)I"⟩
abbrev cX7_clear : ByteArray := prog_1_method_4_code
def yX7_clear : MethodName := ⟨RX7, "clear", "()I"⟩
abbrev cX7_complete : ByteArray := prog_1_method_5_code
def yX7_complete : MethodName := ⟨RX7, "complete", "()I"⟩
abbrev cX7_append : ByteArray := prog_1_method_6_code
def yX7_append : MethodName := ⟨RX7, "append", "(I)I"⟩
abbrev cX7_clearText : ByteArray := prog_1_method_7_code
def yX7_clearText : MethodName := ⟨RX7, "clearText", "()I"⟩
abbrev cX7_fault : ByteArray := prog_1_method_8_code
def yX7_fault : MethodName := ⟨RX7, "fault", "()I"⟩
abbrev cX7_run : ByteArray := prog_1_method_9_code
def yX7_run : MethodName := ⟨RX7, "run", "()I"⟩
abbrev cX7_undo : ByteArray := prog_1_method_10_code
def yX7_undo : MethodName := ⟨RX7, "undo", "()I"⟩
abbrev cX7_save : ByteArray := prog_1_method_11_code
def yX7_save : MethodName := ⟨RX7, "save", "()I"⟩
abbrev cX7_restore : ByteArray := prog_1_method_12_code
def yX7_restore : MethodName := ⟨RX7, "restore", "()I"⟩
abbrev cX7_neighbors : ByteArray := prog_1_method_13_code
def yX7_neighbors : MethodName := ⟨RX7, "neighbors", "(I)I"⟩
abbrev cX7_count : ByteArray := prog_1_method_14_code
def yX7_count : MethodName := ⟨RX7, "count", "(I)I"⟩
abbrev cX7_block : ByteArray := prog_1_method_15_code
def yX7_block : MethodName := ⟨RX7, "block", "(II)I"⟩
abbrev cX7_blockInfo : ByteArray := prog_1_method_16_code
def yX7_blockInfo : MethodName := ⟨RX7, "blockInfo", "(II)I"⟩
abbrev cX7_planar : ByteArray := prog_1_method_17_code
def yX7_planar : MethodName := ⟨RX7, "planar", "()I"⟩
abbrev cX7_next : ByteArray := prog_1_method_18_code
def yX7_next : MethodName := ⟨RX7, "next", "(II)I"⟩
abbrev cX7_walks : ByteArray := prog_1_method_19_code
def yX7_walks : MethodName := ⟨RX7, "walks", "()I"⟩
abbrev cX7_walkLength : ByteArray := prog_1_method_20_code
def yX7_walkLength : MethodName := ⟨RX7, "walkLength", "(I)I"⟩
abbrev cX7_walkVertex : ByteArray := prog_1_method_21_code
def yX7_walkVertex : MethodName := ⟨RX7, "walkVertex", "(II)I"⟩
abbrev cX7_walkOf : ByteArray := prog_1_method_22_code
def yX7_walkOf : MethodName := ⟨RX7, "walkOf", "(II)I"⟩
abbrev cX7_forbidden : ByteArray := prog_1_method_23_code
def yX7_forbidden : MethodName := ⟨RX7, "forbidden", "(I)I"⟩
abbrev cX7_inForbidden : ByteArray := prog_1_method_24_code
def yX7_inForbidden : MethodName := ⟨RX7, "inForbidden", "(II)I"⟩
abbrev cX7_ifFlipped : ByteArray := prog_1_method_25_code
def yX7_ifFlipped : MethodName := ⟨RX7, "ifFlipped", "(II)I"⟩
abbrev cX7_joinable : ByteArray := prog_1_method_26_code
def yX7_joinable : MethodName := ⟨RX7, "joinable", "(I)I"⟩
abbrev cX7_density : ByteArray := prog_1_method_27_code
def yX7_density : MethodName := ⟨RX7, "density", "()D"⟩
abbrev cX7_carryOut : ByteArray := prog_1_method_28_code
def yX7_carryOut : MethodName := ⟨RX7, "carryOut", "(CII)Z"⟩
abbrev cX7_traced : ByteArray := prog_1_method_29_code
def yX7_traced : MethodName := ⟨RX7, "traced", "()Z"⟩
abbrev cX7_isVertex : ByteArray := prog_1_method_30_code
def yX7_isVertex : MethodName := ⟨RX7, "isVertex", "(I)Z"⟩
abbrev cX7_bit : ByteArray := prog_1_method_31_code
def yX7_bit : MethodName := ⟨RX7, "bit", "(I)I"⟩
abbrev cX7_has : ByteArray := prog_1_method_32_code
def yX7_has : MethodName := ⟨RX7, "has", "(II)Z"⟩
abbrev cX7_least : ByteArray := prog_1_method_33_code
def yX7_least : MethodName := ⟨RX7, "least", "(I)I"⟩
abbrev cX7_pairBit : ByteArray := prog_1_method_34_code
def yX7_pairBit : MethodName := ⟨RX7, "pairBit", "(II)J"⟩
abbrev cX7_cell : ByteArray := prog_1_method_35_code
def yX7_cell : MethodName := ⟨RX7, "cell", "(II)I"⟩
abbrev cX7_at : ByteArray := prog_1_method_36_code
def yX7_at : MethodName := ⟨RX7, "at", "([II)I"⟩
abbrev cX7_put : ByteArray := prog_1_method_37_code
def yX7_put : MethodName := ⟨RX7, "put", "([III)V"⟩
abbrev cX7_around : ByteArray := prog_1_method_38_code
def yX7_around : MethodName := ⟨RX7, "around", "([II)I"⟩
abbrev cX7_reach : ByteArray := prog_1_method_39_code
def yX7_reach : MethodName := ⟨RX7, "reach", "([III)I"⟩
def RX8 : String := "PlanarityTesterModel"
def TX8 : u_T := fun k => match k with
  | 0 => ("PlanarityTesterModel", "state", "[I", true)
  | 1 => ("PlanarityTesterModel", "history", "[I", true)
  | 2 => ("PlanarityTesterModel", "states", "I", false)
  | 3 => ("PlanarityTesterModel", "snapshot", "[I", true)
  | 4 => ("PlanarityTesterModel", "hasSnapshot", "Z", false)
  | 5 => ("PlanarityTesterModel", "text", "[I", true)
  | 6 => ("PlanarityTesterModel", "length", "I", false)
  | 7 => ("PlanarityTesterModel", "at", "I", false)
  | 8 => ("PlanarityTesterModel", "kind", "I", false)
  | 9 => ("PlanarityTesterModel", "firstVertex", "I", false)
  | 10 => ("PlanarityTesterModel", "secondVertex", "I", false)
  | 11 => ("PlanarityTesterModel", "graph", "[I", true)
  | 12 => ("PlanarityTesterModel", "blockOf", "[I", true)
  | 13 => ("PlanarityTesterModel", "blocks", "I", false)
  | 14 => ("PlanarityTesterModel", "isPlanarBlock", "[I", true)
  | 15 => ("PlanarityTesterModel", "placedOf", "[I", true)
  | 16 => ("PlanarityTesterModel", "facesOf", "[I", true)
  | 17 => ("PlanarityTesterModel", "inBlock", "[I", true)
  | 18 => ("PlanarityTesterModel", "placed", "[I", true)
  | 19 => ("PlanarityTesterModel", "placedVertices", "I", false)
  | 20 => ("PlanarityTesterModel", "placedEdges", "I", false)
  | 21 => ("PlanarityTesterModel", "faces", "I", false)
  | 22 => ("PlanarityTesterModel", "faceLength", "[I", true)
  | 23 => ("PlanarityTesterModel", "face", "[I", true)
  | 24 => ("PlanarityTesterModel", "fragments", "I", false)
  | 25 => ("PlanarityTesterModel", "fragmentPart", "[I", true)
  | 26 => ("PlanarityTesterModel", "fragmentContacts", "[I", true)
  | 27 => ("PlanarityTesterModel", "chosenFace", "I", false)
  | 28 => ("PlanarityTesterModel", "path", "[I", true)
  | 29 => ("PlanarityTesterModel", "pathLength", "I", false)
  | 30 => ("PlanarityTesterModel", "distance", "[I", true)
  | 31 => ("PlanarityTesterModel", "turned", "[I", true)
  | 32 => ("PlanarityTesterModel", "successor", "[I", true)
  | 33 => ("PlanarityTesterModel", "walkOfDart", "[I", true)
  | _ => ("PlanarityTesterModel", "walks", "I", false)
def tyX8 : Nat → FieldType := fun k => match k with
  | 0 => .array .int
  | 1 => .array .int
  | 2 => .int
  | 3 => .array .int
  | 4 => .boolean
  | 5 => .array .int
  | 6 => .int
  | 7 => .int
  | 8 => .int
  | 9 => .int
  | 10 => .int
  | 11 => .array .int
  | 12 => .array .int
  | 13 => .int
  | 14 => .array .int
  | 15 => .array .int
  | 16 => .array .int
  | 17 => .array .int
  | 18 => .array .int
  | 19 => .int
  | 20 => .int
  | 21 => .int
  | 22 => .array .int
  | 23 => .array .int
  | 24 => .int
  | 25 => .array .int
  | 26 => .array .int
  | 27 => .int
  | 28 => .array .int
  | 29 => .int
  | 30 => .array .int
  | 31 => .array .int
  | 32 => .array .int
  | 33 => .array .int
  | _ => .int
abbrev wsX80 : List Cond := u_ws RX8 TX8 35
theorem nmX8 : ∀ a, a < 35 → ∀ b, b < 35 → a ≠ b → (TX8 a).2.1 ≠ (TX8 b).2.1 := by decide +kernel
theorem tyX8_ok : ∀ k, k < 35 → parseFieldDescriptor (TX8 k).2.2.1 = some (tyX8 k) := by decide +kernel
abbrev cX8_init : ByteArray := prog_10_method_1_code
def yX8_init : MethodName := ⟨RX8, "<init>", "()V"⟩
abbrev cX8_within : ByteArray := prog_10_method_2_code
def yX8_within : MethodName := ⟨RX8, "within", "(III)Z"⟩
abbrev cX8_isVertex : ByteArray := prog_10_method_3_code
def yX8_isVertex : MethodName := ⟨RX8, "isVertex", "(I)Z"⟩
abbrev cX8_pair : ByteArray := prog_10_method_4_code
def yX8_pair : MethodName := ⟨RX8, "pair", "(II)I"⟩
abbrev cX8_ones : ByteArray := prog_10_method_5_code
def yX8_ones : MethodName := ⟨RX8, "ones", "(I)I"⟩
abbrev cX8_lowest : ByteArray := prog_10_method_6_code
def yX8_lowest : MethodName := ⟨RX8, "lowest", "(I)I"⟩
abbrev cX8_isEdge : ByteArray := prog_10_method_7_code
def yX8_isEdge : MethodName := ⟨RX8, "isEdge", "(II)Z"⟩
abbrev cX8_edges : ByteArray := prog_10_method_8_code
def yX8_edges : MethodName := ⟨RX8, "edges", "()I"⟩
abbrev cX8_record : ByteArray := prog_10_method_9_code
def yX8_record : MethodName := ⟨RX8, "record", "()V"⟩
abbrev cX8_undo : ByteArray := prog_10_method_10_code
def yX8_undo : MethodName := ⟨RX8, "undo", "()I"⟩
abbrev cX8_save : ByteArray := prog_10_method_11_code
def yX8_save : MethodName := ⟨RX8, "save", "()I"⟩
abbrev cX8_restore : ByteArray := prog_10_method_12_code
def yX8_restore : MethodName := ⟨RX8, "restore", "()I"⟩
abbrev cX8_takeGraph : ByteArray := prog_10_method_13_code
def yX8_takeGraph : MethodName := ⟨RX8, "takeGraph", "()V"⟩
abbrev cX8_flipInGraph : ByteArray := prog_10_method_14_code
def yX8_flipInGraph : MethodName := ⟨RX8, "flipInGraph", "(II)V"⟩
abbrev cX8_joined : ByteArray := prog_10_method_15_code
def yX8_joined : MethodName := ⟨RX8, "joined", "(IIZ)I"⟩
abbrev cX8_joinBlocks : ByteArray := prog_10_method_16_code
def yX8_joinBlocks : MethodName := ⟨RX8, "joinBlocks", "(II)V"⟩
abbrev cX8_joinAround : ByteArray := prog_10_method_17_code
def yX8_joinAround : MethodName := ⟨RX8, "joinAround", "(I)V"⟩
abbrev cX8_findBlocks : ByteArray := prog_10_method_18_code
def yX8_findBlocks : MethodName := ⟨RX8, "findBlocks", "()V"⟩
abbrev cX8_isInBlock : ByteArray := prog_10_method_19_code
def yX8_isInBlock : MethodName := ⟨RX8, "isInBlock", "(III)Z"⟩
abbrev cX8_neighborsIn : ByteArray := prog_10_method_20_code
def yX8_neighborsIn : MethodName := ⟨RX8, "neighborsIn", "(II)I"⟩
abbrev cX8_addToFace : ByteArray := prog_10_method_21_code
def yX8_addToFace : MethodName := ⟨RX8, "addToFace", "(II)V"⟩
abbrev cX8_isOnFace : ByteArray := prog_10_method_22_code
def yX8_isOnFace : MethodName := ⟨RX8, "isOnFace", "(II)Z"⟩
abbrev cX8_placeEdge : ByteArray := prog_10_method_23_code
def yX8_placeEdge : MethodName := ⟨RX8, "placeEdge", "(II)V"⟩
abbrev cX8_layDistances : ByteArray := prog_10_method_24_code
def yX8_layDistances : MethodName := ⟨RX8, "layDistances", "(II)V"⟩
abbrev cX8_lowestAt : ByteArray := prog_10_method_25_code
def yX8_lowestAt : MethodName := ⟨RX8, "lowestAt", "(II)I"⟩
abbrev cX8_placeCycle : ByteArray := prog_10_method_26_code
def yX8_placeCycle : MethodName := ⟨RX8, "placeCycle", "(I)V"⟩
abbrev cX8_isFragment : ByteArray := prog_10_method_27_code
def yX8_isFragment : MethodName := ⟨RX8, "isFragment", "(I)Z"⟩
abbrev cX8_addFragment : ByteArray := prog_10_method_28_code
def yX8_addFragment : MethodName := ⟨RX8, "addFragment", "(II)V"⟩
abbrev cX8_contactsOf : ByteArray := prog_10_method_29_code
def yX8_contactsOf : MethodName := ⟨RX8, "contactsOf", "(I)I"⟩
abbrev cX8_findFragments : ByteArray := prog_10_method_30_code
def yX8_findFragments : MethodName := ⟨RX8, "findFragments", "()V"⟩
abbrev cX8_fitting : ByteArray := prog_10_method_31_code
def yX8_fitting : MethodName := ⟨RX8, "fitting", "(I)I"⟩
abbrev cX8_chooseFragment : ByteArray := prog_10_method_32_code
def yX8_chooseFragment : MethodName := ⟨RX8, "chooseFragment", "()I"⟩
abbrev cX8_addToPath : ByteArray := prog_10_method_33_code
def yX8_addToPath : MethodName := ⟨RX8, "addToPath", "(I)V"⟩
abbrev cX8_layPath : ByteArray := prog_10_method_34_code
def yX8_layPath : MethodName := ⟨RX8, "layPath", "(I)V"⟩
abbrev cX8_placePath : ByteArray := prog_10_method_35_code
def yX8_placePath : MethodName := ⟨RX8, "placePath", "()V"⟩
abbrev cX8_laySuccessors : ByteArray := prog_10_method_36_code
def yX8_laySuccessors : MethodName := ⟨RX8, "laySuccessors", "()V"⟩
abbrev cX8_embed : ByteArray := prog_10_method_37_code
def yX8_embed : MethodName := ⟨RX8, "embed", "(I)V"⟩
abbrev cX8_isPlanar : ByteArray := prog_10_method_38_code
def yX8_isPlanar : MethodName := ⟨RX8, "isPlanar", "()Z"⟩
abbrev cX8_isPlanarNow : ByteArray := prog_10_method_39_code
def yX8_isPlanarNow : MethodName := ⟨RX8, "isPlanarNow", "()Z"⟩
abbrev cX8_isPlanarIfFlipped : ByteArray := prog_10_method_40_code
def yX8_isPlanarIfFlipped : MethodName := ⟨RX8, "isPlanarIfFlipped", "(II)Z"⟩
abbrev cX8_flip : ByteArray := prog_10_method_41_code
def yX8_flip : MethodName := ⟨RX8, "flip", "(II)V"⟩
abbrev cX8_add : ByteArray := prog_10_method_42_code
def yX8_add : MethodName := ⟨RX8, "add", "(II)I"⟩
abbrev cX8_drop : ByteArray := prog_10_method_43_code
def yX8_drop : MethodName := ⟨RX8, "drop", "(II)I"⟩
abbrev cX8_clear : ByteArray := prog_10_method_44_code
def yX8_clear : MethodName := ⟨RX8, "clear", "()I"⟩
abbrev cX8_complete : ByteArray := prog_10_method_45_code
def yX8_complete : MethodName := ⟨RX8, "complete", "()I"⟩
abbrev cX8_append : ByteArray := prog_10_method_46_code
def yX8_append : MethodName := ⟨RX8, "append", "(I)I"⟩
abbrev cX8_clearText : ByteArray := prog_10_method_47_code
def yX8_clearText : MethodName := ⟨RX8, "clearText", "()I"⟩
abbrev cX8_nextCharacter : ByteArray := prog_10_method_48_code
def yX8_nextCharacter : MethodName := ⟨RX8, "nextCharacter", "()I"⟩
abbrev cX8_takes : ByteArray := prog_10_method_49_code
def yX8_takes : MethodName := ⟨RX8, "takes", "(I)Z"⟩
abbrev cX8_readsWord : ByteArray := prog_10_method_50_code
def yX8_readsWord : MethodName := ⟨RX8, "readsWord", "()Z"⟩
abbrev cX8_readsEdit : ByteArray := prog_10_method_51_code
def yX8_readsEdit : MethodName := ⟨RX8, "readsEdit", "()Z"⟩
abbrev cX8_findFault : ByteArray := prog_10_method_52_code
def yX8_findFault : MethodName := ⟨RX8, "findFault", "()I"⟩
abbrev cX8_fault : ByteArray := prog_10_method_53_code
def yX8_fault : MethodName := ⟨RX8, "fault", "()I"⟩
abbrev cX8_run : ByteArray := prog_10_method_54_code
def yX8_run : MethodName := ⟨RX8, "run", "()I"⟩
abbrev cX8_neighbors : ByteArray := prog_10_method_55_code
def yX8_neighbors : MethodName := ⟨RX8, "neighbors", "(I)I"⟩
abbrev cX8_components : ByteArray := prog_10_method_56_code
def yX8_components : MethodName := ⟨RX8, "components", "()I"⟩
abbrev cX8_blocksNow : ByteArray := prog_10_method_57_code
def yX8_blocksNow : MethodName := ⟨RX8, "blocksNow", "()I"⟩
abbrev cX8_cutVertices : ByteArray := prog_10_method_58_code
def yX8_cutVertices : MethodName := ⟨RX8, "cutVertices", "()I"⟩
abbrev cX8_edgesOf : ByteArray := prog_10_method_59_code
def yX8_edgesOf : MethodName := ⟨RX8, "edgesOf", "(I)I"⟩
abbrev cX8_bridges : ByteArray := prog_10_method_60_code
def yX8_bridges : MethodName := ⟨RX8, "bridges", "()I"⟩
abbrev cX8_count : ByteArray := prog_10_method_61_code
def yX8_count : MethodName := ⟨RX8, "count", "(I)I"⟩
abbrev cX8_block : ByteArray := prog_10_method_62_code
def yX8_block : MethodName := ⟨RX8, "block", "(II)I"⟩
abbrev cX8_verticesOf : ByteArray := prog_10_method_63_code
def yX8_verticesOf : MethodName := ⟨RX8, "verticesOf", "(I)I"⟩
abbrev cX8_blockInfo : ByteArray := prog_10_method_64_code
def yX8_blockInfo : MethodName := ⟨RX8, "blockInfo", "(II)I"⟩
abbrev cX8_planar : ByteArray := prog_10_method_65_code
def yX8_planar : MethodName := ⟨RX8, "planar", "()I"⟩
abbrev cX8_behind : ByteArray := prog_10_method_66_code
def yX8_behind : MethodName := ⟨RX8, "behind", "(II)I"⟩
abbrev cX8_next : ByteArray := prog_10_method_67_code
def yX8_next : MethodName := ⟨RX8, "next", "(II)I"⟩
abbrev cX8_findWalks : ByteArray := prog_10_method_68_code
def yX8_findWalks : MethodName := ⟨RX8, "findWalks", "()Z"⟩
abbrev cX8_walks : ByteArray := prog_10_method_69_code
def yX8_walks : MethodName := ⟨RX8, "walks", "()I"⟩
abbrev cX8_lengthOf : ByteArray := prog_10_method_70_code
def yX8_lengthOf : MethodName := ⟨RX8, "lengthOf", "(I)I"⟩
abbrev cX8_walkLength : ByteArray := prog_10_method_71_code
def yX8_walkLength : MethodName := ⟨RX8, "walkLength", "(I)I"⟩
abbrev cX8_walkVertex : ByteArray := prog_10_method_72_code
def yX8_walkVertex : MethodName := ⟨RX8, "walkVertex", "(II)I"⟩
abbrev cX8_walkOf : ByteArray := prog_10_method_73_code
def yX8_walkOf : MethodName := ⟨RX8, "walkOf", "(II)I"⟩
abbrev cX8_findForbidden : ByteArray := prog_10_method_74_code
def yX8_findForbidden : MethodName := ⟨RX8, "findForbidden", "()Z"⟩
abbrev cX8_forbidden : ByteArray := prog_10_method_75_code
def yX8_forbidden : MethodName := ⟨RX8, "forbidden", "(I)I"⟩
abbrev cX8_inForbidden : ByteArray := prog_10_method_76_code
def yX8_inForbidden : MethodName := ⟨RX8, "inForbidden", "(II)I"⟩
abbrev cX8_ifFlipped : ByteArray := prog_10_method_77_code
def yX8_ifFlipped : MethodName := ⟨RX8, "ifFlipped", "(II)I"⟩
abbrev cX8_joinable : ByteArray := prog_10_method_78_code
def yX8_joinable : MethodName := ⟨RX8, "joinable", "(I)I"⟩
abbrev cX8_density : ByteArray := prog_10_method_79_code
def yX8_density : MethodName := ⟨RX8, "density", "()D"⟩
def RJ6 : String := "java/lang/Integer"
def TJ6 : u_T := fun k => match k with
  | _ => ("", "", "", false)
def tyJ6 : Nat → FieldType := fun k => match k with
  | _ => .int
abbrev wsJ60 : List Cond := u_ws RJ6 TJ6 0
theorem nmJ6 : ∀ a, a < 0 → ∀ b, b < 0 → a ≠ b → (TJ6 a).2.1 ≠ (TJ6 b).2.1 := by decide +kernel
theorem tyJ6_ok : ∀ k, k < 0 → parseFieldDescriptor (TJ6 k).2.2.1 = some (tyJ6 k) := by decide +kernel
abbrev cJ6_bitCount_0f7a4 : ByteArray := prog_11_method_49_code
def yJ6_bitCount_0f7a4 : MethodName := ⟨RJ6, "bitCount", "(I)I"⟩
def RJ13 : String := "java/lang/Long"
def TJ13 : u_T := fun k => match k with
  | _ => ("", "", "", false)
def tyJ13 : Nat → FieldType := fun k => match k with
  | _ => .int
abbrev wsJ130 : List Cond := u_ws RJ13 TJ13 0
theorem nmJ13 : ∀ a, a < 0 → ∀ b, b < 0 → a ≠ b → (TJ13 a).2.1 ≠ (TJ13 b).2.1 := by decide +kernel
theorem tyJ13_ok : ∀ k, k < 0 → parseFieldDescriptor (TJ13 k).2.2.1 = some (tyJ13 k) := by decide +kernel
abbrev cJ13_bitCount_95d88 : ByteArray := prog_12_method_50_code
def yJ13_bitCount_95d88 : MethodName := ⟨RJ13, "bitCount", "(J)I"⟩
def RJ9 : String := "java/lang/Math"
def TJ9 : u_T := fun k => match k with
  | _ => ("", "", "", false)
def tyJ9 : Nat → FieldType := fun k => match k with
  | _ => .int
abbrev wsJ90 : List Cond := u_ws RJ9 TJ9 0
theorem nmJ9 : ∀ a, a < 0 → ∀ b, b < 0 → a ≠ b → (TJ9 a).2.1 ≠ (TJ9 b).2.1 := by decide +kernel
theorem tyJ9_ok : ∀ k, k < 0 → parseFieldDescriptor (TJ9 k).2.2.1 = some (tyJ9 k) := by decide +kernel
abbrev cJ9_max_7cf53 : ByteArray := prog_13_method_65_code
def yJ9_max_7cf53 : MethodName := ⟨RJ9, "max", "(II)I"⟩
abbrev cJ9_min_7cf53 : ByteArray := prog_13_method_69_code
def yJ9_min_7cf53 : MethodName := ⟨RJ9, "min", "(II)I"⟩
def RJ0 : String := "java/lang/String"
def TJ0 : u_T := fun k => match k with
  | _ => ("", "", "", false)
def tyJ0 : Nat → FieldType := fun k => match k with
  | _ => .int
abbrev wsJ00 : List Cond := u_ws RJ0 TJ0 0
theorem nmJ0 : ∀ a, a < 0 → ∀ b, b < 0 → a ≠ b → (TJ0 a).2.1 ≠ (TJ0 b).2.1 := by decide +kernel
theorem tyJ0_ok : ∀ k, k < 0 → parseFieldDescriptor (TJ0 k).2.2.1 = some (tyJ0 k) := by decide +kernel
abbrev cJ0_length_8abf5 : ByteArray := prog_14_method_54_code
def yJ0_length_8abf5 : MethodName := ⟨RJ0, "length", "()I"⟩
abbrev cJ0_isEmpty_aae02 : ByteArray := prog_14_method_55_code
def yJ0_isEmpty_aae02 : MethodName := ⟨RJ0, "isEmpty", "()Z"⟩
abbrev cJ0_charAt_5068e : ByteArray := prog_14_method_56_code
def yJ0_charAt_5068e : MethodName := ⟨RJ0, "charAt", "(I)C"⟩
abbrev cJ0_coder_7d493 : ByteArray := prog_14_method_152_code
def yJ0_coder_7d493 : MethodName := ⟨RJ0, "coder", "()B"⟩
abbrev cJ0_isLatin1_aae02 : ByteArray := prog_14_method_154_code
def yJ0_isLatin1_aae02 : MethodName := ⟨RJ0, "isLatin1", "()Z"⟩
abbrev cJ0_checkIndex_df160 : ByteArray := prog_14_method_155_code
def yJ0_checkIndex_df160 : MethodName := ⟨RJ0, "checkIndex", "(II)V"⟩
def RJ1 : String := "java/lang/StringLatin1"
def TJ1 : u_T := fun k => match k with
  | _ => ("", "", "", false)
def tyJ1 : Nat → FieldType := fun k => match k with
  | _ => .int
abbrev wsJ10 : List Cond := u_ws RJ1 TJ1 0
theorem nmJ1 : ∀ a, a < 0 → ∀ b, b < 0 → a ≠ b → (TJ1 a).2.1 ≠ (TJ1 b).2.1 := by decide +kernel
theorem tyJ1_ok : ∀ k, k < 0 → parseFieldDescriptor (TJ1 k).2.2.1 = some (tyJ1 k) := by decide +kernel
abbrev cJ1_charAt_3b067 : ByteArray := prog_15_method_2_code
def yJ1_charAt_3b067 : MethodName := ⟨RJ1, "charAt", "([BI)C"⟩
def RJ2 : String := "java/lang/StringUTF16"
def TJ2 : u_T := fun k => match k with
  | _ => ("", "", "", false)
def tyJ2 : Nat → FieldType := fun k => match k with
  | _ => .int
abbrev wsJ20 : List Cond := u_ws RJ2 TJ2 0
theorem nmJ2 : ∀ a, a < 0 → ∀ b, b < 0 → a ≠ b → (TJ2 a).2.1 ≠ (TJ2 b).2.1 := by decide +kernel
theorem tyJ2_ok : ∀ k, k < 0 → parseFieldDescriptor (TJ2 k).2.2.1 = some (tyJ2 k) := by decide +kernel
abbrev cJ2_getChar_3b067 : ByteArray := prog_16_method_5_code
def yJ2_getChar_3b067 : MethodName := ⟨RJ2, "getChar", "([BI)C"⟩
abbrev cJ2_length_9d52b : ByteArray := prog_16_method_6_code
def yJ2_length_9d52b : MethodName := ⟨RJ2, "length", "([B)I"⟩
abbrev cJ2_charAt_3b067 : ByteArray := prog_16_method_83_code
def yJ2_charAt_3b067 : MethodName := ⟨RJ2, "charAt", "([BI)C"⟩
abbrev cJ2_checkIndex_2214a : ByteArray := prog_16_method_91_code
def yJ2_checkIndex_2214a : MethodName := ⟨RJ2, "checkIndex", "(I[B)V"⟩
def RJ3 : String := "jdk/internal/util/Preconditions"
def TJ3 : u_T := fun k => match k with
  | _ => ("", "", "", false)
def tyJ3 : Nat → FieldType := fun k => match k with
  | _ => .int
abbrev wsJ30 : List Cond := u_ws RJ3 TJ3 0
theorem nmJ3 : ∀ a, a < 0 → ∀ b, b < 0 → a ≠ b → (TJ3 a).2.1 ≠ (TJ3 b).2.1 := by decide +kernel
theorem tyJ3_ok : ∀ k, k < 0 → parseFieldDescriptor (TJ3 k).2.2.1 = some (tyJ3 k) := by decide +kernel
abbrev cJ3_checkIndex_8e157 : ByteArray := prog_17_method_11_code
def yJ3_checkIndex_8e157 : MethodName := ⟨RJ3, "checkIndex", "(IILjava/util/function/BiFunction;)I"⟩
def RL : String := "PlanarityTesterLaw"
abbrev cL_law : ByteArray := code
def yL_law : MethodName := ⟨RL, "law", "([I)Z"⟩
abbrev vwCl : List vw_C := [(RX0, TX0, 5), (RX1, TX1, 16), (RX2, TX2, 4), (RX3, TX3, 3), (RX4, TX4, 11), (RX5, TX5, 3), (RX6, TX6, 8), (RX7, TX7, 9), (RX8, TX8, 35)]
end
section
/-! A SMALL MACHINE: a world of 66 cells of known shape, numbers as functions; one step of a method's own code, calls by their links. Its runs are runs of the kit's machine (part 05). -/
abbrev xW : Type := (Nat → Nat → Int32) × (Nat → Nat → Int64)
abbrev xL : Type := List (Option Value)
abbrev xF : Type := Nat × xL × List Value × xW
/-- name, code, locals, what it returns, class, frames and locals that it needs, arguments beside the receiver, its instructions -/
abbrev xMI : Type := MethodName × ByteArray × Nat × Option FieldType × Nat × (Nat × Nat) × Nat × List (Nat × Instr × Nat)
abbrev xm_y (M : xMI) : MethodName := M.1
abbrev xm_b (M : xMI) : ByteArray := M.2.1
abbrev xm_n (M : xMI) : Nat := M.2.2.1
abbrev xm_r (M : xMI) : Option FieldType := M.2.2.2.1
abbrev xm_c (M : xMI) : Nat := M.2.2.2.2.1
abbrev xm_f (M : xMI) : Nat := M.2.2.2.2.2.1.1
abbrev xm_l (M : xMI) : Nat := M.2.2.2.2.2.1.2
abbrev xm_a (M : xMI) : Nat := M.2.2.2.2.2.2.1
abbrev xm_t (M : xMI) : List (Nat × Instr × Nat) := M.2.2.2.2.2.2.2
def xfind {α : Type} : List (Nat × α) → Nat → Option α
  | [], _ => none
  | q :: l, n => bif Nat.beq q.1 n then some q.2 else xfind l n
theorem xfind_mem {α : Type} : ∀ {l : List (Nat × α)} {n : Nat} {v : α}, xfind l n = some v → (n, v) ∈ l
  | [], _, _, h => by cases h
  | q :: l, n, v, h => by
    unfold xfind at h
    cases hq : Nat.beq q.1 n with
    | true =>
      rw [hq] at h
      have h1 : q.1 = n := Nat.eq_of_beq_eq_true hq
      have h2 : q.2 = v := Option.some.inj h
      rw [← h1, ← h2]
      exact List.mem_cons_self
    | false =>
      rw [hq] at h
      exact List.mem_cons_of_mem _ (xfind_mem h)
/-- a function with one place changed -/
def xup {α : Type} (f : Nat → α) (k : Nat) (v : α) : Nat → α := fun j => bif Nat.beq j k then v else f j
theorem xup_eq {α : Type} (f : Nat → α) (k : Nat) (v : α) (j : Nat) : xup f k v j = if j = k then v else f j := by
  unfold xup
  cases h : Nat.beq j k with
  | true => rw [if_pos (Nat.eq_of_beq_eq_true h)]; rfl
  | false => rw [if_neg (Nat.ne_of_beq_eq_false h)]; rfl
theorem xup_self {α : Type} (f : Nat → α) (k : Nat) (v : α) : xup f k v k = v := by rw [xup_eq, if_pos rfl]
theorem xup_ne {α : Type} (f : Nat → α) {k j : Nat} (v : α) (h : j ≠ k) : xup f k v j = f j := by rw [xup_eq, if_neg h]
def xuI (w : xW) (a k : Nat) (x : Int32) : xW := (xup w.1 a (xup (w.1 a) k x), w.2)
def xuJ (w : xW) (a k : Nat) (x : Int64) : xW := (w.1, xup w.2 a (xup (w.2 a) k x))
/-- a cell's shape: a row of ints, a row of longs, an object of a class with its fields: an int, a long, a cell -/
abbrev xS : Type := Nat ⊕ Nat ⊕ (Nat × List (Option (Option Nat)))
abbrev xI : Option (Option Nat) := none
abbrev xJ : Option (Option Nat) := some none
abbrev xR (k : Nat) : Option (Option Nat) := some (some k)
def xshpL : List (Nat × xS) := [
  (0, .inr (.inr (7, [xR 1, xR 2, xI, xR 3, xR 7, xR 11, xR 25, xR 39, xR 44]))),
  (1, .inr (.inr (5, [xJ, xI, xI]))), (2, .inr (.inr (5, [xJ, xI, xI]))),
  (3, .inr (.inr (2, [xR 4, xR 5, xR 6, xI]))), (4, .inr (.inl 5)), (5, .inl 5), (6, .inl 5),
  (7, .inr (.inr (0, [xR 8, xI, xR 9, xR 10, xI]))), (8, .inl 80), (9, .inl 10), (10, .inl 10),
  (11, .inr (.inr (4, [xR 12, xR 13, xR 14, xR 15, xR 16, xR 17, xR 18, xI, xI, xJ, xI]))), (12, .inl 10), (13, .inl 9), (14, .inl 9), (15, .inl 9), (16, .inl 9), (17, .inl 100),
  (18, .inr (.inr (1, [xR 19, xR 20, xI, xI, xI, xI, xR 21, xR 22, xI, xI, xI, xI, xI, xR 23, xI, xR 24]))), (19, .inl 10), (20, .inl 10), (21, .inl 16), (22, .inl 160), (23, .inl 10), (24, .inl 10),
  (25, .inr (.inr (4, [xR 26, xR 27, xR 28, xR 29, xR 30, xR 31, xR 32, xI, xI, xJ, xI]))), (26, .inl 10), (27, .inl 9), (28, .inl 9), (29, .inl 9), (30, .inl 9), (31, .inl 100),
  (32, .inr (.inr (1, [xR 33, xR 34, xI, xI, xI, xI, xR 35, xR 36, xI, xI, xI, xI, xI, xR 37, xI, xR 38]))), (33, .inl 10), (34, .inl 10), (35, .inl 16), (36, .inl 160), (37, .inl 10), (38, .inl 10),
  (39, .inr (.inr (6, [xR 40, xR 41, xR 42, xR 43, xI, xI, xJ, xI]))), (40, .inl 100), (41, .inl 100), (42, .inl 49), (43, .inl 48),
  (44, .inr (.inr (3, [xJ, xJ, xI]))),
  (45, .inr (.inr (8, [xR 46, xR 47, xI, xR 48, xI, xR 49, xI, xI, xI, xI, xI, xR 50, xR 51, xI, xR 52, xR 53, xR 54, xR 55, xR 56, xI, xI, xI, xR 57, xR 58, xI, xR 59, xR 60, xI, xR 61, xI, xR 62, xR 63, xR 64, xR 65, xI]))),
  (46, .inl 12), (47, .inl 60), (48, .inl 12), (49, .inl 80), (50, .inl 10), (51, .inl 45), (52, .inl 45), (53, .inl 45), (54, .inl 45), (55, .inl 10), (56, .inl 10), (57, .inl 20), (58, .inl 200), (59, .inl 45), (60, .inl 45), (61, .inl 12), (62, .inl 10), (63, .inl 10), (64, .inl 100), (65, .inl 100)]
def xshp (a : Nat) : Option xS := xfind xshpL a
def xval (w : xW) (a k : Nat) : Option (Option Nat) → Value
  | none => .int (w.1 a k)
  | some none => .long (w.2 a k)
  | some (some r) => .ref r
/-- one instruction -/
def xpush (F : xF) (n : Nat) (v : Value) : Option xF := some (F.1 + n, F.2.1, v :: F.2.2.1, F.2.2.2)
def xld1 (F : xF) (n i : Nat) : Option xF := match F.2.1[i]? with
  | some (some (.int x)) => some (F.1 + n, F.2.1, .int x :: F.2.2.1, F.2.2.2)
  | _ => none
def xld2 (F : xF) (n i : Nat) : Option xF := match F.2.1[i]? with
  | some (some (.long x)) => some (F.1 + n, F.2.1, .long x :: F.2.2.1, F.2.2.2)
  | _ => none
def xlda (F : xF) (n i : Nat) : Option xF := match F.2.1[i]? with
  | some (some (.ref x)) => some (F.1 + n, F.2.1, .ref x :: F.2.2.1, F.2.2.2)
  | _ => none
def xcat2 : Option (Option Value) → Bool
  | some (some (.long _)) => true
  | some (some (.double _)) => true
  | _ => false
/-- the slot below a stored one, where it held a long -/
def xclr (L : xL) : Nat → xL
  | 0 => L
  | j + 1 => bif xcat2 L[j]? then L.set j none else L
def xsti (F : xF) (n i : Nat) : Option xF := match F.2.2.1 with
  | .int x :: st => bif Nat.blt i F.2.1.length then some (F.1 + n, (xclr F.2.1 i).set i (some (.int x)), st, F.2.2.2) else none
  | _ => none
def xsta (F : xF) (n i : Nat) : Option xF := match F.2.2.1 with
  | .ref x :: st => bif Nat.blt i F.2.1.length then some (F.1 + n, (xclr F.2.1 i).set i (some (.ref x)), st, F.2.2.2) else none
  | _ => none
def xstl (F : xF) (n i : Nat) : Option xF := match F.2.2.1 with
  | .long x :: st => bif Nat.blt (i + 1) F.2.1.length then some (F.1 + n, ((xclr F.2.1 i).set (i + 1) none).set i (some (.long x)), st, F.2.2.2) else none
  | _ => none
def xinc (F : xF) (i : Nat) (k : Int) : Option xF := match F.2.1[i]? with
  | some (some (.int x)) => bif Nat.blt i F.2.1.length then some (F.1 + 3, (xclr F.2.1 i).set i (some (.int (x + Int32.ofInt k))), F.2.2.1, F.2.2.2) else none
  | _ => none
def xb2 (F : xF) (f : Int32 → Int32 → Int32) : Option xF := match F.2.2.1 with
  | .int y :: .int x :: st => some (F.1 + 1, F.2.1, .int (f x y) :: st, F.2.2.2)
  | _ => none
/-- a division, by what isn't 0 -/
def xb0 (F : xF) (f : Int32 → Int32 → Int32) : Option xF := match F.2.2.1 with
  | .int y :: .int x :: st => bif decide (y = 0) then none else some (F.1 + 1, F.2.1, .int (f x y) :: st, F.2.2.2)
  | _ => none
def xb1 (F : xF) (f : Int32 → Int32) : Option xF := match F.2.2.1 with
  | .int x :: st => some (F.1 + 1, F.2.1, .int (f x) :: st, F.2.2.2)
  | _ => none
def xj2 (F : xF) (f : Int64 → Int64 → Int64) : Option xF := match F.2.2.1 with
  | .long y :: .long x :: st => some (F.1 + 1, F.2.1, .long (f x y) :: st, F.2.2.2)
  | _ => none
def xji (F : xF) (f : Int64 → Int32 → Int64) : Option xF := match F.2.2.1 with
  | .int y :: .long x :: st => some (F.1 + 1, F.2.1, .long (f x y) :: st, F.2.2.2)
  | _ => none
def xlcmp (F : xF) : Option xF := match F.2.2.1 with
  | .long y :: .long x :: st => some (F.1 + 1, F.2.1, .int (lg_cmp x y) :: st, F.2.2.2)
  | _ => none
def xl2i (F : xF) : Option xF := match F.2.2.1 with
  | .long x :: st => some (F.1 + 1, F.2.1, .int x.toInt32 :: st, F.2.2.2)
  | _ => none
def xi2d (F : xF) : Option xF := match F.2.2.1 with
  | .int x :: st => some (F.1 + 1, F.2.1, .double (FP.i2d x) :: st, F.2.2.2)
  | _ => none
def xddiv (F : xF) : Option xF := match F.2.2.1 with
  | .double y :: .double x :: st => bif decide (FP.ddiv x y &&& 0x7fffffffffffffff ≤ 0x7ff0000000000000) then some (F.1 + 1, F.2.1, .double (FP.ddiv x y) :: st, F.2.2.2) else none
  | _ => none
def xdup (F : xF) : Option xF := match F.2.2.1 with
  | .int x :: st => some (F.1 + 1, F.2.1, .int x :: .int x :: st, F.2.2.2)
  | .ref x :: st => some (F.1 + 1, F.2.1, .ref x :: .ref x :: st, F.2.2.2)
  | _ => none
def xdup2 (F : xF) : Option xF := match F.2.2.1 with
  | .int y :: .ref x :: st => some (F.1 + 1, F.2.1, .int y :: .ref x :: .int y :: .ref x :: st, F.2.2.2)
  | _ => none
def xpop (F : xF) : Option xF := match F.2.2.1 with
  | .int _ :: st => some (F.1 + 1, F.2.1, st, F.2.2.2)
  | _ => none
def xbr1 (F : xF) (t : Nat) (f : Int32 → Bool) : Option xF := match F.2.2.1 with
  | .int x :: st => some (bif f x then t else F.1 + 3, F.2.1, st, F.2.2.2)
  | _ => none
def xbr2 (F : xF) (t : Nat) (f : Int32 → Int32 → Bool) : Option xF := match F.2.2.1 with
  | .int y :: .int x :: st => some (bif f x y then t else F.1 + 3, F.2.1, st, F.2.2.2)
  | _ => none
def xgetf (c : Nat) (lk : Option (Nat × Nat)) (F : xF) : Option xF := match lk, F.2.2.1 with
  | some (cj, k), .ref a :: st => match xshp a with
    | some (.inr (.inr (ck, ks))) => bif Nat.beq ck cj then match ks[k]? with
      | some kd => some (F.1 + 3, F.2.1, xval F.2.2.2 a k kd :: st, F.2.2.2)
      | none => none
      else none
    | _ => none
  | _, _ => none
/-- is this field of type boolean -/
def xbool (c k : Nat) : Bool := (Nat.beq c 7 && Nat.beq k 2) || (Nat.beq c 4 && (Nat.beq k 8 || Nat.beq k 10)) || (Nat.beq c 6 && Nat.beq k 7) || (Nat.beq c 3 && Nat.beq k 2) || (Nat.beq c 8 && Nat.beq k 4)
def xputf (lk : Option (Nat × Nat)) (F : xF) : Option xF := match lk, F.2.2.1 with
  | some (cj, k), .int x :: .ref a :: st => match xshp a with
    | some (.inr (.inr (ck, ks))) => bif Nat.beq ck cj then match ks[k]? with
      | some none => bif xbool cj k then (bif decide (x = 0) || decide (x = 1) then some (F.1 + 3, F.2.1, st, xuI F.2.2.2 a k x) else none) else some (F.1 + 3, F.2.1, st, xuI F.2.2.2 a k x)
      | _ => none
      else none
    | _ => none
  | some (cj, k), .long x :: .ref a :: st => match xshp a with
    | some (.inr (.inr (ck, ks))) => bif Nat.beq ck cj then match ks[k]? with
      | some (some none) => some (F.1 + 3, F.2.1, st, xuJ F.2.2.2 a k x)
      | _ => none
      else none
    | _ => none
  | _, _ => none
/-- is the index one of a row of n -/
def xin (i : Int32) (n : Nat) : Bool := !(decide (i < 0)) && Nat.blt i.toNatClampNeg n
def xiald (F : xF) : Option xF := match F.2.2.1 with
  | .int i :: .ref a :: st => match xshp a with
    | some (.inl n) => bif xin i n then some (F.1 + 1, F.2.1, .int (F.2.2.2.1 a i.toNatClampNeg) :: st, F.2.2.2) else none
    | _ => none
  | _ => none
def xlald (F : xF) : Option xF := match F.2.2.1 with
  | .int i :: .ref a :: st => match xshp a with
    | some (.inr (.inl n)) => bif xin i n then some (F.1 + 1, F.2.1, .long (F.2.2.2.2 a i.toNatClampNeg) :: st, F.2.2.2) else none
    | _ => none
  | _ => none
def xiast (F : xF) : Option xF := match F.2.2.1 with
  | .int x :: .int i :: .ref a :: st => match xshp a with
    | some (.inl n) => bif xin i n then some (F.1 + 1, F.2.1, st, xuI F.2.2.2 a i.toNatClampNeg x) else none
    | _ => none
  | _ => none
def xlast (F : xF) : Option xF := match F.2.2.1 with
  | .long x :: .int i :: .ref a :: st => match xshp a with
    | some (.inr (.inl n)) => bif xin i n then some (F.1 + 1, F.2.1, st, xuJ F.2.2.2 a i.toNatClampNeg x) else none
    | _ => none
  | _ => none
def xalen (F : xF) : Option xF := match F.2.2.1 with
  | .ref a :: st => match xshp a with
    | some (.inl n) => some (F.1 + 1, F.2.1, .int (Int32.ofNat n) :: st, F.2.2.2)
    | some (.inr (.inl n)) => some (F.1 + 1, F.2.1, .int (Int32.ofNat n) :: st, F.2.2.2)
    | _ => none
  | _ => none
def xtsw (F : xF) (d lo hi : Int) (offs : Array Int) : Option xF := match F.2.2.1 with
  | .int x :: st => bif decide (x.toInt < lo) || decide (hi < x.toInt) then (bif decide (0 ≤ (F.1 : Int) + d) then some (((F.1 : Int) + d).toNat, F.2.1, st, F.2.2.2) else none)
      else match offs.toList[(x.toInt - lo).toNat]? with
      | some o => bif decide (0 ≤ (F.1 : Int) + o) then some (((F.1 : Int) + o).toNat, F.2.1, st, F.2.2.2) else none
      | none => none
  | _ => none
def xlsw (F : xF) (d : Int) (ps : Array (Int × Int)) : Option xF := match F.2.2.1 with
  | .int x :: st => bif (ps.toList.zip (ps.toList.drop 1)).all (fun q => decide (q.1.1 < q.2.1)) && decide (0 ≤ (F.1 : Int) + Op.lookupswitch.offset ps.toList d x.toInt) then some (((F.1 : Int) + Op.lookupswitch.offset ps.toList d x.toInt).toNat, F.2.1, st, F.2.2.2) else none
  | _ => none
def xmath (M : xMI) (pr : Option Bool) (F : xF) : Option xF := match pr, F.2.2.1 with
  | some b, .int y :: .int x :: st => bif Nat.ble 1 (xm_f M) && Nat.ble ((st.map fun v => v.category).sum + 13) (xm_l M) then some (F.1 + 3, F.2.1, .int (bif b then (if y < x then y else x) else (if x < y then y else x)) :: st, F.2.2.2) else none
  | _, _ => none
/-- a constant; a String constant's place among the cells' addresses is 100 + its number -/
def xldc1 (lk : Option Value) (F : xF) : Option xF := match lk with
  | some (.int v) => some (F.1 + 2, F.2.1, .int v :: F.2.2.1, F.2.2.2)
  | some (.ref v) => some (F.1 + 2, F.2.1, .ref v :: F.2.2.1, F.2.2.2)
  | _ => none
def xldcw (lk : Option Value) (F : xF) : Option xF := match lk with
  | some (.int v) => some (F.1 + 3, F.2.1, .int v :: F.2.2.1, F.2.2.2)
  | _ => none
def xldc2 (lk : Option Value) (F : xF) : Option xF := match lk with
  | some (.long v) => some (F.1 + 3, F.2.1, .long v :: F.2.2.1, F.2.2.2)
  | some (.double v) => some (F.1 + 3, F.2.1, .double v :: F.2.2.1, F.2.2.2)
  | _ => none
end
section
/-! printed by a program of mine out of the claim: the methods, their instructions, and what the numbers of a class name -/
def MX0_length : xMI := (yX0_length, cX0_length, 1, (some .int), 0, (0, 0), 0, [(0, .aload_n 0, 1), (1, .getfield 21, 3), (4, .ireturn, 1)])
def MX0_edits : xMI := (yX0_edits, cX0_edits, 1, (some .int), 0, (0, 0), 0, [(0, .aload_n 0, 1), (1, .getfield 25, 3), (4, .ireturn, 1)])
def MX0_kindOf : xMI := (yX0_kindOf, cX0_kindOf, 2, (some .char), 0, (1, 21), 1, [(0, .aload_n 0, 1), (1, .getfield 9, 3), (4, .aload_n 0, 1), (5, .getfield 15, 3), (8, .iload_n 1, 1), (9, .invokestatic 28, 3), (12, .invokestatic 28, 3), (15, .i2c, 1), (16, .ireturn, 1)])
def MX0_firstOf : xMI := (yX0_firstOf, cX0_firstOf, 2, (some .int), 0, (1, 21), 1, [(0, .aload_n 0, 1), (1, .getfield 9, 3), (4, .aload_n 0, 1), (5, .getfield 18, 3), (8, .iload_n 1, 1), (9, .invokestatic 28, 3), (12, .iconst 3, 1), (13, .isub, 1), (14, .invokestatic 28, 3), (17, .bipush 48, 2), (19, .isub, 1), (20, .ireturn, 1)])
def MX0_secondOf : xMI := (yX0_secondOf, cX0_secondOf, 2, (some .int), 0, (1, 21), 1, [(0, .aload_n 0, 1), (1, .getfield 9, 3), (4, .aload_n 0, 1), (5, .getfield 18, 3), (8, .iload_n 1, 1), (9, .invokestatic 28, 3), (12, .iconst 1, 1), (13, .isub, 1), (14, .invokestatic 28, 3), (17, .bipush 48, 2), (19, .isub, 1), (20, .ireturn, 1)])
def MX0_write : xMI := (yX0_write, cX0_write, 2, (some .boolean), 0, (1, 22), 1, [(0, .aload_n 0, 1), (1, .getfield 21, 3), (4, .bipush 80, 2), (6, .if_icmp .lt 5, 11), (9, .iconst 0, 1), (10, .ireturn, 1), (11, .aload_n 0, 1), (12, .getfield 9, 3), (15, .aload_n 0, 1), (16, .getfield 21, 3), (19, .iload_n 1, 1), (20, .invokestatic 32, 3), (23, .aload_n 0, 1), (24, .dup, 1), (25, .getfield 21, 3), (28, .iconst 1, 1), (29, .iadd, 1), (30, .putfield 21, 3), (33, .iconst 1, 1), (34, .ireturn, 1)])
def MX0_erase : xMI := (yX0_erase, cX0_erase, 1, none, 0, (0, 0), 0, [(0, .aload_n 0, 1), (1, .iconst 0, 1), (2, .putfield 21, 3), (5, .return_, 1)])
def MX0_scan : xMI := (yX0_scan, cX0_scan, 6, (some .int), 0, (6, 137), 0, [(0, .aload_n 0, 1), (1, .iconst 0, 1), (2, .putfield 25, 3), (5, .iconst 0, 1), (6, .istore_n 1, 1), (7, .iconst 0, 1), (8, .istore_n 2, 1), (9, .iload_n 2, 1), (10, .bipush 10, 2), (12, .if_icmp .gt 114, 126), (15, .aload_n 0, 1), (16, .iload_n 1, 1), (17, .invokevirtual 36, 3), (20, .astore_n 3, 1), (21, .aload_n 0, 1), (22, .iload_n 1, 1), (23, .aload_n 3, 1), (24, .invokevirtual 40, 3), (27, .istore 4, 2), (29, .iload_n 1, 1), (30, .iload 4, 2), (32, .iadd, 1), (33, .istore 5, 2), (35, .aload_n 3, 1), (36, .invokevirtual 44, 3), (39, .ifCond .ne 12, 51), (42, .iload 4, 2), (44, .aload_n 3, 1), (45, .invokevirtual 50, 3), (48, .if_icmp .ge 6, 54), (51, .iload 5, 2), (53, .ireturn, 1), (54, .aload_n 0, 1), (55, .getfield 15, 3), (58, .aload_n 0, 1), (59, .getfield 25, 3), (62, .iload_n 1, 1), (63, .invokestatic 32, 3), (66, .aload_n 0, 1), (67, .getfield 18, 3), (70, .aload_n 0, 1), (71, .getfield 25, 3), (74, .iload 5, 2), (76, .invokestatic 32, 3), (79, .aload_n 0, 1), (80, .dup, 1), (81, .getfield 25, 3), (84, .iconst 1, 1), (85, .iadd, 1), (86, .putfield 25, 3), (89, .iload 5, 2), (91, .aload_n 0, 1), (92, .getfield 21, 3), (95, .if_icmp .lt 6, 101), (98, .bipush (-5), 2), (100, .ireturn, 1), (101, .aload_n 0, 1), (102, .iload 5, 2), (104, .invokevirtual 53, 3), (107, .bipush 59, 2), (109, .if_icmp .eq 6, 115), (112, .iload 5, 2), (114, .ireturn, 1), (115, .iload 5, 2), (117, .iconst 1, 1), (118, .iadd, 1), (119, .istore_n 1, 1), (120, .iinc 2 1, 3), (123, .goto (-114), 9), (126, .aload_n 0, 1), (127, .getfield 21, 3), (130, .ireturn, 1)])
def MX0_signAt : xMI := (yX0_signAt, cX0_signAt, 2, (some .int), 0, (1, 21), 1, [(0, .iload_n 1, 1), (1, .aload_n 0, 1), (2, .getfield 21, 3), (5, .if_icmp .ge 14, 19), (8, .aload_n 0, 1), (9, .getfield 9, 3), (12, .iload_n 1, 1), (13, .invokestatic 28, 3), (16, .goto 4, 20), (19, .iconst 0, 1), (20, .ireturn, 1)])
def MX0_formAt : xMI := (yX0_formAt, cX0_formAt, 2, (some (.object "java/lang/String")), 0, (2, 42), 1, [(0, .aload_n 0, 1), (1, .iload_n 1, 1), (2, .invokevirtual 53, 3), (5, .lookupswitch 44 #[(97, 35), (100, 38), (102, 41)], 35), (40, .ldc 57, 2), (42, .areturn, 1), (43, .ldc 59, 2), (45, .areturn, 1), (46, .ldc 61, 2), (48, .areturn, 1), (49, .ldc 63, 2), (51, .areturn, 1)])
def MX0_signsRight : xMI := (yX0_signsRight, cX0_signsRight, 8, (some .int), 0, (5, 110), 2, [(0, .aload_n 2, 1), (1, .invokevirtual 50, 3), (4, .iconst 1, 1), (5, .isub, 1), (6, .istore_n 3, 1), (7, .iconst 0, 1), (8, .istore 4, 2), (10, .iload 4, 2), (12, .aload_n 2, 1), (13, .invokevirtual 50, 3), (16, .if_icmp .ge 99, 115), (19, .aload_n 0, 1), (20, .iload_n 1, 1), (21, .iload 4, 2), (23, .iadd, 1), (24, .invokevirtual 53, 3), (27, .istore 5, 2), (29, .aload_n 2, 1), (30, .iload 4, 2), (32, .invokevirtual 65, 3), (35, .istore 6, 2), (37, .iload 6, 2), (39, .bipush 35, 2), (41, .if_icmp .ne 25, 66), (44, .iload 5, 2), (46, .bipush 48, 2), (48, .if_icmp .lt 14, 62), (51, .iload 5, 2), (53, .bipush 57, 2), (55, .if_icmp .gt 7, 62), (58, .iconst 1, 1), (59, .goto 19, 78), (62, .iconst 0, 1), (63, .goto 15, 78), (66, .iload 5, 2), (68, .iload 6, 2), (70, .if_icmp .ne 7, 77), (73, .iconst 1, 1), (74, .goto 4, 78), (77, .iconst 0, 1), (78, .istore 7, 2), (80, .iload 7, 2), (82, .ifCond .eq 24, 106), (85, .iload 4, 2), (87, .iload_n 3, 1), (88, .if_icmp .ne 21, 109), (91, .iload 5, 2), (93, .aload_n 0, 1), (94, .iload_n 1, 1), (95, .iload 4, 2), (97, .iadd, 1), (98, .iconst 2, 1), (99, .isub, 1), (100, .invokevirtual 53, 3), (103, .if_icmp .ne 6, 109), (106, .iload 4, 2), (108, .ireturn, 1), (109, .iinc 4 1, 3), (112, .goto (-102), 10), (115, .aload_n 2, 1), (116, .invokevirtual 50, 3), (119, .ireturn, 1)])
def MX1_edges : xMI := (yX1_edges, cX1_edges, 1, (some .int), 1, (0, 0), 0, [(0, .aload_n 0, 1), (1, .getfield 30, 3), (4, .ireturn, 1)])
def MX1_placedEdges : xMI := (yX1_placedEdges, cX1_placedEdges, 1, (some .int), 1, (0, 0), 0, [(0, .aload_n 0, 1), (1, .getfield 34, 3), (4, .ireturn, 1)])
def MX1_faces : xMI := (yX1_faces, cX1_faces, 1, (some .int), 1, (0, 0), 0, [(0, .aload_n 0, 1), (1, .getfield 37, 3), (4, .ireturn, 1)])
def MX1_embed : xMI := (yX1_embed, cX1_embed, 5, none, 1, (3, 76), 2, [(0, .aload_n 0, 1), (1, .aload_n 1, 1), (2, .iload_n 2, 1), (3, .invokevirtual 40, 3), (6, .aload_n 0, 1), (7, .getfield 30, 3), (10, .iconst 1, 1), (11, .if_icmp .ne 14, 25), (14, .aload_n 0, 1), (15, .iconst 1, 1), (16, .putfield 34, 3), (19, .aload_n 0, 1), (20, .iconst 1, 1), (21, .putfield 37, 3), (24, .return_, 1), (25, .aload_n 0, 1), (26, .invokevirtual 44, 3), (29, .istore_n 3, 1), (30, .iconst 0, 1), (31, .istore 4, 2), (33, .iload 4, 2), (35, .bipush 45, 2), (37, .if_icmp .ge 52, 89), (40, .iload_n 3, 1), (41, .ifCond .eq 48, 89), (44, .aload_n 0, 1), (45, .getfield 34, 3), (48, .aload_n 0, 1), (49, .getfield 30, 3), (52, .if_icmp .ge 37, 89), (55, .aload_n 0, 1), (56, .invokevirtual 48, 3), (59, .ifCond .eq 14, 73), (62, .aload_n 0, 1), (63, .invokevirtual 51, 3), (66, .ifCond .eq 7, 73), (69, .iconst 1, 1), (70, .goto 4, 74), (73, .iconst 0, 1), (74, .istore_n 3, 1), (75, .iload_n 3, 1), (76, .ifCond .eq 7, 83), (79, .aload_n 0, 1), (80, .invokevirtual 54, 3), (83, .iinc 4 1, 3), (86, .goto (-53), 33), (89, .return_, 1)])
def MX1_writeSuccessors : xMI := (yX1_writeSuccessors, cX1_writeSuccessors, 5, none, 1, (1, 22), 1, [(0, .aload_n 0, 1), (1, .getfield 30, 3), (4, .iconst 1, 1), (5, .if_icmp .ne 47, 52), (8, .aload_n 0, 1), (9, .getfield 57, 3), (12, .invokestatic 60, 3), (15, .istore_n 2, 1), (16, .aload_n 0, 1), (17, .getfield 57, 3), (20, .iload_n 2, 1), (21, .invokestatic 64, 3), (24, .iconst (-1), 1), (25, .ixor, 1), (26, .iand, 1), (27, .invokestatic 60, 3), (30, .istore_n 3, 1), (31, .aload_n 1, 1), (32, .iload_n 2, 1), (33, .iload_n 3, 1), (34, .invokestatic 67, 3), (37, .iload_n 3, 1), (38, .invokestatic 71, 3), (41, .aload_n 1, 1), (42, .iload_n 3, 1), (43, .iload_n 2, 1), (44, .invokestatic 67, 3), (47, .iload_n 2, 1), (48, .invokestatic 71, 3), (51, .return_, 1), (52, .iconst 0, 1), (53, .istore_n 2, 1), (54, .iload_n 2, 1), (55, .aload_n 0, 1), (56, .getfield 37, 3), (59, .if_icmp .ge 75, 134), (62, .iconst 0, 1), (63, .istore_n 3, 1), (64, .iload_n 3, 1), (65, .bipush 10, 2), (67, .if_icmp .ge 61, 128), (70, .aload_n 0, 1), (71, .getfield 18, 3), (74, .iload_n 2, 1), (75, .invokestatic 75, 3), (78, .iload_n 3, 1), (79, .invokestatic 79, 3), (82, .ifCond .eq 40, 122), (85, .aload_n 0, 1), (86, .getfield 21, 3), (89, .iload_n 2, 1), (90, .iload_n 3, 1), (91, .invokestatic 67, 3), (94, .invokestatic 75, 3), (97, .istore 4, 2), (99, .aload_n 1, 1), (100, .iload 4, 2), (102, .iload_n 3, 1), (103, .invokestatic 67, 3), (106, .aload_n 0, 1), (107, .getfield 21, 3), (110, .iload_n 2, 1), (111, .iload 4, 2), (113, .invokestatic 67, 3), (116, .invokestatic 75, 3), (119, .invokestatic 71, 3), (122, .iinc 3 1, 3), (125, .goto (-61), 64), (128, .iinc 2 1, 3), (131, .goto (-77), 54), (134, .return_, 1)])
def MX1_start : xMI := (yX1_start, cX1_start, 6, none, 1, (1, 22), 2, [(0, .aload_n 0, 1), (1, .iload_n 2, 1), (2, .putfield 57, 3), (5, .aload_n 0, 1), (6, .iconst 0, 1), (7, .putfield 83, 3), (10, .aload_n 0, 1), (11, .iconst 0, 1), (12, .putfield 34, 3), (15, .aload_n 0, 1), (16, .iconst 0, 1), (17, .putfield 37, 3), (20, .iconst 0, 1), (21, .istore_n 3, 1), (22, .iconst 0, 1), (23, .istore 4, 2), (25, .iload 4, 2), (27, .bipush 10, 2), (29, .if_icmp .ge 61, 90), (32, .iload_n 2, 1), (33, .iload 4, 2), (35, .invokestatic 79, 3), (38, .ifCond .eq 14, 52), (41, .aload_n 1, 1), (42, .iload 4, 2), (44, .invokestatic 75, 3), (47, .iload_n 2, 1), (48, .iand, 1), (49, .goto 4, 53), (52, .iconst 0, 1), (53, .istore 5, 2), (55, .aload_n 0, 1), (56, .getfield 9, 3), (59, .iload 4, 2), (61, .iload 5, 2), (63, .invokestatic 71, 3), (66, .aload_n 0, 1), (67, .getfield 15, 3), (70, .iload 4, 2), (72, .iconst 0, 1), (73, .invokestatic 71, 3), (76, .iload_n 3, 1), (77, .iload 5, 2), (79, .invokestatic 86, 3), (82, .iadd, 1), (83, .istore_n 3, 1), (84, .iinc 4 1, 3), (87, .goto (-62), 25), (90, .aload_n 0, 1), (91, .iload_n 3, 1), (92, .iconst 2, 1), (93, .idiv, 1), (94, .putfield 30, 3), (97, .return_, 1)])
def MX1_placeCycle : xMI := (yX1_placeCycle, cX1_placeCycle, 6, (some .boolean), 1, (2, 51), 0, [(0, .aload_n 0, 1), (1, .getfield 57, 3), (4, .invokestatic 60, 3), (7, .istore_n 1, 1), (8, .aload_n 0, 1), (9, .getfield 9, 3), (12, .iload_n 1, 1), (13, .invokestatic 75, 3), (16, .invokestatic 60, 3), (19, .istore_n 2, 1), (20, .aload_n 0, 1), (21, .iload_n 2, 1), (22, .iload_n 1, 1), (23, .invokestatic 64, 3), (26, .aload_n 0, 1), (27, .getfield 57, 3), (30, .iload_n 1, 1), (31, .invokestatic 64, 3), (34, .iconst (-1), 1), (35, .ixor, 1), (36, .iand, 1), (37, .iload_n 2, 1), (38, .invokestatic 64, 3), (41, .iconst (-1), 1), (42, .ixor, 1), (43, .iand, 1), (44, .invokevirtual 91, 3), (47, .ifCond .ne 5, 52), (50, .iconst 0, 1), (51, .ireturn, 1), (52, .aload_n 0, 1), (53, .getfield 21, 3), (56, .iconst 0, 1), (57, .iload_n 1, 1), (58, .invokestatic 67, 3), (61, .iload_n 2, 1), (62, .invokestatic 71, 3), (65, .aload_n 0, 1), (66, .getfield 21, 3), (69, .iconst 1, 1), (70, .iload_n 2, 1), (71, .invokestatic 67, 3), (74, .iload_n 1, 1), (75, .invokestatic 71, 3), (78, .aload_n 0, 1), (79, .iload_n 1, 1), (80, .iload_n 2, 1), (81, .invokevirtual 95, 3), (84, .iconst 1, 1), (85, .istore_n 3, 1), (86, .iload_n 3, 1), (87, .aload_n 0, 1), (88, .getfield 99, 3), (91, .if_icmp .ge 69, 160), (94, .aload_n 0, 1), (95, .getfield 24, 3), (98, .iload_n 3, 1), (99, .iconst 1, 1), (100, .isub, 1), (101, .invokestatic 75, 3), (104, .istore 4, 2), (106, .aload_n 0, 1), (107, .getfield 24, 3), (110, .iload_n 3, 1), (111, .invokestatic 75, 3), (114, .istore 5, 2), (116, .aload_n 0, 1), (117, .getfield 21, 3), (120, .iconst 0, 1), (121, .iload 4, 2), (123, .invokestatic 67, 3), (126, .iload 5, 2), (128, .invokestatic 71, 3), (131, .aload_n 0, 1), (132, .getfield 21, 3), (135, .iconst 1, 1), (136, .iload 5, 2), (138, .invokestatic 67, 3), (141, .iload 4, 2), (143, .invokestatic 71, 3), (146, .aload_n 0, 1), (147, .iload 4, 2), (149, .iload 5, 2), (151, .invokevirtual 95, 3), (154, .iinc 3 1, 3), (157, .goto (-71), 86), (160, .aload_n 0, 1), (161, .getfield 18, 3), (164, .iconst 0, 1), (165, .aload_n 0, 1), (166, .getfield 83, 3), (169, .invokestatic 71, 3), (172, .aload_n 0, 1), (173, .getfield 18, 3), (176, .iconst 1, 1), (177, .aload_n 0, 1), (178, .getfield 83, 3), (181, .invokestatic 71, 3), (184, .aload_n 0, 1), (185, .iconst 2, 1), (186, .putfield 37, 3), (189, .iconst 1, 1), (190, .ireturn, 1)])
def MX1_placeEdge : xMI := (yX1_placeEdge, cX1_placeEdge, 3, none, 1, (1, 22), 2, [(0, .aload_n 0, 1), (1, .getfield 15, 3), (4, .iload_n 1, 1), (5, .aload_n 0, 1), (6, .getfield 15, 3), (9, .iload_n 1, 1), (10, .invokestatic 75, 3), (13, .iload_n 2, 1), (14, .invokestatic 64, 3), (17, .ior, 1), (18, .invokestatic 71, 3), (21, .aload_n 0, 1), (22, .getfield 15, 3), (25, .iload_n 2, 1), (26, .aload_n 0, 1), (27, .getfield 15, 3), (30, .iload_n 2, 1), (31, .invokestatic 75, 3), (34, .iload_n 1, 1), (35, .invokestatic 64, 3), (38, .ior, 1), (39, .invokestatic 71, 3), (42, .aload_n 0, 1), (43, .dup, 1), (44, .getfield 83, 3), (47, .iload_n 1, 1), (48, .invokestatic 64, 3), (51, .iload_n 2, 1), (52, .invokestatic 64, 3), (55, .ior, 1), (56, .ior, 1), (57, .putfield 83, 3), (60, .aload_n 0, 1), (61, .dup, 1), (62, .getfield 34, 3), (65, .iconst 1, 1), (66, .iadd, 1), (67, .putfield 34, 3), (70, .return_, 1)])
def MX1_findPath : xMI := (yX1_findPath, cX1_findPath, 9, (some .boolean), 1, (1, 23), 3, [(0, .iload_n 3, 1), (1, .istore 4, 2), (3, .iload_n 2, 1), (4, .istore 5, 2), (6, .iconst 0, 1), (7, .istore 6, 2), (9, .aload_n 0, 1), (10, .getfield 27, 3), (13, .iconst 0, 1), (14, .iload_n 2, 1), (15, .invokestatic 71, 3), (18, .iconst 1, 1), (19, .istore 7, 2), (21, .iload 7, 2), (23, .bipush 10, 2), (25, .if_icmp .ge 70, 95), (28, .iload 6, 2), (30, .ifCond .ne 65, 95), (33, .aload_n 0, 1), (34, .getfield 9, 3), (37, .iload 5, 2), (39, .invokestatic 102, 3), (42, .iload 4, 2), (44, .iand, 1), (45, .istore 5, 2), (47, .iload 4, 2), (49, .iload 5, 2), (51, .iconst (-1), 1), (52, .ixor, 1), (53, .iand, 1), (54, .istore 4, 2), (56, .aload_n 0, 1), (57, .getfield 27, 3), (60, .iload 7, 2), (62, .iload 5, 2), (64, .invokestatic 71, 3), (67, .iload 5, 2), (69, .aload_n 0, 1), (70, .getfield 9, 3), (73, .iload_n 1, 1), (74, .invokestatic 75, 3), (77, .iand, 1), (78, .ifCond .ne 7, 85), (81, .iconst 0, 1), (82, .goto 5, 87), (85, .iload 7, 2), (87, .istore 6, 2), (89, .iinc 7 1, 3), (92, .goto (-71), 21), (95, .iload 6, 2), (97, .ifCond .ne 5, 102), (100, .iconst 0, 1), (101, .ireturn, 1), (102, .aload_n 0, 1), (103, .getfield 24, 3), (106, .iconst 0, 1), (107, .iload_n 1, 1), (108, .invokestatic 71, 3), (111, .aload_n 0, 1), (112, .iconst 1, 1), (113, .putfield 99, 3), (116, .iload_n 1, 1), (117, .istore 7, 2), (119, .iload 6, 2), (121, .istore 8, 2), (123, .iload 8, 2), (125, .ifCond .lt 56, 181), (128, .aload_n 0, 1), (129, .getfield 9, 3), (132, .iload 7, 2), (134, .invokestatic 75, 3), (137, .aload_n 0, 1), (138, .getfield 27, 3), (141, .iload 8, 2), (143, .invokestatic 75, 3), (146, .iand, 1), (147, .invokestatic 60, 3), (150, .istore 7, 2), (152, .aload_n 0, 1), (153, .getfield 24, 3), (156, .aload_n 0, 1), (157, .getfield 99, 3), (160, .iload 7, 2), (162, .invokestatic 71, 3), (165, .aload_n 0, 1), (166, .dup, 1), (167, .getfield 99, 3), (170, .iconst 1, 1), (171, .iadd, 1), (172, .putfield 99, 3), (175, .iinc 8 (-1), 3), (178, .goto (-55), 123), (181, .iconst 1, 1), (182, .ireturn, 1)])
def MX1_chooseFragment : xMI := (yX1_chooseFragment, cX1_chooseFragment, 9, (some .boolean), 1, (2, 48), 0, [(0, .aload_n 0, 1), (1, .iconst 0, 1), (2, .putfield 105, 3), (5, .aload_n 0, 1), (6, .getfield 57, 3), (9, .aload_n 0, 1), (10, .getfield 83, 3), (13, .iconst (-1), 1), (14, .ixor, 1), (15, .iand, 1), (16, .istore_n 1, 1), (17, .iconst 0, 1), (18, .istore_n 2, 1), (19, .iconst 0, 1), (20, .istore_n 3, 1), (21, .iload_n 3, 1), (22, .bipush 10, 2), (24, .if_icmp .ge 148, 172), (27, .iload_n 3, 1), (28, .iconst 1, 1), (29, .iadd, 1), (30, .istore 4, 2), (32, .iload 4, 2), (34, .bipush 10, 2), (36, .if_icmp .ge 130, 166), (39, .iload_n 3, 1), (40, .invokestatic 64, 3), (43, .iload 4, 2), (45, .invokestatic 64, 3), (48, .ior, 1), (49, .istore 5, 2), (51, .aload_n 0, 1), (52, .getfield 9, 3), (55, .iload_n 3, 1), (56, .invokestatic 75, 3), (59, .iload 4, 2), (61, .invokestatic 79, 3), (64, .ifCond .eq 23, 87), (67, .aload_n 0, 1), (68, .getfield 15, 3), (71, .iload_n 3, 1), (72, .invokestatic 75, 3), (75, .iload 4, 2), (77, .invokestatic 79, 3), (80, .ifCond .ne 7, 87), (83, .iconst 1, 1), (84, .goto 4, 88), (87, .iconst 0, 1), (88, .istore 6, 2), (90, .iload 6, 2), (92, .ifCond .eq 68, 160), (95, .iload 5, 2), (97, .iload_n 2, 1), (98, .iand, 1), (99, .ifCond .ne 61, 160), (102, .aload_n 0, 1), (103, .getfield 9, 3), (106, .iload 5, 2), (108, .iload_n 1, 1), (109, .iand, 1), (110, .iload_n 1, 1), (111, .invokestatic 108, 3), (114, .istore 7, 2), (116, .iload 7, 2), (118, .ifCond .ne 8, 126), (121, .iload 5, 2), (123, .goto 17, 140), (126, .aload_n 0, 1), (127, .getfield 9, 3), (130, .iload 7, 2), (132, .invokestatic 102, 3), (135, .aload_n 0, 1), (136, .getfield 83, 3), (139, .iand, 1), (140, .istore 8, 2), (142, .iload_n 2, 1), (143, .iload 7, 2), (145, .ior, 1), (146, .istore_n 2, 1), (147, .aload_n 0, 1), (148, .iload 7, 2), (150, .iload 8, 2), (152, .invokevirtual 112, 3), (155, .ifCond .ne 5, 160), (158, .iconst 0, 1), (159, .ireturn, 1), (160, .iinc 4 1, 3), (163, .goto (-131), 32), (166, .iinc 3 1, 3), (169, .goto (-148), 21), (172, .aload_n 0, 1), (173, .getfield 105, 3), (176, .ifCond .le 7, 183), (179, .iconst 1, 1), (180, .goto 4, 184), (183, .iconst 0, 1), (184, .ireturn, 1)])
def MX1_weigh : xMI := (yX1_weigh, cX1_weigh, 6, (some .boolean), 1, (1, 21), 2, [(0, .iconst 0, 1), (1, .istore_n 3, 1), (2, .iconst 0, 1), (3, .istore 4, 2), (5, .aload_n 0, 1), (6, .getfield 37, 3), (9, .iconst 1, 1), (10, .isub, 1), (11, .istore 5, 2), (13, .iload 5, 2), (15, .ifCond .lt 32, 47), (18, .iload_n 2, 1), (19, .aload_n 0, 1), (20, .getfield 18, 3), (23, .iload 5, 2), (25, .invokestatic 75, 3), (28, .iconst (-1), 1), (29, .ixor, 1), (30, .iand, 1), (31, .ifCond .ne 10, 41), (34, .iinc 3 1, 3), (37, .iload 5, 2), (39, .istore 4, 2), (41, .iinc 5 (-1), 3), (44, .goto (-31), 13), (47, .iload_n 3, 1), (48, .ifCond .le 44, 92), (51, .aload_n 0, 1), (52, .getfield 105, 3), (55, .ifCond .eq 16, 71), (58, .iload_n 3, 1), (59, .iconst 1, 1), (60, .if_icmp .ne 32, 92), (63, .aload_n 0, 1), (64, .getfield 105, 3), (67, .iconst 1, 1), (68, .if_icmp .le 24, 92), (71, .aload_n 0, 1), (72, .iload_n 1, 1), (73, .putfield 115, 3), (76, .aload_n 0, 1), (77, .iload_n 2, 1), (78, .putfield 118, 3), (81, .aload_n 0, 1), (82, .iload 4, 2), (84, .putfield 121, 3), (87, .aload_n 0, 1), (88, .iload_n 3, 1), (89, .putfield 105, 3), (92, .iload_n 3, 1), (93, .ifCond .le 7, 100), (96, .iconst 1, 1), (97, .goto 4, 101), (100, .iconst 0, 1), (101, .ireturn, 1)])
def MX1_choosePath : xMI := (yX1_choosePath, cX1_choosePath, 3, (some .boolean), 1, (2, 51), 0, [(0, .aload_n 0, 1), (1, .getfield 118, 3), (4, .invokestatic 60, 3), (7, .istore_n 1, 1), (8, .aload_n 0, 1), (9, .getfield 118, 3), (12, .iload_n 1, 1), (13, .invokestatic 64, 3), (16, .iconst (-1), 1), (17, .ixor, 1), (18, .iand, 1), (19, .istore_n 2, 1), (20, .aload_n 0, 1), (21, .getfield 115, 3), (24, .ifCond .eq 14, 38), (27, .aload_n 0, 1), (28, .iload_n 1, 1), (29, .iload_n 2, 1), (30, .aload_n 0, 1), (31, .getfield 115, 3), (34, .invokevirtual 91, 3), (37, .ireturn, 1), (38, .aload_n 0, 1), (39, .getfield 24, 3), (42, .iconst 0, 1), (43, .iload_n 1, 1), (44, .invokestatic 71, 3), (47, .aload_n 0, 1), (48, .getfield 24, 3), (51, .iconst 1, 1), (52, .iload_n 2, 1), (53, .invokestatic 60, 3), (56, .invokestatic 71, 3), (59, .aload_n 0, 1), (60, .iconst 2, 1), (61, .putfield 99, 3), (64, .iconst 1, 1), (65, .ireturn, 1)])
def MX1_splitFace : xMI := (yX1_splitFace, cX1_splitFace, 9, none, 1, (2, 44), 0, [(0, .aload_n 0, 1), (1, .getfield 24, 3), (4, .iconst 0, 1), (5, .invokestatic 75, 3), (8, .istore_n 1, 1), (9, .aload_n 0, 1), (10, .getfield 24, 3), (13, .aload_n 0, 1), (14, .getfield 99, 3), (17, .iconst 1, 1), (18, .isub, 1), (19, .invokestatic 75, 3), (22, .istore_n 2, 1), (23, .iload_n 2, 1), (24, .invokestatic 64, 3), (27, .istore_n 3, 1), (28, .iload_n 2, 1), (29, .istore 4, 2), (31, .iconst 0, 1), (32, .istore 5, 2), (34, .iload 5, 2), (36, .bipush 10, 2), (38, .if_icmp .ge 63, 101), (41, .iload 4, 2), (43, .iload_n 1, 1), (44, .if_icmp .eq 57, 101), (47, .aload_n 0, 1), (48, .getfield 21, 3), (51, .aload_n 0, 1), (52, .getfield 121, 3), (55, .iload 4, 2), (57, .invokestatic 67, 3), (60, .invokestatic 75, 3), (63, .istore 6, 2), (65, .aload_n 0, 1), (66, .getfield 21, 3), (69, .aload_n 0, 1), (70, .getfield 37, 3), (73, .iload 4, 2), (75, .invokestatic 67, 3), (78, .iload 6, 2), (80, .invokestatic 71, 3), (83, .iload_n 3, 1), (84, .iload 6, 2), (86, .invokestatic 64, 3), (89, .ior, 1), (90, .istore_n 3, 1), (91, .iload 6, 2), (93, .istore 4, 2), (95, .iinc 5 1, 3), (98, .goto (-64), 34), (101, .iload_n 1, 1), (102, .invokestatic 64, 3), (105, .istore 5, 2), (107, .iconst 1, 1), (108, .istore 6, 2), (110, .iload 6, 2), (112, .aload_n 0, 1), (113, .getfield 99, 3), (116, .if_icmp .ge 87, 203), (119, .aload_n 0, 1), (120, .getfield 24, 3), (123, .iload 6, 2), (125, .iconst 1, 1), (126, .isub, 1), (127, .invokestatic 75, 3), (130, .istore 7, 2), (132, .aload_n 0, 1), (133, .getfield 24, 3), (136, .iload 6, 2), (138, .invokestatic 75, 3), (141, .istore 8, 2), (143, .aload_n 0, 1), (144, .getfield 21, 3), (147, .aload_n 0, 1), (148, .getfield 37, 3), (151, .iload 7, 2), (153, .invokestatic 67, 3), (156, .iload 8, 2), (158, .invokestatic 71, 3), (161, .aload_n 0, 1), (162, .getfield 21, 3), (165, .aload_n 0, 1), (166, .getfield 121, 3), (169, .iload 8, 2), (171, .invokestatic 67, 3), (174, .iload 7, 2), (176, .invokestatic 71, 3), (179, .iload 5, 2), (181, .iload 8, 2), (183, .invokestatic 64, 3), (186, .ior, 1), (187, .istore 5, 2), (189, .aload_n 0, 1), (190, .iload 7, 2), (192, .iload 8, 2), (194, .invokevirtual 95, 3), (197, .iinc 6 1, 3), (200, .goto (-90), 110), (203, .aload_n 0, 1), (204, .getfield 18, 3), (207, .aload_n 0, 1), (208, .getfield 121, 3), (211, .aload_n 0, 1), (212, .getfield 18, 3), (215, .aload_n 0, 1), (216, .getfield 121, 3), (219, .invokestatic 75, 3), (222, .iload_n 3, 1), (223, .iconst (-1), 1), (224, .ixor, 1), (225, .iand, 1), (226, .iload 5, 2), (228, .ior, 1), (229, .invokestatic 71, 3), (232, .aload_n 0, 1), (233, .getfield 18, 3), (236, .aload_n 0, 1), (237, .getfield 37, 3), (240, .iload_n 3, 1), (241, .iload 5, 2), (243, .ior, 1), (244, .invokestatic 71, 3), (247, .aload_n 0, 1), (248, .dup, 1), (249, .getfield 37, 3), (252, .iconst 1, 1), (253, .iadd, 1), (254, .putfield 37, 3), (257, .return_, 1)])
def MX2_size : xMI := (yX2_size, cX2_size, 1, (some .int), 2, (0, 0), 0, [(0, .aload_n 0, 1), (1, .getfield 22, 3), (4, .ireturn, 1)])
def MX2_remember : xMI := (yX2_remember, cX2_remember, 2, none, 2, (1, 21), 1, [(0, .aload_n 0, 1), (1, .getfield 22, 3), (4, .iconst 5, 1), (5, .if_icmp .lt 7, 12), (8, .aload_n 0, 1), (9, .invokevirtual 26, 3), (12, .aload_n 0, 1), (13, .getfield 22, 3), (16, .ifCond .lt 60, 76), (19, .aload_n 0, 1), (20, .getfield 22, 3), (23, .iconst 5, 1), (24, .if_icmp .ge 52, 76), (27, .aload_n 0, 1), (28, .getfield 9, 3), (31, .aload_n 0, 1), (32, .getfield 22, 3), (35, .aload_n 1, 1), (36, .invokevirtual 29, 3), (39, .lastore, 1), (40, .aload_n 0, 1), (41, .getfield 15, 3), (44, .aload_n 0, 1), (45, .getfield 22, 3), (48, .aload_n 1, 1), (49, .invokevirtual 34, 3), (52, .iastore, 1), (53, .aload_n 0, 1), (54, .getfield 19, 3), (57, .aload_n 0, 1), (58, .getfield 22, 3), (61, .aload_n 1, 1), (62, .invokevirtual 37, 3), (65, .iastore, 1), (66, .aload_n 0, 1), (67, .dup, 1), (68, .getfield 22, 3), (71, .iconst 1, 1), (72, .iadd, 1), (73, .putfield 22, 3), (76, .return_, 1)])
def MX2_giveBack : xMI := (yX2_giveBack, cX2_giveBack, 3, (some .boolean), 2, (1, 24), 1, [(0, .aload_n 0, 1), (1, .getfield 22, 3), (4, .iconst 1, 1), (5, .isub, 1), (6, .istore_n 2, 1), (7, .iload_n 2, 1), (8, .ifCond .lt 8, 16), (11, .iload_n 2, 1), (12, .iconst 5, 1), (13, .if_icmp .lt 5, 18), (16, .iconst 0, 1), (17, .ireturn, 1), (18, .aload_n 1, 1), (19, .aload_n 0, 1), (20, .getfield 9, 3), (23, .iload_n 2, 1), (24, .laload, 1), (25, .aload_n 0, 1), (26, .getfield 15, 3), (29, .iload_n 2, 1), (30, .iaload, 1), (31, .aload_n 0, 1), (32, .getfield 19, 3), (35, .iload_n 2, 1), (36, .iaload, 1), (37, .invokevirtual 39, 3), (40, .aload_n 0, 1), (41, .iload_n 2, 1), (42, .putfield 22, 3), (45, .iconst 1, 1), (46, .ireturn, 1)])
def MX2_forgetOldest : xMI := (yX2_forgetOldest, cX2_forgetOldest, 2, none, 2, (0, 0), 0, [(0, .iconst 1, 1), (1, .istore_n 1, 1), (2, .iload_n 1, 1), (3, .iconst 5, 1), (4, .if_icmp .ge 51, 55), (7, .aload_n 0, 1), (8, .getfield 9, 3), (11, .iload_n 1, 1), (12, .iconst 1, 1), (13, .isub, 1), (14, .aload_n 0, 1), (15, .getfield 9, 3), (18, .iload_n 1, 1), (19, .laload, 1), (20, .lastore, 1), (21, .aload_n 0, 1), (22, .getfield 15, 3), (25, .iload_n 1, 1), (26, .iconst 1, 1), (27, .isub, 1), (28, .aload_n 0, 1), (29, .getfield 15, 3), (32, .iload_n 1, 1), (33, .iaload, 1), (34, .iastore, 1), (35, .aload_n 0, 1), (36, .getfield 19, 3), (39, .iload_n 1, 1), (40, .iconst 1, 1), (41, .isub, 1), (42, .aload_n 0, 1), (43, .getfield 19, 3), (46, .iload_n 1, 1), (47, .iaload, 1), (48, .iastore, 1), (49, .iinc 1 1, 3), (52, .goto (-50), 2), (55, .aload_n 0, 1), (56, .iconst 4, 1), (57, .putfield 22, 3), (60, .return_, 1)])
def MX3_find : xMI := (yX3_find, cX3_find, 8, none, 3, (5, 125), 2, [(0, .aload_n 0, 1), (1, .getfield 9, 3), (4, .ifCond .eq 13, 17), (7, .aload_n 0, 1), (8, .getfield 15, 3), (11, .lload_n 1, 1), (12, .lcmp, 1), (13, .ifCond .ne 4, 17), (16, .return_, 1), (17, .aload_n 0, 1), (18, .iconst 1, 1), (19, .putfield 9, 3), (22, .aload_n 0, 1), (23, .lload_n 1, 1), (24, .putfield 15, 3), (27, .aload_n 0, 1), (28, .lload_n 1, 1), (29, .putfield 19, 3), (32, .iconst 0, 1), (33, .istore 4, 2), (35, .iload 4, 2), (37, .bipush 10, 2), (39, .if_icmp .ge 71, 110), (42, .iload 4, 2), (44, .iconst 1, 1), (45, .iadd, 1), (46, .istore 5, 2), (48, .iload 5, 2), (50, .bipush 10, 2), (52, .if_icmp .ge 52, 104), (55, .aload_n 0, 1), (56, .getfield 19, 3), (59, .iload 4, 2), (61, .iload 5, 2), (63, .invokestatic 22, 3), (66, .ldc2_w 26, 3), (69, .lxor, 1), (70, .land, 1), (71, .lstore 6, 2), (73, .lload 6, 2), (75, .aload_n 0, 1), (76, .getfield 19, 3), (79, .lcmp, 1), (80, .ifCond .eq 18, 98), (83, .aload_n 3, 1), (84, .lload 6, 2), (86, .invokevirtual 28, 3), (89, .ifCond .ne 9, 98), (92, .aload_n 0, 1), (93, .lload 6, 2), (95, .putfield 19, 3), (98, .iinc 5 1, 3), (101, .goto (-53), 48), (104, .iinc 4 1, 3), (107, .goto (-72), 35), (110, .return_, 1)])
def MX3_size : xMI := (yX3_size, cX3_size, 1, (some .int), 3, (1, 21), 0, [(0, .aload_n 0, 1), (1, .getfield 19, 3), (4, .invokestatic 34, 3), (7, .ireturn, 1)])
def MX3_holds : xMI := (yX3_holds, cX3_holds, 3, (some .boolean), 3, (2, 45), 2, [(0, .aload_n 0, 1), (1, .getfield 19, 3), (4, .iload_n 1, 1), (5, .iload_n 2, 1), (6, .invokestatic 22, 3), (9, .land, 1), (10, .lconst 0, 1), (11, .lcmp, 1), (12, .ifCond .eq 7, 19), (15, .iconst 1, 1), (16, .goto 4, 20), (19, .iconst 0, 1), (20, .ireturn, 1)])
def MX3_verticesInMoreThan : xMI := (yX3_verticesInMoreThan, cX3_verticesInMoreThan, 6, (some .int), 3, (3, 67), 1, [(0, .iconst 0, 1), (1, .istore_n 2, 1), (2, .iconst 0, 1), (3, .istore_n 3, 1), (4, .iload_n 3, 1), (5, .bipush 10, 2), (7, .if_icmp .ge 54, 61), (10, .iconst 0, 1), (11, .istore 4, 2), (13, .iconst 0, 1), (14, .istore 5, 2), (16, .iload 5, 2), (18, .bipush 10, 2), (20, .if_icmp .ge 22, 42), (23, .aload_n 0, 1), (24, .iload_n 3, 1), (25, .iload 5, 2), (27, .invokevirtual 40, 3), (30, .ifCond .eq 6, 36), (33, .iinc 4 1, 3), (36, .iinc 5 1, 3), (39, .goto (-23), 16), (42, .iload 4, 2), (44, .iload_n 1, 1), (45, .if_icmp .le 10, 55), (48, .iload_n 2, 1), (49, .iload_n 3, 1), (50, .invokestatic 44, 3), (53, .ior, 1), (54, .istore_n 2, 1), (55, .iinc 3 1, 3), (58, .goto (-54), 4), (61, .iload_n 2, 1), (62, .ireturn, 1)])
def MX4_read : xMI := (yX4_read, cX4_read, 6, (some .boolean), 4, (4, 100), 1, [(0, .aload_n 0, 1), (1, .getfield 37, 3), (4, .ifCond .eq 17, 21), (7, .aload_n 0, 1), (8, .getfield 41, 3), (11, .lload_n 1, 1), (12, .lcmp, 1), (13, .ifCond .ne 8, 21), (16, .aload_n 0, 1), (17, .getfield 45, 3), (20, .ireturn, 1), (21, .aload_n 0, 1), (22, .iconst 1, 1), (23, .putfield 37, 3), (26, .aload_n 0, 1), (27, .lload_n 1, 1), (28, .putfield 41, 3), (31, .aload_n 0, 1), (32, .iconst 0, 1), (33, .putfield 48, 3), (36, .aload_n 0, 1), (37, .iconst 1, 1), (38, .putfield 45, 3), (41, .aload_n 0, 1), (42, .invokevirtual 52, 3), (45, .iconst 0, 1), (46, .istore_n 3, 1), (47, .iload_n 3, 1), (48, .bipush 10, 2), (50, .if_icmp .ge 82, 132), (53, .iload_n 3, 1), (54, .iconst 1, 1), (55, .iadd, 1), (56, .istore 4, 2), (58, .iload 4, 2), (60, .bipush 10, 2), (62, .if_icmp .ge 64, 126), (65, .aload_n 0, 1), (66, .getfield 9, 3), (69, .iload_n 3, 1), (70, .invokestatic 55, 3), (73, .iload 4, 2), (75, .invokestatic 59, 3), (78, .ifCond .eq 42, 120), (81, .aload_n 0, 1), (82, .iload_n 3, 1), (83, .iload 4, 2), (85, .invokevirtual 63, 3), (88, .iconst (-1), 1), (89, .if_icmp .ne 31, 120), (92, .aload_n 0, 1), (93, .iload_n 3, 1), (94, .iload 4, 2), (96, .invokevirtual 67, 3), (99, .istore 5, 2), (101, .aload_n 0, 1), (102, .getfield 33, 3), (105, .aload_n 0, 1), (106, .getfield 9, 3), (109, .iload 5, 2), (111, .invokevirtual 70, 3), (114, .aload_n 0, 1), (115, .iload 5, 2), (117, .invokevirtual 74, 3), (120, .iinc 4 1, 3), (123, .goto (-65), 58), (126, .iinc 3 1, 3), (129, .goto (-82), 47), (132, .aload_n 0, 1), (133, .getfield 45, 3), (136, .ireturn, 1)])
def MX4_edges : xMI := (yX4_edges, cX4_edges, 1, (some .long), 4, (0, 0), 0, [(0, .aload_n 0, 1), (1, .getfield 41, 3), (4, .lreturn, 1)])
def MX4_near : xMI := (yX4_near, cX4_near, 2, (some .int), 4, (1, 21), 1, [(0, .aload_n 0, 1), (1, .getfield 9, 3), (4, .iload_n 1, 1), (5, .invokestatic 55, 3), (8, .ireturn, 1)])
def MX4_blocks : xMI := (yX4_blocks, cX4_blocks, 1, (some .int), 4, (0, 0), 0, [(0, .aload_n 0, 1), (1, .getfield 48, 3), (4, .ireturn, 1)])
def MX4_verticesOf : xMI := (yX4_verticesOf, cX4_verticesOf, 2, (some .int), 4, (1, 21), 1, [(0, .aload_n 0, 1), (1, .getfield 15, 3), (4, .iload_n 1, 1), (5, .invokestatic 55, 3), (8, .ireturn, 1)])
def MX4_edgesOf : xMI := (yX4_edgesOf, cX4_edgesOf, 2, (some .int), 4, (1, 21), 1, [(0, .aload_n 0, 1), (1, .getfield 18, 3), (4, .iload_n 1, 1), (5, .invokestatic 55, 3), (8, .ireturn, 1)])
def MX4_facesOf : xMI := (yX4_facesOf, cX4_facesOf, 2, (some .int), 4, (1, 21), 1, [(0, .aload_n 0, 1), (1, .getfield 21, 3), (4, .iload_n 1, 1), (5, .invokestatic 55, 3), (8, .ireturn, 1)])
def MX4_placedOf : xMI := (yX4_placedOf, cX4_placedOf, 2, (some .int), 4, (1, 21), 1, [(0, .aload_n 0, 1), (1, .getfield 24, 3), (4, .iload_n 1, 1), (5, .invokestatic 55, 3), (8, .ireturn, 1)])
def MX4_isPlanar : xMI := (yX4_isPlanar, cX4_isPlanar, 2, (some .boolean), 4, (1, 21), 1, [(0, .aload_n 0, 1), (1, .getfield 24, 3), (4, .iload_n 1, 1), (5, .invokestatic 55, 3), (8, .aload_n 0, 1), (9, .getfield 18, 3), (12, .iload_n 1, 1), (13, .invokestatic 55, 3), (16, .if_icmp .ne 7, 23), (19, .iconst 1, 1), (20, .goto 4, 24), (23, .iconst 0, 1), (24, .ireturn, 1)])
def MX4_successor : xMI := (yX4_successor, cX4_successor, 3, (some .int), 4, (1, 21), 2, [(0, .aload_n 0, 1), (1, .getfield 27, 3), (4, .iload_n 1, 1), (5, .iload_n 2, 1), (6, .invokestatic 78, 3), (9, .invokestatic 55, 3), (12, .ireturn, 1)])
def MX4_blockOf : xMI := (yX4_blockOf, cX4_blockOf, 5, (some .int), 4, (1, 21), 2, [(0, .iload_n 1, 1), (1, .invokestatic 81, 3), (4, .iload_n 2, 1), (5, .invokestatic 81, 3), (8, .ior, 1), (9, .istore_n 3, 1), (10, .iconst 0, 1), (11, .istore 4, 2), (13, .iload 4, 2), (15, .aload_n 0, 1), (16, .getfield 48, 3), (19, .if_icmp .ge 28, 47), (22, .iload_n 3, 1), (23, .aload_n 0, 1), (24, .getfield 15, 3), (27, .iload 4, 2), (29, .invokestatic 55, 3), (32, .iconst (-1), 1), (33, .ixor, 1), (34, .iand, 1), (35, .ifCond .ne 6, 41), (38, .iload 4, 2), (40, .ireturn, 1), (41, .iinc 4 1, 3), (44, .goto (-31), 13), (47, .iconst (-1), 1), (48, .ireturn, 1)])
def MX4_components : xMI := (yX4_components, cX4_components, 4, (some .int), 4, (2, 48), 0, [(0, .iconst 0, 1), (1, .istore_n 1, 1), (2, .iconst 0, 1), (3, .istore_n 2, 1), (4, .iconst 0, 1), (5, .istore_n 3, 1), (6, .iload_n 3, 1), (7, .bipush 10, 2), (9, .if_icmp .ge 37, 46), (12, .iload_n 2, 1), (13, .iload_n 3, 1), (14, .invokestatic 59, 3), (17, .ifCond .ne 23, 40), (20, .iload_n 2, 1), (21, .aload_n 0, 1), (22, .getfield 9, 3), (25, .iload_n 3, 1), (26, .invokestatic 81, 3), (29, .sipush 1023, 3), (32, .invokestatic 85, 3), (35, .ior, 1), (36, .istore_n 2, 1), (37, .iinc 1 1, 3), (40, .iinc 3 1, 3), (43, .goto (-37), 6), (46, .iload_n 1, 1), (47, .ireturn, 1)])
def MX4_cutVertices : xMI := (yX4_cutVertices, cX4_cutVertices, 5, (some .int), 4, (1, 21), 0, [(0, .iconst 0, 1), (1, .istore_n 1, 1), (2, .iconst 0, 1), (3, .istore_n 2, 1), (4, .iconst 0, 1), (5, .istore_n 3, 1), (6, .iload_n 3, 1), (7, .aload_n 0, 1), (8, .getfield 48, 3), (11, .if_icmp .ge 31, 42), (14, .aload_n 0, 1), (15, .getfield 15, 3), (18, .iload_n 3, 1), (19, .invokestatic 55, 3), (22, .istore 4, 2), (24, .iload_n 2, 1), (25, .iload_n 1, 1), (26, .iload 4, 2), (28, .iand, 1), (29, .ior, 1), (30, .istore_n 2, 1), (31, .iload_n 1, 1), (32, .iload 4, 2), (34, .ior, 1), (35, .istore_n 1, 1), (36, .iinc 3 1, 3), (39, .goto (-33), 6), (42, .iload_n 2, 1), (43, .invokestatic 89, 3), (46, .ireturn, 1)])
def MX4_bridges : xMI := (yX4_bridges, cX4_bridges, 3, (some .int), 4, (1, 21), 0, [(0, .iconst 0, 1), (1, .istore_n 1, 1), (2, .iconst 0, 1), (3, .istore_n 2, 1), (4, .iload_n 2, 1), (5, .aload_n 0, 1), (6, .getfield 48, 3), (9, .if_icmp .ge 24, 33), (12, .aload_n 0, 1), (13, .getfield 18, 3), (16, .iload_n 2, 1), (17, .invokestatic 55, 3), (20, .iconst 1, 1), (21, .if_icmp .ne 6, 27), (24, .iinc 1 1, 3), (27, .iinc 2 1, 3), (30, .goto (-26), 4), (33, .iload_n 1, 1), (34, .ireturn, 1)])
def MX4_fillNear : xMI := (yX4_fillNear, cX4_fillNear, 4, none, 4, (2, 45), 0, [(0, .iconst 0, 1), (1, .istore_n 1, 1), (2, .iload_n 1, 1), (3, .bipush 10, 2), (5, .if_icmp .ge 56, 61), (8, .iconst 0, 1), (9, .istore_n 2, 1), (10, .iconst 0, 1), (11, .istore_n 3, 1), (12, .iload_n 3, 1), (13, .bipush 10, 2), (15, .if_icmp .ge 31, 46), (18, .aload_n 0, 1), (19, .getfield 41, 3), (22, .iload_n 1, 1), (23, .iload_n 3, 1), (24, .invokestatic 94, 3), (27, .land, 1), (28, .lconst 0, 1), (29, .lcmp, 1), (30, .ifCond .eq 10, 40), (33, .iload_n 2, 1), (34, .iload_n 3, 1), (35, .invokestatic 81, 3), (38, .ior, 1), (39, .istore_n 2, 1), (40, .iinc 3 1, 3), (43, .goto (-31), 12), (46, .aload_n 0, 1), (47, .getfield 9, 3), (50, .iload_n 1, 1), (51, .iload_n 2, 1), (52, .invokestatic 98, 3), (55, .iinc 1 1, 3), (58, .goto (-56), 2), (61, .return_, 1)])
def MX4_blockAround : xMI := (yX4_blockAround, cX4_blockAround, 7, (some .int), 4, (2, 48), 2, [(0, .iload_n 1, 1), (1, .invokestatic 81, 3), (4, .iload_n 2, 1), (5, .invokestatic 81, 3), (8, .ior, 1), (9, .istore_n 3, 1), (10, .sipush 1023, 3), (13, .istore 4, 2), (15, .iconst 0, 1), (16, .istore 5, 2), (18, .iload 5, 2), (20, .bipush 10, 2), (22, .if_icmp .ge 46, 68), (25, .sipush 1023, 3), (28, .iload 5, 2), (30, .invokestatic 81, 3), (33, .iconst (-1), 1), (34, .ixor, 1), (35, .iand, 1), (36, .istore 6, 2), (38, .iload 4, 2), (40, .aload_n 0, 1), (41, .getfield 9, 3), (44, .iload_n 3, 1), (45, .iload 6, 2), (47, .iand, 1), (48, .iload 6, 2), (50, .invokestatic 85, 3), (53, .iload 5, 2), (55, .invokestatic 81, 3), (58, .ior, 1), (59, .iand, 1), (60, .istore 4, 2), (62, .iinc 5 1, 3), (65, .goto (-47), 18), (68, .iload 4, 2), (70, .ireturn, 1)])
def MX4_keepBlock : xMI := (yX4_keepBlock, cX4_keepBlock, 2, none, 4, (2, 46), 1, [(0, .aload_n 0, 1), (1, .getfield 15, 3), (4, .aload_n 0, 1), (5, .getfield 48, 3), (8, .iload_n 1, 1), (9, .invokestatic 98, 3), (12, .aload_n 0, 1), (13, .getfield 18, 3), (16, .aload_n 0, 1), (17, .getfield 48, 3), (20, .aload_n 0, 1), (21, .getfield 33, 3), (24, .invokevirtual 102, 3), (27, .invokestatic 98, 3), (30, .aload_n 0, 1), (31, .getfield 24, 3), (34, .aload_n 0, 1), (35, .getfield 48, 3), (38, .aload_n 0, 1), (39, .getfield 33, 3), (42, .invokevirtual 105, 3), (45, .invokestatic 98, 3), (48, .aload_n 0, 1), (49, .getfield 21, 3), (52, .aload_n 0, 1), (53, .getfield 48, 3), (56, .aload_n 0, 1), (57, .getfield 33, 3), (60, .invokevirtual 108, 3), (63, .invokestatic 98, 3), (66, .aload_n 0, 1), (67, .aload_n 0, 1), (68, .getfield 48, 3), (71, .invokevirtual 111, 3), (74, .ifCond .eq 17, 91), (77, .aload_n 0, 1), (78, .getfield 33, 3), (81, .aload_n 0, 1), (82, .getfield 27, 3), (85, .invokevirtual 115, 3), (88, .goto 8, 96), (91, .aload_n 0, 1), (92, .iconst 0, 1), (93, .putfield 45, 3), (96, .aload_n 0, 1), (97, .dup, 1), (98, .getfield 48, 3), (101, .iconst 1, 1), (102, .iadd, 1), (103, .putfield 48, 3), (106, .return_, 1)])
def MX5_edges : xMI := (yX5_edges, cX5_edges, 1, (some .long), 5, (0, 0), 0, [(0, .aload_n 0, 1), (1, .getfield 7, 3), (4, .lreturn, 1)])
def MX5_added : xMI := (yX5_added, cX5_added, 1, (some .int), 5, (0, 0), 0, [(0, .aload_n 0, 1), (1, .getfield 13, 3), (4, .ireturn, 1)])
def MX5_dropped : xMI := (yX5_dropped, cX5_dropped, 1, (some .int), 5, (0, 0), 0, [(0, .aload_n 0, 1), (1, .getfield 17, 3), (4, .ireturn, 1)])
def MX5_size : xMI := (yX5_size, cX5_size, 1, (some .int), 5, (1, 21), 0, [(0, .aload_n 0, 1), (1, .getfield 7, 3), (4, .invokestatic 20, 3), (7, .ireturn, 1)])
def MX5_joins : xMI := (yX5_joins, cX5_joins, 3, (some .boolean), 5, (2, 45), 2, [(0, .aload_n 0, 1), (1, .getfield 7, 3), (4, .iload_n 1, 1), (5, .iload_n 2, 1), (6, .invokestatic 26, 3), (9, .land, 1), (10, .lconst 0, 1), (11, .lcmp, 1), (12, .ifCond .eq 7, 19), (15, .iconst 1, 1), (16, .goto 4, 20), (19, .iconst 0, 1), (20, .ireturn, 1)])
def MX5_become : xMI := (yX5_become, cX5_become, 5, none, 5, (0, 0), 3, [(0, .aload_n 0, 1), (1, .lload_n 1, 1), (2, .putfield 7, 3), (5, .aload_n 0, 1), (6, .iload_n 3, 1), (7, .putfield 13, 3), (10, .aload_n 0, 1), (11, .iload 4, 2), (13, .putfield 17, 3), (16, .return_, 1)])
def MX5_flip : xMI := (yX5_flip, cX5_flip, 3, none, 5, (3, 67), 2, [(0, .aload_n 0, 1), (1, .iload_n 1, 1), (2, .iload_n 2, 1), (3, .invokevirtual 32, 3), (6, .ifCond .eq 16, 22), (9, .aload_n 0, 1), (10, .dup, 1), (11, .getfield 17, 3), (14, .iconst 1, 1), (15, .iadd, 1), (16, .putfield 17, 3), (19, .goto 13, 32), (22, .aload_n 0, 1), (23, .dup, 1), (24, .getfield 13, 3), (27, .iconst 1, 1), (28, .iadd, 1), (29, .putfield 13, 3), (32, .aload_n 0, 1), (33, .dup, 1), (34, .getfield 7, 3), (37, .iload_n 1, 1), (38, .iload_n 2, 1), (39, .invokestatic 26, 3), (42, .lxor, 1), (43, .putfield 7, 3), (46, .return_, 1)])
def MX5_removeAll : xMI := (yX5_removeAll, cX5_removeAll, 1, none, 5, (2, 41), 0, [(0, .aload_n 0, 1), (1, .dup, 1), (2, .getfield 17, 3), (5, .aload_n 0, 1), (6, .invokevirtual 36, 3), (9, .iadd, 1), (10, .putfield 17, 3), (13, .aload_n 0, 1), (14, .lconst 0, 1), (15, .putfield 7, 3), (18, .return_, 1)])
def MX6_trace : xMI := (yX6_trace, cX6_trace, 4, none, 6, (3, 72), 1, [(0, .aload_n 0, 1), (1, .getfield 24, 3), (4, .ifCond .eq 16, 20), (7, .aload_n 0, 1), (8, .getfield 28, 3), (11, .aload_n 1, 1), (12, .invokevirtual 32, 3), (15, .lcmp, 1), (16, .ifCond .ne 4, 20), (19, .return_, 1), (20, .aload_n 0, 1), (21, .iconst 1, 1), (22, .putfield 24, 3), (25, .aload_n 0, 1), (26, .aload_n 1, 1), (27, .invokevirtual 32, 3), (30, .putfield 28, 3), (33, .aload_n 0, 1), (34, .iconst 0, 1), (35, .putfield 37, 3), (38, .aload_n 0, 1), (39, .iconst 0, 1), (40, .putfield 41, 3), (43, .iconst 0, 1), (44, .istore_n 2, 1), (45, .iload_n 2, 1), (46, .bipush 100, 2), (48, .if_icmp .ge 18, 66), (51, .aload_n 0, 1), (52, .getfield 15, 3), (55, .iload_n 2, 1), (56, .iconst (-1), 1), (57, .invokestatic 44, 3), (60, .iinc 2 1, 3), (63, .goto (-18), 45), (66, .iconst 0, 1), (67, .istore_n 2, 1), (68, .iload_n 2, 1), (69, .bipush 10, 2), (71, .if_icmp .ge 15, 86), (74, .aload_n 0, 1), (75, .aload_n 1, 1), (76, .iload_n 2, 1), (77, .invokevirtual 48, 3), (80, .iinc 2 1, 3), (83, .goto (-15), 68), (86, .iconst 0, 1), (87, .istore_n 2, 1), (88, .iload_n 2, 1), (89, .bipush 10, 2), (91, .if_icmp .ge 51, 142), (94, .iconst 0, 1), (95, .istore_n 3, 1), (96, .iload_n 3, 1), (97, .bipush 10, 2), (99, .if_icmp .ge 37, 136), (102, .aload_n 1, 1), (103, .iload_n 2, 1), (104, .invokevirtual 52, 3), (107, .iload_n 3, 1), (108, .invokestatic 56, 3), (111, .ifCond .eq 19, 130), (114, .aload_n 0, 1), (115, .iload_n 2, 1), (116, .iload_n 3, 1), (117, .invokevirtual 60, 3), (120, .iconst (-1), 1), (121, .if_icmp .ne 9, 130), (124, .aload_n 0, 1), (125, .iload_n 2, 1), (126, .iload_n 3, 1), (127, .invokevirtual 64, 3), (130, .iinc 3 1, 3), (133, .goto (-37), 96), (136, .iinc 2 1, 3), (139, .goto (-51), 88), (142, .return_, 1)])
def MX6_size : xMI := (yX6_size, cX6_size, 1, (some .int), 6, (0, 0), 0, [(0, .aload_n 0, 1), (1, .getfield 37, 3), (4, .ireturn, 1)])
def MX6_holds : xMI := (yX6_holds, cX6_holds, 2, (some .boolean), 6, (0, 0), 1, [(0, .iload_n 1, 1), (1, .ifCond .lt 15, 16), (4, .iload_n 1, 1), (5, .aload_n 0, 1), (6, .getfield 37, 3), (9, .if_icmp .ge 7, 16), (12, .iconst 1, 1), (13, .goto 4, 17), (16, .iconst 0, 1), (17, .ireturn, 1)])
def MX6_lengthOf : xMI := (yX6_lengthOf, cX6_lengthOf, 2, (some .int), 6, (1, 21), 1, [(0, .aload_n 0, 1), (1, .getfield 18, 3), (4, .iload_n 1, 1), (5, .iconst 1, 1), (6, .iadd, 1), (7, .invokestatic 68, 3), (10, .aload_n 0, 1), (11, .getfield 18, 3), (14, .iload_n 1, 1), (15, .invokestatic 68, 3), (18, .isub, 1), (19, .ireturn, 1)])
def MX6_vertexOf : xMI := (yX6_vertexOf, cX6_vertexOf, 3, (some .int), 6, (1, 21), 2, [(0, .aload_n 0, 1), (1, .getfield 21, 3), (4, .aload_n 0, 1), (5, .getfield 18, 3), (8, .iload_n 1, 1), (9, .invokestatic 68, 3), (12, .iload_n 2, 1), (13, .iadd, 1), (14, .invokestatic 68, 3), (17, .ireturn, 1)])
def MX6_ofDart : xMI := (yX6_ofDart, cX6_ofDart, 3, (some .int), 6, (1, 21), 2, [(0, .aload_n 0, 1), (1, .getfield 15, 3), (4, .iload_n 1, 1), (5, .iload_n 2, 1), (6, .invokestatic 72, 3), (9, .invokestatic 68, 3), (12, .ireturn, 1)])
def MX6_behind : xMI := (yX6_behind, cX6_behind, 3, (some .int), 6, (1, 21), 2, [(0, .aload_n 0, 1), (1, .getfield 9, 3), (4, .iload_n 1, 1), (5, .iload_n 2, 1), (6, .invokestatic 72, 3), (9, .invokestatic 68, 3), (12, .ireturn, 1)])
def MX6_orderAround : xMI := (yX6_orderAround, cX6_orderAround, 10, none, 6, (2, 43), 2, [(0, .iconst (-1), 1), (1, .istore_n 3, 1), (2, .iconst (-1), 1), (3, .istore 4, 2), (5, .iconst 0, 1), (6, .istore 5, 2), (8, .iload 5, 2), (10, .aload_n 1, 1), (11, .invokevirtual 75, 3), (14, .if_icmp .ge 119, 133), (17, .aload_n 1, 1), (18, .iload 5, 2), (20, .invokevirtual 79, 3), (23, .istore 6, 2), (25, .iload 6, 2), (27, .iload_n 2, 1), (28, .invokestatic 56, 3), (31, .ifCond .eq 14, 45), (34, .aload_n 1, 1), (35, .iload_n 2, 1), (36, .invokevirtual 52, 3), (39, .iload 6, 2), (41, .iand, 1), (42, .goto 4, 46), (45, .iconst 0, 1), (46, .istore 7, 2), (48, .iload 7, 2), (50, .invokestatic 82, 3), (53, .istore 8, 2), (55, .iconst 0, 1), (56, .istore 9, 2), (58, .iload 9, 2), (60, .bipush 10, 2), (62, .if_icmp .ge 65, 127), (65, .iload 7, 2), (67, .ifCond .eq 60, 127), (70, .iload_n 3, 1), (71, .iconst (-1), 1), (72, .if_icmp .ne 9, 81), (75, .iload 8, 2), (77, .istore_n 3, 1), (78, .goto 18, 96), (81, .aload_n 0, 1), (82, .getfield 9, 3), (85, .iload_n 2, 1), (86, .iload 4, 2), (88, .invokestatic 72, 3), (91, .iload 8, 2), (93, .invokestatic 44, 3), (96, .iload 8, 2), (98, .istore 4, 2), (100, .iload 7, 2), (102, .iload 8, 2), (104, .invokestatic 85, 3), (107, .iconst (-1), 1), (108, .ixor, 1), (109, .iand, 1), (110, .istore 7, 2), (112, .aload_n 1, 1), (113, .iload_n 2, 1), (114, .iload 8, 2), (116, .invokevirtual 88, 3), (119, .istore 8, 2), (121, .iinc 9 1, 3), (124, .goto (-66), 58), (127, .iinc 5 1, 3), (130, .goto (-122), 8), (133, .iload_n 3, 1), (134, .iconst (-1), 1), (135, .if_icmp .eq 17, 152), (138, .aload_n 0, 1), (139, .getfield 9, 3), (142, .iload_n 2, 1), (143, .iload 4, 2), (145, .invokestatic 72, 3), (148, .iload_n 3, 1), (149, .invokestatic 44, 3), (152, .return_, 1)])
def MX6_follow : xMI := (yX6_follow, cX6_follow, 7, none, 6, (2, 43), 2, [(0, .iload_n 1, 1), (1, .istore_n 3, 1), (2, .iload_n 2, 1), (3, .istore 4, 2), (5, .aload_n 0, 1), (6, .getfield 18, 3), (9, .aload_n 0, 1), (10, .getfield 37, 3), (13, .aload_n 0, 1), (14, .getfield 41, 3), (17, .invokestatic 44, 3), (20, .iconst 0, 1), (21, .istore 5, 2), (23, .iload 5, 2), (25, .bipush 48, 2), (27, .if_icmp .ge 75, 102), (30, .aload_n 0, 1), (31, .iload_n 3, 1), (32, .iload 4, 2), (34, .invokevirtual 60, 3), (37, .iconst (-1), 1), (38, .if_icmp .ne 64, 102), (41, .aload_n 0, 1), (42, .getfield 15, 3), (45, .iload_n 3, 1), (46, .iload 4, 2), (48, .invokestatic 72, 3), (51, .aload_n 0, 1), (52, .getfield 37, 3), (55, .invokestatic 44, 3), (58, .aload_n 0, 1), (59, .getfield 21, 3), (62, .aload_n 0, 1), (63, .getfield 41, 3), (66, .iload_n 3, 1), (67, .invokestatic 44, 3), (70, .aload_n 0, 1), (71, .dup, 1), (72, .getfield 41, 3), (75, .iconst 1, 1), (76, .iadd, 1), (77, .putfield 41, 3), (80, .aload_n 0, 1), (81, .iload 4, 2), (83, .iload_n 3, 1), (84, .invokevirtual 91, 3), (87, .istore 6, 2), (89, .iload 4, 2), (91, .istore_n 3, 1), (92, .iload 6, 2), (94, .istore 4, 2), (96, .iinc 5 1, 3), (99, .goto (-76), 23), (102, .aload_n 0, 1), (103, .dup, 1), (104, .getfield 37, 3), (107, .iconst 1, 1), (108, .iadd, 1), (109, .putfield 37, 3), (112, .aload_n 0, 1), (113, .getfield 18, 3), (116, .aload_n 0, 1), (117, .getfield 37, 3), (120, .aload_n 0, 1), (121, .getfield 41, 3), (124, .invokestatic 44, 3), (127, .return_, 1)])
def MX7_add : xMI := (yX7_add, cX7_add, 3, (some .int), 7, (4, 89), 2, [(0, .iload_n 1, 1), (1, .invokestatic 57, 3), (4, .ifCond .eq 10, 14), (7, .iload_n 2, 1), (8, .invokestatic 57, 3), (11, .ifCond .ne 5, 16), (14, .iconst (-1), 1), (15, .ireturn, 1), (16, .iload_n 1, 1), (17, .iload_n 2, 1), (18, .if_icmp .ne 6, 24), (21, .bipush (-2), 2), (23, .ireturn, 1), (24, .aload_n 0, 1), (25, .getfield 12, 3), (28, .iload_n 1, 1), (29, .iload_n 2, 1), (30, .invokevirtual 61, 3), (33, .ifCond .eq 6, 39), (36, .bipush (-4), 2), (38, .ireturn, 1), (39, .aload_n 0, 1), (40, .getfield 22, 3), (43, .aload_n 0, 1), (44, .getfield 12, 3), (47, .invokevirtual 65, 3), (50, .aload_n 0, 1), (51, .getfield 12, 3), (54, .iload_n 1, 1), (55, .iload_n 2, 1), (56, .invokevirtual 69, 3), (59, .aload_n 0, 1), (60, .getfield 12, 3), (63, .invokevirtual 73, 3), (66, .ireturn, 1)])
def MX7_drop : xMI := (yX7_drop, cX7_drop, 3, (some .int), 7, (4, 89), 2, [(0, .aload_n 0, 1), (1, .getfield 12, 3), (4, .iload_n 1, 1), (5, .iload_n 2, 1), (6, .invokevirtual 61, 3), (9, .ifCond .ne 5, 14), (12, .iconst (-1), 1), (13, .ireturn, 1), (14, .aload_n 0, 1), (15, .getfield 22, 3), (18, .aload_n 0, 1), (19, .getfield 12, 3), (22, .invokevirtual 65, 3), (25, .aload_n 0, 1), (26, .getfield 12, 3), (29, .iload_n 1, 1), (30, .iload_n 2, 1), (31, .invokevirtual 69, 3), (34, .aload_n 0, 1), (35, .getfield 12, 3), (38, .invokevirtual 73, 3), (41, .ireturn, 1)])
def MX7_clear : xMI := (yX7_clear, cX7_clear, 2, (some .int), 7, (3, 61), 0, [(0, .aload_n 0, 1), (1, .getfield 12, 3), (4, .invokevirtual 73, 3), (7, .istore_n 1, 1), (8, .aload_n 0, 1), (9, .getfield 22, 3), (12, .aload_n 0, 1), (13, .getfield 12, 3), (16, .invokevirtual 65, 3), (19, .aload_n 0, 1), (20, .getfield 12, 3), (23, .invokevirtual 77, 3), (26, .iload_n 1, 1), (27, .ireturn, 1)])
def MX7_complete : xMI := (yX7_complete, cX7_complete, 4, (some .int), 7, (5, 125), 0, [(0, .aload_n 0, 1), (1, .getfield 36, 3), (4, .aload_n 0, 1), (5, .getfield 12, 3), (8, .invokevirtual 80, 3), (11, .invokevirtual 84, 3), (14, .ifCond .ne 6, 20), (17, .bipush (-4), 2), (19, .ireturn, 1), (20, .aload_n 0, 1), (21, .getfield 22, 3), (24, .aload_n 0, 1), (25, .getfield 12, 3), (28, .invokevirtual 65, 3), (31, .aload_n 0, 1), (32, .getfield 12, 3), (35, .invokevirtual 73, 3), (38, .istore_n 1, 1), (39, .iconst 0, 1), (40, .istore_n 2, 1), (41, .iload_n 2, 1), (42, .bipush 10, 2), (44, .if_icmp .ge 69, 113), (47, .iload_n 2, 1), (48, .iconst 1, 1), (49, .iadd, 1), (50, .istore_n 3, 1), (51, .iload_n 3, 1), (52, .bipush 10, 2), (54, .if_icmp .ge 53, 107), (57, .aload_n 0, 1), (58, .getfield 12, 3), (61, .iload_n 2, 1), (62, .iload_n 3, 1), (63, .invokevirtual 61, 3), (66, .ifCond .ne 35, 101), (69, .aload_n 0, 1), (70, .getfield 40, 3), (73, .aload_n 0, 1), (74, .getfield 12, 3), (77, .invokevirtual 80, 3), (80, .iload_n 2, 1), (81, .iload_n 3, 1), (82, .invokestatic 88, 3), (85, .lor, 1), (86, .invokevirtual 84, 3), (89, .ifCond .eq 12, 101), (92, .aload_n 0, 1), (93, .getfield 12, 3), (96, .iload_n 2, 1), (97, .iload_n 3, 1), (98, .invokevirtual 69, 3), (101, .iinc 3 1, 3), (104, .goto (-53), 51), (107, .iinc 2 1, 3), (110, .goto (-69), 41), (113, .aload_n 0, 1), (114, .getfield 12, 3), (117, .invokevirtual 73, 3), (120, .iload_n 1, 1), (121, .isub, 1), (122, .ireturn, 1)])
def MX7_append : xMI := (yX7_append, cX7_append, 2, (some .int), 7, (2, 43), 1, [(0, .iload_n 1, 1), (1, .bipush 32, 2), (3, .if_icmp .lt 9, 12), (6, .iload_n 1, 1), (7, .bipush 126, 2), (9, .if_icmp .le 6, 15), (12, .bipush (-2), 2), (14, .ireturn, 1), (15, .aload_n 0, 1), (16, .getfield 29, 3), (19, .iload_n 1, 1), (20, .i2c, 1), (21, .invokevirtual 92, 3), (24, .ifCond .eq 13, 37), (27, .aload_n 0, 1), (28, .getfield 29, 3), (31, .invokevirtual 96, 3), (34, .goto 5, 39), (37, .bipush (-3), 2), (39, .ireturn, 1)])
def MX7_clearText : xMI := (yX7_clearText, cX7_clearText, 2, (some .int), 7, (1, 20), 0, [(0, .aload_n 0, 1), (1, .getfield 29, 3), (4, .invokevirtual 96, 3), (7, .istore_n 1, 1), (8, .aload_n 0, 1), (9, .getfield 29, 3), (12, .invokevirtual 99, 3), (15, .iload_n 1, 1), (16, .ireturn, 1)])
def MX7_fault : xMI := (yX7_fault, cX7_fault, 1, (some .int), 7, (7, 162), 0, [(0, .aload_n 0, 1), (1, .getfield 29, 3), (4, .invokevirtual 102, 3), (7, .ireturn, 1)])
def MX7_run : xMI := (yX7_run, cX7_run, 4, (some .int), 7, (7, 162), 0, [(0, .aload_n 0, 1), (1, .getfield 29, 3), (4, .invokevirtual 102, 3), (7, .istore_n 1, 1), (8, .iload_n 1, 1), (9, .bipush (-5), 2), (11, .if_icmp .eq 8, 19), (14, .bipush (-100), 2), (16, .iload_n 1, 1), (17, .isub, 1), (18, .ireturn, 1), (19, .aload_n 0, 1), (20, .getfield 22, 3), (23, .aload_n 0, 1), (24, .getfield 12, 3), (27, .invokevirtual 65, 3), (30, .iconst 0, 1), (31, .istore_n 2, 1), (32, .iconst 0, 1), (33, .istore_n 3, 1), (34, .iload_n 3, 1), (35, .bipush 10, 2), (37, .if_icmp .ge 54, 91), (40, .iload_n 3, 1), (41, .aload_n 0, 1), (42, .getfield 29, 3), (45, .invokevirtual 105, 3), (48, .if_icmp .ge 43, 91), (51, .aload_n 0, 1), (52, .aload_n 0, 1), (53, .getfield 29, 3), (56, .iload_n 3, 1), (57, .invokevirtual 108, 3), (60, .aload_n 0, 1), (61, .getfield 29, 3), (64, .iload_n 3, 1), (65, .invokevirtual 112, 3), (68, .aload_n 0, 1), (69, .getfield 29, 3), (72, .iload_n 3, 1), (73, .invokevirtual 116, 3), (76, .invokevirtual 119, 3), (79, .ifCond .eq 6, 85), (82, .iinc 2 1, 3), (85, .iinc 3 1, 3), (88, .goto (-54), 34), (91, .iload_n 2, 1), (92, .ireturn, 1)])
def MX7_undo : xMI := (yX7_undo, cX7_undo, 1, (some .int), 7, (2, 46), 0, [(0, .aload_n 0, 1), (1, .getfield 22, 3), (4, .aload_n 0, 1), (5, .getfield 12, 3), (8, .invokevirtual 123, 3), (11, .ifCond .eq 13, 24), (14, .aload_n 0, 1), (15, .getfield 22, 3), (18, .invokevirtual 127, 3), (21, .goto 5, 26), (24, .bipush (-5), 2), (26, .ireturn, 1)])
def MX7_save : xMI := (yX7_save, cX7_save, 1, (some .int), 7, (2, 41), 0, [(0, .aload_n 0, 1), (1, .getfield 16, 3), (4, .aload_n 0, 1), (5, .getfield 12, 3), (8, .invokevirtual 80, 3), (11, .aload_n 0, 1), (12, .getfield 12, 3), (15, .invokevirtual 128, 3), (18, .aload_n 0, 1), (19, .getfield 12, 3), (22, .invokevirtual 131, 3), (25, .invokevirtual 134, 3), (28, .aload_n 0, 1), (29, .iconst 1, 1), (30, .putfield 138, 3), (33, .aload_n 0, 1), (34, .getfield 12, 3), (37, .invokevirtual 73, 3), (40, .ireturn, 1)])
def MX7_restore : xMI := (yX7_restore, cX7_restore, 1, (some .int), 7, (2, 42), 0, [(0, .aload_n 0, 1), (1, .getfield 138, 3), (4, .ifCond .ne 6, 10), (7, .bipush (-4), 2), (9, .ireturn, 1), (10, .aload_n 0, 1), (11, .getfield 22, 3), (14, .aload_n 0, 1), (15, .getfield 12, 3), (18, .invokevirtual 65, 3), (21, .aload_n 0, 1), (22, .getfield 12, 3), (25, .aload_n 0, 1), (26, .getfield 16, 3), (29, .invokevirtual 80, 3), (32, .aload_n 0, 1), (33, .getfield 16, 3), (36, .invokevirtual 128, 3), (39, .aload_n 0, 1), (40, .getfield 16, 3), (43, .invokevirtual 131, 3), (46, .invokevirtual 134, 3), (49, .aload_n 0, 1), (50, .getfield 12, 3), (53, .invokevirtual 73, 3), (56, .ireturn, 1)])
def MX7_neighbors : xMI := (yX7_neighbors, cX7_neighbors, 2, (some .int), 7, (5, 125), 1, [(0, .iload_n 1, 1), (1, .invokestatic 57, 3), (4, .ifCond .ne 5, 9), (7, .iconst (-1), 1), (8, .ireturn, 1), (9, .aload_n 0, 1), (10, .getfield 36, 3), (13, .aload_n 0, 1), (14, .getfield 12, 3), (17, .invokevirtual 80, 3), (20, .invokevirtual 84, 3), (23, .pop, 1), (24, .aload_n 0, 1), (25, .getfield 36, 3), (28, .iload_n 1, 1), (29, .invokevirtual 142, 3), (32, .ireturn, 1)])
def MX7_count : xMI := (yX7_count, cX7_count, 2, (some .int), 7, (5, 125), 1, [(0, .aload_n 0, 1), (1, .getfield 36, 3), (4, .aload_n 0, 1), (5, .getfield 12, 3), (8, .invokevirtual 80, 3), (11, .invokevirtual 84, 3), (14, .pop, 1), (15, .iload_n 1, 1), (16, .tableswitch 124 0 8 #[52, 60, 68, 76, 84, 92, 100, 108, 116], 52), (68, .aload_n 0, 1), (69, .getfield 12, 3), (72, .invokevirtual 73, 3), (75, .ireturn, 1), (76, .aload_n 0, 1), (77, .getfield 36, 3), (80, .invokevirtual 145, 3), (83, .ireturn, 1), (84, .aload_n 0, 1), (85, .getfield 36, 3), (88, .invokevirtual 148, 3), (91, .ireturn, 1), (92, .aload_n 0, 1), (93, .getfield 36, 3), (96, .invokevirtual 151, 3), (99, .ireturn, 1), (100, .aload_n 0, 1), (101, .getfield 36, 3), (104, .invokevirtual 154, 3), (107, .ireturn, 1), (108, .aload_n 0, 1), (109, .getfield 12, 3), (112, .invokevirtual 128, 3), (115, .ireturn, 1), (116, .aload_n 0, 1), (117, .getfield 12, 3), (120, .invokevirtual 131, 3), (123, .ireturn, 1), (124, .aload_n 0, 1), (125, .getfield 22, 3), (128, .invokevirtual 127, 3), (131, .ireturn, 1), (132, .aload_n 0, 1), (133, .getfield 29, 3), (136, .invokevirtual 96, 3), (139, .ireturn, 1), (140, .bipush (-2), 2), (142, .ireturn, 1)])
def MX7_block : xMI := (yX7_block, cX7_block, 3, (some .int), 7, (5, 125), 2, [(0, .aload_n 0, 1), (1, .getfield 12, 3), (4, .iload_n 1, 1), (5, .iload_n 2, 1), (6, .invokevirtual 61, 3), (9, .ifCond .ne 5, 14), (12, .iconst (-1), 1), (13, .ireturn, 1), (14, .aload_n 0, 1), (15, .getfield 36, 3), (18, .aload_n 0, 1), (19, .getfield 12, 3), (22, .invokevirtual 80, 3), (25, .invokevirtual 84, 3), (28, .pop, 1), (29, .aload_n 0, 1), (30, .getfield 36, 3), (33, .iload_n 1, 1), (34, .iload_n 2, 1), (35, .invokevirtual 157, 3), (38, .ireturn, 1)])
def MX7_blockInfo : xMI := (yX7_blockInfo, cX7_blockInfo, 3, (some .int), 7, (5, 125), 2, [(0, .aload_n 0, 1), (1, .getfield 36, 3), (4, .aload_n 0, 1), (5, .getfield 12, 3), (8, .invokevirtual 80, 3), (11, .invokevirtual 84, 3), (14, .pop, 1), (15, .iload_n 1, 1), (16, .ifCond .lt 14, 30), (19, .iload_n 1, 1), (20, .aload_n 0, 1), (21, .getfield 36, 3), (24, .invokevirtual 148, 3), (27, .if_icmp .lt 5, 32), (30, .iconst (-1), 1), (31, .ireturn, 1), (32, .iload_n 2, 1), (33, .tableswitch 104 0 4 #[35, 44, 53, 70, 95], 35), (68, .aload_n 0, 1), (69, .getfield 36, 3), (72, .iload_n 1, 1), (73, .invokevirtual 161, 3), (76, .ireturn, 1), (77, .aload_n 0, 1), (78, .getfield 36, 3), (81, .iload_n 1, 1), (82, .invokevirtual 164, 3), (85, .ireturn, 1), (86, .aload_n 0, 1), (87, .getfield 36, 3), (90, .iload_n 1, 1), (91, .invokevirtual 167, 3), (94, .ifCond .eq 7, 101), (97, .iconst 1, 1), (98, .goto 4, 102), (101, .iconst 0, 1), (102, .ireturn, 1), (103, .aload_n 0, 1), (104, .getfield 36, 3), (107, .iload_n 1, 1), (108, .invokevirtual 167, 3), (111, .ifCond .eq 14, 125), (114, .aload_n 0, 1), (115, .getfield 36, 3), (118, .iload_n 1, 1), (119, .invokevirtual 170, 3), (122, .goto 5, 127), (125, .bipush (-5), 2), (127, .ireturn, 1), (128, .aload_n 0, 1), (129, .getfield 36, 3), (132, .iload_n 1, 1), (133, .invokevirtual 173, 3), (136, .ireturn, 1), (137, .bipush (-2), 2), (139, .ireturn, 1)])
def MX7_planar : xMI := (yX7_planar, cX7_planar, 1, (some .int), 7, (5, 125), 0, [(0, .aload_n 0, 1), (1, .getfield 36, 3), (4, .aload_n 0, 1), (5, .getfield 12, 3), (8, .invokevirtual 80, 3), (11, .invokevirtual 84, 3), (14, .ifCond .eq 7, 21), (17, .iconst 1, 1), (18, .goto 4, 22), (21, .iconst 0, 1), (22, .ireturn, 1)])
def MX7_next : xMI := (yX7_next, cX7_next, 3, (some .int), 7, (6, 145), 2, [(0, .aload_n 0, 1), (1, .getfield 12, 3), (4, .iload_n 1, 1), (5, .iload_n 2, 1), (6, .invokevirtual 61, 3), (9, .ifCond .ne 5, 14), (12, .iconst (-1), 1), (13, .ireturn, 1), (14, .aload_n 0, 1), (15, .invokevirtual 176, 3), (18, .ifCond .eq 15, 33), (21, .aload_n 0, 1), (22, .getfield 46, 3), (25, .iload_n 1, 1), (26, .iload_n 2, 1), (27, .invokevirtual 180, 3), (30, .goto 5, 35), (33, .bipush (-4), 2), (35, .ireturn, 1)])
def MX7_walks : xMI := (yX7_walks, cX7_walks, 1, (some .int), 7, (6, 145), 0, [(0, .aload_n 0, 1), (1, .invokevirtual 176, 3), (4, .ifCond .eq 13, 17), (7, .aload_n 0, 1), (8, .getfield 46, 3), (11, .invokevirtual 183, 3), (14, .goto 5, 19), (17, .bipush (-4), 2), (19, .ireturn, 1)])
def MX7_walkLength : xMI := (yX7_walkLength, cX7_walkLength, 2, (some .int), 7, (6, 145), 1, [(0, .aload_n 0, 1), (1, .invokevirtual 176, 3), (4, .ifCond .ne 6, 10), (7, .bipush (-4), 2), (9, .ireturn, 1), (10, .aload_n 0, 1), (11, .getfield 46, 3), (14, .iload_n 1, 1), (15, .invokevirtual 184, 3), (18, .ifCond .eq 14, 32), (21, .aload_n 0, 1), (22, .getfield 46, 3), (25, .iload_n 1, 1), (26, .invokevirtual 187, 3), (29, .goto 4, 33), (32, .iconst (-1), 1), (33, .ireturn, 1)])
def MX7_walkVertex : xMI := (yX7_walkVertex, cX7_walkVertex, 3, (some .int), 7, (6, 145), 2, [(0, .aload_n 0, 1), (1, .invokevirtual 176, 3), (4, .ifCond .ne 6, 10), (7, .bipush (-4), 2), (9, .ireturn, 1), (10, .aload_n 0, 1), (11, .getfield 46, 3), (14, .iload_n 1, 1), (15, .invokevirtual 184, 3), (18, .ifCond .eq 19, 37), (21, .iload_n 2, 1), (22, .ifCond .lt 15, 37), (25, .iload_n 2, 1), (26, .aload_n 0, 1), (27, .getfield 46, 3), (30, .iload_n 1, 1), (31, .invokevirtual 187, 3), (34, .if_icmp .lt 5, 39), (37, .iconst (-1), 1), (38, .ireturn, 1), (39, .aload_n 0, 1), (40, .getfield 46, 3), (43, .iload_n 1, 1), (44, .iload_n 2, 1), (45, .invokevirtual 190, 3), (48, .ireturn, 1)])
def MX7_walkOf : xMI := (yX7_walkOf, cX7_walkOf, 3, (some .int), 7, (6, 145), 2, [(0, .aload_n 0, 1), (1, .getfield 12, 3), (4, .iload_n 1, 1), (5, .iload_n 2, 1), (6, .invokevirtual 61, 3), (9, .ifCond .ne 5, 14), (12, .iconst (-1), 1), (13, .ireturn, 1), (14, .aload_n 0, 1), (15, .invokevirtual 176, 3), (18, .ifCond .eq 15, 33), (21, .aload_n 0, 1), (22, .getfield 46, 3), (25, .iload_n 1, 1), (26, .iload_n 2, 1), (27, .invokevirtual 193, 3), (30, .goto 5, 35), (33, .bipush (-4), 2), (35, .ireturn, 1)])
def MX7_forbidden : xMI := (yX7_forbidden, cX7_forbidden, 2, (some .int), 7, (6, 152), 1, [(0, .iload_n 1, 1), (1, .ifCond .lt 8, 9), (4, .iload_n 1, 1), (5, .iconst 3, 1), (6, .if_icmp .le 6, 12), (9, .bipush (-2), 2), (11, .ireturn, 1), (12, .aload_n 0, 1), (13, .getfield 36, 3), (16, .aload_n 0, 1), (17, .getfield 12, 3), (20, .invokevirtual 80, 3), (23, .invokevirtual 84, 3), (26, .ifCond .eq 6, 32), (29, .bipush (-5), 2), (31, .ireturn, 1), (32, .aload_n 0, 1), (33, .getfield 53, 3), (36, .aload_n 0, 1), (37, .getfield 12, 3), (40, .invokevirtual 80, 3), (43, .aload_n 0, 1), (44, .getfield 40, 3), (47, .invokevirtual 196, 3), (50, .iload_n 1, 1), (51, .tableswitch 51 0 2 #[25, 33, 42], 25), (76, .aload_n 0, 1), (77, .getfield 53, 3), (80, .invokevirtual 200, 3), (83, .ireturn, 1), (84, .aload_n 0, 1), (85, .getfield 53, 3), (88, .iconst 0, 1), (89, .invokevirtual 201, 3), (92, .ireturn, 1), (93, .aload_n 0, 1), (94, .getfield 53, 3), (97, .iconst 2, 1), (98, .invokevirtual 201, 3), (101, .ireturn, 1), (102, .aload_n 0, 1), (103, .getfield 53, 3), (106, .iconst 2, 1), (107, .invokevirtual 201, 3), (110, .invokestatic 204, 3), (113, .ireturn, 1)])
def MX7_inForbidden : xMI := (yX7_inForbidden, cX7_inForbidden, 3, (some .int), 7, (6, 152), 2, [(0, .aload_n 0, 1), (1, .getfield 12, 3), (4, .iload_n 1, 1), (5, .iload_n 2, 1), (6, .invokevirtual 61, 3), (9, .ifCond .ne 5, 14), (12, .iconst (-1), 1), (13, .ireturn, 1), (14, .aload_n 0, 1), (15, .getfield 36, 3), (18, .aload_n 0, 1), (19, .getfield 12, 3), (22, .invokevirtual 80, 3), (25, .invokevirtual 84, 3), (28, .ifCond .eq 6, 34), (31, .bipush (-5), 2), (33, .ireturn, 1), (34, .aload_n 0, 1), (35, .getfield 53, 3), (38, .aload_n 0, 1), (39, .getfield 12, 3), (42, .invokevirtual 80, 3), (45, .aload_n 0, 1), (46, .getfield 40, 3), (49, .invokevirtual 196, 3), (52, .aload_n 0, 1), (53, .getfield 53, 3), (56, .iload_n 1, 1), (57, .iload_n 2, 1), (58, .invokevirtual 209, 3), (61, .ifCond .eq 7, 68), (64, .iconst 1, 1), (65, .goto 4, 69), (68, .iconst 0, 1), (69, .ireturn, 1)])
def MX7_ifFlipped : xMI := (yX7_ifFlipped, cX7_ifFlipped, 3, (some .int), 7, (5, 125), 2, [(0, .iload_n 1, 1), (1, .invokestatic 57, 3), (4, .ifCond .eq 10, 14), (7, .iload_n 2, 1), (8, .invokestatic 57, 3), (11, .ifCond .ne 5, 16), (14, .iconst (-1), 1), (15, .ireturn, 1), (16, .iload_n 1, 1), (17, .iload_n 2, 1), (18, .if_icmp .ne 6, 24), (21, .bipush (-2), 2), (23, .ireturn, 1), (24, .aload_n 0, 1), (25, .getfield 40, 3), (28, .aload_n 0, 1), (29, .getfield 12, 3), (32, .invokevirtual 80, 3), (35, .iload_n 1, 1), (36, .iload_n 2, 1), (37, .invokestatic 88, 3), (40, .lxor, 1), (41, .invokevirtual 84, 3), (44, .ifCond .eq 7, 51), (47, .iconst 1, 1), (48, .goto 4, 52), (51, .iconst 0, 1), (52, .ireturn, 1)])
def MX7_joinable : xMI := (yX7_joinable, cX7_joinable, 4, (some .int), 7, (5, 125), 1, [(0, .iload_n 1, 1), (1, .invokestatic 57, 3), (4, .ifCond .ne 5, 9), (7, .iconst (-1), 1), (8, .ireturn, 1), (9, .iconst 0, 1), (10, .istore_n 2, 1), (11, .iconst 0, 1), (12, .istore_n 3, 1), (13, .iload_n 3, 1), (14, .bipush 10, 2), (16, .if_icmp .ge 56, 72), (19, .iload_n 3, 1), (20, .iload_n 1, 1), (21, .if_icmp .eq 45, 66), (24, .aload_n 0, 1), (25, .getfield 12, 3), (28, .iload_n 1, 1), (29, .iload_n 3, 1), (30, .invokevirtual 61, 3), (33, .ifCond .ne 33, 66), (36, .aload_n 0, 1), (37, .getfield 40, 3), (40, .aload_n 0, 1), (41, .getfield 12, 3), (44, .invokevirtual 80, 3), (47, .iload_n 1, 1), (48, .iload_n 3, 1), (49, .invokestatic 88, 3), (52, .lor, 1), (53, .invokevirtual 84, 3), (56, .ifCond .eq 10, 66), (59, .iload_n 2, 1), (60, .iload_n 3, 1), (61, .invokestatic 211, 3), (64, .ior, 1), (65, .istore_n 2, 1), (66, .iinc 3 1, 3), (69, .goto (-56), 13), (72, .iload_n 2, 1), (73, .ireturn, 1)])
def MX7_density : xMI := (yX7_density, cX7_density, 1, (some .double), 7, (2, 41), 0, [(0, .aload_n 0, 1), (1, .getfield 12, 3), (4, .invokevirtual 73, 3), (7, .i2d, 1), (8, .ldc2_w 214, 3), (11, .ddiv, 1), (12, .dreturn, 1)])
def MX7_carryOut : xMI := (yX7_carryOut, cX7_carryOut, 5, (some .boolean), 7, (4, 89), 3, [(0, .aload_n 0, 1), (1, .getfield 12, 3), (4, .iload_n 2, 1), (5, .iload_n 3, 1), (6, .invokevirtual 61, 3), (9, .istore 4, 2), (11, .iload_n 1, 1), (12, .bipush 97, 2), (14, .if_icmp .ne 8, 22), (17, .iload 4, 2), (19, .ifCond .ne 14, 33), (22, .iload_n 1, 1), (23, .bipush 100, 2), (25, .if_icmp .ne 10, 35), (28, .iload 4, 2), (30, .ifCond .ne 5, 35), (33, .iconst 0, 1), (34, .ireturn, 1), (35, .aload_n 0, 1), (36, .getfield 12, 3), (39, .iload_n 2, 1), (40, .iload_n 3, 1), (41, .invokevirtual 69, 3), (44, .iconst 1, 1), (45, .ireturn, 1)])
def MX7_traced : xMI := (yX7_traced, cX7_traced, 1, (some .boolean), 7, (5, 125), 0, [(0, .aload_n 0, 1), (1, .getfield 36, 3), (4, .aload_n 0, 1), (5, .getfield 12, 3), (8, .invokevirtual 80, 3), (11, .invokevirtual 84, 3), (14, .ifCond .ne 5, 19), (17, .iconst 0, 1), (18, .ireturn, 1), (19, .aload_n 0, 1), (20, .getfield 46, 3), (23, .aload_n 0, 1), (24, .getfield 36, 3), (27, .invokevirtual 216, 3), (30, .iconst 1, 1), (31, .ireturn, 1)])
def MX7_isVertex : xMI := (yX7_isVertex, cX7_isVertex, 1, (some .boolean), 7, (0, 0), 1, [(0, .iload_n 0, 1), (1, .ifCond .lt 13, 14), (4, .iload_n 0, 1), (5, .bipush 10, 2), (7, .if_icmp .ge 7, 14), (10, .iconst 1, 1), (11, .goto 4, 15), (14, .iconst 0, 1), (15, .ireturn, 1)])
def MX7_bit : xMI := (yX7_bit, cX7_bit, 1, (some .int), 7, (0, 0), 1, [(0, .iload_n 0, 1), (1, .ifCond .lt 15, 16), (4, .iload_n 0, 1), (5, .bipush 10, 2), (7, .if_icmp .ge 9, 16), (10, .iconst 1, 1), (11, .iload_n 0, 1), (12, .ishl, 1), (13, .goto 4, 17), (16, .iconst 0, 1), (17, .ireturn, 1)])
def MX7_has : xMI := (yX7_has, cX7_has, 2, (some .boolean), 7, (0, 0), 2, [(0, .iload_n 1, 1), (1, .ifCond .lt 21, 22), (4, .iload_n 1, 1), (5, .bipush 10, 2), (7, .if_icmp .ge 15, 22), (10, .iload_n 0, 1), (11, .iload_n 1, 1), (12, .ishr, 1), (13, .iconst 1, 1), (14, .iand, 1), (15, .ifCond .eq 7, 22), (18, .iconst 1, 1), (19, .goto 4, 23), (22, .iconst 0, 1), (23, .ireturn, 1)])
def MX7_least : xMI := (yX7_least, cX7_least, 2, (some .int), 7, (0, 0), 1, [(0, .iconst 0, 1), (1, .istore_n 1, 1), (2, .iload_n 1, 1), (3, .bipush 10, 2), (5, .if_icmp .ge 19, 24), (8, .iload_n 0, 1), (9, .iload_n 1, 1), (10, .ishr, 1), (11, .iconst 1, 1), (12, .iand, 1), (13, .ifCond .eq 5, 18), (16, .iload_n 1, 1), (17, .ireturn, 1), (18, .iinc 1 1, 3), (21, .goto (-19), 2), (24, .iconst (-1), 1), (25, .ireturn, 1)])
def MX7_pairBit : xMI := (yX7_pairBit, cX7_pairBit, 5, (some .long), 7, (1, 21), 2, [(0, .iload_n 0, 1), (1, .iload_n 1, 1), (2, .invokestatic 220, 3), (5, .istore_n 2, 1), (6, .iload_n 0, 1), (7, .iload_n 1, 1), (8, .invokestatic 225, 3), (11, .istore_n 3, 1), (12, .iload_n 2, 1), (13, .ifCond .lt 14, 27), (16, .iload_n 3, 1), (17, .bipush 10, 2), (19, .if_icmp .ge 8, 27), (22, .iload_n 2, 1), (23, .iload_n 3, 1), (24, .if_icmp .ne 5, 29), (27, .lconst 0, 1), (28, .lreturn, 1), (29, .iload_n 2, 1), (30, .bipush 19, 2), (32, .iload_n 2, 1), (33, .isub, 1), (34, .imul, 1), (35, .iconst 2, 1), (36, .idiv, 1), (37, .istore 4, 2), (39, .lconst 1, 1), (40, .iload 4, 2), (42, .iload_n 3, 1), (43, .iadd, 1), (44, .iload_n 2, 1), (45, .isub, 1), (46, .iconst 1, 1), (47, .isub, 1), (48, .lshl, 1), (49, .lreturn, 1)])
def MX7_cell : xMI := (yX7_cell, cX7_cell, 2, (some .int), 7, (0, 0), 2, [(0, .iload_n 0, 1), (1, .bipush 10, 2), (3, .imul, 1), (4, .iload_n 1, 1), (5, .iadd, 1), (6, .ireturn, 1)])
def MX7_at : xMI := (yX7_at, cX7_at, 2, (some .int), 7, (0, 0), 2, [(0, .iload_n 1, 1), (1, .ifCond .lt 15, 16), (4, .iload_n 1, 1), (5, .aload_n 0, 1), (6, .arraylength, 1), (7, .if_icmp .ge 9, 16), (10, .aload_n 0, 1), (11, .iload_n 1, 1), (12, .iaload, 1), (13, .goto 4, 17), (16, .iconst 0, 1), (17, .ireturn, 1)])
def MX7_put : xMI := (yX7_put, cX7_put, 3, none, 7, (0, 0), 3, [(0, .iload_n 1, 1), (1, .ifCond .lt 13, 14), (4, .iload_n 1, 1), (5, .aload_n 0, 1), (6, .arraylength, 1), (7, .if_icmp .ge 7, 14), (10, .aload_n 0, 1), (11, .iload_n 1, 1), (12, .iload_n 2, 1), (13, .iastore, 1), (14, .return_, 1)])
def MX7_around : xMI := (yX7_around, cX7_around, 4, (some .int), 7, (0, 0), 2, [(0, .iconst 0, 1), (1, .istore_n 2, 1), (2, .iconst 0, 1), (3, .istore_n 3, 1), (4, .iload_n 3, 1), (5, .aload_n 0, 1), (6, .arraylength, 1), (7, .if_icmp .ge 23, 30), (10, .iload_n 1, 1), (11, .iload_n 3, 1), (12, .ishr, 1), (13, .iconst 1, 1), (14, .iand, 1), (15, .ifCond .eq 9, 24), (18, .iload_n 2, 1), (19, .aload_n 0, 1), (20, .iload_n 3, 1), (21, .iaload, 1), (22, .ior, 1), (23, .istore_n 2, 1), (24, .iinc 3 1, 3), (27, .goto (-23), 4), (30, .iload_n 2, 1), (31, .ireturn, 1)])
def MX7_reach : xMI := (yX7_reach, cX7_reach, 6, (some .int), 7, (1, 23), 3, [(0, .iload_n 1, 1), (1, .iload_n 2, 1), (2, .iand, 1), (3, .istore_n 3, 1), (4, .iconst 0, 1), (5, .istore 4, 2), (7, .iload 4, 2), (9, .bipush 10, 2), (11, .if_icmp .ge 32, 43), (14, .iload_n 3, 1), (15, .aload_n 0, 1), (16, .iload_n 3, 1), (17, .invokestatic 228, 3), (20, .iload_n 2, 1), (21, .iand, 1), (22, .ior, 1), (23, .istore 5, 2), (25, .iload 5, 2), (27, .iload_n 3, 1), (28, .if_icmp .ne 6, 34), (31, .goto 12, 43), (34, .iload 5, 2), (36, .istore_n 3, 1), (37, .iinc 4 1, 3), (40, .goto (-33), 7), (43, .iload_n 3, 1), (44, .ireturn, 1)])
def MX8_within : xMI := (yX8_within, cX8_within, 3, (some .boolean), 8, (0, 0), 3, [(0, .iload_n 0, 1), (1, .iload_n 1, 1), (2, .if_icmp .lt 12, 14), (5, .iload_n 0, 1), (6, .iload_n 2, 1), (7, .if_icmp .gt 7, 14), (10, .iconst 1, 1), (11, .goto 4, 15), (14, .iconst 0, 1), (15, .ireturn, 1)])
def MX8_isVertex : xMI := (yX8_isVertex, cX8_isVertex, 1, (some .boolean), 8, (1, 22), 1, [(0, .iload_n 0, 1), (1, .iconst 0, 1), (2, .bipush 9, 2), (4, .invokestatic 74, 3), (7, .ireturn, 1)])
def MX8_pair : xMI := (yX8_pair, cX8_pair, 4, (some .int), 8, (0, 0), 2, [(0, .iload_n 0, 1), (1, .iload_n 1, 1), (2, .if_icmp .ge 7, 9), (5, .iload_n 0, 1), (6, .goto 4, 10), (9, .iload_n 1, 1), (10, .istore_n 2, 1), (11, .iload_n 0, 1), (12, .iload_n 1, 1), (13, .if_icmp .ge 7, 20), (16, .iload_n 1, 1), (17, .goto 4, 21), (20, .iload_n 0, 1), (21, .istore_n 3, 1), (22, .iload_n 2, 1), (23, .bipush 19, 2), (25, .iload_n 2, 1), (26, .isub, 1), (27, .imul, 1), (28, .iconst 2, 1), (29, .idiv, 1), (30, .iload_n 3, 1), (31, .iadd, 1), (32, .iload_n 2, 1), (33, .isub, 1), (34, .iconst 1, 1), (35, .isub, 1), (36, .ireturn, 1)])
def MX8_ones : xMI := (yX8_ones, cX8_ones, 3, (some .int), 8, (0, 0), 1, [(0, .iconst 0, 1), (1, .istore_n 1, 1), (2, .iconst 0, 1), (3, .istore_n 2, 1), (4, .iload_n 2, 1), (5, .bipush 10, 2), (7, .if_icmp .ge 17, 24), (10, .iload_n 1, 1), (11, .iload_n 0, 1), (12, .iload_n 2, 1), (13, .ishr, 1), (14, .iconst 1, 1), (15, .iand, 1), (16, .iadd, 1), (17, .istore_n 1, 1), (18, .iinc 2 1, 3), (21, .goto (-17), 4), (24, .iload_n 1, 1), (25, .ireturn, 1)])
def MX8_lowest : xMI := (yX8_lowest, cX8_lowest, 2, (some .int), 8, (0, 0), 1, [(0, .iconst 0, 1), (1, .istore_n 1, 1), (2, .iload_n 0, 1), (3, .iload_n 1, 1), (4, .ishr, 1), (5, .iconst 1, 1), (6, .iand, 1), (7, .ifCond .ne 9, 16), (10, .iinc 1 1, 3), (13, .goto (-11), 2), (16, .iload_n 1, 1), (17, .ireturn, 1)])
def MX8_isEdge : xMI := (yX8_isEdge, cX8_isEdge, 3, (some .boolean), 8, (2, 42), 2, [(0, .iload_n 1, 1), (1, .invokestatic 78, 3), (4, .ifCond .eq 28, 32), (7, .iload_n 2, 1), (8, .invokestatic 78, 3), (11, .ifCond .eq 21, 32), (14, .aload_n 0, 1), (15, .getfield 7, 3), (18, .iload_n 1, 1), (19, .iaload, 1), (20, .iload_n 2, 1), (21, .ishr, 1), (22, .iconst 1, 1), (23, .iand, 1), (24, .iconst 1, 1), (25, .if_icmp .ne 7, 32), (28, .iconst 1, 1), (29, .goto 4, 33), (32, .iconst 0, 1), (33, .ireturn, 1)])
def MX8_edges : xMI := (yX8_edges, cX8_edges, 3, (some .int), 8, (1, 22), 0, [(0, .iconst 0, 1), (1, .istore_n 1, 1), (2, .iconst 0, 1), (3, .istore_n 2, 1), (4, .iload_n 2, 1), (5, .bipush 10, 2), (7, .if_icmp .ge 21, 28), (10, .iload_n 1, 1), (11, .aload_n 0, 1), (12, .getfield 7, 3), (15, .iload_n 2, 1), (16, .iaload, 1), (17, .invokestatic 82, 3), (20, .iadd, 1), (21, .istore_n 1, 1), (22, .iinc 2 1, 3), (25, .goto (-21), 4), (28, .iload_n 1, 1), (29, .iconst 2, 1), (30, .idiv, 1), (31, .ireturn, 1)])
def MX8_record : xMI := (yX8_record, cX8_record, 2, none, 8, (0, 0), 0, [(0, .aload_n 0, 1), (1, .getfield 86, 3), (4, .iconst 5, 1), (5, .if_icmp .ne 42, 47), (8, .iconst 0, 1), (9, .istore_n 1, 1), (10, .iload_n 1, 1), (11, .bipush 48, 2), (13, .if_icmp .ge 24, 37), (16, .aload_n 0, 1), (17, .getfield 13, 3), (20, .iload_n 1, 1), (21, .aload_n 0, 1), (22, .getfield 13, 3), (25, .iload_n 1, 1), (26, .bipush 12, 2), (28, .iadd, 1), (29, .iaload, 1), (30, .iastore, 1), (31, .iinc 1 1, 3), (34, .goto (-24), 10), (37, .aload_n 0, 1), (38, .dup, 1), (39, .getfield 86, 3), (42, .iconst 1, 1), (43, .isub, 1), (44, .putfield 86, 3), (47, .iconst 0, 1), (48, .istore_n 1, 1), (49, .iload_n 1, 1), (50, .bipush 12, 2), (52, .if_icmp .ge 29, 81), (55, .aload_n 0, 1), (56, .getfield 13, 3), (59, .aload_n 0, 1), (60, .getfield 86, 3), (63, .bipush 12, 2), (65, .imul, 1), (66, .iload_n 1, 1), (67, .iadd, 1), (68, .aload_n 0, 1), (69, .getfield 7, 3), (72, .iload_n 1, 1), (73, .iaload, 1), (74, .iastore, 1), (75, .iinc 1 1, 3), (78, .goto (-29), 49), (81, .aload_n 0, 1), (82, .dup, 1), (83, .getfield 86, 3), (86, .iconst 1, 1), (87, .iadd, 1), (88, .putfield 86, 3), (91, .return_, 1)])
def MX8_undo : xMI := (yX8_undo, cX8_undo, 2, (some .int), 8, (0, 0), 0, [(0, .aload_n 0, 1), (1, .getfield 86, 3), (4, .ifCond .ne 6, 10), (7, .bipush (-5), 2), (9, .ireturn, 1), (10, .aload_n 0, 1), (11, .dup, 1), (12, .getfield 86, 3), (15, .iconst 1, 1), (16, .isub, 1), (17, .putfield 86, 3), (20, .iconst 0, 1), (21, .istore_n 1, 1), (22, .iload_n 1, 1), (23, .bipush 12, 2), (25, .if_icmp .ge 29, 54), (28, .aload_n 0, 1), (29, .getfield 7, 3), (32, .iload_n 1, 1), (33, .aload_n 0, 1), (34, .getfield 13, 3), (37, .aload_n 0, 1), (38, .getfield 86, 3), (41, .bipush 12, 2), (43, .imul, 1), (44, .iload_n 1, 1), (45, .iadd, 1), (46, .iaload, 1), (47, .iastore, 1), (48, .iinc 1 1, 3), (51, .goto (-29), 22), (54, .aload_n 0, 1), (55, .getfield 86, 3), (58, .ireturn, 1)])
def MX8_save : xMI := (yX8_save, cX8_save, 2, (some .int), 8, (2, 44), 0, [(0, .iconst 0, 1), (1, .istore_n 1, 1), (2, .iload_n 1, 1), (3, .bipush 12, 2), (5, .if_icmp .ge 21, 26), (8, .aload_n 0, 1), (9, .getfield 16, 3), (12, .iload_n 1, 1), (13, .aload_n 0, 1), (14, .getfield 7, 3), (17, .iload_n 1, 1), (18, .iaload, 1), (19, .iastore, 1), (20, .iinc 1 1, 3), (23, .goto (-21), 2), (26, .aload_n 0, 1), (27, .iconst 1, 1), (28, .putfield 70, 3), (31, .aload_n 0, 1), (32, .invokevirtual 90, 3), (35, .ireturn, 1)])
def MX8_restore : xMI := (yX8_restore, cX8_restore, 2, (some .int), 8, (2, 44), 0, [(0, .aload_n 0, 1), (1, .getfield 70, 3), (4, .ifCond .ne 6, 10), (7, .bipush (-4), 2), (9, .ireturn, 1), (10, .aload_n 0, 1), (11, .invokevirtual 94, 3), (14, .iconst 0, 1), (15, .istore_n 1, 1), (16, .iload_n 1, 1), (17, .bipush 12, 2), (19, .if_icmp .ge 21, 40), (22, .aload_n 0, 1), (23, .getfield 7, 3), (26, .iload_n 1, 1), (27, .aload_n 0, 1), (28, .getfield 16, 3), (31, .iload_n 1, 1), (32, .iaload, 1), (33, .iastore, 1), (34, .iinc 1 1, 3), (37, .goto (-21), 16), (40, .aload_n 0, 1), (41, .invokevirtual 90, 3), (44, .ireturn, 1)])
def MX8_takeGraph : xMI := (yX8_takeGraph, cX8_takeGraph, 2, none, 8, (0, 0), 0, [(0, .iconst 0, 1), (1, .istore_n 1, 1), (2, .iload_n 1, 1), (3, .bipush 10, 2), (5, .if_icmp .ge 21, 26), (8, .aload_n 0, 1), (9, .getfield 22, 3), (12, .iload_n 1, 1), (13, .aload_n 0, 1), (14, .getfield 7, 3), (17, .iload_n 1, 1), (18, .iaload, 1), (19, .iastore, 1), (20, .iinc 1 1, 3), (23, .goto (-21), 2), (26, .return_, 1)])
def MX8_flipInGraph : xMI := (yX8_flipInGraph, cX8_flipInGraph, 3, none, 8, (0, 0), 2, [(0, .aload_n 0, 1), (1, .getfield 22, 3), (4, .iload_n 1, 1), (5, .dup2, 1), (6, .iaload, 1), (7, .iconst 1, 1), (8, .iload_n 2, 1), (9, .ishl, 1), (10, .ixor, 1), (11, .iastore, 1), (12, .aload_n 0, 1), (13, .getfield 22, 3), (16, .iload_n 2, 1), (17, .dup2, 1), (18, .iaload, 1), (19, .iconst 1, 1), (20, .iload_n 1, 1), (21, .ishl, 1), (22, .ixor, 1), (23, .iastore, 1), (24, .return_, 1)])
def MX8_joined : xMI := (yX8_joined, cX8_joined, 7, (some .int), 8, (0, 0), 3, [(0, .iconst 1, 1), (1, .iload_n 1, 1), (2, .ishl, 1), (3, .istore 4, 2), (5, .iconst 0, 1), (6, .istore 5, 2), (8, .iload 4, 2), (10, .iload 5, 2), (12, .if_icmp .eq 65, 77), (15, .iload 4, 2), (17, .istore 5, 2), (19, .iconst 0, 1), (20, .istore 6, 2), (22, .iload 6, 2), (24, .bipush 10, 2), (26, .if_icmp .ge 48, 74), (29, .iload 5, 2), (31, .iload 6, 2), (33, .ishr, 1), (34, .iconst 1, 1), (35, .iand, 1), (36, .iconst 1, 1), (37, .if_icmp .ne 31, 68), (40, .iload 4, 2), (42, .iload_n 3, 1), (43, .ifCond .eq 13, 56), (46, .aload_n 0, 1), (47, .getfield 37, 3), (50, .iload 6, 2), (52, .iaload, 1), (53, .goto 10, 63), (56, .aload_n 0, 1), (57, .getfield 22, 3), (60, .iload 6, 2), (62, .iaload, 1), (63, .iload_n 2, 1), (64, .iand, 1), (65, .ior, 1), (66, .istore 4, 2), (68, .iinc 6 1, 3), (71, .goto (-49), 22), (74, .goto (-66), 8), (77, .iload 4, 2), (79, .ireturn, 1)])
def MX8_joinBlocks : xMI := (yX8_joinBlocks, cX8_joinBlocks, 6, none, 8, (0, 0), 2, [(0, .aload_n 0, 1), (1, .getfield 25, 3), (4, .iload_n 1, 1), (5, .iaload, 1), (6, .aload_n 0, 1), (7, .getfield 25, 3), (10, .iload_n 2, 1), (11, .iaload, 1), (12, .if_icmp .ge 12, 24), (15, .aload_n 0, 1), (16, .getfield 25, 3), (19, .iload_n 1, 1), (20, .iaload, 1), (21, .goto 9, 30), (24, .aload_n 0, 1), (25, .getfield 25, 3), (28, .iload_n 2, 1), (29, .iaload, 1), (30, .istore_n 3, 1), (31, .aload_n 0, 1), (32, .getfield 25, 3), (35, .iload_n 1, 1), (36, .iaload, 1), (37, .aload_n 0, 1), (38, .getfield 25, 3), (41, .iload_n 2, 1), (42, .iaload, 1), (43, .if_icmp .ge 12, 55), (46, .aload_n 0, 1), (47, .getfield 25, 3), (50, .iload_n 2, 1), (51, .iaload, 1), (52, .goto 9, 61), (55, .aload_n 0, 1), (56, .getfield 25, 3), (59, .iload_n 1, 1), (60, .iaload, 1), (61, .istore 4, 2), (63, .iconst 0, 1), (64, .istore 5, 2), (66, .iload 5, 2), (68, .bipush 45, 2), (70, .if_icmp .ge 39, 109), (73, .aload_n 0, 1), (74, .getfield 25, 3), (77, .iload 5, 2), (79, .aload_n 0, 1), (80, .getfield 25, 3), (83, .iload 5, 2), (85, .iaload, 1), (86, .iload 4, 2), (88, .if_icmp .ne 7, 95), (91, .iload_n 3, 1), (92, .goto 10, 102), (95, .aload_n 0, 1), (96, .getfield 25, 3), (99, .iload 5, 2), (101, .iaload, 1), (102, .iastore, 1), (103, .iinc 5 1, 3), (106, .goto (-40), 66), (109, .return_, 1)])
def MX8_joinAround : xMI := (yX8_joinAround, cX8_joinAround, 5, none, 8, (1, 26), 1, [(0, .iconst 0, 1), (1, .istore_n 2, 1), (2, .iload_n 2, 1), (3, .bipush 10, 2), (5, .if_icmp .ge 89, 94), (8, .aload_n 0, 1), (9, .getfield 22, 3), (12, .iload_n 1, 1), (13, .iaload, 1), (14, .iload_n 2, 1), (15, .ishr, 1), (16, .iconst 1, 1), (17, .iand, 1), (18, .iconst 1, 1), (19, .if_icmp .ne 69, 88), (22, .aload_n 0, 1), (23, .iload_n 2, 1), (24, .sipush 1023, 3), (27, .iconst 1, 1), (28, .iload_n 1, 1), (29, .ishl, 1), (30, .iconst (-1), 1), (31, .ixor, 1), (32, .iand, 1), (33, .iconst 0, 1), (34, .invokevirtual 97, 3), (37, .aload_n 0, 1), (38, .getfield 22, 3), (41, .iload_n 1, 1), (42, .iaload, 1), (43, .iand, 1), (44, .istore_n 3, 1), (45, .iload_n 2, 1), (46, .iconst 1, 1), (47, .iadd, 1), (48, .istore 4, 2), (50, .iload 4, 2), (52, .bipush 10, 2), (54, .if_icmp .ge 34, 88), (57, .iload_n 3, 1), (58, .iload 4, 2), (60, .ishr, 1), (61, .iconst 1, 1), (62, .iand, 1), (63, .iconst 1, 1), (64, .if_icmp .ne 18, 82), (67, .aload_n 0, 1), (68, .iload_n 1, 1), (69, .iload_n 2, 1), (70, .invokestatic 101, 3), (73, .iload_n 1, 1), (74, .iload 4, 2), (76, .invokestatic 101, 3), (79, .invokevirtual 105, 3), (82, .iinc 4 1, 3), (85, .goto (-35), 50), (88, .iinc 2 1, 3), (91, .goto (-89), 2), (94, .return_, 1)])
def MX8_findBlocks : xMI := (yX8_findBlocks, cX8_findBlocks, 3, none, 8, (2, 50), 0, [(0, .iconst 0, 1), (1, .istore_n 1, 1), (2, .iload_n 1, 1), (3, .bipush 10, 2), (5, .if_icmp .ge 59, 64), (8, .iload_n 1, 1), (9, .iconst 1, 1), (10, .iadd, 1), (11, .istore_n 2, 1), (12, .iload_n 2, 1), (13, .bipush 10, 2), (15, .if_icmp .ge 43, 58), (18, .aload_n 0, 1), (19, .getfield 25, 3), (22, .iload_n 1, 1), (23, .iload_n 2, 1), (24, .invokestatic 101, 3), (27, .aload_n 0, 1), (28, .getfield 22, 3), (31, .iload_n 1, 1), (32, .iaload, 1), (33, .iload_n 2, 1), (34, .ishr, 1), (35, .iconst 1, 1), (36, .iand, 1), (37, .iconst 1, 1), (38, .if_icmp .ne 11, 49), (41, .iload_n 1, 1), (42, .iload_n 2, 1), (43, .invokestatic 101, 3), (46, .goto 5, 51), (49, .bipush (-5), 2), (51, .iastore, 1), (52, .iinc 2 1, 3), (55, .goto (-43), 12), (58, .iinc 1 1, 3), (61, .goto (-59), 2), (64, .iconst 0, 1), (65, .istore_n 1, 1), (66, .iload_n 1, 1), (67, .bipush 10, 2), (69, .if_icmp .ge 14, 83), (72, .aload_n 0, 1), (73, .iload_n 1, 1), (74, .invokevirtual 109, 3), (77, .iinc 1 1, 3), (80, .goto (-14), 66), (83, .aload_n 0, 1), (84, .iconst 0, 1), (85, .putfield 113, 3), (88, .iconst 0, 1), (89, .istore_n 1, 1), (90, .iload_n 1, 1), (91, .bipush 45, 2), (93, .if_icmp .ge 75, 168), (96, .aload_n 0, 1), (97, .getfield 25, 3), (100, .iload_n 1, 1), (101, .iaload, 1), (102, .iload_n 1, 1), (103, .if_icmp .ne 59, 162), (106, .iload_n 1, 1), (107, .istore_n 2, 1), (108, .iload_n 2, 1), (109, .bipush 45, 2), (111, .if_icmp .ge 41, 152), (114, .aload_n 0, 1), (115, .getfield 25, 3), (118, .iload_n 2, 1), (119, .aload_n 0, 1), (120, .getfield 25, 3), (123, .iload_n 2, 1), (124, .iaload, 1), (125, .iload_n 1, 1), (126, .if_icmp .ne 13, 139), (129, .bipush (-10), 2), (131, .aload_n 0, 1), (132, .getfield 113, 3), (135, .isub, 1), (136, .goto 9, 145), (139, .aload_n 0, 1), (140, .getfield 25, 3), (143, .iload_n 2, 1), (144, .iaload, 1), (145, .iastore, 1), (146, .iinc 2 1, 3), (149, .goto (-41), 108), (152, .aload_n 0, 1), (153, .dup, 1), (154, .getfield 113, 3), (157, .iconst 1, 1), (158, .iadd, 1), (159, .putfield 113, 3), (162, .iinc 1 1, 3), (165, .goto (-75), 90), (168, .iconst 0, 1), (169, .istore_n 1, 1), (170, .iload_n 1, 1), (171, .bipush 45, 2), (173, .if_icmp .ge 40, 213), (176, .aload_n 0, 1), (177, .getfield 25, 3), (180, .iload_n 1, 1), (181, .aload_n 0, 1), (182, .getfield 25, 3), (185, .iload_n 1, 1), (186, .iaload, 1), (187, .bipush (-10), 2), (189, .if_icmp .gt 15, 204), (192, .bipush (-10), 2), (194, .aload_n 0, 1), (195, .getfield 25, 3), (198, .iload_n 1, 1), (199, .iaload, 1), (200, .isub, 1), (201, .goto 5, 206), (204, .bipush (-5), 2), (206, .iastore, 1), (207, .iinc 1 1, 3), (210, .goto (-40), 170), (213, .return_, 1)])
def MX8_isInBlock : xMI := (yX8_isInBlock, cX8_isInBlock, 4, (some .boolean), 8, (1, 23), 3, [(0, .iload_n 1, 1), (1, .iload_n 2, 1), (2, .if_icmp .eq 35, 37), (5, .aload_n 0, 1), (6, .getfield 22, 3), (9, .iload_n 1, 1), (10, .iaload, 1), (11, .iload_n 2, 1), (12, .ishr, 1), (13, .iconst 1, 1), (14, .iand, 1), (15, .iconst 1, 1), (16, .if_icmp .ne 21, 37), (19, .aload_n 0, 1), (20, .getfield 25, 3), (23, .iload_n 1, 1), (24, .iload_n 2, 1), (25, .invokestatic 101, 3), (28, .iaload, 1), (29, .iload_n 3, 1), (30, .if_icmp .ne 7, 37), (33, .iconst 1, 1), (34, .goto 4, 38), (37, .iconst 0, 1), (38, .ireturn, 1)])
def MX8_neighborsIn : xMI := (yX8_neighborsIn, cX8_neighborsIn, 5, (some .int), 8, (2, 46), 2, [(0, .iconst 0, 1), (1, .istore_n 3, 1), (2, .iconst 0, 1), (3, .istore 4, 2), (5, .iload 4, 2), (7, .bipush 10, 2), (9, .if_icmp .ge 31, 40), (12, .iload_n 3, 1), (13, .aload_n 0, 1), (14, .iload_n 1, 1), (15, .iload 4, 2), (17, .iload_n 2, 1), (18, .invokevirtual 116, 3), (21, .ifCond .eq 10, 31), (24, .iconst 1, 1), (25, .iload 4, 2), (27, .ishl, 1), (28, .goto 4, 32), (31, .iconst 0, 1), (32, .ior, 1), (33, .istore_n 3, 1), (34, .iinc 4 1, 3), (37, .goto (-32), 5), (40, .iload_n 3, 1), (41, .ireturn, 1)])
def MX8_addToFace : xMI := (yX8_addToFace, cX8_addToFace, 3, none, 8, (0, 0), 2, [(0, .aload_n 0, 1), (1, .getfield 46, 3), (4, .bipush 10, 2), (6, .iload_n 1, 1), (7, .imul, 1), (8, .aload_n 0, 1), (9, .getfield 43, 3), (12, .iload_n 1, 1), (13, .iaload, 1), (14, .iadd, 1), (15, .iload_n 2, 1), (16, .iastore, 1), (17, .aload_n 0, 1), (18, .getfield 43, 3), (21, .iload_n 1, 1), (22, .dup2, 1), (23, .iaload, 1), (24, .iconst 1, 1), (25, .iadd, 1), (26, .iastore, 1), (27, .return_, 1)])
def MX8_isOnFace : xMI := (yX8_isOnFace, cX8_isOnFace, 5, (some .boolean), 8, (0, 0), 2, [(0, .iconst 0, 1), (1, .istore_n 3, 1), (2, .iconst 0, 1), (3, .istore 4, 2), (5, .iload 4, 2), (7, .aload_n 0, 1), (8, .getfield 43, 3), (11, .iload_n 1, 1), (12, .iaload, 1), (13, .if_icmp .ge 26, 39), (16, .iload_n 3, 1), (17, .iconst 1, 1), (18, .aload_n 0, 1), (19, .getfield 46, 3), (22, .bipush 10, 2), (24, .iload_n 1, 1), (25, .imul, 1), (26, .iload 4, 2), (28, .iadd, 1), (29, .iaload, 1), (30, .ishl, 1), (31, .ior, 1), (32, .istore_n 3, 1), (33, .iinc 4 1, 3), (36, .goto (-31), 5), (39, .iload_n 2, 1), (40, .iload_n 3, 1), (41, .iconst (-1), 1), (42, .ixor, 1), (43, .iand, 1), (44, .ifCond .ne 7, 51), (47, .iconst 1, 1), (48, .goto 4, 52), (51, .iconst 0, 1), (52, .ireturn, 1)])
def MX8_placeEdge : xMI := (yX8_placeEdge, cX8_placeEdge, 3, none, 8, (0, 0), 2, [(0, .aload_n 0, 1), (1, .getfield 40, 3), (4, .iload_n 1, 1), (5, .dup2, 1), (6, .iaload, 1), (7, .iconst 1, 1), (8, .iload_n 2, 1), (9, .ishl, 1), (10, .ior, 1), (11, .iastore, 1), (12, .aload_n 0, 1), (13, .getfield 40, 3), (16, .iload_n 2, 1), (17, .dup2, 1), (18, .iaload, 1), (19, .iconst 1, 1), (20, .iload_n 1, 1), (21, .ishl, 1), (22, .ior, 1), (23, .iastore, 1), (24, .aload_n 0, 1), (25, .dup, 1), (26, .getfield 119, 3), (29, .iconst 1, 1), (30, .iload_n 1, 1), (31, .ishl, 1), (32, .iconst 1, 1), (33, .iload_n 2, 1), (34, .ishl, 1), (35, .ior, 1), (36, .ior, 1), (37, .putfield 119, 3), (40, .aload_n 0, 1), (41, .dup, 1), (42, .getfield 122, 3), (45, .iconst 1, 1), (46, .iadd, 1), (47, .putfield 122, 3), (50, .return_, 1)])
def MX8_layDistances : xMI := (yX8_layDistances, cX8_layDistances, 7, none, 8, (0, 0), 2, [(0, .iconst 0, 1), (1, .istore_n 3, 1), (2, .iload_n 3, 1), (3, .bipush 10, 2), (5, .if_icmp .ge 30, 35), (8, .aload_n 0, 1), (9, .getfield 58, 3), (12, .iload_n 3, 1), (13, .iload_n 1, 1), (14, .iload_n 3, 1), (15, .ishr, 1), (16, .iconst 1, 1), (17, .iand, 1), (18, .iconst 1, 1), (19, .if_icmp .ne 7, 26), (22, .iconst 0, 1), (23, .goto 5, 28), (26, .bipush 99, 2), (28, .iastore, 1), (29, .iinc 3 1, 3), (32, .goto (-30), 2), (35, .iconst 1, 1), (36, .istore_n 3, 1), (37, .iload_n 3, 1), (38, .bipush 10, 2), (40, .if_icmp .gt 130, 170), (43, .iconst 0, 1), (44, .istore 4, 2), (46, .iload 4, 2), (48, .bipush 10, 2), (50, .if_icmp .ge 114, 164), (53, .iconst 0, 1), (54, .istore 5, 2), (56, .iconst 0, 1), (57, .istore 6, 2), (59, .iload 6, 2), (61, .bipush 10, 2), (63, .if_icmp .ge 50, 113), (66, .iload 5, 2), (68, .ifCond .ne 32, 100), (71, .aload_n 0, 1), (72, .getfield 37, 3), (75, .iload 4, 2), (77, .iaload, 1), (78, .iload 6, 2), (80, .ishr, 1), (81, .iconst 1, 1), (82, .iand, 1), (83, .iconst 1, 1), (84, .if_icmp .ne 20, 104), (87, .aload_n 0, 1), (88, .getfield 58, 3), (91, .iload 6, 2), (93, .iaload, 1), (94, .iload_n 3, 1), (95, .iconst 1, 1), (96, .isub, 1), (97, .if_icmp .ne 7, 104), (100, .iconst 1, 1), (101, .goto 4, 105), (104, .iconst 0, 1), (105, .istore 5, 2), (107, .iinc 6 1, 3), (110, .goto (-51), 59), (113, .aload_n 0, 1), (114, .getfield 58, 3), (117, .iload 4, 2), (119, .iload 5, 2), (121, .ifCond .eq 29, 150), (124, .aload_n 0, 1), (125, .getfield 58, 3), (128, .iload 4, 2), (130, .iaload, 1), (131, .bipush 99, 2), (133, .if_icmp .ne 17, 150), (136, .iload_n 2, 1), (137, .iload 4, 2), (139, .ishr, 1), (140, .iconst 1, 1), (141, .iand, 1), (142, .iconst 1, 1), (143, .if_icmp .ne 7, 150), (146, .iload_n 3, 1), (147, .goto 10, 157), (150, .aload_n 0, 1), (151, .getfield 58, 3), (154, .iload 4, 2), (156, .iaload, 1), (157, .iastore, 1), (158, .iinc 4 1, 3), (161, .goto (-115), 46), (164, .iinc 3 1, 3), (167, .goto (-130), 37), (170, .return_, 1)])
def MX8_lowestAt : xMI := (yX8_lowestAt, cX8_lowestAt, 4, (some .int), 8, (0, 0), 2, [(0, .iconst 0, 1), (1, .istore_n 3, 1), (2, .iload_n 1, 1), (3, .iload_n 3, 1), (4, .ishr, 1), (5, .iconst 1, 1), (6, .iand, 1), (7, .ifCond .eq 13, 20), (10, .aload_n 0, 1), (11, .getfield 58, 3), (14, .iload_n 3, 1), (15, .iaload, 1), (16, .iload_n 2, 1), (17, .if_icmp .eq 9, 26), (20, .iinc 3 1, 3), (23, .goto (-21), 2), (26, .iload_n 3, 1), (27, .ireturn, 1)])
def MX8_placeCycle : xMI := (yX8_placeCycle, cX8_placeCycle, 7, none, 8, (1, 26), 1, [(0, .iload_n 1, 1), (1, .invokestatic 125, 3), (4, .istore_n 2, 1), (5, .aload_n 0, 1), (6, .getfield 37, 3), (9, .iload_n 2, 1), (10, .iaload, 1), (11, .invokestatic 125, 3), (14, .istore_n 3, 1), (15, .aload_n 0, 1), (16, .getfield 37, 3), (19, .iload_n 2, 1), (20, .dup2, 1), (21, .iaload, 1), (22, .iconst 1, 1), (23, .iload_n 3, 1), (24, .ishl, 1), (25, .ixor, 1), (26, .iastore, 1), (27, .aload_n 0, 1), (28, .getfield 37, 3), (31, .iload_n 3, 1), (32, .dup2, 1), (33, .iaload, 1), (34, .iconst 1, 1), (35, .iload_n 2, 1), (36, .ishl, 1), (37, .ixor, 1), (38, .iastore, 1), (39, .aload_n 0, 1), (40, .iconst 1, 1), (41, .iload_n 2, 1), (42, .ishl, 1), (43, .iload_n 1, 1), (44, .invokevirtual 128, 3), (47, .aload_n 0, 1), (48, .getfield 43, 3), (51, .iconst 0, 1), (52, .iconst 0, 1), (53, .iastore, 1), (54, .aload_n 0, 1), (55, .getfield 43, 3), (58, .iconst 1, 1), (59, .iconst 0, 1), (60, .iastore, 1), (61, .aload_n 0, 1), (62, .iconst 0, 1), (63, .iload_n 2, 1), (64, .invokevirtual 131, 3), (67, .iload_n 3, 1), (68, .istore 4, 2), (70, .iload 4, 2), (72, .iload_n 2, 1), (73, .if_icmp .eq 35, 108), (76, .aload_n 0, 1), (77, .iconst 0, 1), (78, .iload 4, 2), (80, .invokevirtual 131, 3), (83, .aload_n 0, 1), (84, .aload_n 0, 1), (85, .getfield 37, 3), (88, .iload 4, 2), (90, .iaload, 1), (91, .aload_n 0, 1), (92, .getfield 58, 3), (95, .iload 4, 2), (97, .iaload, 1), (98, .iconst 1, 1), (99, .isub, 1), (100, .invokevirtual 134, 3), (103, .istore 4, 2), (105, .goto (-35), 70), (108, .aload_n 0, 1), (109, .getfield 37, 3), (112, .iload_n 2, 1), (113, .dup2, 1), (114, .iaload, 1), (115, .iconst 1, 1), (116, .iload_n 3, 1), (117, .ishl, 1), (118, .ixor, 1), (119, .iastore, 1), (120, .aload_n 0, 1), (121, .getfield 37, 3), (124, .iload_n 3, 1), (125, .dup2, 1), (126, .iaload, 1), (127, .iconst 1, 1), (128, .iload_n 2, 1), (129, .ishl, 1), (130, .ixor, 1), (131, .iastore, 1), (132, .aload_n 0, 1), (133, .getfield 43, 3), (136, .iconst 0, 1), (137, .iaload, 1), (138, .istore 5, 2), (140, .iconst 0, 1), (141, .istore 6, 2), (143, .iload 6, 2), (145, .iload 5, 2), (147, .if_icmp .ge 49, 196), (150, .aload_n 0, 1), (151, .iconst 1, 1), (152, .aload_n 0, 1), (153, .getfield 46, 3), (156, .iload 5, 2), (158, .iconst 1, 1), (159, .isub, 1), (160, .iload 6, 2), (162, .isub, 1), (163, .iaload, 1), (164, .invokevirtual 131, 3), (167, .aload_n 0, 1), (168, .aload_n 0, 1), (169, .getfield 46, 3), (172, .iload 6, 2), (174, .iaload, 1), (175, .aload_n 0, 1), (176, .getfield 46, 3), (179, .iload 6, 2), (181, .iconst 1, 1), (182, .iadd, 1), (183, .iload 5, 2), (185, .irem, 1), (186, .iaload, 1), (187, .invokevirtual 137, 3), (190, .iinc 6 1, 3), (193, .goto (-50), 143), (196, .aload_n 0, 1), (197, .iconst 2, 1), (198, .putfield 140, 3), (201, .return_, 1)])
def MX8_isFragment : xMI := (yX8_isFragment, cX8_isFragment, 4, (some .boolean), 8, (0, 0), 1, [(0, .iconst 0, 1), (1, .istore_n 2, 1), (2, .iconst 0, 1), (3, .istore_n 3, 1), (4, .iload_n 3, 1), (5, .aload_n 0, 1), (6, .getfield 143, 3), (9, .if_icmp .ge 29, 38), (12, .iload_n 2, 1), (13, .ifCond .ne 13, 26), (16, .aload_n 0, 1), (17, .getfield 49, 3), (20, .iload_n 3, 1), (21, .iaload, 1), (22, .iload_n 1, 1), (23, .if_icmp .ne 7, 30), (26, .iconst 1, 1), (27, .goto 4, 31), (30, .iconst 0, 1), (31, .istore_n 2, 1), (32, .iinc 3 1, 3), (35, .goto (-31), 4), (38, .iload_n 2, 1), (39, .ireturn, 1)])
def MX8_addFragment : xMI := (yX8_addFragment, cX8_addFragment, 3, none, 8, (0, 0), 2, [(0, .aload_n 0, 1), (1, .getfield 49, 3), (4, .aload_n 0, 1), (5, .getfield 143, 3), (8, .iload_n 1, 1), (9, .iastore, 1), (10, .aload_n 0, 1), (11, .getfield 52, 3), (14, .aload_n 0, 1), (15, .getfield 143, 3), (18, .iload_n 2, 1), (19, .iastore, 1), (20, .aload_n 0, 1), (21, .dup, 1), (22, .getfield 143, 3), (25, .iconst 1, 1), (26, .iadd, 1), (27, .putfield 143, 3), (30, .return_, 1)])
def MX8_contactsOf : xMI := (yX8_contactsOf, cX8_contactsOf, 4, (some .int), 8, (0, 0), 1, [(0, .iconst 0, 1), (1, .istore_n 2, 1), (2, .iconst 0, 1), (3, .istore_n 3, 1), (4, .iload_n 3, 1), (5, .bipush 10, 2), (7, .if_icmp .ge 36, 43), (10, .iload_n 2, 1), (11, .iload_n 1, 1), (12, .iload_n 3, 1), (13, .ishr, 1), (14, .iconst 1, 1), (15, .iand, 1), (16, .iconst 1, 1), (17, .if_icmp .ne 17, 34), (20, .aload_n 0, 1), (21, .getfield 37, 3), (24, .iload_n 3, 1), (25, .iaload, 1), (26, .aload_n 0, 1), (27, .getfield 119, 3), (30, .iand, 1), (31, .goto 4, 35), (34, .iconst 0, 1), (35, .ior, 1), (36, .istore_n 2, 1), (37, .iinc 3 1, 3), (40, .goto (-36), 4), (43, .iload_n 2, 1), (44, .ireturn, 1)])
def MX8_findFragments : xMI := (yX8_findFragments, cX8_findFragments, 7, none, 8, (1, 26), 0, [(0, .aload_n 0, 1), (1, .iconst 0, 1), (2, .putfield 143, 3), (5, .iconst 0, 1), (6, .istore_n 1, 1), (7, .iload_n 1, 1), (8, .bipush 10, 2), (10, .if_icmp .ge 172, 182), (13, .iload_n 1, 1), (14, .iconst 1, 1), (15, .iadd, 1), (16, .istore_n 2, 1), (17, .iload_n 2, 1), (18, .bipush 10, 2), (20, .if_icmp .ge 156, 176), (23, .aload_n 0, 1), (24, .getfield 37, 3), (27, .iload_n 1, 1), (28, .iaload, 1), (29, .aload_n 0, 1), (30, .getfield 40, 3), (33, .iload_n 1, 1), (34, .iaload, 1), (35, .iconst (-1), 1), (36, .ixor, 1), (37, .iand, 1), (38, .iconst 1, 1), (39, .iload_n 2, 1), (40, .ishl, 1), (41, .iand, 1), (42, .ifCond .eq 7, 49), (45, .iconst 1, 1), (46, .goto 4, 50), (49, .iconst 0, 1), (50, .istore_n 3, 1), (51, .aload_n 0, 1), (52, .getfield 119, 3), (55, .iload_n 1, 1), (56, .ishr, 1), (57, .iconst 1, 1), (58, .iand, 1), (59, .iconst 1, 1), (60, .if_icmp .ne 7, 67), (63, .iconst 1, 1), (64, .goto 4, 68), (67, .iconst 0, 1), (68, .istore 4, 2), (70, .aload_n 0, 1), (71, .getfield 119, 3), (74, .iload_n 2, 1), (75, .ishr, 1), (76, .iconst 1, 1), (77, .iand, 1), (78, .iconst 1, 1), (79, .if_icmp .ne 7, 86), (82, .iconst 1, 1), (83, .goto 4, 87), (86, .iconst 0, 1), (87, .istore 5, 2), (89, .iload_n 3, 1), (90, .ifCond .eq 28, 118), (93, .iload 4, 2), (95, .ifCond .eq 23, 118), (98, .iload 5, 2), (100, .ifCond .eq 18, 118), (103, .aload_n 0, 1), (104, .iconst 0, 1), (105, .iconst 1, 1), (106, .iload_n 1, 1), (107, .ishl, 1), (108, .iconst 1, 1), (109, .iload_n 2, 1), (110, .ishl, 1), (111, .ior, 1), (112, .invokevirtual 146, 3), (115, .goto 55, 170), (118, .iload_n 3, 1), (119, .ifCond .eq 51, 170), (122, .aload_n 0, 1), (123, .iload 4, 2), (125, .ifCond .eq 7, 132), (128, .iload_n 2, 1), (129, .goto 4, 133), (132, .iload_n 1, 1), (133, .sipush 1023, 3), (136, .aload_n 0, 1), (137, .getfield 119, 3), (140, .iconst (-1), 1), (141, .ixor, 1), (142, .iand, 1), (143, .iconst 1, 1), (144, .invokevirtual 97, 3), (147, .istore 6, 2), (149, .aload_n 0, 1), (150, .iload 6, 2), (152, .invokevirtual 149, 3), (155, .ifCond .ne 15, 170), (158, .aload_n 0, 1), (159, .iload 6, 2), (161, .aload_n 0, 1), (162, .iload 6, 2), (164, .invokevirtual 152, 3), (167, .invokevirtual 146, 3), (170, .iinc 2 1, 3), (173, .goto (-156), 17), (176, .iinc 1 1, 3), (179, .goto (-172), 7), (182, .return_, 1)])
def MX8_fitting : xMI := (yX8_fitting, cX8_fitting, 4, (some .int), 8, (1, 24), 1, [(0, .iconst 0, 1), (1, .istore_n 2, 1), (2, .iconst 0, 1), (3, .istore_n 3, 1), (4, .iload_n 3, 1), (5, .aload_n 0, 1), (6, .getfield 140, 3), (9, .if_icmp .ge 31, 40), (12, .iload_n 2, 1), (13, .aload_n 0, 1), (14, .iload_n 3, 1), (15, .aload_n 0, 1), (16, .getfield 52, 3), (19, .iload_n 1, 1), (20, .iaload, 1), (21, .invokevirtual 155, 3), (24, .ifCond .eq 7, 31), (27, .iconst 1, 1), (28, .goto 4, 32), (31, .iconst 0, 1), (32, .iadd, 1), (33, .istore_n 2, 1), (34, .iinc 3 1, 3), (37, .goto (-33), 4), (40, .iload_n 2, 1), (41, .ireturn, 1)])
def MX8_chooseFragment : xMI := (yX8_chooseFragment, cX8_chooseFragment, 4, (some .int), 8, (2, 47), 0, [(0, .bipush (-5), 2), (2, .istore_n 1, 1), (3, .iconst 0, 1), (4, .istore_n 2, 1), (5, .iload_n 2, 1), (6, .aload_n 0, 1), (7, .getfield 143, 3), (10, .if_icmp .ge 39, 49), (13, .aload_n 0, 1), (14, .iload_n 2, 1), (15, .invokevirtual 159, 3), (18, .istore_n 3, 1), (19, .iload_n 3, 1), (20, .ifCond .ne 6, 26), (23, .bipush (-5), 2), (25, .ireturn, 1), (26, .iload_n 1, 1), (27, .bipush (-5), 2), (29, .if_icmp .ne 12, 41), (32, .iload_n 3, 1), (33, .iconst 1, 1), (34, .if_icmp .ne 7, 41), (37, .iload_n 2, 1), (38, .goto 4, 42), (41, .iload_n 1, 1), (42, .istore_n 1, 1), (43, .iinc 2 1, 3), (46, .goto (-41), 5), (49, .iload_n 1, 1), (50, .bipush (-5), 2), (52, .if_icmp .ne 7, 59), (55, .iconst 0, 1), (56, .goto 4, 60), (59, .iload_n 1, 1), (60, .istore_n 1, 1), (61, .aload_n 0, 1), (62, .iconst 0, 1), (63, .putfield 162, 3), (66, .aload_n 0, 1), (67, .aload_n 0, 1), (68, .getfield 162, 3), (71, .aload_n 0, 1), (72, .getfield 52, 3), (75, .iload_n 1, 1), (76, .iaload, 1), (77, .invokevirtual 155, 3), (80, .ifCond .ne 16, 96), (83, .aload_n 0, 1), (84, .dup, 1), (85, .getfield 162, 3), (88, .iconst 1, 1), (89, .iadd, 1), (90, .putfield 162, 3), (93, .goto (-27), 66), (96, .iload_n 1, 1), (97, .ireturn, 1)])
def MX8_addToPath : xMI := (yX8_addToPath, cX8_addToPath, 2, none, 8, (0, 0), 1, [(0, .aload_n 0, 1), (1, .getfield 55, 3), (4, .aload_n 0, 1), (5, .getfield 165, 3), (8, .iload_n 1, 1), (9, .iastore, 1), (10, .aload_n 0, 1), (11, .dup, 1), (12, .getfield 165, 3), (15, .iconst 1, 1), (16, .iadd, 1), (17, .putfield 165, 3), (20, .return_, 1)])
def MX8_layPath : xMI := (yX8_layPath, cX8_layPath, 9, none, 8, (1, 26), 1, [(0, .aload_n 0, 1), (1, .getfield 49, 3), (4, .iload_n 1, 1), (5, .iaload, 1), (6, .istore_n 2, 1), (7, .aload_n 0, 1), (8, .getfield 52, 3), (11, .iload_n 1, 1), (12, .iaload, 1), (13, .invokestatic 125, 3), (16, .istore_n 3, 1), (17, .aload_n 0, 1), (18, .getfield 52, 3), (21, .iload_n 1, 1), (22, .iaload, 1), (23, .iconst 1, 1), (24, .iload_n 3, 1), (25, .ishl, 1), (26, .ixor, 1), (27, .istore 4, 2), (29, .aload_n 0, 1), (30, .iconst 0, 1), (31, .putfield 165, 3), (34, .aload_n 0, 1), (35, .iload_n 3, 1), (36, .invokevirtual 168, 3), (39, .iload_n 2, 1), (40, .ifCond .ne 13, 53), (43, .aload_n 0, 1), (44, .iload 4, 2), (46, .invokestatic 125, 3), (49, .invokevirtual 168, 3), (52, .return_, 1), (53, .aload_n 0, 1), (54, .iload 4, 2), (56, .iload_n 2, 1), (57, .invokevirtual 128, 3), (60, .bipush 99, 2), (62, .istore 5, 2), (64, .iconst 0, 1), (65, .istore 6, 2), (67, .iload 6, 2), (69, .bipush 10, 2), (71, .if_icmp .ge 63, 134), (74, .aload_n 0, 1), (75, .getfield 37, 3), (78, .iload_n 3, 1), (79, .iaload, 1), (80, .iload_n 2, 1), (81, .iand, 1), (82, .iconst 1, 1), (83, .iload 6, 2), (85, .ishl, 1), (86, .iand, 1), (87, .ifCond .eq 7, 94), (90, .iconst 1, 1), (91, .goto 4, 95), (94, .iconst 0, 1), (95, .istore 7, 2), (97, .iload 7, 2), (99, .ifCond .eq 25, 124), (102, .aload_n 0, 1), (103, .getfield 58, 3), (106, .iload 6, 2), (108, .iaload, 1), (109, .iload 5, 2), (111, .if_icmp .ge 13, 124), (114, .aload_n 0, 1), (115, .getfield 58, 3), (118, .iload 6, 2), (120, .iaload, 1), (121, .goto 5, 126), (124, .iload 5, 2), (126, .istore 5, 2), (128, .iinc 6 1, 3), (131, .goto (-64), 67), (134, .aload_n 0, 1), (135, .getfield 37, 3), (138, .iload_n 3, 1), (139, .iaload, 1), (140, .iload_n 2, 1), (141, .iand, 1), (142, .istore 6, 2), (144, .iload 5, 2), (146, .istore 7, 2), (148, .iload 7, 2), (150, .ifCond .le 55, 205), (153, .aload_n 0, 1), (154, .iload 6, 2), (156, .iload 7, 2), (158, .invokevirtual 134, 3), (161, .istore 8, 2), (163, .aload_n 0, 1), (164, .iload 8, 2), (166, .invokevirtual 168, 3), (169, .iload 7, 2), (171, .iconst 1, 1), (172, .if_icmp .ne 16, 188), (175, .aload_n 0, 1), (176, .getfield 37, 3), (179, .iload 8, 2), (181, .iaload, 1), (182, .iload 4, 2), (184, .iand, 1), (185, .goto 12, 197), (188, .aload_n 0, 1), (189, .getfield 37, 3), (192, .iload 8, 2), (194, .iaload, 1), (195, .iload_n 2, 1), (196, .iand, 1), (197, .istore 6, 2), (199, .iinc 7 (-1), 3), (202, .goto (-54), 148), (205, .aload_n 0, 1), (206, .iload 6, 2), (208, .invokestatic 125, 3), (211, .invokevirtual 168, 3), (214, .return_, 1)])
def MX8_placePath : xMI := (yX8_placePath, cX8_placePath, 7, none, 8, (1, 22), 0, [(0, .aload_n 0, 1), (1, .getfield 55, 3), (4, .iconst 0, 1), (5, .iaload, 1), (6, .istore_n 1, 1), (7, .aload_n 0, 1), (8, .getfield 55, 3), (11, .aload_n 0, 1), (12, .getfield 165, 3), (15, .iconst 1, 1), (16, .isub, 1), (17, .iaload, 1), (18, .istore_n 2, 1), (19, .aload_n 0, 1), (20, .getfield 43, 3), (23, .aload_n 0, 1), (24, .getfield 162, 3), (27, .iaload, 1), (28, .istore_n 3, 1), (29, .iconst 0, 1), (30, .istore 4, 2), (32, .aload_n 0, 1), (33, .getfield 46, 3), (36, .bipush 10, 2), (38, .aload_n 0, 1), (39, .getfield 162, 3), (42, .imul, 1), (43, .iload 4, 2), (45, .iadd, 1), (46, .iaload, 1), (47, .iload_n 1, 1), (48, .if_icmp .eq 9, 57), (51, .iinc 4 1, 3), (54, .goto (-22), 32), (57, .iconst 0, 1), (58, .istore 5, 2), (60, .iload 5, 2), (62, .iload_n 3, 1), (63, .if_icmp .ge 36, 99), (66, .aload_n 0, 1), (67, .getfield 61, 3), (70, .iload 5, 2), (72, .aload_n 0, 1), (73, .getfield 46, 3), (76, .bipush 10, 2), (78, .aload_n 0, 1), (79, .getfield 162, 3), (82, .imul, 1), (83, .iload 4, 2), (85, .iload 5, 2), (87, .iadd, 1), (88, .iload_n 3, 1), (89, .irem, 1), (90, .iadd, 1), (91, .iaload, 1), (92, .iastore, 1), (93, .iinc 5 1, 3), (96, .goto (-36), 60), (99, .aload_n 0, 1), (100, .getfield 43, 3), (103, .aload_n 0, 1), (104, .getfield 162, 3), (107, .iconst 0, 1), (108, .iastore, 1), (109, .aload_n 0, 1), (110, .getfield 43, 3), (113, .aload_n 0, 1), (114, .getfield 140, 3), (117, .iconst 0, 1), (118, .iastore, 1), (119, .iconst 0, 1), (120, .istore 5, 2), (122, .aload_n 0, 1), (123, .getfield 61, 3), (126, .iload 5, 2), (128, .iaload, 1), (129, .iload_n 2, 1), (130, .if_icmp .eq 24, 154), (133, .aload_n 0, 1), (134, .aload_n 0, 1), (135, .getfield 162, 3), (138, .aload_n 0, 1), (139, .getfield 61, 3), (142, .iload 5, 2), (144, .iaload, 1), (145, .invokevirtual 131, 3), (148, .iinc 5 1, 3), (151, .goto (-29), 122), (154, .aload_n 0, 1), (155, .getfield 165, 3), (158, .iconst 1, 1), (159, .isub, 1), (160, .istore 6, 2), (162, .iload 6, 2), (164, .ifCond .le 24, 188), (167, .aload_n 0, 1), (168, .aload_n 0, 1), (169, .getfield 162, 3), (172, .aload_n 0, 1), (173, .getfield 55, 3), (176, .iload 6, 2), (178, .iaload, 1), (179, .invokevirtual 131, 3), (182, .iinc 6 (-1), 3), (185, .goto (-23), 162), (188, .iload 5, 2), (190, .iload_n 3, 1), (191, .if_icmp .ge 24, 215), (194, .aload_n 0, 1), (195, .aload_n 0, 1), (196, .getfield 140, 3), (199, .aload_n 0, 1), (200, .getfield 61, 3), (203, .iload 5, 2), (205, .iaload, 1), (206, .invokevirtual 131, 3), (209, .iinc 5 1, 3), (212, .goto (-24), 188), (215, .iconst 0, 1), (216, .istore 6, 2), (218, .iload 6, 2), (220, .aload_n 0, 1), (221, .getfield 165, 3), (224, .iconst 1, 1), (225, .isub, 1), (226, .if_icmp .ge 44, 270), (229, .aload_n 0, 1), (230, .aload_n 0, 1), (231, .getfield 140, 3), (234, .aload_n 0, 1), (235, .getfield 55, 3), (238, .iload 6, 2), (240, .iaload, 1), (241, .invokevirtual 131, 3), (244, .aload_n 0, 1), (245, .aload_n 0, 1), (246, .getfield 55, 3), (249, .iload 6, 2), (251, .iaload, 1), (252, .aload_n 0, 1), (253, .getfield 55, 3), (256, .iload 6, 2), (258, .iconst 1, 1), (259, .iadd, 1), (260, .iaload, 1), (261, .invokevirtual 137, 3), (264, .iinc 6 1, 3), (267, .goto (-49), 218), (270, .aload_n 0, 1), (271, .dup, 1), (272, .getfield 140, 3), (275, .iconst 1, 1), (276, .iadd, 1), (277, .putfield 140, 3), (280, .return_, 1)])
def MX8_laySuccessors : xMI := (yX8_laySuccessors, cX8_laySuccessors, 5, none, 8, (0, 0), 0, [(0, .iconst 0, 1), (1, .istore_n 1, 1), (2, .iload_n 1, 1), (3, .aload_n 0, 1), (4, .getfield 140, 3), (7, .if_icmp .ge 83, 90), (10, .aload_n 0, 1), (11, .getfield 43, 3), (14, .iload_n 1, 1), (15, .iaload, 1), (16, .istore_n 2, 1), (17, .iconst 0, 1), (18, .istore_n 3, 1), (19, .iload_n 3, 1), (20, .iload_n 2, 1), (21, .if_icmp .ge 63, 84), (24, .aload_n 0, 1), (25, .getfield 46, 3), (28, .bipush 10, 2), (30, .iload_n 1, 1), (31, .imul, 1), (32, .iload_n 3, 1), (33, .iconst 1, 1), (34, .iadd, 1), (35, .iload_n 2, 1), (36, .irem, 1), (37, .iadd, 1), (38, .iaload, 1), (39, .istore 4, 2), (41, .aload_n 0, 1), (42, .getfield 64, 3), (45, .bipush 10, 2), (47, .iload 4, 2), (49, .imul, 1), (50, .aload_n 0, 1), (51, .getfield 46, 3), (54, .bipush 10, 2), (56, .iload_n 1, 1), (57, .imul, 1), (58, .iload_n 3, 1), (59, .iadd, 1), (60, .iaload, 1), (61, .iadd, 1), (62, .aload_n 0, 1), (63, .getfield 46, 3), (66, .bipush 10, 2), (68, .iload_n 1, 1), (69, .imul, 1), (70, .iload_n 3, 1), (71, .iconst 2, 1), (72, .iadd, 1), (73, .iload_n 2, 1), (74, .irem, 1), (75, .iadd, 1), (76, .iaload, 1), (77, .iastore, 1), (78, .iinc 3 1, 3), (81, .goto (-62), 19), (84, .iinc 1 1, 3), (87, .goto (-85), 2), (90, .return_, 1)])
def MX8_embed : xMI := (yX8_embed, cX8_embed, 6, none, 8, (3, 70), 1, [(0, .iconst 0, 1), (1, .istore_n 2, 1), (2, .iconst 0, 1), (3, .istore_n 3, 1), (4, .iconst 0, 1), (5, .istore 4, 2), (7, .iload 4, 2), (9, .bipush 10, 2), (11, .if_icmp .ge 65, 76), (14, .aload_n 0, 1), (15, .getfield 37, 3), (18, .iload 4, 2), (20, .aload_n 0, 1), (21, .iload 4, 2), (23, .iload_n 1, 1), (24, .invokevirtual 171, 3), (27, .iastore, 1), (28, .aload_n 0, 1), (29, .getfield 40, 3), (32, .iload 4, 2), (34, .iconst 0, 1), (35, .iastore, 1), (36, .iload_n 2, 1), (37, .aload_n 0, 1), (38, .getfield 37, 3), (41, .iload 4, 2), (43, .iaload, 1), (44, .ifCond .eq 10, 54), (47, .iconst 1, 1), (48, .iload 4, 2), (50, .ishl, 1), (51, .goto 4, 55), (54, .iconst 0, 1), (55, .ior, 1), (56, .istore_n 2, 1), (57, .iload_n 3, 1), (58, .aload_n 0, 1), (59, .getfield 37, 3), (62, .iload 4, 2), (64, .iaload, 1), (65, .invokestatic 82, 3), (68, .iadd, 1), (69, .istore_n 3, 1), (70, .iinc 4 1, 3), (73, .goto (-66), 7), (76, .iload_n 3, 1), (77, .iconst 2, 1), (78, .idiv, 1), (79, .istore_n 3, 1), (80, .aload_n 0, 1), (81, .iconst 0, 1), (82, .putfield 119, 3), (85, .aload_n 0, 1), (86, .iconst 0, 1), (87, .putfield 122, 3), (90, .iload_n 3, 1), (91, .iconst 1, 1), (92, .if_icmp .ne 64, 156), (95, .iload_n 2, 1), (96, .invokestatic 125, 3), (99, .istore 4, 2), (101, .aload_n 0, 1), (102, .getfield 37, 3), (105, .iload 4, 2), (107, .iaload, 1), (108, .invokestatic 125, 3), (111, .istore 5, 2), (113, .aload_n 0, 1), (114, .getfield 64, 3), (117, .bipush 10, 2), (119, .iload 4, 2), (121, .imul, 1), (122, .iload 5, 2), (124, .iadd, 1), (125, .iload 5, 2), (127, .iastore, 1), (128, .aload_n 0, 1), (129, .getfield 64, 3), (132, .bipush 10, 2), (134, .iload 5, 2), (136, .imul, 1), (137, .iload 4, 2), (139, .iadd, 1), (140, .iload 4, 2), (142, .iastore, 1), (143, .aload_n 0, 1), (144, .iconst 1, 1), (145, .putfield 122, 3), (148, .aload_n 0, 1), (149, .iconst 1, 1), (150, .putfield 140, 3), (153, .goto 70, 223), (156, .aload_n 0, 1), (157, .iload_n 2, 1), (158, .invokevirtual 174, 3), (161, .iconst 1, 1), (162, .istore 4, 2), (164, .iload 4, 2), (166, .ifCond .eq 53, 219), (169, .aload_n 0, 1), (170, .getfield 122, 3), (173, .iload_n 3, 1), (174, .if_icmp .ge 45, 219), (177, .aload_n 0, 1), (178, .invokevirtual 177, 3), (181, .aload_n 0, 1), (182, .invokevirtual 180, 3), (185, .istore 5, 2), (187, .iload 5, 2), (189, .bipush (-5), 2), (191, .if_icmp .eq 7, 198), (194, .iconst 1, 1), (195, .goto 4, 199), (198, .iconst 0, 1), (199, .istore 4, 2), (201, .iload 4, 2), (203, .ifCond .eq 13, 216), (206, .aload_n 0, 1), (207, .iload 5, 2), (209, .invokevirtual 183, 3), (212, .aload_n 0, 1), (213, .invokevirtual 186, 3), (216, .goto (-52), 164), (219, .aload_n 0, 1), (220, .invokevirtual 189, 3), (223, .aload_n 0, 1), (224, .getfield 28, 3), (227, .iload_n 1, 1), (228, .aload_n 0, 1), (229, .getfield 122, 3), (232, .iload_n 3, 1), (233, .if_icmp .ne 7, 240), (236, .iconst 1, 1), (237, .goto 4, 241), (240, .iconst 0, 1), (241, .iastore, 1), (242, .aload_n 0, 1), (243, .getfield 31, 3), (246, .iload_n 1, 1), (247, .aload_n 0, 1), (248, .getfield 122, 3), (251, .iastore, 1), (252, .aload_n 0, 1), (253, .getfield 34, 3), (256, .iload_n 1, 1), (257, .aload_n 0, 1), (258, .getfield 140, 3), (261, .iastore, 1), (262, .return_, 1)])
def MX8_isPlanar : xMI := (yX8_isPlanar, cX8_isPlanar, 3, (some .boolean), 8, (4, 95), 0, [(0, .aload_n 0, 1), (1, .invokevirtual 192, 3), (4, .iconst 1, 1), (5, .istore_n 1, 1), (6, .iconst 0, 1), (7, .istore_n 2, 1), (8, .iload_n 2, 1), (9, .aload_n 0, 1), (10, .getfield 113, 3), (13, .if_icmp .ge 34, 47), (16, .aload_n 0, 1), (17, .iload_n 2, 1), (18, .invokevirtual 195, 3), (21, .iload_n 1, 1), (22, .ifCond .eq 17, 39), (25, .aload_n 0, 1), (26, .getfield 28, 3), (29, .iload_n 2, 1), (30, .iaload, 1), (31, .iconst 1, 1), (32, .if_icmp .ne 7, 39), (35, .iconst 1, 1), (36, .goto 4, 40), (39, .iconst 0, 1), (40, .istore_n 1, 1), (41, .iinc 2 1, 3), (44, .goto (-36), 8), (47, .iload_n 1, 1), (48, .ireturn, 1)])
def MX8_isPlanarNow : xMI := (yX8_isPlanarNow, cX8_isPlanarNow, 1, (some .boolean), 8, (5, 117), 0, [(0, .aload_n 0, 1), (1, .invokevirtual 198, 3), (4, .aload_n 0, 1), (5, .invokevirtual 201, 3), (8, .ireturn, 1)])
def MX8_isPlanarIfFlipped : xMI := (yX8_isPlanarIfFlipped, cX8_isPlanarIfFlipped, 3, (some .boolean), 8, (5, 117), 2, [(0, .aload_n 0, 1), (1, .invokevirtual 198, 3), (4, .aload_n 0, 1), (5, .iload_n 1, 1), (6, .iload_n 2, 1), (7, .invokevirtual 205, 3), (10, .aload_n 0, 1), (11, .invokevirtual 201, 3), (14, .ireturn, 1)])
def MX8_flip : xMI := (yX8_flip, cX8_flip, 4, none, 8, (3, 64), 2, [(0, .aload_n 0, 1), (1, .iload_n 1, 1), (2, .iload_n 2, 1), (3, .invokevirtual 208, 3), (6, .istore_n 3, 1), (7, .aload_n 0, 1), (8, .getfield 7, 3), (11, .iload_n 1, 1), (12, .dup2, 1), (13, .iaload, 1), (14, .iconst 1, 1), (15, .iload_n 2, 1), (16, .ishl, 1), (17, .ixor, 1), (18, .iastore, 1), (19, .aload_n 0, 1), (20, .getfield 7, 3), (23, .iload_n 2, 1), (24, .dup2, 1), (25, .iaload, 1), (26, .iconst 1, 1), (27, .iload_n 1, 1), (28, .ishl, 1), (29, .ixor, 1), (30, .iastore, 1), (31, .aload_n 0, 1), (32, .getfield 7, 3), (35, .bipush 10, 2), (37, .dup2, 1), (38, .iaload, 1), (39, .iload_n 3, 1), (40, .ifCond .eq 7, 47), (43, .iconst 0, 1), (44, .goto 4, 48), (47, .iconst 1, 1), (48, .iadd, 1), (49, .iastore, 1), (50, .aload_n 0, 1), (51, .getfield 7, 3), (54, .bipush 11, 2), (56, .dup2, 1), (57, .iaload, 1), (58, .iload_n 3, 1), (59, .ifCond .eq 7, 66), (62, .iconst 1, 1), (63, .goto 4, 67), (66, .iconst 0, 1), (67, .iadd, 1), (68, .iastore, 1), (69, .return_, 1)])
def MX8_add : xMI := (yX8_add, cX8_add, 3, (some .int), 8, (4, 87), 2, [(0, .iload_n 1, 1), (1, .invokestatic 78, 3), (4, .ifCond .eq 10, 14), (7, .iload_n 2, 1), (8, .invokestatic 78, 3), (11, .ifCond .ne 5, 16), (14, .iconst (-1), 1), (15, .ireturn, 1), (16, .iload_n 1, 1), (17, .iload_n 2, 1), (18, .if_icmp .ne 6, 24), (21, .bipush (-2), 2), (23, .ireturn, 1), (24, .aload_n 0, 1), (25, .iload_n 1, 1), (26, .iload_n 2, 1), (27, .invokevirtual 208, 3), (30, .ifCond .eq 6, 36), (33, .bipush (-4), 2), (35, .ireturn, 1), (36, .aload_n 0, 1), (37, .invokevirtual 94, 3), (40, .aload_n 0, 1), (41, .iload_n 1, 1), (42, .iload_n 2, 1), (43, .invokevirtual 211, 3), (46, .aload_n 0, 1), (47, .invokevirtual 90, 3), (50, .ireturn, 1)])
def MX8_drop : xMI := (yX8_drop, cX8_drop, 3, (some .int), 8, (4, 87), 2, [(0, .aload_n 0, 1), (1, .iload_n 1, 1), (2, .iload_n 2, 1), (3, .invokevirtual 208, 3), (6, .ifCond .ne 5, 11), (9, .iconst (-1), 1), (10, .ireturn, 1), (11, .aload_n 0, 1), (12, .invokevirtual 94, 3), (15, .aload_n 0, 1), (16, .iload_n 1, 1), (17, .iload_n 2, 1), (18, .invokevirtual 211, 3), (21, .aload_n 0, 1), (22, .invokevirtual 90, 3), (25, .ireturn, 1)])
def MX8_clear : xMI := (yX8_clear, cX8_clear, 3, (some .int), 8, (2, 44), 0, [(0, .aload_n 0, 1), (1, .invokevirtual 94, 3), (4, .aload_n 0, 1), (5, .invokevirtual 90, 3), (8, .istore_n 1, 1), (9, .iconst 0, 1), (10, .istore_n 2, 1), (11, .iload_n 2, 1), (12, .bipush 10, 2), (14, .if_icmp .ge 16, 30), (17, .aload_n 0, 1), (18, .getfield 7, 3), (21, .iload_n 2, 1), (22, .iconst 0, 1), (23, .iastore, 1), (24, .iinc 2 1, 3), (27, .goto (-16), 11), (30, .aload_n 0, 1), (31, .getfield 7, 3), (34, .bipush 11, 2), (36, .dup2, 1), (37, .iaload, 1), (38, .iload_n 1, 1), (39, .iadd, 1), (40, .iastore, 1), (41, .iload_n 1, 1), (42, .ireturn, 1)])
def MX8_complete : xMI := (yX8_complete, cX8_complete, 4, (some .int), 8, (6, 139), 0, [(0, .aload_n 0, 1), (1, .invokevirtual 214, 3), (4, .ifCond .ne 6, 10), (7, .bipush (-4), 2), (9, .ireturn, 1), (10, .aload_n 0, 1), (11, .invokevirtual 94, 3), (14, .iconst 0, 1), (15, .istore_n 1, 1), (16, .iconst 0, 1), (17, .istore_n 2, 1), (18, .iload_n 2, 1), (19, .bipush 10, 2), (21, .if_icmp .ge 52, 73), (24, .iload_n 2, 1), (25, .iconst 1, 1), (26, .iadd, 1), (27, .istore_n 3, 1), (28, .iload_n 3, 1), (29, .bipush 10, 2), (31, .if_icmp .ge 36, 67), (34, .aload_n 0, 1), (35, .iload_n 2, 1), (36, .iload_n 3, 1), (37, .invokevirtual 208, 3), (40, .ifCond .ne 21, 61), (43, .aload_n 0, 1), (44, .iload_n 2, 1), (45, .iload_n 3, 1), (46, .invokevirtual 217, 3), (49, .ifCond .eq 12, 61), (52, .aload_n 0, 1), (53, .iload_n 2, 1), (54, .iload_n 3, 1), (55, .invokevirtual 211, 3), (58, .iinc 1 1, 3), (61, .iinc 3 1, 3), (64, .goto (-36), 28), (67, .iinc 2 1, 3), (70, .goto (-52), 18), (73, .iload_n 1, 1), (74, .ireturn, 1)])
def MX8_append : xMI := (yX8_append, cX8_append, 2, (some .int), 8, (1, 22), 1, [(0, .iload_n 1, 1), (1, .bipush 32, 2), (3, .bipush 126, 2), (5, .invokestatic 74, 3), (8, .ifCond .ne 6, 14), (11, .bipush (-2), 2), (13, .ireturn, 1), (14, .aload_n 0, 1), (15, .getfield 220, 3), (18, .bipush 80, 2), (20, .if_icmp .ne 6, 26), (23, .bipush (-3), 2), (25, .ireturn, 1), (26, .aload_n 0, 1), (27, .getfield 19, 3), (30, .aload_n 0, 1), (31, .getfield 220, 3), (34, .iload_n 1, 1), (35, .iastore, 1), (36, .aload_n 0, 1), (37, .dup, 1), (38, .getfield 220, 3), (41, .iconst 1, 1), (42, .iadd, 1), (43, .putfield 220, 3), (46, .aload_n 0, 1), (47, .getfield 220, 3), (50, .ireturn, 1)])
def MX8_clearText : xMI := (yX8_clearText, cX8_clearText, 2, (some .int), 8, (0, 0), 0, [(0, .aload_n 0, 1), (1, .getfield 220, 3), (4, .istore_n 1, 1), (5, .aload_n 0, 1), (6, .iconst 0, 1), (7, .putfield 220, 3), (10, .iload_n 1, 1), (11, .ireturn, 1)])
def MX8_nextCharacter : xMI := (yX8_nextCharacter, cX8_nextCharacter, 1, (some .int), 8, (0, 0), 0, [(0, .aload_n 0, 1), (1, .getfield 223, 3), (4, .aload_n 0, 1), (5, .getfield 220, 3), (8, .if_icmp .ge 15, 23), (11, .aload_n 0, 1), (12, .getfield 19, 3), (15, .aload_n 0, 1), (16, .getfield 223, 3), (19, .iaload, 1), (20, .goto 4, 24), (23, .iconst 0, 1), (24, .ireturn, 1)])
def MX8_takes : xMI := (yX8_takes, cX8_takes, 3, (some .boolean), 8, (1, 20), 1, [(0, .aload_n 0, 1), (1, .invokevirtual 226, 3), (4, .iload_n 1, 1), (5, .if_icmp .ne 7, 12), (8, .iconst 1, 1), (9, .goto 4, 13), (12, .iconst 0, 1), (13, .istore_n 2, 1), (14, .aload_n 0, 1), (15, .dup, 1), (16, .getfield 223, 3), (19, .iload_n 2, 1), (20, .ifCond .eq 7, 27), (23, .iconst 1, 1), (24, .goto 4, 28), (27, .iconst 0, 1), (28, .iadd, 1), (29, .putfield 223, 3), (32, .iload_n 2, 1), (33, .ireturn, 1)])
def MX8_readsWord : xMI := (yX8_readsWord, cX8_readsWord, 1, (some .boolean), 8, (2, 42), 0, [(0, .aload_n 0, 1), (1, .aload_n 0, 1), (2, .invokevirtual 226, 3), (5, .putfield 229, 3), (8, .aload_n 0, 1), (9, .getfield 229, 3), (12, .lookupswitch 153 #[(97, 36), (100, 69), (102, 111)], 36), (48, .aload_n 0, 1), (49, .bipush 97, 2), (51, .invokevirtual 232, 3), (54, .ifCond .eq 25, 79), (57, .aload_n 0, 1), (58, .bipush 100, 2), (60, .invokevirtual 232, 3), (63, .ifCond .eq 16, 79), (66, .aload_n 0, 1), (67, .bipush 100, 2), (69, .invokevirtual 232, 3), (72, .ifCond .eq 7, 79), (75, .iconst 1, 1), (76, .goto 4, 80), (79, .iconst 0, 1), (80, .ireturn, 1), (81, .aload_n 0, 1), (82, .bipush 100, 2), (84, .invokevirtual 232, 3), (87, .ifCond .eq 34, 121), (90, .aload_n 0, 1), (91, .bipush 114, 2), (93, .invokevirtual 232, 3), (96, .ifCond .eq 25, 121), (99, .aload_n 0, 1), (100, .bipush 111, 2), (102, .invokevirtual 232, 3), (105, .ifCond .eq 16, 121), (108, .aload_n 0, 1), (109, .bipush 112, 2), (111, .invokevirtual 232, 3), (114, .ifCond .eq 7, 121), (117, .iconst 1, 1), (118, .goto 4, 122), (121, .iconst 0, 1), (122, .ireturn, 1), (123, .aload_n 0, 1), (124, .bipush 102, 2), (126, .invokevirtual 232, 3), (129, .ifCond .eq 34, 163), (132, .aload_n 0, 1), (133, .bipush 108, 2), (135, .invokevirtual 232, 3), (138, .ifCond .eq 25, 163), (141, .aload_n 0, 1), (142, .bipush 105, 2), (144, .invokevirtual 232, 3), (147, .ifCond .eq 16, 163), (150, .aload_n 0, 1), (151, .bipush 112, 2), (153, .invokevirtual 232, 3), (156, .ifCond .eq 7, 163), (159, .iconst 1, 1), (160, .goto 4, 164), (163, .iconst 0, 1), (164, .ireturn, 1), (165, .iconst 0, 1), (166, .ireturn, 1)])
def MX8_readsEdit : xMI := (yX8_readsEdit, cX8_readsEdit, 1, (some .boolean), 8, (3, 62), 0, [(0, .aload_n 0, 1), (1, .invokevirtual 235, 3), (4, .ifCond .eq 26, 30), (7, .aload_n 0, 1), (8, .bipush 32, 2), (10, .invokevirtual 232, 3), (13, .ifCond .eq 17, 30), (16, .aload_n 0, 1), (17, .invokevirtual 226, 3), (20, .bipush 48, 2), (22, .bipush 57, 2), (24, .invokestatic 74, 3), (27, .ifCond .ne 5, 32), (30, .iconst 0, 1), (31, .ireturn, 1), (32, .aload_n 0, 1), (33, .aload_n 0, 1), (34, .invokevirtual 226, 3), (37, .bipush 48, 2), (39, .isub, 1), (40, .putfield 238, 3), (43, .aload_n 0, 1), (44, .dup, 1), (45, .getfield 223, 3), (48, .iconst 1, 1), (49, .iadd, 1), (50, .putfield 223, 3), (53, .aload_n 0, 1), (54, .bipush 45, 2), (56, .invokevirtual 232, 3), (59, .ifCond .eq 31, 90), (62, .aload_n 0, 1), (63, .invokevirtual 226, 3), (66, .bipush 48, 2), (68, .bipush 57, 2), (70, .invokestatic 74, 3), (73, .ifCond .eq 17, 90), (76, .aload_n 0, 1), (77, .invokevirtual 226, 3), (80, .bipush 48, 2), (82, .isub, 1), (83, .aload_n 0, 1), (84, .getfield 238, 3), (87, .if_icmp .ne 5, 92), (90, .iconst 0, 1), (91, .ireturn, 1), (92, .aload_n 0, 1), (93, .aload_n 0, 1), (94, .invokevirtual 226, 3), (97, .bipush 48, 2), (99, .isub, 1), (100, .putfield 241, 3), (103, .aload_n 0, 1), (104, .dup, 1), (105, .getfield 223, 3), (108, .iconst 1, 1), (109, .iadd, 1), (110, .putfield 223, 3), (113, .iconst 1, 1), (114, .ireturn, 1)])
def MX8_findFault : xMI := (yX8_findFault, cX8_findFault, 1, (some .int), 8, (4, 82), 0, [(0, .aload_n 0, 1), (1, .iconst 0, 1), (2, .putfield 223, 3), (5, .aload_n 0, 1), (6, .invokevirtual 244, 3), (9, .ifCond .eq 31, 40), (12, .aload_n 0, 1), (13, .getfield 223, 3), (16, .aload_n 0, 1), (17, .getfield 220, 3), (20, .if_icmp .ne 6, 26), (23, .bipush (-5), 2), (25, .ireturn, 1), (26, .aload_n 0, 1), (27, .bipush 59, 2), (29, .invokevirtual 232, 3), (32, .ifCond .ne (-27), 5), (35, .aload_n 0, 1), (36, .getfield 223, 3), (39, .ireturn, 1), (40, .aload_n 0, 1), (41, .getfield 223, 3), (44, .ireturn, 1)])
def MX8_fault : xMI := (yX8_fault, cX8_fault, 1, (some .int), 8, (5, 102), 0, [(0, .aload_n 0, 1), (1, .invokevirtual 247, 3), (4, .ireturn, 1)])
def MX8_run : xMI := (yX8_run, cX8_run, 6, (some .int), 8, (5, 102), 0, [(0, .aload_n 0, 1), (1, .invokevirtual 247, 3), (4, .istore_n 1, 1), (5, .iload_n 1, 1), (6, .bipush (-5), 2), (8, .if_icmp .eq 8, 16), (11, .bipush (-100), 2), (13, .iload_n 1, 1), (14, .isub, 1), (15, .ireturn, 1), (16, .aload_n 0, 1), (17, .invokevirtual 94, 3), (20, .iconst 0, 1), (21, .istore_n 2, 1), (22, .aload_n 0, 1), (23, .iconst 0, 1), (24, .putfield 223, 3), (27, .aload_n 0, 1), (28, .getfield 223, 3), (31, .aload_n 0, 1), (32, .getfield 220, 3), (35, .if_icmp .ge 94, 129), (38, .aload_n 0, 1), (39, .invokevirtual 244, 3), (42, .istore_n 3, 1), (43, .aload_n 0, 1), (44, .aload_n 0, 1), (45, .getfield 238, 3), (48, .aload_n 0, 1), (49, .getfield 241, 3), (52, .invokevirtual 208, 3), (55, .istore 4, 2), (57, .iload_n 3, 1), (58, .ifCond .eq 35, 93), (61, .aload_n 0, 1), (62, .getfield 229, 3), (65, .bipush 102, 2), (67, .if_icmp .eq 22, 89), (70, .aload_n 0, 1), (71, .getfield 229, 3), (74, .bipush 100, 2), (76, .if_icmp .ne 7, 83), (79, .iconst 1, 1), (80, .goto 4, 84), (83, .iconst 0, 1), (84, .iload 4, 2), (86, .if_icmp .ne 7, 93), (89, .iconst 1, 1), (90, .goto 4, 94), (93, .iconst 0, 1), (94, .istore 5, 2), (96, .iload 5, 2), (98, .ifCond .eq 18, 116), (101, .aload_n 0, 1), (102, .aload_n 0, 1), (103, .getfield 238, 3), (106, .aload_n 0, 1), (107, .getfield 241, 3), (110, .invokevirtual 211, 3), (113, .iinc 2 1, 3), (116, .aload_n 0, 1), (117, .dup, 1), (118, .getfield 223, 3), (121, .iconst 1, 1), (122, .iadd, 1), (123, .putfield 223, 3), (126, .goto (-99), 27), (129, .iload_n 2, 1), (130, .ireturn, 1)])
def MX8_neighbors : xMI := (yX8_neighbors, cX8_neighbors, 2, (some .int), 8, (2, 42), 1, [(0, .iload_n 1, 1), (1, .invokestatic 78, 3), (4, .ifCond .eq 12, 16), (7, .aload_n 0, 1), (8, .getfield 7, 3), (11, .iload_n 1, 1), (12, .iaload, 1), (13, .goto 4, 17), (16, .iconst (-1), 1), (17, .ireturn, 1)])
def MX8_components : xMI := (yX8_components, cX8_components, 3, (some .int), 8, (1, 26), 0, [(0, .aload_n 0, 1), (1, .invokevirtual 198, 3), (4, .iconst 0, 1), (5, .istore_n 1, 1), (6, .iconst 0, 1), (7, .istore_n 2, 1), (8, .iload_n 2, 1), (9, .bipush 10, 2), (11, .if_icmp .ge 33, 44), (14, .iload_n 1, 1), (15, .aload_n 0, 1), (16, .iload_n 2, 1), (17, .sipush 1023, 3), (20, .iconst 0, 1), (21, .invokevirtual 97, 3), (24, .invokestatic 125, 3), (27, .iload_n 2, 1), (28, .if_icmp .ne 7, 35), (31, .iconst 1, 1), (32, .goto 4, 36), (35, .iconst 0, 1), (36, .iadd, 1), (37, .istore_n 1, 1), (38, .iinc 2 1, 3), (41, .goto (-33), 8), (44, .iload_n 1, 1), (45, .ireturn, 1)])
def MX8_blocksNow : xMI := (yX8_blocksNow, cX8_blocksNow, 1, (some .int), 8, (3, 72), 0, [(0, .aload_n 0, 1), (1, .invokevirtual 198, 3), (4, .aload_n 0, 1), (5, .invokevirtual 192, 3), (8, .aload_n 0, 1), (9, .getfield 113, 3), (12, .ireturn, 1)])
def MX8_cutVertices : xMI := (yX8_cutVertices, cX8_cutVertices, 6, (some .int), 8, (4, 92), 0, [(0, .aload_n 0, 1), (1, .invokevirtual 250, 3), (4, .istore_n 1, 1), (5, .iconst 0, 1), (6, .istore_n 2, 1), (7, .iconst 0, 1), (8, .istore_n 3, 1), (9, .iload_n 3, 1), (10, .bipush 10, 2), (12, .if_icmp .ge 61, 73), (15, .iconst 0, 1), (16, .istore 4, 2), (18, .iconst 0, 1), (19, .istore 5, 2), (21, .iload 5, 2), (23, .iload_n 1, 1), (24, .if_icmp .ge 29, 53), (27, .iload 4, 2), (29, .aload_n 0, 1), (30, .iload_n 3, 1), (31, .iload 5, 2), (33, .invokevirtual 171, 3), (36, .ifCond .eq 7, 43), (39, .iconst 1, 1), (40, .goto 4, 44), (43, .iconst 0, 1), (44, .iadd, 1), (45, .istore 4, 2), (47, .iinc 5 1, 3), (50, .goto (-29), 21), (53, .iload_n 2, 1), (54, .iload 4, 2), (56, .iconst 1, 1), (57, .if_icmp .le 7, 64), (60, .iconst 1, 1), (61, .goto 4, 65), (64, .iconst 0, 1), (65, .iadd, 1), (66, .istore_n 2, 1), (67, .iinc 3 1, 3), (70, .goto (-61), 9), (73, .iload_n 2, 1), (74, .ireturn, 1)])
def MX8_edgesOf : xMI := (yX8_edgesOf, cX8_edgesOf, 4, (some .int), 8, (0, 0), 1, [(0, .iconst 0, 1), (1, .istore_n 2, 1), (2, .iconst 0, 1), (3, .istore_n 3, 1), (4, .iload_n 3, 1), (5, .bipush 45, 2), (7, .if_icmp .ge 27, 34), (10, .iload_n 2, 1), (11, .aload_n 0, 1), (12, .getfield 25, 3), (15, .iload_n 3, 1), (16, .iaload, 1), (17, .iload_n 1, 1), (18, .if_icmp .ne 7, 25), (21, .iconst 1, 1), (22, .goto 4, 26), (25, .iconst 0, 1), (26, .iadd, 1), (27, .istore_n 2, 1), (28, .iinc 3 1, 3), (31, .goto (-27), 4), (34, .iload_n 2, 1), (35, .ireturn, 1)])
def MX8_bridges : xMI := (yX8_bridges, cX8_bridges, 4, (some .int), 8, (4, 92), 0, [(0, .aload_n 0, 1), (1, .invokevirtual 250, 3), (4, .istore_n 1, 1), (5, .iconst 0, 1), (6, .istore_n 2, 1), (7, .iconst 0, 1), (8, .istore_n 3, 1), (9, .iload_n 3, 1), (10, .iload_n 1, 1), (11, .if_icmp .ge 26, 37), (14, .iload_n 2, 1), (15, .aload_n 0, 1), (16, .iload_n 3, 1), (17, .invokevirtual 253, 3), (20, .iconst 1, 1), (21, .if_icmp .ne 7, 28), (24, .iconst 1, 1), (25, .goto 4, 29), (28, .iconst 0, 1), (29, .iadd, 1), (30, .istore_n 2, 1), (31, .iinc 3 1, 3), (34, .goto (-25), 9), (37, .iload_n 2, 1), (38, .ireturn, 1)])
def MX8_count : xMI := (yX8_count, cX8_count, 2, (some .int), 8, (5, 117), 1, [(0, .iload_n 1, 1), (1, .tableswitch 102 0 8 #[51, 56, 61, 66, 71, 76, 84, 92, 97], 51), (52, .aload_n 0, 1), (53, .invokevirtual 90, 3), (56, .ireturn, 1), (57, .aload_n 0, 1), (58, .invokevirtual 256, 3), (61, .ireturn, 1), (62, .aload_n 0, 1), (63, .invokevirtual 250, 3), (66, .ireturn, 1), (67, .aload_n 0, 1), (68, .invokevirtual 259, 3), (71, .ireturn, 1), (72, .aload_n 0, 1), (73, .invokevirtual 262, 3), (76, .ireturn, 1), (77, .aload_n 0, 1), (78, .getfield 7, 3), (81, .bipush 10, 2), (83, .iaload, 1), (84, .ireturn, 1), (85, .aload_n 0, 1), (86, .getfield 7, 3), (89, .bipush 11, 2), (91, .iaload, 1), (92, .ireturn, 1), (93, .aload_n 0, 1), (94, .getfield 86, 3), (97, .ireturn, 1), (98, .aload_n 0, 1), (99, .getfield 220, 3), (102, .ireturn, 1), (103, .bipush (-2), 2), (105, .ireturn, 1)])
def MX8_block : xMI := (yX8_block, cX8_block, 4, (some .int), 8, (4, 92), 2, [(0, .aload_n 0, 1), (1, .iload_n 1, 1), (2, .iload_n 2, 1), (3, .invokevirtual 208, 3), (6, .ifCond .ne 5, 11), (9, .iconst (-1), 1), (10, .ireturn, 1), (11, .aload_n 0, 1), (12, .invokevirtual 250, 3), (15, .istore_n 3, 1), (16, .iload_n 3, 1), (17, .ifCond .le 16, 33), (20, .aload_n 0, 1), (21, .getfield 25, 3), (24, .iload_n 1, 1), (25, .iload_n 2, 1), (26, .invokestatic 101, 3), (29, .iaload, 1), (30, .goto 4, 34), (33, .iconst (-1), 1), (34, .ireturn, 1)])
def MX8_verticesOf : xMI := (yX8_verticesOf, cX8_verticesOf, 4, (some .int), 8, (3, 70), 1, [(0, .iconst 0, 1), (1, .istore_n 2, 1), (2, .iconst 0, 1), (3, .istore_n 3, 1), (4, .iload_n 3, 1), (5, .bipush 10, 2), (7, .if_icmp .ge 28, 35), (10, .iload_n 2, 1), (11, .aload_n 0, 1), (12, .iload_n 3, 1), (13, .iload_n 1, 1), (14, .invokevirtual 171, 3), (17, .ifCond .eq 9, 26), (20, .iconst 1, 1), (21, .iload_n 3, 1), (22, .ishl, 1), (23, .goto 4, 27), (26, .iconst 0, 1), (27, .ior, 1), (28, .istore_n 2, 1), (29, .iinc 3 1, 3), (32, .goto (-28), 4), (35, .iload_n 2, 1), (36, .ireturn, 1)])
def MX8_blockInfo : xMI := (yX8_blockInfo, cX8_blockInfo, 3, (some .int), 8, (4, 95), 2, [(0, .iload_n 1, 1), (1, .iconst 0, 1), (2, .aload_n 0, 1), (3, .invokevirtual 250, 3), (6, .iconst 1, 1), (7, .isub, 1), (8, .invokestatic 74, 3), (11, .ifCond .ne 5, 16), (14, .iconst (-1), 1), (15, .ireturn, 1), (16, .aload_n 0, 1), (17, .iload_n 1, 1), (18, .invokevirtual 195, 3), (21, .iload_n 2, 1), (22, .tableswitch 82 0 4 #[34, 40, 46, 53, 75], 34), (56, .aload_n 0, 1), (57, .iload_n 1, 1), (58, .invokevirtual 265, 3), (61, .ireturn, 1), (62, .aload_n 0, 1), (63, .iload_n 1, 1), (64, .invokevirtual 253, 3), (67, .ireturn, 1), (68, .aload_n 0, 1), (69, .getfield 28, 3), (72, .iload_n 1, 1), (73, .iaload, 1), (74, .ireturn, 1), (75, .aload_n 0, 1), (76, .getfield 28, 3), (79, .iload_n 1, 1), (80, .iaload, 1), (81, .iconst 1, 1), (82, .if_icmp .ne 12, 94), (85, .aload_n 0, 1), (86, .getfield 34, 3), (89, .iload_n 1, 1), (90, .iaload, 1), (91, .goto 5, 96), (94, .bipush (-5), 2), (96, .ireturn, 1), (97, .aload_n 0, 1), (98, .getfield 31, 3), (101, .iload_n 1, 1), (102, .iaload, 1), (103, .ireturn, 1), (104, .bipush (-2), 2), (106, .ireturn, 1)])
def MX8_planar : xMI := (yX8_planar, cX8_planar, 1, (some .int), 8, (6, 137), 0, [(0, .aload_n 0, 1), (1, .invokevirtual 214, 3), (4, .ifCond .eq 7, 11), (7, .iconst 1, 1), (8, .goto 4, 12), (11, .iconst 0, 1), (12, .ireturn, 1)])
def MX8_behind : xMI := (yX8_behind, cX8_behind, 6, (some .int), 8, (3, 70), 2, [(0, .aload_n 0, 1), (1, .getfield 25, 3), (4, .iload_n 1, 1), (5, .iload_n 2, 1), (6, .invokestatic 101, 3), (9, .iaload, 1), (10, .istore_n 3, 1), (11, .aload_n 0, 1), (12, .getfield 64, 3), (15, .bipush 10, 2), (17, .iload_n 1, 1), (18, .imul, 1), (19, .iload_n 2, 1), (20, .iadd, 1), (21, .iaload, 1), (22, .istore 4, 2), (24, .iload 4, 2), (26, .aload_n 0, 1), (27, .iload_n 1, 1), (28, .iload_n 3, 1), (29, .invokevirtual 171, 3), (32, .invokestatic 125, 3), (35, .if_icmp .eq 6, 41), (38, .iload 4, 2), (40, .ireturn, 1), (41, .iload_n 3, 1), (42, .iconst 1, 1), (43, .iadd, 1), (44, .aload_n 0, 1), (45, .getfield 113, 3), (48, .irem, 1), (49, .istore 5, 2), (51, .aload_n 0, 1), (52, .iload_n 1, 1), (53, .iload 5, 2), (55, .invokevirtual 171, 3), (58, .ifCond .ne 17, 75), (61, .iload 5, 2), (63, .iconst 1, 1), (64, .iadd, 1), (65, .aload_n 0, 1), (66, .getfield 113, 3), (69, .irem, 1), (70, .istore 5, 2), (72, .goto (-21), 51), (75, .aload_n 0, 1), (76, .iload_n 1, 1), (77, .iload 5, 2), (79, .invokevirtual 171, 3), (82, .invokestatic 125, 3), (85, .ireturn, 1)])
def MX8_next : xMI := (yX8_next, cX8_next, 3, (some .int), 8, (6, 137), 2, [(0, .aload_n 0, 1), (1, .iload_n 1, 1), (2, .iload_n 2, 1), (3, .invokevirtual 208, 3), (6, .ifCond .ne 5, 11), (9, .iconst (-1), 1), (10, .ireturn, 1), (11, .aload_n 0, 1), (12, .invokevirtual 214, 3), (15, .ifCond .eq 12, 27), (18, .aload_n 0, 1), (19, .iload_n 1, 1), (20, .iload_n 2, 1), (21, .invokevirtual 268, 3), (24, .goto 5, 29), (27, .bipush (-4), 2), (29, .ireturn, 1)])
def MX8_findWalks : xMI := (yX8_findWalks, cX8_findWalks, 5, (some .boolean), 8, (6, 137), 0, [(0, .aload_n 0, 1), (1, .invokevirtual 214, 3), (4, .ifCond .ne 5, 9), (7, .iconst 0, 1), (8, .ireturn, 1), (9, .aload_n 0, 1), (10, .iconst 0, 1), (11, .putfield 271, 3), (14, .iconst 0, 1), (15, .istore_n 1, 1), (16, .iload_n 1, 1), (17, .bipush 100, 2), (19, .if_icmp .ge 17, 36), (22, .aload_n 0, 1), (23, .getfield 67, 3), (26, .iload_n 1, 1), (27, .bipush (-5), 2), (29, .iastore, 1), (30, .iinc 1 1, 3), (33, .goto (-17), 16), (36, .iconst 0, 1), (37, .istore_n 1, 1), (38, .iload_n 1, 1), (39, .bipush 100, 2), (41, .if_icmp .ge 101, 142), (44, .iload_n 1, 1), (45, .bipush 10, 2), (47, .idiv, 1), (48, .istore_n 2, 1), (49, .iload_n 1, 1), (50, .bipush 10, 2), (52, .irem, 1), (53, .istore_n 3, 1), (54, .aload_n 0, 1), (55, .getfield 22, 3), (58, .iload_n 2, 1), (59, .iaload, 1), (60, .iload_n 3, 1), (61, .ishr, 1), (62, .iconst 1, 1), (63, .iand, 1), (64, .iconst 1, 1), (65, .if_icmp .ne 71, 136), (68, .aload_n 0, 1), (69, .getfield 67, 3), (72, .iload_n 1, 1), (73, .iaload, 1), (74, .bipush (-5), 2), (76, .if_icmp .ne 60, 136), (79, .aload_n 0, 1), (80, .getfield 67, 3), (83, .bipush 10, 2), (85, .iload_n 2, 1), (86, .imul, 1), (87, .iload_n 3, 1), (88, .iadd, 1), (89, .iaload, 1), (90, .bipush (-5), 2), (92, .if_icmp .ne 34, 126), (95, .aload_n 0, 1), (96, .getfield 67, 3), (99, .bipush 10, 2), (101, .iload_n 2, 1), (102, .imul, 1), (103, .iload_n 3, 1), (104, .iadd, 1), (105, .aload_n 0, 1), (106, .getfield 271, 3), (109, .iastore, 1), (110, .aload_n 0, 1), (111, .iload_n 3, 1), (112, .iload_n 2, 1), (113, .invokevirtual 268, 3), (116, .istore 4, 2), (118, .iload_n 3, 1), (119, .istore_n 2, 1), (120, .iload 4, 2), (122, .istore_n 3, 1), (123, .goto (-44), 79), (126, .aload_n 0, 1), (127, .dup, 1), (128, .getfield 271, 3), (131, .iconst 1, 1), (132, .iadd, 1), (133, .putfield 271, 3), (136, .iinc 1 1, 3), (139, .goto (-101), 38), (142, .iconst 1, 1), (143, .ireturn, 1)])
def MX8_walks : xMI := (yX8_walks, cX8_walks, 1, (some .int), 8, (7, 161), 0, [(0, .aload_n 0, 1), (1, .invokevirtual 274, 3), (4, .ifCond .eq 10, 14), (7, .aload_n 0, 1), (8, .getfield 271, 3), (11, .goto 5, 16), (14, .bipush (-4), 2), (16, .ireturn, 1)])
def MX8_lengthOf : xMI := (yX8_lengthOf, cX8_lengthOf, 4, (some .int), 8, (0, 0), 1, [(0, .iconst 0, 1), (1, .istore_n 2, 1), (2, .iconst 0, 1), (3, .istore_n 3, 1), (4, .iload_n 3, 1), (5, .bipush 100, 2), (7, .if_icmp .ge 27, 34), (10, .iload_n 2, 1), (11, .aload_n 0, 1), (12, .getfield 67, 3), (15, .iload_n 3, 1), (16, .iaload, 1), (17, .iload_n 1, 1), (18, .if_icmp .ne 7, 25), (21, .iconst 1, 1), (22, .goto 4, 26), (25, .iconst 0, 1), (26, .iadd, 1), (27, .istore_n 2, 1), (28, .iinc 3 1, 3), (31, .goto (-27), 4), (34, .iload_n 2, 1), (35, .ireturn, 1)])
def MX8_walkLength : xMI := (yX8_walkLength, cX8_walkLength, 2, (some .int), 8, (7, 161), 1, [(0, .aload_n 0, 1), (1, .invokevirtual 274, 3), (4, .ifCond .ne 6, 10), (7, .bipush (-4), 2), (9, .ireturn, 1), (10, .iload_n 1, 1), (11, .iconst 0, 1), (12, .aload_n 0, 1), (13, .getfield 271, 3), (16, .iconst 1, 1), (17, .isub, 1), (18, .invokestatic 74, 3), (21, .ifCond .eq 11, 32), (24, .aload_n 0, 1), (25, .iload_n 1, 1), (26, .invokevirtual 277, 3), (29, .goto 4, 33), (32, .iconst (-1), 1), (33, .ireturn, 1)])
def MX8_walkVertex : xMI := (yX8_walkVertex, cX8_walkVertex, 8, (some .int), 8, (7, 161), 2, [(0, .aload_n 0, 1), (1, .invokevirtual 274, 3), (4, .ifCond .ne 6, 10), (7, .bipush (-4), 2), (9, .ireturn, 1), (10, .iload_n 1, 1), (11, .iconst 0, 1), (12, .aload_n 0, 1), (13, .getfield 271, 3), (16, .iconst 1, 1), (17, .isub, 1), (18, .invokestatic 74, 3), (21, .ifCond .eq 18, 39), (24, .iload_n 2, 1), (25, .iconst 0, 1), (26, .aload_n 0, 1), (27, .iload_n 1, 1), (28, .invokevirtual 277, 3), (31, .iconst 1, 1), (32, .isub, 1), (33, .invokestatic 74, 3), (36, .ifCond .ne 5, 41), (39, .iconst (-1), 1), (40, .ireturn, 1), (41, .iconst 0, 1), (42, .istore_n 3, 1), (43, .aload_n 0, 1), (44, .getfield 67, 3), (47, .iload_n 3, 1), (48, .iaload, 1), (49, .iload_n 1, 1), (50, .if_icmp .eq 9, 59), (53, .iinc 3 1, 3), (56, .goto (-13), 43), (59, .iload_n 3, 1), (60, .bipush 10, 2), (62, .idiv, 1), (63, .istore 4, 2), (65, .iload_n 3, 1), (66, .bipush 10, 2), (68, .irem, 1), (69, .istore 5, 2), (71, .iconst 0, 1), (72, .istore 6, 2), (74, .iload 6, 2), (76, .iload_n 2, 1), (77, .if_icmp .ge 27, 104), (80, .aload_n 0, 1), (81, .iload 5, 2), (83, .iload 4, 2), (85, .invokevirtual 268, 3), (88, .istore 7, 2), (90, .iload 5, 2), (92, .istore 4, 2), (94, .iload 7, 2), (96, .istore 5, 2), (98, .iinc 6 1, 3), (101, .goto (-27), 74), (104, .iload 4, 2), (106, .ireturn, 1)])
def MX8_walkOf : xMI := (yX8_walkOf, cX8_walkOf, 3, (some .int), 8, (7, 161), 2, [(0, .aload_n 0, 1), (1, .iload_n 1, 1), (2, .iload_n 2, 1), (3, .invokevirtual 208, 3), (6, .ifCond .ne 5, 11), (9, .iconst (-1), 1), (10, .ireturn, 1), (11, .aload_n 0, 1), (12, .invokevirtual 274, 3), (15, .ifCond .eq 17, 32), (18, .aload_n 0, 1), (19, .getfield 67, 3), (22, .bipush 10, 2), (24, .iload_n 1, 1), (25, .imul, 1), (26, .iload_n 2, 1), (27, .iadd, 1), (28, .iaload, 1), (29, .goto 5, 34), (32, .bipush (-4), 2), (34, .ireturn, 1)])
def MX8_findForbidden : xMI := (yX8_findForbidden, cX8_findForbidden, 3, (some .boolean), 8, (6, 137), 0, [(0, .aload_n 0, 1), (1, .invokevirtual 214, 3), (4, .ifCond .eq 5, 9), (7, .iconst 0, 1), (8, .ireturn, 1), (9, .iconst 0, 1), (10, .istore_n 1, 1), (11, .iload_n 1, 1), (12, .bipush 10, 2), (14, .if_icmp .ge 58, 72), (17, .iload_n 1, 1), (18, .iconst 1, 1), (19, .iadd, 1), (20, .istore_n 2, 1), (21, .iload_n 2, 1), (22, .bipush 10, 2), (24, .if_icmp .ge 42, 66), (27, .aload_n 0, 1), (28, .getfield 22, 3), (31, .iload_n 1, 1), (32, .iaload, 1), (33, .iload_n 2, 1), (34, .ishr, 1), (35, .iconst 1, 1), (36, .iand, 1), (37, .iconst 1, 1), (38, .if_icmp .ne 22, 60), (41, .aload_n 0, 1), (42, .iload_n 1, 1), (43, .iload_n 2, 1), (44, .invokevirtual 205, 3), (47, .aload_n 0, 1), (48, .invokevirtual 201, 3), (51, .ifCond .eq 9, 60), (54, .aload_n 0, 1), (55, .iload_n 1, 1), (56, .iload_n 2, 1), (57, .invokevirtual 205, 3), (60, .iinc 2 1, 3), (63, .goto (-42), 21), (66, .iinc 1 1, 3), (69, .goto (-58), 11), (72, .iconst 1, 1), (73, .ireturn, 1)])
def MX8_forbidden : xMI := (yX8_forbidden, cX8_forbidden, 6, (some .int), 8, (7, 159), 1, [(0, .iload_n 1, 1), (1, .iconst 0, 1), (2, .iconst 3, 1), (3, .invokestatic 74, 3), (6, .ifCond .ne 6, 12), (9, .bipush (-2), 2), (11, .ireturn, 1), (12, .aload_n 0, 1), (13, .invokevirtual 280, 3), (16, .ifCond .ne 6, 22), (19, .bipush (-5), 2), (21, .ireturn, 1), (22, .iconst 0, 1), (23, .istore_n 2, 1), (24, .iconst 0, 1), (25, .istore_n 3, 1), (26, .iconst 0, 1), (27, .istore 4, 2), (29, .iconst 0, 1), (30, .istore 5, 2), (32, .iload 5, 2), (34, .bipush 10, 2), (36, .if_icmp .ge 70, 106), (39, .iload_n 2, 1), (40, .aload_n 0, 1), (41, .getfield 22, 3), (44, .iload 5, 2), (46, .iaload, 1), (47, .invokestatic 82, 3), (50, .iadd, 1), (51, .istore_n 2, 1), (52, .iload_n 3, 1), (53, .aload_n 0, 1), (54, .getfield 22, 3), (57, .iload 5, 2), (59, .iaload, 1), (60, .ifCond .eq 10, 70), (63, .iconst 1, 1), (64, .iload 5, 2), (66, .ishl, 1), (67, .goto 4, 71), (70, .iconst 0, 1), (71, .ior, 1), (72, .istore_n 3, 1), (73, .iload 4, 2), (75, .aload_n 0, 1), (76, .getfield 22, 3), (79, .iload 5, 2), (81, .iaload, 1), (82, .invokestatic 82, 3), (85, .iconst 2, 1), (86, .if_icmp .le 10, 96), (89, .iconst 1, 1), (90, .iload 5, 2), (92, .ishl, 1), (93, .goto 4, 97), (96, .iconst 0, 1), (97, .ior, 1), (98, .istore 4, 2), (100, .iinc 5 1, 3), (103, .goto (-71), 32), (106, .iload_n 1, 1), (107, .ifCond .ne 9, 116), (110, .iload_n 2, 1), (111, .iconst 2, 1), (112, .idiv, 1), (113, .goto 27, 140), (116, .iload_n 1, 1), (117, .iconst 1, 1), (118, .if_icmp .ne 7, 125), (121, .iload_n 3, 1), (122, .goto 18, 140), (125, .iload_n 1, 1), (126, .iconst 2, 1), (127, .if_icmp .ne 8, 135), (130, .iload 4, 2), (132, .goto 8, 140), (135, .iload 4, 2), (137, .invokestatic 82, 3), (140, .ireturn, 1)])
def MX8_inForbidden : xMI := (yX8_inForbidden, cX8_inForbidden, 3, (some .int), 8, (7, 159), 2, [(0, .aload_n 0, 1), (1, .iload_n 1, 1), (2, .iload_n 2, 1), (3, .invokevirtual 208, 3), (6, .ifCond .ne 5, 11), (9, .iconst (-1), 1), (10, .ireturn, 1), (11, .aload_n 0, 1), (12, .invokevirtual 280, 3), (15, .ifCond .eq 16, 31), (18, .aload_n 0, 1), (19, .getfield 22, 3), (22, .iload_n 1, 1), (23, .iaload, 1), (24, .iload_n 2, 1), (25, .ishr, 1), (26, .iconst 1, 1), (27, .iand, 1), (28, .goto 5, 33), (31, .bipush (-5), 2), (33, .ireturn, 1)])
def MX8_ifFlipped : xMI := (yX8_ifFlipped, cX8_ifFlipped, 3, (some .int), 8, (6, 139), 2, [(0, .iload_n 1, 1), (1, .invokestatic 78, 3), (4, .ifCond .eq 10, 14), (7, .iload_n 2, 1), (8, .invokestatic 78, 3), (11, .ifCond .ne 5, 16), (14, .iconst (-1), 1), (15, .ireturn, 1), (16, .iload_n 1, 1), (17, .iload_n 2, 1), (18, .if_icmp .ne 6, 24), (21, .bipush (-2), 2), (23, .ireturn, 1), (24, .aload_n 0, 1), (25, .iload_n 1, 1), (26, .iload_n 2, 1), (27, .invokevirtual 217, 3), (30, .ifCond .eq 7, 37), (33, .iconst 1, 1), (34, .goto 4, 38), (37, .iconst 0, 1), (38, .ireturn, 1)])
def MX8_joinable : xMI := (yX8_joinable, cX8_joinable, 5, (some .int), 8, (6, 139), 1, [(0, .iload_n 1, 1), (1, .invokestatic 78, 3), (4, .ifCond .ne 5, 9), (7, .iconst (-1), 1), (8, .ireturn, 1), (9, .iconst 0, 1), (10, .istore_n 2, 1), (11, .iconst 0, 1), (12, .istore_n 3, 1), (13, .iload_n 3, 1), (14, .bipush 10, 2), (16, .if_icmp .ge 54, 70), (19, .iload_n 3, 1), (20, .iload_n 1, 1), (21, .if_icmp .eq 16, 37), (24, .aload_n 0, 1), (25, .iload_n 1, 1), (26, .iload_n 3, 1), (27, .invokevirtual 208, 3), (30, .ifCond .ne 7, 37), (33, .iconst 1, 1), (34, .goto 4, 38), (37, .iconst 0, 1), (38, .istore 4, 2), (40, .iload_n 2, 1), (41, .iload 4, 2), (43, .ifCond .eq 18, 61), (46, .aload_n 0, 1), (47, .iload_n 1, 1), (48, .iload_n 3, 1), (49, .invokevirtual 217, 3), (52, .ifCond .eq 9, 61), (55, .iconst 1, 1), (56, .iload_n 3, 1), (57, .ishl, 1), (58, .goto 4, 62), (61, .iconst 0, 1), (62, .ior, 1), (63, .istore_n 2, 1), (64, .iinc 3 1, 3), (67, .goto (-54), 13), (70, .iload_n 2, 1), (71, .ireturn, 1)])
def MX8_density : xMI := (yX8_density, cX8_density, 1, (some .double), 8, (2, 44), 0, [(0, .aload_n 0, 1), (1, .invokevirtual 90, 3), (4, .i2d, 1), (5, .ldc2_w 283, 3), (8, .ddiv, 1), (9, .dreturn, 1)])
def MJ6_bitCount_0f7a4 : xMI := (yJ6_bitCount_0f7a4, cJ6_bitCount_0f7a4, 1, (some .int), 20, (0, 0), 1, [(0, .iload_n 0, 1), (1, .iload_n 0, 1), (2, .iconst 1, 1), (3, .iushr, 1), (4, .ldc_w 265, 3), (7, .iand, 1), (8, .isub, 1), (9, .istore_n 0, 1), (10, .iload_n 0, 1), (11, .ldc_w 266, 3), (14, .iand, 1), (15, .iload_n 0, 1), (16, .iconst 2, 1), (17, .iushr, 1), (18, .ldc_w 266, 3), (21, .iand, 1), (22, .iadd, 1), (23, .istore_n 0, 1), (24, .iload_n 0, 1), (25, .iload_n 0, 1), (26, .iconst 4, 1), (27, .iushr, 1), (28, .iadd, 1), (29, .ldc_w 267, 3), (32, .iand, 1), (33, .istore_n 0, 1), (34, .iload_n 0, 1), (35, .iload_n 0, 1), (36, .bipush 8, 2), (38, .iushr, 1), (39, .iadd, 1), (40, .istore_n 0, 1), (41, .iload_n 0, 1), (42, .iload_n 0, 1), (43, .bipush 16, 2), (45, .iushr, 1), (46, .iadd, 1), (47, .istore_n 0, 1), (48, .iload_n 0, 1), (49, .bipush 63, 2), (51, .iand, 1), (52, .ireturn, 1)])
def MJ13_bitCount_95d88 : xMI := (yJ13_bitCount_95d88, cJ13_bitCount_95d88, 2, (some .int), 21, (0, 0), 1, [(0, .lload_n 0, 1), (1, .lload_n 0, 1), (2, .iconst 1, 1), (3, .lushr, 1), (4, .ldc2_w 314, 3), (7, .land, 1), (8, .lsub, 1), (9, .lstore_n 0, 1), (10, .lload_n 0, 1), (11, .ldc2_w 316, 3), (14, .land, 1), (15, .lload_n 0, 1), (16, .iconst 2, 1), (17, .lushr, 1), (18, .ldc2_w 316, 3), (21, .land, 1), (22, .ladd, 1), (23, .lstore_n 0, 1), (24, .lload_n 0, 1), (25, .lload_n 0, 1), (26, .iconst 4, 1), (27, .lushr, 1), (28, .ladd, 1), (29, .ldc2_w 318, 3), (32, .land, 1), (33, .lstore_n 0, 1), (34, .lload_n 0, 1), (35, .lload_n 0, 1), (36, .bipush 8, 2), (38, .lushr, 1), (39, .ladd, 1), (40, .lstore_n 0, 1), (41, .lload_n 0, 1), (42, .lload_n 0, 1), (43, .bipush 16, 2), (45, .lushr, 1), (46, .ladd, 1), (47, .lstore_n 0, 1), (48, .lload_n 0, 1), (49, .lload_n 0, 1), (50, .bipush 32, 2), (52, .lushr, 1), (53, .ladd, 1), (54, .lstore_n 0, 1), (55, .lload_n 0, 1), (56, .l2i, 1), (57, .bipush 127, 2), (59, .iand, 1), (60, .ireturn, 1)])
def xlnkL0 : List (Nat × Nat × xMI) := [(28, 1, MX7_at), (32, 1, MX7_put), (36, 2, MX0_formAt), (40, 2, MX0_signsRight), (53, 2, MX0_signAt)]
def xlnkL1 : List (Nat × Nat × xMI) := [(40, 2, MX1_start), (44, 2, MX1_placeCycle), (48, 2, MX1_chooseFragment), (51, 2, MX1_choosePath), (54, 2, MX1_splitFace), (60, 1, MX7_least), (64, 1, MX7_bit), (67, 1, MX7_cell), (71, 1, MX7_put), (75, 1, MX7_at), (79, 1, MX7_has), (86, 0, MJ6_bitCount_0f7a4), (91, 2, MX1_findPath), (95, 2, MX1_placeEdge), (102, 1, MX7_around), (108, 1, MX7_reach), (112, 2, MX1_weigh)]
def xlnkL2 : List (Nat × Nat × xMI) := [(26, 2, MX2_forgetOldest), (29, 2, MX5_edges), (34, 2, MX5_added), (37, 2, MX5_dropped), (39, 2, MX5_become)]
def xlnkL3 : List (Nat × Nat × xMI) := [(22, 1, MX7_pairBit), (28, 2, MX4_read), (34, 0, MJ13_bitCount_95d88), (40, 2, MX3_holds), (44, 1, MX7_bit)]
def xlnkL4 : List (Nat × Nat × xMI) := [(52, 2, MX4_fillNear), (55, 1, MX7_at), (59, 1, MX7_has), (63, 2, MX4_blockOf), (67, 2, MX4_blockAround), (70, 2, MX1_embed), (74, 2, MX4_keepBlock), (78, 1, MX7_cell), (81, 1, MX7_bit), (85, 1, MX7_reach), (89, 0, MJ6_bitCount_0f7a4), (94, 1, MX7_pairBit), (98, 1, MX7_put), (102, 2, MX1_edges), (105, 2, MX1_placedEdges), (108, 2, MX1_faces), (111, 2, MX4_isPlanar), (115, 2, MX1_writeSuccessors)]
def xlnkL5 : List (Nat × Nat × xMI) := [(20, 0, MJ13_bitCount_95d88), (26, 1, MX7_pairBit), (32, 2, MX5_joins), (36, 2, MX5_size)]
def xlnkL6 : List (Nat × Nat × xMI) := [(32, 2, MX4_edges), (44, 1, MX7_put), (48, 2, MX6_orderAround), (52, 2, MX4_near), (56, 1, MX7_has), (60, 2, MX6_ofDart), (64, 2, MX6_follow), (68, 1, MX7_at), (72, 1, MX7_cell), (75, 2, MX4_blocks), (79, 2, MX4_verticesOf), (82, 1, MX7_least), (85, 1, MX7_bit), (88, 2, MX4_successor), (91, 2, MX6_behind)]
def xlnkL7 : List (Nat × Nat × xMI) := [(57, 0, MX7_isVertex), (61, 2, MX5_joins), (65, 2, MX2_remember), (69, 2, MX5_flip), (73, 2, MX5_size), (77, 2, MX5_removeAll), (80, 2, MX5_edges), (84, 2, MX4_read), (88, 0, MX7_pairBit), (92, 2, MX0_write), (96, 2, MX0_length), (99, 2, MX0_erase), (102, 2, MX0_scan), (105, 2, MX0_edits), (108, 2, MX0_kindOf), (112, 2, MX0_firstOf), (116, 2, MX0_secondOf), (119, 2, MX7_carryOut), (123, 2, MX2_giveBack), (127, 2, MX2_size), (128, 2, MX5_added), (131, 2, MX5_dropped), (134, 2, MX5_become), (142, 2, MX4_near), (145, 2, MX4_components), (148, 2, MX4_blocks), (151, 2, MX4_cutVertices), (154, 2, MX4_bridges), (157, 2, MX4_blockOf), (161, 2, MX4_verticesOf), (164, 2, MX4_edgesOf), (167, 2, MX4_isPlanar), (170, 2, MX4_facesOf), (173, 2, MX4_placedOf), (176, 2, MX7_traced), (180, 2, MX6_behind), (183, 2, MX6_size), (184, 2, MX6_holds), (187, 2, MX6_lengthOf), (190, 2, MX6_vertexOf), (193, 2, MX6_ofDart), (196, 2, MX3_find), (200, 2, MX3_size), (201, 2, MX3_verticesInMoreThan), (204, 0, MJ6_bitCount_0f7a4), (209, 2, MX3_holds), (211, 0, MX7_bit), (216, 2, MX6_trace), (228, 0, MX7_around)]
def xlnkL8 : List (Nat × Nat × xMI) := [(74, 0, MX8_within), (78, 0, MX8_isVertex), (82, 0, MX8_ones), (90, 2, MX8_edges), (94, 2, MX8_record), (97, 2, MX8_joined), (101, 0, MX8_pair), (105, 2, MX8_joinBlocks), (109, 2, MX8_joinAround), (116, 2, MX8_isInBlock), (125, 0, MX8_lowest), (128, 2, MX8_layDistances), (131, 2, MX8_addToFace), (134, 2, MX8_lowestAt), (137, 2, MX8_placeEdge), (146, 2, MX8_addFragment), (149, 2, MX8_isFragment), (152, 2, MX8_contactsOf), (155, 2, MX8_isOnFace), (159, 2, MX8_fitting), (168, 2, MX8_addToPath), (171, 2, MX8_neighborsIn), (174, 2, MX8_placeCycle), (177, 2, MX8_findFragments), (180, 2, MX8_chooseFragment), (183, 2, MX8_layPath), (186, 2, MX8_placePath), (189, 2, MX8_laySuccessors), (192, 2, MX8_findBlocks), (195, 2, MX8_embed), (198, 2, MX8_takeGraph), (201, 2, MX8_isPlanar), (205, 2, MX8_flipInGraph), (208, 2, MX8_isEdge), (211, 2, MX8_flip), (214, 2, MX8_isPlanarNow), (217, 2, MX8_isPlanarIfFlipped), (226, 2, MX8_nextCharacter), (232, 2, MX8_takes), (235, 2, MX8_readsWord), (244, 2, MX8_readsEdit), (247, 2, MX8_findFault), (250, 2, MX8_blocksNow), (253, 2, MX8_edgesOf), (256, 2, MX8_components), (259, 2, MX8_cutVertices), (262, 2, MX8_bridges), (265, 2, MX8_verticesOf), (268, 2, MX8_behind), (274, 2, MX8_findWalks), (277, 2, MX8_lengthOf), (280, 2, MX8_findForbidden)]
def xlnk (c idx : Nat) : Option (Nat × xMI) := match c with
  | 0 => xfind xlnkL0 idx
  | 1 => xfind xlnkL1 idx
  | 2 => xfind xlnkL2 idx
  | 3 => xfind xlnkL3 idx
  | 4 => xfind xlnkL4 idx
  | 5 => xfind xlnkL5 idx
  | 6 => xfind xlnkL6 idx
  | 7 => xfind xlnkL7 idx
  | 8 => xfind xlnkL8 idx
  | _ => none
def xflkL0 : List (Nat × Nat × Nat) := [(9, 0, 0), (15, 0, 2), (18, 0, 3), (21, 0, 1), (25, 0, 4)]
def xflkL1 : List (Nat × Nat × Nat) := [(9, 1, 0), (15, 1, 1), (18, 1, 6), (21, 1, 7), (24, 1, 13), (27, 1, 15), (30, 1, 4), (34, 1, 5), (37, 1, 8), (57, 1, 2), (83, 1, 3), (99, 1, 14), (105, 1, 12), (115, 1, 9), (118, 1, 10), (121, 1, 11)]
def xflkL2 : List (Nat × Nat × Nat) := [(9, 2, 0), (15, 2, 1), (19, 2, 2), (22, 2, 3)]
def xflkL3 : List (Nat × Nat × Nat) := [(9, 3, 2), (15, 3, 1), (19, 3, 0)]
def xflkL4 : List (Nat × Nat × Nat) := [(9, 4, 0), (15, 4, 1), (18, 4, 2), (21, 4, 3), (24, 4, 4), (27, 4, 5), (33, 4, 6), (37, 4, 10), (41, 4, 9), (45, 4, 8), (48, 4, 7)]
def xflkL5 : List (Nat × Nat × Nat) := [(7, 5, 0), (13, 5, 1), (17, 5, 2)]
def xflkL6 : List (Nat × Nat × Nat) := [(9, 6, 0), (15, 6, 1), (18, 6, 2), (21, 6, 3), (24, 6, 7), (28, 6, 6), (37, 6, 4), (41, 6, 5)]
def xflkL7 : List (Nat × Nat × Nat) := [(12, 7, 0), (16, 7, 1), (22, 7, 3), (29, 7, 4), (36, 7, 5), (40, 7, 6), (46, 7, 7), (53, 7, 8), (138, 7, 2)]
def xflkL8 : List (Nat × Nat × Nat) := [(7, 8, 0), (13, 8, 1), (16, 8, 3), (19, 8, 5), (22, 8, 11), (25, 8, 12), (28, 8, 14), (31, 8, 15), (34, 8, 16), (37, 8, 17), (40, 8, 18), (43, 8, 22), (46, 8, 23), (49, 8, 25), (52, 8, 26), (55, 8, 28), (58, 8, 30), (61, 8, 31), (64, 8, 32), (67, 8, 33), (70, 8, 4), (86, 8, 2), (113, 8, 13), (119, 8, 19), (122, 8, 20), (140, 8, 21), (143, 8, 24), (162, 8, 27), (165, 8, 29), (220, 8, 6), (223, 8, 7), (229, 8, 8), (238, 8, 9), (241, 8, 10), (271, 8, 34)]
def xflk (c idx : Nat) : Option (Nat × Nat) := match c with
  | 0 => xfind xflkL0 idx
  | 1 => xfind xflkL1 idx
  | 2 => xfind xflkL2 idx
  | 3 => xfind xflkL3 idx
  | 4 => xfind xflkL4 idx
  | 5 => xfind xflkL5 idx
  | 6 => xfind xflkL6 idx
  | 7 => xfind xflkL7 idx
  | 8 => xfind xflkL8 idx
  | _ => none
def xconL0 : List (Nat × Value) := [(57, .ref 100), (59, .ref 101), (61, .ref 102), (63, .ref 103)]
def xconL3 : List (Nat × Value) := [(26, .long (-1))]
def xconL7 : List (Nat × Value) := [(214, .double 4627448617123184640)]
def xconL8 : List (Nat × Value) := [(283, .double 4627448617123184640)]
def xconL20 : List (Nat × Value) := [(265, .int (1431655765)), (266, .int (858993459)), (267, .int (252645135))]
def xconL21 : List (Nat × Value) := [(314, .long (6148914691236517205)), (316, .long (3689348814741910323)), (318, .long (1085102592571150095))]
def xcon (c idx : Nat) : Option (Value) := match c with
  | 0 => xfind xconL0 idx
  | 3 => xfind xconL3 idx
  | 7 => xfind xconL7 idx
  | 8 => xfind xconL8 idx
  | 20 => xfind xconL20 idx
  | 21 => xfind xconL21 idx
  | _ => none
def xprmL7 : List (Nat × Bool) := [(220, true), (225, false)]
def xprm (c idx : Nat) : Option (Bool) := match c with
  | 7 => xfind xprmL7 idx
  | _ => none
def xsopL0 : List (Nat × Nat) := [(44, 2), (50, 0), (65, 1)]
def xsop (c idx : Nat) : Option (Nat) := match c with
  | 0 => xfind xsopL0 idx
  | _ => none
end
section
/-! one step, a call, an answer; what a run is -/
def xStrL : List (List Nat) := [[97, 100, 100, 32, 35, 45, 35], [100, 114, 111, 112, 32, 35, 45, 35], [102, 108, 105, 112, 32, 35, 45, 35], []]
def xsopS (M : xMI) (op : Option Nat) (F : xF) : Option xF := bif Nat.ble 5 (xm_f M) && Nat.ble 110 (xm_l M) && Nat.ble (F.2.2.1.map fun v => v.category).sum 8 then
    match op, F.2.2.1 with
    | some 0, .ref a :: st => match xStrL[a - 100]? with
      | some s => bif Nat.ble 100 a then some (F.1 + 3, F.2.1, .int (Int32.ofNat s.length) :: st, F.2.2.2) else none
      | none => none
    | some 1, .int i :: .ref a :: st => match xStrL[a - 100]? with
      | some s => bif Nat.ble 100 a && xin i s.length then some (F.1 + 3, F.2.1, .int (Int32.ofNat (s.getD i.toNatClampNeg 0)) :: st, F.2.2.2) else none
      | none => none
    | some 2, .ref a :: st => match xStrL[a - 100]? with
      | some s => bif Nat.ble 100 a then some (F.1 + 3, F.2.1, .int (bif Nat.beq s.length 0 then 1 else 0) :: st, F.2.2.2) else none
      | none => none
    | _, _ => none
  else none
def xs1i (M : xMI) (i : Instr) (n : Nat) (F : xF) : Option xF := match i with
  | .iconst k => xpush F 1 (.int (Int32.ofInt k))
  | .bipush k => xpush F 2 (.int (Int8.ofInt k).toInt32)
  | .sipush k => xpush F 3 (.int (Int16.ofInt k).toInt32)
  | .lconst k => xpush F 1 (.long (Int64.ofNat k))
  | .iload_n k => xld1 F 1 k
  | .iload k => xld1 F 2 k
  | .lload_n k => xld2 F 1 k
  | .lload k => xld2 F 2 k
  | .aload_n k => xlda F 1 k
  | .aload k => xlda F 2 k
  | .istore_n k => xsti F 1 k
  | .istore k => xsti F 2 k
  | .astore_n k => xsta F 1 k
  | .astore k => xsta F 2 k
  | .lstore_n k => xstl F 1 k
  | .lstore k => xstl F 2 k
  | .iinc k c => xinc F k c
  | .iadd => xb2 F (fun x y => x + y)
  | .isub => xb2 F (fun x y => x - y)
  | .imul => xb2 F (fun x y => x * y)
  | .iand => xb2 F (fun x y => x &&& y)
  | .ior => xb2 F (fun x y => x ||| y)
  | .ixor => xb2 F (fun x y => x ^^^ y)
  | .ishl => xb2 F (fun x y => x <<< (y &&& 31))
  | .ishr => xb2 F (fun x y => x >>> (y &&& 31))
  | .iushr => xb2 F (fun x y => (x.toUInt32 >>> (y.toUInt32 &&& Int32.toUInt32 31)).toInt32)
  | .idiv => xb0 F (fun x y => x / y)
  | .irem => xb0 F (fun x y => x - x / y * y)
  | .i2c => xb1 F (fun x => (x.toUInt32 % 65536).toInt32)
  | .land => xj2 F (fun x y => x &&& y)
  | .lor => xj2 F (fun x y => x ||| y)
  | .lxor => xj2 F (fun x y => x ^^^ y)
  | .ladd => xj2 F (fun x y => x + y)
  | .lsub => xj2 F (fun x y => x - y)
  | .lshl => xji F (fun x y => x <<< (y.toInt64 &&& 63))
  | .lushr => xji F (fun x y => (x.toUInt64 >>> (y.toInt64.toUInt64 &&& Int64.toUInt64 63)).toInt64)
  | .lcmp => xlcmp F
  | .l2i => xl2i F
  | .i2d => xi2d F
  | .ddiv => xddiv F
  | .dup => xdup F
  | .dup2 => xdup2 F
  | .pop => xpop F
  | .goto _ => some (n, F.2.1, F.2.2.1, F.2.2.2)
  | .ifCond .eq _ => xbr1 F n (fun x => decide (x = 0))
  | .ifCond .ne _ => xbr1 F n (fun x => !decide (x = 0))
  | .ifCond .lt _ => xbr1 F n (fun x => decide (x < 0))
  | .ifCond .ge _ => xbr1 F n (fun x => decide (0 ≤ x))
  | .ifCond .gt _ => xbr1 F n (fun x => decide (0 < x))
  | .ifCond .le _ => xbr1 F n (fun x => decide (x ≤ 0))
  | .if_icmp .eq _ => xbr2 F n (fun x y => decide (x = y))
  | .if_icmp .ne _ => xbr2 F n (fun x y => !decide (x = y))
  | .if_icmp .lt _ => xbr2 F n (fun x y => decide (x < y))
  | .if_icmp .ge _ => xbr2 F n (fun x y => decide (y ≤ x))
  | .if_icmp .gt _ => xbr2 F n (fun x y => decide (y < x))
  | .if_icmp .le _ => xbr2 F n (fun x y => decide (x ≤ y))
  | .tableswitch d lo hi offs => xtsw F d lo hi offs
  | .lookupswitch d ps => xlsw F d ps
  | .getfield k => xgetf (xm_c M) (xflk (xm_c M) k) F
  | .putfield k => xputf (xflk (xm_c M) k) F
  | .iaload => xiald F
  | .laload => xlald F
  | .iastore => xiast F
  | .lastore => xlast F
  | .arraylength => xalen F
  | .ldc k => xldc1 (xcon (xm_c M) k) F
  | .ldc_w k => xldcw (xcon (xm_c M) k) F
  | .ldc2_w k => xldc2 (xcon (xm_c M) k) F
  | .invokestatic k => xmath M (xprm (xm_c M) k) F
  | .invokevirtual k => xsopS M (xsop (xm_c M) k) F
  | _ => none
def xs1 (M : xMI) (F : xF) : Option xF := match xfind (xm_t M) F.1 with
  | some (i, n) => xs1i M i n F
  | none => none
/-- k steps -/
def xsn (M : xMI) : Nat → xF → Option xF
  | 0, F => some F
  | k + 1, F => match xs1 M F with
    | some F1 => xsn M k F1
    | none => none
/-- a method's locals at its entry -/
def xarg : List Value → xL
  | [] => []
  | v :: vs => bif Nat.beq v.category 2 then some v :: none :: xarg vs else some v :: xarg vs
def xent (M : xMI) (as : List Value) (w : xW) : xF := (0, xarg as ++ List.replicate (xm_n M - (xarg as).length) none, [], w)
def xfit (M M2 : xMI) (as st : List Value) : Bool := Nat.ble (xm_f M2 + 1) (xm_f M) && Nat.ble (8 + (xm_n M2 + 11) + xm_l M2) (xm_l M) && Nat.beq as.length (xm_a M2) && Nat.ble (st.map fun v => v.category).sum 8 && Nat.ble (xarg as).length (xm_n M2)
/-- a call: the method, its arguments (the receiver first), the frame behind it without the answer -/
def xcal1 (M : xMI) (vi : Bool) (lk : Option (Nat × xMI)) (F : xF) : Option (xMI × List Value × xF) := match lk with
  | some (kd, M2) => bif vi then
      match F.2.2.1.drop (xm_a M2) with
      | .ref b :: st => match xshp b with
        | some (.inr (.inr (c, _))) => bif Nat.beq kd 2 && Nat.beq c (xm_c M2) && xfit M M2 (F.2.2.1.take (xm_a M2)).reverse st && Nat.ble ((xarg (F.2.2.1.take (xm_a M2)).reverse).length + 1) (xm_n M2) then some (M2, .ref b :: (F.2.2.1.take (xm_a M2)).reverse, (F.1 + 3, F.2.1, st, F.2.2.2)) else none
        | _ => none
      | _ => none
    else bif Nat.ble kd 1 && xfit M M2 (F.2.2.1.take (xm_a M2)).reverse (F.2.2.1.drop (xm_a M2)) then some (M2, (F.2.2.1.take (xm_a M2)).reverse, (F.1 + 3, F.2.1, F.2.2.1.drop (xm_a M2), F.2.2.2)) else none
  | none => none
def xcal (M : xMI) (F : xF) : Option (xMI × List Value × xF) := match xfind (xm_t M) F.1 with
  | some (.invokestatic k, _) => xcal1 M false (xlnk (xm_c M) k) F
  | some (.invokevirtual k, _) => xcal1 M true (xlnk (xm_c M) k) F
  | _ => none
def xpsh (F : xF) (r : Option Value) (w : xW) : xF := (F.1, F.2.1, r.toList ++ F.2.2.1, w)
/-- an answer -/
def xret (M : xMI) (F : xF) (r : Option Value) : Prop :=
  (∃ v ty n, xfind (xm_t M) F.1 = some (.ireturn, n) ∧ F.2.2.1 = [.int v] ∧ r = some (.int v) ∧ xm_r M = some ty ∧ narrow ty (.int v) = .int v) ∨
  (∃ v n, xfind (xm_t M) F.1 = some (.lreturn, n) ∧ F.2.2.1 = [.long v] ∧ r = some (.long v) ∧ xm_r M = some .long) ∨
  (∃ v n, xfind (xm_t M) F.1 = some (.dreturn, n) ∧ F.2.2.1 = [.double v] ∧ r = some (.double v) ∧ xm_r M = some .double) ∨
  (∃ v n nm, xfind (xm_t M) F.1 = some (.areturn, n) ∧ F.2.2.1 = [.ref v] ∧ r = some (.ref v) ∧ xm_r M = some (.object nm)) ∨
  (∃ n, xfind (xm_t M) F.1 = some (.return_, n) ∧ F.2.2.1 = [] ∧ r = none ∧ xm_r M = none)
/-- fewer locals -/
def xle (L1 L2 : xL) : Prop := ∀ (i : Nat) (v : Value), L1[i]? = some (some v) → L2[i]? = some (some v)
def xrule (P : xMI → xF → Option Value → xW → Prop) : Prop :=
  (∀ M F F1 r w1, xs1 M F = some F1 → P M F1 r w1 → P M F r w1) ∧
  (∀ M F r, xret M F r → P M F r F.2.2.2) ∧
  (∀ M F M2 as F1 r2 w2 r w1, xcal M F = some (M2, as, F1) → P M2 (xent M2 as F.2.2.2) r2 w2 → P M (xpsh F1 r2 w2) r w1 → P M F r w1) ∧
  (∀ M pc L1 L2 st w r w1, L1.length = L2.length → xle L1 L2 → P M (pc, L1, st, w) r w1 → P M (pc, L2, st, w) r w1)
/-- from this frame the method comes to its end with the answer r, the world being w1 then -/
def xE (M : xMI) (F : xF) (r : Option Value) (w1 : xW) : Prop := ∀ P : xMI → xF → Option Value → xW → Prop, xrule P → P M F r w1
/-- called with these arguments in the world w it answers r and leaves w1 -/
def xC (M : xMI) (as : List Value) (w : xW) (r : Option Value) (w1 : xW) : Prop := xE M (xent M as w) r w1
theorem xE.step {M : xMI} {F F1 : xF} {r : Option Value} {w1 : xW} (h : xs1 M F = some F1) (k : xE M F1 r w1) : xE M F r w1 := fun P hP => hP.1 M F F1 r w1 h (k P hP)
theorem xE.go {M : xMI} {r : Option Value} {w1 : xW} : ∀ (n : Nat) {F F1 : xF}, xsn M n F = some F1 → xE M F1 r w1 → xE M F r w1
  | 0, F, F1, h, k => by cases h; exact k
  | n + 1, F, F1, h, k => by
    unfold xsn at h
    cases h1 : xs1 M F with
    | none => rw [h1] at h; cases h
    | some F2 =>
      rw [h1] at h
      exact xE.step h1 (xE.go n h k)
theorem xE.ret {M : xMI} {F : xF} {r : Option Value} {w : xW} (hw : F.2.2.2 = w) (h : xret M F r) : xE M F r w := fun P hP => by subst hw; exact hP.2.1 M F r h
theorem xE.iret {M : xMI} {pc : Nat} {L : xL} {v : Int32} {w : xW} (ty : FieldType) (n : Nat) (h : xfind (xm_t M) pc = some (.ireturn, n)) (hr : xm_r M = some ty) (hn : narrow ty (.int v) = .int v) : xE M (pc, L, [.int v], w) (some (.int v)) w := xE.ret rfl (Or.inl ⟨v, ty, n, h, rfl, rfl, hr, hn⟩)
theorem xE.lret {M : xMI} {pc : Nat} {L : xL} {v : Int64} {w : xW} (n : Nat) (h : xfind (xm_t M) pc = some (.lreturn, n)) (hr : xm_r M = some .long) : xE M (pc, L, [.long v], w) (some (.long v)) w := xE.ret rfl (Or.inr (Or.inl ⟨v, n, h, rfl, rfl, hr⟩))
theorem xE.dret {M : xMI} {pc : Nat} {L : xL} {v : UInt64} {w : xW} (n : Nat) (h : xfind (xm_t M) pc = some (.dreturn, n)) (hr : xm_r M = some .double) : xE M (pc, L, [.double v], w) (some (.double v)) w := xE.ret rfl (Or.inr (Or.inr (Or.inl ⟨v, n, h, rfl, rfl, hr⟩)))
theorem xE.aret {M : xMI} {pc : Nat} {L : xL} {v : Nat} {w : xW} (n : Nat) (nm : String) (h : xfind (xm_t M) pc = some (.areturn, n)) (hr : xm_r M = some (.object nm)) : xE M (pc, L, [.ref v], w) (some (.ref v)) w := xE.ret rfl (Or.inr (Or.inr (Or.inr (Or.inl ⟨v, n, nm, h, rfl, rfl, hr⟩))))
theorem xE.vret {M : xMI} {pc : Nat} {L : xL} {w : xW} (n : Nat) (h : xfind (xm_t M) pc = some (.return_, n)) (hr : xm_r M = none) : xE M (pc, L, [], w) none w := xE.ret rfl (Or.inr (Or.inr (Or.inr (Or.inr ⟨n, h, rfl, rfl, hr⟩))))
theorem xE.call {M : xMI} {F : xF} {M2 : xMI} {as : List Value} {F1 : xF} {r2 : Option Value} {w2 : xW} {r : Option Value} {w1 : xW} (h : xcal M F = some (M2, as, F1)) (h2 : xC M2 as F.2.2.2 r2 w2) (k : xE M (xpsh F1 r2 w2) r w1) : xE M F r w1 := fun P hP => hP.2.2.1 M F M2 as F1 r2 w2 r w1 h (h2 P hP) (k P hP)
/-- a branch -/
theorem xE.br {M : xMI} {c : Bool} {a b : Nat} {L : xL} {st : List Value} {w : xW} {r : Option Value} {w1 : xW} (kt : c = true → xE M (a, L, st, w) r w1) (kf : c = false → xE M (b, L, st, w) r w1) : xE M (bif c then a else b, L, st, w) r w1 := by
  cases c with
  | true => exact kt rfl
  | false => exact kf rfl
def xleb : xL → xL → Prop
  | [], [] => True
  | none :: l1, _ :: l2 => xleb l1 l2
  | some v :: l1, u :: l2 => u = some v ∧ xleb l1 l2
  | _, _ => False
theorem xleb_le : ∀ {L1 L2 : xL}, xleb L1 L2 → L1.length = L2.length ∧ xle L1 L2
  | [], [], _ => ⟨rfl, fun _ _ h => h⟩
  | none :: l1, u :: l2, h => by
    obtain ⟨h1, h2⟩ := xleb_le (L1 := l1) (L2 := l2) h
    refine ⟨by simp [h1], fun i v hi => ?_⟩
    cases i with
    | zero => simp at hi
    | succ i => exact h2 i v hi
  | some v :: l1, u :: l2, h => by
    obtain ⟨h0, h⟩ := h
    obtain ⟨h1, h2⟩ := xleb_le (L1 := l1) (L2 := l2) h
    refine ⟨by simp [h1], fun i x hi => ?_⟩
    cases i with
    | zero => rw [h0]; exact hi
    | succ i => exact h2 i x hi
theorem xE.less {M : xMI} {pc : Nat} {L2 : xL} {st : List Value} {w : xW} {r : Option Value} {w1 : xW} (L1 : xL) (h : xleb L1 L2) (k : xE M (pc, L1, st, w) r w1) : xE M (pc, L2, st, w) r w1 := fun P hP => hP.2.2.2 M pc L1 L2 st w r w1 (xleb_le h).1 (xleb_le h).2 (k P hP)
theorem xE.brT {M : xMI} {c : Bool} {a b : Nat} {L : xL} {st : List Value} {w : xW} {r : Option Value} {w1 : xW} (h : c = true) (k : xE M (a, L, st, w) r w1) : xE M (bif c then a else b, L, st, w) r w1 := by
  subst h
  exact k
theorem xE.brF {M : xMI} {c : Bool} {a b : Nat} {L : xL} {st : List Value} {w : xW} {r : Option Value} {w1 : xW} (h : c = false) (k : xE M (b, L, st, w) r w1) : xE M (bif c then a else b, L, st, w) r w1 := by
  subst h
  exact k
theorem xin_nI {k n : Nat} (h : k < n) (hn : n < 2 ^ 31) : xin (nI k) n = true := by
  have h2 := nI_clamp (n := k) (by omega)
  unfold xin
  rw [h2, decide_eq_false (nI_pos (by omega))]
  exact Nat.ble_eq.mpr h
theorem xs1_of {M : xMI} {F : xF} {i : Instr} {n : Nat} (h : xfind (xm_t M) F.1 = some (i, n)) : xs1 M F = xs1i M i n F := by
  unfold xs1
  rw [h]
theorem xE.alen {M : xMI} {pc a n : Nat} {L : xL} {st : List Value} {w : xW} {r : Option Value} {w1 : xW} (hs : xshp a = some (.inl n)) (h : xfind (xm_t M) pc = some (.arraylength, 1)) (k : xE M (pc + 1, L, .int (Int32.ofNat n) :: st, w) r w1) : xE M (pc, L, .ref a :: st, w) r w1 := by
  refine xE.step ((xs1_of h).trans ?_) k
  simp only [xs1i, xalen, hs]
theorem xE.iald {M : xMI} {pc a n : Nat} {L : xL} {st : List Value} {w : xW} {r : Option Value} {w1 : xW} {i : Int32} (hs : xshp a = some (.inl n)) {k : Nat} (hi : i = nI k) (hk : k < n ∧ n < 2 ^ 31) (h : xfind (xm_t M) pc = some (.iaload, 1)) (kk : xE M (pc + 1, L, .int (w.1 a k) :: st, w) r w1) : xE M (pc, L, .int i :: .ref a :: st, w) r w1 := by
  subst hi
  refine xE.step ((xs1_of h).trans ?_) kk
  simp only [xs1i, xiald, hs, xin_nI hk.1 hk.2, cond_true, nI_clamp (n := k) (by omega)]
theorem xE.lald {M : xMI} {pc a n : Nat} {L : xL} {st : List Value} {w : xW} {r : Option Value} {w1 : xW} {i : Int32} (hs : xshp a = some (.inr (.inl n))) {k : Nat} (hi : i = nI k) (hk : k < n ∧ n < 2 ^ 31) (h : xfind (xm_t M) pc = some (.laload, 1)) (kk : xE M (pc + 1, L, .long (w.2 a k) :: st, w) r w1) : xE M (pc, L, .int i :: .ref a :: st, w) r w1 := by
  subst hi
  refine xE.step ((xs1_of h).trans ?_) kk
  simp only [xs1i, xlald, hs, xin_nI hk.1 hk.2, cond_true, nI_clamp (n := k) (by omega)]
theorem xE.iast {M : xMI} {pc a n : Nat} {L : xL} {st : List Value} {w : xW} {r : Option Value} {w1 : xW} {i x : Int32} (hs : xshp a = some (.inl n)) {k : Nat} (hi : i = nI k) (hk : k < n ∧ n < 2 ^ 31) (h : xfind (xm_t M) pc = some (.iastore, 1)) (kk : xE M (pc + 1, L, st, xuI w a k x) r w1) : xE M (pc, L, .int x :: .int i :: .ref a :: st, w) r w1 := by
  subst hi
  refine xE.step ((xs1_of h).trans ?_) kk
  simp only [xs1i, xiast, hs, xin_nI hk.1 hk.2, cond_true, nI_clamp (n := k) (by omega)]
theorem xE.last {M : xMI} {pc a n : Nat} {L : xL} {st : List Value} {w : xW} {r : Option Value} {w1 : xW} {i : Int32} {x : Int64} (hs : xshp a = some (.inr (.inl n))) {k : Nat} (hi : i = nI k) (hk : k < n ∧ n < 2 ^ 31) (h : xfind (xm_t M) pc = some (.lastore, 1)) (kk : xE M (pc + 1, L, st, xuJ w a k x) r w1) : xE M (pc, L, .long x :: .int i :: .ref a :: st, w) r w1 := by
  subst hi
  refine xE.step ((xs1_of h).trans ?_) kk
  simp only [xs1i, xlast, hs, xin_nI hk.1 hk.2, cond_true, nI_clamp (n := k) (by omega)]
/-- a loop that counts up to N, told at its head -/
theorem xE.up {S : Type} {M : xMI} {r : Option Value} {w1 : xW} {hd : Nat → S → xF} (I : Nat → S → Prop) (N : Nat) (step : ∀ (k : Nat) (s : S), k < N → I k s → (∀ s', I (k + 1) s' → xE M (hd (k + 1) s') r w1) → xE M (hd k s) r w1) (fin : ∀ s, I N s → xE M (hd N s) r w1) : ∀ (k : Nat) (s : S), k ≤ N → I k s → xE M (hd k s) r w1 := by
  have key : ∀ (n k : Nat) (s : S), k + n = N → I k s → xE M (hd k s) r w1 := by
    intro n
    induction n with
    | zero =>
      intro k s hk hI
      have : k = N := by omega
      subst this
      exact fin s hI
    | succ n ih =>
      intro k s hk hI
      exact step k s (by omega) hI (fun s' h' => ih (k + 1) s' (by omega) h')
  exact fun k s hk hI => key (N - k) k s (by omega) hI
end
section
/-! worlds that differ in few cells; loops that count up -/
theorem uI1 (w : xW) (a k : Nat) (x : Int32) (b j : Nat) : (xuI w a k x).1 b j = if b = a ∧ j = k then x else w.1 b j := by
  unfold xuI
  simp only [xup_eq]
  by_cases h : b = a
  · subst h
    simp [xup_eq]
  · simp [h]
theorem uI2 (w : xW) (a k : Nat) (x : Int32) : (xuI w a k x).2 = w.2 := rfl
theorem uJ1 (w : xW) (a k : Nat) (x : Int64) : (xuJ w a k x).1 = w.1 := rfl
theorem uJ2 (w : xW) (a k : Nat) (x : Int64) (b j : Nat) : (xuJ w a k x).2 b j = if b = a ∧ j = k then x else w.2 b j := by
  unfold xuJ
  simp only [xup_eq]
  by_cases h : b = a
  · subst h
    simp [xup_eq]
  · simp [h]
/-- outside of the cells C nothing has changed -/
def xkp (C : Nat → Bool) (w w1 : xW) : Prop := ∀ a, C a = false → (∀ j, w1.1 a j = w.1 a j) ∧ ∀ j, w1.2 a j = w.2 a j
theorem xkp_rfl {C : Nat → Bool} {w : xW} : xkp C w w := fun _ _ => ⟨fun _ => rfl, fun _ => rfl⟩
theorem xkp_trans {C : Nat → Bool} {w w1 w2 : xW} (h1 : xkp C w w1) (h2 : xkp C w1 w2) : xkp C w w2 := fun a h => ⟨fun j => ((h2 a h).1 j).trans ((h1 a h).1 j), fun j => ((h2 a h).2 j).trans ((h1 a h).2 j)⟩
theorem xkp_mono {C D : Nat → Bool} {w w1 : xW} (h : xkp C w w1) (hs : ∀ a, D a = false → C a = false) : xkp D w w1 := fun a ha => h a (hs a ha)
theorem xkp_I {C : Nat → Bool} {w w1 : xW} {a k : Nat} {x : Int32} (h : xkp C w w1) (ha : C a = true) : xkp C w (xuI w1 a k x) := fun b hb => by
  have hne : b ≠ a := fun e => by rw [e, ha] at hb; cases hb
  refine ⟨fun j => ?_, (h b hb).2⟩
  rw [uI1, if_neg (fun e => hne e.1), (h b hb).1 j]
theorem xkp_J {C : Nat → Bool} {w w1 : xW} {a k : Nat} {x : Int64} (h : xkp C w w1) (ha : C a = true) : xkp C w (xuJ w1 a k x) := fun b hb => by
  have hne : b ≠ a := fun e => by rw [e, ha] at hb; cases hb
  refine ⟨(h b hb).1, fun j => ?_⟩
  rw [uJ2, if_neg (fun e => hne e.1), (h b hb).2 j]
/-- the cells from a to b -/
def rg (a b : Nat) : Nat → Bool := fun c => Nat.ble a c && Nat.ble c b
theorem rg_f {a b c : Nat} : rg a b c = false ↔ c < a ∨ b < c := by
  unfold rg
  rw [Bool.and_eq_false_iff]
  simp only [Bool.eq_false_iff, ne_eq, Nat.ble_eq]
  omega
theorem xkp_rg {a b c d : Nat} {w w1 : xW} (h : xkp (rg a b) w w1) (h1 : c ≤ a) (h2 : b ≤ d) : xkp (rg c d) w w1 := xkp_mono h fun x hx => by
  rw [rg_f] at hx ⊢
  omega
theorem xkp_at {a b : Nat} {w w1 : xW} (h : xkp (rg a b) w w1) {c : Nat} (hc : c < a ∨ b < c) (j : Nat) : w1.1 c j = w.1 c j := (h c (rg_f.mpr hc)).1 j
theorem xkp_atJ {a b : Nat} {w w1 : xW} (h : xkp (rg a b) w w1) {c : Nat} (hc : c < a ∨ b < c) (j : Nat) : w1.2 c j = w.2 c j := (h c (rg_f.mpr hc)).2 j
theorem xE.eq {M : xMI} {F F1 : xF} {r : Option Value} {w1 : xW} (h : F = F1) (k : xE M F1 r w1) : xE M F r w1 := h ▸ k
theorem xE.loop {S : Type} {M : xMI} {r : Option Value} {w1 : xW} {F : xF} (hd : Nat → S → xF) (I : Nat → S → Prop) (N : Nat) (s : S) (h0 : F = hd 0 s) (hI : I 0 s) (step : ∀ (k : Nat) (s : S), k < N → I k s → (∀ s', I (k + 1) s' → xE M (hd (k + 1) s') r w1) → xE M (hd k s) r w1) (fin : ∀ s, I N s → xE M (hd N s) r w1) : xE M F r w1 := h0 ▸ xE.up I N step fin 0 s (Nat.zero_le _) hI
/-- a run from here on, with what holds at its end -/
def xQ (M : xMI) (F : xF) (Q : Option Value → xW → Prop) : Prop := ∃ r w1, xE M F r w1 ∧ Q r w1
def xD (M : xMI) (as : List Value) (w : xW) (Q : Option Value → xW → Prop) : Prop := ∃ r w1, xC M as w r w1 ∧ Q r w1
theorem xQ.lift {M : xMI} {F F1 : xF} {Q : Option Value → xW → Prop} (h : ∀ r w1, xE M F1 r w1 → xE M F r w1) (k : xQ M F1 Q) : xQ M F Q := by
  obtain ⟨r, w1, h1, h2⟩ := k
  exact ⟨r, w1, h r w1 h1, h2⟩
theorem xQ.go {M : xMI} {Q : Option Value → xW → Prop} (n : Nat) {F F1 : xF} (h : xsn M n F = some F1) (k : xQ M F1 Q) : xQ M F Q := xQ.lift (fun _ _ => xE.go n h) k
theorem xQ.eq {M : xMI} {F F1 : xF} {Q : Option Value → xW → Prop} (h : F = F1) (k : xQ M F1 Q) : xQ M F Q := h ▸ k
theorem xQ.call {M : xMI} {F : xF} {M2 : xMI} {as : List Value} {F1 : xF} {r2 : Option Value} {w2 : xW} {Q : Option Value → xW → Prop} (h : xcal M F = some (M2, as, F1)) (h2 : xC M2 as F.2.2.2 r2 w2) (k : xQ M (xpsh F1 r2 w2) Q) : xQ M F Q := xQ.lift (fun _ _ => xE.call h h2) k
theorem xQ.br {M : xMI} {c : Bool} {a b : Nat} {L : xL} {st : List Value} {w : xW} {Q : Option Value → xW → Prop} (kt : c = true → xQ M (a, L, st, w) Q) (kf : c = false → xQ M (b, L, st, w) Q) : xQ M (bif c then a else b, L, st, w) Q := by
  cases c with
  | true => exact kt rfl
  | false => exact kf rfl
theorem xQ.brT {M : xMI} {c : Bool} {a b : Nat} {L : xL} {st : List Value} {w : xW} {Q : Option Value → xW → Prop} (h : c = true) (k : xQ M (a, L, st, w) Q) : xQ M (bif c then a else b, L, st, w) Q := by
  subst h
  exact k
theorem xQ.brF {M : xMI} {c : Bool} {a b : Nat} {L : xL} {st : List Value} {w : xW} {Q : Option Value → xW → Prop} (h : c = false) (k : xQ M (b, L, st, w) Q) : xQ M (bif c then a else b, L, st, w) Q := by
  subst h
  exact k
theorem xQ.less {M : xMI} {pc : Nat} {L2 : xL} {st : List Value} {w : xW} {Q : Option Value → xW → Prop} (L1 : xL) (h : xleb L1 L2) (k : xQ M (pc, L1, st, w) Q) : xQ M (pc, L2, st, w) Q := xQ.lift (fun _ _ => xE.less L1 h) k
theorem xQ.alen {M : xMI} {pc a n : Nat} {L : xL} {st : List Value} {w : xW} {Q : Option Value → xW → Prop} (hs : xshp a = some (.inl n)) (h : xfind (xm_t M) pc = some (.arraylength, 1)) (k : xQ M (pc + 1, L, .int (Int32.ofNat n) :: st, w) Q) : xQ M (pc, L, .ref a :: st, w) Q := xQ.lift (fun _ _ => xE.alen hs h) k
theorem xQ.iald {M : xMI} {pc a n : Nat} {L : xL} {st : List Value} {w : xW} {Q : Option Value → xW → Prop} {i : Int32} (hs : xshp a = some (.inl n)) {k : Nat} (hi : i = nI k) (hk : k < n ∧ n < 2 ^ 31) (h : xfind (xm_t M) pc = some (.iaload, 1)) (kk : xQ M (pc + 1, L, .int (w.1 a k) :: st, w) Q) : xQ M (pc, L, .int i :: .ref a :: st, w) Q := xQ.lift (fun _ _ => xE.iald hs hi hk h) kk
theorem xQ.lald {M : xMI} {pc a n : Nat} {L : xL} {st : List Value} {w : xW} {Q : Option Value → xW → Prop} {i : Int32} (hs : xshp a = some (.inr (.inl n))) {k : Nat} (hi : i = nI k) (hk : k < n ∧ n < 2 ^ 31) (h : xfind (xm_t M) pc = some (.laload, 1)) (kk : xQ M (pc + 1, L, .long (w.2 a k) :: st, w) Q) : xQ M (pc, L, .int i :: .ref a :: st, w) Q := xQ.lift (fun _ _ => xE.lald hs hi hk h) kk
theorem xQ.iast {M : xMI} {pc a n : Nat} {L : xL} {st : List Value} {w : xW} {Q : Option Value → xW → Prop} {i x : Int32} (hs : xshp a = some (.inl n)) {k : Nat} (hi : i = nI k) (hk : k < n ∧ n < 2 ^ 31) (h : xfind (xm_t M) pc = some (.iastore, 1)) (kk : xQ M (pc + 1, L, st, xuI w a k x) Q) : xQ M (pc, L, .int x :: .int i :: .ref a :: st, w) Q := xQ.lift (fun _ _ => xE.iast hs hi hk h) kk
theorem xQ.last {M : xMI} {pc a n : Nat} {L : xL} {st : List Value} {w : xW} {Q : Option Value → xW → Prop} {i : Int32} {x : Int64} (hs : xshp a = some (.inr (.inl n))) {k : Nat} (hi : i = nI k) (hk : k < n ∧ n < 2 ^ 31) (h : xfind (xm_t M) pc = some (.lastore, 1)) (kk : xQ M (pc + 1, L, st, xuJ w a k x) Q) : xQ M (pc, L, .long x :: .int i :: .ref a :: st, w) Q := xQ.lift (fun _ _ => xE.last hs hi hk h) kk
theorem xQ.iret {M : xMI} {pc : Nat} {L : xL} {v : Int32} {w : xW} {Q : Option Value → xW → Prop} (ty : FieldType) (n : Nat) (h : xfind (xm_t M) pc = some (.ireturn, n)) (hr : xm_r M = some ty) (hn : narrow ty (.int v) = .int v) (k : Q (some (.int v)) w) : xQ M (pc, L, [.int v], w) Q := ⟨_, _, xE.iret ty n h hr hn, k⟩
theorem xQ.lret {M : xMI} {pc : Nat} {L : xL} {v : Int64} {w : xW} {Q : Option Value → xW → Prop} (n : Nat) (h : xfind (xm_t M) pc = some (.lreturn, n)) (hr : xm_r M = some .long) (k : Q (some (.long v)) w) : xQ M (pc, L, [.long v], w) Q := ⟨_, _, xE.lret n h hr, k⟩
theorem xQ.vret {M : xMI} {pc : Nat} {L : xL} {w : xW} {Q : Option Value → xW → Prop} (n : Nat) (h : xfind (xm_t M) pc = some (.return_, n)) (hr : xm_r M = none) (k : Q none w) : xQ M (pc, L, [], w) Q := ⟨_, _, xE.vret n h hr, k⟩
theorem xQ.loop {S : Type} {M : xMI} {Q : Option Value → xW → Prop} {F : xF} (hd : Nat → S → xF) (I : Nat → S → Prop) (N : Nat) (s : S) (h0 : F = hd 0 s) (hI : I 0 s) (step : ∀ (k : Nat) (s : S), k < N → I k s → (∀ s', I (k + 1) s' → xQ M (hd (k + 1) s') Q) → xQ M (hd k s) Q) (fin : ∀ s, I N s → xQ M (hd N s) Q) : xQ M F Q := by
  have key : ∀ (n k : Nat) (s : S), k + n = N → I k s → xQ M (hd k s) Q := by
    intro n
    induction n with
    | zero =>
      intro k s hk hI
      have : k = N := by omega
      subst this
      exact fin s hI
    | succ n ih =>
      intro k s hk hI
      exact step k s (by omega) hI (fun s' h' => ih (k + 1) s' (by omega) h')
  exact h0 ▸ key N 0 s (by omega) hI
/-- cells and places -/
abbrev xCS : Type := List (Nat × Option Nat)
def cin (L : xCS) (a j : Nat) : Bool := L.any (fun p => Nat.beq p.1 a && (match p.2 with | none => true | some i => Nat.beq i j))
def xkq (L : xCS) (w w1 : xW) : Prop := ∀ a j, cin L a j = false → w1.1 a j = w.1 a j ∧ w1.2 a j = w.2 a j
theorem xkq_rfl {L : xCS} {w : xW} : xkq L w w := fun _ _ _ => ⟨rfl, rfl⟩
theorem xkq_trans {L : xCS} {w w1 w2 : xW} (h1 : xkq L w w1) (h2 : xkq L w1 w2) : xkq L w w2 := fun a j h => ⟨(h2 a j h).1.trans (h1 a j h).1, (h2 a j h).2.trans (h1 a j h).2⟩
def csub (L M : xCS) : Bool := L.all (fun p => M.any (fun q => Nat.beq q.1 p.1 && (match q.2 with | none => true | some i => match p.2 with | none => false | some j => Nat.beq i j)))
theorem xkq_mono {L M : xCS} {w w1 : xW} (hs : csub L M = true) (h : xkq L w w1) : xkq M w w1 := fun a j hm => h a j (by
  cases hc : cin L a j with
  | false => rfl
  | true =>
    exfalso
    obtain ⟨p, hp, h1⟩ := List.any_eq_true.mp hc
    obtain ⟨q, hq, h2⟩ := List.any_eq_true.mp (List.all_eq_true.mp hs p hp)
    rw [Bool.and_eq_true] at h1 h2
    have e1 := Nat.eq_of_beq_eq_true h1.1
    have e2 := Nat.eq_of_beq_eq_true h2.1
    have : cin M a j = true := List.any_eq_true.mpr ⟨q, hq, by
      rw [Bool.and_eq_true]
      refine ⟨by rw [e2, e1]; exact Nat.beq_refl a, ?_⟩
      obtain ⟨p1, p2⟩ := p
      obtain ⟨q1, q2⟩ := q
      cases q2 with
      | none => rfl
      | some i =>
        cases p2 with
        | none => exact absurd h2.2 (by simp)
        | some i2 =>
          have e3 : i = i2 := Nat.eq_of_beq_eq_true h2.2
          have e4 : i2 = j := Nat.eq_of_beq_eq_true h1.2
          subst e3; subst e4
          exact Nat.beq_refl _⟩
    rw [this] at hm
    cases hm)
theorem xkq_I {L : xCS} {w w1 : xW} {a k : Nat} {x : Int32} (h : xkq L w w1) (ha : cin L a k = true) : xkq L w (xuI w1 a k x) := fun b j hb => by
  refine ⟨?_, (h b j hb).2⟩
  rw [uI1, if_neg, (h b j hb).1]
  rintro ⟨rfl, rfl⟩
  rw [ha] at hb
  cases hb
theorem xkq_J {L : xCS} {w w1 : xW} {a k : Nat} {x : Int64} (h : xkq L w w1) (ha : cin L a k = true) : xkq L w (xuJ w1 a k x) := fun b j hb => by
  refine ⟨(h b j hb).1, ?_⟩
  rw [uJ2, if_neg, (h b j hb).2]
  rintro ⟨rfl, rfl⟩
  rw [ha] at hb
  cases hb
theorem xkq_at {L : xCS} {w w1 : xW} (h : xkq L w w1) (a j : Nat) (hc : cin L a j = false := by rfl) : w1.1 a j = w.1 a j := (h a j hc).1
theorem xkq_atJ {L : xCS} {w w1 : xW} (h : xkq L w w1) (a j : Nat) (hc : cin L a j = false := by rfl) : w1.2 a j = w.2 a j := (h a j hc).2
theorem xD.of {M : xMI} {as : List Value} {w : xW} {Q : Option Value → xW → Prop} (h : xQ M (xent M as w) Q) : xD M as w Q := h
end
section
/-! sets of the vertices 0 .. 9 as ints, bit by bit -/
def tb (s : Int32) (v : Nat) : Bool := s.toBitVec.getLsbD v
theorem tb_ext {s t : Int32} (h : ∀ v, v < 32 → tb s v = tb t v) : s = t := Int32.toBitVec_inj.mp (BitVec.eq_of_getLsbD_eq h)
theorem tb_and (s t : Int32) (v : Nat) : tb (s &&& t) v = (tb s v && tb t v) := by simp [tb]
theorem tb_or (s t : Int32) (v : Nat) : tb (s ||| t) v = (tb s v || tb t v) := by simp [tb]
theorem tb_xor (s t : Int32) (v : Nat) : tb (s ^^^ t) v = (tb s v ^^ tb t v) := by simp [tb]
theorem tb_0 (v : Nat) : tb 0 v = false := by simp [tb]
theorem tb_m1 {v : Nat} (h : v < 32) : tb (-1) v = true := by
  have : (-1 : Int32).toBitVec = BitVec.allOnes 32 := by decide
  rw [tb, this, BitVec.getLsbD_allOnes]
  exact decide_eq_true h
theorem nI_sh {v : Nat} (h : v < 32) : ((nI v &&& 31).toBitVec.smod 32) = BitVec.ofNat 32 v := by
  have k : ∀ u : Fin 32, ((nI u &&& 31).toBitVec.smod 32) = BitVec.ofNat 32 u := by decide +kernel
  exact k ⟨v, h⟩
theorem tb_shr (s : Int32) {v i : Nat} (h : v + i < 32) : tb (s >>> (nI v &&& 31)) i = tb s (v + i) := by
  rw [tb, Int32.toBitVec_shiftRight, nI_sh (by omega), BitVec.getLsbD_sshiftRight', BitVec.toNat_ofNat]
  have hv : v % 2 ^ 32 = v := Nat.mod_eq_of_lt (by omega)
  rw [hv, if_pos h]
  simp [tb]
  omega
theorem tb_1 (i : Nat) : tb 1 i = decide (i = 0) := by
  simp [tb]
theorem tb_shl1 {v i : Nat} (hv : v < 32) (hi : i < 32) : tb (1 <<< (nI v &&& 31)) i = decide (i = v) := by
  rw [tb, Int32.toBitVec_shiftLeft, nI_sh hv, BitVec.getLsbD_shiftLeft', BitVec.toNat_ofNat]
  have hv2 : v % 2 ^ 32 = v := Nat.mod_eq_of_lt (by omega)
  rw [hv2]
  simp
  by_cases h : i = v
  · simp [h]; omega
  · simp [h]; omega
theorem sh1 (s : Int32) {v : Nat} (h : v < 32) : (s >>> (nI v &&& 31)) &&& 1 = if tb s v then 1 else 0 := by
  apply tb_ext
  intro i hi
  rw [tb_and, tb_1]
  by_cases h0 : i = 0
  · subst h0
    rw [tb_shr s (by omega)]
    simp
    cases tb s v <;> simp [tb_0, tb_1]
  · simp [h0]
    cases tb s v <;> simp [tb_0, tb_1, h0]
/-- the mask of a set -/
def mkB : Nat → (Nat → Bool) → BitVec 32
  | 0, _ => 0
  | n + 1, S => mkB n S ||| (bif S n then BitVec.twoPow 32 n else 0)
theorem mkB_get (S : Nat → Bool) : ∀ (n v : Nat), v < 32 → (mkB n S).getLsbD v = (decide (v < n) && S v)
  | 0, v, _ => by simp [mkB]
  | n + 1, v, h => by
    have ih := mkB_get S n v h
    unfold mkB
    rw [BitVec.getLsbD_or, ih]
    by_cases hv : v = n
    · subst hv
      cases hS : S v <;> simp [BitVec.getLsbD_twoPow, h]
    · have h1 : (bif S n then BitVec.twoPow 32 n else 0).getLsbD v = false := by
        cases S n
        · simp
        · simp [BitVec.getLsbD_twoPow]
          omega
      rw [h1]
      have h2 : decide (v < n + 1) = decide (v < n) := by
        by_cases q : v < n
        · simp [q]; omega
        · simp [q]; omega
      rw [h2]
      simp
def mk (S : Nat → Bool) : Int32 := Int32.ofBitVec (mkB 10 S)
theorem tb_mk (S : Nat → Bool) {v : Nat} (h : v < 32) : tb (mk S) v = (decide (v < 10) && S v) := mkB_get S 10 v h
theorem tb_mk' (S : Nat → Bool) {v : Nat} (h : v < 10) : tb (mk S) v = S v := by rw [tb_mk S (by omega), decide_eq_true h, Bool.true_and]
theorem mk_ext {S T : Nat → Bool} (h : ∀ v, v < 10 → S v = T v) : mk S = mk T := by
  apply tb_ext
  intro v hv
  rw [tb_mk S hv, tb_mk T hv]
  by_cases q : v < 10
  · rw [h v q]
  · simp [q]
theorem mk_eq {s : Int32} {S : Nat → Bool} (h1 : ∀ v, v < 10 → tb s v = S v) (h2 : ∀ v, 10 ≤ v → v < 32 → tb s v = false) : s = mk S := by
  apply tb_ext
  intro v hv
  rw [tb_mk S hv]
  by_cases q : v < 10
  · rw [h1 v q]; simp [q]
  · rw [h2 v (by omega) hv]; simp [q]
theorem mk_inj {S T : Nat → Bool} (h : mk S = mk T) : ∀ v, v < 10 → S v = T v := fun v hv => by rw [← tb_mk' S hv, h, tb_mk' T hv]
theorem mk_and (S T : Nat → Bool) : mk S &&& mk T = mk (fun v => S v && T v) := by
  apply mk_eq
  · intro v hv; rw [tb_and, tb_mk' S hv, tb_mk' T hv]
  · intro v h1 h2; rw [tb_and, tb_mk S h2]; simp [Nat.not_lt.mpr h1]
theorem mk_or (S T : Nat → Bool) : mk S ||| mk T = mk (fun v => S v || T v) := by
  apply mk_eq
  · intro v hv; rw [tb_or, tb_mk' S hv, tb_mk' T hv]
  · intro v h1 h2; rw [tb_or, tb_mk S h2, tb_mk T h2]; simp [Nat.not_lt.mpr h1]
theorem mk_xor (S T : Nat → Bool) : mk S ^^^ mk T = mk (fun v => S v ^^ T v) := by
  apply mk_eq
  · intro v hv; rw [tb_xor, tb_mk' S hv, tb_mk' T hv]
  · intro v h1 h2; rw [tb_xor, tb_mk S h2, tb_mk T h2]; simp [Nat.not_lt.mpr h1]
theorem mk_andn (S T : Nat → Bool) : mk S &&& (mk T ^^^ -1) = mk (fun v => S v && !T v) := by
  apply mk_eq
  · intro v hv; rw [tb_and, tb_xor, tb_m1 (by omega), tb_mk' S hv, tb_mk' T hv]; simp
  · intro v h1 h2; rw [tb_and, tb_mk S h2]; simp [Nat.not_lt.mpr h1]
theorem mk_0 : (0 : Int32) = mk (fun _ => false) := mk_eq (fun v _ => tb_0 v) (fun v _ _ => tb_0 v)
theorem mk_all : (1023 : Int32) = mk (fun _ => true) := by decide +kernel
theorem mk_bit {v : Nat} (h : v < 10) : 1 <<< (nI v &&& 31) = mk (fun u => decide (u = v)) := by
  apply mk_eq
  · intro u hu; rw [tb_shl1 (by omega) (by omega)]
  · intro u h1 h2; rw [tb_shl1 (by omega) h2]; exact decide_eq_false (by omega)
theorem mk_get (S : Nat → Bool) {v : Nat} (h : v < 10) : (mk S >>> (nI v &&& 31)) &&& 1 = if S v then 1 else 0 := by rw [sh1 _ (by omega), tb_mk' S h]
theorem mk_zero {S : Nat → Bool} : mk S = 0 ↔ ∀ v, v < 10 → S v = false := by
  rw [mk_0]
  exact ⟨fun h => mk_inj h, fun h => mk_ext h⟩
/-- the least of a set of vertices; 10 where it is empty -/
def lst (S : Nat → Bool) : Nat → Nat
  | 0 => 10
  | n + 1 => bif S (9 - n) then 9 - n else lst S n
theorem lst_spec (S : Nat → Bool) : ∀ n, n ≤ 10 → (∀ v, 10 - n ≤ v → v < lst S n → v < 10 → S v = false) ∧ (lst S n < 10 → S (lst S n) = true ∧ 10 - n ≤ lst S n) ∧ lst S n ≤ 10
  | 0, _ => ⟨fun v h1 _ h3 => by omega, fun h => by simp [lst] at h, Nat.le_refl _⟩
  | n + 1, h => by
    obtain ⟨h1, h2, h3⟩ := lst_spec S n (by omega)
    unfold lst
    cases hS : S (9 - n) with
    | true => exact ⟨fun v a b c => by simp at b; omega, fun _ => ⟨hS, by simp only [cond_true]; omega⟩, by simp only [cond_true]; omega⟩
    | false =>
      refine ⟨fun v a b c => ?_, fun q => ⟨(h2 q).1, by have := (h2 q).2; simp; omega⟩, h3⟩
      by_cases e : v = 9 - n
      · subst e; exact hS
      · exact h1 v (by omega) b c
/-- the least vertex of a set -/
def low (S : Nat → Bool) : Nat := lst S 10
theorem low_lt {S : Nat → Bool} {v : Nat} (h : v < low S) (hv : v < 10) : S v = false := (lst_spec S 10 (Nat.le_refl _)).1 v (by omega) h hv
theorem low_in {S : Nat → Bool} (h : low S < 10) : S (low S) = true := ((lst_spec S 10 (Nat.le_refl _)).2.1 h).1
theorem low_le (S : Nat → Bool) : low S ≤ 10 := (lst_spec S 10 (Nat.le_refl _)).2.2
theorem low_of {S : Nat → Bool} {v : Nat} (h : S v = true) (hv : v < 10) : low S ≤ v := by
  rcases Nat.lt_or_ge v (low S) with q | q
  · rw [low_lt q hv] at h; cases h
  · exact q
theorem low_eq {S : Nat → Bool} {v : Nat} (hv : v < 10) (h : S v = true) (hl : ∀ u, u < v → S u = false) : low S = v := by
  have h1 := low_of h hv
  rcases Nat.lt_or_ge (low S) v with q | q
  · have := low_in (S := S) (by omega)
    rw [hl _ q] at this; cases this
  · omega
theorem low_ext {S T : Nat → Bool} (h : ∀ v, v < 10 → S v = T v) : low S = low T := by
  rcases Nat.lt_or_ge (low T) 10 with q | q
  · exact low_eq q (by rw [h _ q]; exact low_in q) (fun u hu => by rw [h u (by omega)]; exact low_lt hu (by omega))
  · have h1 := low_le S
    rcases Nat.lt_or_ge (low S) 10 with z | z
    · have h2 := low_in z
      rw [h _ z] at h2
      have := low_of h2 z
      omega
    · have := low_le T
      omega
theorem low_none {S : Nat → Bool} (h : ∀ v, v < 10 → S v = false) : low S = 10 := by
  rcases Nat.lt_or_ge (low S) 10 with q | q
  · have := low_in q
    rw [h _ q] at this; cases this
  · have := low_le S
    omega
end
section
/-! reaching, counted and by closure -/
def anyv (P : Nat → Bool) : Nat → Bool
  | 0 => false
  | n + 1 => anyv P n || P n
theorem anyv_iff {P : Nat → Bool} : ∀ {n : Nat}, anyv P n = true ↔ ∃ u, u < n ∧ P u = true
  | 0 => by simp [anyv]
  | n + 1 => by
    unfold anyv
    rw [Bool.or_eq_true, anyv_iff]
    constructor
    · rintro (⟨u, h1, h2⟩ | h)
      · exact ⟨u, by omega, h2⟩
      · exact ⟨n, by omega, h⟩
    · rintro ⟨u, h1, h2⟩
      by_cases e : u = n
      · subst e; exact Or.inr h2
      · exact Or.inl ⟨u, by omega, h2⟩
theorem anyv_ext {P Q : Nat → Bool} {n : Nat} (h : ∀ u, u < n → P u = Q u) : anyv P n = anyv Q n := by
  cases hq : anyv Q n with
  | true =>
    obtain ⟨u, h1, h2⟩ := anyv_iff.mp hq
    exact anyv_iff.mpr ⟨u, h1, by rw [h u h1]; exact h2⟩
  | false =>
    cases hp : anyv P n with
    | false => rfl
    | true =>
      obtain ⟨u, h1, h2⟩ := anyv_iff.mp hp
      rw [anyv_iff.mpr ⟨u, h1, by rw [← h u h1]; exact h2⟩] at hq
      cases hq
/-- how many below n -/
def cnt (S : Nat → Bool) : Nat → Nat
  | 0 => 0
  | n + 1 => cnt S n + (bif S n then 1 else 0)
theorem cnt_le (S : Nat → Bool) : ∀ n, cnt S n ≤ n
  | 0 => Nat.le_refl _
  | n + 1 => by
    have := cnt_le S n
    unfold cnt
    cases S n <;> simp only [cond_true, cond_false] <;> omega
theorem cnt_mono {S T : Nat → Bool} : ∀ {n : Nat}, (∀ v, v < n → S v = true → T v = true) → cnt S n ≤ cnt T n
  | 0, _ => Nat.le_refl _
  | n + 1, h => by
    have ih := cnt_mono (n := n) (fun v hv => h v (by omega))
    unfold cnt
    cases hS : S n with
    | false => simp only [cond_false]; omega
    | true => rw [h n (by omega) hS]; simp only [cond_true]; omega
theorem cnt_lt {S T : Nat → Bool} : ∀ {n : Nat}, (∀ v, v < n → S v = true → T v = true) → (∃ v, v < n ∧ S v = false ∧ T v = true) → cnt S n < cnt T n
  | 0, _, ⟨v, h, _⟩ => by omega
  | n + 1, h, ⟨v, h1, h2, h3⟩ => by
    unfold cnt
    by_cases e : v = n
    · subst e
      have := cnt_mono (S := S) (T := T) (n := v) (fun u hu => h u (by omega))
      rw [h2, h3]
      simp only [cond_true, cond_false]
      omega
    · have ih := cnt_lt (n := n) (fun u hu => h u (by omega)) ⟨v, by omega, h2, h3⟩
      cases hS : S n with
      | false => simp only [cond_false]; omega
      | true => rw [h n (by omega) hS]; simp only [cond_true]; omega
theorem cnt_all {S : Nat → Bool} : ∀ {n : Nat}, n ≤ cnt S n → ∀ v, v < n → S v = true
  | 0, _, v, h => by omega
  | n + 1, h, v, hv => by
    unfold cnt at h
    have := cnt_le S n
    cases hS : S n with
    | false => rw [hS] at h; simp only [cond_false] at h; omega
    | true =>
      rw [hS] at h
      simp only [cond_true] at h
      by_cases e : v = n
      · subst e; exact hS
      · exact cnt_all (n := n) (by omega) v (by omega)
theorem cnt_ext {S T : Nat → Bool} : ∀ {n : Nat}, (∀ v, v < n → S v = T v) → cnt S n = cnt T n
  | 0, _ => rfl
  | n + 1, h => by
    unfold cnt
    rw [cnt_ext (n := n) (fun v hv => h v (by omega)), h n (by omega)]
/-- the neighbors of a set -/
def nb (G : Nat → Nat → Bool) (X : Nat → Bool) : Nat → Bool := fun v => anyv (fun u => X u && G u v) 10
def rst (G : Nat → Nat → Bool) (A X : Nat → Bool) : Nat → Bool := fun v => X v || (nb G X v && A v)
def rchn (G : Nat → Nat → Bool) (A : Nat → Bool) : Nat → (Nat → Bool) → Nat → Bool
  | 0, X => X
  | n + 1, X => rchn G A n (rst G A X)
/-- what is reached inside A from what of X lies in A -/
def rch (G : Nat → Nat → Bool) (A X : Nat → Bool) : Nat → Bool := rchn G A 10 (fun v => X v && A v)
theorem nb_iff {G : Nat → Nat → Bool} {X : Nat → Bool} {v : Nat} : nb G X v = true ↔ ∃ u, u < 10 ∧ X u = true ∧ G u v = true := by
  unfold nb
  rw [anyv_iff]
  simp only [Bool.and_eq_true]
theorem nb_ext {G : Nat → Nat → Bool} {X Y : Nat → Bool} (h : ∀ v, v < 10 → X v = Y v) (v : Nat) : nb G X v = nb G Y v := anyv_ext fun u hu => by rw [h u hu]
theorem rst_ext {G : Nat → Nat → Bool} {A X Y : Nat → Bool} (h : ∀ v, v < 10 → X v = Y v) : ∀ v, v < 10 → rst G A X v = rst G A Y v := fun v hv => by
  unfold rst
  rw [h v hv, nb_ext h v]
theorem rchn_ext {G : Nat → Nat → Bool} {A : Nat → Bool} : ∀ (n : Nat) {X Y : Nat → Bool}, (∀ v, v < 10 → X v = Y v) → ∀ v, v < 10 → rchn G A n X v = rchn G A n Y v
  | 0, _, _, h => h
  | n + 1, _, _, h => rchn_ext n (rst_ext h)
theorem rchn_fix {G : Nat → Nat → Bool} {A X : Nat → Bool} (h : ∀ v, v < 10 → rst G A X v = X v) : ∀ (n : Nat) (v : Nat), v < 10 → rchn G A n X v = X v
  | 0, _, _ => rfl
  | n + 1, v, hv => by
    unfold rchn
    rw [rchn_ext n h v hv]
    exact rchn_fix h n v hv
theorem rchn_add {G : Nat → Nat → Bool} {A : Nat → Bool} : ∀ (n m : Nat) (X : Nat → Bool), rchn G A (n + m) X = rchn G A m (rchn G A n X)
  | 0, m, X => by rw [Nat.zero_add]; rfl
  | n + 1, m, X => by
    rw [show n + 1 + m = n + m + 1 by omega]
    show rchn G A (n + m) (rst G A X) = rchn G A m (rchn G A n (rst G A X))
    exact rchn_add n m _
theorem rchn_sub {G : Nat → Nat → Bool} {A : Nat → Bool} : ∀ (n : Nat) (X : Nat → Bool) (v : Nat), X v = true → rchn G A n X v = true
  | 0, _, _, h => h
  | n + 1, X, v, h => rchn_sub n _ v (by unfold rst; rw [h]; rfl)
theorem rchn_in {G : Nat → Nat → Bool} {A : Nat → Bool} : ∀ (n : Nat) (X : Nat → Bool), (∀ v, X v = true → A v = true) → ∀ v, rchn G A n X v = true → A v = true
  | 0, _, h => h
  | n + 1, X, h => rchn_in n _ (fun v hv => by
      unfold rst at hv
      rw [Bool.or_eq_true, Bool.and_eq_true] at hv
      rcases hv with hv | hv
      · exact h v hv
      · exact hv.2)
theorem rchn_big (G : Nat → Nat → Bool) (A : Nat → Bool) : ∀ (n : Nat) (X : Nat → Bool), (∀ v, v < 10 → rst G A (rchn G A n X) v = rchn G A n X v) ∨ n ≤ cnt (rchn G A n X) 10
  | 0, X => Or.inr (Nat.zero_le _)
  | n + 1, X => by
    have e : rchn G A (n + 1) X = rst G A (rchn G A n X) := by rw [rchn_add n 1 X]; rfl
    rcases rchn_big G A n X with h | h
    · refine Or.inl (fun v hv => ?_)
      rw [e]
      exact rst_ext h v hv
    · by_cases q : ∀ v, v < 10 → rst G A (rchn G A n X) v = rchn G A n X v
      · refine Or.inl (fun v hv => ?_)
        rw [e]
        exact rst_ext q v hv
      · refine Or.inr ?_
        rw [e]
        have sub : ∀ v, v < 10 → rchn G A n X v = true → rst G A (rchn G A n X) v = true := fun v _ hv => by unfold rst; rw [hv]; rfl
        have ex : ∃ v, v < 10 ∧ rchn G A n X v = false ∧ rst G A (rchn G A n X) v = true := by
          refine Decidable.byContradiction (fun z => q (fun v hv => ?_))
          cases h1 : rchn G A n X v with
          | true => exact sub v hv h1
          | false =>
            cases h2 : rst G A (rchn G A n X) v with
            | false => rfl
            | true => exact absurd ⟨v, hv, h1, h2⟩ z
        have := cnt_lt sub ex
        omega
theorem rch_fix (G : Nat → Nat → Bool) (A X : Nat → Bool) : ∀ v, v < 10 → rst G A (rch G A X) v = rch G A X v := by
  rcases rchn_big G A 10 (fun v => X v && A v) with h | h
  · exact h
  · intro v hv
    have h1 : rch G A X v = true := cnt_all (S := rch G A X) h v hv
    unfold rst
    rw [h1]
    rfl
theorem rch_in {G : Nat → Nat → Bool} {A X : Nat → Bool} {v : Nat} (h : rch G A X v = true) : A v = true := rchn_in 10 _ (fun v hv => by rw [Bool.and_eq_true] at hv; exact hv.2) v h
theorem rch_start {G : Nat → Nat → Bool} {A X : Nat → Bool} {v : Nat} (h : X v = true) (hA : A v = true) : rch G A X v = true := rchn_sub 10 _ v (by rw [h, hA]; rfl)
theorem rch_step {G : Nat → Nat → Bool} {A X : Nat → Bool} {u v : Nat} (hu : u < 10) (hv : v < 10) (h : rch G A X u = true) (hg : G u v = true) (hA : A v = true) : rch G A X v = true := by
  rw [← rch_fix G A X v hv]
  unfold rst
  rw [nb_iff.mpr ⟨u, hu, h, hg⟩, hA]
  simp
theorem rch_ind {G : Nat → Nat → Bool} {A X : Nat → Bool} (P : Nat → Prop) (h0 : ∀ v, v < 10 → X v = true → A v = true → P v) (hs : ∀ u v, u < 10 → v < 10 → P u → G u v = true → A v = true → P v) : ∀ v, v < 10 → rch G A X v = true → P v := by
  have key : ∀ (n : Nat) (Y : Nat → Bool), (∀ v, v < 10 → Y v = true → P v) → ∀ v, v < 10 → rchn G A n Y v = true → P v := by
    intro n
    induction n with
    | zero => exact fun Y h => h
    | succ n ih =>
      intro Y h
      refine ih _ (fun v hv q => ?_)
      unfold rst at q
      rw [Bool.or_eq_true, Bool.and_eq_true] at q
      rcases q with q | ⟨q1, q2⟩
      · exact h v hv q
      · obtain ⟨u, a, b, c⟩ := nb_iff.mp q1
        exact hs u v a hv (h u a b) c q2
  exact key 10 _ (fun v hv q => by rw [Bool.and_eq_true] at q; exact h0 v hv q.1 q.2)
theorem rch_ext {G G' : Nat → Nat → Bool} {A A' X X' : Nat → Bool} (hG : ∀ u v, u < 10 → v < 10 → G u v = G' u v) (hA : ∀ v, v < 10 → A v = A' v) (hX : ∀ v, v < 10 → X v = X' v) : ∀ v, v < 10 → rch G A X v = rch G' A' X' v := by
  have h1 : ∀ {G G' : Nat → Nat → Bool} {A A' X X' : Nat → Bool}, (∀ u v, u < 10 → v < 10 → G u v = G' u v) → (∀ v, v < 10 → A v = A' v) → (∀ v, v < 10 → X v = X' v) → ∀ v, v < 10 → rch G A X v = true → rch G' A' X' v = true := by
    intro G G' A A' X X' hG hA hX
    refine rch_ind _ (fun v hv a b => rch_start (by rw [← hX v hv]; exact a) (by rw [← hA v hv]; exact b)) (fun u v hu hv a b c => rch_step hu hv a (by rw [← hG u v hu hv]; exact b) (by rw [← hA v hv]; exact c))
  intro v hv
  cases h : rch G' A' X' v with
  | true => exact h1 (fun u v a b => (hG u v a b).symm) (fun v a => (hA v a).symm) (fun v a => (hX v a).symm) v hv h
  | false =>
    cases h2 : rch G A X v with
    | false => rfl
    | true => rw [h1 hG hA hX v hv h2] at h; cases h
/-- from one to the other inside A -/
def con (G : Nat → Nat → Bool) (A : Nat → Bool) (x y : Nat) : Prop := rch G A (fun v => decide (v = x)) y = true
theorem con_in {G : Nat → Nat → Bool} {A : Nat → Bool} {x y : Nat} (h : con G A x y) : A y = true := rch_in h
theorem con_rfl {G : Nat → Nat → Bool} {A : Nat → Bool} {x : Nat} (h : A x = true) : con G A x x := rch_start (by simp) h
theorem con_step {G : Nat → Nat → Bool} {A : Nat → Bool} {x y z : Nat} (h : con G A x y) (hy : y < 10) (hz : z < 10) (hg : G y z = true) (hA : A z = true) : con G A x z := rch_step hy hz h hg hA
theorem con_ind {G : Nat → Nat → Bool} {A : Nat → Bool} {x : Nat} (P : Nat → Prop) (h0 : A x = true → P x) (hs : ∀ u v, u < 10 → v < 10 → P u → G u v = true → A v = true → P v) {y : Nat} (hy : y < 10) (h : con G A x y) : P y :=
  rch_ind P (fun v _ a b => by have := of_decide_eq_true a; subst this; exact h0 b) hs y hy h
theorem con_trans {G : Nat → Nat → Bool} {A : Nat → Bool} {x y z : Nat} (h1 : con G A x y) (h2 : con G A y z) (hz : z < 10) : con G A x z :=
  con_ind (fun v => con G A x v) (fun _ => h1) (fun u v a b c d e => con_step c a b d e) hz h2
theorem con_start {G : Nat → Nat → Bool} {A : Nat → Bool} {x y : Nat} (hx : x < 10) (hy : y < 10) (h : con G A x y) : A x = true := by
  refine Decidable.byContradiction (fun z => ?_)
  exact con_ind (G := G) (A := A) (x := x) (fun _ => False) (fun q => z q) (fun _ _ _ _ q _ _ => q) hy h
theorem con_sym {G : Nat → Nat → Bool} {A : Nat → Bool} (hs : ∀ u v, G u v = G v u) {x y : Nat} (hx : x < 10) (hy : y < 10) (h : con G A x y) : con G A y x := by
  have hAx := con_start hx hy h
  have key : A y = true ∧ con G A y x := con_ind (fun v => A v = true ∧ con G A v x) (fun q => ⟨q, con_rfl q⟩) (fun u v hu hv q hg hA => ⟨hA, by
    have h1 : con G A v u := con_step (con_rfl hA) hv hu (by rw [hs]; exact hg) q.1
    exact con_trans h1 q.2 hx⟩) hy h
  exact key.2
theorem con_mono {G : Nat → Nat → Bool} {A B : Nat → Bool} (hAB : ∀ v, v < 10 → A v = true → B v = true) {x y : Nat} (hx : x < 10) (hy : y < 10) (h : con G A x y) : con G B x y :=
  con_ind (fun v => con G B x v) (fun q => con_rfl (hAB x hx q)) (fun u v a b c d e => con_step c a b d (hAB v b e)) hy h
theorem rch_con {G : Nat → Nat → Bool} {A X : Nat → Bool} {y : Nat} (hy : y < 10) : rch G A X y = true ↔ ∃ x, x < 10 ∧ X x = true ∧ A x = true ∧ con G A x y := by
  constructor
  · intro h
    exact rch_ind (fun v => ∃ x, x < 10 ∧ X x = true ∧ A x = true ∧ con G A x v) (fun v hv a b => ⟨v, hv, a, b, con_rfl b⟩) (fun u v hu hv ⟨x, a, b, c, d⟩ e f => ⟨x, a, b, c, con_step d hu hv e f⟩) y hy h
  · rintro ⟨x, a, b, c, d⟩
    exact con_ind (fun v => rch G A X v = true) (fun _ => rch_start b c) (fun u v hu hv q e f => rch_step hu hv q e f) hy d
end
section
/-! blocks: the vertices that no other vertex parts from an edge -/
def gok (G : Nat → Nat → Bool) : Prop := (∀ u v, G u v = G v u) ∧ (∀ v, G v v = false) ∧ ∀ u v, G u v = true → u < 10 ∧ v < 10
def ally (P : Nat → Bool) : Nat → Bool
  | 0 => true
  | n + 1 => ally P n && P n
theorem ally_iff {P : Nat → Bool} : ∀ {n : Nat}, ally P n = true ↔ ∀ u, u < n → P u = true
  | 0 => by simp [ally]
  | n + 1 => by
    unfold ally
    rw [Bool.and_eq_true, ally_iff]
    constructor
    · rintro ⟨h1, h2⟩ u hu
      by_cases e : u = n
      · subst e; exact h2
      · exact h1 u (by omega)
    · exact fun h => ⟨fun u hu => h u (by omega), h n (by omega)⟩
/-- all but u -/
def but (u : Nat) : Nat → Bool := fun v => !decide (v = u)
theorem but_iff {u v : Nat} : but u v = true ↔ v ≠ u := by simp [but]
def two (a b : Nat) : Nat → Bool := fun v => decide (v = a) || decide (v = b)
theorem two_iff {a b v : Nat} : two a b v = true ↔ v = a ∨ v = b := by simp [two]
/-- the block of the edge a - b -/
def Bs (G : Nat → Nat → Bool) (a b : Nat) : Nat → Bool := fun v => ally (fun u => decide (v = u) || rch G (but u) (two a b) v) 10
theorem Bs_iff {G : Nat → Nat → Bool} {a b v : Nat} (ha : a < 10) (hb : b < 10) (hv : v < 10) : Bs G a b v = true ↔ ∀ u, u < 10 → v ≠ u → (a ≠ u ∧ con G (but u) a v) ∨ (b ≠ u ∧ con G (but u) b v) := by
  unfold Bs
  rw [ally_iff]
  constructor
  · intro h u hu hne
    have := h u hu
    rw [Bool.or_eq_true, decide_eq_true_eq] at this
    rcases this with e | e
    · exact absurd e hne
    · obtain ⟨x, hx, h1, h2, h3⟩ := (rch_con hv).mp e
      rcases two_iff.mp h1 with rfl | rfl
      · exact Or.inl ⟨but_iff.mp h2, h3⟩
      · exact Or.inr ⟨but_iff.mp h2, h3⟩
  · intro h u hu
    rw [Bool.or_eq_true, decide_eq_true_eq]
    by_cases e : v = u
    · exact Or.inl e
    · refine Or.inr ((rch_con hv).mpr ?_)
      rcases h u hu e with ⟨h1, h2⟩ | ⟨h1, h2⟩
      · exact ⟨a, ha, two_iff.mpr (Or.inl rfl), but_iff.mpr h1, h2⟩
      · exact ⟨b, hb, two_iff.mpr (Or.inr rfl), but_iff.mpr h1, h2⟩
section
variable {G : Nat → Nat → Bool} {a b : Nat}
theorem Bs_a (hg : gok G) (hab : G a b = true) : Bs G a b a = true := by
  obtain ⟨ha, hb⟩ := hg.2.2 a b hab
  exact (Bs_iff ha hb ha).mpr (fun u _ hne => Or.inl ⟨hne, con_rfl (but_iff.mpr hne)⟩)
theorem Bs_b (hg : gok G) (hab : G a b = true) : Bs G a b b = true := by
  obtain ⟨ha, hb⟩ := hg.2.2 a b hab
  exact (Bs_iff ha hb hb).mpr (fun u _ hne => Or.inr ⟨hne, con_rfl (but_iff.mpr hne)⟩)
theorem con_edge {u x y : Nat} (hg : gok G) (h : G x y = true) (hx : x ≠ u) (hy : y ≠ u) : con G (but u) x y := by
  obtain ⟨h1, h2⟩ := hg.2.2 x y h
  exact con_step (con_rfl (but_iff.mpr hx)) h1 h2 h (but_iff.mpr hy)
/-- two vertices of a block stay joined without a third -/
theorem Bs_con (hg : gok G) (hab : G a b = true) {x y u : Nat} (hx : x < 10) (hy : y < 10) (hu : u < 10) (h1 : Bs G a b x = true) (h2 : Bs G a b y = true) (hxu : x ≠ u) (hyu : y ≠ u) : con G (but u) x y := by
  obtain ⟨ha, hb⟩ := hg.2.2 a b hab
  have e1 := (Bs_iff ha hb hx).mp h1 u hu hxu
  have e2 := (Bs_iff ha hb hy).mp h2 u hu hyu
  have ba : b ≠ u → a ≠ u → con G (but u) b a := fun p q => con_edge hg (by rw [hg.1]; exact hab) p q
  have ab : b ≠ u → a ≠ u → con G (but u) a b := fun p q => con_edge hg hab q p
  rcases e1 with ⟨n1, c1⟩ | ⟨n1, c1⟩ <;> rcases e2 with ⟨n2, c2⟩ | ⟨n2, c2⟩
  · exact con_trans (con_sym hg.1 ha hx c1) c2 hy
  · exact con_trans (con_trans (con_sym hg.1 ha hx c1) (ab n2 n1) hb) c2 hy
  · exact con_trans (con_trans (con_sym hg.1 hb hx c1) (ba n1 n2) ha) c2 hy
  · exact con_trans (con_sym hg.1 hb hx c1) c2 hy
/-- T1: an edge at v whose other end is joined without v to a neighbor x of the block -/
theorem Bs_T1 (hg : gok G) (hab : G a b = true) {v x y : Nat} (hv : v < 10) (hx : x < 10) (hy : y < 10) (h1 : Bs G a b v = true) (h2 : Bs G a b x = true) (hvy : G v y = true) (hxv : x ≠ v) (hc : con G (but v) x y) : Bs G a b y = true := by
  obtain ⟨ha, hb⟩ := hg.2.2 a b hab
  refine (Bs_iff ha hb hy).mpr (fun u hu hne => ?_)
  by_cases e : u = v
  · subst e
    rcases (Bs_iff ha hb hx).mp h2 u hu hxv with ⟨n, c⟩ | ⟨n, c⟩
    · exact Or.inl ⟨n, con_trans c hc hy⟩
    · exact Or.inr ⟨n, con_trans c hc hy⟩
  · rcases (Bs_iff ha hb hv).mp h1 u hu (fun z => e z.symm) with ⟨n, c⟩ | ⟨n, c⟩
    · exact Or.inl ⟨n, con_step c hv hy hvy (but_iff.mpr hne)⟩
    · exact Or.inr ⟨n, con_step c hv hy hvy (but_iff.mpr hne)⟩
/-- the least relation that holds the edge and what is joined to it around a vertex -/
def Cl (G : Nat → Nat → Bool) (a b : Nat) (c d : Nat) : Prop := ∀ R : Nat → Nat → Prop, R a b → (∀ x y, R x y → R y x) → (∀ v x y, v < 10 → x < 10 → y < 10 → R v x → G v x = true → G v y = true → con G (but v) x y → R v y) → R c d
theorem Cl_0 : Cl G a b a b := fun _ h _ _ => h
theorem Cl_sym {c d : Nat} (h : Cl G a b c d) : Cl G a b d c := fun R h1 h2 h3 => h2 _ _ (h R h1 h2 h3)
theorem Cl_J {v x y : Nat} (hv : v < 10) (hx : x < 10) (hy : y < 10) (h : Cl G a b v x) (h1 : G v x = true) (h2 : G v y = true) (hc : con G (but v) x y) : Cl G a b v y := fun R r1 r2 r3 => r3 v x y hv hx hy (h R r1 r2 r3) h1 h2 hc
theorem Cl_in (hg : gok G) (hab : G a b = true) {c d : Nat} (h : Cl G a b c d) : G c d = true ∧ Bs G a b c = true ∧ Bs G a b d = true := by
  refine h (fun c d => G c d = true ∧ Bs G a b c = true ∧ Bs G a b d = true) ⟨hab, Bs_a hg hab, Bs_b hg hab⟩ (fun x y q => ⟨by rw [hg.1]; exact q.1, q.2.2, q.2.1⟩) (fun v x y hv hx hy q q1 q2 q3 => ?_)
  have hxv : x ≠ v := by
    intro e
    subst e
    rw [hg.2.1] at q1
    cases q1
  exact ⟨q2, q.2.1, Bs_T1 hg hab hv hx hy q.2.1 q.2.2 q2 hxv q3⟩
/-- is an end of an edge of the relation -/
def Cv (G : Nat → Nat → Bool) (a b : Nat) (c : Nat) : Prop := ∃ d, Cl G a b c d
theorem Cv_lt (hg : gok G) (hab : G a b = true) {c : Nat} (h : Cv G a b c) : c < 10 := by
  obtain ⟨d, h⟩ := h
  exact (hg.2.2 _ _ (Cl_in hg hab h).1).1
/-- what hangs at v: reached from a neighbor of v outside the relation, outside of it -/
def Hg (G : Nat → Nat → Bool) (V : Nat → Prop) (v w : Nat) : Prop := ∃ x1, x1 < 10 ∧ G v x1 = true ∧ ¬ V x1 ∧ ∀ P : Nat → Prop, P x1 → (∀ y z, y < 10 → z < 10 → P y → G y z = true → ¬ V z → P z) → P w
theorem Hg_out {V : Nat → Prop} {v w : Nat} (h : Hg G V v w) : ¬ V w := by
  obtain ⟨x1, h0, h1, h2, h3⟩ := h
  exact h3 (fun w => ¬ V w) h2 (fun _ _ _ _ _ _ q => q)
theorem Hg_step {V : Nat → Prop} {v w z : Nat} (hw : w < 10) (hz : z < 10) (h : Hg G V v w) (hg : G w z = true) (hv : ¬ V z) : Hg G V v z := by
  obtain ⟨x1, h0, h1, h2, h3⟩ := h
  exact ⟨x1, h0, h1, h2, fun P p1 p2 => p2 w z hw hz (h3 P p1 p2) hg hv⟩
theorem Hg_con {V : Nat → Prop} {v w : Nat} (hv : V v) (h : Hg G V v w) : ∃ x1, x1 < 10 ∧ G v x1 = true ∧ ¬ V x1 ∧ con G (but v) x1 w := by
  obtain ⟨x1, h0, h1, h2, h3⟩ := h
  have n0 : x1 ≠ v := fun e => h2 (e ▸ hv)
  exact ⟨x1, h0, h1, h2, h3 (fun w => con G (but v) x1 w) (con_rfl (but_iff.mpr n0)) (fun y z hy hz q g nz => con_step q hy hz g (but_iff.mpr (fun e => nz (e ▸ hv))))⟩
/-- every vertex of the block is an end of an edge of the relation -/
theorem Bs_Cv (hg : gok G) (hab : G a b = true) {w : Nat} (hw : w < 10) (h : Bs G a b w = true) : Cv G a b w := by
  obtain ⟨ha, hb⟩ := hg.2.2 a b hab
  refine Classical.byContradiction (fun hn => ?_)
  have hane : a ≠ b := by
    intro e
    subst e
    rw [hg.2.1] at hab
    cases hab
  -- reached from a or b, without some third vertex or none
  have hwa : w ≠ a := fun e => hn ⟨b, e ▸ Cl_0⟩
  have step : ∀ u, u < 10 → w ≠ u → (a ≠ u ∨ b ≠ u) → Cv G a b w ∨ ∃ v, Cv G a b v ∧ Hg G (Cv G a b) v w := by
    intro u hu hne _
    have ind : ∀ x, Cv G a b x → con G (but u) x w → Cv G a b w ∨ ∃ v, Cv G a b v ∧ Hg G (Cv G a b) v w := by
      intro x hx hc
      refine con_ind (fun z => Cv G a b z ∨ ∃ v, Cv G a b v ∧ Hg G (Cv G a b) v z) (fun _ => Or.inl hx) (fun y z hy hz q g _ => ?_) hw hc
      by_cases hzv : Cv G a b z
      · exact Or.inl hzv
      · refine Or.inr ?_
        rcases q with q | ⟨v, q1, q2⟩
        · exact ⟨y, q, z, hz, g, hzv, fun P p1 _ => p1⟩
        · exact ⟨v, q1, Hg_step hy hz q2 g hzv⟩
    rcases (Bs_iff ha hb hw).mp h u hu hne with ⟨_, c⟩ | ⟨_, c⟩
    · exact ind a ⟨b, Cl_0⟩ c
    · exact ind b ⟨a, Cl_sym Cl_0⟩ c
  rcases step a ha hwa (Or.inr (fun e => hane e.symm)) with q | ⟨v, hv, hh⟩
  · exact hn q
  · have hv10 := Cv_lt hg hab hv
    obtain ⟨x1, x10, g1, nx, hc⟩ := Hg_con hv hh
    have hwv : w ≠ v := fun e => hn (e ▸ hv)
    obtain ⟨c0, hc0⟩ := hv
    obtain ⟨gc, bv, bc⟩ := Cl_in hg hab hc0
    have hc10 := (hg.2.2 _ _ gc).2
    have hcv : c0 ≠ v := by
      intro e
      subst e
      rw [hg.2.1] at gc
      cases gc
    have k1 := Bs_con hg hab hc10 hw hv10 bc h hcv hwv
    have k2 : con G (but v) c0 x1 := con_trans k1 (con_sym hg.1 x10 hw hc) x10
    exact nx ⟨v, Cl_sym (Cl_J hv10 hc10 x10 hc0 gc g1 k2)⟩
/-- T2: the edges between vertices of the block are those of the relation -/
theorem Bs_Cl (hg : gok G) (hab : G a b = true) {c d : Nat} (hcd : G c d = true) (h1 : Bs G a b c = true) (h2 : Bs G a b d = true) : Cl G a b c d := by
  obtain ⟨hc, hd⟩ := hg.2.2 c d hcd
  obtain ⟨e, he⟩ := Bs_Cv hg hab hc h1
  obtain ⟨ge, _, be⟩ := Cl_in hg hab he
  have he10 := (hg.2.2 _ _ ge).2
  have n1 : e ≠ c := by
    intro z
    subst z
    rw [hg.2.1] at ge
    cases ge
  have n2 : d ≠ c := by
    intro z
    subst z
    rw [hg.2.1] at hcd
    cases hcd
  exact Cl_J hc he10 hd he ge hcd (Bs_con hg hab he10 hd hc be h2 n1 n2)
/-- T3: a neighbor outside hangs at one vertex alone -/
theorem Bs_T3 (hg : gok G) (hab : G a b = true) {p x z : Nat} (hp : p < 10) (hx : x < 10) (hz : z < 10) (h1 : Bs G a b p = true) (h2 : Bs G a b z = true) (hzp : z ≠ p) (hpx : G p x = true) (hc : con G (but p) x z) : Bs G a b x = true := by
  obtain ⟨c0, hc0⟩ := Bs_Cv hg hab hp h1
  obtain ⟨gc, _, bc⟩ := Cl_in hg hab hc0
  have hc10 := (hg.2.2 _ _ gc).2
  have hcp : c0 ≠ p := by
    intro e
    subst e
    rw [hg.2.1] at gc
    cases gc
  have k := Bs_con hg hab hc10 hz hp bc h2 hcp hzp
  exact Bs_T1 hg hab hp hc10 hx h1 bc hpx hcp (con_trans k (con_sym hg.1 hx hz hc) hx)
/-- F2: without one of its vertices a block is still in one piece, by paths inside it -/
theorem Bs_two (hg : gok G) (hab : G a b = true) {x y u : Nat} (hx : x < 10) (hy : y < 10) (hu : u < 10) (h1 : Bs G a b x = true) (h2 : Bs G a b y = true) (hxu : x ≠ u) (hyu : y ≠ u) : con G (fun v => Bs G a b v && but u v) x y := by
  have hA : ∀ {v : Nat}, Bs G a b v = true → v ≠ u → (fun v => Bs G a b v && but u v) v = true := fun p q => by
    show (_ && _) = true
    rw [p, but_iff.mpr q]
    rfl
  have main : (Bs G a b y = true ∧ con G (fun v => Bs G a b v && but u v) x y) ∨ ∃ p, p < 10 ∧ Bs G a b p = true ∧ p ≠ u ∧ con G (fun v => Bs G a b v && but u v) x p ∧ Hg G (fun v => Bs G a b v = true) p y := by
    refine con_ind (fun y => (Bs G a b y = true ∧ con G (fun v => Bs G a b v && but u v) x y) ∨ ∃ p, p < 10 ∧ Bs G a b p = true ∧ p ≠ u ∧ con G (fun v => Bs G a b v && but u v) x p ∧ Hg G (fun v => Bs G a b v = true) p y) (fun _ => Or.inl ⟨h1, con_rfl (hA h1 hxu)⟩) (fun z z' hz hz' q g hz'u => ?_) hy (Bs_con hg hab hx hy hu h1 h2 hxu hyu)
    have nz'u := but_iff.mp hz'u
    rcases q with ⟨q1, q2⟩ | ⟨p, p1, p2, p3, p4, p5⟩
    · cases hb : Bs G a b z' with
      | true => exact Or.inl ⟨rfl, con_step q2 hz hz' g (hA hb nz'u)⟩
      | false =>
        have nzu : z ≠ u := by
          have := con_in q2
          rw [Bool.and_eq_true] at this
          exact but_iff.mp this.2
        exact Or.inr ⟨z, hz, q1, nzu, q2, z', hz', g, (fun t => by rw [show Bs G a b z' = true from t] at hb; cases hb), fun P r1 _ => r1⟩
    · cases hb : Bs G a b z' with
      | false => exact Or.inr ⟨p, p1, p2, p3, p4, Hg_step hz hz' p5 g (fun t => by rw [show Bs G a b z' = true from t] at hb; cases hb)⟩
      | true =>
        by_cases e : z' = p
        · subst e
          exact Or.inl ⟨rfl, p4⟩
        · obtain ⟨x1, x10, g1, nx, hc⟩ := Hg_con (V := fun v => Bs G a b v = true) p2 p5
          exact absurd (Bs_T3 hg hab p1 x10 hz' p2 hb e g1 (con_step hc hz hz' g (but_iff.mpr e))) nx
  rcases main with ⟨_, q⟩ | ⟨p, _, _, _, _, q⟩
  · exact q
  · exact absurd h2 (Hg_out q)
/-- the block of any of its edges is the same -/
theorem Bs_same (hg : gok G) (hab : G a b = true) {c d : Nat} (hcd : G c d = true) (h1 : Bs G a b c = true) (h2 : Bs G a b d = true) : ∀ v, v < 10 → Bs G c d v = Bs G a b v := by
  obtain ⟨ha, hb⟩ := hg.2.2 a b hab
  obtain ⟨hc, hd⟩ := hg.2.2 c d hcd
  have ncd : c ≠ d := by
    intro z
    subst z
    rw [hg.2.1] at hcd
    cases hcd
  have sub : ∀ v, v < 10 → Bs G a b v = true → Bs G c d v = true := by
    intro v hv h
    refine (Bs_iff hc hd hv).mpr (fun u hu hne => ?_)
    by_cases e : c = u
    · have e2 : d ≠ u := fun z => ncd (e.trans z.symm)
      exact Or.inr ⟨e2, Bs_con hg hab hd hv hu h2 h e2 hne⟩
    · exact Or.inl ⟨e, Bs_con hg hab hc hv hu h1 h e hne⟩
  have a2 := sub a ha (Bs_a hg hab)
  have b2 := sub b hb (Bs_b hg hab)
  have nab : a ≠ b := by
    intro z
    subst z
    rw [hg.2.1] at hab
    cases hab
  intro v hv
  cases h : Bs G a b v with
  | true => exact sub v hv h
  | false =>
    cases h3 : Bs G c d v with
    | false => rfl
    | true =>
      have : Bs G a b v = true := by
        refine (Bs_iff ha hb hv).mpr (fun u hu hne => ?_)
        by_cases e : a = u
        · have e2 : b ≠ u := fun z => nab (e.trans z.symm)
          exact Or.inr ⟨e2, Bs_con hg hcd hb hv hu b2 h3 e2 hne⟩
        · exact Or.inl ⟨e, Bs_con hg hcd ha hv hu a2 h3 e hne⟩
      rw [this] at h
      cases h
end
end
section
/-! lists read as cycles -/
abbrev xPr : Type := Nat × Nat
def pd : List Nat → List xPr
  | x :: y :: t => (x, y) :: pd (y :: t)
  | _ => []
/-- the pairs of a vertex and the one behind it -/
def dts : List Nat → List xPr
  | [] => []
  | x :: t => pd (x :: t ++ [x])
theorem pd_app : ∀ (A : List Nat) (m : Nat) (B : List Nat), pd (A ++ m :: B) = pd (A ++ [m]) ++ pd (m :: B)
  | [], m, B => rfl
  | [a], m, B => rfl
  | a :: a2 :: A, m, B => by
    have := pd_app (a2 :: A) m B
    show (a, a2) :: pd (a2 :: A ++ m :: B) = (a, a2) :: (pd (a2 :: A ++ [m]) ++ pd (m :: B))
    rw [this]
theorem pd_len : ∀ (x : Nat) (l : List Nat), (pd (x :: l)).length = l.length
  | _, [] => rfl
  | x, y :: t => by
    show (pd (y :: t)).length + 1 = t.length + 1
    rw [pd_len y t]
theorem dts_len : ∀ l : List Nat, (dts l).length = l.length
  | [] => rfl
  | x :: t => by
    show (pd (x :: (t ++ [x]))).length = _
    rw [pd_len]
    simp
theorem pd_rev : ∀ (l : List Nat) (p : xPr), p ∈ pd l.reverse ↔ (p.2, p.1) ∈ pd l
  | [], p => by simp [pd]
  | [x], p => by simp [pd]
  | x :: y :: t, p => by
    have ih := pd_rev (y :: t) p
    have e : (x :: y :: t).reverse = t.reverse ++ y :: [x] := by simp
    have e2 : (y :: t).reverse = t.reverse ++ [y] := by simp
    rw [e, pd_app, List.mem_append, ← e2, ih]
    show _ ∨ p ∈ [(y, x)] ↔ (p.2, p.1) ∈ (x, y) :: pd (y :: t)
    rw [List.mem_singleton, List.mem_cons]
    constructor
    · rintro (h | h)
      · exact Or.inr h
      · subst h; exact Or.inl rfl
    · rintro (h | h)
      · refine Or.inr ?_
        have h1 := congrArg Prod.fst h
        have h2 := congrArg Prod.snd h
        exact Prod.ext h2 h1
      · exact Or.inl h
theorem pd_mem : ∀ {l : List Nat} {p : xPr}, p ∈ pd l → p.1 ∈ l ∧ p.2 ∈ l
  | x :: y :: t, p, h => by
    rcases List.mem_cons.mp h with h | h
    · subst h; exact ⟨List.mem_cons_self, List.mem_cons_of_mem _ List.mem_cons_self⟩
    · have := pd_mem (l := y :: t) h
      exact ⟨List.mem_cons_of_mem _ this.1, List.mem_cons_of_mem _ this.2⟩
  | [_], p, h => by cases h
  | [], p, h => by cases h
theorem dts_mem {l : List Nat} {p : xPr} (h : p ∈ dts l) : p.1 ∈ l ∧ p.2 ∈ l := by
  cases l with
  | nil => cases h
  | cons x t =>
    have := pd_mem h
    simp only [List.cons_append, List.mem_cons, List.mem_append, List.not_mem_nil, or_false] at this
    have k : ∀ z : Nat, (z = x ∨ z ∈ t ∨ z = x) → z ∈ x :: t := fun z q => by
      rcases q with q | q | q
      · exact q ▸ List.mem_cons_self
      · exact List.mem_cons_of_mem _ q
      · exact q ▸ List.mem_cons_self
    exact ⟨k _ this.1, k _ this.2⟩
/-- first places of the pairs -/
theorem pd_fst : ∀ (x : Nat) (l : List Nat), (pd (x :: l)).map Prod.fst = (x :: l).dropLast
  | _, [] => rfl
  | x, y :: t => by
    show x :: (pd (y :: t)).map Prod.fst = _
    rw [pd_fst y t]
    rfl
theorem pd_snd : ∀ (x : Nat) (l : List Nat), (pd (x :: l)).map Prod.snd = l
  | _, [] => rfl
  | x, y :: t => by
    show y :: (pd (y :: t)).map Prod.snd = _
    rw [pd_snd y t]
theorem dts_fst (l : List Nat) : (dts l).map Prod.fst = l := by
  cases l with
  | nil => rfl
  | cons x t =>
    show (pd (x :: (t ++ [x]))).map Prod.fst = _
    rw [pd_fst]
    simp [List.dropLast_cons_of_ne_nil]
theorem dts_snd (x : Nat) (t : List Nat) : (dts (x :: t)).map Prod.snd = t ++ [x] := by
  show (pd (x :: (t ++ [x]))).map Prod.snd = _
  rw [pd_snd]
theorem nodup_map_inj {l : List xPr} {f : xPr → Nat} (h : (l.map f).Nodup) : ∀ p q, p ∈ l → q ∈ l → f p = f q → p = q := by
  induction l with
  | nil => intro p q hp; cases hp
  | cons a t ih =>
    rw [List.map_cons, List.nodup_cons] at h
    intro p q hp hq e
    rcases List.mem_cons.mp hp with rfl | hp2 <;> rcases List.mem_cons.mp hq with rfl | hq2
    · rfl
    · exact absurd (by rw [e]; exact List.mem_map.mpr ⟨q, hq2, rfl⟩) h.1
    · exact absurd (by rw [← e]; exact List.mem_map.mpr ⟨p, hp2, rfl⟩) h.1
    · exact ih h.2 p q hp2 hq2 e
theorem dts_fun {l : List Nat} (h : l.Nodup) {x y y' : Nat} (h1 : (x, y) ∈ dts l) (h2 : (x, y') ∈ dts l) : y = y' :=
  congrArg Prod.snd (nodup_map_inj (f := Prod.fst) (by rw [dts_fst]; exact h) _ _ h1 h2 rfl)
theorem dts_inj {l : List Nat} (h : l.Nodup) {x x' y : Nat} (h1 : (x, y) ∈ dts l) (h2 : (x', y) ∈ dts l) : x = x' := by
  cases l with
  | nil => cases h1
  | cons a t =>
    have hn : ((dts (a :: t)).map Prod.snd).Nodup := by
      rw [dts_snd]
      have := List.nodup_cons.mp h
      exact List.nodup_append.mpr ⟨this.2, List.nodup_cons.mpr ⟨List.not_mem_nil, List.nodup_nil⟩, fun u hu v hv e => by
        rw [List.mem_singleton] at hv
        subst hv
        subst e
        exact this.1 hu⟩
    exact congrArg Prod.fst (nodup_map_inj (f := Prod.snd) hn _ _ h1 h2 rfl)
theorem dts_nodup {l : List Nat} (h : l.Nodup) : (dts l).Nodup := by
  have h1 : ((dts l).map Prod.fst).Nodup := by rw [dts_fst]; exact h
  generalize dts l = m at h1
  induction m with
  | nil => exact List.nodup_nil
  | cons a t ih =>
    rw [List.map_cons, List.nodup_cons] at h1
    exact List.nodup_cons.mpr ⟨fun z => h1.1 (List.mem_map.mpr ⟨a, z, rfl⟩), ih h1.2⟩
theorem dts_ex {l : List Nat} {x : Nat} (h : x ∈ l) : ∃ y, (x, y) ∈ dts l := by
  rw [← dts_fst l] at h
  obtain ⟨p, h1, h2⟩ := List.mem_map.mp h
  exact ⟨p.2, by rw [← h2]; exact h1⟩
/-- turned: the same cycle -/
theorem dts_rot (A B : List Nat) (p : xPr) : p ∈ dts (A ++ B) ↔ p ∈ dts (B ++ A) := by
  cases A with
  | nil => rw [List.append_nil]; rfl
  | cons a A =>
    cases B with
    | nil => rw [List.append_nil]; rfl
    | cons b B =>
      have e1 : dts (a :: A ++ b :: B) = pd (a :: A ++ [b]) ++ pd (b :: (B ++ [a])) := by
        show pd (a :: (A ++ b :: B) ++ [a]) = _
        have : a :: (A ++ b :: B) ++ [a] = (a :: A) ++ b :: (B ++ [a]) := by simp
        rw [this, pd_app]
      have e2 : dts (b :: B ++ a :: A) = pd (b :: B ++ [a]) ++ pd (a :: (A ++ [b])) := by
        show pd (b :: (B ++ a :: A) ++ [b]) = _
        have : b :: (B ++ a :: A) ++ [b] = (b :: B) ++ a :: (A ++ [b]) := by simp
        rw [this, pd_app]
      rw [e1, e2, List.mem_append, List.mem_append]
      exact or_comm
theorem dts_rot_len (A B : List Nat) : (dts (A ++ B)).length = (dts (B ++ A)).length := by
  rw [dts_len, dts_len, List.length_append, List.length_append, Nat.add_comm]
/-- the pairs, by places -/
theorem pd_get : ∀ (l : List Nat) (i : Nat) (x y : Nat), l[i]? = some x → l[i + 1]? = some y → (x, y) ∈ pd l
  | a :: b :: t, 0, x, y, h1, h2 => by
    simp at h1 h2
    subst h1; subst h2
    exact List.mem_cons_self
  | a :: b :: t, i + 1, x, y, h1, h2 => List.mem_cons_of_mem _ (pd_get (b :: t) i x y h1 h2)
  | [a], i, x, y, h1, h2 => by
    cases i with
    | zero => simp at h2
    | succ i => simp at h1
  | [], i, x, y, h1, h2 => by simp at h1
theorem dts_get {l : List Nat} {i x y : Nat} (h1 : l[i]? = some x) (h2 : l[(i + 1) % l.length]? = some y) : (x, y) ∈ dts l := by
  have hi := (List.getElem?_eq_some_iff.mp h1).1
  cases l with
  | nil => simp at h1
  | cons a t =>
    refine pd_get _ i x y (by rw [List.getElem?_append_left (by exact hi)]; exact h1) ?_
    by_cases e : i + 1 < (a :: t).length
    · rw [Nat.mod_eq_of_lt e] at h2
      rw [List.getElem?_append_left e]
      exact h2
    · have e2 : i + 1 = (a :: t).length := by omega
      rw [e2, Nat.mod_self] at h2
      rw [e2, List.getElem?_append_right (Nat.le_refl _), Nat.sub_self]
      simpa using h2
end
section
/-! shortest paths, layer by layer from the targets -/
/-- the layer k and what is left of A behind it -/
def lyr (H : Nat → Nat → Bool) (A T : Nat → Bool) : Nat → (Nat → Bool) × (Nat → Bool)
  | 0 => (T, A)
  | k + 1 => (fun v => nb H (lyr H A T k).1 v && (lyr H A T k).2 v, fun v => (lyr H A T k).2 v && !(nb H (lyr H A T k).1 v && (lyr H A T k).2 v))
def lay (H : Nat → Nat → Bool) (A T : Nat → Bool) (k : Nat) : Nat → Bool := (lyr H A T k).1
def lft (H : Nat → Nat → Bool) (A T : Nat → Bool) (k : Nat) : Nat → Bool := (lyr H A T k).2
section
variable {H : Nat → Nat → Bool} {A T : Nat → Bool}
theorem lay_0 : lay H A T 0 = T := rfl
theorem lay_s {k v : Nat} : lay H A T (k + 1) v = (nb H (lay H A T k) v && lft H A T k v) := rfl
theorem lft_s {k v : Nat} : lft H A T (k + 1) v = (lft H A T k v && !lay H A T (k + 1) v) := rfl
theorem lft_A : ∀ {k v : Nat}, lft H A T k v = true → A v = true
  | 0, _, h => h
  | k + 1, v, h => by
    rw [lft_s, Bool.and_eq_true] at h
    exact lft_A h.1
theorem lay_A {k v : Nat} (hk : 1 ≤ k) (h : lay H A T k v = true) : A v = true := by
  obtain ⟨j, rfl⟩ : ∃ j, k = j + 1 := ⟨k - 1, by omega⟩
  rw [lay_s, Bool.and_eq_true] at h
  exact lft_A h.2
theorem lft_no : ∀ {k v : Nat}, lft H A T k v = true → ∀ j, 1 ≤ j → j ≤ k → lay H A T j v = false
  | 0, _, _, j, h1, h2 => by omega
  | k + 1, v, h, j, h1, h2 => by
    rw [lft_s, Bool.and_eq_true] at h
    by_cases e : j = k + 1
    · subst e
      simpa using h.2
    · exact lft_no h.1 j h1 (by omega)
theorem lay_apart {i j v : Nat} (hi : 1 ≤ i) (hij : i < j) (h : lay H A T j v = true) : lay H A T i v = false := by
  obtain ⟨m, rfl⟩ : ∃ m, j = m + 1 := ⟨j - 1, by omega⟩
  rw [lay_s, Bool.and_eq_true] at h
  exact lft_no h.2 i hi (by omega)
theorem lft_or : ∀ {k v : Nat}, A v = true → lft H A T k v = true ∨ ∃ j, 1 ≤ j ∧ j ≤ k ∧ lay H A T j v = true
  | 0, _, h => Or.inl h
  | k + 1, v, h => by
    rcases lft_or (k := k) h with q | ⟨j, q1, q2, q3⟩
    · cases e : lay H A T (k + 1) v with
      | true => exact Or.inr ⟨k + 1, by omega, Nat.le_refl _, e⟩
      | false => exact Or.inl (by rw [lft_s, q, e]; rfl)
    · exact Or.inr ⟨j, q1, by omega, q3⟩
theorem lay_back {k v : Nat} (h : lay H A T (k + 1) v = true) : ∃ u, u < 10 ∧ lay H A T k u = true ∧ H u v = true := by
  rw [lay_s, Bool.and_eq_true] at h
  exact nb_iff.mp h.1
/-- all that is joined with a neighbor of a target lies in some layer -/
theorem lay_all {x y : Nat} (hx : x < 10) (hy : y < 10) (hc : con H A x y) (ht : ∃ t, t < 10 ∧ T t = true ∧ H t x = true) : ∃ k, 1 ≤ k ∧ lay H A T k y = true := by
  refine con_ind (fun z => ∃ k, 1 ≤ k ∧ lay H A T k z = true) (fun hA => ?_) (fun u v hu hv ⟨k, k1, k2⟩ hg hA => ?_) hy hc
  · obtain ⟨t, t1, t2, t3⟩ := ht
    have e : nb H (lay H A T 0) x = true := nb_iff.mpr ⟨t, t1, t2, t3⟩
    exact ⟨0 + 1, Nat.le_refl _, by rw [lay_s, e]; exact hA⟩
  · rcases lft_or (H := H) (T := T) (k := k) hA with q | ⟨j, q1, _, q3⟩
    · exact ⟨k + 1, by omega, by rw [lay_s, nb_iff.mpr ⟨u, hu, k2, hg⟩, q]; rfl⟩
    · exact ⟨j, q1, q3⟩
/-- a layer that holds something is not farther than A has vertices -/
theorem lay_deep : ∀ {k v : Nat}, v < 10 → lay H A T (k + 1) v = true → cnt (lft H A T (k + 1)) 10 + (k + 1) ≤ cnt A 10
  | 0, v, hv, h => by
    have h1 : cnt (lft H A T (0 + 1)) 10 < cnt (lft H A T 0) 10 := cnt_lt (fun u _ q => by rw [lft_s, Bool.and_eq_true] at q; exact q.1) ⟨v, hv, by rw [lft_s, h]; simp, by rw [lay_s, Bool.and_eq_true] at h; exact h.2⟩
    have h2 : cnt (lft H A T 0) 10 = cnt A 10 := rfl
    omega
  | k + 1, v, hv, h => by
    obtain ⟨u, hu, q, _⟩ := lay_back h
    have ih := lay_deep hu q
    have h1 : cnt (lft H A T (k + 1 + 1)) 10 < cnt (lft H A T (k + 1)) 10 := cnt_lt (fun u _ q => by rw [lft_s, Bool.and_eq_true] at q; exact q.1) ⟨v, hv, by rw [lft_s, h]; simp, by rw [lay_s, Bool.and_eq_true] at h; exact h.2⟩
    omega
end
/-- does a set meet another -/
def meet (X Y : Nat → Bool) : Bool := anyv (fun v => X v && Y v) 10
theorem meet_iff {X Y : Nat → Bool} : meet X Y = true ↔ ∃ v, v < 10 ∧ X v = true ∧ Y v = true := by
  unfold meet
  rw [anyv_iff]
  simp only [Bool.and_eq_true]
/-- down the layers, to the lowest vertex each time -/
def dsc (H : Nat → Nat → Bool) (A T : Nat → Bool) : Nat → Nat → List Nat
  | 0, v => [low (fun z => H v z && T z)]
  | k + 1, v => low (fun z => H v z && lay H A T (k + 1) z) :: dsc H A T k (low (fun z => H v z && lay H A T (k + 1) z))
theorem low_some {S : Nat → Bool} {z : Nat} (hz : z < 10) (h : S z = true) : low S < 10 ∧ S (low S) = true := by
  have := low_of h hz
  exact ⟨by omega, low_in (by omega)⟩
theorem dsc_spec {H : Nat → Nat → Bool} {A T : Nat → Bool} (hs : ∀ u v, H u v = H v u) : ∀ (k v : Nat), (∃ z, z < 10 ∧ H v z = true ∧ lay H A T k z = true) →
    ∃ (inn : List Nat) (t : Nat), dsc H A T k v = inn ++ [t] ∧ inn.length = k ∧ t < 10 ∧ T t = true ∧ (∀ x ∈ inn, x < 10 ∧ ∃ j, 1 ≤ j ∧ j ≤ k ∧ lay H A T j x = true) ∧ inn.Nodup ∧ ∀ p ∈ pd (v :: dsc H A T k v), H p.1 p.2 = true
  | 0, v, ⟨z, h1, h2, h3⟩ => by
    obtain ⟨q1, q2⟩ := low_some (S := fun z => H v z && T z) h1 (by show (_ && _) = true; rw [h2, show T z = true from h3]; rfl)
    rw [Bool.and_eq_true] at q2
    refine ⟨[], _, rfl, rfl, q1, q2.2, (fun x hx => by cases hx), List.nodup_nil, fun p hp => ?_⟩
    rw [show pd (v :: dsc H A T 0 v) = [(v, low (fun z => H v z && T z))] from rfl, List.mem_singleton] at hp
    subst hp
    exact q2.1
  | k + 1, v, ⟨z, h1, h2, h3⟩ => by
    obtain ⟨q1, q2⟩ := low_some (S := fun z => H v z && lay H A T (k + 1) z) h1 (by show (_ && _) = true; rw [h2, h3]; rfl)
    rw [Bool.and_eq_true] at q2
    generalize hz : low (fun z => H v z && lay H A T (k + 1) z) = z2 at q1 q2
    obtain ⟨u, u1, u2, u3⟩ := lay_back q2.2
    obtain ⟨inn, t, e1, e2, e3, e4, e5, e6, e7⟩ := dsc_spec hs k z2 ⟨u, u1, by rw [hs]; exact u3, u2⟩
    have ed : dsc H A T (k + 1) v = z2 :: dsc H A T k z2 := by
      show _ :: dsc H A T k _ = _
      rw [hz]
    refine ⟨z2 :: inn, t, by rw [ed, e1]; rfl, by rw [List.length_cons, e2], e3, e4, fun x hx => ?_, ?_, fun p hp => ?_⟩
    · rcases List.mem_cons.mp hx with rfl | hx
      · exact ⟨q1, k + 1, by omega, Nat.le_refl _, q2.2⟩
      · obtain ⟨a, j, b, c, d⟩ := e5 x hx
        exact ⟨a, j, b, by omega, d⟩
    · refine List.nodup_cons.mpr ⟨fun hx => ?_, e6⟩
      obtain ⟨_, j, b, c, d⟩ := e5 _ hx
      rw [lay_apart b (by omega : j < k + 1) q2.2] at d
      cases d
    · rw [ed] at hp
      rcases List.mem_cons.mp hp with hp | hp
      · subst hp
        exact q2.1
      · exact e7 p hp
/-- from u to a target, through A: u, the vertices between, the target -/
def pok (H : Nat → Nat → Bool) (A T : Nat → Bool) (u : Nat) (inn : List Nat) (t : Nat) : Prop := t < 10 ∧ T t = true ∧ (∀ x ∈ inn, x < 10 ∧ A x = true) ∧ inn.Nodup ∧ ∀ p ∈ pd (u :: inn ++ [t]), H p.1 p.2 = true
theorem dsc_pok {H : Nat → Nat → Bool} {A T : Nat → Bool} (hs : ∀ u v, H u v = H v u) {k v : Nat} (h : ∃ z, z < 10 ∧ H v z = true ∧ lay H A T k z = true) : ∃ (inn : List Nat) (t : Nat), dsc H A T k v = inn ++ [t] ∧ inn.length = k ∧ pok H A T v inn t := by
  obtain ⟨inn, t, e1, e2, e3, e4, e5, e6, e7⟩ := dsc_spec hs k v h
  refine ⟨inn, t, e1, e2, e3, e4, fun x hx => ?_, e6, ?_⟩
  · obtain ⟨a, j, b, c, d⟩ := e5 x hx
    exact ⟨a, lay_A b d⟩
  · rw [e1] at e7
    exact e7
/-- the first layer from 1 on that meets the neighbors of u; 0 if none does below n + 1 -/
def fdep (H : Nat → Nat → Bool) (A T : Nat → Bool) (u : Nat) : Nat → Nat
  | 0 => 0
  | n + 1 => if fdep H A T u n ≠ 0 then fdep H A T u n else bif meet (lay H A T (n + 1)) (H u) then n + 1 else 0
theorem fdep_spec {H : Nat → Nat → Bool} {A T : Nat → Bool} {u : Nat} : ∀ n, (fdep H A T u n ≠ 0 → 1 ≤ fdep H A T u n ∧ fdep H A T u n ≤ n ∧ meet (lay H A T (fdep H A T u n)) (H u) = true ∧ ∀ j, 1 ≤ j → j < fdep H A T u n → meet (lay H A T j) (H u) = false) ∧ (fdep H A T u n = 0 → ∀ j, 1 ≤ j → j ≤ n → meet (lay H A T j) (H u) = false)
  | 0 => ⟨fun h => absurd rfl h, fun _ j h1 h2 => by omega⟩
  | n + 1 => by
    obtain ⟨i1, i2⟩ := fdep_spec (H := H) (A := A) (T := T) (u := u) n
    unfold fdep
    by_cases h : fdep H A T u n ≠ 0
    · rw [if_pos h]
      obtain ⟨a, b, c, d⟩ := i1 h
      exact ⟨fun _ => ⟨a, by omega, c, d⟩, fun e => absurd e h⟩
    · rw [if_neg h]
      have h0 : fdep H A T u n = 0 := Decidable.of_not_not h
      cases hm : meet (lay H A T (n + 1)) (H u) with
      | true =>
        refine ⟨fun _ => ⟨?_, ?_, hm, fun j h1 h2 => ?_⟩, fun e => ?_⟩
        · simp only [cond_true]; omega
        · simp only [cond_true]; omega
        · simp only [cond_true] at h2
          exact i2 h0 j h1 (by omega)
        · simp only [cond_true] at e
          omega
      | false =>
        refine ⟨fun e => absurd rfl e, fun _ j h1 h2 => ?_⟩
        by_cases e : j = n + 1
        · subst e; exact hm
        · exact i2 h0 j h1 (by omega)
end
section
/-! a face is split by a path: what stays true of the faces -/
theorem pd_cons2 (x y : Nat) (t : List Nat) : pd (x :: y :: t) = (x, y) :: pd (y :: t) := rfl
theorem pd_nodup {l : List Nat} (h : l.Nodup) : (pd l).Nodup := by
  cases l with
  | nil => exact List.nodup_nil
  | cons x t =>
    have h1 : ((pd (x :: t)).map Prod.fst).Nodup := by
      rw [pd_fst]
      exact h.sublist (List.dropLast_sublist _)
    generalize pd (x :: t) = m at h1
    induction m with
    | nil => exact List.nodup_nil
    | cons a t ih =>
      rw [List.map_cons, List.nodup_cons] at h1
      exact List.nodup_cons.mpr ⟨fun z => h1.1 (List.mem_map.mpr ⟨a, z, rfl⟩), ih h1.2⟩
theorem pd_asym : ∀ {l : List Nat}, l.Nodup → ∀ {x y : Nat}, (x, y) ∈ pd l → (y, x) ∉ pd l
  | a :: b :: t, h, x, y, h1 => by
    intro h2
    have hn := List.nodup_cons.mp h
    rcases List.mem_cons.mp h1 with e | h3
    · have e1 := congrArg Prod.fst e
      have e2 := congrArg Prod.snd e
      dsimp only at e1 e2
      subst e1; subst e2
      rcases List.mem_cons.mp h2 with e | h4
      · have e1 := congrArg Prod.fst e
        dsimp only at e1
        subst e1
        exact hn.1 List.mem_cons_self
      · exact hn.1 (pd_mem h4).2
    · rcases List.mem_cons.mp h2 with e | h4
      · have e1 := congrArg Prod.fst e
        have e2 := congrArg Prod.snd e
        dsimp only at e1 e2
        subst e1; subst e2
        exact hn.1 (pd_mem h3).2
      · exact pd_asym (l := b :: t) hn.2 h3 h4
  | [_], _, _, _, h1 => by cases h1
  | [], _, _, _, h1 => by cases h1
theorem dts_perm (A B : List Nat) : (dts (A ++ B)).Perm (dts (B ++ A)) := by
  cases A with
  | nil => rw [List.append_nil]; exact List.Perm.refl _
  | cons a A =>
    cases B with
    | nil => rw [List.append_nil]; exact List.Perm.refl _
    | cons b B =>
      have e1 : dts (a :: A ++ b :: B) = pd (a :: A ++ [b]) ++ pd (b :: (B ++ [a])) := by
        show pd (a :: (A ++ b :: B) ++ [a]) = _
        have : a :: (A ++ b :: B) ++ [a] = (a :: A) ++ b :: (B ++ [a]) := by simp
        rw [this, pd_app]
      have e2 : dts (b :: B ++ a :: A) = pd (b :: B ++ [a]) ++ pd (a :: (A ++ [b])) := by
        show pd (b :: (B ++ a :: A) ++ [b]) = _
        have : b :: (B ++ a :: A) ++ [b] = (b :: B) ++ a :: (A ++ [b]) := by simp
        rw [this, pd_app]
      rw [e1, e2]
      exact List.perm_append_comm
theorem dts_two (u : Nat) (xs : List Nat) (w : Nat) (ys : List Nat) : dts (u :: xs ++ w :: ys) = pd (u :: xs ++ [w]) ++ pd (w :: ys ++ [u]) := by
  show pd (u :: (xs ++ w :: ys) ++ [u]) = _
  have : u :: (xs ++ w :: ys) ++ [u] = (u :: xs) ++ w :: (ys ++ [u]) := by simp
  rw [this, pd_app]
  rfl
/-- one more in a cycle, between two that follow each other -/
theorem dts_ins {R : List Nat} {p q z : Nat} (hR : R.Nodup) (hz : z ∉ R) (h : (p, q) ∈ dts R) : ∃ R' : List Nat, R'.Nodup ∧ (∀ x, x ∈ R' ↔ x = z ∨ x ∈ R) ∧ (p, z) ∈ dts R' ∧ (z, q) ∈ dts R' ∧ ∀ a b, (a, b) ∈ dts R → ¬ (a = p ∧ b = q) → (a, b) ∈ dts R' := by
  obtain ⟨A, B, hAB⟩ : ∃ A B, R = A ++ q :: B := List.append_of_mem (dts_mem h).2
  have hmem : ∀ x, x ∈ q :: B ++ A ↔ x ∈ R := fun x => by rw [hAB]; simp only [List.mem_append, List.mem_cons]; constructor <;> (rintro (h | h) <;> simp_all)
  have hper : (q :: B ++ A).Perm R := by rw [hAB]; exact List.perm_append_comm
  have hnd : (q :: B ++ A).Nodup := hper.nodup_iff.mpr hR
  have hd : ∀ x, x ∈ dts R ↔ x ∈ dts (q :: B ++ A) := fun x => by rw [hAB]; exact dts_rot A (q :: B) x
  generalize hC : B ++ A = C at *
  have e0 : q :: B ++ A = q :: C := by rw [← hC]; rfl
  rw [e0] at hmem hnd hd
  -- the last of q :: C is p
  obtain ⟨D, l, hDl⟩ : ∃ D l, q :: C = D ++ [l] := ⟨(q :: C).dropLast, (q :: C).getLast (by simp), (List.dropLast_concat_getLast (by simp)).symm⟩
  have e1 : dts (q :: C) = pd (q :: C) ++ [(l, q)] := by
    show pd (q :: C ++ [q]) = _
    rw [hDl, List.append_assoc, show [l] ++ [q] = l :: [q] from rfl, pd_app]
    rfl
  have hlp : l = p := dts_inj hnd (by rw [e1]; simp) ((hd _).mp h)
  subst hlp
  have e2 : dts (z :: q :: C) = (z, q) :: (pd (q :: C) ++ [(l, z)]) := by
    show pd (z :: q :: C ++ [z]) = _
    show (z, q) :: pd (q :: C ++ [z]) = _
    rw [hDl, List.append_assoc, show [l] ++ [z] = l :: [z] from rfl, pd_app]
    rfl
  refine ⟨z :: q :: C, List.nodup_cons.mpr ⟨fun hx => hz ((hmem z).mp hx), hnd⟩, fun x => by rw [List.mem_cons, hmem], by rw [e2]; simp, by rw [e2]; simp, fun a b hab hne => ?_⟩
  rw [hd, e1] at hab
  rw [e2]
  rcases List.mem_append.mp hab with h1 | h1
  · exact List.mem_cons_of_mem _ (List.mem_append_left _ h1)
  · rw [List.mem_singleton] at h1
    exact absurd ⟨congrArg Prod.fst h1, congrArg Prod.snd h1⟩ hne
/-- the order around v, as far as the faces tell it -/
def ROT (P : Nat → Nat → Bool) (faces : List (List Nat)) (v : Nat) : Prop := ∃ R : List Nat, R.Nodup ∧ (∀ x, x ∈ R ↔ P v x = true) ∧ ∀ f ∈ faces, ∀ x y, (x, v) ∈ dts f → (v, y) ∈ dts f → (x, y) ∈ dts R
def INV (H : Nat → Nat → Bool) (S : Nat → Bool) (P : Nat → Nat → Bool) (PV : Nat → Bool) (faces : List (List Nat)) (E : Nat) : Prop :=
  (∀ x y, P x y = P y x) ∧ (∀ x y, P x y = true → H x y = true ∧ PV x = true) ∧ (∀ v, PV v = true → S v = true) ∧
  (∀ f ∈ faces, f.Nodup ∧ 3 ≤ f.length ∧ ∀ v ∈ f, PV v = true) ∧ (faces.flatMap dts).Nodup ∧ (∀ x y, (x, y) ∈ faces.flatMap dts ↔ P x y = true) ∧
  (faces.flatMap dts).length = 2 * E ∧ E + 2 = cnt PV 10 + faces.length ∧ ∀ v, PV v = true → ROT P faces v
/-- with the edges of a path -/
def addP (P : Nat → Nat → Bool) (l : List Nat) : Nat → Nat → Bool := fun x y => P x y || (decide ((x, y) ∈ pd l) || decide ((y, x) ∈ pd l))
def addV (PV : Nat → Bool) (l : List Nat) : Nat → Bool := fun v => PV v || decide (v ∈ l)
theorem addP_iff {P : Nat → Nat → Bool} {l : List Nat} {x y : Nat} : addP P l x y = true ↔ P x y = true ∨ (x, y) ∈ pd l ∨ (y, x) ∈ pd l := by
  unfold addP
  simp only [Bool.or_eq_true, decide_eq_true_eq]
theorem addV_iff {PV : Nat → Bool} {l : List Nat} {v : Nat} : addV PV l v = true ↔ PV v = true ∨ v ∈ l := by
  unfold addV
  simp only [Bool.or_eq_true, decide_eq_true_eq]
theorem cnt_add1 {S : Nat → Bool} {p : Nat} : ∀ {n : Nat}, p < n → S p = false → cnt (fun v => S v || decide (v = p)) n = cnt S n + 1
  | 0, h, _ => by omega
  | n + 1, h, hp => by
    unfold cnt
    by_cases e : p = n
    · subst e
      have : cnt (fun v => S v || decide (v = p)) p = cnt S p := cnt_ext fun v hv => by
        have : ¬ v = p := by omega
        simp [this]
      rw [this, hp]
      simp
    · have ih := cnt_add1 (S := S) (n := n) (by omega) hp
      rw [ih]
      have : ¬ n = p := fun z => e z.symm
      simp only [this, decide_false, Bool.or_false]
      omega
theorem cnt_addV {PV : Nat → Bool} : ∀ {l : List Nat}, l.Nodup → (∀ v ∈ l, v < 10 ∧ PV v = false) → cnt (addV PV l) 10 = cnt PV 10 + l.length
  | [], _, _ => by
    have : cnt (addV PV []) 10 = cnt PV 10 := cnt_ext fun v _ => by simp [addV]
    rw [this]; rfl
  | p :: t, h, hl => by
    have hn := List.nodup_cons.mp h
    have ih := cnt_addV (PV := PV) hn.2 (fun v hv => hl v (List.mem_cons_of_mem _ hv))
    have hp := hl p List.mem_cons_self
    have e : cnt (addV PV (p :: t)) 10 = cnt (fun v => addV PV t v || decide (v = p)) 10 := cnt_ext fun v _ => by
      unfold addV
      simp only [List.mem_cons]
      by_cases e1 : v = p <;> by_cases e2 : v ∈ t <;> simp [e1, e2]
    rw [e, cnt_add1 hp.1 (by unfold addV; rw [hp.2]; simp [hn.1]), ih, List.length_cons]
    omega
theorem nodup_map2 {l : List xPr} {f : xPr → Nat} (h : (l.map f).Nodup) {p q : xPr} (hp : p ∈ l) (hq : q ∈ l) (e : f p = f q) : p = q := nodup_map_inj h p q hp hq e
theorem pd_fun {l : List Nat} (h : l.Nodup) {x y y' : Nat} (h1 : (x, y) ∈ pd l) (h2 : (x, y') ∈ pd l) : y = y' := by
  cases l with
  | nil => cases h1
  | cons a t => exact congrArg Prod.snd (nodup_map2 (f := Prod.fst) (by rw [pd_fst]; exact h.sublist (List.dropLast_sublist _)) h1 h2 rfl)
theorem pd_inj {l : List Nat} (h : l.Nodup) {x x' y : Nat} (h1 : (x, y) ∈ pd l) (h2 : (x', y) ∈ pd l) : x = x' := by
  cases l with
  | nil => cases h1
  | cons a t => exact congrArg Prod.fst (nodup_map2 (f := Prod.snd) (by rw [pd_snd]; exact (List.nodup_cons.mp h).2) h1 h2 rfl)
theorem snoc_ex (a : Nat) (t : List Nat) : ∃ D l, a :: t = D ++ [l] := ⟨(a :: t).dropLast, (a :: t).getLast (by simp), (List.dropLast_concat_getLast (by simp)).symm⟩
theorem cons_ex (t : List Nat) (z : Nat) : ∃ a D, t ++ [z] = a :: D := by
  cases t with
  | nil => exact ⟨z, [], rfl⟩
  | cons a t => exact ⟨a, t ++ [z], rfl⟩
theorem pd_head {u a : Nat} {t D : List Nat} {z : Nat} (h : t ++ [z] = a :: D) : (u, a) ∈ pd (u :: t ++ [z]) := by
  show (u, a) ∈ pd (u :: (t ++ [z]))
  rw [h]
  exact List.mem_cons_self
theorem pd_last {u l : Nat} {t D : List Nat} {z : Nat} (h : u :: t = D ++ [l]) : (l, z) ∈ pd (u :: t ++ [z]) := by
  rw [h, List.append_assoc, show [l] ++ [z] = l :: [z] from rfl, pd_app]
  exact List.mem_append_right _ List.mem_cons_self
theorem pd_no2 {u : Nat} {t : List Nat} (h : (u :: t).Nodup) {x : Nat} : (x, u) ∉ pd (u :: t) := by
  intro h1
  have h2 : u ∈ (pd (u :: t)).map Prod.snd := List.mem_map.mpr ⟨_, h1, rfl⟩
  rw [pd_snd] at h2
  exact (List.nodup_cons.mp h).1 h2
theorem pd_no1 {w : Nat} {t : List Nat} (h : (t ++ [w]).Nodup) {x : Nat} : (w, x) ∉ pd (t ++ [w]) := by
  intro h1
  have h2 := (pd_rev (t ++ [w]) (x, w)).mpr h1
  have e : (t ++ [w]).reverse = w :: t.reverse := by simp
  rw [e] at h2
  refine pd_no2 ?_ h2
  rw [← e]
  exact (List.reverse_perm _).nodup_iff.mpr h
/-- a face is split -/
theorem INV_step {H : Nat → Nat → Bool} {S : Nat → Bool} {P : Nat → Nat → Bool} {PV : Nat → Bool} {L1 L2 : List (List Nat)} {A B xs ys ps : List Nat} {u w E : Nat} (hH : ∀ x y, H x y = H y x)
    (hI : INV H S P PV (L1 ++ (A ++ B) :: L2) E) (hAB : B ++ A = u :: xs ++ w :: ys) (hps : ps.Nodup) (hpv : ∀ p ∈ ps, p < 10 ∧ PV p = false ∧ S p = true) (hpe : ∀ q ∈ pd (u :: ps ++ [w]), H q.1 q.2 = true ∧ P q.1 q.2 = false) :
    INV H S (addP P (u :: ps ++ [w])) (addV PV ps) (L1 ++ (u :: xs ++ w :: ps.reverse) :: L2 ++ [w :: ys ++ u :: ps]) (E + ps.length + 1) := by
  obtain ⟨i1, i2, i3, i4, i5, i6, i7, i8, i9⟩ := hI
  have hl0 := i4 (A ++ B) (List.mem_append_right _ List.mem_cons_self)
  have hper0 : (B ++ A).Perm (A ++ B) := List.perm_append_comm
  have hnd : (u :: xs ++ w :: ys).Nodup := by rw [← hAB]; exact hper0.nodup_iff.mpr hl0.1
  have hpl : ∀ v ∈ u :: xs ++ w :: ys, PV v = true := fun v hv => hl0.2.2 v (hper0.mem_iff.mp (by rw [hAB]; exact hv))
  have hu : PV u = true := hpl u (by simp)
  have hw : PV w = true := hpl w (by simp)
  have nps : ∀ v, PV v = true → v ∉ ps := fun v hv hm => by have := (hpv v hm).2.1; rw [hv] at this; cases this
  have huw : u ≠ w := by
    intro e
    have := (List.nodup_cons.mp hnd).1
    exact this (by rw [e]; simp)
  -- the path is without repetition
  have hpath : (u :: ps ++ [w]).Nodup := by
    have h1 : (u :: ps).Nodup := List.nodup_cons.mpr ⟨nps u hu, hps⟩
    refine List.nodup_append.mpr ⟨h1, List.nodup_cons.mpr ⟨List.not_mem_nil, List.nodup_nil⟩, fun a ha b hb e => ?_⟩
    rw [List.mem_singleton] at hb
    subst hb
    subst e
    rcases List.mem_cons.mp ha with e | e
    · exact huw e.symm
    · exact nps a hw e
  have hd0 : (dts (A ++ B)).Perm (pd (u :: xs ++ [w]) ++ pd (w :: ys ++ [u])) := by
    rw [← dts_two, ← hAB]
    exact dts_perm A B
  have hrev : (u :: ps ++ [w]).reverse = w :: ps.reverse ++ [u] := by simp
  have e1 : dts (u :: xs ++ w :: ps.reverse) = pd (u :: xs ++ [w]) ++ pd (w :: ps.reverse ++ [u]) := dts_two u xs w ps.reverse
  have e2 : dts (w :: ys ++ u :: ps) = pd (w :: ys ++ [u]) ++ pd (u :: ps ++ [w]) := dts_two w ys u ps
  have hperm : ((L1 ++ (u :: xs ++ w :: ps.reverse) :: L2 ++ [w :: ys ++ u :: ps]).flatMap dts).Perm ((L1 ++ (A ++ B) :: L2).flatMap dts ++ (pd (u :: ps ++ [w]) ++ pd (u :: ps ++ [w]).reverse)) := by
    rw [hrev]
    refine List.perm_iff_count.mpr (fun a => ?_)
    have := hd0.count_eq a
    simp only [List.flatMap_append, List.flatMap_cons, List.flatMap_nil, List.append_nil, List.count_append, e1, e2] at this ⊢
    omega
  have hnew : (pd (u :: ps ++ [w]) ++ pd (u :: ps ++ [w]).reverse).Nodup := by
    refine List.nodup_append.mpr ⟨pd_nodup hpath, pd_nodup ((List.reverse_perm _).nodup_iff.mpr hpath), fun a ha b hb e => ?_⟩
    subst e
    rw [pd_rev] at hb
    exact pd_asym hpath ha hb
  have hsymP : ∀ x y, addP P (u :: ps ++ [w]) x y = addP P (u :: ps ++ [w]) y x := fun x y => by
    unfold addP
    rw [i1 x y, Bool.or_comm (decide ((x, y) ∈ _))]
  have hDTn : ((L1 ++ (u :: xs ++ w :: ps.reverse) :: L2 ++ [w :: ys ++ u :: ps]).flatMap dts).Nodup := by
    rw [hperm.nodup_iff]
    refine List.nodup_append.mpr ⟨i5, hnew, fun a ha b hb e => ?_⟩
    subst e
    have hP := (i6 a.1 a.2).mp ha
    rcases List.mem_append.mp hb with q | q
    · have := (hpe a q).2
      rw [hP] at this
      cases this
    · rw [pd_rev] at q
      have := (hpe _ q).2
      rw [i1] at hP
      rw [hP] at this
      cases this
  have hmemP : ∀ x y, (x, y) ∈ (L1 ++ (u :: xs ++ w :: ps.reverse) :: L2 ++ [w :: ys ++ u :: ps]).flatMap dts ↔ addP P (u :: ps ++ [w]) x y = true := by
    intro x y
    rw [hperm.mem_iff, List.mem_append, List.mem_append, i6, pd_rev, addP_iff]
  have hin : ∀ v ∈ u :: ps ++ [w], addV PV ps v = true := fun v hv => by
    rw [addV_iff]
    simp only [List.cons_append, List.mem_cons, List.mem_append, List.not_mem_nil, or_false] at hv
    rcases hv with rfl | hv | rfl
    · exact Or.inl hu
    · exact Or.inr hv
    · exact Or.inl hw
  have nF1 : (u :: xs ++ w :: ps.reverse).Nodup := by
    have hs : (u :: xs ++ [w]).Nodup := hnd.sublist (List.Sublist.append_left (by simp) _)
    have e : u :: xs ++ w :: ps.reverse = (u :: xs ++ [w]) ++ ps.reverse := by simp
    rw [e]
    refine List.nodup_append.mpr ⟨hs, (List.reverse_perm _).nodup_iff.mpr hps, fun a ha b hb e => ?_⟩
    subst e
    rw [List.mem_reverse] at hb
    exact nps a (hpl a (by simp only [List.cons_append, List.mem_cons, List.mem_append, List.not_mem_nil, or_false] at ha ⊢; rcases ha with h | h | h <;> simp [h])) hb
  have nF2 : (w :: ys ++ u :: ps).Nodup := by
    have hp2 : (w :: ys ++ [u]).Nodup := by
      have : (w :: ys ++ u :: xs).Nodup := (List.perm_append_comm (l₁ := w :: ys) (l₂ := u :: xs)).nodup_iff.mpr hnd
      exact this.sublist (List.Sublist.append_left (by simp) _)
    have e : w :: ys ++ u :: ps = (w :: ys ++ [u]) ++ ps := by simp
    rw [e]
    refine List.nodup_append.mpr ⟨hp2, hps, fun a ha b hb e => ?_⟩
    subst e
    exact nps a (hpl a (by simp only [List.cons_append, List.mem_cons, List.mem_append, List.not_mem_nil, or_false] at ha ⊢; rcases ha with h | h | h <;> simp [h])) hb
  -- a chord doesn't join what follows each other already
  have nch : ps = [] → xs ≠ [] ∧ ys ≠ [] := by
    intro e
    subst e
    have hP : P u w = false := (hpe (u, w) (by simp [pd])).2
    have hin0 : ∀ p, p ∈ pd (u :: xs ++ [w]) ++ pd (w :: ys ++ [u]) → P p.1 p.2 = true := fun p hp => (i6 p.1 p.2).mp (List.mem_flatMap.mpr ⟨A ++ B, List.mem_append_right _ List.mem_cons_self, hd0.mem_iff.mpr hp⟩)
    constructor
    · rintro rfl
      have := hin0 (u, w) (by simp [pd])
      rw [hP] at this
      cases this
    · rintro rfl
      have := hin0 (w, u) (by simp [pd])
      rw [i1, hP] at this
      cases this
  refine ⟨hsymP, fun x y hxy => ?_, fun v hv => ?_, fun f hf => ?_, hDTn, hmemP, ?_, ?_, fun v hv => ?_⟩
  · rcases addP_iff.mp hxy with h | h | h
    · exact ⟨(i2 x y h).1, addV_iff.mpr (Or.inl (i2 x y h).2)⟩
    · exact ⟨(hpe _ h).1, hin x (pd_mem h).1⟩
    · exact ⟨by rw [hH]; exact (hpe _ h).1, hin x (pd_mem h).2⟩
  · rcases addV_iff.mp hv with h | h
    · exact i3 v h
    · exact (hpv v h).2.2
  · have hold : ∀ f ∈ L1 ++ (A ++ B) :: L2, f.Nodup ∧ 3 ≤ f.length ∧ ∀ v ∈ f, addV PV ps v = true := fun f hf => ⟨(i4 f hf).1, (i4 f hf).2.1, fun v hv => addV_iff.mpr (Or.inl ((i4 f hf).2.2 v hv))⟩
    simp only [List.mem_append, List.mem_cons, List.not_mem_nil, or_false] at hf
    rcases hf with (hf | rfl | hf) | rfl
    · exact hold f (List.mem_append_left _ hf)
    · refine ⟨nF1, ?_, fun v hv => ?_⟩
      · simp only [List.length_append, List.length_cons, List.length_reverse]
        by_cases e : ps = []
        · have := List.length_pos_iff.mpr (nch e).1
          omega
        · have := List.length_pos_iff.mpr e
          omega
      · rw [addV_iff]
        simp only [List.cons_append, List.mem_cons, List.mem_append, List.mem_reverse] at hv
        rcases hv with h | h | h | h
        · exact Or.inl (h ▸ hu)
        · exact Or.inl (hpl v (by simp [h]))
        · exact Or.inl (h ▸ hw)
        · exact Or.inr h
    · exact hold f (List.mem_append_right _ (List.mem_cons_of_mem _ hf))
    · refine ⟨nF2, ?_, fun v hv => ?_⟩
      · simp only [List.length_append, List.length_cons]
        by_cases e : ps = []
        · have := List.length_pos_iff.mpr (nch e).2
          omega
        · have := List.length_pos_iff.mpr e
          omega
      · rw [addV_iff]
        simp only [List.cons_append, List.mem_cons, List.mem_append] at hv
        rcases hv with h | h | h | h
        · exact Or.inl (h ▸ hw)
        · exact Or.inl (hpl v (by simp [h]))
        · exact Or.inl (h ▸ hu)
        · exact Or.inr h
  · rw [hperm.length_eq, List.length_append, i7, List.length_append]
    have a1 : (pd (u :: ps ++ [w])).length = ps.length + 1 := by
      show (pd (u :: (ps ++ [w]))).length = _
      rw [pd_len]; simp
    have a2 : (pd (u :: ps ++ [w]).reverse).length = ps.length + 1 := by
      rw [hrev]
      show (pd (w :: (ps.reverse ++ [u]))).length = _
      rw [pd_len]; simp
    rw [a1, a2]
    omega
  · rw [cnt_addV hps (fun v hv => ⟨(hpv v hv).1, (hpv v hv).2.1⟩)]
    simp only [List.length_append, List.length_cons, List.length_nil] at i8 ⊢
    omega
  · have q1 : ∀ q, q ∈ pd (u :: xs ++ [w]) → q ∈ dts (A ++ B) := fun q h => hd0.mem_iff.mpr (List.mem_append_left _ h)
    have q2 : ∀ q, q ∈ pd (w :: ys ++ [u]) → q ∈ dts (A ++ B) := fun q h => hd0.mem_iff.mpr (List.mem_append_right _ h)
    have r1 : ∀ q, q ∈ pd (u :: xs ++ [w]) → q ∈ dts (u :: xs ++ w :: ps.reverse) := fun q h => by rw [e1]; exact List.mem_append_left _ h
    have r2 : ∀ x y, (y, x) ∈ pd (u :: ps ++ [w]) → (x, y) ∈ dts (u :: xs ++ w :: ps.reverse) := fun x y h => by
      rw [e1, ← hrev]
      exact List.mem_append_right _ ((pd_rev _ (x, y)).mpr h)
    have r3 : ∀ q, q ∈ pd (w :: ys ++ [u]) → q ∈ dts (w :: ys ++ u :: ps) := fun q h => by rw [e2]; exact List.mem_append_left _ h
    have r4 : ∀ q, q ∈ pd (u :: ps ++ [w]) → q ∈ dts (w :: ys ++ u :: ps) := fun q h => by rw [e2]; exact List.mem_append_right _ h
    have memA : (A ++ B) ∈ L1 ++ (A ++ B) :: L2 := List.mem_append_right _ List.mem_cons_self
    have hdis : ∀ f, f ∈ L1 ∨ f ∈ L2 → ∀ q ∈ dts f, q ∉ dts (A ++ B) := by
      intro f hf q hq hq2
      have h5 := i5
      rw [List.flatMap_append, List.flatMap_cons] at h5
      obtain ⟨_, n2, n3⟩ := List.nodup_append.mp h5
      obtain ⟨_, _, n4⟩ := List.nodup_append.mp n2
      rcases hf with hf | hf
      · exact n3 q (List.mem_flatMap.mpr ⟨f, hf, hq⟩) q (List.mem_append_left _ hq2) rfl
      · exact n4 q hq2 q (List.mem_flatMap.mpr ⟨f, hf, hq⟩) rfl
    have holdf : ∀ f, f ∈ L1 ∨ f ∈ L2 → f ∈ L1 ++ (A ++ B) :: L2 := fun f hf => by
      rcases hf with hf | hf
      · exact List.mem_append_left _ hf
      · exact List.mem_append_right _ (List.mem_cons_of_mem _ hf)
    have hsplit : ∀ f ∈ L1 ++ (u :: xs ++ w :: ps.reverse) :: L2 ++ [w :: ys ++ u :: ps], (f ∈ L1 ∨ f ∈ L2) ∨ f = u :: xs ++ w :: ps.reverse ∨ f = w :: ys ++ u :: ps := fun f hf => by
      simp only [List.mem_append, List.mem_cons, List.not_mem_nil, or_false] at hf
      rcases hf with (hf | hf | hf) | hf
      · exact Or.inl (Or.inl hf)
      · exact Or.inr (Or.inl hf)
      · exact Or.inl (Or.inr hf)
      · exact Or.inr (Or.inr hf)
    obtain ⟨x1, X1, hx1⟩ := cons_ex xs w
    obtain ⟨Xl, xl, hxl⟩ := snoc_ex u xs
    obtain ⟨y1, Y1, hy1⟩ := cons_ex ys u
    obtain ⟨Yl, yl, hyl⟩ := snoc_ex w ys
    obtain ⟨a1, A1, ha1⟩ := cons_ex ps w
    obtain ⟨Al, ak, hak⟩ := snoc_ex u ps
    have du := pd_head (u := u) hx1
    have dxw := pd_last (z := w) hxl
    have dw := pd_head (u := w) hy1
    have dyu := pd_last (z := u) hyl
    have dua := pd_head (u := u) ha1
    have daw := pd_last (z := w) hak
    have hpath2 : (u :: (ps ++ [w])).Nodup := hpath
    by_cases evu : v = u
    · subst evu
      obtain ⟨R, hR1, hR2, hR3⟩ := i9 v hu
      have hz : a1 ∉ R := fun z => by
        have h1 := (hR2 a1).mp z
        rw [(hpe _ dua).2] at h1
        cases h1
      obtain ⟨R', g1, g2, g3, g4, g5⟩ := dts_ins hR1 hz (hR3 _ memA yl x1 (q2 _ dyu) (q1 _ du))
      refine ⟨R', g1, fun x => ?_, fun f hf x y h1 h2 => ?_⟩
      · rw [g2, hR2, addP_iff]
        constructor
        · rintro (h | h)
          · exact Or.inr (Or.inl (h ▸ dua))
          · exact Or.inl h
        · rintro (h | h | h)
          · exact Or.inr h
          · exact Or.inl (pd_fun hpath h dua)
          · exact absurd h (pd_no2 hpath2)
      · rcases hsplit f hf with hf | rfl | rfl
        · refine g5 x y (hR3 f (holdf f hf) x y h1 h2) (fun z => ?_)
          rw [z.1] at h1
          exact hdis f hf _ h1 (q2 _ dyu)
        · rw [dts_inj nF1 h1 (r2 _ _ dua), dts_fun nF1 h2 (r1 _ du)]
          exact g4
        · rw [dts_inj nF2 h1 (r3 _ dyu), dts_fun nF2 h2 (r4 _ dua)]
          exact g3
    · by_cases evw : v = w
      · subst evw
        obtain ⟨R, hR1, hR2, hR3⟩ := i9 v hw
        have hz : ak ∉ R := fun z => by
          have h1 := (hR2 ak).mp z
          rw [i1, (hpe _ daw).2] at h1
          cases h1
        obtain ⟨R', g1, g2, g3, g4, g5⟩ := dts_ins hR1 hz (hR3 _ memA xl y1 (q1 _ dxw) (q2 _ dw))
        refine ⟨R', g1, fun x => ?_, fun f hf x y h1 h2 => ?_⟩
        · rw [g2, hR2, addP_iff]
          constructor
          · rintro (h | h)
            · exact Or.inr (Or.inr (h ▸ daw))
            · exact Or.inl h
          · rintro (h | h | h)
            · exact Or.inr h
            · exact absurd h (pd_no1 hpath)
            · exact Or.inl (pd_inj hpath h daw)
        · rcases hsplit f hf with hf | rfl | rfl
          · refine g5 x y (hR3 f (holdf f hf) x y h1 h2) (fun z => ?_)
            rw [z.1] at h1
            exact hdis f hf _ h1 (q1 _ dxw)
          · rw [dts_inj nF1 h1 (r1 _ dxw), dts_fun nF1 h2 (r2 _ _ daw)]
            exact g3
          · rw [dts_inj nF2 h1 (r4 _ daw), dts_fun nF2 h2 (r3 _ dw)]
            exact g4
      · by_cases evp : v ∈ ps
        · obtain ⟨C, D, hCD⟩ := List.append_of_mem evp
          obtain ⟨Cl', pv, hpv1⟩ := snoc_ex u C
          obtain ⟨nx, Dn, hnx⟩ := cons_ex D w
          have ep : u :: ps ++ [w] = (u :: C) ++ v :: (D ++ [w]) := by rw [hCD]; simp
          have d1 : (pv, v) ∈ pd (u :: ps ++ [w]) := by
            rw [ep, pd_app]
            exact List.mem_append_left _ (pd_last hpv1)
          have d2 : (v, nx) ∈ pd (u :: ps ++ [w]) := by
            rw [ep, pd_app]
            exact List.mem_append_right _ (pd_head hnx)
          have hne : pv ≠ nx := fun e => pd_asym hpath d1 (e ▸ d2)
          have hPv : ∀ x, P v x = false := fun x => by
            cases h : P v x with
            | false => rfl
            | true =>
              have := (i2 v x h).2
              rw [(hpv v evp).2.1] at this
              cases this
          refine ⟨[pv, nx], List.nodup_cons.mpr ⟨by simp [hne], List.nodup_cons.mpr ⟨List.not_mem_nil, List.nodup_nil⟩⟩, fun x => ?_, fun f hf x y h1 h2 => ?_⟩
          · rw [addP_iff, hPv]
            simp only [List.mem_cons, List.not_mem_nil, or_false]
            constructor
            · rintro (h | h)
              · exact Or.inr (Or.inr (h ▸ d1))
              · exact Or.inr (Or.inl (h ▸ d2))
            · rintro (h | h | h)
              · cases h
              · exact Or.inr (pd_fun hpath h d2)
              · exact Or.inl (pd_inj hpath h d1)
          · rcases hsplit f hf with hf | rfl | rfl
            · have := (i4 f (holdf f hf)).2.2 v (dts_mem h1).2
              rw [(hpv v evp).2.1] at this
              cases this
            · rw [dts_inj nF1 h1 (r2 _ _ d2), dts_fun nF1 h2 (r2 _ _ d1)]
              simp [dts, pd]
            · rw [dts_inj nF2 h1 (r4 _ d1), dts_fun nF2 h2 (r4 _ d2)]
              simp [dts, pd]
        · have hPV : PV v = true := by
            rcases addV_iff.mp hv with h | h
            · exact h
            · exact absurd h evp
          have nin : v ∉ u :: ps ++ [w] := by
            simp only [List.cons_append, List.mem_cons, List.mem_append, List.not_mem_nil, or_false]
            rintro (h | h | h)
            · exact evu h
            · exact evp h
            · exact evw h
          have nin2 : v ∉ w :: ps.reverse ++ [u] := by
            rw [← hrev, List.mem_reverse]
            exact nin
          obtain ⟨R, hR1, hR2, hR3⟩ := i9 v hPV
          refine ⟨R, hR1, fun x => ?_, fun f hf x y h1 h2 => ?_⟩
          · rw [hR2, addP_iff]
            constructor
            · exact Or.inl
            · rintro (h | h | h)
              · exact h
              · exact absurd (pd_mem h).1 nin
              · exact absurd (pd_mem h).2 nin
          · rcases hsplit f hf with hf | rfl | rfl
            · exact hR3 f (holdf f hf) x y h1 h2
            · rw [e1] at h1 h2
              refine hR3 _ memA x y ?_ ?_
              · rcases List.mem_append.mp h1 with h | h
                · exact q1 _ h
                · exact absurd (pd_mem h).2 nin2
              · rcases List.mem_append.mp h2 with h | h
                · exact q1 _ h
                · exact absurd (pd_mem h).1 nin2
            · rw [e2] at h1 h2
              refine hR3 _ memA x y ?_ ?_
              · rcases List.mem_append.mp h1 with h | h
                · exact q2 _ h
                · exact absurd (pd_mem h).2 nin
              · rcases List.mem_append.mp h2 with h | h
                · exact q2 _ h
                · exact absurd (pd_mem h).1 nin
end
section
/-! the embedding of a block, step by step -/
theorem dts_rev (c : List Nat) (x y : Nat) : (x, y) ∈ dts c.reverse ↔ (y, x) ∈ dts c := by
  cases c with
  | nil => exact ⟨(fun h => by cases h), (fun h => by cases h)⟩
  | cons a t =>
    have e : (a :: t).reverse = t.reverse ++ [a] := by simp
    rw [e, dts_rot]
    show (x, y) ∈ pd (a :: t.reverse ++ [a]) ↔ (y, x) ∈ pd (a :: t ++ [a])
    have e2 : a :: t.reverse ++ [a] = (a :: t ++ [a]).reverse := by simp
    rw [e2, pd_rev]
theorem dts_asym {c : List Nat} (hn : c.Nodup) (h3 : 3 ≤ c.length) {x y : Nat} (h : (x, y) ∈ dts c) : (y, x) ∉ dts c := by
  obtain ⟨A, B, hAB⟩ := List.append_of_mem (dts_mem h).1
  have hd : ∀ q, q ∈ dts c ↔ q ∈ dts (x :: B ++ A) := fun q => by rw [hAB]; exact dts_rot A (x :: B) q
  have hper : (x :: B ++ A).Perm c := by rw [hAB]; exact List.perm_append_comm
  have hnd : (x :: (B ++ A)).Nodup := hper.nodup_iff.mpr hn
  have hlen : (x :: (B ++ A)).length = c.length := hper.length_eq
  have hd' : ∀ q, q ∈ dts c ↔ q ∈ dts (x :: (B ++ A)) := hd
  generalize B ++ A = C at hnd hlen hd'
  rw [hd'] at h ⊢
  match C, hnd, hlen, h with
  | [], _, hlen, _ => simp at hlen; omega
  | [b], _, hlen, _ => simp at hlen; omega
  | b :: z :: t, hnd, _, h =>
    intro h2
    have e1 : y = b := dts_fun hnd h (by show (x, b) ∈ pd (x :: b :: _); exact List.mem_cons_self)
    subst e1
    have e2 : x = z := dts_fun hnd h2 (by show (y, z) ∈ pd (x :: y :: z :: _); exact List.mem_cons_of_mem _ List.mem_cons_self)
    rw [e2] at hnd
    exact (List.nodup_cons.mp hnd).1 (List.mem_cons_of_mem _ List.mem_cons_self)
/-- how many of a list without repetition -/
theorem cnt_list : ∀ {l : List Nat}, l.Nodup → (∀ v ∈ l, v < 10) → cnt (fun v => decide (v ∈ l)) 10 = l.length := by
  intro l hn hl
  have h := cnt_addV (PV := fun _ => false) hn (fun v hv => ⟨hl v hv, rfl⟩)
  have h0 : cnt (fun _ => false) 10 = 0 := rfl
  rw [h0, Nat.zero_add] at h
  rw [← h]
  exact cnt_ext fun v _ => by simp [addV]
/-- the cycle with which it begins -/
theorem INV_cycle {H : Nat → Nat → Bool} {S : Nat → Bool} {c : List Nat} (hH : ∀ x y, H x y = H y x) (hn : c.Nodup) (h3 : 3 ≤ c.length) (hc : ∀ v ∈ c, v < 10 ∧ S v = true) (he : ∀ q ∈ dts c, H q.1 q.2 = true) :
    INV H S (fun x y => decide ((x, y) ∈ dts c) || decide ((y, x) ∈ dts c)) (fun v => decide (v ∈ c)) [c, c.reverse] c.length := by
  have hDT : [c, c.reverse].flatMap dts = dts c ++ dts c.reverse := by simp
  have hmem : ∀ x y, (x, y) ∈ dts c ++ dts c.reverse ↔ (decide ((x, y) ∈ dts c) || decide ((y, x) ∈ dts c)) = true := fun x y => by
    rw [List.mem_append, dts_rev, Bool.or_eq_true, decide_eq_true_eq, decide_eq_true_eq]
  refine ⟨fun x y => Bool.or_comm _ _, fun x y h => ?_, fun v h => (hc v (of_decide_eq_true h)).2, fun f hf => ?_, ?_, ?_, ?_, ?_, fun v hv => ?_⟩
  · rw [Bool.or_eq_true, decide_eq_true_eq, decide_eq_true_eq] at h
    rcases h with h | h
    · exact ⟨he _ h, decide_eq_true (dts_mem h).1⟩
    · exact ⟨by rw [hH]; exact he _ h, decide_eq_true (dts_mem h).2⟩
  · simp only [List.mem_cons, List.not_mem_nil, or_false] at hf
    rcases hf with rfl | rfl
    · exact ⟨hn, h3, fun v hv => decide_eq_true hv⟩
    · exact ⟨(List.reverse_perm _).nodup_iff.mpr hn, by rw [List.length_reverse]; exact h3, fun v hv => decide_eq_true (List.mem_reverse.mp hv)⟩
  · rw [hDT]
    refine List.nodup_append.mpr ⟨dts_nodup hn, dts_nodup ((List.reverse_perm _).nodup_iff.mpr hn), fun a ha b hb e => ?_⟩
    subst e
    exact dts_asym hn h3 ha ((dts_rev c a.1 a.2).mp hb)
  · rw [hDT]
    exact hmem
  · rw [hDT, List.length_append, dts_len, dts_len, List.length_reverse]
    omega
  · rw [cnt_list hn (fun v hv => (hc v hv).1)]
    rfl
  · have hvc := of_decide_eq_true hv
    obtain ⟨n, h1⟩ := dts_ex hvc
    obtain ⟨p, h2⟩ := dts_ex (l := c.reverse) (List.mem_reverse.mpr hvc)
    have h2' := (dts_rev c v p).mp h2
    have hne : p ≠ n := fun e => dts_asym hn h3 h1 (e ▸ h2')
    have hnr : c.reverse.Nodup := (List.reverse_perm _).nodup_iff.mpr hn
    refine ⟨[p, n], List.nodup_cons.mpr ⟨by simp [hne], List.nodup_cons.mpr ⟨List.not_mem_nil, List.nodup_nil⟩⟩, fun x => ?_, fun f hf x y g1 g2 => ?_⟩
    · simp only [List.mem_cons, List.not_mem_nil, or_false, Bool.or_eq_true, decide_eq_true_eq]
      constructor
      · rintro (h | h)
        · exact Or.inr (h ▸ h2')
        · exact Or.inl (h ▸ h1)
      · rintro (h | h)
        · exact Or.inr (dts_fun hn h h1)
        · exact Or.inl (dts_inj hn h h2')
    · simp only [List.mem_cons, List.not_mem_nil, or_false] at hf
      rcases hf with rfl | rfl
      · rw [dts_inj hn g1 h2', dts_fun hn g2 h1]
        simp [dts, pd]
      · rw [dts_rev] at g1 g2
        rw [dts_fun hn g1 h1, dts_inj hn g2 h2']
        simp [dts, pd]
/-- sums -/
def sm (f : Nat → Nat) : Nat → Nat
  | 0 => 0
  | n + 1 => sm f n + f n
theorem sm_le {f g : Nat → Nat} : ∀ {n : Nat}, (∀ i, i < n → f i ≤ g i) → sm f n ≤ sm g n
  | 0, _ => Nat.le_refl _
  | n + 1, h => by
    have := sm_le (n := n) (fun i hi => h i (by omega))
    have := h n (by omega)
    show sm f n + f n ≤ sm g n + g n
    omega
theorem sm_ext {f g : Nat → Nat} : ∀ {n : Nat}, (∀ i, i < n → f i = g i) → sm f n = sm g n
  | 0, _ => rfl
  | n + 1, h => by
    show sm f n + f n = sm g n + g n
    rw [sm_ext (n := n) (fun i hi => h i (by omega)), h n (by omega)]
theorem sm_lt {f g : Nat → Nat} : ∀ {n : Nat}, (∀ i, i < n → f i ≤ g i) → (∃ i, i < n ∧ f i < g i) → sm f n < sm g n
  | 0, _, ⟨i, h, _⟩ => by omega
  | n + 1, h, ⟨i, hi, hlt⟩ => by
    show sm f n + f n < sm g n + g n
    by_cases e : i = n
    · subst e
      have := sm_le (f := f) (g := g) (n := i) (fun j hj => h j (by omega))
      omega
    · have := sm_lt (n := n) (fun j hj => h j (by omega)) ⟨i, by omega, hlt⟩
      have := h n (by omega)
      omega
theorem cnt_filter (S : Nat → Bool) : ∀ n, cnt S n = ((List.range n).filter S).length
  | 0 => rfl
  | n + 1 => by
    rw [List.range_succ, List.filter_append, List.length_append, ← cnt_filter S n]
    show cnt S n + _ = _
    cases h : S n <;> simp [h]
/-- the pairs of a relation, counted row by row -/
theorem pairs_len {P : Nat → Nat → Bool} {l : List xPr} (hn : l.Nodup) (hm : ∀ x y, (x, y) ∈ l ↔ P x y = true) (hP : ∀ x y, P x y = true → x < 10 ∧ y < 10) : l.length = sm (fun x => cnt (P x) 10) 10 := by
  have key : ∀ n, ((List.range n).flatMap (fun x => ((List.range 10).filter (P x)).map (fun y => (x, y)))).length = sm (fun x => cnt (P x) 10) n := by
    intro n
    induction n with
    | zero => rfl
    | succ n ih =>
      rw [List.range_succ (n := n), List.flatMap_append, List.length_append, ih]
      simp [sm, cnt_filter]
  have nd : ∀ n, ((List.range n).flatMap (fun x => ((List.range 10).filter (P x)).map (fun y => (x, y)))).Nodup := by
    intro n
    induction n with
    | zero => exact List.nodup_nil
    | succ n ih =>
      rw [List.range_succ (n := n), List.flatMap_append]
      refine List.nodup_append.mpr ⟨ih, ?_, fun a ha b hb e => ?_⟩
      · simp only [List.flatMap_cons, List.flatMap_nil, List.append_nil]
        refine List.Pairwise.map _ (R := fun a b => a ≠ b) (fun a b h e => h (congrArg Prod.snd e)) ?_
        exact (List.nodup_range (n := 10)).sublist List.filter_sublist
      · subst e
        obtain ⟨x, hx, h1⟩ := List.mem_flatMap.mp ha
        obtain ⟨y, hy, h2⟩ := List.mem_flatMap.mp hb
        obtain ⟨_, _, e1⟩ := List.mem_map.mp h1
        obtain ⟨_, _, e2⟩ := List.mem_map.mp h2
        have := List.mem_range.mp hx
        rw [List.mem_singleton] at hy
        have e3 : x = y := congrArg Prod.fst (e1.trans e2.symm)
        omega
  rw [← key 10]
  refine List.Perm.length_eq ((List.perm_ext_iff_of_nodup hn (nd 10)).mpr (fun a => ?_))
  obtain ⟨x, y⟩ := a
  rw [hm, List.mem_flatMap]
  constructor
  · intro h
    exact ⟨x, List.mem_range.mpr (hP x y h).1, List.mem_map.mpr ⟨y, List.mem_filter.mpr ⟨List.mem_range.mpr (hP x y h).2, h⟩, rfl⟩⟩
  · rintro ⟨x', _, h⟩
    obtain ⟨y', h2, e⟩ := List.mem_map.mp h
    cases e
    exact (List.mem_filter.mp h2).2
/-- twice the number of edges -/
theorem sm_even {H : Nat → Nat → Bool} (hs : ∀ u v, H u v = H v u) (hi : ∀ v, H v v = false) : ∀ n, sm (fun x => cnt (H x) n) n = 2 * sm (fun x => cnt (H x) x) n := by
  have col : ∀ n m, sm (fun x => cnt (H x) (n + 1)) m = sm (fun x => cnt (H x) n) m + cnt (H n) m := by
    intro n m
    induction m with
    | zero => rfl
    | succ m ih =>
      show sm _ m + cnt (H m) (n + 1) = (sm _ m + cnt (H m) n) + (cnt (H n) m + (bif H n m then 1 else 0))
      rw [ih]
      show _ + (cnt (H m) n + (bif H m n then 1 else 0)) = _
      rw [hs m n]
      omega
  intro n
  induction n with
  | zero => rfl
  | succ n ih =>
    show sm (fun x => cnt (H x) (n + 1)) n + cnt (H n) (n + 1) = 2 * (sm (fun x => cnt (H x) x) n + cnt (H n) n)
    rw [col n n, ih]
    show _ + (cnt (H n) n + (bif H n n then 1 else 0)) = _
    rw [hi]
    simp only [cond_false]
    omega
/-- the number of edges -/
def ec (H : Nat → Nat → Bool) : Nat := sm (fun x => cnt (H x) x) 10
/-! fragments -/
/-- a block: its edges join its own vertices, and without one vertex it is in one piece -/
def BIC (H : Nat → Nat → Bool) (S : Nat → Bool) : Prop := (∀ x y, H x y = H y x) ∧ (∀ x, H x x = false) ∧ (∀ x y, H x y = true → x < 10 ∧ y < 10 ∧ S x = true ∧ S y = true) ∧
  ∀ x y u, x < 10 → y < 10 → u < 10 → S x = true → S y = true → x ≠ u → y ≠ u → con H (fun v => S v && but u v) x y
/-- the vertices that are not placed and joined with x by such -/
def cmp (H : Nat → Nat → Bool) (S PV : Nat → Bool) (x : Nat) : Nat → Bool := rch H (fun v => S v && !PV v) (fun v => decide (v = x))
/-- the contacts of a set -/
def ctc (H : Nat → Nat → Bool) (PV D : Nat → Bool) : Nat → Bool := fun v => nb H D v && PV v
section
variable {H : Nat → Nat → Bool} {S PV : Nat → Bool} {x : Nat}
theorem cmp_in {v : Nat} (h : cmp H S PV x v = true) : S v = true ∧ PV v = false := by
  have := rch_in h
  simp only [Bool.and_eq_true, Bool.not_eq_true'] at this
  exact this
theorem cmp_self (hx : S x = true) (hp : PV x = false) : cmp H S PV x x = true := rch_start (by simp) (by simp [hx, hp])
theorem cmp_step {u v : Nat} (hu : u < 10) (hv : v < 10) (h : cmp H S PV x u = true) (hg : H u v = true) (hS : S v = true) (hp : PV v = false) : cmp H S PV x v = true := rch_step hu hv h hg (by simp [hS, hp])
/-- a component is joined inside itself -/
theorem cmp_con (hx : x < 10) {v : Nat} (hv : v < 10) (h : cmp H S PV x v = true) : con H (cmp H S PV x) x v := by
  have k : cmp H S PV x v = true ∧ con H (cmp H S PV x) x v := by
    refine rch_ind (G := H) (A := fun v => S v && !PV v) (X := fun v => decide (v = x)) (fun v => cmp H S PV x v = true ∧ con H (cmp H S PV x) x v) (fun v _ a b => ?_) (fun u v hu hv q hg hA => ?_) v hv h
    · have e := of_decide_eq_true a
      subst e
      have : cmp H S PV v v = true := rch_start a b
      exact ⟨this, con_rfl this⟩
    · have h1 : cmp H S PV x v = true := rch_step hu hv q.1 hg hA
      exact ⟨h1, con_step q.2 hu hv hg h1⟩
  exact k.2
theorem cmp_same (hb : ∀ x y, H x y = H y x) (hx : x < 10) {y : Nat} (hy : y < 10) (h : cmp H S PV x y = true) : ∀ v, v < 10 → cmp H S PV y v = cmp H S PV x v := by
  have hxy : con H (fun v => S v && !PV v) x y := h
  have hyx := con_sym hb hx hy hxy
  intro v hv
  cases h1 : cmp H S PV x v with
  | true => exact con_trans hyx h1 hv
  | false =>
    cases h2 : cmp H S PV y v with
    | false => rfl
    | true =>
      have h3 : cmp H S PV x v = true := con_trans hxy h2 hv
      rw [h3] at h1
      cases h1
/-- a component that isn't placed has two contacts -/
theorem ctc_two (hb : BIC H S) (hx : x < 10) (hS : S x = true) (hp : PV x = false) (hPS : ∀ v, PV v = true → S v = true ∧ v < 10) (h2 : ∃ y z, y ≠ z ∧ PV y = true ∧ PV z = true) : ∃ y z, y < 10 ∧ z < 10 ∧ y ≠ z ∧ ctc H PV (cmp H S PV x) y = true ∧ ctc H PV (cmp H S PV x) z = true := by
  -- without c a contact other than c is met
  have other : ∀ c, c < 10 → c ≠ x → (∃ y, y ≠ c ∧ PV y = true) → ∃ y, y < 10 ∧ y ≠ c ∧ ctc H PV (cmp H S PV x) y = true := by
    rintro c hc hcx ⟨y, hyc, hy⟩
    refine Classical.byContradiction (fun hno => ?_)
    have hc2 := hb.2.2.2 x y c hx (hPS y hy).2 hc hS (hPS y hy).1 (fun e => hcx e.symm) hyc
    have : cmp H S PV x y = true := by
      refine con_ind (fun z => cmp H S PV x z = true) (fun _ => cmp_self hS hp) (fun u v hu hv q hg hA => ?_) (hPS y hy).2 hc2
      rw [Bool.and_eq_true, but_iff] at hA
      cases hPv : PV v with
      | false => exact cmp_step hu hv q hg hA.1 hPv
      | true => exact absurd ⟨v, hv, hA.2, by unfold ctc; rw [nb_iff.mpr ⟨u, hu, q, hg⟩, hPv]; rfl⟩ hno
    rw [(cmp_in this).2] at hy
    cases hy
  obtain ⟨y, z, hyz, hy, hz⟩ := h2
  have nx : ∀ v, PV v = true → v ≠ x := fun v hv e => by subst e; rw [hp] at hv; cases hv
  obtain ⟨c1, a1, b1, d1⟩ := other y (hPS y hy).2 (nx y hy) ⟨z, fun e => hyz e.symm, hz⟩
  have hc1 : PV c1 = true := by
    unfold ctc at d1
    rw [Bool.and_eq_true] at d1
    exact d1.2
  obtain ⟨c2, a2, b2, d2⟩ := other c1 a1 (nx c1 hc1) ⟨y, fun e => b1 e.symm, hy⟩
  exact ⟨c1, c2, a1, a2, fun e => b2 e.symm, d1, d2⟩
/-- a path through a component, from a contact to another one -/
theorem ctc_path (hb : BIC H S) (hx : x < 10) {u : Nat} {T : Nat → Bool} (hu : u < 10) (huc : ctc H PV (cmp H S PV x) u = true) (hT : ∃ t, t < 10 ∧ T t = true ∧ ctc H PV (cmp H S PV x) t = true) (hc9 : cnt (cmp H S PV x) 10 ≤ 8) :
    1 ≤ fdep H (cmp H S PV x) T u 9 ∧ fdep H (cmp H S PV x) T u 9 ≤ 8 ∧ ∃ z, z < 10 ∧ H u z = true ∧ lay H (cmp H S PV x) T (fdep H (cmp H S PV x) T u 9) z = true := by
  obtain ⟨t, t1, t2, t3⟩ := hT
  unfold ctc at huc t3
  rw [Bool.and_eq_true] at huc t3
  obtain ⟨d1, e1, e2, e3⟩ := nb_iff.mp huc.1
  obtain ⟨d2, f1, f2, f3⟩ := nb_iff.mp t3.1
  have hcc : con H (cmp H S PV x) d2 d1 := con_trans (con_sym hb.1 hx f1 (cmp_con hx f1 f2)) (cmp_con hx e1 e2) e1
  obtain ⟨k, k1, k2⟩ := lay_all (T := T) f1 e1 hcc ⟨t, t1, t2, by rw [hb.1]; exact f3⟩
  obtain ⟨j, rfl⟩ : ∃ j, k = j + 1 := ⟨k - 1, by omega⟩
  have hd := lay_deep e1 k2
  have hm : meet (lay H (cmp H S PV x) T (j + 1)) (H u) = true := meet_iff.mpr ⟨d1, e1, k2, by rw [hb.1]; exact e3⟩
  obtain ⟨s1, s2⟩ := fdep_spec (H := H) (A := cmp H S PV x) (T := T) (u := u) 9
  by_cases h0 : fdep H (cmp H S PV x) T u 9 = 0
  · have := s2 h0 (j + 1) k1 (by omega)
    rw [hm] at this
    cases this
  · obtain ⟨g1, g2, g3, g4⟩ := s1 h0
    have hle : fdep H (cmp H S PV x) T u 9 ≤ j + 1 := by
      refine Decidable.byContradiction (fun z => ?_)
      have := g4 (j + 1) k1 (by omega)
      rw [hm] at this
      cases this
    obtain ⟨z, z1, z2, z3⟩ := meet_iff.mp g3
    exact ⟨g1, by omega, z, z1, z3, z2⟩
end
end
section
/-! one step of the embedding, as a function -/
def pfold {α : Type} (f : α → Nat → Nat → α) (s : α) : Nat → α
  | 0 => s
  | n + 1 => if n / 10 < n % 10 then f (pfold f s n) (n / 10) (n % 10) else pfold f s n
theorem pfold_next {α : Type} {f : α → Nat → Nat → α} {s : α} {a b : Nat} (hb : b < 10) (hab : a < b) : pfold f s (10 * a + b + 1) = f (pfold f s (10 * a + b)) a b := by
  show (if (10 * a + b) / 10 < (10 * a + b) % 10 then _ else _) = _
  have e1 : (10 * a + b) / 10 = a := by omega
  have e2 : (10 * a + b) % 10 = b := by omega
  rw [e1, e2, if_pos hab]
theorem pfold_skip {α : Type} {f : α → Nat → Nat → α} {s : α} {a : Nat} : ∀ {b : Nat}, b ≤ a + 1 → b ≤ 10 → pfold f s (10 * a + b) = pfold f s (10 * a)
  | 0, _, _ => rfl
  | b + 1, h, h2 => by
    show (if (10 * a + b) / 10 < (10 * a + b) % 10 then _ else _) = _
    have e1 : (10 * a + b) / 10 = a := by omega
    have e2 : (10 * a + b) % 10 = b := by omega
    rw [e1, e2, if_neg (by omega)]
    exact pfold_skip (by omega) (by omega)
theorem pfold_ind {α : Type} {f : α → Nat → Nat → α} {s : α} (I : α → Prop) (h0 : I s) (hs : ∀ t a b, a < b → b < 10 → I t → I (f t a b)) : ∀ n, n ≤ 100 → I (pfold f s n)
  | 0, _ => h0
  | n + 1, h => by
    show I (if n / 10 < n % 10 then _ else _)
    split
    · next hlt => exact hs _ _ _ hlt (by omega) (pfold_ind I h0 hs n (by omega))
    · exact pfold_ind I h0 hs n (by omega)
/-- what is true once stays true -/
theorem pfold_mono {α : Type} {f : α → Nat → Nat → α} {s : α} (I : α → Prop) (hs : ∀ t a b, a < b → b < 10 → I t → I (f t a b)) {n : Nat} (h : I (pfold f s n)) : ∀ m, n ≤ m → m ≤ 100 → I (pfold f s m) := by
  intro m
  induction m with
  | zero =>
    intro h1 _
    have : n = 0 := by omega
    subst this
    exact h
  | succ m ih =>
    intro h1 h2
    by_cases e : n = m + 1
    · subst e; exact h
    · show I (if m / 10 < m % 10 then _ else _)
      split
      · next hlt => exact hs _ _ _ hlt (by omega) (ih (by omega) (by omega))
      · exact ih (by omega) (by omega)
theorem tb_mk_fun {D : Nat → Bool} (h : ∀ v, D v = true → v < 10) : tb (mk D) = D := by
  funext v
  by_cases h1 : v < 32
  · rw [tb_mk D h1]
    cases hD : D v with
    | false => simp
    | true => simp [h v hD]
  · have e1 : tb (mk D) v = false := by
      unfold tb
      exact BitVec.getLsbD_of_ge _ _ (by omega)
    rw [e1]
    cases hD : D v with
    | false => rfl
    | true => have := h v hD; omega
abbrev xFr : Type := Int32 × Int32
section
variable (H : Nat → Nat → Bool) (S : Nat → Bool)
/-- a pair of vertices with an edge that isn't placed -/
def frAdd (P : Nat → Nat → Bool) (PV : Nat → Bool) (l : List xFr) (a b : Nat) : List xFr :=
  if H a b && !P a b then
    if PV a && PV b then l ++ [(0, mk (two a b))]
    else if l.any (fun q => decide (q.1 = mk (cmp H S PV (bif PV a then b else a)))) then l
    else l ++ [(mk (cmp H S PV (bif PV a then b else a)), mk (ctc H PV (cmp H S PV (bif PV a then b else a))))]
  else l
def frs (P : Nat → Nat → Bool) (PV : Nat → Bool) (n : Nat) : List xFr := pfold (frAdd H S P PV) [] n
end
/-- does a face hold all contacts -/
def fitf (c : Int32) (f : List Nat) : Bool := ally (fun v => !tb c v || decide (v ∈ f)) 10
theorem fitf_iff {c : Int32} {f : List Nat} : fitf c f = true ↔ ∀ v, v < 10 → tb c v = true → v ∈ f := by
  unfold fitf
  rw [ally_iff]
  constructor
  · intro h v hv ht
    have := h v hv
    rw [ht] at this
    simpa using this
  · intro h v hv
    cases ht : tb c v with
    | false => rfl
    | true => simp [h v hv ht]
def nfit (c : Int32) (faces : List (List Nat)) : Nat := (faces.filter (fitf c)).length
def ffit (c : Int32) (faces : List (List Nat)) : Nat := faces.findIdx (fitf c)
/-- the fragment that is chosen -/
def chs (faces : List (List Nat)) (l : List xFr) : Option xFr :=
  if l.any (fun q => Nat.beq (nfit q.2 faces) 0) then none else match l.find? (fun q => Nat.beq (nfit q.2 faces) 1) with
    | some q => some q
    | none => l.head?
/-- the path that is placed -/
def pth (H : Nat → Nat → Bool) (q : xFr) : List Nat :=
  if q.1 = 0 then [low (tb q.2), low (fun v => tb q.2 v && !decide (v = low (tb q.2)))]
  else low (tb q.2) :: dsc H (tb q.1) (fun v => tb q.2 v && !decide (v = low (tb q.2))) (fdep H (tb q.1) (fun v => tb q.2 v && !decide (v = low (tb q.2))) (low (tb q.2)) 9) (low (tb q.2))
/-- a face, begun at u -/
def rot (l : List Nat) (u : Nat) : List Nat := l.drop (l.findIdx (fun v => Nat.beq v u)) ++ l.take (l.findIdx (fun v => Nat.beq v u))
/-- as far as w, and from w on -/
def cutA (l : List Nat) (w : Nat) : List Nat := l.takeWhile (fun v => !Nat.beq v w)
def cutB (l : List Nat) (w : Nat) : List Nat := l.dropWhile (fun v => !Nat.beq v w)
def plc (faces : List (List Nat)) (cf u w : Nat) (inn : List Nat) : List (List Nat) :=
  faces.set cf (cutA (rot (faces.getD cf []) u) w ++ w :: inn.reverse) ++ [cutB (rot (faces.getD cf []) u) w ++ u :: inn]
/-- a fragment is one edge between placed vertices, or a component -/
def FOK (H : Nat → Nat → Bool) (S : Nat → Bool) (P : Nat → Nat → Bool) (PV : Nat → Bool) (q : xFr) : Prop :=
  (q.1 = 0 ∧ ∃ a b, a < b ∧ b < 10 ∧ H a b = true ∧ P a b = false ∧ PV a = true ∧ PV b = true ∧ q.2 = mk (two a b)) ∨
  ∃ x, x < 10 ∧ S x = true ∧ PV x = false ∧ q.1 = mk (cmp H S PV x) ∧ q.2 = mk (ctc H PV (cmp H S PV x))
section
variable {H : Nat → Nat → Bool} {S : Nat → Bool} {P : Nat → Nat → Bool} {PV : Nat → Bool}
theorem frs_ok (hb : BIC H S) : ∀ n, n ≤ 100 → ∀ q ∈ frs H S P PV n, FOK H S P PV q := by
  refine pfold_ind (fun l => ∀ q ∈ l, FOK H S P PV q) (fun q hq => by cases hq) (fun l a b hab hb10 ih => ?_)
  unfold frAdd
  cases hl : (H a b && !P a b) with
  | false => exact ih
  | true =>
    rw [if_pos rfl]
    rw [Bool.and_eq_true, Bool.not_eq_true'] at hl
    cases hp : (PV a && PV b) with
    | true =>
      rw [if_pos rfl]
      rw [Bool.and_eq_true] at hp
      intro q hq
      rcases List.mem_append.mp hq with h | h
      · exact ih q h
      · rw [List.mem_singleton] at h
        subst h
        exact Or.inl ⟨rfl, a, b, hab, hb10, hl.1, hl.2, hp.1, hp.2, rfl⟩
    | false =>
      rw [if_neg (by decide)]
      split
      · exact ih
      · intro q hq
        rcases List.mem_append.mp hq with h | h
        · exact ih q h
        · rw [List.mem_singleton] at h
          subst h
          have hS := hb.2.2.1 a b hl.1
          cases ha : PV a with
          | true =>
            have hPb : PV b = false := by
              rw [ha] at hp
              exact hp
            exact Or.inr ⟨b, hS.2.1, hS.2.2.2, hPb, rfl, rfl⟩
          | false => exact Or.inr ⟨a, hS.1, hS.2.2.1, ha, rfl, rfl⟩
theorem frAdd_some {l : List xFr} {a b : Nat} (h1 : H a b = true) (h2 : P a b = false) : frAdd H S P PV l a b ≠ [] := by
  unfold frAdd
  rw [h1, h2]
  simp only [Bool.not_false, Bool.and_self, if_true]
  split
  · simp
  · split
    · next h =>
      intro e
      rw [e] at h
      simp at h
    · simp
/-- while an edge is left there is a fragment -/
theorem frs_some (hb : BIC H S) (hs : ∀ x y, P x y = P y x) (h : ∃ x y, H x y = true ∧ P x y = false) : frs H S P PV 100 ≠ [] := by
  obtain ⟨x, y, h1, h2⟩ := h
  have hS := hb.2.2.1 x y h1
  have key : ∀ a b, a < b → b < 10 → H a b = true → P a b = false → frs H S P PV 100 ≠ [] := by
    intro a b hab hb10 e1 e2
    refine pfold_mono (f := frAdd H S P PV) (s := []) (fun l => l ≠ []) (fun l c d _ _ hl => ?_) (n := 10 * a + b + 1) ?_ 100 (by omega) (Nat.le_refl _)
    · unfold frAdd
      split
      · split
        · simp
        · split
          · exact hl
          · simp
      · exact hl
    · rw [pfold_next hb10 hab]
      exact frAdd_some e1 e2
  rcases Nat.lt_trichotomy x y with q | q | q
  · exact key x y q hS.2.1 h1 h2
  · subst q
    rw [hb.2.1] at h1
    cases h1
  · exact key y x q hS.1 (by rw [hb.1]; exact h1) (by rw [hs]; exact h2)
end
theorem two_mk {a b : Nat} (ha : a < 10) (hb : b < 10) : tb (mk (two a b)) = two a b := tb_mk_fun fun v h => by
  rcases two_iff.mp h with rfl | rfl
  · exact ha
  · exact hb
/-- what a chosen path is -/
def PTH (H : Nat → Nat → Bool) (S : Nat → Bool) (P : Nat → Nat → Bool) (PV : Nat → Bool) (q : xFr) (u : Nat) (inn : List Nat) (w : Nat) : Prop :=
  pth H q = u :: inn ++ [w] ∧ u = low (tb q.2) ∧ u < 10 ∧ w < 10 ∧ u ≠ w ∧ tb q.2 u = true ∧ tb q.2 w = true ∧ inn.Nodup ∧ (∀ p ∈ inn, p < 10 ∧ PV p = false ∧ S p = true) ∧ (∀ e ∈ pd (u :: inn ++ [w]), H e.1 e.2 = true ∧ P e.1 e.2 = false) ∧
  (q.1 = 0 → inn = []) ∧ (q.1 ≠ 0 → 1 ≤ inn.length ∧ inn.length = fdep H (tb q.1) (fun v => tb q.2 v && !decide (v = u)) u 9)
theorem pth_ok {H : Nat → Nat → Bool} {S : Nat → Bool} {P : Nat → Nat → Bool} {PV : Nat → Bool} (hb : BIC H S) (hS : ∀ v, S v = true → v < 10) (hP : ∀ x y, P x y = true → PV x = true ∧ PV y = true) (hPS : ∀ v, PV v = true → S v = true) (h2 : ∃ y z, y ≠ z ∧ PV y = true ∧ PV z = true) {q : xFr} (hq : FOK H S P PV q) :
    ∃ u inn w, PTH H S P PV q u inn w := by
  rcases hq with ⟨h0, a, b, hab, hb10, e1, e2, e3, e4, e5⟩ | ⟨x, hx, hSx, hPx, e1, e2⟩
  · have ht : tb q.2 = two a b := by rw [e5]; exact two_mk (by omega) hb10
    have hl : low (two a b) = a := low_eq (by omega) (two_iff.mpr (Or.inl rfl)) (fun v hv => by
      cases h : two a b v with
      | false => rfl
      | true => rcases two_iff.mp h with h | h <;> omega)
    have hl2 : low (fun v => two a b v && !decide (v = a)) = b := low_eq hb10 (by simp [two]; omega) (fun v hv => by
      cases h : two a b v with
      | false => rfl
      | true =>
        rcases two_iff.mp h with h | h
        · simp [h]
        · omega)
    refine ⟨a, [], b, ?_, by rw [ht, hl], by omega, hb10, by omega, by rw [ht]; exact two_iff.mpr (Or.inl rfl), by rw [ht]; exact two_iff.mpr (Or.inr rfl), List.nodup_nil, (fun p hp => by cases hp), fun e he => ?_, fun _ => rfl, fun h => absurd h0 h⟩
    · unfold pth
      rw [if_pos h0, ht, hl, hl2]
      rfl
    · have : e = (a, b) := by simpa [pd] using he
      subst this
      exact ⟨e1, e2⟩
  · have hD : tb q.1 = cmp H S PV x := by rw [e1]; exact tb_mk_fun fun v h => hS v (cmp_in h).1
    have hC : tb q.2 = ctc H PV (cmp H S PV x) := by
      rw [e2]
      refine tb_mk_fun fun v h => ?_
      unfold ctc at h
      rw [Bool.and_eq_true] at h
      exact hS v (hPS v h.2)
    have h0 : q.1 ≠ 0 := by
      intro e
      have := cmp_self (H := H) hSx hPx
      rw [← hD, e, tb_0] at this
      cases this
    obtain ⟨y, z, y1, z1, yz, yc, zc⟩ := ctc_two hb hx hSx hPx (fun v hv => ⟨hPS v hv, hS v (hPS v hv)⟩) h2
    rw [← hC] at yc zc
    have hlow := low_some y1 yc
    generalize hu : low (tb q.2) = u at hlow
    have hT : ∃ t, t < 10 ∧ (fun v => tb q.2 v && !decide (v = u)) t = true ∧ ctc H PV (cmp H S PV x) t = true := by
      by_cases e : y = u
      · exact ⟨z, z1, by simp [zc]; omega, by rw [← hC]; exact zc⟩
      · exact ⟨y, y1, by simp [yc, e], by rw [← hC]; exact yc⟩
    have hc8 : cnt (cmp H S PV x) 10 ≤ 8 := by
      obtain ⟨p1, p2, p12, hp1, hp2⟩ := h2
      have q1 := hS p1 (hPS p1 hp1)
      have q2 := hS p2 (hPS p2 hp2)
      have n1 : cmp H S PV x p1 = false := by
        cases h : cmp H S PV x p1 with
        | false => rfl
        | true => rw [(cmp_in h).2] at hp1; cases hp1
      have n2 : cmp H S PV x p2 = false := by
        cases h : cmp H S PV x p2 with
        | false => rfl
        | true => rw [(cmp_in h).2] at hp2; cases hp2
      have k := cnt_add1 q1 n1
      have k2 := cnt_add1 (S := fun v => cmp H S PV x v || decide (v = p1)) q2 (by simp [n2]; omega)
      have k3 := cnt_le (fun v => (cmp H S PV x v || decide (v = p1)) || decide (v = p2)) 10
      omega
    obtain ⟨f1, f2, f3⟩ := ctc_path hb hx (T := fun v => tb q.2 v && !decide (v = u)) hlow.1 (by rw [← hC]; exact hlow.2) hT hc8
    obtain ⟨inn, t, g1, g2, g3, g4, g5, g6, g7⟩ := dsc_pok hb.1 f3
    simp only [Bool.and_eq_true, Bool.not_eq_true', decide_eq_false_iff_not] at g4
    have hne : inn ≠ [] := by
      intro e
      rw [e] at g2
      simp at g2
      omega
    refine ⟨u, inn, t, ?_, hu.symm, hlow.1, g3, fun e => g4.2 e.symm, hlow.2, g4.1, g6, fun p hp => ?_, fun e he => ⟨g7 e he, ?_⟩, fun e => absurd e h0, fun _ => ⟨by omega, by rw [g2, hD]⟩⟩
    · unfold pth
      rw [if_neg h0, hu, hD, g1]
      rfl
    · have := cmp_in (g5 p hp).2
      exact ⟨(g5 p hp).1, this.2, this.1⟩
    · -- one of the two ends lies between
      have hends : e.1 ∈ inn ∨ e.2 ∈ inn := by
        obtain ⟨i1, I1, hi⟩ : ∃ a D, inn = a :: D := by
          cases inn with
          | nil => exact absurd rfl hne
          | cons a D => exact ⟨a, D, rfl⟩
        obtain ⟨D, l, hDl⟩ := snoc_ex i1 I1
        rw [← hi] at hDl
        have e0 : u :: inn ++ [t] = u :: i1 :: (I1 ++ [t]) := by rw [hi]; rfl
        rw [e0, pd_cons2] at he
        rcases List.mem_cons.mp he with h | h
        · right
          rw [h, hi]
          exact List.mem_cons_self
        · have e3 : i1 :: (I1 ++ [t]) = D ++ l :: [t] := by
            have : inn ++ [t] = D ++ l :: [t] := by rw [hDl]; simp
            rw [hi] at this
            exact this
          rw [e3, pd_app] at h
          rcases List.mem_append.mp h with h | h
          · left
            have := (pd_mem h).1
            rw [← hDl] at this
            exact this
          · left
            have : e = (l, t) := by simpa [pd] using h
            rw [this, hDl]
            simp
      cases hPe : P e.1 e.2 with
      | false => rfl
      | true =>
        have hp := hP _ _ hPe
        rcases hends with h | h
        · have := (cmp_in (g5 _ h).2).2
          rw [hp.1] at this
          cases this
        · have := (cmp_in (g5 _ h).2).2
          rw [hp.2] at this
          cases this
end
section
/-! the embedding, run to its end -/
theorem findIdx_beq {l : List Nat} {u : Nat} (h : u ∈ l) : ∃ A B, l = A ++ u :: B ∧ u ∉ A ∧ l.findIdx (fun v => Nat.beq v u) = A.length := by
  induction l with
  | nil => cases h
  | cons a t ih =>
    by_cases e : a = u
    · subst e
      exact ⟨[], t, rfl, List.not_mem_nil, by simp [List.findIdx_cons]⟩
    · have ht : u ∈ t := by
        rcases List.mem_cons.mp h with h | h
        · exact absurd h.symm e
        · exact h
      obtain ⟨A, B, h1, h2, h3⟩ := ih ht
      refine ⟨a :: A, B, by rw [h1]; rfl, fun hm => ?_, ?_⟩
      · rcases List.mem_cons.mp hm with h | h
        · exact e h.symm
        · exact h2 h
      · have eb : Nat.beq a u = false := by
          cases hb : Nat.beq a u with
          | false => rfl
          | true => exact absurd (Nat.eq_of_beq_eq_true hb) e
        rw [List.findIdx_cons, eb, h3]
        rfl
theorem rot_of {l : List Nat} {u : Nat} (h : u ∈ l) : ∃ A B, l = A ++ u :: B ∧ u ∉ A ∧ l.findIdx (fun v => Nat.beq v u) = A.length ∧ rot l u = u :: B ++ A := by
  obtain ⟨A, B, h1, h2, h3⟩ := findIdx_beq h
  refine ⟨A, B, h1, h2, h3, ?_⟩
  unfold rot
  rw [h3, h1, List.drop_left, List.take_left]
theorem cut_of {l : List Nat} {w : Nat} (h : w ∈ l) : ∃ xs ys, l = xs ++ w :: ys ∧ w ∉ xs ∧ cutA l w = xs ∧ cutB l w = w :: ys := by
  unfold cutA cutB
  induction l with
  | nil => cases h
  | cons a t ih =>
    by_cases e : a = w
    · subst e
      exact ⟨[], t, rfl, List.not_mem_nil, by simp, by simp⟩
    · have ht : w ∈ t := by
        rcases List.mem_cons.mp h with h | h
        · exact absurd h.symm e
        · exact h
      have eb : Nat.beq a w = false := by
        cases hb : Nat.beq a w with
        | false => rfl
        | true => exact absurd (Nat.eq_of_beq_eq_true hb) e
      obtain ⟨xs, ys, h1, h2, h3, h4⟩ := ih ht
      refine ⟨a :: xs, ys, by rw [h1]; rfl, fun hm => ?_, ?_, ?_⟩
      · rcases List.mem_cons.mp hm with h | h
        · exact e h.symm
        · exact h2 h
      · rw [List.takeWhile_cons, eb]
        simp [h3]
      · rw [List.dropWhile_cons, eb]
        simp [h4]
theorem list_at {α : Type} {l : List α} {i : Nat} {a : α} (h : l[i]? = some a) : l = l.take i ++ a :: l.drop (i + 1) ∧ ∀ b, l.set i b = l.take i ++ b :: l.drop (i + 1) := by
  have hi := (List.getElem?_eq_some_iff.mp h).1
  have e : l[i] = a := (List.getElem?_eq_some_iff.mp h).2
  constructor
  · rw [← e, List.getElem_cons_drop, List.take_append_drop]
  · intro b
    rw [List.set_eq_take_append_cons_drop, if_pos hi]
abbrev xSg : Type := (Nat → Nat → Bool) × (Nat → Bool) × List (List Nat) × Nat
def estep (H : Nat → Nat → Bool) (S : Nat → Bool) (s : xSg) : Option xSg :=
  match chs s.2.2.1 (frs H S s.1 s.2.1 100) with
  | none => none
  | some q => some (addP s.1 (pth H q), addV s.2.1 (pth H q), plc s.2.2.1 (ffit q.2 s.2.2.1) (low (tb q.2)) ((pth H q).getLastD 0) (pth H q).tail.dropLast, s.2.2.2 + ((pth H q).length - 1))
def erun (H : Nat → Nat → Bool) (S : Nat → Bool) (m : Nat) : Nat → xSg → xSg
  | 0, s => s
  | n + 1, s => if s.2.2.2 < m then match estep H S s with
      | none => s
      | some s1 => erun H S m n s1
    else s
/-- what holds all along -/
def EOK (H : Nat → Nat → Bool) (S : Nat → Bool) (s : xSg) : Prop := INV H S s.1 s.2.1 s.2.2.1 s.2.2.2 ∧ 2 ≤ s.2.2.1.length
theorem chs_mem {faces : List (List Nat)} {l : List xFr} {q : xFr} (h : chs faces l = some q) : q ∈ l ∧ nfit q.2 faces ≠ 0 := by
  unfold chs at h
  split at h
  · cases h
  · next hno =>
    have hall : ∀ q ∈ l, nfit q.2 faces ≠ 0 := fun q hq e => hno (List.any_eq_true.mpr ⟨q, hq, by rw [e]; rfl⟩)
    split at h
    · next q2 hf =>
      cases h
      have := List.mem_of_find?_eq_some hf
      exact ⟨this, hall _ this⟩
    · have : q ∈ l := List.mem_of_head? h
      exact ⟨this, hall q this⟩
theorem ffit_ok {c : Int32} {faces : List (List Nat)} (h : nfit c faces ≠ 0) : ∃ f, faces[ffit c faces]? = some f ∧ fitf c f = true ∧ ∀ j, j < ffit c faces → ∀ g, faces[j]? = some g → fitf c g = false := by
  have hex : ∃ f ∈ faces, fitf c f = true := by
    refine Classical.byContradiction (fun z => h ?_)
    unfold nfit
    rw [List.length_eq_zero_iff, List.filter_eq_nil_iff]
    exact fun a ha hf => z ⟨a, ha, hf⟩
  have hlt : faces.findIdx (fitf c) < faces.length := List.findIdx_lt_length.mpr hex
  refine ⟨faces[faces.findIdx (fitf c)], List.getElem?_eq_getElem hlt, List.findIdx_getElem (w := hlt), fun j hj g hg => ?_⟩
  have h1 := List.not_of_lt_findIdx hj
  have hjl := (List.getElem?_eq_some_iff.mp hg).1
  rw [(List.getElem?_eq_some_iff.mp hg).2] at h1
  simpa using h1
section
variable {H : Nat → Nat → Bool} {S : Nat → Bool}
theorem EOK_two {s : xSg} (h : EOK H S s) : ∃ y z, y ≠ z ∧ s.2.1 y = true ∧ s.2.1 z = true := by
  obtain ⟨⟨_, _, _, i4, _⟩, h2⟩ := h
  obtain ⟨f, t, hf⟩ : ∃ f t, s.2.2.1 = f :: t := by
    cases hq : s.2.2.1 with
    | nil => rw [hq] at h2; simp at h2
    | cons f t => exact ⟨f, t, rfl⟩
  obtain ⟨n1, n2, n3⟩ := i4 f (by rw [hf]; exact List.mem_cons_self)
  match f, n1, n2, n3 with
  | [], _, n2, _ => simp at n2
  | [a], _, n2, _ => simp at n2
  | a :: b :: r, n1, _, n3 =>
    refine ⟨a, b, fun e => ?_, n3 a List.mem_cons_self, n3 b (List.mem_cons_of_mem _ List.mem_cons_self)⟩
    subst e
    exact (List.nodup_cons.mp n1).1 List.mem_cons_self
/-- what a step does -/
theorem estep_ok (hb : BIC H S) (hS : ∀ v, S v = true → v < 10) {s : xSg} (h : EOK H S s) {q : xFr} (hq : chs s.2.2.1 (frs H S s.1 s.2.1 100) = some q) :
    ∃ u inn w f A B xs ys, PTH H S s.1 s.2.1 q u inn w ∧ s.2.2.1[ffit q.2 s.2.2.1]? = some f ∧ f = A ++ u :: B ∧ u ∉ A ∧ f.findIdx (fun v => Nat.beq v u) = A.length ∧ B ++ A = xs ++ w :: ys ∧ w ∉ u :: xs ∧
      estep H S s = some (addP s.1 (u :: inn ++ [w]), addV s.2.1 inn, s.2.2.1.set (ffit q.2 s.2.2.1) (u :: xs ++ w :: inn.reverse) ++ [w :: ys ++ u :: inn], s.2.2.2 + inn.length + 1) ∧
      EOK H S (addP s.1 (u :: inn ++ [w]), addV s.2.1 inn, s.2.2.1.set (ffit q.2 s.2.2.1) (u :: xs ++ w :: inn.reverse) ++ [w :: ys ++ u :: inn], s.2.2.2 + inn.length + 1) := by
  obtain ⟨hI, h2⟩ := id h
  obtain ⟨P, PV, faces, E⟩ := s
  dsimp only at hI h2 hq ⊢
  obtain ⟨i1, i2, i3, i4, _⟩ := id hI
  obtain ⟨hm, hn⟩ := chs_mem hq
  have hPV : ∀ x y, P x y = true → PV x = true ∧ PV y = true := fun x y hxy => ⟨(i2 x y hxy).2, (i2 y x (by rw [i1]; exact hxy)).2⟩
  obtain ⟨u, inn, w, hp⟩ := pth_ok hb hS hPV i3 (EOK_two h) (frs_ok hb 100 (Nat.le_refl _) q hm)
  obtain ⟨p1, p2, p3, p4, p5, p6, p7, p8, p9, p10, p11, p12⟩ := id hp
  obtain ⟨f, hf, hfit, _⟩ := ffit_ok hn
  have hfm : f ∈ faces := List.mem_of_getElem? hf
  have huf : u ∈ f := fitf_iff.mp hfit u p3 p6
  have hwf : w ∈ f := fitf_iff.mp hfit w p4 p7
  obtain ⟨A, B, a1, a2, a3, a4⟩ := rot_of huf
  have hwr : w ∈ B ++ A := by
    rw [a1] at hwf
    simp only [List.mem_append, List.mem_cons] at hwf ⊢
    rcases hwf with h | h | h
    · exact Or.inr h
    · exact absurd h.symm p5
    · exact Or.inl h
  obtain ⟨xs, ys, c1, c2, c3, c4⟩ := cut_of hwr
  have hcA : cutA (rot f u) w = u :: xs := by
    rw [a4]
    show cutA (u :: (B ++ A)) w = _
    unfold cutA at c3 ⊢
    have eb : Nat.beq u w = false := by
      cases hb : Nat.beq u w with
      | false => rfl
      | true => exact absurd (Nat.eq_of_beq_eq_true hb) p5
    rw [List.takeWhile_cons, eb]
    simp [c3]
  have hcB : cutB (rot f u) w = w :: ys := by
    rw [a4]
    show cutB (u :: (B ++ A)) w = _
    unfold cutB at c4 ⊢
    have eb : Nat.beq u w = false := by
      cases hb : Nat.beq u w with
      | false => rfl
      | true => exact absurd (Nat.eq_of_beq_eq_true hb) p5
    rw [List.dropWhile_cons, eb]
    simp [c4]
  have hgl : (u :: inn ++ [w]).getLastD 0 = w := by rw [List.getLastD_eq_getLast?, List.getLast?_concat]; rfl
  have htd : (u :: inn ++ [w]).tail.dropLast = inn := by simp
  have haV : addV PV (u :: inn ++ [w]) = addV PV inn := by
    funext v
    unfold addV
    by_cases e1 : v = u
    · subst e1
      have : PV v = true := (i4 f hfm).2.2 v huf
      simp [this]
    · by_cases e2 : v = w
      · subst e2
        have : PV v = true := (i4 f hfm).2.2 v hwf
        simp [this]
      · simp [e1, e2]
  have hes : estep H S (P, PV, faces, E) = some (addP P (u :: inn ++ [w]), addV PV inn, faces.set (ffit q.2 faces) (u :: xs ++ w :: inn.reverse) ++ [w :: ys ++ u :: inn], E + inn.length + 1) := by
    unfold estep
    dsimp only
    rw [hq]
    dsimp only
    have hl : (u :: inn ++ [w]).length - 1 = inn.length + 1 := by simp
    rw [p1, ← p2, hgl, htd, haV, hl]
    unfold plc
    have hgd : faces.getD (ffit q.2 faces) [] = f := by rw [List.getD_eq_getElem?_getD, hf]; rfl
    rw [hgd, hcA, hcB]
    rfl
  refine ⟨u, inn, w, f, A, B, xs, ys, hp, hf, a1, a2, a3, c1, ?_, hes, ?_⟩
  · intro hm
    rcases List.mem_cons.mp hm with h | h
    · exact p5 h.symm
    · exact c2 h
  · obtain ⟨l1, l2⟩ := list_at hf
    refine ⟨?_, ?_⟩
    · dsimp only
      rw [l2]
      rw [l1, a1] at hI
      refine INV_step hb.1 hI (show u :: B ++ A = u :: xs ++ w :: ys by rw [List.cons_append, c1]; rfl) p8 p9 p10
    · dsimp only
      rw [List.length_append, List.length_set]
      simp
      omega
theorem EOK_lt (hb : BIC H S) {s : xSg} (h : EOK H S s) : 2 * s.2.2.2 = sm (fun x => cnt (s.1 x) 10) 10 := by
  obtain ⟨⟨i1, i2, _, _, i5, i6, i7, _⟩, _⟩ := h
  rw [← i7]
  exact pairs_len i5 i6 (fun x y hxy => ⟨(hb.2.2.1 x y (i2 x y hxy).1).1, (hb.2.2.1 x y (i2 x y hxy).1).2.1⟩)
theorem ec_sm (hb : BIC H S) : sm (fun x => cnt (H x) 10) 10 = 2 * ec H := sm_even hb.1 hb.2.1 10
theorem EOK_le (hb : BIC H S) {s : xSg} (h : EOK H S s) : s.2.2.2 ≤ ec H := by
  have h1 := EOK_lt hb h
  have h2 := ec_sm hb
  have h3 : sm (fun x => cnt (s.1 x) 10) 10 ≤ sm (fun x => cnt (H x) 10) 10 := sm_le fun i _ => cnt_mono fun v _ hv => (h.1.2.1 i v hv).1
  omega
/-- all is placed, or an edge is left -/
theorem EOK_left (hb : BIC H S) {s : xSg} (h : EOK H S s) (hlt : s.2.2.2 < ec H) : ∃ x y, H x y = true ∧ s.1 x y = false := by
  refine Classical.byContradiction (fun z => ?_)
  have h1 := EOK_lt hb h
  have h2 := ec_sm hb
  have h3 : sm (fun x => cnt (H x) 10) 10 ≤ sm (fun x => cnt (s.1 x) 10) 10 := sm_le fun i _ => cnt_mono fun v _ hv => by
    cases hs : s.1 i v with
    | true => rfl
    | false => exact absurd ⟨i, v, hv, hs⟩ z
  omega
theorem EOK_all (hb : BIC H S) {s : xSg} (h : EOK H S s) (he : s.2.2.2 = ec H) : ∀ x y, s.1 x y = H x y := by
  intro x y
  cases hH : H x y with
  | false =>
    cases hs : s.1 x y with
    | false => rfl
    | true => rw [(h.1.2.1 x y hs).1] at hH; cases hH
  | true =>
    cases hs : s.1 x y with
    | true => rfl
    | false =>
      have h1 := EOK_lt hb h
      have h2 := ec_sm hb
      have hx := hb.2.2.1 x y hH
      have h3 : sm (fun x => cnt (s.1 x) 10) 10 < sm (fun x => cnt (H x) 10) 10 := sm_lt (fun i _ => cnt_mono fun v _ hv => (h.1.2.1 i v hv).1) ⟨x, hx.1, cnt_lt (fun v _ hv => (h.1.2.1 x v hv).1) ⟨y, hx.2.1, hs, hH⟩⟩
      omega
theorem flat_len {faces : List (List Nat)} (h : ∀ f ∈ faces, 3 ≤ f.length) : 3 * faces.length ≤ (faces.flatMap dts).length := by
  induction faces with
  | nil => simp
  | cons f t ih =>
    have h1 := ih (fun g hg => h g (List.mem_cons_of_mem _ hg))
    have h2 := h f List.mem_cons_self
    rw [List.flatMap_cons, List.length_append, dts_len, List.length_cons]
    omega
/-- Euler: at most 16 faces and 24 edges; of n vertices at most 3 n - 6 edges -/
theorem EOK_max {s : xSg} (h : EOK H S s) : s.2.2.1.length ≤ 16 ∧ s.2.2.2 + 6 ≤ 3 * cnt s.2.1 10 ∧ s.2.2.2 ≤ 24 := by
  obtain ⟨⟨_, _, _, i4, _, _, i7, i8, _⟩, h2⟩ := h
  have h1 := flat_len (fun f hf => (i4 f hf).2.1)
  have h3 := cnt_le s.2.1 10
  omega
/-- the run: it ends with all placed, or where no fragment can be placed -/
theorem erun_ok (hb : BIC H S) (hS : ∀ v, S v = true → v < 10) : ∀ (n : Nat) (s : xSg), EOK H S s → ec H ≤ s.2.2.2 + n → EOK H S (erun H S (ec H) n s) ∧ ((erun H S (ec H) n s).2.2.2 = ec H ∨ (erun H S (ec H) n s).2.2.2 < ec H ∧ estep H S (erun H S (ec H) n s) = none)
  | 0, s, h, hn => by
    have := EOK_le hb h
    exact ⟨h, Or.inl (by show s.2.2.2 = _; omega)⟩
  | n + 1, s, h, hn => by
    unfold erun
    split
    · next hlt =>
      cases he : estep H S s with
      | none => exact ⟨h, Or.inr ⟨hlt, he⟩⟩
      | some s1 =>
        dsimp only
        unfold estep at he
        split at he
        · cases he
        · next q hq =>
          obtain ⟨u, inn, w, f, A, B, xs, ys, _, _, _, _, _, _, _, h8, h9⟩ := estep_ok hb hS h hq
          unfold estep at h8
          rw [hq] at h8
          have e1 := he.symm.trans h8
          have e2 := Option.some.inj e1
          rw [e2]
          exact erun_ok hb hS n _ h9 (by dsimp only; omega)
    · next hlt =>
      have := EOK_le hb h
      exact ⟨h, Or.inl (by omega)⟩
end
end
section
/-! the blocks of a graph, one after the other -/
def bS (G : Nat → Nat → Bool) (p : xPr) : Nat → Bool := fun v => decide (v < 10) && Bs G p.1 p.2 v
def bH (G : Nat → Nat → Bool) (S : Nat → Bool) : Nat → Nat → Bool := fun x y => G x y && (S x && S y)
def bAdd (G : Nat → Nat → Bool) (l : List xPr) (a b : Nat) : List xPr :=
  if G a b && !l.any (fun p => bS G p a && bS G p b) then l ++ [(a, b)] else l
def blks (G : Nat → Nat → Bool) (n : Nat) : List xPr := pfold (bAdd G) [] n
theorem bS_iff {G : Nat → Nat → Bool} {p : xPr} {v : Nat} : bS G p v = true ↔ v < 10 ∧ Bs G p.1 p.2 v = true := by simp [bS]
theorem bH_iff {G : Nat → Nat → Bool} {S : Nat → Bool} {x y : Nat} : bH G S x y = true ↔ G x y = true ∧ S x = true ∧ S y = true := by simp [bH]
section
variable {G : Nat → Nat → Bool}
theorem bS_bic (hg : gok G) {p : xPr} (hp : G p.1 p.2 = true) : BIC (bH G (bS G p)) (bS G p) := by
  refine ⟨fun x y => by unfold bH; rw [hg.1 x y, Bool.and_comm (bS G p x)], fun x => by unfold bH; rw [hg.2.1]; rfl, fun x y h => ?_, fun x y u hx hy hu h1 h2 n1 n2 => ?_⟩
  · obtain ⟨a, b, c⟩ := bH_iff.mp h
    exact ⟨(hg.2.2 x y a).1, (hg.2.2 x y a).2, b, c⟩
  · have k := Bs_two hg hp hx hy hu (bS_iff.mp h1).2 (bS_iff.mp h2).2 n1 n2
    refine con_ind (fun z => con (bH G (bS G p)) (fun v => bS G p v && but u v) x z) (fun _ => con_rfl (by show (_ && _) = true; rw [h1, but_iff.mpr n1]; rfl)) (fun z z' hz hz' q g hA => ?_) hy k
    rw [Bool.and_eq_true] at hA
    have hz'S : bS G p z' = true := bS_iff.mpr ⟨hz', hA.1⟩
    have hzS : bS G p z = true := by
      have := con_in q
      rw [Bool.and_eq_true] at this
      exact this.1
    exact con_step q hz hz' (bH_iff.mpr ⟨g, hzS, hz'S⟩) (by show (_ && _) = true; rw [hz'S, hA.2]; rfl)
/-- each vertex of a block is an end of one of its edges -/
theorem bS_edge (hg : gok G) {p : xPr} (hp : G p.1 p.2 = true) {v : Nat} (hv : bS G p v = true) : ∃ w, bH G (bS G p) v w = true := by
  obtain ⟨h1, h2⟩ := bS_iff.mp hv
  obtain ⟨w, hw⟩ := Bs_Cv hg hp h1 h2
  obtain ⟨a, b, c⟩ := Cl_in hg hp hw
  exact ⟨w, bH_iff.mpr ⟨a, hv, bS_iff.mpr ⟨(hg.2.2 _ _ a).2, c⟩⟩⟩
/-- the members of the list are edges, and no two of them are of one block -/
def BOK (G : Nat → Nat → Bool) (l : List xPr) : Prop := (∀ p ∈ l, G p.1 p.2 = true ∧ p.1 < p.2) ∧ l.Pairwise (fun p q => (bS G p q.1 && bS G p q.2) = false)
theorem blks_ok (hg : gok G) : ∀ n, n ≤ 100 → BOK G (blks G n) := by
  refine pfold_ind (fun l => BOK G l) ⟨(fun p hp => by cases hp), List.Pairwise.nil⟩ (fun l a b hab hb ih => ?_)
  unfold bAdd
  cases hc : (G a b && !l.any (fun p => bS G p a && bS G p b)) with
  | false => exact ih
  | true =>
    rw [if_pos rfl]
    rw [Bool.and_eq_true, Bool.not_eq_true'] at hc
    refine ⟨fun p hp => ?_, ?_⟩
    · rcases List.mem_append.mp hp with h | h
      · exact ih.1 p h
      · rw [List.mem_singleton] at h
        subst h
        exact ⟨hc.1, hab⟩
    · refine List.pairwise_append.mpr ⟨ih.2, List.pairwise_singleton _ _, fun p hp q hq => ?_⟩
      rw [List.mem_singleton] at hq
      subst hq
      cases hx : (bS G p a && bS G p b) with
      | false => rfl
      | true =>
        have := (List.any_eq_true (p := fun p => bS G p a && bS G p b)).mpr ⟨p, hp, hx⟩
        rw [this] at hc
        cases hc.2
theorem bAdd_has (hg : gok G) {a b : Nat} (e : G a b = true) (l : List xPr) : ∃ p ∈ bAdd G l a b, bS G p a = true ∧ bS G p b = true := by
  unfold bAdd
  rw [e, Bool.true_and]
  cases hx : l.any (fun p => bS G p a && bS G p b) with
  | false =>
    rw [Bool.not_false, if_pos rfl]
    exact ⟨(a, b), List.mem_append_right _ List.mem_cons_self, bS_iff.mpr ⟨(hg.2.2 _ _ e).1, Bs_a hg e⟩, bS_iff.mpr ⟨(hg.2.2 _ _ e).2, Bs_b hg e⟩⟩
  | true =>
    obtain ⟨p, h1, h2⟩ := List.any_eq_true.mp hx
    rw [Bool.and_eq_true] at h2
    rw [Bool.not_true, if_neg (by decide)]
    exact ⟨p, h1, h2⟩
/-- every edge is of some block of the list -/
theorem blks_all (hg : gok G) {x y : Nat} (h : G x y = true) : ∃ p ∈ blks G 100, bS G p x = true ∧ bS G p y = true := by
  have hxy := hg.2.2 x y h
  have key : ∀ a b, a < b → b < 10 → G a b = true → ∃ p ∈ blks G 100, bS G p a = true ∧ bS G p b = true := by
    intro a b hab hb e
    refine pfold_mono (f := bAdd G) (s := []) (fun l => ∃ p ∈ l, bS G p a = true ∧ bS G p b = true) (fun l c d _ _ ⟨p, h1, h2⟩ => ?_) (n := 10 * a + b + 1) ?_ 100 (by omega) (Nat.le_refl _)
    · unfold bAdd
      split
      · exact ⟨p, List.mem_append_left _ h1, h2⟩
      · exact ⟨p, h1, h2⟩
    · rw [pfold_next hb hab]
      exact bAdd_has hg e _
  rcases Nat.lt_trichotomy x y with q | q | q
  · exact key x y q hxy.2 h
  · subst q
    rw [hg.2.1] at h
    cases h
  · obtain ⟨p, h1, h2, h3⟩ := key y x q hxy.1 (by rw [hg.1]; exact h)
    exact ⟨p, h1, h3, h2⟩
theorem bS_same (hg : gok G) {p q : xPr} (hp : G p.1 p.2 = true) {c d : Nat} (hcd : G c d = true) (h1 : bS G p c = true) (h2 : bS G p d = true) (hq : G q.1 q.2 = true) (h3 : bS G q c = true) (h4 : bS G q d = true) : ∀ v, bS G p v = bS G q v := by
  intro v
  unfold bS
  by_cases hv : v < 10
  · rw [← Bs_same hg hp hcd (bS_iff.mp h1).2 (bS_iff.mp h2).2 v hv, ← Bs_same hg hq hcd (bS_iff.mp h3).2 (bS_iff.mp h4).2 v hv]
  · simp [hv]
/-- an edge is of one block of a list alone -/
theorem BOK_one (hg : gok G) {l : List xPr} (h : BOK G l) {i j : Nat} {p q : xPr} (hi : l[i]? = some p) (hj : l[j]? = some q) {c d : Nat} (hcd : G c d = true) (h1 : bS G p c = true) (h2 : bS G p d = true) (h3 : bS G q c = true) (h4 : bS G q d = true) : i = j := by
  have hp := (h.1 p (List.mem_of_getElem? hi)).1
  have hq := (h.1 q (List.mem_of_getElem? hj)).1
  have key : ∀ {i j : Nat} {p q : xPr}, l[i]? = some p → l[j]? = some q → i < j → (∀ v, bS G p v = bS G q v) → G q.1 q.2 = true → False := by
    intro i j p q hi hj hij e hq
    have hjl := (List.getElem?_eq_some_iff.mp hj)
    have hil := (List.getElem?_eq_some_iff.mp hi)
    have := List.pairwise_iff_getElem.mp h.2 i j hil.1 hjl.1 hij
    rw [hil.2, hjl.2, e, e] at this
    have a1 : bS G q q.1 = true := bS_iff.mpr ⟨(hg.2.2 _ _ hq).1, Bs_a hg hq⟩
    have a2 : bS G q q.2 = true := bS_iff.mpr ⟨(hg.2.2 _ _ hq).2, Bs_b hg hq⟩
    rw [a1, a2] at this
    cases this
  have e := bS_same hg hp hcd h1 h2 hq h3 h4
  rcases Nat.lt_trichotomy i j with z | z | z
  · exact (key hi hj z e hq).elim
  · exact z
  · exact (key hj hi z (fun v => (e v).symm) hp).elim
/-- F4: edges that aren't the block's own don't join two of its vertices -/
theorem bS_F4 (hg : gok G) {p : xPr} (hp : G p.1 p.2 = true) {G' : Nat → Nat → Bool} {A : Nat → Bool} (hs : ∀ x y, G' x y = true → G x y = true ∧ ¬ (bS G p x = true ∧ bS G p y = true)) {x y : Nat} (hy : y < 10) (h1 : bS G p x = true) (h2 : bS G p y = true) (hc : con G' A x y) : y = x := by
  have key : y = x ∨ Hg G (fun v => bS G p v = true) x y := by
    refine con_ind (fun z => z = x ∨ Hg G (fun v => bS G p v = true) x z) (fun _ => Or.inl rfl) (fun z z' hz hz' q g _ => ?_) hy hc
    obtain ⟨g1, g2⟩ := hs z z' g
    rcases q with rfl | q
    · refine Or.inr ⟨z', hz', g1, fun h => g2 ⟨h1, h⟩, fun P p1 _ => p1⟩
    · cases hb : bS G p z' with
      | false => exact Or.inr (Hg_step hz hz' q g1 (fun h => by rw [show bS G p z' = true from h] at hb; cases hb))
      | true =>
        by_cases e : z' = x
        · exact Or.inl e
        · obtain ⟨x1, x10, e1, nx, hc⟩ := Hg_con (V := fun v => bS G p v = true) h1 q
          have hx := bS_iff.mp h1
          have hz2 := bS_iff.mp hb
          have := Bs_T3 hg hp hx.1 x10 hz' hx.2 hz2.2 e e1 (con_step hc hz hz' g1 (but_iff.mpr e))
          exact absurd (bS_iff.mpr ⟨x10, this⟩) nx
  rcases key with h | h
  · exact h
  · exact absurd h2 (Hg_out h)
end
/-! counting: one label for what is joined -/
def img (lab : Nat → Nat) : Nat → Bool := fun z => anyv (fun v => Nat.beq (lab v) z) 10
theorem img_iff {lab : Nat → Nat} {z : Nat} : img lab z = true ↔ ∃ v, v < 10 ∧ lab v = z := by
  unfold img
  rw [anyv_iff]
  constructor
  · rintro ⟨v, h1, h2⟩; exact ⟨v, h1, Nat.eq_of_beq_eq_true h2⟩
  · rintro ⟨v, h1, h2⟩; exact ⟨v, h1, by rw [h2]; exact Nat.beq_refl z⟩
theorem cnt_sub {S T : Nat → Bool} : ∀ {n : Nat}, (∀ v, v < n → T v = true → S v = true) → cnt (fun v => S v && !T v) n + cnt T n = cnt S n
  | 0, _ => rfl
  | n + 1, h => by
    have ih := cnt_sub (n := n) (fun v hv => h v (by omega))
    unfold cnt
    cases hT : T n with
    | true => rw [h n (by omega) hT]; simp only [Bool.not_true, Bool.and_false, cond_false, cond_true]; omega
    | false =>
      cases S n <;> simp only [Bool.not_false, Bool.and_true, cond_false, cond_true] <;> omega
/-- an injective labelling of a set uses as many labels as the set has members -/
theorem cnt_inj {lab : Nat → Nat} (hl : ∀ v, v < 10 → lab v < 10) {S : Nat → Bool} : ∀ n, n ≤ 10 → (∀ x y, x < n → y < n → S x = true → S y = true → lab x = lab y → x = y) → cnt (fun z => anyv (fun v => S v && Nat.beq (lab v) z) n) 10 = cnt S n
  | 0, _, _ => rfl
  | n + 1, hn, h => by
    have ih := cnt_inj hl n (by omega) (fun x y hx hy => h x y (by omega) (by omega))
    show cnt (fun z => anyv (fun v => S v && Nat.beq (lab v) z) n || (S n && Nat.beq (lab n) z)) 10 = cnt S n + _
    cases hS : S n with
    | false =>
      simp only [Bool.false_and, Bool.or_false, cond_false, Nat.add_zero]
      exact ih
    | true =>
      have e : cnt (fun z => anyv (fun v => S v && Nat.beq (lab v) z) n || (true && Nat.beq (lab n) z)) 10 = cnt (fun z => anyv (fun v => S v && Nat.beq (lab v) z) n || decide (z = lab n)) 10 := cnt_ext fun z _ => by
        congr 1
        rw [Bool.true_and]
        cases hb : Nat.beq (lab n) z with
        | true => rw [Nat.eq_of_beq_eq_true hb]; simp
        | false => have := Nat.ne_of_beq_eq_false hb; simp; omega
      rw [e, cnt_add1 (hl n (by omega)), ih]
      · rfl
      · cases hb : anyv (fun v => S v && Nat.beq (lab v) (lab n)) n with
        | false => rfl
        | true =>
          obtain ⟨v, v1, v2⟩ := anyv_iff.mp hb
          rw [Bool.and_eq_true] at v2
          have := h v n (by omega) (by omega) v2.1 hS (Nat.eq_of_beq_eq_true v2.2)
          omega
/-- one label for a set whose members have different ones -/
theorem img_merge {lab : Nat → Nat} {S : Nat → Bool} {m : Nat} (hl : ∀ v, v < 10 → lab v < 10) (hm : m < 10) (hS : S m = true) (hi : ∀ x y, x < 10 → y < 10 → S x = true → S y = true → lab x = lab y → x = y) :
    cnt (img (fun v => if anyv (fun u => S u && Nat.beq (lab u) (lab v)) 10 then lab m else lab v)) 10 + cnt S 10 = cnt (img lab) 10 + 1 := by
  have h1 := cnt_inj hl (S := S) 10 (Nat.le_refl _) hi
  have hsub : ∀ z, z < 10 → anyv (fun v => S v && Nat.beq (lab v) z) 10 = true → img lab z = true := fun z _ h => by
    obtain ⟨v, v1, v2⟩ := anyv_iff.mp h
    rw [Bool.and_eq_true] at v2
    exact img_iff.mpr ⟨v, v1, Nat.eq_of_beq_eq_true v2.2⟩
  have h2 := cnt_sub hsub
  have hne : (fun z => img lab z && !anyv (fun v => S v && Nat.beq (lab v) z) 10) (lab m) = false := by
    have : anyv (fun v => S v && Nat.beq (lab v) (lab m)) 10 = true := anyv_iff.mpr ⟨m, hm, by rw [hS, Nat.beq_refl]; rfl⟩
    show (_ && !_) = false
    rw [this]
    simp
  have h3 := cnt_add1 (S := fun z => img lab z && !anyv (fun v => S v && Nat.beq (lab v) z) 10) (hl m hm) hne
  have e : cnt (img (fun v => if anyv (fun u => S u && Nat.beq (lab u) (lab v)) 10 then lab m else lab v)) 10 = cnt (fun z => (img lab z && !anyv (fun v => S v && Nat.beq (lab v) z) 10) || decide (z = lab m)) 10 := by
    refine cnt_ext fun z _ => ?_
    rw [Bool.eq_iff_iff, img_iff, Bool.or_eq_true, Bool.and_eq_true, img_iff, decide_eq_true_eq, Bool.not_eq_true']
    constructor
    · rintro ⟨v, v1, v2⟩
      split at v2
      · exact Or.inr v2.symm
      · next hno =>
        subst v2
        refine Or.inl ⟨⟨v, v1, rfl⟩, ?_⟩
        simpa using hno
    · rintro (⟨⟨v, v1, v2⟩, hno⟩ | rfl)
      · refine ⟨v, v1, ?_⟩
        rw [v2, hno]
        rfl
      · refine ⟨m, hm, ?_⟩
        split <;> rfl
  omega
/-- the edges of some blocks -/
def gL (G : Nat → Nat → Bool) (l : List xPr) : Nat → Nat → Bool := fun x y => G x y && l.any (fun p => bS G p x && bS G p y)
def sumS (G : Nat → Nat → Bool) : List xPr → Nat
  | [] => 0
  | p :: t => cnt (bS G p) 10 + sumS G t
theorem sumS_app (G : Nat → Nat → Bool) : ∀ a b : List xPr, sumS G (a ++ b) = sumS G a + sumS G b
  | [], b => by simp [sumS]
  | p :: t, b => by
    show cnt (bS G p) 10 + sumS G (t ++ b) = cnt (bS G p) 10 + sumS G t + sumS G b
    rw [sumS_app G t b]
    omega
section
variable {G : Nat → Nat → Bool}
theorem gL_iff {l : List xPr} {x y : Nat} : gL G l x y = true ↔ G x y = true ∧ ∃ p ∈ l, bS G p x = true ∧ bS G p y = true := by
  unfold gL
  rw [Bool.and_eq_true, List.any_eq_true]
  simp only [Bool.and_eq_true]
theorem con_G {G1 G2 : Nat → Nat → Bool} {A B : Nat → Bool} (hG : ∀ u v, u < 10 → v < 10 → G1 u v = true → A v = true → G2 u v = true) (hA : ∀ v, v < 10 → A v = true → B v = true) {x y : Nat} (hx : x < 10) (hy : y < 10) (h : con G1 A x y) : con G2 B x y :=
  con_ind (fun v => con G2 B x v) (fun q => con_rfl (hA x hx q)) (fun u v a b c d e => con_step c a b (hG u v a b d e) (hA v b e)) hy h
theorem blk_labels (hg : gok G) {l : List xPr} (h : BOK G l) : ∀ n, n ≤ l.length → ∃ lab : Nat → Nat, (∀ v, v < 10 → lab v < 10) ∧ cnt (img lab) 10 + sumS G (l.take n) = 10 + n ∧ ∀ x y, x < 10 → y < 10 → lab x = lab y → con (gL G (l.take n)) (fun _ => true) x y
  | 0, _ => ⟨fun v => v, fun v hv => hv, by
      have : cnt (img (fun v => v)) 10 = 10 := by decide +kernel
      rw [this]
      rfl, fun x y _ _ e => by
      subst e
      exact con_rfl rfl⟩
  | n + 1, hn => by
    obtain ⟨lab, h1, h2, h3⟩ := blk_labels hg h n (by omega)
    have hl : n < l.length := by omega
    have ht : l.take (n + 1) = l.take n ++ [l[n]] := by rw [List.take_succ_eq_append_getElem hl]
    generalize hp : l[n] = p at ht
    have hpn : l[n]? = some p := by rw [List.getElem?_eq_getElem hl, hp]
    have hpm : p ∈ l := List.mem_of_getElem? hpn
    have hpG := (h.1 p hpm).1
    have hm : bS G p p.1 = true := bS_iff.mpr ⟨(hg.2.2 _ _ hpG).1, Bs_a hg hpG⟩
    have mono : ∀ {x y : Nat}, x < 10 → y < 10 → con (gL G (l.take n)) (fun _ => true) x y → con (gL G (l.take (n + 1))) (fun _ => true) x y := fun hx hy q => con_G (fun u v _ _ e _ => by
      obtain ⟨a, r, b, c⟩ := gL_iff.mp e
      exact gL_iff.mpr ⟨a, r, by rw [ht]; exact List.mem_append_left _ b, c⟩) (fun _ _ e => e) hx hy q
    -- the block's own vertices are joined by its edges
    have own : ∀ x y, bS G p x = true → bS G p y = true → con (gL G (l.take (n + 1))) (fun _ => true) x y := by
      intro x y hx hy
      obtain ⟨u, u1, u2, u3⟩ : ∃ u, u < 10 ∧ x ≠ u ∧ y ≠ u := by
        by_cases e0 : x ≠ 0 ∧ y ≠ 0
        · exact ⟨0, by omega, e0⟩
        · by_cases e1 : x ≠ 1 ∧ y ≠ 1
          · exact ⟨1, by omega, e1⟩
          · exact ⟨2, by omega, by omega, by omega⟩
      have k := (bS_bic hg hpG).2.2.2 x y u (bS_iff.mp hx).1 (bS_iff.mp hy).1 u1 hx hy u2 u3
      refine con_G (fun a b _ _ e _ => ?_) (fun _ _ _ => rfl) (bS_iff.mp hx).1 (bS_iff.mp hy).1 k
      obtain ⟨q1, q2, q3⟩ := bH_iff.mp e
      exact gL_iff.mpr ⟨q1, p, by rw [ht]; exact List.mem_append_right _ List.mem_cons_self, q2, q3⟩
    have hi : ∀ x y, x < 10 → y < 10 → bS G p x = true → bS G p y = true → lab x = lab y → x = y := by
      intro x y hx hy hxS hyS e
      refine (bS_F4 hg hpG (G' := gL G (l.take n)) (A := fun _ => true) (fun a b hab => ?_) hy hxS hyS (h3 x y hx hy e)).symm
      obtain ⟨q1, r, q2, q3, q4⟩ := gL_iff.mp hab
      refine ⟨q1, fun z => ?_⟩
      obtain ⟨i, hi⟩ := List.getElem?_of_mem q2
      have hin : i < n := by
        have := (List.getElem?_eq_some_iff.mp hi).1
        rw [List.length_take] at this
        omega
      have hi2 : l[i]? = some r := by rw [← hi, List.getElem?_take, if_pos hin]
      have := BOK_one hg h hi2 hpn q1 q3 q4 z.1 z.2
      omega
    have hmg := img_merge h1 (bS_iff.mp hm).1 hm hi
    refine ⟨fun v => if anyv (fun u => bS G p u && Nat.beq (lab u) (lab v)) 10 then lab p.1 else lab v, fun v hv => ?_, ?_, fun x y hx hy e => ?_⟩
    · dsimp only
      split
      · exact h1 _ (bS_iff.mp hm).1
      · exact h1 v hv
    · rw [ht, sumS_app]
      show cnt _ 10 + (sumS G (l.take n) + (cnt (bS G p) 10 + 0)) = _
      omega
    · have sp : ∀ v, v < 10 → (if anyv (fun u => bS G p u && Nat.beq (lab u) (lab v)) 10 then lab p.1 else lab v) = lab p.1 → ∃ s, bS G p s = true ∧ con (gL G (l.take (n + 1))) (fun _ => true) v s := by
        intro v hv e
        split at e
        · next hy =>
          obtain ⟨s, s1, s2⟩ := anyv_iff.mp hy
          rw [Bool.and_eq_true] at s2
          exact ⟨s, s2.1, mono hv s1 (h3 v s hv s1 (Nat.eq_of_beq_eq_true s2.2).symm)⟩
        · exact ⟨p.1, hm, mono hv (bS_iff.mp hm).1 (h3 v p.1 hv (bS_iff.mp hm).1 e)⟩
      have sym : ∀ u v, gL G (l.take (n + 1)) u v = gL G (l.take (n + 1)) v u := fun u v => by
        unfold gL
        rw [hg.1 u v]
        congr 1
        congr 1
        funext q
        exact Bool.and_comm _ _
      dsimp only at e
      by_cases ex : anyv (fun u => bS G p u && Nat.beq (lab u) (lab x)) 10 = true
      · have e1 := e
        rw [if_pos ex] at e1
        obtain ⟨s, s1, s2⟩ := sp x hx (by rw [if_pos ex])
        obtain ⟨t, t1, t2⟩ := sp y hy e1.symm
        have hs10 := (bS_iff.mp s1).1
        have ht10 := (bS_iff.mp t1).1
        exact con_trans (con_trans s2 (own s t s1 t1) ht10) (con_sym sym hy ht10 t2) hy
      · by_cases ey : anyv (fun u => bS G p u && Nat.beq (lab u) (lab y)) 10 = true
        · have e1 := e
          rw [if_pos ey] at e1
          obtain ⟨s, s1, s2⟩ := sp y hy (by rw [if_pos ey])
          obtain ⟨t, t1, t2⟩ := sp x hx e1
          have hs10 := (bS_iff.mp s1).1
          have ht10 := (bS_iff.mp t1).1
          exact con_trans (con_trans t2 (own t s t1 s1) hs10) (con_sym sym hy hs10 s2) hy
        · rw [if_neg ex, if_neg ey] at e
          exact mono hx hy (h3 x y hx hy e)
/-- of n blocks the vertices, all but one of each, are at most 9 -/
theorem blk_sum (hg : gok G) {l : List xPr} (h : BOK G l) : sumS G l ≤ 9 + l.length := by
  obtain ⟨lab, h1, h2, _⟩ := blk_labels hg h l.length (Nat.le_refl _)
  rw [List.take_length] at h2
  have h3 : 0 < cnt (img lab) 10 := by
    have hz : img lab (lab 0) = true := img_iff.mpr ⟨0, by omega, rfl⟩
    have k := cnt_lt (S := fun _ => false) (T := img lab) (n := 10) (fun v _ q => by cases q) ⟨lab 0, h1 0 (by omega), rfl, hz⟩
    omega
  omega
theorem cnt_two {S : Nat → Bool} {a b : Nat} (ha : a < 10) (hb : b < 10) (hab : a ≠ b) (h1 : S a = true) (h2 : S b = true) : 2 ≤ cnt S 10 := by
  have k1 := cnt_add1 (S := fun _ => false) ha rfl
  have k2 := cnt_add1 (S := fun v => false || decide (v = a)) hb (by simp; omega)
  have k3 : cnt (fun v => (false || decide (v = a)) || decide (v = b)) 10 ≤ cnt S 10 := cnt_mono fun v _ hv => by
    simp only [Bool.false_or, Bool.or_eq_true, decide_eq_true_eq] at hv
    rcases hv with rfl | rfl
    · exact h1
    · exact h2
  have k0 : cnt (fun _ => false) 10 = 0 := rfl
  omega
theorem blk_two (hg : gok G) {p : xPr} (hp : G p.1 p.2 = true) : 2 ≤ cnt (bS G p) 10 := by
  have hne : p.1 ≠ p.2 := fun e => by rw [e, hg.2.1] at hp; cases hp
  exact cnt_two (hg.2.2 _ _ hp).1 (hg.2.2 _ _ hp).2 hne (bS_iff.mpr ⟨(hg.2.2 _ _ hp).1, Bs_a hg hp⟩) (bS_iff.mpr ⟨(hg.2.2 _ _ hp).2, Bs_b hg hp⟩)
/-- at most 9 blocks -/
theorem blk_nine (hg : gok G) {l : List xPr} (h : BOK G l) : l.length ≤ 9 := by
  have h1 := blk_sum hg h
  have h2 : 2 * l.length ≤ sumS G l := by
    have key : ∀ m : List xPr, (∀ p ∈ m, G p.1 p.2 = true) → 2 * m.length ≤ sumS G m := by
      intro m
      induction m with
      | nil => intro _; exact Nat.zero_le _
      | cons p t ih =>
        intro hm
        have := ih (fun q hq => hm q (List.mem_cons_of_mem _ hq))
        have := blk_two hg (hm p List.mem_cons_self)
        show 2 * (t.length + 1) ≤ cnt (bS G p) 10 + sumS G t
        omega
    exact key l (fun p hp => (h.1 p hp).1)
  omega
end
end
section
/-! the small helpers of the class -/
theorem i_lt0 {x : Int32} (h : decide (x < 0) = false) : 0 ≤ x := Int32.not_lt.mp (of_decide_eq_false h)
/-- an int from 0 to N - 1 -/
theorem i_of {x : Int32} {N : Nat} (hN : N < 2 ^ 31) (h0 : 0 ≤ x) (h : ¬ nI N ≤ x) : ∃ k, k < N ∧ x = nI k := by
  have h1 := Int32.le_iff_toInt_le.mp h0
  rw [Int32.toInt_zero] at h1
  rw [Int32.le_iff_toInt_le, nI_toInt hN] at h
  refine ⟨x.toInt.toNat, by omega, ?_⟩
  apply Int32.toInt_inj.mp
  rw [nI_toInt (by omega)]
  omega
theorem jI_inj {a b : Nat} (ha : a < 2 ^ 31) (hb : b < 2 ^ 31) (h : nI a = nI b) : a = b := by
  have h1 := nI_toInt ha
  rw [h, nI_toInt hb] at h1
  omega
theorem jI_add (a b : Nat) : nI a + nI b = nI (a + b) := (Int32.ofNat_add a b).symm
theorem jI_mul (a b : Nat) : nI a * nI b = nI (a * b) := (Int32.ofNat_mul a b).symm
theorem jI_sub {a b : Nat} (h : b ≤ a) : nI a - nI b = nI (a - b) := by
  have e : nI a = nI (a - b) + nI b := by rw [jI_add, Nat.sub_add_cancel h]
  rw [e, Int32.add_sub_cancel]
theorem c_isVertex_1 {w : xW} {k : Nat} (hk : k < 10) : xC MX7_isVertex [.int (nI k)] w (some (.int 1)) w := by
  unfold xC
  show xE MX7_isVertex (0, [some (.int (nI k))], [], w) _ _
  refine xE.go 2 (F1 := (bif decide ((nI k) < 0) then 14 else 4, [some (.int (nI k))], [], w)) rfl ?_
  refine xE.brF (decide_eq_false (nI_pos (by omega))) ?_
  refine xE.go 3 (F1 := (bif decide (10 ≤ (nI k)) then 14 else 10, [some (.int (nI k))], [], w)) rfl ?_
  refine xE.brF (decide_eq_false (nI_ge (b := 10) hk (by omega))) ?_
  refine xE.go 2 (F1 := (15, [some (.int (nI k))], [.int 1], w)) rfl ?_
  exact xE.iret .boolean 1 rfl rfl (rfl)
theorem c_isVertex_0 {w : xW} {x : Int32} (h : ∀ k, k < 10 → x ≠ nI k) : xC MX7_isVertex [.int x] w (some (.int 0)) w := by
  unfold xC
  show xE MX7_isVertex (0, [some (.int x)], [], w) _ _
  refine xE.go 2 (F1 := (bif decide (x < 0) then 14 else 4, [some (.int x)], [], w)) rfl ?_
  refine xE.br (fun h0 => ?_) (fun h0 => ?_)
  · refine xE.go 1 (F1 := (15, [some (.int x)], [.int 0], w)) rfl ?_
    exact xE.iret .boolean 1 rfl rfl (rfl)
  · have h1 : 10 ≤ x := by
      refine Decidable.byContradiction (fun z => ?_)
      obtain ⟨k, hk, e⟩ := i_of (N := 10) (by omega) (i_lt0 h0) z
      exact h k hk e
    refine xE.go 3 (F1 := (bif decide (10 ≤ x) then 14 else 10, [some (.int x)], [], w)) rfl ?_
    refine xE.brT (decide_eq_true h1) ?_
    refine xE.go 1 (F1 := (15, [some (.int x)], [.int 0], w)) rfl ?_
    exact xE.iret .boolean 1 rfl rfl (rfl)
theorem c_bit {w : xW} {k : Nat} (hk : k < 10) : xC MX7_bit [.int (nI k)] w (some (.int (mk (fun v => decide (v = k))))) w := by
  unfold xC
  show xE MX7_bit (0, [some (.int (nI k))], [], w) _ _
  refine xE.go 2 (F1 := (bif decide ((nI k) < 0) then 16 else 4, [some (.int (nI k))], [], w)) rfl ?_
  refine xE.brF (decide_eq_false (nI_pos (by omega))) ?_
  refine xE.go 3 (F1 := (bif decide (10 ≤ (nI k)) then 16 else 10, [some (.int (nI k))], [], w)) rfl ?_
  refine xE.brF (decide_eq_false (nI_ge (b := 10) hk (by omega))) ?_
  refine xE.go 4 (F1 := (17, [some (.int (nI k))], [.int (1 <<< ((nI k) &&& 31))], w)) rfl ?_
  rw [mk_bit hk]
  exact xE.iret .int 1 rfl rfl (rfl)
theorem c_has {w : xW} {S : Nat → Bool} {k : Nat} (hk : k < 10) : xC MX7_has [.int (mk S), .int (nI k)] w (some (.int (if S k then 1 else 0))) w := by
  unfold xC
  show xE MX7_has (0, [some (.int (mk S)), some (.int (nI k))], [], w) _ _
  refine xE.go 2 (F1 := (bif decide ((nI k) < 0) then 22 else 4, [some (.int (mk S)), some (.int (nI k))], [], w)) rfl ?_
  refine xE.brF (decide_eq_false (nI_pos (by omega))) ?_
  refine xE.go 3 (F1 := (bif decide (10 ≤ (nI k)) then 22 else 10, [some (.int (mk S)), some (.int (nI k))], [], w)) rfl ?_
  refine xE.brF (decide_eq_false (nI_ge (b := 10) hk (by omega))) ?_
  refine xE.go 6 (F1 := (bif decide ((((mk S) >>> ((nI k) &&& 31)) &&& 1) = 0) then 22 else 18, [some (.int (mk S)), some (.int (nI k))], [], w)) rfl ?_
  rw [mk_get S hk]
  cases hS : S k with
  | true =>
    refine xE.brF (by decide) ?_
    refine xE.go 2 (F1 := (23, [some (.int (mk S)), some (.int (nI k))], [.int 1], w)) rfl ?_
    exact xE.iret .boolean 1 rfl rfl (rfl)
  | false =>
    refine xE.brT (by decide) ?_
    refine xE.go 1 (F1 := (23, [some (.int (mk S)), some (.int (nI k))], [.int 0], w)) rfl ?_
    exact xE.iret .boolean 1 rfl rfl (rfl)
theorem c_least {w : xW} {S : Nat → Bool} (h : low S < 10) : xC MX7_least [.int (mk S)] w (some (.int (nI (low S)))) w := by
  unfold xC
  show xE MX7_least (0, [some (.int (mk S)), none], [], w) _ _
  refine xE.go 2 (F1 := (2, [some (.int (mk S)), some (.int 0)], [], w)) rfl ?_
  refine xE.up (S := Unit) (hd := fun k _ => (2, [some (.int (mk S)), some (.int (nI k))], [], w)) (fun k _ => k ≤ low S) 10 ?_ ?_ 0 () (by omega) (Nat.zero_le _)
  · intro k _ hk hI K
    refine xE.go 3 (F1 := (bif decide (10 ≤ (nI k)) then 24 else 8, [some (.int (mk S)), some (.int (nI k))], [], w)) rfl ?_
    refine xE.brF (decide_eq_false (nI_ge (b := 10) hk (by omega))) ?_
    refine xE.go 6 (F1 := (bif decide ((((mk S) >>> ((nI k) &&& 31)) &&& 1) = 0) then 18 else 16, [some (.int (mk S)), some (.int (nI k))], [], w)) rfl ?_
    rw [mk_get S hk]
    cases hS : S k with
    | true =>
      refine xE.brF (by decide) ?_
      have e : low S = k := by
        have := low_of hS hk
        omega
      rw [e]
      refine xE.go 1 (F1 := (17, [some (.int (mk S)), some (.int (nI k))], [.int (nI k)], w)) rfl ?_
      exact xE.iret .int 1 rfl rfl (rfl)
    | false =>
      refine xE.brT (by decide) ?_
      refine xE.go 2 (F1 := (2, [some (.int (mk S)), some (.int ((nI k) + 1))], [], w)) rfl ?_
      have e : k ≠ low S := by
        intro e
        have := low_in h
        rw [← e, hS] at this
        cases this
      rw [show nI k + 1 = nI (k + 1) from (nI_succ k).symm]
      exact K () (by omega)
  · intro _ hI
    omega
theorem c_cell {w : xW} {a b : Nat} : xC MX7_cell [.int (nI a), .int (nI b)] w (some (.int (nI (10 * a + b)))) w := by
  unfold xC
  show xE MX7_cell (0, [some (.int (nI a)), some (.int (nI b))], [], w) _ _
  refine xE.go 5 (F1 := (6, [some (.int (nI a)), some (.int (nI b))], [.int (((nI a) * 10) + (nI b))], w)) rfl ?_
  have e : nI a * 10 + nI b = nI (10 * a + b) := by
    rw [show (10 : Int32) = nI 10 from rfl, jI_mul, jI_add, Nat.mul_comm]
  rw [e]
  exact xE.iret .int 1 rfl rfl (rfl)
theorem c_at {w : xW} {a n k : Nat} (hs : xshp a = some (.inl n)) (hk : k < n) (hn : n < 2 ^ 31) : xC MX7_at [.ref a, .int (nI k)] w (some (.int (w.1 a k))) w := by
  unfold xC
  show xE MX7_at (0, [some (.ref a), some (.int (nI k))], [], w) _ _
  refine xE.go 2 (F1 := (bif decide ((nI k) < 0) then 16 else 4, [some (.ref a), some (.int (nI k))], [], w)) rfl ?_
  refine xE.brF (decide_eq_false (nI_pos (by omega))) ?_
  refine xE.go 2 (F1 := (6, [some (.ref a), some (.int (nI k))], [.ref a, .int (nI k)], w)) rfl ?_
  refine xE.alen (hs) rfl ?_
  show xE MX7_at (7, [some (.ref a), some (.int (nI k))], [.int (nI n), .int (nI k)], w) _ _
  refine xE.go 1 (F1 := (bif decide ((nI n) ≤ (nI k)) then 16 else 10, [some (.ref a), some (.int (nI k))], [], w)) rfl ?_
  refine xE.brF (decide_eq_false (nI_ge (b := n) hk (by omega))) ?_
  refine xE.go 2 (F1 := (12, [some (.ref a), some (.int (nI k))], [.int (nI k), .ref a], w)) rfl ?_
  refine xE.iald hs (k := k) (rfl) (⟨hk, hn⟩) rfl ?_
  show xE MX7_at (13, [some (.ref a), some (.int (nI k))], [.int (w.1 a k)], w) _ _
  refine xE.go 1 (F1 := (17, [some (.ref a), some (.int (nI k))], [.int (w.1 a k)], w)) rfl ?_
  exact xE.iret .int 1 rfl rfl (rfl)
theorem c_at_out {w : xW} {a n k : Nat} (hs : xshp a = some (.inl n)) (hk : n ≤ k) (hn : k < 2 ^ 31) : xC MX7_at [.ref a, .int (nI k)] w (some (.int 0)) w := by
  unfold xC
  show xE MX7_at (0, [some (.ref a), some (.int (nI k))], [], w) _ _
  refine xE.go 2 (F1 := (bif decide ((nI k) < 0) then 16 else 4, [some (.ref a), some (.int (nI k))], [], w)) rfl ?_
  refine xE.brF (decide_eq_false (nI_pos (by omega))) ?_
  refine xE.go 2 (F1 := (6, [some (.ref a), some (.int (nI k))], [.ref a, .int (nI k)], w)) rfl ?_
  refine xE.alen (hs) rfl ?_
  show xE MX7_at (7, [some (.ref a), some (.int (nI k))], [.int (nI n), .int (nI k)], w) _ _
  refine xE.go 1 (F1 := (bif decide ((nI n) ≤ (nI k)) then 16 else 10, [some (.ref a), some (.int (nI k))], [], w)) rfl ?_
  refine xE.brT (decide_eq_true (nI_le hk (by omega))) ?_
  refine xE.go 1 (F1 := (17, [some (.ref a), some (.int (nI k))], [.int 0], w)) rfl ?_
  exact xE.iret .int 1 rfl rfl (rfl)
theorem c_put {w : xW} {a n k : Nat} {x : Int32} (hs : xshp a = some (.inl n)) (hk : k < n) (hn : n < 2 ^ 31) : xC MX7_put [.ref a, .int (nI k), .int x] w none (xuI w a k x) := by
  unfold xC
  show xE MX7_put (0, [some (.ref a), some (.int (nI k)), some (.int x)], [], w) _ _
  refine xE.go 2 (F1 := (bif decide ((nI k) < 0) then 14 else 4, [some (.ref a), some (.int (nI k)), some (.int x)], [], w)) rfl ?_
  refine xE.brF (decide_eq_false (nI_pos (by omega))) ?_
  refine xE.go 2 (F1 := (6, [some (.ref a), some (.int (nI k)), some (.int x)], [.ref a, .int (nI k)], w)) rfl ?_
  refine xE.alen (hs) rfl ?_
  show xE MX7_put (7, [some (.ref a), some (.int (nI k)), some (.int x)], [.int (nI n), .int (nI k)], w) _ _
  refine xE.go 1 (F1 := (bif decide ((nI n) ≤ (nI k)) then 14 else 10, [some (.ref a), some (.int (nI k)), some (.int x)], [], w)) rfl ?_
  refine xE.brF (decide_eq_false (nI_ge (b := n) hk (by omega))) ?_
  refine xE.go 3 (F1 := (13, [some (.ref a), some (.int (nI k)), some (.int x)], [.int x, .int (nI k), .ref a], w)) rfl ?_
  refine xE.iast hs (k := k) (rfl) (⟨hk, hn⟩) rfl ?_
  show xE MX7_put (14, [some (.ref a), some (.int (nI k)), some (.int x)], [], (xuI w a k x)) _ _
  exact xE.vret 1 rfl rfl
theorem c_put_out {w : xW} {a n k : Nat} {x : Int32} (hs : xshp a = some (.inl n)) (hk : n ≤ k) (hn : k < 2 ^ 31) : xC MX7_put [.ref a, .int (nI k), .int x] w none w := by
  unfold xC
  show xE MX7_put (0, [some (.ref a), some (.int (nI k)), some (.int x)], [], w) _ _
  refine xE.go 2 (F1 := (bif decide ((nI k) < 0) then 14 else 4, [some (.ref a), some (.int (nI k)), some (.int x)], [], w)) rfl ?_
  refine xE.brF (decide_eq_false (nI_pos (by omega))) ?_
  refine xE.go 2 (F1 := (6, [some (.ref a), some (.int (nI k)), some (.int x)], [.ref a, .int (nI k)], w)) rfl ?_
  refine xE.alen (hs) rfl ?_
  show xE MX7_put (7, [some (.ref a), some (.int (nI k)), some (.int x)], [.int (nI n), .int (nI k)], w) _ _
  refine xE.go 1 (F1 := (bif decide ((nI n) ≤ (nI k)) then 14 else 10, [some (.ref a), some (.int (nI k)), some (.int x)], [], w)) rfl ?_
  refine xE.brT (decide_eq_true (nI_le hk (by omega))) ?_
  exact xE.vret 1 rfl rfl
end
section
theorem c_around {w : xW} {a : Nat} (hs : xshp a = some (.inl 10)) {G : Nat → Nat → Bool} {X : Nat → Bool} (hg : ∀ u, u < 10 → w.1 a u = mk (G u)) : xC MX7_around [.ref a, .int (mk X)] w (some (.int (mk (nb G X)))) w := by
  unfold xC
  show xE MX7_around (0, [some (.ref a), some (.int (mk X)), none, none], [], w) _ _
  refine xE.go 4 (F1 := (4, [some (.ref a), some (.int (mk X)), some (.int 0), some (.int 0)], [], w)) rfl ?_
  refine xE.loop (S := Unit) (fun k s => (4, [some (.ref a), some (.int (mk X)), some (.int (mk (fun v => anyv (fun u => X u && G u v) k))), some (.int (nI k))], [], w)) (fun _ _ => True) 10 () (by simp only [anyv, ← mk_0]; rfl) (trivial) ?_ ?_
  · intro k s hk hI K
    have K := K () trivial
    refine xE.go 2 (F1 := (6, [some (.ref a), some (.int (mk X)), some (.int (mk (fun v => anyv (fun u => X u && G u v) k))), some (.int (nI k))], [.ref a, .int (nI k)], w)) rfl ?_
    refine xE.alen (hs) rfl ?_
    show xE MX7_around (7, [some (.ref a), some (.int (mk X)), some (.int (mk (fun v => anyv (fun u => X u && G u v) k))), some (.int (nI k))], [.int (nI 10), .int (nI k)], w) _ _
    refine xE.go 1 (F1 := (bif decide ((nI 10) ≤ (nI k)) then 30 else 10, [some (.ref a), some (.int (mk X)), some (.int (mk (fun v => anyv (fun u => X u && G u v) k))), some (.int (nI k))], [], w)) rfl ?_
    refine xE.brF (decide_eq_false (nI_ge (b := 10) hk (by omega))) ?_
    refine xE.go 6 (F1 := (bif decide ((((mk X) >>> ((nI k) &&& 31)) &&& 1) = 0) then 24 else 18, [some (.ref a), some (.int (mk X)), some (.int (mk (fun v => anyv (fun u => X u && G u v) k))), some (.int (nI k))], [], w)) rfl ?_
    rw [mk_get X hk]
    cases hX : X k with
    | true =>
      refine xE.brF (by decide) ?_
      refine xE.go 3 (F1 := (21, [some (.ref a), some (.int (mk X)), some (.int (mk (fun v => anyv (fun u => X u && G u v) k))), some (.int (nI k))], [.int (nI k), .ref a, .int (mk (fun v => anyv (fun u => X u && G u v) k))], w)) rfl ?_
      refine xE.iald hs (k := k) (rfl) (⟨hk, by omega⟩) rfl ?_
      show xE MX7_around (22, [some (.ref a), some (.int (mk X)), some (.int (mk (fun v => anyv (fun u => X u && G u v) k))), some (.int (nI k))], [.int (w.1 a k), .int (mk (fun v => anyv (fun u => X u && G u v) k))], w) _ _
      rw [hg k hk]
      refine xE.go 4 (F1 := (4, [some (.ref a), some (.int (mk X)), some (.int ((mk (fun v => anyv (fun u => X u && G u v) k)) ||| (mk (G k)))), some (.int ((nI k) + 1))], [], w)) rfl ?_
      rw [mk_or, ← nI_succ, show mk (fun v => anyv (fun u => X u && G u v) k || G k v) = mk (fun v => anyv (fun u => X u && G u v) (k + 1)) from mk_ext fun v _ => by simp only [anyv, hX, Bool.true_and]]
      exact K
    | false =>
      refine xE.brT (by decide) ?_
      refine xE.go 2 (F1 := (4, [some (.ref a), some (.int (mk X)), some (.int (mk (fun v => anyv (fun u => X u && G u v) k))), some (.int ((nI k) + 1))], [], w)) rfl ?_
      rw [← nI_succ, show mk (fun v => anyv (fun u => X u && G u v) k) = mk (fun v => anyv (fun u => X u && G u v) (k + 1)) from mk_ext fun v _ => by simp only [anyv, hX, Bool.false_and, Bool.or_false]]
      exact K
  · intro s hI
    refine xE.go 2 (F1 := (6, [some (.ref a), some (.int (mk X)), some (.int (mk (fun v => anyv (fun u => X u && G u v) 10))), some (.int (nI 10))], [.ref a, .int (nI 10)], w)) rfl ?_
    refine xE.alen (hs) rfl ?_
    show xE MX7_around (7, [some (.ref a), some (.int (mk X)), some (.int (mk (fun v => anyv (fun u => X u && G u v) 10))), some (.int (nI 10))], [.int (nI 10), .int (nI 10)], w) _ _
    refine xE.go 1 (F1 := (bif decide ((nI 10) ≤ (nI 10)) then 30 else 10, [some (.ref a), some (.int (mk X)), some (.int (mk (fun v => anyv (fun u => X u && G u v) 10))), some (.int (nI 10))], [], w)) rfl ?_
    refine xE.brT (decide_eq_true (nI_le (a := 10) (Nat.le_refl _) (by omega))) ?_
    refine xE.go 1 (F1 := (31, [some (.ref a), some (.int (mk X)), some (.int (mk (fun v => anyv (fun u => X u && G u v) 10))), some (.int (nI 10))], [.int (mk (fun v => anyv (fun u => X u && G u v) 10))], w)) rfl ?_
    exact xE.iret .int 1 rfl rfl (rfl)
theorem c_reach {w : xW} {a : Nat} (hs : xshp a = some (.inl 10)) {G : Nat → Nat → Bool} {X A : Nat → Bool} (hg : ∀ u, u < 10 → w.1 a u = mk (G u)) : xC MX7_reach [.ref a, .int (mk X), .int (mk A)] w (some (.int (mk (rch G A X)))) w := by
  unfold xC
  show xE MX7_reach (0, [some (.ref a), some (.int (mk X)), some (.int (mk A)), none, none, none], [], w) _ _
  refine xE.go 6 (F1 := (7, [some (.ref a), some (.int (mk X)), some (.int (mk A)), some (.int ((mk X) &&& (mk A))), some (.int 0), none], [], w)) rfl ?_
  rw [mk_and]
  refine xE.loop (S := Option Value) (fun k t => (7, [some (.ref a), some (.int (mk X)), some (.int (mk A)), some (.int (mk (rchn G A k (fun v => X v && A v)))), some (.int (nI k)), t], [], w)) (fun _ _ => True) 10 none rfl trivial ?_ ?_
  · intro k t hk _ K
    refine xE.less [some (.ref a), some (.int (mk X)), some (.int (mk A)), some (.int (mk (rchn G A k (fun v => X v && A v)))), some (.int (nI k)), none] (by simp [xleb]) ?_
    refine xE.go 3 (F1 := (bif decide (10 ≤ (nI k)) then 43 else 14, [some (.ref a), some (.int (mk X)), some (.int (mk A)), some (.int (mk (rchn G A k (fun v => X v && A v)))), some (.int (nI k)), none], [], w)) rfl ?_
    refine xE.brF (decide_eq_false (nI_ge (b := 10) hk (by omega))) ?_
    refine xE.go 3 (F1 := (17, [some (.ref a), some (.int (mk X)), some (.int (mk A)), some (.int (mk (rchn G A k (fun v => X v && A v)))), some (.int (nI k)), none], [.int (mk (rchn G A k (fun v => X v && A v))), .ref a, .int (mk (rchn G A k (fun v => X v && A v)))], w)) rfl ?_
    refine xE.call rfl (c_around hs hg) ?_
    show xE MX7_reach (20, [some (.ref a), some (.int (mk X)), some (.int (mk A)), some (.int (mk (rchn G A k (fun v => X v && A v)))), some (.int (nI k)), none], [.int (mk (nb G (rchn G A k (fun v => X v && A v)))), .int (mk (rchn G A k (fun v => X v && A v)))], w) _ _
    have em : mk (rchn G A k (fun v => X v && A v)) ||| (mk (nb G (rchn G A k (fun v => X v && A v))) &&& mk A) = mk (rchn G A (k + 1) (fun v => X v && A v)) := by
      rw [mk_and, mk_or, rchn_add k 1]
      rfl
    refine xE.go 4 (F1 := (25, [some (.ref a), some (.int (mk X)), some (.int (mk A)), some (.int (mk (rchn G A k (fun v => X v && A v)))), some (.int (nI k)), some (.int ((mk (rchn G A k (fun v => X v && A v))) ||| ((mk (nb G (rchn G A k (fun v => X v && A v)))) &&& (mk A))))], [], w)) rfl ?_
    rw [em]
    refine xE.go 3 (F1 := (bif !decide ((mk (rchn G A (k + 1) (fun v => X v && A v))) = (mk (rchn G A k (fun v => X v && A v)))) then 34 else 31, [some (.ref a), some (.int (mk X)), some (.int (mk A)), some (.int (mk (rchn G A k (fun v => X v && A v)))), some (.int (nI k)), some (.int (mk (rchn G A (k + 1) (fun v => X v && A v))))], [], w)) rfl ?_
    by_cases e : mk (rchn G A (k + 1) (fun v => X v && A v)) = mk (rchn G A k (fun v => X v && A v))
    · refine xE.brF (by rw [decide_eq_true e]; rfl) ?_
      have e2 : mk (rchn G A k (fun v => X v && A v)) = mk (rch G A X) := mk_ext fun v hv => by
        have e3 := mk_inj e
        rw [rchn_add k 1] at e3
        have e4 := rchn_fix (G := G) (A := A) (X := rchn G A k (fun v => X v && A v)) e3 (10 - k) v hv
        unfold rch
        rw [show (10 : Nat) = k + (10 - k) by omega, rchn_add, e4]
      rw [e2]
      refine xE.go 2 (F1 := (44, [some (.ref a), some (.int (mk X)), some (.int (mk A)), some (.int (mk (rch G A X))), some (.int (nI k)), some (.int (mk (rchn G A (k + 1) (fun v => X v && A v))))], [.int (mk (rch G A X))], w)) rfl ?_
      exact xE.iret .int 1 rfl rfl (rfl)
    · refine xE.brT (by rw [decide_eq_false e]; rfl) ?_
      refine xE.go 4 (F1 := (7, [some (.ref a), some (.int (mk X)), some (.int (mk A)), some (.int (mk (rchn G A (k + 1) (fun v => X v && A v)))), some (.int ((nI k) + 1)), some (.int (mk (rchn G A (k + 1) (fun v => X v && A v))))], [], w)) rfl ?_
      rw [← nI_succ]
      exact K _ trivial
  · intro t _
    refine xE.less [some (.ref a), some (.int (mk X)), some (.int (mk A)), some (.int (mk (rch G A X))), some (.int (nI 10)), none] (by simp [xleb, rch]) ?_
    refine xE.go 3 (F1 := (bif decide (10 ≤ (nI 10)) then 43 else 14, [some (.ref a), some (.int (mk X)), some (.int (mk A)), some (.int (mk (rch G A X))), some (.int (nI 10)), none], [], w)) rfl ?_
    refine xE.brT (decide_eq_true (nI_le (a := 10) (Nat.le_refl _) (by omega))) ?_
    refine xE.go 1 (F1 := (44, [some (.ref a), some (.int (mk X)), some (.int (mk A)), some (.int (mk (rch G A X))), some (.int (nI 10)), none], [.int (mk (rch G A X))], w)) rfl ?_
    exact xE.iret .int 1 rfl rfl (rfl)
end
section
/-! sets of pairs in a long -/
def tJ (e : Int64) (v : Nat) : Bool := e.toBitVec.getLsbD v
theorem tJ_ext {s t : Int64} (h : ∀ v, v < 64 → tJ s v = tJ t v) : s = t := Int64.toBitVec_inj.mp (BitVec.eq_of_getLsbD_eq h)
theorem tJ_and (s t : Int64) (v : Nat) : tJ (s &&& t) v = (tJ s v && tJ t v) := by simp [tJ]
theorem tJ_or (s t : Int64) (v : Nat) : tJ (s ||| t) v = (tJ s v || tJ t v) := by simp [tJ]
theorem tJ_xor (s t : Int64) (v : Nat) : tJ (s ^^^ t) v = (tJ s v ^^ tJ t v) := by simp [tJ]
theorem tJ_0 (v : Nat) : tJ 0 v = false := by simp [tJ]
theorem tJ_m1 {v : Nat} (h : v < 64) : tJ (-1) v = true := by
  have : ∀ v, v < 64 → tJ (-1) v = true := by decide +kernel
  exact this v h
def pix (a b : Nat) : Nat := if a < b then a * (19 - a) / 2 + b - a - 1 else b * (19 - b) / 2 + a - b - 1
theorem pix_sym (a b : Nat) : pix a b = pix b a := by
  unfold pix
  by_cases h : a < b
  · rw [if_pos h, if_neg (by omega)]
  · by_cases h2 : b < a
    · rw [if_neg h, if_pos h2]
    · have : a = b := by omega
      rw [this]
theorem pix_lt {a b : Nat} (ha : a < 10) (hb : b < 10) (h : a ≠ b) : pix a b < 45 := by
  have : ∀ a, a < 10 → ∀ b, b < 10 → a ≠ b → pix a b < 45 := by decide +kernel
  exact this a ha b hb h
def pv (v : Nat) : Nat := ((List.range 100).find? (fun c => decide (c / 10 < c % 10) && Nat.beq (pix (c / 10) (c % 10)) v)).getD 0
theorem pv_of {a b : Nat} (ha : a < 10) (hb : b < 10) (h : a ≠ b) : pv (pix a b) = 10 * min a b + max a b := by
  have : ∀ a, a < 10 → ∀ b, b < 10 → a ≠ b → pv (pix a b) = 10 * min a b + max a b := by decide +kernel
  exact this a ha b hb h
theorem pix_inj {a b c d : Nat} (ha : a < 10) (hb : b < 10) (hc : c < 10) (hd : d < 10) (h1 : a ≠ b) (h2 : c ≠ d) : pix a b = pix c d ↔ (a = c ∧ b = d) ∨ (a = d ∧ b = c) := by
  constructor
  · intro h
    have h3 := pv_of ha hb h1
    rw [h, pv_of hc hd h2] at h3
    omega
  · rintro (⟨rfl, rfl⟩ | ⟨rfl, rfl⟩)
    · rfl
    · exact pix_sym _ _
theorem pix_all {v : Nat} (hv : v < 45) : ∃ a, a < 10 ∧ ∃ b, b < 10 ∧ a ≠ b ∧ pix a b = v := by
  have : ∀ v, v < 45 → ∃ a, a < 10 ∧ ∃ b, b < 10 ∧ a ≠ b ∧ pix a b = v := by decide +kernel
  exact this v hv
def pbit (a b : Nat) : Int64 := Int64.ofNat (2 ^ pix a b)
theorem pbit_sym (a b : Nat) : pbit a b = pbit b a := by unfold pbit; rw [pix_sym]
theorem tJ_pow {k v : Nat} (hk : k < 64) (hv : v < 64) : tJ (Int64.ofNat (2 ^ k)) v = decide (v = k) := by
  have : ∀ k, k < 64 → ∀ v, v < 64 → tJ (Int64.ofNat (2 ^ k)) v = decide (v = k) := by decide +kernel
  exact this k hk v hv
theorem tJ_pbit {a b v : Nat} (ha : a < 10) (hb : b < 10) (h : a ≠ b) (hv : v < 64) : tJ (pbit a b) v = decide (v = pix a b) := tJ_pow (by have := pix_lt ha hb h; omega) hv
/-- the graph of a set of pairs -/
def gr (e : Int64) : Nat → Nat → Bool := fun x y => (decide (x < 10) && decide (y < 10) && !decide (x = y)) && tJ e (pix x y)
theorem gr_of {e : Int64} {x y : Nat} (hx : x < 10) (hy : y < 10) (h : x ≠ y) : gr e x y = tJ e (pix x y) := by simp [gr, hx, hy, h]
theorem gr_out {e : Int64} {x y : Nat} (h : gr e x y = true) : x < 10 ∧ y < 10 ∧ x ≠ y := by
  simp [gr] at h
  exact ⟨h.1.1.1, h.1.1.2, h.1.2⟩
theorem gr_sym (e : Int64) (x y : Nat) : gr e x y = gr e y x := by
  simp only [gr, pix_sym x y]
  by_cases h : x = y
  · rw [h]
  · have h2 : y ≠ x := fun e => h e.symm
    simp only [h, h2, decide_false, Bool.not_false, Bool.and_true, Bool.and_comm]
theorem gr_irr (e : Int64) (x : Nat) : gr e x x = false := by simp [gr]
theorem gr_gok (e : Int64) : gok (gr e) := ⟨gr_sym e, gr_irr e, fun u v h => ⟨(gr_out h).1, (gr_out h).2.1⟩⟩
def ab (a b x y : Nat) : Bool := (decide (x = a) && decide (y = b)) || (decide (x = b) && decide (y = a))
theorem ab_iff {a b x y : Nat} : ab a b x y = true ↔ (x = a ∧ y = b) ∨ (x = b ∧ y = a) := by simp [ab]
theorem gr_bit {a b x y : Nat} (ha : a < 10) (hb : b < 10) (h : a ≠ b) (hx : x < 10) (hy : y < 10) (hxy : x ≠ y) : tJ (pbit a b) (pix x y) = ab a b x y := by
  rw [tJ_pbit ha hb h (by have := pix_lt hx hy hxy; omega)]
  apply Bool.eq_iff_iff.mpr
  rw [decide_eq_true_iff, ab_iff, pix_inj hx hy ha hb hxy h]
theorem gr_xor {e : Int64} {a b x y : Nat} (ha : a < 10) (hb : b < 10) (h : a ≠ b) : gr (e ^^^ pbit a b) x y = (gr e x y ^^ ab a b x y) := by
  by_cases hc : x < 10 ∧ y < 10 ∧ x ≠ y
  · rw [gr_of hc.1 hc.2.1 hc.2.2, gr_of hc.1 hc.2.1 hc.2.2, tJ_xor, gr_bit ha hb h hc.1 hc.2.1 hc.2.2]
  · have e1 : ∀ e, gr e x y = false := fun e => by
      cases h2 : gr e x y with
      | false => rfl
      | true => exact absurd (gr_out h2) hc
    rw [e1, e1]
    cases h3 : ab a b x y with
    | false => rfl
    | true =>
      rcases ab_iff.mp h3 with ⟨r1, r2⟩ | ⟨r1, r2⟩
      · subst r1; subst r2; exact absurd ⟨ha, hb, h⟩ hc
      · subst r1; subst r2; exact absurd ⟨hb, ha, fun e => h e.symm⟩ hc
theorem gr_or {e : Int64} {a b x y : Nat} (ha : a < 10) (hb : b < 10) (h : a ≠ b) : gr (e ||| pbit a b) x y = (gr e x y || ab a b x y) := by
  by_cases hc : x < 10 ∧ y < 10 ∧ x ≠ y
  · rw [gr_of hc.1 hc.2.1 hc.2.2, gr_of hc.1 hc.2.1 hc.2.2, tJ_or, gr_bit ha hb h hc.1 hc.2.1 hc.2.2]
  · have e1 : ∀ e, gr e x y = false := fun e => by
      cases h2 : gr e x y with
      | false => rfl
      | true => exact absurd (gr_out h2) hc
    rw [e1, e1]
    cases h3 : ab a b x y with
    | false => rfl
    | true =>
      rcases ab_iff.mp h3 with ⟨r1, r2⟩ | ⟨r1, r2⟩
      · subst r1; subst r2; exact absurd ⟨ha, hb, h⟩ hc
      · subst r1; subst r2; exact absurd ⟨hb, ha, fun e => h e.symm⟩ hc
/-- bits of pairs alone -/
def jok (e : Int64) : Prop := ∀ v, 45 ≤ v → v < 64 → tJ e v = false
theorem jok_0 : jok 0 := fun v _ _ => tJ_0 v
theorem jok_bit {a b : Nat} (ha : a < 10) (hb : b < 10) (h : a ≠ b) : jok (pbit a b) := fun v h1 h2 => by
  rw [tJ_pbit ha hb h h2]
  have := pix_lt ha hb h
  exact decide_eq_false (by omega)
theorem jok_xor {s t : Int64} (h1 : jok s) (h2 : jok t) : jok (s ^^^ t) := fun v a b => by rw [tJ_xor, h1 v a b, h2 v a b]; rfl
theorem jok_or {s t : Int64} (h1 : jok s) (h2 : jok t) : jok (s ||| t) := fun v a b => by rw [tJ_or, h1 v a b, h2 v a b]; rfl
theorem jok_and {s t : Int64} (h1 : jok s) : jok (s &&& t) := fun v a b => by rw [tJ_and, h1 v a b]; rfl
theorem gr_inj {s t : Int64} (h1 : jok s) (h2 : jok t) (h : ∀ x y, x < 10 → y < 10 → x ≠ y → gr s x y = gr t x y) : s = t := tJ_ext fun v hv => by
  by_cases h3 : v < 45
  · obtain ⟨a, ha, b, hb, hab, rfl⟩ := pix_all h3
    have := h a b ha hb hab
    rw [gr_of ha hb hab, gr_of ha hb hab] at this
    exact this
  · rw [h1 v (by omega) hv, h2 v (by omega) hv]
theorem gr_zero (x y : Nat) : gr 0 x y = false := by simp [gr, tJ_0]
theorem and_pbit (e : Int64) {a b : Nat} (ha : a < 10) (hb : b < 10) (h : a ≠ b) : e &&& pbit a b = if gr e a b then pbit a b else 0 := tJ_ext fun v hv => by
  rw [tJ_and, tJ_pbit ha hb h hv, gr_of ha hb h]
  by_cases h1 : v = pix a b
  · subst h1
    cases h2 : tJ e (pix a b) with
    | true => rw [if_pos rfl, tJ_pbit ha hb h hv]; rfl
    | false => rw [if_neg (by decide), tJ_0]; rfl
  · rw [decide_eq_false h1, Bool.and_false]
    cases h2 : tJ e (pix a b) with
    | true => rw [if_pos rfl, tJ_pbit ha hb h hv, decide_eq_false h1]
    | false => rw [if_neg (by decide), tJ_0]
theorem pbit_ne {a b : Nat} (ha : a < 10) (hb : b < 10) (h : a ≠ b) : pbit a b ≠ 0 := fun e => by
  have h1 := tJ_pbit ha hb h (v := pix a b) (by have := pix_lt ha hb h; omega)
  rw [e, tJ_0] at h1
  simp at h1
theorem and_zero (e : Int64) {a b : Nat} (ha : a < 10) (hb : b < 10) (h : a ≠ b) : (e &&& pbit a b = 0) ↔ gr e a b = false := by
  rw [and_pbit e ha hb h]
  cases gr e a b with
  | true => simp [pbit_ne ha hb h]
  | false => simp
theorem lg_cmp0 {x y : Int64} : decide (lg_cmp x y = 0) = decide (x = y) := by
  have : lg_cmp x y = 0 ↔ x = y := by
    unfold lg_cmp
    simp only [gt_iff_lt, Int64.lt_iff_toInt_lt, ← Int64.toInt_inj]
    repeat' split
    all_goals (constructor <;> intro hh <;> first | omega | decide | exact absurd hh (by decide))
  simp [this]
theorem gr_andn {e : Int64} {a b x y : Nat} (ha : a < 10) (hb : b < 10) (h : a ≠ b) : gr (e &&& (pbit a b ^^^ -1)) x y = (gr e x y && !ab a b x y) := by
  by_cases hc : x < 10 ∧ y < 10 ∧ x ≠ y
  · rw [gr_of hc.1 hc.2.1 hc.2.2, gr_of hc.1 hc.2.1 hc.2.2, tJ_and, tJ_xor, gr_bit ha hb h hc.1 hc.2.1 hc.2.2, tJ_m1 (by have := pix_lt hc.1 hc.2.1 hc.2.2; omega), Bool.xor_true]
  · have e1 : ∀ e, gr e x y = false := fun e => by
      cases h2 : gr e x y with
      | false => rfl
      | true => exact absurd (gr_out h2) hc
    rw [e1, e1]
    rfl
end
section
/-! pairs and states of the class -/
theorem i_min {a b : Nat} (ha : a < 10) (hb : b < 10) : (if nI b < nI a then nI b else nI a) = nI (min a b) := by
  by_cases h : b < a
  · rw [if_pos (nI_lt h (by omega)), Nat.min_eq_right (by omega)]
  · rw [if_neg (nI_nlt (by omega) (by omega)), Nat.min_eq_left (by omega)]
theorem i_max {a b : Nat} (ha : a < 10) (hb : b < 10) : (if nI a < nI b then nI b else nI a) = nI (max a b) := by
  by_cases h : a < b
  · rw [if_pos (nI_lt h (by omega)), Nat.max_eq_right (by omega)]
  · rw [if_neg (nI_nlt (by omega) (by omega)), Nat.max_eq_left (by omega)]
theorem pbit_mm {a b : Nat} : pbit (min a b) (max a b) = pbit a b := by
  by_cases h : a ≤ b
  · rw [Nat.min_eq_left h, Nat.max_eq_right h]
  · rw [Nat.min_eq_right (by omega), Nat.max_eq_left (by omega), pbit_sym]
theorem pb_all {l h : Nat} (hl : l < 10) (hh : h < 10) (hlt : l < h) : (1 : Int64) <<< ((nI l * (19 - nI l) / 2 + nI h - nI l - 1).toInt64 &&& 63) = pbit l h := by
  have : ∀ l, l < 10 → ∀ h, h < 10 → l < h → (1 : Int64) <<< ((nI l * (19 - nI l) / 2 + nI h - nI l - 1).toInt64 &&& 63) = pbit l h := by decide +kernel
  exact this l hl h hh hlt
theorem c_pb {w : xW} {a b : Nat} (ha : a < 10) (hb : b < 10) (h : a ≠ b) : xC MX7_pairBit [.int (nI a), .int (nI b)] w (some (.long (pbit a b))) w := by
  unfold xC
  show xE MX7_pairBit (0, [some (.int (nI a)), some (.int (nI b)), none, none, none], [], w) _ _
  refine xE.go 8 (F1 := (12, [some (.int (nI a)), some (.int (nI b)), some (.int (if nI b < nI a then nI b else nI a)), some (.int (if nI a < nI b then nI b else nI a)), none], [], w)) rfl ?_
  rw [i_min ha hb, i_max ha hb]
  refine xE.go 2 (F1 := (bif decide ((nI (min a b)) < 0) then 27 else 16, [some (.int (nI a)), some (.int (nI b)), some (.int (nI (min a b))), some (.int (nI (max a b))), none], [], w)) rfl ?_
  refine xE.brF (decide_eq_false (nI_pos (by omega))) ?_
  refine xE.go 3 (F1 := (bif decide (10 ≤ (nI (max a b))) then 27 else 22, [some (.int (nI a)), some (.int (nI b)), some (.int (nI (min a b))), some (.int (nI (max a b))), none], [], w)) rfl ?_
  refine xE.brF (decide_eq_false (nI_ge (b := 10) (by omega) (by omega))) ?_
  refine xE.go 3 (F1 := (bif !decide ((nI (min a b)) = (nI (max a b))) then 29 else 27, [some (.int (nI a)), some (.int (nI b)), some (.int (nI (min a b))), some (.int (nI (max a b))), none], [], w)) rfl ?_
  refine xE.brT (by rw [decide_eq_false (fun e => by have := jI_inj (by omega) (by omega) e; omega)]; rfl) ?_
  refine xE.go 17 (F1 := (49, [some (.int (nI a)), some (.int (nI b)), some (.int (nI (min a b))), some (.int (nI (max a b))), some (.int (((nI (min a b)) * (19 - (nI (min a b)))) / 2))], [.long (1 <<< (((((((nI (min a b)) * (19 - (nI (min a b)))) / 2) + (nI (max a b))) - (nI (min a b))) - 1).toInt64 &&& 63))], w)) rfl ?_
  rw [pb_all (by omega) (by omega) (by omega), pbit_mm]
  exact xE.lret 1 rfl rfl
theorem c_pb_0 {w : xW} {x y : Int32} (hn : ∀ a b, a < 10 → b < 10 → a ≠ b → x = nI a → y = nI b → False) : xC MX7_pairBit [.int x, .int y] w (some (.long 0)) w := by
  unfold xC
  show xE MX7_pairBit (0, [some (.int x), some (.int y), none, none, none], [], w) _ _
  refine xE.go 8 (F1 := (12, [some (.int x), some (.int y), some (.int (if y < x then y else x)), some (.int (if x < y then y else x)), none], [], w)) rfl ?_
  have e1 : ∃ lo hi : Int32, (lo = if y < x then y else x) ∧ hi = if x < y then y else x := ⟨_, _, rfl, rfl⟩
  obtain ⟨lo, hi, e1, e2⟩ := e1
  rw [← e1, ← e2]
  refine xE.go 2 (F1 := (bif decide (lo < 0) then 27 else 16, [some (.int x), some (.int y), some (.int lo), some (.int hi), none], [], w)) rfl ?_
  refine xE.br (fun h1 => ?_) (fun h1 => ?_)
  · refine xE.go 1 (F1 := (28, [some (.int x), some (.int y), some (.int lo), some (.int hi), none], [.long 0], w)) rfl ?_
    exact xE.lret 1 rfl rfl
  · refine xE.go 3 (F1 := (bif decide (10 ≤ hi) then 27 else 22, [some (.int x), some (.int y), some (.int lo), some (.int hi), none], [], w)) rfl ?_
    refine xE.br (fun h2 => ?_) (fun h2 => ?_)
    · refine xE.go 1 (F1 := (28, [some (.int x), some (.int y), some (.int lo), some (.int hi), none], [.long 0], w)) rfl ?_
      exact xE.lret 1 rfl rfl
    · refine xE.go 3 (F1 := (bif !decide (lo = hi) then 29 else 27, [some (.int x), some (.int y), some (.int lo), some (.int hi), none], [], w)) rfl ?_
      refine xE.br (fun h3 => ?_) (fun h3 => ?_)
      · exfalso
        have f1 := Int32.le_iff_toInt_le.mp (i_lt0 h1)
        have f2 : ¬ (10 : Int32) ≤ hi := of_decide_eq_false h2
        have f3 : lo ≠ hi := fun e => by rw [decide_eq_true e] at h3; cases h3
        have e10 : (10 : Int32).toInt = 10 := rfl
        rw [Int32.toInt_zero] at f1
        rw [Int32.le_iff_toInt_le, e10] at f2
        have fx : ∀ z : Int32, 0 ≤ z.toInt → z.toInt < 10 → ∃ k, k < 10 ∧ z = nI k := fun z g1 g2 => i_of (N := 10) (by omega) (Int32.le_iff_toInt_le.mpr (by rw [Int32.toInt_zero]; exact g1)) (by rw [Int32.le_iff_toInt_le, nI_toInt (by omega)]; omega)
        by_cases c1 : y < x
        · have c2 : ¬ x < y := fun e => by rw [Int32.lt_iff_toInt_lt] at c1 e; omega
          rw [if_pos c1] at e1
          rw [if_neg c2] at e2
          subst e1; subst e2
          rw [Int32.lt_iff_toInt_lt] at c1
          obtain ⟨k1, hk1, q1⟩ := fx lo (by omega) (by omega)
          obtain ⟨k2, hk2, q2⟩ := fx hi (by omega) (by omega)
          exact hn k2 k1 hk2 hk1 (fun e => f3 (by rw [q1, q2, e])) q2 q1
        · rw [if_neg c1] at e1
          by_cases c2 : x < y
          · rw [if_pos c2] at e2
            subst e1; subst e2
            rw [Int32.lt_iff_toInt_lt] at c2
            obtain ⟨k1, hk1, q1⟩ := fx lo (by omega) (by omega)
            obtain ⟨k2, hk2, q2⟩ := fx hi (by omega) (by omega)
            exact hn k1 k2 hk1 hk2 (fun e => f3 (by rw [q1, q2, e])) q1 q2
          · rw [if_neg c2] at e2
            exact f3 (by rw [e1, e2])
      · refine xE.go 1 (F1 := (28, [some (.int x), some (.int y), some (.int lo), some (.int hi), none], [.long 0], w)) rfl ?_
        exact xE.lret 1 rfl rfl
/-- the two ints are a pair of vertices -/
def prI (x y : Int32) : Prop := ∃ a b, a < 10 ∧ b < 10 ∧ a ≠ b ∧ x = nI a ∧ y = nI b
theorem c_edges1 {w : xW} : xC MX5_edges [.ref 1] w (some (.long (w.2 1 0))) w := by
  unfold xC
  show xE MX5_edges (0, [some (.ref 1)], [], w) _ _
  refine xE.go 2 (F1 := (4, [some (.ref 1)], [.long (w.2 1 0)], w)) rfl ?_
  exact xE.lret 1 rfl rfl
theorem c_edges2 {w : xW} : xC MX5_edges [.ref 2] w (some (.long (w.2 2 0))) w := by
  unfold xC
  show xE MX5_edges (0, [some (.ref 2)], [], w) _ _
  refine xE.go 2 (F1 := (4, [some (.ref 2)], [.long (w.2 2 0)], w)) rfl ?_
  exact xE.lret 1 rfl rfl
theorem c_added1 {w : xW} : xC MX5_added [.ref 1] w (some (.int (w.1 1 1))) w := by
  unfold xC
  show xE MX5_added (0, [some (.ref 1)], [], w) _ _
  refine xE.go 2 (F1 := (4, [some (.ref 1)], [.int (w.1 1 1)], w)) rfl ?_
  exact xE.iret .int 1 rfl rfl (rfl)
theorem c_added2 {w : xW} : xC MX5_added [.ref 2] w (some (.int (w.1 2 1))) w := by
  unfold xC
  show xE MX5_added (0, [some (.ref 2)], [], w) _ _
  refine xE.go 2 (F1 := (4, [some (.ref 2)], [.int (w.1 2 1)], w)) rfl ?_
  exact xE.iret .int 1 rfl rfl (rfl)
theorem c_dropped1 {w : xW} : xC MX5_dropped [.ref 1] w (some (.int (w.1 1 2))) w := by
  unfold xC
  show xE MX5_dropped (0, [some (.ref 1)], [], w) _ _
  refine xE.go 2 (F1 := (4, [some (.ref 1)], [.int (w.1 1 2)], w)) rfl ?_
  exact xE.iret .int 1 rfl rfl (rfl)
theorem c_dropped2 {w : xW} : xC MX5_dropped [.ref 2] w (some (.int (w.1 2 2))) w := by
  unfold xC
  show xE MX5_dropped (0, [some (.ref 2)], [], w) _ _
  refine xE.go 2 (F1 := (4, [some (.ref 2)], [.int (w.1 2 2)], w)) rfl ?_
  exact xE.iret .int 1 rfl rfl (rfl)
theorem c_joins {w : xW} {a b : Nat} (ha : a < 10) (hb : b < 10) (h : a ≠ b) : xC MX5_joins [.ref 1, .int (nI a), .int (nI b)] w (some (.int (if gr (w.2 1 0) a b then 1 else 0))) w := by
  unfold xC
  show xE MX5_joins (0, [some (.ref 1), some (.int (nI a)), some (.int (nI b))], [], w) _ _
  refine xE.go 4 (F1 := (6, [some (.ref 1), some (.int (nI a)), some (.int (nI b))], [.int (nI b), .int (nI a), .long (w.2 1 0)], w)) rfl ?_
  refine xE.call rfl (c_pb ha hb h) ?_
  show xE MX5_joins (9, [some (.ref 1), some (.int (nI a)), some (.int (nI b))], [.long (pbit a b), .long (w.2 1 0)], w) _ _
  refine xE.go 4 (F1 := (bif decide ((lg_cmp ((w.2 1 0) &&& (pbit a b)) 0) = 0) then 19 else 15, [some (.ref 1), some (.int (nI a)), some (.int (nI b))], [], w)) rfl ?_
  rw [lg_cmp0]
  cases hg : gr (w.2 1 0) a b with
  | true =>
    refine xE.brF (decide_eq_false (fun e => by rw [(and_zero _ ha hb h).mp e] at hg; cases hg)) ?_
    refine xE.go 2 (F1 := (20, [some (.ref 1), some (.int (nI a)), some (.int (nI b))], [.int 1], w)) rfl ?_
    exact xE.iret .boolean 1 rfl rfl (rfl)
  | false =>
    refine xE.brT (decide_eq_true ((and_zero _ ha hb h).mpr hg)) ?_
    refine xE.go 1 (F1 := (20, [some (.ref 1), some (.int (nI a)), some (.int (nI b))], [.int 0], w)) rfl ?_
    exact xE.iret .boolean 1 rfl rfl (rfl)
theorem c_joins_0 {w : xW} {x y : Int32} (hn : ¬ prI x y) : xC MX5_joins [.ref 1, .int x, .int y] w (some (.int 0)) w := by
  unfold xC
  show xE MX5_joins (0, [some (.ref 1), some (.int x), some (.int y)], [], w) _ _
  refine xE.go 4 (F1 := (6, [some (.ref 1), some (.int x), some (.int y)], [.int y, .int x, .long (w.2 1 0)], w)) rfl ?_
  refine xE.call rfl (c_pb_0 (fun a b ha hb h e1 e2 => hn ⟨a, b, ha, hb, h, e1, e2⟩)) ?_
  show xE MX5_joins (9, [some (.ref 1), some (.int x), some (.int y)], [.long 0, .long (w.2 1 0)], w) _ _
  refine xE.go 4 (F1 := (bif decide ((lg_cmp ((w.2 1 0) &&& 0) 0) = 0) then 19 else 15, [some (.ref 1), some (.int x), some (.int y)], [], w)) rfl ?_
  rw [lg_cmp0]
  refine xE.brT (decide_eq_true (by simp)) ?_
  refine xE.go 1 (F1 := (20, [some (.ref 1), some (.int x), some (.int y)], [.int 0], w)) rfl ?_
  exact xE.iret .boolean 1 rfl rfl (rfl)
theorem c_become {w : xW} {e : Int64} {x y : Int32} : xC MX5_become [.ref 1, .long e, .int x, .int y] w none (xuI (xuI (xuJ w 1 0 e) 1 1 x) 1 2 y) := by
  unfold xC
  show xE MX5_become (0, [some (.ref 1), some (.long e), none, some (.int x), some (.int y)], [], w) _ _
  refine xE.go 9 (F1 := (16, [some (.ref 1), some (.long e), none, some (.int x), some (.int y)], [], (xuI (xuI (xuJ w 1 0 e) 1 1 x) 1 2 y))) rfl ?_
  exact xE.vret 1 rfl rfl
theorem c_become2 {w : xW} {e : Int64} {x y : Int32} : xC MX5_become [.ref 2, .long e, .int x, .int y] w none (xuI (xuI (xuJ w 2 0 e) 2 1 x) 2 2 y) := by
  unfold xC
  show xE MX5_become (0, [some (.ref 2), some (.long e), none, some (.int x), some (.int y)], [], w) _ _
  refine xE.go 9 (F1 := (16, [some (.ref 2), some (.long e), none, some (.int x), some (.int y)], [], (xuI (xuI (xuJ w 2 0 e) 2 1 x) 2 2 y))) rfl ?_
  exact xE.vret 1 rfl rfl
theorem c_flip {w : xW} {a b : Nat} (ha : a < 10) (hb : b < 10) (h : a ≠ b) : xC MX5_flip [.ref 1, .int (nI a), .int (nI b)] w none (xuJ (if gr (w.2 1 0) a b then xuI w 1 2 (w.1 1 2 + 1) else xuI w 1 1 (w.1 1 1 + 1)) 1 0 (w.2 1 0 ^^^ pbit a b)) := by
  unfold xC
  show xE MX5_flip (0, [some (.ref 1), some (.int (nI a)), some (.int (nI b))], [], w) _ _
  refine xE.go 3 (F1 := (3, [some (.ref 1), some (.int (nI a)), some (.int (nI b))], [.int (nI b), .int (nI a), .ref 1], w)) rfl ?_
  refine xE.call rfl (c_joins ha hb h) ?_
  show xE MX5_flip (6, [some (.ref 1), some (.int (nI a)), some (.int (nI b))], [.int (if gr (w.2 1 0) a b then 1 else 0)], w) _ _
  refine xE.go 1 (F1 := (bif decide ((if gr (w.2 1 0) a b then 1 else 0) = 0) then 22 else 9, [some (.ref 1), some (.int (nI a)), some (.int (nI b))], [], w)) rfl ?_
  cases hg : gr (w.2 1 0) a b with
  | true =>
    refine xE.brF (by decide) ?_
    refine xE.go 12 (F1 := (39, [some (.ref 1), some (.int (nI a)), some (.int (nI b))], [.int (nI b), .int (nI a), .long (w.2 1 0), .ref 1], (xuI w 1 2 ((w.1 1 2) + 1)))) rfl ?_
    refine xE.call rfl (c_pb ha hb h) ?_
    show xE MX5_flip (42, [some (.ref 1), some (.int (nI a)), some (.int (nI b))], [.long (pbit a b), .long (w.2 1 0), .ref 1], (xuI w 1 2 ((w.1 1 2) + 1))) _ _
    refine xE.go 2 (F1 := (46, [some (.ref 1), some (.int (nI a)), some (.int (nI b))], [], (xuJ (xuI w 1 2 ((w.1 1 2) + 1)) 1 0 ((w.2 1 0) ^^^ (pbit a b))))) rfl ?_
    exact xE.vret 1 rfl rfl
  | false =>
    refine xE.brT (by decide) ?_
    refine xE.go 11 (F1 := (39, [some (.ref 1), some (.int (nI a)), some (.int (nI b))], [.int (nI b), .int (nI a), .long (w.2 1 0), .ref 1], (xuI w 1 1 ((w.1 1 1) + 1)))) rfl ?_
    refine xE.call rfl (c_pb ha hb h) ?_
    show xE MX5_flip (42, [some (.ref 1), some (.int (nI a)), some (.int (nI b))], [.long (pbit a b), .long (w.2 1 0), .ref 1], (xuI w 1 1 ((w.1 1 1) + 1))) _ _
    refine xE.go 2 (F1 := (46, [some (.ref 1), some (.int (nI a)), some (.int (nI b))], [], (xuJ (xuI w 1 1 ((w.1 1 1) + 1)) 1 0 ((w.2 1 0) ^^^ (pbit a b))))) rfl ?_
    exact xE.vret 1 rfl rfl
end
section
/-! Integer.bitCount over masks -/
theorem cnt_bits {S : Nat → Bool} : cnt (fun v => (mkB 10 S).toNat.testBit v) 10 = cnt S 10 := cnt_ext fun v hv => by
  rw [← BitVec.getLsbD, mkB_get S 10 v (by omega), decide_eq_true hv, Bool.true_and]
theorem mkB_lt (S : Nat → Bool) : (mkB 10 S).toNat < 1024 := by
  refine Nat.lt_pow_two_of_testBit (n := 10) _ (fun v hv => ?_)
  by_cases h : v < 32
  · rw [← BitVec.getLsbD, mkB_get S 10 v h, decide_eq_false (by omega), Bool.false_and]
  · exact BitVec.getLsbD_of_ge _ _ (by omega)
theorem mk_nI (S : Nat → Bool) : mk S = nI (mkB 10 S).toNat := by
  unfold mk nI
  apply Int32.toBitVec_inj.mp
  rw [Int32.toBitVec_ofBitVec, Int32.toBitVec_ofNat', BitVec.ofNat_toNat]
  simp
def bc1 (x : Int32) : Int32 := x - ((x.toUInt32 >>> (Int32.toUInt32 1 &&& Int32.toUInt32 31)).toInt32 &&& 1431655765)
def bc2 (x : Int32) : Int32 := (x &&& 858993459) + ((x.toUInt32 >>> (Int32.toUInt32 2 &&& Int32.toUInt32 31)).toInt32 &&& 858993459)
def bc3 (x : Int32) : Int32 := (x + (x.toUInt32 >>> (Int32.toUInt32 4 &&& Int32.toUInt32 31)).toInt32) &&& 252645135
def bc4 (x : Int32) : Int32 := x + (x.toUInt32 >>> (Int32.toUInt32 8 &&& Int32.toUInt32 31)).toInt32
def bc5 (x : Int32) : Int32 := x + (x.toUInt32 >>> (Int32.toUInt32 16 &&& Int32.toUInt32 31)).toInt32
theorem bc_all {m : Nat} (hm : m < 1024) : bc5 (bc4 (bc3 (bc2 (bc1 (nI m))))) &&& 63 = nI (cnt (fun v => m.testBit v) 10) := by
  have : ∀ m, m < 1024 → bc5 (bc4 (bc3 (bc2 (bc1 (nI m))))) &&& 63 = nI (cnt (fun v => m.testBit v) 10) := by decide +kernel
  exact this m hm
theorem c_ones {w : xW} {S : Nat → Bool} : xC MJ6_bitCount_0f7a4 [.int (mk S)] w (some (.int (nI (cnt S 10)))) w := by
  rw [mk_nI]
  have e := bc_all (mkB_lt S)
  rw [cnt_bits] at e
  rw [← e]
  obtain ⟨x, hx⟩ : ∃ x, x = nI (mkB 10 S).toNat := ⟨_, rfl⟩
  rw [← hx]
  unfold xC
  show xE MJ6_bitCount_0f7a4 (0, [some (.int x)], [], w) _ _
  refine xE.go 8 (F1 := (10, [some (.int (x - (((x.toUInt32 >>> (Int32.toUInt32 1 &&& Int32.toUInt32 31)).toInt32) &&& (1431655765))))], [], w)) rfl ?_
  show xE MJ6_bitCount_0f7a4 (10, [some (.int (bc1 x))], [], w) _ _
  refine xE.go 10 (F1 := (24, [some (.int (((bc1 x) &&& (858993459)) + ((((bc1 x).toUInt32 >>> (Int32.toUInt32 2 &&& Int32.toUInt32 31)).toInt32) &&& (858993459))))], [], w)) rfl ?_
  show xE MJ6_bitCount_0f7a4 (24, [some (.int (bc2 (bc1 x)))], [], w) _ _
  refine xE.go 8 (F1 := (34, [some (.int (((bc2 (bc1 x)) + (((bc2 (bc1 x)).toUInt32 >>> (Int32.toUInt32 4 &&& Int32.toUInt32 31)).toInt32)) &&& (252645135)))], [], w)) rfl ?_
  show xE MJ6_bitCount_0f7a4 (34, [some (.int (bc3 (bc2 (bc1 x))))], [], w) _ _
  refine xE.go 6 (F1 := (41, [some (.int ((bc3 (bc2 (bc1 x))) + (((bc3 (bc2 (bc1 x))).toUInt32 >>> (Int32.toUInt32 8 &&& Int32.toUInt32 31)).toInt32)))], [], w)) rfl ?_
  show xE MJ6_bitCount_0f7a4 (41, [some (.int (bc4 (bc3 (bc2 (bc1 x)))))], [], w) _ _
  refine xE.go 6 (F1 := (48, [some (.int ((bc4 (bc3 (bc2 (bc1 x)))) + (((bc4 (bc3 (bc2 (bc1 x)))).toUInt32 >>> (Int32.toUInt32 16 &&& Int32.toUInt32 31)).toInt32)))], [], w)) rfl ?_
  show xE MJ6_bitCount_0f7a4 (48, [some (.int (bc5 (bc4 (bc3 (bc2 (bc1 x))))))], [], w) _ _
  refine xE.go 3 (F1 := (52, [some (.int (bc5 (bc4 (bc3 (bc2 (bc1 x))))))], [.int ((bc5 (bc4 (bc3 (bc2 (bc1 x))))) &&& 63)], w)) rfl ?_
  exact xE.iret .int 1 rfl rfl (rfl)
end
section
/-! what an embedding's cells hold; cells by number, so that it is told of both -/
/-- graph and block -/
def eG (e n : Nat) (w : xW) (H : Nat → Nat → Bool) (S : Nat → Bool) : Prop := (∀ v, v < 10 → w.1 n v = mk (H v)) ∧ w.1 e 2 = mk S ∧ w.1 e 4 = nI (ec H)
/-- what is placed -/
def eP (e j : Nat) (w : xW) (P : Nat → Nat → Bool) (PV : Nat → Bool) (E : Nat) : Prop := (∀ v, v < 10 → w.1 j v = mk (P v)) ∧ w.1 e 3 = mk PV ∧ w.1 e 5 = nI E
/-- faces and followers -/
def eF (e s f : Nat) (w : xW) (L : List (List Nat)) : Prop := w.1 e 8 = nI L.length ∧ ∀ i c, L[i]? = some c → w.1 s i = mk (fun v => decide (v ∈ c)) ∧ ∀ x y, (x, y) ∈ dts c → w.1 f (10 * i + x) = nI y
/-- the path -/
def eL (e p : Nat) (w : xW) (l : List Nat) : Prop := w.1 e 14 = nI l.length ∧ ∀ i x, l[i]? = some x → w.1 p i = nI x
def adP (P : Nat → Nat → Bool) (a b : Nat) : Nat → Nat → Bool := fun x y => P x y || ab a b x y
def adV (PV : Nat → Bool) (a b : Nat) : Nat → Bool := fun v => PV v || (decide (v = a) || decide (v = b))
end
section
theorem c_placeEdge_p {w : xW} {P : Nat → Nat → Bool} {PV : Nat → Bool} {E v u : Nat} (hP : eP 18 20 w P PV E) (hv : v < 10) (hu : u < 10) : xD MX1_placeEdge [.ref 18, .int (nI v), .int (nI u)] w (fun r w1 => r = none ∧ eP 18 20 w1 (adP P v u) (adV PV v u) (E + 1) ∧ xkq [(20, none), (18, some 3), (18, some 5)] w w1) := by
  refine xD.of ?_
  show xQ MX1_placeEdge (0, [some (.ref 18), some (.int (nI v)), some (.int (nI u))], [], w) _
  refine xQ.go 6 (F1 := (10, [some (.ref 18), some (.int (nI v)), some (.int (nI u))], [.int (nI v), .ref 20, .int (nI v), .ref 20], w)) rfl ?_
  refine xQ.call rfl (c_at rfl hv (by omega)) ?_
  show xQ MX1_placeEdge (13, [some (.ref 18), some (.int (nI v)), some (.int (nI u))], [.int (w.1 20 v), .int (nI v), .ref 20], w) _
  refine xQ.go 1 (F1 := (14, [some (.ref 18), some (.int (nI v)), some (.int (nI u))], [.int (nI u), .int (w.1 20 v), .int (nI v), .ref 20], w)) rfl ?_
  refine xQ.call rfl (c_bit hu) ?_
  show xQ MX1_placeEdge (17, [some (.ref 18), some (.int (nI v)), some (.int (nI u))], [.int (mk (fun z => decide (z = u))), .int (w.1 20 v), .int (nI v), .ref 20], w) _
  refine xQ.go 1 (F1 := (18, [some (.ref 18), some (.int (nI v)), some (.int (nI u))], [.int ((w.1 20 v) ||| (mk (fun z => decide (z = u)))), .int (nI v), .ref 20], w)) rfl ?_
  refine xQ.call rfl (c_put rfl hv (by omega)) ?_
  show xQ MX1_placeEdge (21, [some (.ref 18), some (.int (nI v)), some (.int (nI u))], [], (xuI w 20 v (w.1 20 v ||| mk (fun z => decide (z = u))))) _
  refine xQ.go 6 (F1 := (31, [some (.ref 18), some (.int (nI v)), some (.int (nI u))], [.int (nI u), .ref 20, .int (nI u), .ref 20], (xuI w 20 v (w.1 20 v ||| mk (fun z => decide (z = u)))))) rfl ?_
  refine xQ.call rfl (c_at rfl hu (by omega)) ?_
  show xQ MX1_placeEdge (34, [some (.ref 18), some (.int (nI v)), some (.int (nI u))], [.int ((xuI w 20 v (w.1 20 v ||| mk (fun z => decide (z = u)))).1 20 u), .int (nI u), .ref 20], (xuI w 20 v (w.1 20 v ||| mk (fun z => decide (z = u))))) _
  refine xQ.go 1 (F1 := (35, [some (.ref 18), some (.int (nI v)), some (.int (nI u))], [.int (nI v), .int ((xuI w 20 v (w.1 20 v ||| mk (fun z => decide (z = u)))).1 20 u), .int (nI u), .ref 20], (xuI w 20 v (w.1 20 v ||| mk (fun z => decide (z = u)))))) rfl ?_
  refine xQ.call rfl (c_bit hv) ?_
  show xQ MX1_placeEdge (38, [some (.ref 18), some (.int (nI v)), some (.int (nI u))], [.int (mk (fun z => decide (z = v))), .int ((xuI w 20 v (w.1 20 v ||| mk (fun z => decide (z = u)))).1 20 u), .int (nI u), .ref 20], (xuI w 20 v (w.1 20 v ||| mk (fun z => decide (z = u))))) _
  refine xQ.go 1 (F1 := (39, [some (.ref 18), some (.int (nI v)), some (.int (nI u))], [.int (((xuI w 20 v (w.1 20 v ||| mk (fun z => decide (z = u)))).1 20 u) ||| (mk (fun z => decide (z = v)))), .int (nI u), .ref 20], (xuI w 20 v (w.1 20 v ||| mk (fun z => decide (z = u)))))) rfl ?_
  refine xQ.call rfl (c_put rfl hu (by omega)) ?_
  show xQ MX1_placeEdge (42, [some (.ref 18), some (.int (nI v)), some (.int (nI u))], [], (xuI (xuI w 20 v (w.1 20 v ||| mk (fun z => decide (z = u)))) 20 u ((xuI w 20 v (w.1 20 v ||| mk (fun z => decide (z = u)))).1 20 u ||| mk (fun z => decide (z = v))))) _
  refine xQ.go 4 (F1 := (48, [some (.ref 18), some (.int (nI v)), some (.int (nI u))], [.int (nI v), .int ((xuI (xuI w 20 v (w.1 20 v ||| mk (fun z => decide (z = u)))) 20 u ((xuI w 20 v (w.1 20 v ||| mk (fun z => decide (z = u)))).1 20 u ||| mk (fun z => decide (z = v)))).1 18 3), .ref 18], (xuI (xuI w 20 v (w.1 20 v ||| mk (fun z => decide (z = u)))) 20 u ((xuI w 20 v (w.1 20 v ||| mk (fun z => decide (z = u)))).1 20 u ||| mk (fun z => decide (z = v)))))) rfl ?_
  refine xQ.call rfl (c_bit hv) ?_
  show xQ MX1_placeEdge (51, [some (.ref 18), some (.int (nI v)), some (.int (nI u))], [.int (mk (fun z => decide (z = v))), .int ((xuI (xuI w 20 v (w.1 20 v ||| mk (fun z => decide (z = u)))) 20 u ((xuI w 20 v (w.1 20 v ||| mk (fun z => decide (z = u)))).1 20 u ||| mk (fun z => decide (z = v)))).1 18 3), .ref 18], (xuI (xuI w 20 v (w.1 20 v ||| mk (fun z => decide (z = u)))) 20 u ((xuI w 20 v (w.1 20 v ||| mk (fun z => decide (z = u)))).1 20 u ||| mk (fun z => decide (z = v))))) _
  refine xQ.go 1 (F1 := (52, [some (.ref 18), some (.int (nI v)), some (.int (nI u))], [.int (nI u), .int (mk (fun z => decide (z = v))), .int ((xuI (xuI w 20 v (w.1 20 v ||| mk (fun z => decide (z = u)))) 20 u ((xuI w 20 v (w.1 20 v ||| mk (fun z => decide (z = u)))).1 20 u ||| mk (fun z => decide (z = v)))).1 18 3), .ref 18], (xuI (xuI w 20 v (w.1 20 v ||| mk (fun z => decide (z = u)))) 20 u ((xuI w 20 v (w.1 20 v ||| mk (fun z => decide (z = u)))).1 20 u ||| mk (fun z => decide (z = v)))))) rfl ?_
  refine xQ.call rfl (c_bit hu) ?_
  show xQ MX1_placeEdge (55, [some (.ref 18), some (.int (nI v)), some (.int (nI u))], [.int (mk (fun z => decide (z = u))), .int (mk (fun z => decide (z = v))), .int ((xuI (xuI w 20 v (w.1 20 v ||| mk (fun z => decide (z = u)))) 20 u ((xuI w 20 v (w.1 20 v ||| mk (fun z => decide (z = u)))).1 20 u ||| mk (fun z => decide (z = v)))).1 18 3), .ref 18], (xuI (xuI w 20 v (w.1 20 v ||| mk (fun z => decide (z = u)))) 20 u ((xuI w 20 v (w.1 20 v ||| mk (fun z => decide (z = u)))).1 20 u ||| mk (fun z => decide (z = v))))) _
  refine xQ.go 9 (F1 := (70, [some (.ref 18), some (.int (nI v)), some (.int (nI u))], [], (xuI (xuI (xuI (xuI w 20 v (w.1 20 v ||| mk (fun z => decide (z = u)))) 20 u ((xuI w 20 v (w.1 20 v ||| mk (fun z => decide (z = u)))).1 20 u ||| mk (fun z => decide (z = v)))) 18 3 (((xuI (xuI w 20 v (w.1 20 v ||| mk (fun z => decide (z = u)))) 20 u ((xuI w 20 v (w.1 20 v ||| mk (fun z => decide (z = u)))).1 20 u ||| mk (fun z => decide (z = v)))).1 18 3) ||| ((mk (fun z => decide (z = v))) ||| (mk (fun z => decide (z = u)))))) 18 5 (((xuI (xuI w 20 v (w.1 20 v ||| mk (fun z => decide (z = u)))) 20 u ((xuI w 20 v (w.1 20 v ||| mk (fun z => decide (z = u)))).1 20 u ||| mk (fun z => decide (z = v)))).1 18 5) + 1)))) rfl ?_
  refine xQ.vret 1 rfl rfl ?_
  refine ⟨rfl, ⟨fun z hz => ?_, ?_, ?_⟩, ?_⟩
  · simp only [uI1, hP.1 v hv, hP.1 u hu, hP.1 z hz]
    simp
    by_cases h1 : z = u
    · subst h1
      by_cases h2 : z = v
      · subst h2
        simp only [if_true, mk_or]
        exact mk_ext fun x _ => by simp [adP, ab]
      · simp only [if_true, if_neg h2, mk_or]
        exact mk_ext fun x _ => by simp [adP, ab, h2]
    · by_cases h2 : z = v
      · subst h2
        simp only [if_true, if_neg h1, mk_or]
        exact mk_ext fun x _ => by simp [adP, ab, h1]
      · simp only [if_neg h1, if_neg h2]
        exact mk_ext fun x _ => by simp [adP, ab, h1, h2]
  · simp only [uI1]
    simp [hP.2.1, mk_or]
    exact mk_ext fun x _ => by simp [adV]
  · simp only [uI1]
    simp [hP.2.2, ← nI_succ]
  · exact xkq_I (xkq_I (xkq_I (xkq_I xkq_rfl rfl) rfl) rfl) rfl

theorem c_placeEdge_t {w : xW} {P : Nat → Nat → Bool} {PV : Nat → Bool} {E v u : Nat} (hP : eP 32 34 w P PV E) (hv : v < 10) (hu : u < 10) : xD MX1_placeEdge [.ref 32, .int (nI v), .int (nI u)] w (fun r w1 => r = none ∧ eP 32 34 w1 (adP P v u) (adV PV v u) (E + 1) ∧ xkq [(34, none), (32, some 3), (32, some 5)] w w1) := by
  refine xD.of ?_
  show xQ MX1_placeEdge (0, [some (.ref 32), some (.int (nI v)), some (.int (nI u))], [], w) _
  refine xQ.go 6 (F1 := (10, [some (.ref 32), some (.int (nI v)), some (.int (nI u))], [.int (nI v), .ref 34, .int (nI v), .ref 34], w)) rfl ?_
  refine xQ.call rfl (c_at rfl hv (by omega)) ?_
  show xQ MX1_placeEdge (13, [some (.ref 32), some (.int (nI v)), some (.int (nI u))], [.int (w.1 34 v), .int (nI v), .ref 34], w) _
  refine xQ.go 1 (F1 := (14, [some (.ref 32), some (.int (nI v)), some (.int (nI u))], [.int (nI u), .int (w.1 34 v), .int (nI v), .ref 34], w)) rfl ?_
  refine xQ.call rfl (c_bit hu) ?_
  show xQ MX1_placeEdge (17, [some (.ref 32), some (.int (nI v)), some (.int (nI u))], [.int (mk (fun z => decide (z = u))), .int (w.1 34 v), .int (nI v), .ref 34], w) _
  refine xQ.go 1 (F1 := (18, [some (.ref 32), some (.int (nI v)), some (.int (nI u))], [.int ((w.1 34 v) ||| (mk (fun z => decide (z = u)))), .int (nI v), .ref 34], w)) rfl ?_
  refine xQ.call rfl (c_put rfl hv (by omega)) ?_
  show xQ MX1_placeEdge (21, [some (.ref 32), some (.int (nI v)), some (.int (nI u))], [], (xuI w 34 v (w.1 34 v ||| mk (fun z => decide (z = u))))) _
  refine xQ.go 6 (F1 := (31, [some (.ref 32), some (.int (nI v)), some (.int (nI u))], [.int (nI u), .ref 34, .int (nI u), .ref 34], (xuI w 34 v (w.1 34 v ||| mk (fun z => decide (z = u)))))) rfl ?_
  refine xQ.call rfl (c_at rfl hu (by omega)) ?_
  show xQ MX1_placeEdge (34, [some (.ref 32), some (.int (nI v)), some (.int (nI u))], [.int ((xuI w 34 v (w.1 34 v ||| mk (fun z => decide (z = u)))).1 34 u), .int (nI u), .ref 34], (xuI w 34 v (w.1 34 v ||| mk (fun z => decide (z = u))))) _
  refine xQ.go 1 (F1 := (35, [some (.ref 32), some (.int (nI v)), some (.int (nI u))], [.int (nI v), .int ((xuI w 34 v (w.1 34 v ||| mk (fun z => decide (z = u)))).1 34 u), .int (nI u), .ref 34], (xuI w 34 v (w.1 34 v ||| mk (fun z => decide (z = u)))))) rfl ?_
  refine xQ.call rfl (c_bit hv) ?_
  show xQ MX1_placeEdge (38, [some (.ref 32), some (.int (nI v)), some (.int (nI u))], [.int (mk (fun z => decide (z = v))), .int ((xuI w 34 v (w.1 34 v ||| mk (fun z => decide (z = u)))).1 34 u), .int (nI u), .ref 34], (xuI w 34 v (w.1 34 v ||| mk (fun z => decide (z = u))))) _
  refine xQ.go 1 (F1 := (39, [some (.ref 32), some (.int (nI v)), some (.int (nI u))], [.int (((xuI w 34 v (w.1 34 v ||| mk (fun z => decide (z = u)))).1 34 u) ||| (mk (fun z => decide (z = v)))), .int (nI u), .ref 34], (xuI w 34 v (w.1 34 v ||| mk (fun z => decide (z = u)))))) rfl ?_
  refine xQ.call rfl (c_put rfl hu (by omega)) ?_
  show xQ MX1_placeEdge (42, [some (.ref 32), some (.int (nI v)), some (.int (nI u))], [], (xuI (xuI w 34 v (w.1 34 v ||| mk (fun z => decide (z = u)))) 34 u ((xuI w 34 v (w.1 34 v ||| mk (fun z => decide (z = u)))).1 34 u ||| mk (fun z => decide (z = v))))) _
  refine xQ.go 4 (F1 := (48, [some (.ref 32), some (.int (nI v)), some (.int (nI u))], [.int (nI v), .int ((xuI (xuI w 34 v (w.1 34 v ||| mk (fun z => decide (z = u)))) 34 u ((xuI w 34 v (w.1 34 v ||| mk (fun z => decide (z = u)))).1 34 u ||| mk (fun z => decide (z = v)))).1 32 3), .ref 32], (xuI (xuI w 34 v (w.1 34 v ||| mk (fun z => decide (z = u)))) 34 u ((xuI w 34 v (w.1 34 v ||| mk (fun z => decide (z = u)))).1 34 u ||| mk (fun z => decide (z = v)))))) rfl ?_
  refine xQ.call rfl (c_bit hv) ?_
  show xQ MX1_placeEdge (51, [some (.ref 32), some (.int (nI v)), some (.int (nI u))], [.int (mk (fun z => decide (z = v))), .int ((xuI (xuI w 34 v (w.1 34 v ||| mk (fun z => decide (z = u)))) 34 u ((xuI w 34 v (w.1 34 v ||| mk (fun z => decide (z = u)))).1 34 u ||| mk (fun z => decide (z = v)))).1 32 3), .ref 32], (xuI (xuI w 34 v (w.1 34 v ||| mk (fun z => decide (z = u)))) 34 u ((xuI w 34 v (w.1 34 v ||| mk (fun z => decide (z = u)))).1 34 u ||| mk (fun z => decide (z = v))))) _
  refine xQ.go 1 (F1 := (52, [some (.ref 32), some (.int (nI v)), some (.int (nI u))], [.int (nI u), .int (mk (fun z => decide (z = v))), .int ((xuI (xuI w 34 v (w.1 34 v ||| mk (fun z => decide (z = u)))) 34 u ((xuI w 34 v (w.1 34 v ||| mk (fun z => decide (z = u)))).1 34 u ||| mk (fun z => decide (z = v)))).1 32 3), .ref 32], (xuI (xuI w 34 v (w.1 34 v ||| mk (fun z => decide (z = u)))) 34 u ((xuI w 34 v (w.1 34 v ||| mk (fun z => decide (z = u)))).1 34 u ||| mk (fun z => decide (z = v)))))) rfl ?_
  refine xQ.call rfl (c_bit hu) ?_
  show xQ MX1_placeEdge (55, [some (.ref 32), some (.int (nI v)), some (.int (nI u))], [.int (mk (fun z => decide (z = u))), .int (mk (fun z => decide (z = v))), .int ((xuI (xuI w 34 v (w.1 34 v ||| mk (fun z => decide (z = u)))) 34 u ((xuI w 34 v (w.1 34 v ||| mk (fun z => decide (z = u)))).1 34 u ||| mk (fun z => decide (z = v)))).1 32 3), .ref 32], (xuI (xuI w 34 v (w.1 34 v ||| mk (fun z => decide (z = u)))) 34 u ((xuI w 34 v (w.1 34 v ||| mk (fun z => decide (z = u)))).1 34 u ||| mk (fun z => decide (z = v))))) _
  refine xQ.go 9 (F1 := (70, [some (.ref 32), some (.int (nI v)), some (.int (nI u))], [], (xuI (xuI (xuI (xuI w 34 v (w.1 34 v ||| mk (fun z => decide (z = u)))) 34 u ((xuI w 34 v (w.1 34 v ||| mk (fun z => decide (z = u)))).1 34 u ||| mk (fun z => decide (z = v)))) 32 3 (((xuI (xuI w 34 v (w.1 34 v ||| mk (fun z => decide (z = u)))) 34 u ((xuI w 34 v (w.1 34 v ||| mk (fun z => decide (z = u)))).1 34 u ||| mk (fun z => decide (z = v)))).1 32 3) ||| ((mk (fun z => decide (z = v))) ||| (mk (fun z => decide (z = u)))))) 32 5 (((xuI (xuI w 34 v (w.1 34 v ||| mk (fun z => decide (z = u)))) 34 u ((xuI w 34 v (w.1 34 v ||| mk (fun z => decide (z = u)))).1 34 u ||| mk (fun z => decide (z = v)))).1 32 5) + 1)))) rfl ?_
  refine xQ.vret 1 rfl rfl ?_
  refine ⟨rfl, ⟨fun z hz => ?_, ?_, ?_⟩, ?_⟩
  · simp only [uI1, hP.1 v hv, hP.1 u hu, hP.1 z hz]
    simp
    by_cases h1 : z = u
    · subst h1
      by_cases h2 : z = v
      · subst h2
        simp only [if_true, mk_or]
        exact mk_ext fun x _ => by simp [adP, ab]
      · simp only [if_true, if_neg h2, mk_or]
        exact mk_ext fun x _ => by simp [adP, ab, h2]
    · by_cases h2 : z = v
      · subst h2
        simp only [if_true, if_neg h1, mk_or]
        exact mk_ext fun x _ => by simp [adP, ab, h1]
      · simp only [if_neg h1, if_neg h2]
        exact mk_ext fun x _ => by simp [adP, ab, h1, h2]
  · simp only [uI1]
    simp [hP.2.1, mk_or]
    exact mk_ext fun x _ => by simp [adV]
  · simp only [uI1]
    simp [hP.2.2, ← nI_succ]
  · exact xkq_I (xkq_I (xkq_I (xkq_I xkq_rfl rfl) rfl) rfl) rfl
end
section
theorem i_dn (a b : Int32) : a - b + -1 = a - (b + 1) := by
  apply Int32.toBitVec_inj.mp
  simp only [Int32.toBitVec_sub, Int32.toBitVec_add, Int32.toBitVec_neg, Int32.toBitVec_one]
  bv_omega
theorem i_dn0 (d : Nat) : nI d - nI (d + 1) = -1 := by
  rw [nI_succ]
  apply Int32.toBitVec_inj.mp
  simp only [Int32.toBitVec_sub, Int32.toBitVec_add, Int32.toBitVec_neg, Int32.toBitVec_one]
  bv_omega
theorem fdep_stay {H : Nat → Nat → Bool} {A T : Nat → Bool} {u n : Nat} (h : fdep H A T u n ≠ 0) : ∀ m, n ≤ m → fdep H A T u m = fdep H A T u n
  | 0, hm => by
    have : n = 0 := by omega
    rw [this]
  | m + 1, hm => by
    by_cases e : n = m + 1
    · rw [e]
    · have ih := fdep_stay h m (by omega)
      show (if fdep H A T u m ≠ 0 then fdep H A T u m else _) = _
      rw [ih, if_pos h]
theorem dsc_len {H : Nat → Nat → Bool} {A T : Nat → Bool} : ∀ k v, (dsc H A T k v).length = k + 1
  | 0, _ => rfl
  | k + 1, v => by
    show (dsc H A T k _).length + 1 = _
    rw [dsc_len]
theorem dsc_at {H : Nat → Nat → Bool} {A T : Nat → Bool} (hs : ∀ u v, H u v = H v u) : ∀ (k v i : Nat), (∃ z, z < 10 ∧ H v z = true ∧ lay H A T k z = true) → i ≤ k → (v :: dsc H A T k v).getD (i + 1) 0 = low (fun z => H ((v :: dsc H A T k v).getD i 0) z && lay H A T (k - i) z) ∧ low (fun z => H ((v :: dsc H A T k v).getD i 0) z && lay H A T (k - i) z) < 10
  | 0, v, i, ⟨z, h1, h2, h3⟩, hi => by
    have : i = 0 := by omega
    subst this
    exact ⟨rfl, (low_some (S := fun z => H v z && lay H A T 0 z) h1 (by show (_ && _) = true; rw [h2, h3]; rfl)).1⟩
  | k + 1, v, 0, ⟨z, h1, h2, h3⟩, hi => ⟨rfl, (low_some (S := fun z => H v z && lay H A T (k + 1) z) h1 (by show (_ && _) = true; rw [h2, h3]; rfl)).1⟩
  | k + 1, v, i + 1, ⟨z, h1, h2, h3⟩, hi => by
    obtain ⟨q1, q2⟩ := low_some (S := fun z => H v z && lay H A T (k + 1) z) h1 (by show (_ && _) = true; rw [h2, h3]; rfl)
    rw [Bool.and_eq_true] at q2
    have ed : dsc H A T (k + 1) v = low (fun z => H v z && lay H A T (k + 1) z) :: dsc H A T k (low (fun z => H v z && lay H A T (k + 1) z)) := rfl
    generalize hz : low (fun z => H v z && lay H A T (k + 1) z) = z2 at q1 q2 ed
    obtain ⟨u, u1, u2, u3⟩ := lay_back q2.2
    have ih := dsc_at hs k z2 i ⟨u, u1, by rw [hs]; exact u3, u2⟩ (by omega)
    rw [ed]
    rw [show k + 1 - (i + 1) = k - i by omega]
    exact ih
theorem c_findPath_p {w : xW} {H : Nat → Nat → Bool} {A T : Nat → Bool} {u : Nat} (hs : ∀ u v, H u v = H v u) (hg : ∀ v, v < 10 → w.1 19 v = mk (H v)) (hu : u < 10) (h0 : fdep H A T u 9 ≠ 0) (h8 : fdep H A T u 9 ≤ 8) : xD MX1_findPath [.ref 18, .int (nI u), .int (mk T), .int (mk A)] w (fun r w1 => r = some (.int 1) ∧ eL 18 23 w1 (u :: dsc H A T (fdep H A T u 9) u) ∧ xkq [(18, some 14), (23, none), (24, none)] w w1) := by
  have after : ∀ (w2 : xW) (x y z : Int32), xkq [(24, none)] w w2 → (∀ j, j ≤ fdep H A T u 9 → w2.1 24 j = mk (lay H A T j)) → xQ MX1_findPath (95, [some (.ref 18), some (.int (nI u)), some (.int (mk T)), some (.int (mk A)), some (.int x), some (.int y), some (.int (nI (fdep H A T u 9))), some (.int z), none], [], w2) (fun r w1 => r = some (.int 1) ∧ eL 18 23 w1 (u :: dsc H A T (fdep H A T u 9) u) ∧ xkq [(18, some 14), (23, none), (24, none)] w w1) := by
    intro w2 x y z hk2 hl2
    have hm := (fdep_spec (H := H) (A := A) (T := T) (u := u) 9).1 h0
    obtain ⟨z0, hz0, hz1, hz2⟩ := meet_iff.mp hm.2.2.1
    have hd := fun i hi => dsc_at hs (fdep H A T u 9) u i ⟨z0, hz0, hz2, hz1⟩ hi
    have hlen := dsc_len (H := H) (A := A) (T := T) (fdep H A T u 9) u
    generalize fdep H A T u 9 = d at *
    obtain ⟨l, hl⟩ : ∃ l, l = u :: dsc H A T d u := ⟨_, rfl⟩
    rw [← hl] at hd ⊢
    have hll : l.length = d + 2 := by rw [hl, List.length_cons, hlen]
    have hl0 : l.getD 0 0 = u := by rw [hl]; rfl
    refine xQ.go 2 (F1 := (bif !decide ((nI d) = 0) then 102 else 100, [some (.ref 18), some (.int (nI u)), some (.int (mk T)), some (.int (mk A)), some (.int x), some (.int y), some (.int (nI d)), some (.int z), none], [], w2)) rfl ?_
    refine xQ.brT (by rw [decide_eq_false (nI_ne0 (by omega) (by omega))]; rfl) ?_
    refine xQ.go 4 (F1 := (108, [some (.ref 18), some (.int (nI u)), some (.int (mk T)), some (.int (mk A)), some (.int x), some (.int y), some (.int (nI d)), some (.int z), none], [.int (nI u), .int 0, .ref 23], w2)) rfl ?_
    refine xQ.call rfl (c_put rfl (k := 0) (by omega) (by omega)) ?_
    show xQ MX1_findPath (111, [some (.ref 18), some (.int (nI u)), some (.int (mk T)), some (.int (mk A)), some (.int x), some (.int y), some (.int (nI d)), some (.int z), none], [], (xuI w2 23 0 (nI u))) _
    refine xQ.go 7 (F1 := (123, [some (.ref 18), some (.int (nI u)), some (.int (mk T)), some (.int (mk A)), some (.int x), some (.int y), some (.int (nI d)), some (.int (nI u)), some (.int (nI d))], [], (xuI (xuI w2 23 0 (nI u)) 18 14 1))) rfl ?_
    refine xQ.loop (S := xW) (fun k s => (123, [some (.ref 18), some (.int (nI u)), some (.int (mk T)), some (.int (mk A)), some (.int x), some (.int y), some (.int (nI d)), some (.int (nI (l.getD k 0))), some (.int (nI d - nI k))], [], s)) (fun k s => xkq [(18, some 14), (23, none)] w2 s ∧ s.1 18 14 = nI (k + 1) ∧ l.getD k 0 < 10 ∧ ∀ j, j ≤ k → s.1 23 j = nI (l.getD j 0)) (d + 1) (xuI (xuI w2 23 0 (nI u)) 18 14 1) (by rw [hl0, show nI 0 = 0 from rfl, Int32.sub_zero]) (⟨xkq_I (xkq_I xkq_rfl rfl) rfl, by simp [uI1]; rfl, by rw [hl0]; exact hu, fun j hj => by rw [show j = 0 by omega, hl0]; simp [uI1]⟩) ?_ ?_
    · intro k s hk hI K
      obtain ⟨i1, i2, i3, i4⟩ := hI
      obtain ⟨d1, d2⟩ := hd k (by omega)
      rw [jI_sub (by omega)] 
      refine xQ.go 2 (F1 := (bif decide ((nI (d - k)) < 0) then 181 else 128, [some (.ref 18), some (.int (nI u)), some (.int (mk T)), some (.int (mk A)), some (.int x), some (.int y), some (.int (nI d)), some (.int (nI (l.getD k 0))), some (.int (nI (d - k)))], [], s)) rfl ?_
      refine xQ.brF (decide_eq_false (nI_pos (by omega))) ?_
      refine xQ.go 3 (F1 := (134, [some (.ref 18), some (.int (nI u)), some (.int (mk T)), some (.int (mk A)), some (.int x), some (.int y), some (.int (nI d)), some (.int (nI (l.getD k 0))), some (.int (nI (d - k)))], [.int (nI (l.getD k 0)), .ref 19], s)) rfl ?_
      refine xQ.call rfl (c_at rfl i3 (by omega)) ?_
      show xQ MX1_findPath (137, [some (.ref 18), some (.int (nI u)), some (.int (mk T)), some (.int (mk A)), some (.int x), some (.int y), some (.int (nI d)), some (.int (nI (l.getD k 0))), some (.int (nI (d - k)))], [.int (s.1 19 (l.getD k 0))], s) _
      rw [xkq_at i1 19 (l.getD k 0), xkq_at hk2 19 (l.getD k 0), hg _ i3]
      refine xQ.go 3 (F1 := (143, [some (.ref 18), some (.int (nI u)), some (.int (mk T)), some (.int (mk A)), some (.int x), some (.int y), some (.int (nI d)), some (.int (nI (l.getD k 0))), some (.int (nI (d - k)))], [.int (nI (d - k)), .ref 24, .int (mk (H (l.getD k 0)))], s)) rfl ?_
      refine xQ.call rfl (c_at rfl (by omega) (by omega)) ?_
      show xQ MX1_findPath (146, [some (.ref 18), some (.int (nI u)), some (.int (mk T)), some (.int (mk A)), some (.int x), some (.int y), some (.int (nI d)), some (.int (nI (l.getD k 0))), some (.int (nI (d - k)))], [.int (s.1 24 (d - k)), .int (mk (H (l.getD k 0)))], s) _
      rw [xkq_at i1 24 (d - k), hl2 _ (by omega)]
      refine xQ.go 1 (F1 := (147, [some (.ref 18), some (.int (nI u)), some (.int (mk T)), some (.int (mk A)), some (.int x), some (.int y), some (.int (nI d)), some (.int (nI (l.getD k 0))), some (.int (nI (d - k)))], [.int ((mk (H (l.getD k 0))) &&& (mk (lay H A T (d - k))))], s)) rfl ?_
      rw [mk_and]
      refine xQ.call rfl (c_least d2) ?_
      show xQ MX1_findPath (150, [some (.ref 18), some (.int (nI u)), some (.int (mk T)), some (.int (mk A)), some (.int x), some (.int y), some (.int (nI d)), some (.int (nI (l.getD k 0))), some (.int (nI (d - k)))], [.int (nI (low (fun z => H (l.getD k 0) z && lay H A T (d - k) z)))], s) _
      rw [← d1]
      rw [← d1] at d2
      refine xQ.go 5 (F1 := (160, [some (.ref 18), some (.int (nI u)), some (.int (mk T)), some (.int (mk A)), some (.int x), some (.int y), some (.int (nI d)), some (.int (nI (l.getD (k + 1) 0))), some (.int (nI (d - k)))], [.int (s.1 18 14), .ref 23], s)) rfl ?_
      rw [i2]
      refine xQ.go 1 (F1 := (162, [some (.ref 18), some (.int (nI u)), some (.int (mk T)), some (.int (mk A)), some (.int x), some (.int y), some (.int (nI d)), some (.int (nI (l.getD (k + 1) 0))), some (.int (nI (d - k)))], [.int (nI (l.getD (k + 1) 0)), .int (nI (k + 1)), .ref 23], s)) rfl ?_
      refine xQ.call rfl (c_put rfl (by omega) (by omega)) ?_
      show xQ MX1_findPath (165, [some (.ref 18), some (.int (nI u)), some (.int (mk T)), some (.int (mk A)), some (.int x), some (.int y), some (.int (nI d)), some (.int (nI (l.getD (k + 1) 0))), some (.int (nI (d - k)))], [], (xuI s 23 (k + 1) (nI (l.getD (k + 1) 0)))) _
      refine xQ.go 8 (F1 := (123, [some (.ref 18), some (.int (nI u)), some (.int (mk T)), some (.int (mk A)), some (.int x), some (.int y), some (.int (nI d)), some (.int (nI (l.getD (k + 1) 0))), some (.int ((nI (d - k)) + (-1)))], [], (xuI (xuI s 23 (k + 1) (nI (l.getD (k + 1) 0))) 18 14 (((xuI s 23 (k + 1) (nI (l.getD (k + 1) 0))).1 18 14) + 1)))) rfl ?_
      rw [show nI (d - k) + -1 = nI d - nI (k + 1) by rw [← jI_sub (show k ≤ d by omega), nI_succ, i_dn]]
      refine K _ ⟨xkq_I (xkq_I i1 rfl) rfl, ?_, d2, fun j hj => ?_⟩
      · simp only [uI1]
        simp [i2, nI_succ]
      · simp only [uI1]
        simp
        by_cases e : j = k + 1
        · rw [if_pos e, e]
        · rw [if_neg e]
          exact i4 j (by omega)
    · intro s hI
      obtain ⟨i1, i2, i3, i4⟩ := hI
      refine xQ.go 2 (F1 := (bif decide ((nI d - nI (d + 1)) < 0) then 181 else 128, [some (.ref 18), some (.int (nI u)), some (.int (mk T)), some (.int (mk A)), some (.int x), some (.int y), some (.int (nI d)), some (.int (nI (l.getD (d + 1) 0))), some (.int (nI d - nI (d + 1)))], [], s)) rfl ?_
      refine xQ.brT (decide_eq_true (by rw [i_dn0]; decide)) ?_
      refine xQ.go 1 (F1 := (182, [some (.ref 18), some (.int (nI u)), some (.int (mk T)), some (.int (mk A)), some (.int x), some (.int y), some (.int (nI d)), some (.int (nI (l.getD (d + 1) 0))), some (.int (nI d - nI (d + 1)))], [.int 1], s)) rfl ?_
      refine xQ.iret .boolean 1 rfl rfl (rfl) ?_
      refine ⟨rfl, ⟨by rw [hll]; exact i2, fun i x hx => ?_⟩, xkq_trans (xkq_mono rfl hk2) (xkq_mono rfl i1)⟩
      have hi : i < l.length := by
        obtain ⟨h, _⟩ := List.getElem?_eq_some_iff.mp hx
        exact h
      rw [i4 i (by omega), List.getD_eq_getElem?_getD, hx]
      rfl
  refine xD.of ?_
  show xQ MX1_findPath (0, [some (.ref 18), some (.int (nI u)), some (.int (mk T)), some (.int (mk A)), none, none, none, none, none], [], w) _
  refine xQ.go 10 (F1 := (15, [some (.ref 18), some (.int (nI u)), some (.int (mk T)), some (.int (mk A)), some (.int (mk A)), some (.int (mk T)), some (.int 0), none, none], [.int (mk T), .int 0, .ref 24], w)) rfl ?_
  refine xQ.call rfl (c_put rfl (k := 0) (by omega) (by omega)) ?_
  show xQ MX1_findPath (18, [some (.ref 18), some (.int (nI u)), some (.int (mk T)), some (.int (mk A)), some (.int (mk A)), some (.int (mk T)), some (.int 0), none, none], [], (xuI w 24 0 (mk T))) _
  refine xQ.go 2 (F1 := (21, [some (.ref 18), some (.int (nI u)), some (.int (mk T)), some (.int (mk A)), some (.int (mk A)), some (.int (mk T)), some (.int 0), some (.int 1), none], [], (xuI w 24 0 (mk T)))) rfl ?_
  refine xQ.loop (S := xW) (fun k s => (21, [some (.ref 18), some (.int (nI u)), some (.int (mk T)), some (.int (mk A)), some (.int (mk (lft H A T k))), some (.int (mk (lay H A T k))), some (.int (nI (fdep H A T u k))), some (.int (nI (k + 1))), none], [], s)) (fun k s => xkq [(24, none)] w s ∧ ∀ j, j ≤ k → s.1 24 j = mk (lay H A T j)) 9 (xuI w 24 0 (mk T)) (rfl) (⟨xkq_I xkq_rfl rfl, fun j hj => by rw [show j = 0 by omega]; simp [uI1]; rfl⟩) ?_ ?_
  · intro k s hk hI K
    obtain ⟨i1, i2⟩ := hI
    have hf := fdep_spec (H := H) (A := A) (T := T) (u := u) k
    refine xQ.go 3 (F1 := (bif decide (10 ≤ (nI (k + 1))) then 95 else 28, [some (.ref 18), some (.int (nI u)), some (.int (mk T)), some (.int (mk A)), some (.int (mk (lft H A T k))), some (.int (mk (lay H A T k))), some (.int (nI (fdep H A T u k))), some (.int (nI (k + 1))), none], [], s)) rfl ?_
    refine xQ.brF (decide_eq_false (nI_ge (b := 10) (by omega) (by omega))) ?_
    by_cases e0 : fdep H A T u k = 0
    · refine xQ.go 2 (F1 := (bif !decide ((nI (fdep H A T u k)) = 0) then 95 else 33, [some (.ref 18), some (.int (nI u)), some (.int (mk T)), some (.int (mk A)), some (.int (mk (lft H A T k))), some (.int (mk (lay H A T k))), some (.int (nI (fdep H A T u k))), some (.int (nI (k + 1))), none], [], s)) rfl ?_
      refine xQ.brF (by rw [e0]; rfl) ?_
      refine xQ.go 3 (F1 := (39, [some (.ref 18), some (.int (nI u)), some (.int (mk T)), some (.int (mk A)), some (.int (mk (lft H A T k))), some (.int (mk (lay H A T k))), some (.int (nI (fdep H A T u k))), some (.int (nI (k + 1))), none], [.int (mk (lay H A T k)), .ref 19], s)) rfl ?_
      refine xQ.call rfl (c_around rfl (fun v hv => by rw [xkq_at i1 19 v]; exact hg v hv)) ?_
      show xQ MX1_findPath (42, [some (.ref 18), some (.int (nI u)), some (.int (mk T)), some (.int (mk A)), some (.int (mk (lft H A T k))), some (.int (mk (lay H A T k))), some (.int (nI (fdep H A T u k))), some (.int (nI (k + 1))), none], [.int (mk (nb H (lay H A T k)))], s) _
      refine xQ.go 4 (F1 := (49, [some (.ref 18), some (.int (nI u)), some (.int (mk T)), some (.int (mk A)), some (.int (mk (lft H A T k))), some (.int ((mk (nb H (lay H A T k))) &&& (mk (lft H A T k)))), some (.int (nI (fdep H A T u k))), some (.int (nI (k + 1))), none], [.int (mk (lft H A T k))], s)) rfl ?_
      rw [mk_and, show (fun v => nb H (lay H A T k) v && lft H A T k v) = lay H A T (k + 1) from rfl]
      refine xQ.go 5 (F1 := (56, [some (.ref 18), some (.int (nI u)), some (.int (mk T)), some (.int (mk A)), some (.int ((mk (lft H A T k)) &&& ((mk (lay H A T (k + 1))) ^^^ (-1)))), some (.int (mk (lay H A T (k + 1)))), some (.int (nI (fdep H A T u k))), some (.int (nI (k + 1))), none], [], s)) rfl ?_
      rw [mk_andn, show (fun v => lft H A T k v && !lay H A T (k + 1) v) = lft H A T (k + 1) from rfl]
      refine xQ.go 4 (F1 := (64, [some (.ref 18), some (.int (nI u)), some (.int (mk T)), some (.int (mk A)), some (.int (mk (lft H A T (k + 1)))), some (.int (mk (lay H A T (k + 1)))), some (.int (nI (fdep H A T u k))), some (.int (nI (k + 1))), none], [.int (mk (lay H A T (k + 1))), .int (nI (k + 1)), .ref 24], s)) rfl ?_
      refine xQ.call rfl (c_put rfl (by omega) (by omega)) ?_
      show xQ MX1_findPath (67, [some (.ref 18), some (.int (nI u)), some (.int (mk T)), some (.int (mk A)), some (.int (mk (lft H A T (k + 1)))), some (.int (mk (lay H A T (k + 1)))), some (.int (nI (fdep H A T u k))), some (.int (nI (k + 1))), none], [], (xuI s 24 (k + 1) (mk (lay H A T (k + 1))))) _
      refine xQ.go 4 (F1 := (74, [some (.ref 18), some (.int (nI u)), some (.int (mk T)), some (.int (mk A)), some (.int (mk (lft H A T (k + 1)))), some (.int (mk (lay H A T (k + 1)))), some (.int (nI (fdep H A T u k))), some (.int (nI (k + 1))), none], [.int (nI u), .ref 19, .int (mk (lay H A T (k + 1)))], (xuI s 24 (k + 1) (mk (lay H A T (k + 1)))))) rfl ?_
      refine xQ.call rfl (c_at rfl hu (by omega)) ?_
      show xQ MX1_findPath (77, [some (.ref 18), some (.int (nI u)), some (.int (mk T)), some (.int (mk A)), some (.int (mk (lft H A T (k + 1)))), some (.int (mk (lay H A T (k + 1)))), some (.int (nI (fdep H A T u k))), some (.int (nI (k + 1))), none], [.int ((xuI s 24 (k + 1) (mk (lay H A T (k + 1)))).1 19 u), .int (mk (lay H A T (k + 1)))], (xuI s 24 (k + 1) (mk (lay H A T (k + 1))))) _
      rw [show (xuI s 24 (k + 1) (mk (lay H A T (k + 1)))).1 19 u = mk (H u) by rw [uI1, if_neg (by omega), xkq_at i1 19 u, hg u hu]]
      have hI2 : xkq [(24, none)] w (xuI s 24 (k + 1) (mk (lay H A T (k + 1)))) ∧ ∀ j, j ≤ k + 1 → (xuI s 24 (k + 1) (mk (lay H A T (k + 1)))).1 24 j = mk (lay H A T j) := ⟨xkq_I i1 rfl, fun j hj => by
        rw [uI1]
        by_cases e : j = k + 1
        · rw [if_pos ⟨rfl, e⟩, e]
        · rw [if_neg (fun h => e h.2)]
          exact i2 j (by omega)⟩
      refine xQ.go 2 (F1 := (bif !decide (((mk (lay H A T (k + 1))) &&& (mk (H u))) = 0) then 85 else 81, [some (.ref 18), some (.int (nI u)), some (.int (mk T)), some (.int (mk A)), some (.int (mk (lft H A T (k + 1)))), some (.int (mk (lay H A T (k + 1)))), some (.int (nI (fdep H A T u k))), some (.int (nI (k + 1))), none], [], (xuI s 24 (k + 1) (mk (lay H A T (k + 1)))))) rfl ?_
      rw [mk_and]
      have e1 : fdep H A T u (k + 1) = bif meet (lay H A T (k + 1)) (H u) then k + 1 else 0 := by
        show (if fdep H A T u k ≠ 0 then _ else _) = _
        rw [if_neg (fun h => h e0)]
      cases hmt : meet (lay H A T (k + 1)) (H u) with
      | true =>
        refine xQ.brT ?_ ?_
        · obtain ⟨z, z1, z2, z3⟩ := meet_iff.mp hmt
          rw [decide_eq_false]
          · rfl
          · intro e
            have := mk_zero.mp e z z1
            rw [z2, z3] at this
            cases this
        refine xQ.go 4 (F1 := (21, [some (.ref 18), some (.int (nI u)), some (.int (mk T)), some (.int (mk A)), some (.int (mk (lft H A T (k + 1)))), some (.int (mk (lay H A T (k + 1)))), some (.int (nI (k + 1))), some (.int ((nI (k + 1)) + 1)), none], [], (xuI s 24 (k + 1) (mk (lay H A T (k + 1)))))) rfl ?_
        have K := K _ hI2
        rw [e1, hmt] at K
        rw [← nI_succ]
        exact K
      | false =>
        refine xQ.brF ?_ ?_
        · rw [decide_eq_true]
          · rfl
          · refine mk_zero.mpr (fun z hz => ?_)
            cases hq : (lay H A T (k + 1) z && H u z) with
            | false => rfl
            | true =>
              rw [Bool.and_eq_true] at hq
              rw [meet_iff.mpr ⟨z, hz, hq.1, hq.2⟩] at hmt
              cases hmt
        refine xQ.go 5 (F1 := (21, [some (.ref 18), some (.int (nI u)), some (.int (mk T)), some (.int (mk A)), some (.int (mk (lft H A T (k + 1)))), some (.int (mk (lay H A T (k + 1)))), some (.int 0), some (.int ((nI (k + 1)) + 1)), none], [], (xuI s 24 (k + 1) (mk (lay H A T (k + 1)))))) rfl ?_
        have K := K _ hI2
        rw [e1, hmt] at K
        rw [← nI_succ]
        exact K
    · refine xQ.go 2 (F1 := (bif !decide ((nI (fdep H A T u k)) = 0) then 95 else 33, [some (.ref 18), some (.int (nI u)), some (.int (mk T)), some (.int (mk A)), some (.int (mk (lft H A T k))), some (.int (mk (lay H A T k))), some (.int (nI (fdep H A T u k))), some (.int (nI (k + 1))), none], [], s)) rfl ?_
      refine xQ.brT (by rw [decide_eq_false (nI_ne0 (by omega) (by have := hf.1 e0; omega))]; rfl) ?_
      rw [← fdep_stay e0 9 (by omega)]
      exact after s _ _ _ i1 (fun j hj => i2 j (by rw [fdep_stay e0 9 (by omega)] at hj; have := hf.1 e0; omega))
  · intro s hI
    refine xQ.go 3 (F1 := (bif decide (10 ≤ (nI (9 + 1))) then 95 else 28, [some (.ref 18), some (.int (nI u)), some (.int (mk T)), some (.int (mk A)), some (.int (mk (lft H A T 9))), some (.int (mk (lay H A T 9))), some (.int (nI (fdep H A T u 9))), some (.int (nI (9 + 1))), none], [], s)) rfl ?_
    refine xQ.brT (decide_eq_true (nI_le (a := 10) (Nat.le_refl _) (by omega))) ?_
    exact after s _ _ _ hI.1 (fun j hj => hI.2 j (by omega))

theorem c_findPath_t {w : xW} {H : Nat → Nat → Bool} {A T : Nat → Bool} {u : Nat} (hs : ∀ u v, H u v = H v u) (hg : ∀ v, v < 10 → w.1 33 v = mk (H v)) (hu : u < 10) (h0 : fdep H A T u 9 ≠ 0) (h8 : fdep H A T u 9 ≤ 8) : xD MX1_findPath [.ref 32, .int (nI u), .int (mk T), .int (mk A)] w (fun r w1 => r = some (.int 1) ∧ eL 32 37 w1 (u :: dsc H A T (fdep H A T u 9) u) ∧ xkq [(32, some 14), (37, none), (38, none)] w w1) := by
  have after : ∀ (w2 : xW) (x y z : Int32), xkq [(38, none)] w w2 → (∀ j, j ≤ fdep H A T u 9 → w2.1 38 j = mk (lay H A T j)) → xQ MX1_findPath (95, [some (.ref 32), some (.int (nI u)), some (.int (mk T)), some (.int (mk A)), some (.int x), some (.int y), some (.int (nI (fdep H A T u 9))), some (.int z), none], [], w2) (fun r w1 => r = some (.int 1) ∧ eL 32 37 w1 (u :: dsc H A T (fdep H A T u 9) u) ∧ xkq [(32, some 14), (37, none), (38, none)] w w1) := by
    intro w2 x y z hk2 hl2
    have hm := (fdep_spec (H := H) (A := A) (T := T) (u := u) 9).1 h0
    obtain ⟨z0, hz0, hz1, hz2⟩ := meet_iff.mp hm.2.2.1
    have hd := fun i hi => dsc_at hs (fdep H A T u 9) u i ⟨z0, hz0, hz2, hz1⟩ hi
    have hlen := dsc_len (H := H) (A := A) (T := T) (fdep H A T u 9) u
    generalize fdep H A T u 9 = d at *
    obtain ⟨l, hl⟩ : ∃ l, l = u :: dsc H A T d u := ⟨_, rfl⟩
    rw [← hl] at hd ⊢
    have hll : l.length = d + 2 := by rw [hl, List.length_cons, hlen]
    have hl0 : l.getD 0 0 = u := by rw [hl]; rfl
    refine xQ.go 2 (F1 := (bif !decide ((nI d) = 0) then 102 else 100, [some (.ref 32), some (.int (nI u)), some (.int (mk T)), some (.int (mk A)), some (.int x), some (.int y), some (.int (nI d)), some (.int z), none], [], w2)) rfl ?_
    refine xQ.brT (by rw [decide_eq_false (nI_ne0 (by omega) (by omega))]; rfl) ?_
    refine xQ.go 4 (F1 := (108, [some (.ref 32), some (.int (nI u)), some (.int (mk T)), some (.int (mk A)), some (.int x), some (.int y), some (.int (nI d)), some (.int z), none], [.int (nI u), .int 0, .ref 37], w2)) rfl ?_
    refine xQ.call rfl (c_put rfl (k := 0) (by omega) (by omega)) ?_
    show xQ MX1_findPath (111, [some (.ref 32), some (.int (nI u)), some (.int (mk T)), some (.int (mk A)), some (.int x), some (.int y), some (.int (nI d)), some (.int z), none], [], (xuI w2 37 0 (nI u))) _
    refine xQ.go 7 (F1 := (123, [some (.ref 32), some (.int (nI u)), some (.int (mk T)), some (.int (mk A)), some (.int x), some (.int y), some (.int (nI d)), some (.int (nI u)), some (.int (nI d))], [], (xuI (xuI w2 37 0 (nI u)) 32 14 1))) rfl ?_
    refine xQ.loop (S := xW) (fun k s => (123, [some (.ref 32), some (.int (nI u)), some (.int (mk T)), some (.int (mk A)), some (.int x), some (.int y), some (.int (nI d)), some (.int (nI (l.getD k 0))), some (.int (nI d - nI k))], [], s)) (fun k s => xkq [(32, some 14), (37, none)] w2 s ∧ s.1 32 14 = nI (k + 1) ∧ l.getD k 0 < 10 ∧ ∀ j, j ≤ k → s.1 37 j = nI (l.getD j 0)) (d + 1) (xuI (xuI w2 37 0 (nI u)) 32 14 1) (by rw [hl0, show nI 0 = 0 from rfl, Int32.sub_zero]) (⟨xkq_I (xkq_I xkq_rfl rfl) rfl, by simp [uI1]; rfl, by rw [hl0]; exact hu, fun j hj => by rw [show j = 0 by omega, hl0]; simp [uI1]⟩) ?_ ?_
    · intro k s hk hI K
      obtain ⟨i1, i2, i3, i4⟩ := hI
      obtain ⟨d1, d2⟩ := hd k (by omega)
      rw [jI_sub (by omega)] 
      refine xQ.go 2 (F1 := (bif decide ((nI (d - k)) < 0) then 181 else 128, [some (.ref 32), some (.int (nI u)), some (.int (mk T)), some (.int (mk A)), some (.int x), some (.int y), some (.int (nI d)), some (.int (nI (l.getD k 0))), some (.int (nI (d - k)))], [], s)) rfl ?_
      refine xQ.brF (decide_eq_false (nI_pos (by omega))) ?_
      refine xQ.go 3 (F1 := (134, [some (.ref 32), some (.int (nI u)), some (.int (mk T)), some (.int (mk A)), some (.int x), some (.int y), some (.int (nI d)), some (.int (nI (l.getD k 0))), some (.int (nI (d - k)))], [.int (nI (l.getD k 0)), .ref 33], s)) rfl ?_
      refine xQ.call rfl (c_at rfl i3 (by omega)) ?_
      show xQ MX1_findPath (137, [some (.ref 32), some (.int (nI u)), some (.int (mk T)), some (.int (mk A)), some (.int x), some (.int y), some (.int (nI d)), some (.int (nI (l.getD k 0))), some (.int (nI (d - k)))], [.int (s.1 33 (l.getD k 0))], s) _
      rw [xkq_at i1 33 (l.getD k 0), xkq_at hk2 33 (l.getD k 0), hg _ i3]
      refine xQ.go 3 (F1 := (143, [some (.ref 32), some (.int (nI u)), some (.int (mk T)), some (.int (mk A)), some (.int x), some (.int y), some (.int (nI d)), some (.int (nI (l.getD k 0))), some (.int (nI (d - k)))], [.int (nI (d - k)), .ref 38, .int (mk (H (l.getD k 0)))], s)) rfl ?_
      refine xQ.call rfl (c_at rfl (by omega) (by omega)) ?_
      show xQ MX1_findPath (146, [some (.ref 32), some (.int (nI u)), some (.int (mk T)), some (.int (mk A)), some (.int x), some (.int y), some (.int (nI d)), some (.int (nI (l.getD k 0))), some (.int (nI (d - k)))], [.int (s.1 38 (d - k)), .int (mk (H (l.getD k 0)))], s) _
      rw [xkq_at i1 38 (d - k), hl2 _ (by omega)]
      refine xQ.go 1 (F1 := (147, [some (.ref 32), some (.int (nI u)), some (.int (mk T)), some (.int (mk A)), some (.int x), some (.int y), some (.int (nI d)), some (.int (nI (l.getD k 0))), some (.int (nI (d - k)))], [.int ((mk (H (l.getD k 0))) &&& (mk (lay H A T (d - k))))], s)) rfl ?_
      rw [mk_and]
      refine xQ.call rfl (c_least d2) ?_
      show xQ MX1_findPath (150, [some (.ref 32), some (.int (nI u)), some (.int (mk T)), some (.int (mk A)), some (.int x), some (.int y), some (.int (nI d)), some (.int (nI (l.getD k 0))), some (.int (nI (d - k)))], [.int (nI (low (fun z => H (l.getD k 0) z && lay H A T (d - k) z)))], s) _
      rw [← d1]
      rw [← d1] at d2
      refine xQ.go 5 (F1 := (160, [some (.ref 32), some (.int (nI u)), some (.int (mk T)), some (.int (mk A)), some (.int x), some (.int y), some (.int (nI d)), some (.int (nI (l.getD (k + 1) 0))), some (.int (nI (d - k)))], [.int (s.1 32 14), .ref 37], s)) rfl ?_
      rw [i2]
      refine xQ.go 1 (F1 := (162, [some (.ref 32), some (.int (nI u)), some (.int (mk T)), some (.int (mk A)), some (.int x), some (.int y), some (.int (nI d)), some (.int (nI (l.getD (k + 1) 0))), some (.int (nI (d - k)))], [.int (nI (l.getD (k + 1) 0)), .int (nI (k + 1)), .ref 37], s)) rfl ?_
      refine xQ.call rfl (c_put rfl (by omega) (by omega)) ?_
      show xQ MX1_findPath (165, [some (.ref 32), some (.int (nI u)), some (.int (mk T)), some (.int (mk A)), some (.int x), some (.int y), some (.int (nI d)), some (.int (nI (l.getD (k + 1) 0))), some (.int (nI (d - k)))], [], (xuI s 37 (k + 1) (nI (l.getD (k + 1) 0)))) _
      refine xQ.go 8 (F1 := (123, [some (.ref 32), some (.int (nI u)), some (.int (mk T)), some (.int (mk A)), some (.int x), some (.int y), some (.int (nI d)), some (.int (nI (l.getD (k + 1) 0))), some (.int ((nI (d - k)) + (-1)))], [], (xuI (xuI s 37 (k + 1) (nI (l.getD (k + 1) 0))) 32 14 (((xuI s 37 (k + 1) (nI (l.getD (k + 1) 0))).1 32 14) + 1)))) rfl ?_
      rw [show nI (d - k) + -1 = nI d - nI (k + 1) by rw [← jI_sub (show k ≤ d by omega), nI_succ, i_dn]]
      refine K _ ⟨xkq_I (xkq_I i1 rfl) rfl, ?_, d2, fun j hj => ?_⟩
      · simp only [uI1]
        simp [i2, nI_succ]
      · simp only [uI1]
        simp
        by_cases e : j = k + 1
        · rw [if_pos e, e]
        · rw [if_neg e]
          exact i4 j (by omega)
    · intro s hI
      obtain ⟨i1, i2, i3, i4⟩ := hI
      refine xQ.go 2 (F1 := (bif decide ((nI d - nI (d + 1)) < 0) then 181 else 128, [some (.ref 32), some (.int (nI u)), some (.int (mk T)), some (.int (mk A)), some (.int x), some (.int y), some (.int (nI d)), some (.int (nI (l.getD (d + 1) 0))), some (.int (nI d - nI (d + 1)))], [], s)) rfl ?_
      refine xQ.brT (decide_eq_true (by rw [i_dn0]; decide)) ?_
      refine xQ.go 1 (F1 := (182, [some (.ref 32), some (.int (nI u)), some (.int (mk T)), some (.int (mk A)), some (.int x), some (.int y), some (.int (nI d)), some (.int (nI (l.getD (d + 1) 0))), some (.int (nI d - nI (d + 1)))], [.int 1], s)) rfl ?_
      refine xQ.iret .boolean 1 rfl rfl (rfl) ?_
      refine ⟨rfl, ⟨by rw [hll]; exact i2, fun i x hx => ?_⟩, xkq_trans (xkq_mono rfl hk2) (xkq_mono rfl i1)⟩
      have hi : i < l.length := by
        obtain ⟨h, _⟩ := List.getElem?_eq_some_iff.mp hx
        exact h
      rw [i4 i (by omega), List.getD_eq_getElem?_getD, hx]
      rfl
  refine xD.of ?_
  show xQ MX1_findPath (0, [some (.ref 32), some (.int (nI u)), some (.int (mk T)), some (.int (mk A)), none, none, none, none, none], [], w) _
  refine xQ.go 10 (F1 := (15, [some (.ref 32), some (.int (nI u)), some (.int (mk T)), some (.int (mk A)), some (.int (mk A)), some (.int (mk T)), some (.int 0), none, none], [.int (mk T), .int 0, .ref 38], w)) rfl ?_
  refine xQ.call rfl (c_put rfl (k := 0) (by omega) (by omega)) ?_
  show xQ MX1_findPath (18, [some (.ref 32), some (.int (nI u)), some (.int (mk T)), some (.int (mk A)), some (.int (mk A)), some (.int (mk T)), some (.int 0), none, none], [], (xuI w 38 0 (mk T))) _
  refine xQ.go 2 (F1 := (21, [some (.ref 32), some (.int (nI u)), some (.int (mk T)), some (.int (mk A)), some (.int (mk A)), some (.int (mk T)), some (.int 0), some (.int 1), none], [], (xuI w 38 0 (mk T)))) rfl ?_
  refine xQ.loop (S := xW) (fun k s => (21, [some (.ref 32), some (.int (nI u)), some (.int (mk T)), some (.int (mk A)), some (.int (mk (lft H A T k))), some (.int (mk (lay H A T k))), some (.int (nI (fdep H A T u k))), some (.int (nI (k + 1))), none], [], s)) (fun k s => xkq [(38, none)] w s ∧ ∀ j, j ≤ k → s.1 38 j = mk (lay H A T j)) 9 (xuI w 38 0 (mk T)) (rfl) (⟨xkq_I xkq_rfl rfl, fun j hj => by rw [show j = 0 by omega]; simp [uI1]; rfl⟩) ?_ ?_
  · intro k s hk hI K
    obtain ⟨i1, i2⟩ := hI
    have hf := fdep_spec (H := H) (A := A) (T := T) (u := u) k
    refine xQ.go 3 (F1 := (bif decide (10 ≤ (nI (k + 1))) then 95 else 28, [some (.ref 32), some (.int (nI u)), some (.int (mk T)), some (.int (mk A)), some (.int (mk (lft H A T k))), some (.int (mk (lay H A T k))), some (.int (nI (fdep H A T u k))), some (.int (nI (k + 1))), none], [], s)) rfl ?_
    refine xQ.brF (decide_eq_false (nI_ge (b := 10) (by omega) (by omega))) ?_
    by_cases e0 : fdep H A T u k = 0
    · refine xQ.go 2 (F1 := (bif !decide ((nI (fdep H A T u k)) = 0) then 95 else 33, [some (.ref 32), some (.int (nI u)), some (.int (mk T)), some (.int (mk A)), some (.int (mk (lft H A T k))), some (.int (mk (lay H A T k))), some (.int (nI (fdep H A T u k))), some (.int (nI (k + 1))), none], [], s)) rfl ?_
      refine xQ.brF (by rw [e0]; rfl) ?_
      refine xQ.go 3 (F1 := (39, [some (.ref 32), some (.int (nI u)), some (.int (mk T)), some (.int (mk A)), some (.int (mk (lft H A T k))), some (.int (mk (lay H A T k))), some (.int (nI (fdep H A T u k))), some (.int (nI (k + 1))), none], [.int (mk (lay H A T k)), .ref 33], s)) rfl ?_
      refine xQ.call rfl (c_around rfl (fun v hv => by rw [xkq_at i1 33 v]; exact hg v hv)) ?_
      show xQ MX1_findPath (42, [some (.ref 32), some (.int (nI u)), some (.int (mk T)), some (.int (mk A)), some (.int (mk (lft H A T k))), some (.int (mk (lay H A T k))), some (.int (nI (fdep H A T u k))), some (.int (nI (k + 1))), none], [.int (mk (nb H (lay H A T k)))], s) _
      refine xQ.go 4 (F1 := (49, [some (.ref 32), some (.int (nI u)), some (.int (mk T)), some (.int (mk A)), some (.int (mk (lft H A T k))), some (.int ((mk (nb H (lay H A T k))) &&& (mk (lft H A T k)))), some (.int (nI (fdep H A T u k))), some (.int (nI (k + 1))), none], [.int (mk (lft H A T k))], s)) rfl ?_
      rw [mk_and, show (fun v => nb H (lay H A T k) v && lft H A T k v) = lay H A T (k + 1) from rfl]
      refine xQ.go 5 (F1 := (56, [some (.ref 32), some (.int (nI u)), some (.int (mk T)), some (.int (mk A)), some (.int ((mk (lft H A T k)) &&& ((mk (lay H A T (k + 1))) ^^^ (-1)))), some (.int (mk (lay H A T (k + 1)))), some (.int (nI (fdep H A T u k))), some (.int (nI (k + 1))), none], [], s)) rfl ?_
      rw [mk_andn, show (fun v => lft H A T k v && !lay H A T (k + 1) v) = lft H A T (k + 1) from rfl]
      refine xQ.go 4 (F1 := (64, [some (.ref 32), some (.int (nI u)), some (.int (mk T)), some (.int (mk A)), some (.int (mk (lft H A T (k + 1)))), some (.int (mk (lay H A T (k + 1)))), some (.int (nI (fdep H A T u k))), some (.int (nI (k + 1))), none], [.int (mk (lay H A T (k + 1))), .int (nI (k + 1)), .ref 38], s)) rfl ?_
      refine xQ.call rfl (c_put rfl (by omega) (by omega)) ?_
      show xQ MX1_findPath (67, [some (.ref 32), some (.int (nI u)), some (.int (mk T)), some (.int (mk A)), some (.int (mk (lft H A T (k + 1)))), some (.int (mk (lay H A T (k + 1)))), some (.int (nI (fdep H A T u k))), some (.int (nI (k + 1))), none], [], (xuI s 38 (k + 1) (mk (lay H A T (k + 1))))) _
      refine xQ.go 4 (F1 := (74, [some (.ref 32), some (.int (nI u)), some (.int (mk T)), some (.int (mk A)), some (.int (mk (lft H A T (k + 1)))), some (.int (mk (lay H A T (k + 1)))), some (.int (nI (fdep H A T u k))), some (.int (nI (k + 1))), none], [.int (nI u), .ref 33, .int (mk (lay H A T (k + 1)))], (xuI s 38 (k + 1) (mk (lay H A T (k + 1)))))) rfl ?_
      refine xQ.call rfl (c_at rfl hu (by omega)) ?_
      show xQ MX1_findPath (77, [some (.ref 32), some (.int (nI u)), some (.int (mk T)), some (.int (mk A)), some (.int (mk (lft H A T (k + 1)))), some (.int (mk (lay H A T (k + 1)))), some (.int (nI (fdep H A T u k))), some (.int (nI (k + 1))), none], [.int ((xuI s 38 (k + 1) (mk (lay H A T (k + 1)))).1 33 u), .int (mk (lay H A T (k + 1)))], (xuI s 38 (k + 1) (mk (lay H A T (k + 1))))) _
      rw [show (xuI s 38 (k + 1) (mk (lay H A T (k + 1)))).1 33 u = mk (H u) by rw [uI1, if_neg (by omega), xkq_at i1 33 u, hg u hu]]
      have hI2 : xkq [(38, none)] w (xuI s 38 (k + 1) (mk (lay H A T (k + 1)))) ∧ ∀ j, j ≤ k + 1 → (xuI s 38 (k + 1) (mk (lay H A T (k + 1)))).1 38 j = mk (lay H A T j) := ⟨xkq_I i1 rfl, fun j hj => by
        rw [uI1]
        by_cases e : j = k + 1
        · rw [if_pos ⟨rfl, e⟩, e]
        · rw [if_neg (fun h => e h.2)]
          exact i2 j (by omega)⟩
      refine xQ.go 2 (F1 := (bif !decide (((mk (lay H A T (k + 1))) &&& (mk (H u))) = 0) then 85 else 81, [some (.ref 32), some (.int (nI u)), some (.int (mk T)), some (.int (mk A)), some (.int (mk (lft H A T (k + 1)))), some (.int (mk (lay H A T (k + 1)))), some (.int (nI (fdep H A T u k))), some (.int (nI (k + 1))), none], [], (xuI s 38 (k + 1) (mk (lay H A T (k + 1)))))) rfl ?_
      rw [mk_and]
      have e1 : fdep H A T u (k + 1) = bif meet (lay H A T (k + 1)) (H u) then k + 1 else 0 := by
        show (if fdep H A T u k ≠ 0 then _ else _) = _
        rw [if_neg (fun h => h e0)]
      cases hmt : meet (lay H A T (k + 1)) (H u) with
      | true =>
        refine xQ.brT ?_ ?_
        · obtain ⟨z, z1, z2, z3⟩ := meet_iff.mp hmt
          rw [decide_eq_false]
          · rfl
          · intro e
            have := mk_zero.mp e z z1
            rw [z2, z3] at this
            cases this
        refine xQ.go 4 (F1 := (21, [some (.ref 32), some (.int (nI u)), some (.int (mk T)), some (.int (mk A)), some (.int (mk (lft H A T (k + 1)))), some (.int (mk (lay H A T (k + 1)))), some (.int (nI (k + 1))), some (.int ((nI (k + 1)) + 1)), none], [], (xuI s 38 (k + 1) (mk (lay H A T (k + 1)))))) rfl ?_
        have K := K _ hI2
        rw [e1, hmt] at K
        rw [← nI_succ]
        exact K
      | false =>
        refine xQ.brF ?_ ?_
        · rw [decide_eq_true]
          · rfl
          · refine mk_zero.mpr (fun z hz => ?_)
            cases hq : (lay H A T (k + 1) z && H u z) with
            | false => rfl
            | true =>
              rw [Bool.and_eq_true] at hq
              rw [meet_iff.mpr ⟨z, hz, hq.1, hq.2⟩] at hmt
              cases hmt
        refine xQ.go 5 (F1 := (21, [some (.ref 32), some (.int (nI u)), some (.int (mk T)), some (.int (mk A)), some (.int (mk (lft H A T (k + 1)))), some (.int (mk (lay H A T (k + 1)))), some (.int 0), some (.int ((nI (k + 1)) + 1)), none], [], (xuI s 38 (k + 1) (mk (lay H A T (k + 1)))))) rfl ?_
        have K := K _ hI2
        rw [e1, hmt] at K
        rw [← nI_succ]
        exact K
    · refine xQ.go 2 (F1 := (bif !decide ((nI (fdep H A T u k)) = 0) then 95 else 33, [some (.ref 32), some (.int (nI u)), some (.int (mk T)), some (.int (mk A)), some (.int (mk (lft H A T k))), some (.int (mk (lay H A T k))), some (.int (nI (fdep H A T u k))), some (.int (nI (k + 1))), none], [], s)) rfl ?_
      refine xQ.brT (by rw [decide_eq_false (nI_ne0 (by omega) (by have := hf.1 e0; omega))]; rfl) ?_
      rw [← fdep_stay e0 9 (by omega)]
      exact after s _ _ _ i1 (fun j hj => i2 j (by rw [fdep_stay e0 9 (by omega)] at hj; have := hf.1 e0; omega))
  · intro s hI
    refine xQ.go 3 (F1 := (bif decide (10 ≤ (nI (9 + 1))) then 95 else 28, [some (.ref 32), some (.int (nI u)), some (.int (mk T)), some (.int (mk A)), some (.int (mk (lft H A T 9))), some (.int (mk (lay H A T 9))), some (.int (nI (fdep H A T u 9))), some (.int (nI (9 + 1))), none], [], s)) rfl ?_
    refine xQ.brT (decide_eq_true (nI_le (a := 10) (Nat.le_refl _) (by omega))) ?_
    exact after s _ _ _ hI.1 (fun j hj => hI.2 j (by omega))
end
section
/-- how many faces of a list fit, and the first one's number, from the back -/
def wg (p : List Nat → Bool) : Nat → List (List Nat) → Nat × Nat
  | _, [] => (0, 0)
  | i, f :: t => if p f then ((wg p (i + 1) t).1 + 1, i) else wg p (i + 1) t
theorem wg_1 (p : List Nat → Bool) : ∀ (L : List (List Nat)) (i : Nat), (wg p i L).1 = (L.filter p).length
  | [], _ => rfl
  | f :: t, i => by
    unfold wg
    cases h : p f with
    | true => rw [if_pos rfl, List.filter_cons_of_pos h, List.length_cons, wg_1 p t]
    | false => rw [if_neg (by decide), List.filter_cons_of_neg (by rw [h]; decide), wg_1 p t]
theorem wg_2 (p : List Nat → Bool) : ∀ (L : List (List Nat)) (i : Nat), (L.filter p).length ≠ 0 → (wg p i L).2 = i + L.findIdx p
  | [], _, h => absurd rfl h
  | f :: t, i, h => by
    unfold wg
    cases hp : p f with
    | true => rw [if_pos rfl, List.findIdx_cons, hp]; rfl
    | false =>
      rw [List.filter_cons_of_neg (by rw [hp]; decide)] at h
      rw [if_neg (by decide), wg_2 p t (i + 1) h, List.findIdx_cons, hp]
      show i + 1 + t.findIdx p = i + (t.findIdx p + 1)
      omega
theorem wg_le (p : List Nat → Bool) : ∀ (L : List (List Nat)) (i : Nat), (wg p i L).1 ≤ L.length ∧ (wg p i L).2 ≤ i + L.length
  | [], i => ⟨Nat.le_refl _, Nat.zero_le _⟩
  | f :: t, i => by
    have ih := wg_le p t (i + 1)
    unfold wg
    rw [List.length_cons]
    split
    · exact ⟨by show _ + 1 ≤ _; omega, by show i ≤ _; omega⟩
    · exact ⟨by omega, by omega⟩
def pick (L : List (List Nat)) (l : List xFr) : Option xFr :=
  match l.find? (fun q => Nat.beq (nfit q.2 L) 1) with
    | some q => some q
    | none => l.head?
theorem pick_none {L : List (List Nat)} {l : List xFr} (h : pick L l = none) : l = [] := by
  unfold pick at h
  split at h
  · cases h
  · exact List.head?_eq_none_iff.mp h
theorem pick_add {L : List (List Nat)} {l : List xFr} {p q : xFr} (h : pick L l = some p) : pick L (l ++ [q]) = if nfit q.2 L = 1 ∧ nfit p.2 L ≠ 1 then some q else some p := by
  unfold pick at h ⊢
  rw [List.find?_append]
  split at h
  · next p2 hf =>
    cases h
    have h1 : nfit p.2 L = 1 := Nat.eq_of_beq_eq_true (List.find?_some (p := fun q : xFr => Nat.beq (nfit q.2 L) 1) hf)
    rw [hf, if_neg (fun h => h.2 h1)]
    rfl
  · next hf =>
    have hp : p ∈ l := List.mem_of_head? h
    have h1 : nfit p.2 L ≠ 1 := fun e => by
      have := List.find?_eq_none.mp hf p hp
      rw [e] at this
      exact this rfl
    rw [hf]
    by_cases e : nfit q.2 L = 1
    · rw [if_pos ⟨e, h1⟩]
      have : List.find? (fun q => Nat.beq (nfit q.2 L) 1) [q] = some q := by
        rw [List.find?_cons, e]
      rw [this]
      rfl
    · rw [if_neg (fun h => e h.1)]
      have : List.find? (fun q => Nat.beq (nfit q.2 L) 1) [q] = none := by
        rw [List.find?_cons]
        cases hb : Nat.beq (nfit q.2 L) 1 with
        | true => exact absurd (Nat.eq_of_beq_eq_true hb) e
        | false => rfl
      rw [this]
      show (l ++ [q]).head? = some p
      rw [List.head?_append, h]
      rfl
theorem pick_one {L : List (List Nat)} {q : xFr} : pick L [q] = some q := by
  unfold pick
  rw [List.find?_cons]
  cases hb : Nat.beq (nfit q.2 L) 1 with
  | true => rfl
  | false => rfl
/-- the chosen fragment in the cells -/
def eC (e : Nat) (w : xW) (L : List (List Nat)) : Option xFr → Prop
  | none => w.1 e 12 = 0
  | some q => w.1 e 9 = q.1 ∧ w.1 e 10 = q.2 ∧ w.1 e 11 = nI (ffit q.2 L) ∧ w.1 e 12 = nI (nfit q.2 L) ∧ nfit q.2 L ≠ 0
theorem fit_zero {C : Nat → Bool} {f : List Nat} : decide (mk C &&& (mk (fun v => decide (v ∈ f)) ^^^ -1) = 0) = fitf (mk C) f := by
  rw [mk_andn]
  apply Bool.eq_iff_iff.mpr
  rw [decide_eq_true_iff, mk_zero, fitf_iff]
  constructor
  · intro h v hv ht
    rw [tb_mk' C hv] at ht
    have := h v hv
    rw [ht] at this
    simpa using this
  · intro h v hv
    have h2 := h v hv
    rw [tb_mk' C hv] at h2
    cases hc : C v with
    | false => rfl
    | true => simp [h2 hc]
theorem c_weigh_p {w : xW} {L : List (List Nat)} {l : List xFr} {x : Int32} {C : Nat → Bool} (hF : eF 18 21 22 w L) (hL : L.length ≤ 16) (hC : eC 18 w L (pick L l)) : xD MX1_weigh [.ref 18, .int x, .int (mk C)] w (fun r w1 => r = some (.int (if nfit (mk C) L = 0 then 0 else 1)) ∧ (nfit (mk C) L ≠ 0 → eC 18 w1 L (pick L (l ++ [(x, mk C)]))) ∧ xkq [(18, some 9), (18, some 10), (18, some 11), (18, some 12)] w w1) := by
  refine xD.of ?_
  show xQ MX1_weigh (0, [some (.ref 18), some (.int x), some (.int (mk C)), none, none, none], [], w) _
  refine xQ.go 9 (F1 := (13, [some (.ref 18), some (.int x), some (.int (mk C)), some (.int 0), some (.int 0), some (.int ((w.1 18 8) - 1))], [], w)) rfl ?_
  rw [hF.1]
  have hi := wg_1 (fitf (mk C)) L 0
  have hj := wg_2 (fitf (mk C)) L 0
  have hk := wg_le (fitf (mk C)) L 0
  rw [Nat.zero_add] at hj
  refine xQ.loop (S := Unit) (fun k s => (13, [some (.ref 18), some (.int x), some (.int (mk C)), some (.int (nI (wg (fitf (mk C)) (L.length - k) (L.drop (L.length - k))).1)), some (.int (nI (wg (fitf (mk C)) (L.length - k) (L.drop (L.length - k))).2)), some (.int (nI L.length - nI (k + 1)))], [], w)) (fun _ _ => True) L.length () (by rw [Nat.sub_zero, List.drop_length]; rfl) (trivial) ?_ ?_
  · intro k s hk hI K
    have K := K () trivial
    have hlt : L.length - (k + 1) < L.length := by omega
    have hget : L[L.length - (k + 1)]? = some L[L.length - (k + 1)] := List.getElem?_eq_getElem hlt
    have hdrop : L.drop (L.length - (k + 1)) = L[L.length - (k + 1)] :: L.drop (L.length - k) := by
      rw [List.drop_eq_getElem_cons hlt, show L.length - (k + 1) + 1 = L.length - k by omega]
    have hwg : wg (fitf (mk C)) (L.length - (k + 1)) (L.drop (L.length - (k + 1))) = if fitf (mk C) L[L.length - (k + 1)] then ((wg (fitf (mk C)) (L.length - k) (L.drop (L.length - k))).1 + 1, L.length - (k + 1)) else wg (fitf (mk C)) (L.length - k) (L.drop (L.length - k)) := by
      rw [hdrop]
      show (if _ then _ else _) = _
      rw [show L.length - (k + 1) + 1 = L.length - k by omega]
    have hdn : nI (L.length - (k + 1)) + -1 = nI L.length - nI (k + 1 + 1) := by
      rw [← jI_sub (show k + 1 ≤ L.length by omega), nI_succ (k + 1), i_dn]
    rw [jI_sub (show k + 1 ≤ L.length by omega)]
    refine xQ.go 2 (F1 := (bif decide ((nI (L.length - (k + 1))) < 0) then 47 else 18, [some (.ref 18), some (.int x), some (.int (mk C)), some (.int (nI (wg (fitf (mk C)) (L.length - k) (L.drop (L.length - k))).1)), some (.int (nI (wg (fitf (mk C)) (L.length - k) (L.drop (L.length - k))).2)), some (.int (nI (L.length - (k + 1))))], [], w)) rfl ?_
    refine xQ.brF (decide_eq_false (nI_pos (by omega))) ?_
    refine xQ.go 4 (F1 := (25, [some (.ref 18), some (.int x), some (.int (mk C)), some (.int (nI (wg (fitf (mk C)) (L.length - k) (L.drop (L.length - k))).1)), some (.int (nI (wg (fitf (mk C)) (L.length - k) (L.drop (L.length - k))).2)), some (.int (nI (L.length - (k + 1))))], [.int (nI (L.length - (k + 1))), .ref 21, .int (mk C)], w)) rfl ?_
    refine xQ.call rfl (c_at rfl (by omega) (by omega)) ?_
    show xQ MX1_weigh (28, [some (.ref 18), some (.int x), some (.int (mk C)), some (.int (nI (wg (fitf (mk C)) (L.length - k) (L.drop (L.length - k))).1)), some (.int (nI (wg (fitf (mk C)) (L.length - k) (L.drop (L.length - k))).2)), some (.int (nI (L.length - (k + 1))))], [.int (w.1 21 (L.length - (k + 1))), .int (mk C)], w) _
    rw [(hF.2 _ _ hget).1]
    refine xQ.go 4 (F1 := (bif !decide (((mk C) &&& ((mk (fun v => decide (v ∈ L[L.length - (k + 1)]))) ^^^ (-1))) = 0) then 41 else 34, [some (.ref 18), some (.int x), some (.int (mk C)), some (.int (nI (wg (fitf (mk C)) (L.length - k) (L.drop (L.length - k))).1)), some (.int (nI (wg (fitf (mk C)) (L.length - k) (L.drop (L.length - k))).2)), some (.int (nI (L.length - (k + 1))))], [], w)) rfl ?_
    rw [fit_zero]
    cases hf : fitf (mk C) L[L.length - (k + 1)] with
    | true =>
      rw [hf, if_pos rfl] at hwg
      refine xQ.brF (by decide) ?_
      refine xQ.go 5 (F1 := (13, [some (.ref 18), some (.int x), some (.int (mk C)), some (.int ((nI (wg (fitf (mk C)) (L.length - k) (L.drop (L.length - k))).1) + 1)), some (.int (nI (L.length - (k + 1)))), some (.int ((nI (L.length - (k + 1))) + (-1)))], [], w)) rfl ?_
      rw [hdn, ← nI_succ]
      rw [hwg] at K
      exact K
    | false =>
      rw [hf, if_neg (by decide)] at hwg
      refine xQ.brT (by decide) ?_
      refine xQ.go 2 (F1 := (13, [some (.ref 18), some (.int x), some (.int (mk C)), some (.int (nI (wg (fitf (mk C)) (L.length - k) (L.drop (L.length - k))).1)), some (.int (nI (wg (fitf (mk C)) (L.length - k) (L.drop (L.length - k))).2)), some (.int ((nI (L.length - (k + 1))) + (-1)))], [], w)) rfl ?_
      rw [hdn]
      rw [hwg] at K
      exact K
  · intro s hI
    rw [Nat.sub_self, List.drop_zero]
    have e0 : nI L.length - nI (L.length + 1) = -1 := i_dn0 _
    rw [e0]
    refine xQ.go 2 (F1 := (bif decide ((-1) < 0) then 47 else 18, [some (.ref 18), some (.int x), some (.int (mk C)), some (.int (nI (wg (fitf (mk C)) 0 L).1)), some (.int (nI (wg (fitf (mk C)) 0 L).2)), some (.int (-1))], [], w)) rfl ?_
    refine xQ.brT (rfl) ?_
    rw [hi] at hk ⊢
    have hn : (L.filter (fitf (mk C))).length = nfit (mk C) L := rfl
    rw [hn] at hj hk ⊢
    by_cases h0 : nfit (mk C) L = 0
    · rw [h0]
      refine xQ.go 2 (F1 := (bif decide ((nI 0) ≤ 0) then 92 else 51, [some (.ref 18), some (.int x), some (.int (mk C)), some (.int (nI 0)), some (.int (nI (wg (fitf (mk C)) 0 L).2)), some (.int (-1))], [], w)) rfl ?_
      refine xQ.brT (rfl) ?_
      refine xQ.go 2 (F1 := (bif decide ((nI 0) ≤ 0) then 100 else 96, [some (.ref 18), some (.int x), some (.int (mk C)), some (.int (nI 0)), some (.int (nI (wg (fitf (mk C)) 0 L).2)), some (.int (-1))], [], w)) rfl ?_
      refine xQ.brT (rfl) ?_
      refine xQ.go 1 (F1 := (101, [some (.ref 18), some (.int x), some (.int (mk C)), some (.int (nI 0)), some (.int (nI (wg (fitf (mk C)) 0 L).2)), some (.int (-1))], [.int 0], w)) rfl ?_
      refine xQ.iret .boolean 1 rfl rfl (rfl) ?_
      exact ⟨by simp, fun h => absurd rfl h, xkq_rfl⟩
    · have hj := hj h0
      rw [hj]
      have hff : L.findIdx (fitf (mk C)) = ffit (mk C) L := rfl
      rw [hff]
      have hpos : ¬ nI (nfit (mk C) L) ≤ 0 := by
        have := nI_ge (a := 0) (b := nfit (mk C) L) (by omega) (by omega)
        exact this
      refine xQ.go 2 (F1 := (bif decide ((nI (nfit (mk C) L)) ≤ 0) then 92 else 51, [some (.ref 18), some (.int x), some (.int (mk C)), some (.int (nI (nfit (mk C) L))), some (.int (nI (ffit (mk C) L))), some (.int (-1))], [], w)) rfl ?_
      refine xQ.brF (decide_eq_false hpos) ?_
      have fin : ∀ w2, (eC 18 w2 L (pick L (l ++ [(x, mk C)]))) → xkq [(18, some 9), (18, some 10), (18, some 11), (18, some 12)] w w2 → xQ MX1_weigh (92, [some (.ref 18), some (.int x), some (.int (mk C)), some (.int (nI (nfit (mk C) L))), some (.int (nI (ffit (mk C) L))), some (.int (-1))], [], w2) (fun r w1 => r = some (.int (if nfit (mk C) L = 0 then 0 else 1)) ∧ (nfit (mk C) L ≠ 0 → eC 18 w1 L (pick L (l ++ [(x, mk C)]))) ∧ xkq [(18, some 9), (18, some 10), (18, some 11), (18, some 12)] w w1) := by
        intro w2 hc2 hk2
        refine xQ.go 2 (F1 := (bif decide ((nI (nfit (mk C) L)) ≤ 0) then 100 else 96, [some (.ref 18), some (.int x), some (.int (mk C)), some (.int (nI (nfit (mk C) L))), some (.int (nI (ffit (mk C) L))), some (.int (-1))], [], w2)) rfl ?_
        refine xQ.brF (decide_eq_false hpos) ?_
        refine xQ.go 2 (F1 := (101, [some (.ref 18), some (.int x), some (.int (mk C)), some (.int (nI (nfit (mk C) L))), some (.int (nI (ffit (mk C) L))), some (.int (-1))], [.int 1], w2)) rfl ?_
        refine xQ.iret .boolean 1 rfl rfl (rfl) ?_
        exact ⟨by rw [if_neg h0], fun _ => hc2, hk2⟩
      have put : pick L (l ++ [(x, mk C)]) = some (x, mk C) → xQ MX1_weigh (71, [some (.ref 18), some (.int x), some (.int (mk C)), some (.int (nI (nfit (mk C) L))), some (.int (nI (ffit (mk C) L))), some (.int (-1))], [], w) (fun r w1 => r = some (.int (if nfit (mk C) L = 0 then 0 else 1)) ∧ (nfit (mk C) L ≠ 0 → eC 18 w1 L (pick L (l ++ [(x, mk C)]))) ∧ xkq [(18, some 9), (18, some 10), (18, some 11), (18, some 12)] w w1) := by
        intro hp
        refine xQ.go 12 (F1 := (92, [some (.ref 18), some (.int x), some (.int (mk C)), some (.int (nI (nfit (mk C) L))), some (.int (nI (ffit (mk C) L))), some (.int (-1))], [], (xuI (xuI (xuI (xuI w 18 9 x) 18 10 (mk C)) 18 11 (nI (ffit (mk C) L))) 18 12 (nI (nfit (mk C) L))))) rfl ?_
        refine fin _ ?_ (xkq_I (xkq_I (xkq_I (xkq_I xkq_rfl rfl) rfl) rfl) rfl)
        rw [hp]
        simp [eC, uI1, h0]
      cases hp : pick L l with
      | none =>
        rw [hp] at hC
        have hl := pick_none hp
        refine xQ.go 3 (F1 := (bif decide ((w.1 18 12) = 0) then 71 else 58, [some (.ref 18), some (.int x), some (.int (mk C)), some (.int (nI (nfit (mk C) L))), some (.int (nI (ffit (mk C) L))), some (.int (-1))], [], w)) rfl ?_
        refine xQ.brT (by rw [show w.1 18 12 = 0 from hC]; rfl) ?_
        refine put ?_
        rw [hl]
        exact pick_one
      | some q =>
        rw [hp] at hC
        obtain ⟨c1, c2, c3, c4, c5⟩ := hC
        have hpa := pick_add (q := (x, mk C)) hp
        have hq16 : nfit q.2 L ≤ 16 := Nat.le_trans (List.length_filter_le _ _) hL
        refine xQ.go 3 (F1 := (bif decide ((w.1 18 12) = 0) then 71 else 58, [some (.ref 18), some (.int x), some (.int (mk C)), some (.int (nI (nfit (mk C) L))), some (.int (nI (ffit (mk C) L))), some (.int (-1))], [], w)) rfl ?_
        refine xQ.brF (by rw [c4]; exact decide_eq_false (nI_ne0 (by omega) (by omega))) ?_
        by_cases h1 : nfit (mk C) L = 1
        · refine xQ.go 3 (F1 := (bif !decide ((nI (nfit (mk C) L)) = 1) then 92 else 63, [some (.ref 18), some (.int x), some (.int (mk C)), some (.int (nI (nfit (mk C) L))), some (.int (nI (ffit (mk C) L))), some (.int (-1))], [], w)) rfl ?_
          refine xQ.brF (by rw [h1]; rfl) ?_
          by_cases h2 : nfit q.2 L = 1
          · refine xQ.go 4 (F1 := (bif decide ((w.1 18 12) ≤ 1) then 92 else 71, [some (.ref 18), some (.int x), some (.int (mk C)), some (.int (nI (nfit (mk C) L))), some (.int (nI (ffit (mk C) L))), some (.int (-1))], [], w)) rfl ?_
            refine xQ.brT (by rw [c4, h2]; rfl) ?_
            rw [show (if nfit ((x, mk C) : xFr).2 L = 1 ∧ nfit q.2 L ≠ 1 then some (x, mk C) else some q) = some q from if_neg (fun h => h.2 h2)] at hpa
            refine fin w ?_ xkq_rfl
            rw [hpa]
            exact ⟨c1, c2, c3, c4, c5⟩
          · refine xQ.go 4 (F1 := (bif decide ((w.1 18 12) ≤ 1) then 92 else 71, [some (.ref 18), some (.int x), some (.int (mk C)), some (.int (nI (nfit (mk C) L))), some (.int (nI (ffit (mk C) L))), some (.int (-1))], [], w)) rfl ?_
            refine xQ.brF (by rw [c4]; exact decide_eq_false (nI_ge (a := 1) (by omega) (by omega))) ?_
            refine put ?_
            rw [hpa, if_pos ⟨h1, h2⟩]
        · refine xQ.go 3 (F1 := (bif !decide ((nI (nfit (mk C) L)) = 1) then 92 else 63, [some (.ref 18), some (.int x), some (.int (mk C)), some (.int (nI (nfit (mk C) L))), some (.int (nI (ffit (mk C) L))), some (.int (-1))], [], w)) rfl ?_
          refine xQ.brT (by rw [show (1 : Int32) = nI 1 from rfl, decide_eq_false (fun e => h1 (jI_inj (b := 1) (by omega) (by omega) e))]; rfl) ?_
          refine fin w ?_ xkq_rfl
          rw [hpa, if_neg (fun h => h1 h.1)]
          exact ⟨c1, c2, c3, c4, c5⟩

theorem c_weigh_t {w : xW} {L : List (List Nat)} {l : List xFr} {x : Int32} {C : Nat → Bool} (hF : eF 32 35 36 w L) (hL : L.length ≤ 16) (hC : eC 32 w L (pick L l)) : xD MX1_weigh [.ref 32, .int x, .int (mk C)] w (fun r w1 => r = some (.int (if nfit (mk C) L = 0 then 0 else 1)) ∧ (nfit (mk C) L ≠ 0 → eC 32 w1 L (pick L (l ++ [(x, mk C)]))) ∧ xkq [(32, some 9), (32, some 10), (32, some 11), (32, some 12)] w w1) := by
  refine xD.of ?_
  show xQ MX1_weigh (0, [some (.ref 32), some (.int x), some (.int (mk C)), none, none, none], [], w) _
  refine xQ.go 9 (F1 := (13, [some (.ref 32), some (.int x), some (.int (mk C)), some (.int 0), some (.int 0), some (.int ((w.1 32 8) - 1))], [], w)) rfl ?_
  rw [hF.1]
  have hi := wg_1 (fitf (mk C)) L 0
  have hj := wg_2 (fitf (mk C)) L 0
  have hk := wg_le (fitf (mk C)) L 0
  rw [Nat.zero_add] at hj
  refine xQ.loop (S := Unit) (fun k s => (13, [some (.ref 32), some (.int x), some (.int (mk C)), some (.int (nI (wg (fitf (mk C)) (L.length - k) (L.drop (L.length - k))).1)), some (.int (nI (wg (fitf (mk C)) (L.length - k) (L.drop (L.length - k))).2)), some (.int (nI L.length - nI (k + 1)))], [], w)) (fun _ _ => True) L.length () (by rw [Nat.sub_zero, List.drop_length]; rfl) (trivial) ?_ ?_
  · intro k s hk hI K
    have K := K () trivial
    have hlt : L.length - (k + 1) < L.length := by omega
    have hget : L[L.length - (k + 1)]? = some L[L.length - (k + 1)] := List.getElem?_eq_getElem hlt
    have hdrop : L.drop (L.length - (k + 1)) = L[L.length - (k + 1)] :: L.drop (L.length - k) := by
      rw [List.drop_eq_getElem_cons hlt, show L.length - (k + 1) + 1 = L.length - k by omega]
    have hwg : wg (fitf (mk C)) (L.length - (k + 1)) (L.drop (L.length - (k + 1))) = if fitf (mk C) L[L.length - (k + 1)] then ((wg (fitf (mk C)) (L.length - k) (L.drop (L.length - k))).1 + 1, L.length - (k + 1)) else wg (fitf (mk C)) (L.length - k) (L.drop (L.length - k)) := by
      rw [hdrop]
      show (if _ then _ else _) = _
      rw [show L.length - (k + 1) + 1 = L.length - k by omega]
    have hdn : nI (L.length - (k + 1)) + -1 = nI L.length - nI (k + 1 + 1) := by
      rw [← jI_sub (show k + 1 ≤ L.length by omega), nI_succ (k + 1), i_dn]
    rw [jI_sub (show k + 1 ≤ L.length by omega)]
    refine xQ.go 2 (F1 := (bif decide ((nI (L.length - (k + 1))) < 0) then 47 else 18, [some (.ref 32), some (.int x), some (.int (mk C)), some (.int (nI (wg (fitf (mk C)) (L.length - k) (L.drop (L.length - k))).1)), some (.int (nI (wg (fitf (mk C)) (L.length - k) (L.drop (L.length - k))).2)), some (.int (nI (L.length - (k + 1))))], [], w)) rfl ?_
    refine xQ.brF (decide_eq_false (nI_pos (by omega))) ?_
    refine xQ.go 4 (F1 := (25, [some (.ref 32), some (.int x), some (.int (mk C)), some (.int (nI (wg (fitf (mk C)) (L.length - k) (L.drop (L.length - k))).1)), some (.int (nI (wg (fitf (mk C)) (L.length - k) (L.drop (L.length - k))).2)), some (.int (nI (L.length - (k + 1))))], [.int (nI (L.length - (k + 1))), .ref 35, .int (mk C)], w)) rfl ?_
    refine xQ.call rfl (c_at rfl (by omega) (by omega)) ?_
    show xQ MX1_weigh (28, [some (.ref 32), some (.int x), some (.int (mk C)), some (.int (nI (wg (fitf (mk C)) (L.length - k) (L.drop (L.length - k))).1)), some (.int (nI (wg (fitf (mk C)) (L.length - k) (L.drop (L.length - k))).2)), some (.int (nI (L.length - (k + 1))))], [.int (w.1 35 (L.length - (k + 1))), .int (mk C)], w) _
    rw [(hF.2 _ _ hget).1]
    refine xQ.go 4 (F1 := (bif !decide (((mk C) &&& ((mk (fun v => decide (v ∈ L[L.length - (k + 1)]))) ^^^ (-1))) = 0) then 41 else 34, [some (.ref 32), some (.int x), some (.int (mk C)), some (.int (nI (wg (fitf (mk C)) (L.length - k) (L.drop (L.length - k))).1)), some (.int (nI (wg (fitf (mk C)) (L.length - k) (L.drop (L.length - k))).2)), some (.int (nI (L.length - (k + 1))))], [], w)) rfl ?_
    rw [fit_zero]
    cases hf : fitf (mk C) L[L.length - (k + 1)] with
    | true =>
      rw [hf, if_pos rfl] at hwg
      refine xQ.brF (by decide) ?_
      refine xQ.go 5 (F1 := (13, [some (.ref 32), some (.int x), some (.int (mk C)), some (.int ((nI (wg (fitf (mk C)) (L.length - k) (L.drop (L.length - k))).1) + 1)), some (.int (nI (L.length - (k + 1)))), some (.int ((nI (L.length - (k + 1))) + (-1)))], [], w)) rfl ?_
      rw [hdn, ← nI_succ]
      rw [hwg] at K
      exact K
    | false =>
      rw [hf, if_neg (by decide)] at hwg
      refine xQ.brT (by decide) ?_
      refine xQ.go 2 (F1 := (13, [some (.ref 32), some (.int x), some (.int (mk C)), some (.int (nI (wg (fitf (mk C)) (L.length - k) (L.drop (L.length - k))).1)), some (.int (nI (wg (fitf (mk C)) (L.length - k) (L.drop (L.length - k))).2)), some (.int ((nI (L.length - (k + 1))) + (-1)))], [], w)) rfl ?_
      rw [hdn]
      rw [hwg] at K
      exact K
  · intro s hI
    rw [Nat.sub_self, List.drop_zero]
    have e0 : nI L.length - nI (L.length + 1) = -1 := i_dn0 _
    rw [e0]
    refine xQ.go 2 (F1 := (bif decide ((-1) < 0) then 47 else 18, [some (.ref 32), some (.int x), some (.int (mk C)), some (.int (nI (wg (fitf (mk C)) 0 L).1)), some (.int (nI (wg (fitf (mk C)) 0 L).2)), some (.int (-1))], [], w)) rfl ?_
    refine xQ.brT (rfl) ?_
    rw [hi] at hk ⊢
    have hn : (L.filter (fitf (mk C))).length = nfit (mk C) L := rfl
    rw [hn] at hj hk ⊢
    by_cases h0 : nfit (mk C) L = 0
    · rw [h0]
      refine xQ.go 2 (F1 := (bif decide ((nI 0) ≤ 0) then 92 else 51, [some (.ref 32), some (.int x), some (.int (mk C)), some (.int (nI 0)), some (.int (nI (wg (fitf (mk C)) 0 L).2)), some (.int (-1))], [], w)) rfl ?_
      refine xQ.brT (rfl) ?_
      refine xQ.go 2 (F1 := (bif decide ((nI 0) ≤ 0) then 100 else 96, [some (.ref 32), some (.int x), some (.int (mk C)), some (.int (nI 0)), some (.int (nI (wg (fitf (mk C)) 0 L).2)), some (.int (-1))], [], w)) rfl ?_
      refine xQ.brT (rfl) ?_
      refine xQ.go 1 (F1 := (101, [some (.ref 32), some (.int x), some (.int (mk C)), some (.int (nI 0)), some (.int (nI (wg (fitf (mk C)) 0 L).2)), some (.int (-1))], [.int 0], w)) rfl ?_
      refine xQ.iret .boolean 1 rfl rfl (rfl) ?_
      exact ⟨by simp, fun h => absurd rfl h, xkq_rfl⟩
    · have hj := hj h0
      rw [hj]
      have hff : L.findIdx (fitf (mk C)) = ffit (mk C) L := rfl
      rw [hff]
      have hpos : ¬ nI (nfit (mk C) L) ≤ 0 := by
        have := nI_ge (a := 0) (b := nfit (mk C) L) (by omega) (by omega)
        exact this
      refine xQ.go 2 (F1 := (bif decide ((nI (nfit (mk C) L)) ≤ 0) then 92 else 51, [some (.ref 32), some (.int x), some (.int (mk C)), some (.int (nI (nfit (mk C) L))), some (.int (nI (ffit (mk C) L))), some (.int (-1))], [], w)) rfl ?_
      refine xQ.brF (decide_eq_false hpos) ?_
      have fin : ∀ w2, (eC 32 w2 L (pick L (l ++ [(x, mk C)]))) → xkq [(32, some 9), (32, some 10), (32, some 11), (32, some 12)] w w2 → xQ MX1_weigh (92, [some (.ref 32), some (.int x), some (.int (mk C)), some (.int (nI (nfit (mk C) L))), some (.int (nI (ffit (mk C) L))), some (.int (-1))], [], w2) (fun r w1 => r = some (.int (if nfit (mk C) L = 0 then 0 else 1)) ∧ (nfit (mk C) L ≠ 0 → eC 32 w1 L (pick L (l ++ [(x, mk C)]))) ∧ xkq [(32, some 9), (32, some 10), (32, some 11), (32, some 12)] w w1) := by
        intro w2 hc2 hk2
        refine xQ.go 2 (F1 := (bif decide ((nI (nfit (mk C) L)) ≤ 0) then 100 else 96, [some (.ref 32), some (.int x), some (.int (mk C)), some (.int (nI (nfit (mk C) L))), some (.int (nI (ffit (mk C) L))), some (.int (-1))], [], w2)) rfl ?_
        refine xQ.brF (decide_eq_false hpos) ?_
        refine xQ.go 2 (F1 := (101, [some (.ref 32), some (.int x), some (.int (mk C)), some (.int (nI (nfit (mk C) L))), some (.int (nI (ffit (mk C) L))), some (.int (-1))], [.int 1], w2)) rfl ?_
        refine xQ.iret .boolean 1 rfl rfl (rfl) ?_
        exact ⟨by rw [if_neg h0], fun _ => hc2, hk2⟩
      have put : pick L (l ++ [(x, mk C)]) = some (x, mk C) → xQ MX1_weigh (71, [some (.ref 32), some (.int x), some (.int (mk C)), some (.int (nI (nfit (mk C) L))), some (.int (nI (ffit (mk C) L))), some (.int (-1))], [], w) (fun r w1 => r = some (.int (if nfit (mk C) L = 0 then 0 else 1)) ∧ (nfit (mk C) L ≠ 0 → eC 32 w1 L (pick L (l ++ [(x, mk C)]))) ∧ xkq [(32, some 9), (32, some 10), (32, some 11), (32, some 12)] w w1) := by
        intro hp
        refine xQ.go 12 (F1 := (92, [some (.ref 32), some (.int x), some (.int (mk C)), some (.int (nI (nfit (mk C) L))), some (.int (nI (ffit (mk C) L))), some (.int (-1))], [], (xuI (xuI (xuI (xuI w 32 9 x) 32 10 (mk C)) 32 11 (nI (ffit (mk C) L))) 32 12 (nI (nfit (mk C) L))))) rfl ?_
        refine fin _ ?_ (xkq_I (xkq_I (xkq_I (xkq_I xkq_rfl rfl) rfl) rfl) rfl)
        rw [hp]
        simp [eC, uI1, h0]
      cases hp : pick L l with
      | none =>
        rw [hp] at hC
        have hl := pick_none hp
        refine xQ.go 3 (F1 := (bif decide ((w.1 32 12) = 0) then 71 else 58, [some (.ref 32), some (.int x), some (.int (mk C)), some (.int (nI (nfit (mk C) L))), some (.int (nI (ffit (mk C) L))), some (.int (-1))], [], w)) rfl ?_
        refine xQ.brT (by rw [show w.1 32 12 = 0 from hC]; rfl) ?_
        refine put ?_
        rw [hl]
        exact pick_one
      | some q =>
        rw [hp] at hC
        obtain ⟨c1, c2, c3, c4, c5⟩ := hC
        have hpa := pick_add (q := (x, mk C)) hp
        have hq16 : nfit q.2 L ≤ 16 := Nat.le_trans (List.length_filter_le _ _) hL
        refine xQ.go 3 (F1 := (bif decide ((w.1 32 12) = 0) then 71 else 58, [some (.ref 32), some (.int x), some (.int (mk C)), some (.int (nI (nfit (mk C) L))), some (.int (nI (ffit (mk C) L))), some (.int (-1))], [], w)) rfl ?_
        refine xQ.brF (by rw [c4]; exact decide_eq_false (nI_ne0 (by omega) (by omega))) ?_
        by_cases h1 : nfit (mk C) L = 1
        · refine xQ.go 3 (F1 := (bif !decide ((nI (nfit (mk C) L)) = 1) then 92 else 63, [some (.ref 32), some (.int x), some (.int (mk C)), some (.int (nI (nfit (mk C) L))), some (.int (nI (ffit (mk C) L))), some (.int (-1))], [], w)) rfl ?_
          refine xQ.brF (by rw [h1]; rfl) ?_
          by_cases h2 : nfit q.2 L = 1
          · refine xQ.go 4 (F1 := (bif decide ((w.1 32 12) ≤ 1) then 92 else 71, [some (.ref 32), some (.int x), some (.int (mk C)), some (.int (nI (nfit (mk C) L))), some (.int (nI (ffit (mk C) L))), some (.int (-1))], [], w)) rfl ?_
            refine xQ.brT (by rw [c4, h2]; rfl) ?_
            rw [show (if nfit ((x, mk C) : xFr).2 L = 1 ∧ nfit q.2 L ≠ 1 then some (x, mk C) else some q) = some q from if_neg (fun h => h.2 h2)] at hpa
            refine fin w ?_ xkq_rfl
            rw [hpa]
            exact ⟨c1, c2, c3, c4, c5⟩
          · refine xQ.go 4 (F1 := (bif decide ((w.1 32 12) ≤ 1) then 92 else 71, [some (.ref 32), some (.int x), some (.int (mk C)), some (.int (nI (nfit (mk C) L))), some (.int (nI (ffit (mk C) L))), some (.int (-1))], [], w)) rfl ?_
            refine xQ.brF (by rw [c4]; exact decide_eq_false (nI_ge (a := 1) (by omega) (by omega))) ?_
            refine put ?_
            rw [hpa, if_pos ⟨h1, h2⟩]
        · refine xQ.go 3 (F1 := (bif !decide ((nI (nfit (mk C) L)) = 1) then 92 else 63, [some (.ref 32), some (.int x), some (.int (mk C)), some (.int (nI (nfit (mk C) L))), some (.int (nI (ffit (mk C) L))), some (.int (-1))], [], w)) rfl ?_
          refine xQ.brT (by rw [show (1 : Int32) = nI 1 from rfl, decide_eq_false (fun e => h1 (jI_inj (b := 1) (by omega) (by omega) e))]; rfl) ?_
          refine fin w ?_ xkq_rfl
          rw [hpa, if_neg (fun h => h1 h.1)]
          exact ⟨c1, c2, c3, c4, c5⟩
end
section
/-! fragments as the class finds them -/
def snn (l : List xFr) : Nat → Bool := fun v => l.any (fun q => tb q.1 v)
def cpo (H : Nat → Nat → Bool) (S PV : Nat → Bool) (a b : Nat) : Nat → Bool := rch H (fun v => S v && !PV v) (fun v => two a b v && (S v && !PV v))
theorem snn_iff {l : List xFr} {v : Nat} : snn l v = true ↔ ∃ q ∈ l, tb q.1 v = true := by
  unfold snn
  rw [List.any_eq_true]
theorem snn_add {l : List xFr} {x c : Int32} {v : Nat} : snn (l ++ [(x, c)]) v = (snn l v || tb x v) := by simp [snn]
theorem FOK_free {H : Nat → Nat → Bool} {S : Nat → Bool} {P : Nat → Nat → Bool} {PV : Nat → Bool} {q : xFr} (h : FOK H S P PV q) {v : Nat} (hv : v < 10) (ht : tb q.1 v = true) : ∃ x, x < 10 ∧ S x = true ∧ PV x = false ∧ q.1 = mk (cmp H S PV x) ∧ cmp H S PV x v = true := by
  rcases h with ⟨h0, _⟩ | ⟨x, hx, h1, h2, h3, _⟩
  · rw [h0, tb_0] at ht
    cases ht
  · rw [h3, tb_mk' _ hv] at ht
    exact ⟨x, hx, h1, h2, h3, ht⟩
theorem frAdd_class {H : Nat → Nat → Bool} {S : Nat → Bool} {P : Nat → Nat → Bool} {PV : Nat → Bool} (hb : BIC H S) {l : List xFr} (hl : ∀ q ∈ l, FOK H S P PV q) {a b : Nat} (hab : a < b) (hb10 : b < 10) (h1 : H a b = true) (h2 : P a b = false) :
    (meet (two a b) (snn l) = true → frAdd H S P PV l a b = l) ∧ (meet (two a b) (snn l) = false → frAdd H S P PV l a b = l ++ [(mk (cpo H S PV a b), mk (if mk (cpo H S PV a b) = 0 then two a b else fun v => nb H (cpo H S PV a b) v && PV v))]) := by
  obtain ⟨_, _, hSa, hSb⟩ := hb.2.2.1 a b h1
  have ha10 : a < 10 := by omega
  by_cases hpp : PV a = true ∧ PV b = true
  · have e1 : frAdd H S P PV l a b = l ++ [(0, mk (two a b))] := by
      unfold frAdd
      rw [h1, h2, hpp.1, hpp.2]
      rfl
    have e2 : mk (cpo H S PV a b) = 0 := mk_zero.mpr fun v hv => by
      cases h : cpo H S PV a b v with
      | false => rfl
      | true =>
        obtain ⟨x, _, hx, _⟩ := (rch_con hv).mp h
        simp only [Bool.and_eq_true] at hx
        rcases two_iff.mp hx.1 with e | e
        · rw [e, hpp.1] at hx; exact absurd hx.2.2 (by decide)
        · rw [e, hpp.2] at hx; exact absurd hx.2.2 (by decide)
    refine ⟨fun hm => ?_, fun _ => ?_⟩
    · exfalso
      obtain ⟨v, hv, h3, h4⟩ := meet_iff.mp hm
      obtain ⟨q, hq, ht⟩ := snn_iff.mp h4
      obtain ⟨x, _, _, _, _, hc⟩ := FOK_free (hl q hq) hv ht
      have := (cmp_in hc).2
      rcases two_iff.mp h3 with e | e
      · rw [e, hpp.1] at this; cases this
      · rw [e, hpp.2] at this; cases this
    · rw [e1, e2, if_pos rfl]
  · obtain ⟨x, hxd⟩ : ∃ x, x = bif PV a then b else a := ⟨_, rfl⟩
    have hx2 : x = a ∨ x = b := by
      cases hpa : PV a with
      | true => rw [hpa] at hxd; exact Or.inr hxd
      | false => rw [hpa] at hxd; exact Or.inl hxd
    have hx10 : x < 10 := by rcases hx2 with e | e <;> omega
    have hSx : S x = true := by rcases hx2 with e | e <;> rw [e] <;> assumption
    have hPx : PV x = false := by
      cases hpa : PV a with
      | true =>
        rw [hpa] at hxd
        have : PV b = false := by
          cases hpb : PV b with
          | false => rfl
          | true => exact absurd ⟨hpa, hpb⟩ hpp
        rw [hxd]
        exact this
      | false => rw [hpa] at hxd; rw [hxd]; exact hpa
    have hall : ∀ v, v = a ∨ v = b → PV v = false → cmp H S PV x v = true := by
      intro v hv hp
      have hv10 : v < 10 := by rcases hv with e | e <;> omega
      have hSv : S v = true := by rcases hv with e | e <;> rw [e] <;> assumption
      by_cases e : v = x
      · rw [e]; exact cmp_self hSx hPx
      · have hadj : H x v = true := by
          rcases hx2 with e1 | e1 <;> rcases hv with e2 | e2
          · exact absurd (by rw [e1, e2]) e
          · rw [e1, e2]; exact h1
          · rw [e1, e2, hb.1]; exact h1
          · exact absurd (by rw [e1, e2]) e
        exact cmp_step hx10 hv10 (cmp_self hSx hPx) hadj hSv hp
    have e2 : ∀ v, v < 10 → cpo H S PV a b v = cmp H S PV x v := fun v hv => by
      apply Bool.eq_iff_iff.mpr
      constructor
      · intro h
        obtain ⟨y, hy, y1, y2, y3⟩ := (rch_con hv).mp h
        simp only [Bool.and_eq_true, Bool.not_eq_true'] at y1 y2
        have hc := hall y (two_iff.mp y1.1) y2.2
        rw [← cmp_same hb.1 hx10 hy hc v hv]
        exact y3
      · intro h
        refine (rch_con hv).mpr ⟨x, hx10, ?_, ?_, h⟩
        · simp only [Bool.and_eq_true, Bool.not_eq_true']
          exact ⟨two_iff.mpr hx2, hSx, hPx⟩
        · simp only [Bool.and_eq_true, Bool.not_eq_true']
          exact ⟨hSx, hPx⟩
    have e3 : mk (cpo H S PV a b) = mk (cmp H S PV x) := mk_ext e2
    have e4 : mk (cpo H S PV a b) ≠ 0 := fun e => by
      have := mk_zero.mp e x hx10
      rw [e2 x hx10, cmp_self hSx hPx] at this
      cases this
    have e5 : mk (fun v => nb H (cpo H S PV a b) v && PV v) = mk (ctc H PV (cmp H S PV x)) := mk_ext fun v _ => by
      show (_ && _) = (_ && _)
      rw [nb_ext e2]
    have hand : (PV a && PV b) = false := by
      cases hpa : PV a with
      | false => rfl
      | true =>
        cases hpb : PV b with
        | false => rfl
        | true => exact absurd ⟨hpa, hpb⟩ hpp
    have e6 : frAdd H S P PV l a b = if l.any (fun q => decide (q.1 = mk (cmp H S PV x))) then l else l ++ [(mk (cmp H S PV x), mk (ctc H PV (cmp H S PV x)))] := by
      unfold frAdd
      rw [h1, h2, hand, ← hxd]
      rfl
    have e7 : meet (two a b) (snn l) = l.any (fun q => decide (q.1 = mk (cmp H S PV x))) := by
      apply Bool.eq_iff_iff.mpr
      rw [meet_iff, List.any_eq_true]
      constructor
      · rintro ⟨v, hv, v1, v2⟩
        obtain ⟨q, hq, ht⟩ := snn_iff.mp v2
        obtain ⟨y, hy, _, _, y3, y4⟩ := FOK_free (hl q hq) hv ht
        refine ⟨q, hq, decide_eq_true ?_⟩
        rw [y3]
        refine mk_ext fun z hz => ?_
        have f1 := hall v (two_iff.mp v1) (cmp_in y4).2
        rw [← cmp_same hb.1 hy hv y4 z hz, ← cmp_same hb.1 hx10 hv f1 z hz]
      · rintro ⟨q, hq, e⟩
        refine ⟨x, hx10, two_iff.mpr hx2, snn_iff.mpr ⟨q, hq, ?_⟩⟩
        rw [of_decide_eq_true e, tb_mk' _ hx10]
        exact cmp_self hSx hPx
    refine ⟨fun hm => ?_, fun hm => ?_⟩
    · rw [e6, ← e7, hm]; rfl
    · rw [e6, ← e7, hm, if_neg e4, e5, e3]; rfl
end
section
theorem frAdd_sub {H : Nat → Nat → Bool} {S : Nat → Bool} {P : Nat → Nat → Bool} {PV : Nat → Bool} {l : List xFr} {a b : Nat} {q : xFr} (h : q ∈ l) : q ∈ frAdd H S P PV l a b := by
  unfold frAdd
  split
  · split
    · exact List.mem_append_left _ h
    · split
      · exact h
      · exact List.mem_append_left _ h
  · exact h
theorem chs_pick {L : List (List Nat)} {l : List xFr} (h : ∀ q ∈ l, nfit q.2 L ≠ 0) : chs L l = pick L l := by
  unfold chs
  rw [if_neg]
  · rfl
  · intro e
    obtain ⟨q, hq, e2⟩ := List.any_eq_true.mp e
    exact h q hq (Nat.eq_of_beq_eq_true e2)
theorem chs_no {L : List (List Nat)} {l : List xFr} {q : xFr} (h : q ∈ l) (h0 : nfit q.2 L = 0) : chs L l = none := by
  unfold chs
  rw [if_pos (List.any_eq_true.mpr ⟨q, h, by rw [h0]; rfl⟩)]
theorem c_choose_p {w : xW} {H : Nat → Nat → Bool} {S : Nat → Bool} {P : Nat → Nat → Bool} {PV : Nat → Bool} {E : Nat} {L : List (List Nat)} (hb : BIC H S) (hG : eG 18 19 w H S) (hP : eP 18 20 w P PV E) (hF : eF 18 21 22 w L) (hL : L.length ≤ 16) : xD MX1_chooseFragment [.ref 18] w (fun r w1 => r = some (.int (if (chs L (frs H S P PV 100)).isSome then 1 else 0)) ∧ (∀ q, chs L (frs H S P PV 100) = some q → eC 18 w1 L (some q)) ∧ xkq [(18, some 9), (18, some 10), (18, some 11), (18, some 12)] w w1) := by
  refine xD.of ?_
  show xQ MX1_chooseFragment (0, [some (.ref 18), none, none, none, none, none, none, none, none], [], w) _
  refine xQ.go 10 (F1 := (16, [some (.ref 18), none, none, none, none, none, none, none, none], [.int ((w.1 18 2) &&& ((w.1 18 3) ^^^ (-1)))], (xuI w 18 12 0))) rfl ?_
  rw [hG.2.1, hP.2.1, mk_andn]
  refine xQ.go 5 (F1 := (21, [some (.ref 18), some (.int (mk (fun v => S v && !PV v))), some (.int 0), some (.int 0), none, none, none, none, none], [], (xuI w 18 12 0))) rfl ?_
  refine xQ.loop (S := xW) (fun k s => (21, [some (.ref 18), some (.int (mk (fun v => S v && !PV v))), some (.int (mk (snn (frs H S P PV (10 * k))))), some (.int (nI k)), none, none, none, none, none], [], s)) (fun k s => (∀ q ∈ frs H S P PV (10 * k), nfit q.2 L ≠ 0) ∧ eC 18 s L (pick L (frs H S P PV (10 * k))) ∧ xkq [(18, some 9), (18, some 10), (18, some 11), (18, some 12)] w s) 10 (xuI w 18 12 0) (by rw [show mk (snn (frs H S P PV (10 * 0))) = 0 from mk_0.symm]; rfl) (⟨(fun q hq => by cases hq), by show (xuI w 18 12 0).1 18 12 = 0; simp [uI1], xkq_I xkq_rfl rfl⟩) ?_ ?_
  · intro k s hk hI K
    refine xQ.go 3 (F1 := (bif decide (10 ≤ (nI k)) then 172 else 27, [some (.ref 18), some (.int (mk (fun v => S v && !PV v))), some (.int (mk (snn (frs H S P PV (10 * k))))), some (.int (nI k)), none, none, none, none, none], [], s)) rfl ?_
    refine xQ.brF (decide_eq_false (nI_ge (b := 10) (by omega) (by omega))) ?_
    refine xQ.go 4 (F1 := (32, [some (.ref 18), some (.int (mk (fun v => S v && !PV v))), some (.int (mk (snn (frs H S P PV (10 * k))))), some (.int (nI k)), some (.int ((nI k) + 1)), none, none, none, none], [], s)) rfl ?_
    rw [show nI k + 1 = nI (k + 1) from (nI_succ k).symm]
    have hsk : ∀ n, n = k + 1 → frs H S P PV (10 * k + n) = frs H S P PV (10 * k) := fun n hn => pfold_skip (by omega) (by omega)
    refine xQ.loop (S := xW) (fun k2 s2 => (32, [some (.ref 18), some (.int (mk (fun v => S v && !PV v))), some (.int (mk (snn (frs H S P PV (10 * k + (k + 1 + k2)))))), some (.int (nI k)), some (.int (nI (k + 1 + k2))), none, none, none, none], [], s2)) (fun k2 s2 => (∀ q ∈ frs H S P PV (10 * k + (k + 1 + k2)), nfit q.2 L ≠ 0) ∧ eC 18 s2 L (pick L (frs H S P PV (10 * k + (k + 1 + k2)))) ∧ xkq [(18, some 9), (18, some 10), (18, some 11), (18, some 12)] w s2) (9 - k) s (by rw [hsk (k + 1 + 0) rfl]) (by rw [hsk (k + 1 + 0) rfl]; exact hI) ?_ ?_
    · intro k2 s2 hk2 hI2 K2
      obtain ⟨b, hbe⟩ : ∃ b, b = k + 1 + k2 := ⟨_, rfl⟩
      rw [show k + 1 + (k2 + 1) = b + 1 by omega] at K2
      rw [← hbe] at hI2 ⊢
      obtain ⟨i1, i2, i3⟩ := hI2
      have hfo : ∀ q ∈ frs H S P PV (10 * k + b), FOK H S P PV q := frs_ok hb _ (by omega)
      have hnx : frs H S P PV (10 * k + (b + 1)) = frAdd H S P PV (frs H S P PV (10 * k + b)) k b := pfold_next (by omega) (by omega)
      rw [hnx] at K2
      have hmono : ∀ q ∈ frAdd H S P PV (frs H S P PV (10 * k + b)) k b, q ∈ frs H S P PV 100 := fun q hq => by
        rw [← hnx] at hq
        exact pfold_mono (fun l => q ∈ l) (fun _ _ _ _ _ h => frAdd_sub h) hq 100 (by omega) (Nat.le_refl _)
      generalize frs H S P PV (10 * k + b) = l at *
      have skip : frAdd H S P PV l k b = l → ∀ x y z u : Option Value, xQ MX1_chooseFragment (160, [some (.ref 18), some (.int (mk (fun v => S v && !PV v))), some (.int (mk (snn l))), some (.int (nI k)), some (.int (nI b)), x, y, z, u], [], s2) (fun r w1 => r = some (.int (if (chs L (frs H S P PV 100)).isSome then 1 else 0)) ∧ (∀ q, chs L (frs H S P PV 100) = some q → eC 18 w1 L (some q)) ∧ xkq [(18, some 9), (18, some 10), (18, some 11), (18, some 12)] w w1) := by
        intro hsame x y z u
        refine xQ.less [some (.ref 18), some (.int (mk (fun v => S v && !PV v))), some (.int (mk (snn l))), some (.int (nI k)), some (.int (nI b)), none, none, none, none] (by simp [xleb]) ?_
        refine xQ.go 2 (F1 := (32, [some (.ref 18), some (.int (mk (fun v => S v && !PV v))), some (.int (mk (snn l))), some (.int (nI k)), some (.int ((nI b) + 1)), none, none, none, none], [], s2)) rfl ?_
        rw [← nI_succ]
        rw [hsame] at K2
        exact K2 s2 ⟨i1, i2, i3⟩
      refine xQ.go 3 (F1 := (bif decide (10 ≤ (nI b)) then 166 else 39, [some (.ref 18), some (.int (mk (fun v => S v && !PV v))), some (.int (mk (snn l))), some (.int (nI k)), some (.int (nI b)), none, none, none, none], [], s2)) rfl ?_
      refine xQ.brF (decide_eq_false (nI_ge (b := 10) (by omega) (by omega))) ?_
      refine xQ.go 1 (F1 := (40, [some (.ref 18), some (.int (mk (fun v => S v && !PV v))), some (.int (mk (snn l))), some (.int (nI k)), some (.int (nI b)), none, none, none, none], [.int (nI k)], s2)) rfl ?_
      refine xQ.call rfl (c_bit (show k < 10 by omega)) ?_
      show xQ MX1_chooseFragment (43, [some (.ref 18), some (.int (mk (fun v => S v && !PV v))), some (.int (mk (snn l))), some (.int (nI k)), some (.int (nI b)), none, none, none, none], [.int (mk (fun v => decide (v = k)))], s2) _
      refine xQ.go 1 (F1 := (45, [some (.ref 18), some (.int (mk (fun v => S v && !PV v))), some (.int (mk (snn l))), some (.int (nI k)), some (.int (nI b)), none, none, none, none], [.int (nI b), .int (mk (fun v => decide (v = k)))], s2)) rfl ?_
      refine xQ.call rfl (c_bit (show b < 10 by omega)) ?_
      show xQ MX1_chooseFragment (48, [some (.ref 18), some (.int (mk (fun v => S v && !PV v))), some (.int (mk (snn l))), some (.int (nI k)), some (.int (nI b)), none, none, none, none], [.int (mk (fun v => decide (v = b))), .int (mk (fun v => decide (v = k)))], s2) _
      refine xQ.go 1 (F1 := (49, [some (.ref 18), some (.int (mk (fun v => S v && !PV v))), some (.int (mk (snn l))), some (.int (nI k)), some (.int (nI b)), none, none, none, none], [.int ((mk (fun v => decide (v = k))) ||| (mk (fun v => decide (v = b))))], s2)) rfl ?_
      rw [mk_or, show (fun v => decide (v = k) || decide (v = b)) = two k b from rfl]
      refine xQ.go 4 (F1 := (56, [some (.ref 18), some (.int (mk (fun v => S v && !PV v))), some (.int (mk (snn l))), some (.int (nI k)), some (.int (nI b)), some (.int (mk (two k b))), none, none, none], [.int (nI k), .ref 19], s2)) rfl ?_
      refine xQ.call rfl (c_at rfl (by omega) (by omega)) ?_
      show xQ MX1_chooseFragment (59, [some (.ref 18), some (.int (mk (fun v => S v && !PV v))), some (.int (mk (snn l))), some (.int (nI k)), some (.int (nI b)), some (.int (mk (two k b))), none, none, none], [.int (s2.1 19 k)], s2) _
      rw [xkq_at i3 19 k, hG.1 k (by omega)]
      refine xQ.go 1 (F1 := (61, [some (.ref 18), some (.int (mk (fun v => S v && !PV v))), some (.int (mk (snn l))), some (.int (nI k)), some (.int (nI b)), some (.int (mk (two k b))), none, none, none], [.int (nI b), .int (mk (H k))], s2)) rfl ?_
      refine xQ.call rfl (c_has (show b < 10 by omega)) ?_
      show xQ MX1_chooseFragment (64, [some (.ref 18), some (.int (mk (fun v => S v && !PV v))), some (.int (mk (snn l))), some (.int (nI k)), some (.int (nI b)), some (.int (mk (two k b))), none, none, none], [.int (if H k b then 1 else 0)], s2) _
      refine xQ.go 1 (F1 := (bif decide ((if H k b then 1 else 0) = 0) then 87 else 67, [some (.ref 18), some (.int (mk (fun v => S v && !PV v))), some (.int (mk (snn l))), some (.int (nI k)), some (.int (nI b)), some (.int (mk (two k b))), none, none, none], [], s2)) rfl ?_
      cases hHk : H k b with
      | false =>
        refine xQ.brT (by decide) ?_
        refine xQ.go 4 (F1 := (bif decide (0 = 0) then 160 else 95, [some (.ref 18), some (.int (mk (fun v => S v && !PV v))), some (.int (mk (snn l))), some (.int (nI k)), some (.int (nI b)), some (.int (mk (two k b))), some (.int 0), none, none], [], s2)) rfl ?_
        refine xQ.brT (rfl) ?_
        exact skip (by unfold frAdd; rw [hHk]; rfl) _ _ _ _
      | true =>
        refine xQ.brF (by decide) ?_
        refine xQ.go 3 (F1 := (72, [some (.ref 18), some (.int (mk (fun v => S v && !PV v))), some (.int (mk (snn l))), some (.int (nI k)), some (.int (nI b)), some (.int (mk (two k b))), none, none, none], [.int (nI k), .ref 20], s2)) rfl ?_
        refine xQ.call rfl (c_at rfl (by omega) (by omega)) ?_
        show xQ MX1_chooseFragment (75, [some (.ref 18), some (.int (mk (fun v => S v && !PV v))), some (.int (mk (snn l))), some (.int (nI k)), some (.int (nI b)), some (.int (mk (two k b))), none, none, none], [.int (s2.1 20 k)], s2) _
        rw [xkq_at i3 20 k, hP.1 k (by omega)]
        refine xQ.go 1 (F1 := (77, [some (.ref 18), some (.int (mk (fun v => S v && !PV v))), some (.int (mk (snn l))), some (.int (nI k)), some (.int (nI b)), some (.int (mk (two k b))), none, none, none], [.int (nI b), .int (mk (P k))], s2)) rfl ?_
        refine xQ.call rfl (c_has (show b < 10 by omega)) ?_
        show xQ MX1_chooseFragment (80, [some (.ref 18), some (.int (mk (fun v => S v && !PV v))), some (.int (mk (snn l))), some (.int (nI k)), some (.int (nI b)), some (.int (mk (two k b))), none, none, none], [.int (if P k b then 1 else 0)], s2) _
        refine xQ.go 1 (F1 := (bif !decide ((if P k b then 1 else 0) = 0) then 87 else 83, [some (.ref 18), some (.int (mk (fun v => S v && !PV v))), some (.int (mk (snn l))), some (.int (nI k)), some (.int (nI b)), some (.int (mk (two k b))), none, none, none], [], s2)) rfl ?_
        cases hPk : P k b with
        | true =>
          refine xQ.brT (by decide) ?_
          refine xQ.go 4 (F1 := (bif decide (0 = 0) then 160 else 95, [some (.ref 18), some (.int (mk (fun v => S v && !PV v))), some (.int (mk (snn l))), some (.int (nI k)), some (.int (nI b)), some (.int (mk (two k b))), some (.int 0), none, none], [], s2)) rfl ?_
          refine xQ.brT (rfl) ?_
          exact skip (by unfold frAdd; rw [hHk, hPk]; rfl) _ _ _ _
        | false =>
          refine xQ.brF (by decide) ?_
          refine xQ.go 5 (F1 := (bif decide (1 = 0) then 160 else 95, [some (.ref 18), some (.int (mk (fun v => S v && !PV v))), some (.int (mk (snn l))), some (.int (nI k)), some (.int (nI b)), some (.int (mk (two k b))), some (.int 1), none, none], [], s2)) rfl ?_
          refine xQ.brF (rfl) ?_
          obtain ⟨fa, fb⟩ := frAdd_class hb hfo (show k < b by omega) (by omega) hHk hPk
          refine xQ.go 4 (F1 := (bif !decide (((mk (two k b)) &&& (mk (snn l))) = 0) then 160 else 102, [some (.ref 18), some (.int (mk (fun v => S v && !PV v))), some (.int (mk (snn l))), some (.int (nI k)), some (.int (nI b)), some (.int (mk (two k b))), some (.int 1), none, none], [], s2)) rfl ?_
          rw [mk_and]
          cases hm : meet (two k b) (snn l) with
          | true =>
            refine xQ.brT ?_ ?_
            · obtain ⟨z, z1, z2, z3⟩ := meet_iff.mp hm
              rw [decide_eq_false]
              · rfl
              · intro e
                have := mk_zero.mp e z z1
                rw [z2, z3] at this
                cases this
            exact skip (fa hm) _ _ _ _
          | false =>
            refine xQ.brF ?_ ?_
            · rw [decide_eq_true]
              · rfl
              · refine mk_zero.mpr (fun z hz => ?_)
                cases hq : (two k b z && snn l z) with
                | false => rfl
                | true =>
                  rw [Bool.and_eq_true] at hq
                  rw [meet_iff.mpr ⟨z, hz, hq.1, hq.2⟩] at hm
                  cases hm
            have fb := fb hm
            rw [fb] at K2 hmono
            refine xQ.go 5 (F1 := (110, [some (.ref 18), some (.int (mk (fun v => S v && !PV v))), some (.int (mk (snn l))), some (.int (nI k)), some (.int (nI b)), some (.int (mk (two k b))), some (.int 1), none, none], [.int ((mk (two k b)) &&& (mk (fun v => S v && !PV v))), .ref 19], s2)) rfl ?_
            rw [mk_and]
            refine xQ.go 1 (F1 := (111, [some (.ref 18), some (.int (mk (fun v => S v && !PV v))), some (.int (mk (snn l))), some (.int (nI k)), some (.int (nI b)), some (.int (mk (two k b))), some (.int 1), none, none], [.int (mk (fun v => S v && !PV v)), .int (mk (fun v => two k b v && (S v && !PV v))), .ref 19], s2)) rfl ?_
            refine xQ.call rfl (c_reach rfl (fun v hv => by rw [xkq_at i3 19 v]; exact hG.1 v hv)) ?_
            show xQ MX1_chooseFragment (114, [some (.ref 18), some (.int (mk (fun v => S v && !PV v))), some (.int (mk (snn l))), some (.int (nI k)), some (.int (nI b)), some (.int (mk (two k b))), some (.int 1), none, none], [.int (mk (cpo H S PV k b))], s2) _
            have com : ∀ (C : Nat → Bool), mk C = mk (if mk (cpo H S PV k b) = 0 then two k b else fun v => nb H (cpo H S PV k b) v && PV v) → xQ MX1_chooseFragment (140, [some (.ref 18), some (.int (mk (fun v => S v && !PV v))), some (.int (mk (snn l))), some (.int (nI k)), some (.int (nI b)), some (.int (mk (two k b))), some (.int 1), some (.int (mk (cpo H S PV k b))), none], [.int (mk C)], s2) (fun r w1 => r = some (.int (if (chs L (frs H S P PV 100)).isSome then 1 else 0)) ∧ (∀ q, chs L (frs H S P PV 100) = some q → eC 18 w1 L (some q)) ∧ xkq [(18, some 9), (18, some 10), (18, some 11), (18, some 12)] w w1) := by
              intro C hC
              rw [← hC] at K2 hmono
              refine xQ.go 5 (F1 := (147, [some (.ref 18), some (.int (mk (fun v => S v && !PV v))), some (.int ((mk (snn l)) ||| (mk (cpo H S PV k b)))), some (.int (nI k)), some (.int (nI b)), some (.int (mk (two k b))), some (.int 1), some (.int (mk (cpo H S PV k b))), some (.int (mk C))], [], s2)) rfl ?_
              have es : mk (snn l) ||| mk (cpo H S PV k b) = mk (snn (l ++ [(mk (cpo H S PV k b), mk C)])) := by
                rw [mk_or]
                exact mk_ext fun v hv => by rw [snn_add, tb_mk' _ hv]
              rw [es]
              obtain ⟨r2, w2, hc, hr2, hw2, hk3⟩ := c_weigh_p (w := s2) (x := mk (cpo H S PV k b)) (C := C) ⟨(xkq_at i3 18 8).trans hF.1, fun i c hi => ⟨(xkq_at i3 21 i).trans (hF.2 i c hi).1, fun x y hxy => (xkq_at i3 22 _).trans ((hF.2 i c hi).2 x y hxy)⟩⟩ hL i2
              subst hr2
              refine xQ.go 3 (F1 := (152, [some (.ref 18), some (.int (mk (fun v => S v && !PV v))), some (.int (mk (snn (l ++ [(mk (cpo H S PV k b), mk C)])))), some (.int (nI k)), some (.int (nI b)), some (.int (mk (two k b))), some (.int 1), some (.int (mk (cpo H S PV k b))), some (.int (mk C))], [.int (mk C), .int (mk (cpo H S PV k b)), .ref 18], s2)) rfl ?_
              refine xQ.call rfl (hc) ?_
              show xQ MX1_chooseFragment (155, [some (.ref 18), some (.int (mk (fun v => S v && !PV v))), some (.int (mk (snn (l ++ [(mk (cpo H S PV k b), mk C)])))), some (.int (nI k)), some (.int (nI b)), some (.int (mk (two k b))), some (.int 1), some (.int (mk (cpo H S PV k b))), some (.int (mk C))], [.int (if nfit (mk C) L = 0 then 0 else 1)], w2) _
              by_cases hn : nfit (mk C) L = 0
              · rw [if_pos hn]
                refine xQ.go 1 (F1 := (bif !decide (0 = 0) then 160 else 158, [some (.ref 18), some (.int (mk (fun v => S v && !PV v))), some (.int (mk (snn (l ++ [(mk (cpo H S PV k b), mk C)])))), some (.int (nI k)), some (.int (nI b)), some (.int (mk (two k b))), some (.int 1), some (.int (mk (cpo H S PV k b))), some (.int (mk C))], [], w2)) rfl ?_
                refine xQ.brF (rfl) ?_
                refine xQ.go 1 (F1 := (159, [some (.ref 18), some (.int (mk (fun v => S v && !PV v))), some (.int (mk (snn (l ++ [(mk (cpo H S PV k b), mk C)])))), some (.int (nI k)), some (.int (nI b)), some (.int (mk (two k b))), some (.int 1), some (.int (mk (cpo H S PV k b))), some (.int (mk C))], [.int 0], w2)) rfl ?_
                refine xQ.iret .boolean 1 rfl rfl (rfl) ?_
                have hno := chs_no (hmono _ (List.mem_append_right _ List.mem_cons_self)) hn
                rw [hno]
                exact ⟨rfl, (fun q hq => by cases hq), xkq_trans i3 hk3⟩
              · rw [if_neg hn]
                refine xQ.go 1 (F1 := (bif !decide (1 = 0) then 160 else 158, [some (.ref 18), some (.int (mk (fun v => S v && !PV v))), some (.int (mk (snn (l ++ [(mk (cpo H S PV k b), mk C)])))), some (.int (nI k)), some (.int (nI b)), some (.int (mk (two k b))), some (.int 1), some (.int (mk (cpo H S PV k b))), some (.int (mk C))], [], w2)) rfl ?_
                refine xQ.brT (rfl) ?_
                refine xQ.less [some (.ref 18), some (.int (mk (fun v => S v && !PV v))), some (.int (mk (snn (l ++ [(mk (cpo H S PV k b), mk C)])))), some (.int (nI k)), some (.int (nI b)), none, none, none, none] (by simp [xleb]) ?_
                refine xQ.go 2 (F1 := (32, [some (.ref 18), some (.int (mk (fun v => S v && !PV v))), some (.int (mk (snn (l ++ [(mk (cpo H S PV k b), mk C)])))), some (.int (nI k)), some (.int ((nI b) + 1)), none, none, none, none], [], w2)) rfl ?_
                rw [← nI_succ]
                refine K2 w2 ⟨fun q hq => ?_, hw2 hn, xkq_trans i3 hk3⟩
                rcases List.mem_append.mp hq with h | h
                · exact i1 q h
                · rw [List.mem_singleton.mp h]
                  exact hn
            by_cases hz : mk (cpo H S PV k b) = 0
            · refine xQ.go 3 (F1 := (bif !decide ((mk (cpo H S PV k b)) = 0) then 126 else 121, [some (.ref 18), some (.int (mk (fun v => S v && !PV v))), some (.int (mk (snn l))), some (.int (nI k)), some (.int (nI b)), some (.int (mk (two k b))), some (.int 1), some (.int (mk (cpo H S PV k b))), none], [], s2)) rfl ?_
              refine xQ.brF (by rw [hz]; rfl) ?_
              refine xQ.go 2 (F1 := (140, [some (.ref 18), some (.int (mk (fun v => S v && !PV v))), some (.int (mk (snn l))), some (.int (nI k)), some (.int (nI b)), some (.int (mk (two k b))), some (.int 1), some (.int (mk (cpo H S PV k b))), none], [.int (mk (two k b))], s2)) rfl ?_
              exact com _ (by rw [if_pos hz])
            · refine xQ.go 3 (F1 := (bif !decide ((mk (cpo H S PV k b)) = 0) then 126 else 121, [some (.ref 18), some (.int (mk (fun v => S v && !PV v))), some (.int (mk (snn l))), some (.int (nI k)), some (.int (nI b)), some (.int (mk (two k b))), some (.int 1), some (.int (mk (cpo H S PV k b))), none], [], s2)) rfl ?_
              refine xQ.brT (by rw [decide_eq_false hz]; rfl) ?_
              refine xQ.go 3 (F1 := (132, [some (.ref 18), some (.int (mk (fun v => S v && !PV v))), some (.int (mk (snn l))), some (.int (nI k)), some (.int (nI b)), some (.int (mk (two k b))), some (.int 1), some (.int (mk (cpo H S PV k b))), none], [.int (mk (cpo H S PV k b)), .ref 19], s2)) rfl ?_
              refine xQ.call rfl (c_around rfl (fun v hv => by rw [xkq_at i3 19 v]; exact hG.1 v hv)) ?_
              show xQ MX1_chooseFragment (135, [some (.ref 18), some (.int (mk (fun v => S v && !PV v))), some (.int (mk (snn l))), some (.int (nI k)), some (.int (nI b)), some (.int (mk (two k b))), some (.int 1), some (.int (mk (cpo H S PV k b))), none], [.int (mk (nb H (cpo H S PV k b)))], s2) _
              refine xQ.go 3 (F1 := (140, [some (.ref 18), some (.int (mk (fun v => S v && !PV v))), some (.int (mk (snn l))), some (.int (nI k)), some (.int (nI b)), some (.int (mk (two k b))), some (.int 1), some (.int (mk (cpo H S PV k b))), none], [.int ((mk (nb H (cpo H S PV k b))) &&& (s2.1 18 3))], s2)) rfl ?_
              rw [xkq_at i3 18 3, hP.2.1, mk_and]
              exact com _ (by rw [if_neg hz])
    · intro s2 hI2
      rw [show 10 * k + (k + 1 + (9 - k)) = 10 * (k + 1) by omega, show k + 1 + (9 - k) = 10 by omega] at *
      refine xQ.go 3 (F1 := (bif decide (10 ≤ (nI 10)) then 166 else 39, [some (.ref 18), some (.int (mk (fun v => S v && !PV v))), some (.int (mk (snn (frs H S P PV (10 * (k + 1)))))), some (.int (nI k)), some (.int (nI 10)), none, none, none, none], [], s2)) rfl ?_
      refine xQ.brT (rfl) ?_
      refine xQ.less [some (.ref 18), some (.int (mk (fun v => S v && !PV v))), some (.int (mk (snn (frs H S P PV (10 * (k + 1)))))), some (.int (nI k)), none, none, none, none, none] (by simp [xleb]) ?_
      refine xQ.go 2 (F1 := (21, [some (.ref 18), some (.int (mk (fun v => S v && !PV v))), some (.int (mk (snn (frs H S P PV (10 * (k + 1)))))), some (.int ((nI k) + 1)), none, none, none, none, none], [], s2)) rfl ?_
      rw [← nI_succ]
      exact K s2 hI2
  · intro s hI
    obtain ⟨i1, i2, i3⟩ := hI
    refine xQ.go 3 (F1 := (bif decide (10 ≤ (nI 10)) then 172 else 27, [some (.ref 18), some (.int (mk (fun v => S v && !PV v))), some (.int (mk (snn (frs H S P PV (10 * 10))))), some (.int (nI 10)), none, none, none, none, none], [], s)) rfl ?_
    refine xQ.brT (rfl) ?_
    rw [← chs_pick i1] at i2
    show xQ MX1_chooseFragment _ (fun r w1 => r = some (.int (if (chs L (frs H S P PV (10 * 10))).isSome then 1 else 0)) ∧ (∀ q, chs L (frs H S P PV (10 * 10)) = some q → eC 18 w1 L (some q)) ∧ xkq [(18, some 9), (18, some 10), (18, some 11), (18, some 12)] w w1)
    refine xQ.go 3 (F1 := (bif decide ((s.1 18 12) ≤ 0) then 183 else 179, [some (.ref 18), some (.int (mk (fun v => S v && !PV v))), some (.int (mk (snn (frs H S P PV (10 * 10))))), some (.int (nI 10)), none, none, none, none, none], [], s)) rfl ?_
    cases hc : chs L (frs H S P PV (10 * 10)) with
    | none =>
      rw [hc] at i2
      refine xQ.brT (by rw [show s.1 18 12 = 0 from i2]; rfl) ?_
      refine xQ.go 1 (F1 := (184, [some (.ref 18), some (.int (mk (fun v => S v && !PV v))), some (.int (mk (snn (frs H S P PV (10 * 10))))), some (.int (nI 10)), none, none, none, none, none], [.int 0], s)) rfl ?_
      refine xQ.iret .boolean 1 rfl rfl (rfl) ?_
      exact ⟨rfl, (fun q hq => by cases hq), i3⟩
    | some q =>
      rw [hc] at i2
      have hle : nfit q.2 L ≤ 16 := Nat.le_trans (List.length_filter_le _ _) hL
      have h0 := i2.2.2.2.2
      refine xQ.brF (by rw [i2.2.2.2.1]; exact decide_eq_false (nI_ge (a := 0) (by omega) (by omega))) ?_
      refine xQ.go 2 (F1 := (184, [some (.ref 18), some (.int (mk (fun v => S v && !PV v))), some (.int (mk (snn (frs H S P PV (10 * 10))))), some (.int (nI 10)), none, none, none, none, none], [.int 1], s)) rfl ?_
      refine xQ.iret .boolean 1 rfl rfl (rfl) ?_
      exact ⟨rfl, fun q2 hq => by cases hq; exact i2, i3⟩

theorem c_choose_t {w : xW} {H : Nat → Nat → Bool} {S : Nat → Bool} {P : Nat → Nat → Bool} {PV : Nat → Bool} {E : Nat} {L : List (List Nat)} (hb : BIC H S) (hG : eG 32 33 w H S) (hP : eP 32 34 w P PV E) (hF : eF 32 35 36 w L) (hL : L.length ≤ 16) : xD MX1_chooseFragment [.ref 32] w (fun r w1 => r = some (.int (if (chs L (frs H S P PV 100)).isSome then 1 else 0)) ∧ (∀ q, chs L (frs H S P PV 100) = some q → eC 32 w1 L (some q)) ∧ xkq [(32, some 9), (32, some 10), (32, some 11), (32, some 12)] w w1) := by
  refine xD.of ?_
  show xQ MX1_chooseFragment (0, [some (.ref 32), none, none, none, none, none, none, none, none], [], w) _
  refine xQ.go 10 (F1 := (16, [some (.ref 32), none, none, none, none, none, none, none, none], [.int ((w.1 32 2) &&& ((w.1 32 3) ^^^ (-1)))], (xuI w 32 12 0))) rfl ?_
  rw [hG.2.1, hP.2.1, mk_andn]
  refine xQ.go 5 (F1 := (21, [some (.ref 32), some (.int (mk (fun v => S v && !PV v))), some (.int 0), some (.int 0), none, none, none, none, none], [], (xuI w 32 12 0))) rfl ?_
  refine xQ.loop (S := xW) (fun k s => (21, [some (.ref 32), some (.int (mk (fun v => S v && !PV v))), some (.int (mk (snn (frs H S P PV (10 * k))))), some (.int (nI k)), none, none, none, none, none], [], s)) (fun k s => (∀ q ∈ frs H S P PV (10 * k), nfit q.2 L ≠ 0) ∧ eC 32 s L (pick L (frs H S P PV (10 * k))) ∧ xkq [(32, some 9), (32, some 10), (32, some 11), (32, some 12)] w s) 10 (xuI w 32 12 0) (by rw [show mk (snn (frs H S P PV (10 * 0))) = 0 from mk_0.symm]; rfl) (⟨(fun q hq => by cases hq), by show (xuI w 32 12 0).1 32 12 = 0; simp [uI1], xkq_I xkq_rfl rfl⟩) ?_ ?_
  · intro k s hk hI K
    refine xQ.go 3 (F1 := (bif decide (10 ≤ (nI k)) then 172 else 27, [some (.ref 32), some (.int (mk (fun v => S v && !PV v))), some (.int (mk (snn (frs H S P PV (10 * k))))), some (.int (nI k)), none, none, none, none, none], [], s)) rfl ?_
    refine xQ.brF (decide_eq_false (nI_ge (b := 10) (by omega) (by omega))) ?_
    refine xQ.go 4 (F1 := (32, [some (.ref 32), some (.int (mk (fun v => S v && !PV v))), some (.int (mk (snn (frs H S P PV (10 * k))))), some (.int (nI k)), some (.int ((nI k) + 1)), none, none, none, none], [], s)) rfl ?_
    rw [show nI k + 1 = nI (k + 1) from (nI_succ k).symm]
    have hsk : ∀ n, n = k + 1 → frs H S P PV (10 * k + n) = frs H S P PV (10 * k) := fun n hn => pfold_skip (by omega) (by omega)
    refine xQ.loop (S := xW) (fun k2 s2 => (32, [some (.ref 32), some (.int (mk (fun v => S v && !PV v))), some (.int (mk (snn (frs H S P PV (10 * k + (k + 1 + k2)))))), some (.int (nI k)), some (.int (nI (k + 1 + k2))), none, none, none, none], [], s2)) (fun k2 s2 => (∀ q ∈ frs H S P PV (10 * k + (k + 1 + k2)), nfit q.2 L ≠ 0) ∧ eC 32 s2 L (pick L (frs H S P PV (10 * k + (k + 1 + k2)))) ∧ xkq [(32, some 9), (32, some 10), (32, some 11), (32, some 12)] w s2) (9 - k) s (by rw [hsk (k + 1 + 0) rfl]) (by rw [hsk (k + 1 + 0) rfl]; exact hI) ?_ ?_
    · intro k2 s2 hk2 hI2 K2
      obtain ⟨b, hbe⟩ : ∃ b, b = k + 1 + k2 := ⟨_, rfl⟩
      rw [show k + 1 + (k2 + 1) = b + 1 by omega] at K2
      rw [← hbe] at hI2 ⊢
      obtain ⟨i1, i2, i3⟩ := hI2
      have hfo : ∀ q ∈ frs H S P PV (10 * k + b), FOK H S P PV q := frs_ok hb _ (by omega)
      have hnx : frs H S P PV (10 * k + (b + 1)) = frAdd H S P PV (frs H S P PV (10 * k + b)) k b := pfold_next (by omega) (by omega)
      rw [hnx] at K2
      have hmono : ∀ q ∈ frAdd H S P PV (frs H S P PV (10 * k + b)) k b, q ∈ frs H S P PV 100 := fun q hq => by
        rw [← hnx] at hq
        exact pfold_mono (fun l => q ∈ l) (fun _ _ _ _ _ h => frAdd_sub h) hq 100 (by omega) (Nat.le_refl _)
      generalize frs H S P PV (10 * k + b) = l at *
      have skip : frAdd H S P PV l k b = l → ∀ x y z u : Option Value, xQ MX1_chooseFragment (160, [some (.ref 32), some (.int (mk (fun v => S v && !PV v))), some (.int (mk (snn l))), some (.int (nI k)), some (.int (nI b)), x, y, z, u], [], s2) (fun r w1 => r = some (.int (if (chs L (frs H S P PV 100)).isSome then 1 else 0)) ∧ (∀ q, chs L (frs H S P PV 100) = some q → eC 32 w1 L (some q)) ∧ xkq [(32, some 9), (32, some 10), (32, some 11), (32, some 12)] w w1) := by
        intro hsame x y z u
        refine xQ.less [some (.ref 32), some (.int (mk (fun v => S v && !PV v))), some (.int (mk (snn l))), some (.int (nI k)), some (.int (nI b)), none, none, none, none] (by simp [xleb]) ?_
        refine xQ.go 2 (F1 := (32, [some (.ref 32), some (.int (mk (fun v => S v && !PV v))), some (.int (mk (snn l))), some (.int (nI k)), some (.int ((nI b) + 1)), none, none, none, none], [], s2)) rfl ?_
        rw [← nI_succ]
        rw [hsame] at K2
        exact K2 s2 ⟨i1, i2, i3⟩
      refine xQ.go 3 (F1 := (bif decide (10 ≤ (nI b)) then 166 else 39, [some (.ref 32), some (.int (mk (fun v => S v && !PV v))), some (.int (mk (snn l))), some (.int (nI k)), some (.int (nI b)), none, none, none, none], [], s2)) rfl ?_
      refine xQ.brF (decide_eq_false (nI_ge (b := 10) (by omega) (by omega))) ?_
      refine xQ.go 1 (F1 := (40, [some (.ref 32), some (.int (mk (fun v => S v && !PV v))), some (.int (mk (snn l))), some (.int (nI k)), some (.int (nI b)), none, none, none, none], [.int (nI k)], s2)) rfl ?_
      refine xQ.call rfl (c_bit (show k < 10 by omega)) ?_
      show xQ MX1_chooseFragment (43, [some (.ref 32), some (.int (mk (fun v => S v && !PV v))), some (.int (mk (snn l))), some (.int (nI k)), some (.int (nI b)), none, none, none, none], [.int (mk (fun v => decide (v = k)))], s2) _
      refine xQ.go 1 (F1 := (45, [some (.ref 32), some (.int (mk (fun v => S v && !PV v))), some (.int (mk (snn l))), some (.int (nI k)), some (.int (nI b)), none, none, none, none], [.int (nI b), .int (mk (fun v => decide (v = k)))], s2)) rfl ?_
      refine xQ.call rfl (c_bit (show b < 10 by omega)) ?_
      show xQ MX1_chooseFragment (48, [some (.ref 32), some (.int (mk (fun v => S v && !PV v))), some (.int (mk (snn l))), some (.int (nI k)), some (.int (nI b)), none, none, none, none], [.int (mk (fun v => decide (v = b))), .int (mk (fun v => decide (v = k)))], s2) _
      refine xQ.go 1 (F1 := (49, [some (.ref 32), some (.int (mk (fun v => S v && !PV v))), some (.int (mk (snn l))), some (.int (nI k)), some (.int (nI b)), none, none, none, none], [.int ((mk (fun v => decide (v = k))) ||| (mk (fun v => decide (v = b))))], s2)) rfl ?_
      rw [mk_or, show (fun v => decide (v = k) || decide (v = b)) = two k b from rfl]
      refine xQ.go 4 (F1 := (56, [some (.ref 32), some (.int (mk (fun v => S v && !PV v))), some (.int (mk (snn l))), some (.int (nI k)), some (.int (nI b)), some (.int (mk (two k b))), none, none, none], [.int (nI k), .ref 33], s2)) rfl ?_
      refine xQ.call rfl (c_at rfl (by omega) (by omega)) ?_
      show xQ MX1_chooseFragment (59, [some (.ref 32), some (.int (mk (fun v => S v && !PV v))), some (.int (mk (snn l))), some (.int (nI k)), some (.int (nI b)), some (.int (mk (two k b))), none, none, none], [.int (s2.1 33 k)], s2) _
      rw [xkq_at i3 33 k, hG.1 k (by omega)]
      refine xQ.go 1 (F1 := (61, [some (.ref 32), some (.int (mk (fun v => S v && !PV v))), some (.int (mk (snn l))), some (.int (nI k)), some (.int (nI b)), some (.int (mk (two k b))), none, none, none], [.int (nI b), .int (mk (H k))], s2)) rfl ?_
      refine xQ.call rfl (c_has (show b < 10 by omega)) ?_
      show xQ MX1_chooseFragment (64, [some (.ref 32), some (.int (mk (fun v => S v && !PV v))), some (.int (mk (snn l))), some (.int (nI k)), some (.int (nI b)), some (.int (mk (two k b))), none, none, none], [.int (if H k b then 1 else 0)], s2) _
      refine xQ.go 1 (F1 := (bif decide ((if H k b then 1 else 0) = 0) then 87 else 67, [some (.ref 32), some (.int (mk (fun v => S v && !PV v))), some (.int (mk (snn l))), some (.int (nI k)), some (.int (nI b)), some (.int (mk (two k b))), none, none, none], [], s2)) rfl ?_
      cases hHk : H k b with
      | false =>
        refine xQ.brT (by decide) ?_
        refine xQ.go 4 (F1 := (bif decide (0 = 0) then 160 else 95, [some (.ref 32), some (.int (mk (fun v => S v && !PV v))), some (.int (mk (snn l))), some (.int (nI k)), some (.int (nI b)), some (.int (mk (two k b))), some (.int 0), none, none], [], s2)) rfl ?_
        refine xQ.brT (rfl) ?_
        exact skip (by unfold frAdd; rw [hHk]; rfl) _ _ _ _
      | true =>
        refine xQ.brF (by decide) ?_
        refine xQ.go 3 (F1 := (72, [some (.ref 32), some (.int (mk (fun v => S v && !PV v))), some (.int (mk (snn l))), some (.int (nI k)), some (.int (nI b)), some (.int (mk (two k b))), none, none, none], [.int (nI k), .ref 34], s2)) rfl ?_
        refine xQ.call rfl (c_at rfl (by omega) (by omega)) ?_
        show xQ MX1_chooseFragment (75, [some (.ref 32), some (.int (mk (fun v => S v && !PV v))), some (.int (mk (snn l))), some (.int (nI k)), some (.int (nI b)), some (.int (mk (two k b))), none, none, none], [.int (s2.1 34 k)], s2) _
        rw [xkq_at i3 34 k, hP.1 k (by omega)]
        refine xQ.go 1 (F1 := (77, [some (.ref 32), some (.int (mk (fun v => S v && !PV v))), some (.int (mk (snn l))), some (.int (nI k)), some (.int (nI b)), some (.int (mk (two k b))), none, none, none], [.int (nI b), .int (mk (P k))], s2)) rfl ?_
        refine xQ.call rfl (c_has (show b < 10 by omega)) ?_
        show xQ MX1_chooseFragment (80, [some (.ref 32), some (.int (mk (fun v => S v && !PV v))), some (.int (mk (snn l))), some (.int (nI k)), some (.int (nI b)), some (.int (mk (two k b))), none, none, none], [.int (if P k b then 1 else 0)], s2) _
        refine xQ.go 1 (F1 := (bif !decide ((if P k b then 1 else 0) = 0) then 87 else 83, [some (.ref 32), some (.int (mk (fun v => S v && !PV v))), some (.int (mk (snn l))), some (.int (nI k)), some (.int (nI b)), some (.int (mk (two k b))), none, none, none], [], s2)) rfl ?_
        cases hPk : P k b with
        | true =>
          refine xQ.brT (by decide) ?_
          refine xQ.go 4 (F1 := (bif decide (0 = 0) then 160 else 95, [some (.ref 32), some (.int (mk (fun v => S v && !PV v))), some (.int (mk (snn l))), some (.int (nI k)), some (.int (nI b)), some (.int (mk (two k b))), some (.int 0), none, none], [], s2)) rfl ?_
          refine xQ.brT (rfl) ?_
          exact skip (by unfold frAdd; rw [hHk, hPk]; rfl) _ _ _ _
        | false =>
          refine xQ.brF (by decide) ?_
          refine xQ.go 5 (F1 := (bif decide (1 = 0) then 160 else 95, [some (.ref 32), some (.int (mk (fun v => S v && !PV v))), some (.int (mk (snn l))), some (.int (nI k)), some (.int (nI b)), some (.int (mk (two k b))), some (.int 1), none, none], [], s2)) rfl ?_
          refine xQ.brF (rfl) ?_
          obtain ⟨fa, fb⟩ := frAdd_class hb hfo (show k < b by omega) (by omega) hHk hPk
          refine xQ.go 4 (F1 := (bif !decide (((mk (two k b)) &&& (mk (snn l))) = 0) then 160 else 102, [some (.ref 32), some (.int (mk (fun v => S v && !PV v))), some (.int (mk (snn l))), some (.int (nI k)), some (.int (nI b)), some (.int (mk (two k b))), some (.int 1), none, none], [], s2)) rfl ?_
          rw [mk_and]
          cases hm : meet (two k b) (snn l) with
          | true =>
            refine xQ.brT ?_ ?_
            · obtain ⟨z, z1, z2, z3⟩ := meet_iff.mp hm
              rw [decide_eq_false]
              · rfl
              · intro e
                have := mk_zero.mp e z z1
                rw [z2, z3] at this
                cases this
            exact skip (fa hm) _ _ _ _
          | false =>
            refine xQ.brF ?_ ?_
            · rw [decide_eq_true]
              · rfl
              · refine mk_zero.mpr (fun z hz => ?_)
                cases hq : (two k b z && snn l z) with
                | false => rfl
                | true =>
                  rw [Bool.and_eq_true] at hq
                  rw [meet_iff.mpr ⟨z, hz, hq.1, hq.2⟩] at hm
                  cases hm
            have fb := fb hm
            rw [fb] at K2 hmono
            refine xQ.go 5 (F1 := (110, [some (.ref 32), some (.int (mk (fun v => S v && !PV v))), some (.int (mk (snn l))), some (.int (nI k)), some (.int (nI b)), some (.int (mk (two k b))), some (.int 1), none, none], [.int ((mk (two k b)) &&& (mk (fun v => S v && !PV v))), .ref 33], s2)) rfl ?_
            rw [mk_and]
            refine xQ.go 1 (F1 := (111, [some (.ref 32), some (.int (mk (fun v => S v && !PV v))), some (.int (mk (snn l))), some (.int (nI k)), some (.int (nI b)), some (.int (mk (two k b))), some (.int 1), none, none], [.int (mk (fun v => S v && !PV v)), .int (mk (fun v => two k b v && (S v && !PV v))), .ref 33], s2)) rfl ?_
            refine xQ.call rfl (c_reach rfl (fun v hv => by rw [xkq_at i3 33 v]; exact hG.1 v hv)) ?_
            show xQ MX1_chooseFragment (114, [some (.ref 32), some (.int (mk (fun v => S v && !PV v))), some (.int (mk (snn l))), some (.int (nI k)), some (.int (nI b)), some (.int (mk (two k b))), some (.int 1), none, none], [.int (mk (cpo H S PV k b))], s2) _
            have com : ∀ (C : Nat → Bool), mk C = mk (if mk (cpo H S PV k b) = 0 then two k b else fun v => nb H (cpo H S PV k b) v && PV v) → xQ MX1_chooseFragment (140, [some (.ref 32), some (.int (mk (fun v => S v && !PV v))), some (.int (mk (snn l))), some (.int (nI k)), some (.int (nI b)), some (.int (mk (two k b))), some (.int 1), some (.int (mk (cpo H S PV k b))), none], [.int (mk C)], s2) (fun r w1 => r = some (.int (if (chs L (frs H S P PV 100)).isSome then 1 else 0)) ∧ (∀ q, chs L (frs H S P PV 100) = some q → eC 32 w1 L (some q)) ∧ xkq [(32, some 9), (32, some 10), (32, some 11), (32, some 12)] w w1) := by
              intro C hC
              rw [← hC] at K2 hmono
              refine xQ.go 5 (F1 := (147, [some (.ref 32), some (.int (mk (fun v => S v && !PV v))), some (.int ((mk (snn l)) ||| (mk (cpo H S PV k b)))), some (.int (nI k)), some (.int (nI b)), some (.int (mk (two k b))), some (.int 1), some (.int (mk (cpo H S PV k b))), some (.int (mk C))], [], s2)) rfl ?_
              have es : mk (snn l) ||| mk (cpo H S PV k b) = mk (snn (l ++ [(mk (cpo H S PV k b), mk C)])) := by
                rw [mk_or]
                exact mk_ext fun v hv => by rw [snn_add, tb_mk' _ hv]
              rw [es]
              obtain ⟨r2, w2, hc, hr2, hw2, hk3⟩ := c_weigh_t (w := s2) (x := mk (cpo H S PV k b)) (C := C) ⟨(xkq_at i3 32 8).trans hF.1, fun i c hi => ⟨(xkq_at i3 35 i).trans (hF.2 i c hi).1, fun x y hxy => (xkq_at i3 36 _).trans ((hF.2 i c hi).2 x y hxy)⟩⟩ hL i2
              subst hr2
              refine xQ.go 3 (F1 := (152, [some (.ref 32), some (.int (mk (fun v => S v && !PV v))), some (.int (mk (snn (l ++ [(mk (cpo H S PV k b), mk C)])))), some (.int (nI k)), some (.int (nI b)), some (.int (mk (two k b))), some (.int 1), some (.int (mk (cpo H S PV k b))), some (.int (mk C))], [.int (mk C), .int (mk (cpo H S PV k b)), .ref 32], s2)) rfl ?_
              refine xQ.call rfl (hc) ?_
              show xQ MX1_chooseFragment (155, [some (.ref 32), some (.int (mk (fun v => S v && !PV v))), some (.int (mk (snn (l ++ [(mk (cpo H S PV k b), mk C)])))), some (.int (nI k)), some (.int (nI b)), some (.int (mk (two k b))), some (.int 1), some (.int (mk (cpo H S PV k b))), some (.int (mk C))], [.int (if nfit (mk C) L = 0 then 0 else 1)], w2) _
              by_cases hn : nfit (mk C) L = 0
              · rw [if_pos hn]
                refine xQ.go 1 (F1 := (bif !decide (0 = 0) then 160 else 158, [some (.ref 32), some (.int (mk (fun v => S v && !PV v))), some (.int (mk (snn (l ++ [(mk (cpo H S PV k b), mk C)])))), some (.int (nI k)), some (.int (nI b)), some (.int (mk (two k b))), some (.int 1), some (.int (mk (cpo H S PV k b))), some (.int (mk C))], [], w2)) rfl ?_
                refine xQ.brF (rfl) ?_
                refine xQ.go 1 (F1 := (159, [some (.ref 32), some (.int (mk (fun v => S v && !PV v))), some (.int (mk (snn (l ++ [(mk (cpo H S PV k b), mk C)])))), some (.int (nI k)), some (.int (nI b)), some (.int (mk (two k b))), some (.int 1), some (.int (mk (cpo H S PV k b))), some (.int (mk C))], [.int 0], w2)) rfl ?_
                refine xQ.iret .boolean 1 rfl rfl (rfl) ?_
                have hno := chs_no (hmono _ (List.mem_append_right _ List.mem_cons_self)) hn
                rw [hno]
                exact ⟨rfl, (fun q hq => by cases hq), xkq_trans i3 hk3⟩
              · rw [if_neg hn]
                refine xQ.go 1 (F1 := (bif !decide (1 = 0) then 160 else 158, [some (.ref 32), some (.int (mk (fun v => S v && !PV v))), some (.int (mk (snn (l ++ [(mk (cpo H S PV k b), mk C)])))), some (.int (nI k)), some (.int (nI b)), some (.int (mk (two k b))), some (.int 1), some (.int (mk (cpo H S PV k b))), some (.int (mk C))], [], w2)) rfl ?_
                refine xQ.brT (rfl) ?_
                refine xQ.less [some (.ref 32), some (.int (mk (fun v => S v && !PV v))), some (.int (mk (snn (l ++ [(mk (cpo H S PV k b), mk C)])))), some (.int (nI k)), some (.int (nI b)), none, none, none, none] (by simp [xleb]) ?_
                refine xQ.go 2 (F1 := (32, [some (.ref 32), some (.int (mk (fun v => S v && !PV v))), some (.int (mk (snn (l ++ [(mk (cpo H S PV k b), mk C)])))), some (.int (nI k)), some (.int ((nI b) + 1)), none, none, none, none], [], w2)) rfl ?_
                rw [← nI_succ]
                refine K2 w2 ⟨fun q hq => ?_, hw2 hn, xkq_trans i3 hk3⟩
                rcases List.mem_append.mp hq with h | h
                · exact i1 q h
                · rw [List.mem_singleton.mp h]
                  exact hn
            by_cases hz : mk (cpo H S PV k b) = 0
            · refine xQ.go 3 (F1 := (bif !decide ((mk (cpo H S PV k b)) = 0) then 126 else 121, [some (.ref 32), some (.int (mk (fun v => S v && !PV v))), some (.int (mk (snn l))), some (.int (nI k)), some (.int (nI b)), some (.int (mk (two k b))), some (.int 1), some (.int (mk (cpo H S PV k b))), none], [], s2)) rfl ?_
              refine xQ.brF (by rw [hz]; rfl) ?_
              refine xQ.go 2 (F1 := (140, [some (.ref 32), some (.int (mk (fun v => S v && !PV v))), some (.int (mk (snn l))), some (.int (nI k)), some (.int (nI b)), some (.int (mk (two k b))), some (.int 1), some (.int (mk (cpo H S PV k b))), none], [.int (mk (two k b))], s2)) rfl ?_
              exact com _ (by rw [if_pos hz])
            · refine xQ.go 3 (F1 := (bif !decide ((mk (cpo H S PV k b)) = 0) then 126 else 121, [some (.ref 32), some (.int (mk (fun v => S v && !PV v))), some (.int (mk (snn l))), some (.int (nI k)), some (.int (nI b)), some (.int (mk (two k b))), some (.int 1), some (.int (mk (cpo H S PV k b))), none], [], s2)) rfl ?_
              refine xQ.brT (by rw [decide_eq_false hz]; rfl) ?_
              refine xQ.go 3 (F1 := (132, [some (.ref 32), some (.int (mk (fun v => S v && !PV v))), some (.int (mk (snn l))), some (.int (nI k)), some (.int (nI b)), some (.int (mk (two k b))), some (.int 1), some (.int (mk (cpo H S PV k b))), none], [.int (mk (cpo H S PV k b)), .ref 33], s2)) rfl ?_
              refine xQ.call rfl (c_around rfl (fun v hv => by rw [xkq_at i3 33 v]; exact hG.1 v hv)) ?_
              show xQ MX1_chooseFragment (135, [some (.ref 32), some (.int (mk (fun v => S v && !PV v))), some (.int (mk (snn l))), some (.int (nI k)), some (.int (nI b)), some (.int (mk (two k b))), some (.int 1), some (.int (mk (cpo H S PV k b))), none], [.int (mk (nb H (cpo H S PV k b)))], s2) _
              refine xQ.go 3 (F1 := (140, [some (.ref 32), some (.int (mk (fun v => S v && !PV v))), some (.int (mk (snn l))), some (.int (nI k)), some (.int (nI b)), some (.int (mk (two k b))), some (.int 1), some (.int (mk (cpo H S PV k b))), none], [.int ((mk (nb H (cpo H S PV k b))) &&& (s2.1 32 3))], s2)) rfl ?_
              rw [xkq_at i3 32 3, hP.2.1, mk_and]
              exact com _ (by rw [if_neg hz])
    · intro s2 hI2
      rw [show 10 * k + (k + 1 + (9 - k)) = 10 * (k + 1) by omega, show k + 1 + (9 - k) = 10 by omega] at *
      refine xQ.go 3 (F1 := (bif decide (10 ≤ (nI 10)) then 166 else 39, [some (.ref 32), some (.int (mk (fun v => S v && !PV v))), some (.int (mk (snn (frs H S P PV (10 * (k + 1)))))), some (.int (nI k)), some (.int (nI 10)), none, none, none, none], [], s2)) rfl ?_
      refine xQ.brT (rfl) ?_
      refine xQ.less [some (.ref 32), some (.int (mk (fun v => S v && !PV v))), some (.int (mk (snn (frs H S P PV (10 * (k + 1)))))), some (.int (nI k)), none, none, none, none, none] (by simp [xleb]) ?_
      refine xQ.go 2 (F1 := (21, [some (.ref 32), some (.int (mk (fun v => S v && !PV v))), some (.int (mk (snn (frs H S P PV (10 * (k + 1)))))), some (.int ((nI k) + 1)), none, none, none, none, none], [], s2)) rfl ?_
      rw [← nI_succ]
      exact K s2 hI2
  · intro s hI
    obtain ⟨i1, i2, i3⟩ := hI
    refine xQ.go 3 (F1 := (bif decide (10 ≤ (nI 10)) then 172 else 27, [some (.ref 32), some (.int (mk (fun v => S v && !PV v))), some (.int (mk (snn (frs H S P PV (10 * 10))))), some (.int (nI 10)), none, none, none, none, none], [], s)) rfl ?_
    refine xQ.brT (rfl) ?_
    rw [← chs_pick i1] at i2
    show xQ MX1_chooseFragment _ (fun r w1 => r = some (.int (if (chs L (frs H S P PV (10 * 10))).isSome then 1 else 0)) ∧ (∀ q, chs L (frs H S P PV (10 * 10)) = some q → eC 32 w1 L (some q)) ∧ xkq [(32, some 9), (32, some 10), (32, some 11), (32, some 12)] w w1)
    refine xQ.go 3 (F1 := (bif decide ((s.1 32 12) ≤ 0) then 183 else 179, [some (.ref 32), some (.int (mk (fun v => S v && !PV v))), some (.int (mk (snn (frs H S P PV (10 * 10))))), some (.int (nI 10)), none, none, none, none, none], [], s)) rfl ?_
    cases hc : chs L (frs H S P PV (10 * 10)) with
    | none =>
      rw [hc] at i2
      refine xQ.brT (by rw [show s.1 32 12 = 0 from i2]; rfl) ?_
      refine xQ.go 1 (F1 := (184, [some (.ref 32), some (.int (mk (fun v => S v && !PV v))), some (.int (mk (snn (frs H S P PV (10 * 10))))), some (.int (nI 10)), none, none, none, none, none], [.int 0], s)) rfl ?_
      refine xQ.iret .boolean 1 rfl rfl (rfl) ?_
      exact ⟨rfl, (fun q hq => by cases hq), i3⟩
    | some q =>
      rw [hc] at i2
      have hle : nfit q.2 L ≤ 16 := Nat.le_trans (List.length_filter_le _ _) hL
      have h0 := i2.2.2.2.2
      refine xQ.brF (by rw [i2.2.2.2.1]; exact decide_eq_false (nI_ge (a := 0) (by omega) (by omega))) ?_
      refine xQ.go 2 (F1 := (184, [some (.ref 32), some (.int (mk (fun v => S v && !PV v))), some (.int (mk (snn (frs H S P PV (10 * 10))))), some (.int (nI 10)), none, none, none, none, none], [.int 1], s)) rfl ?_
      refine xQ.iret .boolean 1 rfl rfl (rfl) ?_
      exact ⟨rfl, fun q2 hq => by cases hq; exact i2, i3⟩
end
section
theorem mk_tb (C : Nat → Bool) : mk (tb (mk C)) = mk C := mk_ext fun _ hv => tb_mk' C hv
theorem FOK_mk {H : Nat → Nat → Bool} {S : Nat → Bool} {P : Nat → Nat → Bool} {PV : Nat → Bool} {q : xFr} (h : FOK H S P PV q) : mk (tb q.1) = q.1 ∧ mk (tb q.2) = q.2 := by
  rcases h with ⟨h0, a, b, _, _, _, _, _, _, h1⟩ | ⟨x, _, _, _, h3, h4⟩
  · rw [h0, h1]
    exact ⟨by rw [mk_0]; exact mk_tb _, mk_tb _⟩
  · rw [h3, h4]
    exact ⟨mk_tb _, mk_tb _⟩
theorem FOK_con {H : Nat → Nat → Bool} {S : Nat → Bool} {P : Nat → Nat → Bool} {PV : Nat → Bool} {q : xFr} (h : FOK H S P PV q) {v : Nat} (hv : v < 10) (ht : tb q.2 v = true) : PV v = true := by
  rcases h with ⟨_, a, b, _, _, _, _, h2, h3, h1⟩ | ⟨x, _, _, _, _, h4⟩
  · rw [h1, tb_mk' _ hv] at ht
    rcases two_iff.mp ht with e | e <;> rw [e] <;> assumption
  · rw [h4, tb_mk' _ hv] at ht
    exact ((Bool.and_eq_true _ _).mp ht).2
theorem PTH_len {H : Nat → Nat → Bool} {S : Nat → Bool} {P : Nat → Nat → Bool} {PV : Nat → Bool} {q : xFr} {u z : Nat} {inn : List Nat} (hq : FOK H S P PV q) (h : PTH H S P PV q u inn z) : inn.length ≤ 8 := by
  obtain ⟨_, _, h3, h4, h5, h6, h7, h8, h9, _⟩ := h
  have hn : (u :: z :: inn).Nodup := by
    have f1 := FOK_con hq h3 h6
    have f2 := FOK_con hq h4 h7
    refine List.nodup_cons.mpr ⟨fun hm => ?_, List.nodup_cons.mpr ⟨fun hm => ?_, h8⟩⟩
    · rcases List.mem_cons.mp hm with e | e
      · exact h5 e
      · rw [(h9 u e).2.1] at f1; cases f1
    · rw [(h9 z hm).2.1] at f2; cases f2
  have hc := cnt_list hn (fun v hv => by
    rcases List.mem_cons.mp hv with e | e
    · omega
    · rcases List.mem_cons.mp e with e | e
      · omega
      · exact (h9 v e).1)
  have := cnt_le (fun v => decide (v ∈ u :: z :: inn)) 10
  rw [hc] at this
  simp only [List.length_cons] at this
  omega
theorem c_cpath_p {w : xW} {H : Nat → Nat → Bool} {S : Nat → Bool} {P : Nat → Nat → Bool} {PV : Nat → Bool} {L : List (List Nat)} {q : xFr} {u z : Nat} {inn : List Nat} (hb : BIC H S) (hG : eG 18 19 w H S) (hC : eC 18 w L (some q)) (hq : FOK H S P PV q) (hp : PTH H S P PV q u inn z) : xD MX1_choosePath [.ref 18] w (fun r w1 => r = some (.int 1) ∧ eL 18 23 w1 (pth H q) ∧ xkq [(18, some 14), (23, none), (24, none)] w w1) := by
  have h8 := PTH_len hq hp
  obtain ⟨p1, p2, p3, p4, p5, p6, p7, p8, p9, p10, p11, p12⟩ := hp
  obtain ⟨m1, m2⟩ := FOK_mk hq
  have hlow : low (tb q.2) < 10 := by omega
  refine xD.of ?_
  show xQ MX1_choosePath (0, [some (.ref 18), none, none], [], w) _
  refine xQ.go 2 (F1 := (4, [some (.ref 18), none, none], [.int (w.1 18 10)], w)) rfl ?_
  rw [hC.2.1, ← m2]
  refine xQ.call rfl (c_least hlow) ?_
  show xQ MX1_choosePath (7, [some (.ref 18), none, none], [.int (nI (low (tb q.2)))], w) _
  rw [← p2]
  refine xQ.go 4 (F1 := (13, [some (.ref 18), some (.int (nI u)), none], [.int (nI u), .int (w.1 18 10)], w)) rfl ?_
  refine xQ.call rfl (c_bit p3) ?_
  show xQ MX1_choosePath (16, [some (.ref 18), some (.int (nI u)), none], [.int (mk (fun v => decide (v = u))), .int (w.1 18 10)], w) _
  refine xQ.go 3 (F1 := (19, [some (.ref 18), some (.int (nI u)), none], [.int ((w.1 18 10) &&& ((mk (fun v => decide (v = u))) ^^^ (-1)))], w)) rfl ?_
  rw [hC.2.1, ← m2, mk_andn]
  by_cases h0 : q.1 = 0
  · refine xQ.go 4 (F1 := (bif decide ((w.1 18 9) = 0) then 38 else 27, [some (.ref 18), some (.int (nI u)), some (.int (mk (fun v => tb q.2 v && !decide (v = u))))], [], w)) rfl ?_
    refine xQ.brT (by rw [hC.1, h0]; rfl) ?_
    have hi := p11 h0
    have hpt : pth H q = [u, low (fun v => tb q.2 v && !decide (v = u))] := by
      unfold pth
      rw [if_pos h0, ← p2]
    have hz : low (fun v => tb q.2 v && !decide (v = u)) = z := by
      rw [hpt, hi] at p1
      injection p1 with e1 e2
      injection e2
    refine xQ.go 4 (F1 := (44, [some (.ref 18), some (.int (nI u)), some (.int (mk (fun v => tb q.2 v && !decide (v = u))))], [.int (nI u), .int 0, .ref 23], w)) rfl ?_
    refine xQ.call rfl (c_put rfl (k := 0) (by omega) (by omega)) ?_
    show xQ MX1_choosePath (47, [some (.ref 18), some (.int (nI u)), some (.int (mk (fun v => tb q.2 v && !decide (v = u))))], [], (xuI w 23 0 (nI u))) _
    refine xQ.go 4 (F1 := (53, [some (.ref 18), some (.int (nI u)), some (.int (mk (fun v => tb q.2 v && !decide (v = u))))], [.int (mk (fun v => tb q.2 v && !decide (v = u))), .int 1, .ref 23], (xuI w 23 0 (nI u)))) rfl ?_
    refine xQ.call rfl (c_least (by rw [hz]; exact p4)) ?_
    show xQ MX1_choosePath (56, [some (.ref 18), some (.int (nI u)), some (.int (mk (fun v => tb q.2 v && !decide (v = u))))], [.int (nI (low (fun v => tb q.2 v && !decide (v = u)))), .int 1, .ref 23], (xuI w 23 0 (nI u))) _
    refine xQ.call rfl (c_put rfl (k := 1) (by omega) (by omega)) ?_
    show xQ MX1_choosePath (59, [some (.ref 18), some (.int (nI u)), some (.int (mk (fun v => tb q.2 v && !decide (v = u))))], [], (xuI (xuI w 23 0 (nI u)) 23 1 (nI (low (fun v => tb q.2 v && !decide (v = u)))))) _
    refine xQ.go 4 (F1 := (65, [some (.ref 18), some (.int (nI u)), some (.int (mk (fun v => tb q.2 v && !decide (v = u))))], [.int 1], (xuI (xuI (xuI w 23 0 (nI u)) 23 1 (nI (low (fun v => tb q.2 v && !decide (v = u))))) 18 14 2))) rfl ?_
    refine xQ.iret .boolean 1 rfl rfl (rfl) ?_
    refine ⟨rfl, ⟨?_, ?_⟩, xkq_I (xkq_I (xkq_I xkq_rfl rfl) rfl) rfl⟩
    · rw [hpt]
      simp [uI1]
      rfl
    · rw [hpt]
      intro i x hx
      match i, hx with
      | 0, hx => cases hx; simp [uI1]
      | 1, hx => cases hx; simp [uI1]
  · have hpt : pth H q = u :: dsc H (tb q.1) (fun v => tb q.2 v && !decide (v = u)) (fdep H (tb q.1) (fun v => tb q.2 v && !decide (v = u)) u 9) u := by
      unfold pth
      rw [if_neg h0, ← p2]
    obtain ⟨q1, q2⟩ := p12 h0
    refine xQ.go 4 (F1 := (bif decide ((w.1 18 9) = 0) then 38 else 27, [some (.ref 18), some (.int (nI u)), some (.int (mk (fun v => tb q.2 v && !decide (v = u))))], [], w)) rfl ?_
    refine xQ.brF (by rw [hC.1]; exact decide_eq_false h0) ?_
    refine xQ.go 5 (F1 := (34, [some (.ref 18), some (.int (nI u)), some (.int (mk (fun v => tb q.2 v && !decide (v = u))))], [.int (w.1 18 9), .int (mk (fun v => tb q.2 v && !decide (v = u))), .int (nI u), .ref 18], w)) rfl ?_
    rw [hC.1, ← m1]
    obtain ⟨r2, w2, hc, hr, hl, hk⟩ := c_findPath_p (T := fun v => tb q.2 v && !decide (v = u)) (A := tb q.1) hb.1 hG.1 p3 (by omega) (by omega)
    subst hr
    refine xQ.call rfl (hc) ?_
    show xQ MX1_choosePath (37, [some (.ref 18), some (.int (nI u)), some (.int (mk (fun v => tb q.2 v && !decide (v = u))))], [.int 1], w2) _
    refine xQ.iret .boolean 1 rfl rfl (rfl) ?_
    refine ⟨rfl, ?_, hk⟩
    rw [hpt]
    exact hl

theorem c_cpath_t {w : xW} {H : Nat → Nat → Bool} {S : Nat → Bool} {P : Nat → Nat → Bool} {PV : Nat → Bool} {L : List (List Nat)} {q : xFr} {u z : Nat} {inn : List Nat} (hb : BIC H S) (hG : eG 32 33 w H S) (hC : eC 32 w L (some q)) (hq : FOK H S P PV q) (hp : PTH H S P PV q u inn z) : xD MX1_choosePath [.ref 32] w (fun r w1 => r = some (.int 1) ∧ eL 32 37 w1 (pth H q) ∧ xkq [(32, some 14), (37, none), (38, none)] w w1) := by
  have h8 := PTH_len hq hp
  obtain ⟨p1, p2, p3, p4, p5, p6, p7, p8, p9, p10, p11, p12⟩ := hp
  obtain ⟨m1, m2⟩ := FOK_mk hq
  have hlow : low (tb q.2) < 10 := by omega
  refine xD.of ?_
  show xQ MX1_choosePath (0, [some (.ref 32), none, none], [], w) _
  refine xQ.go 2 (F1 := (4, [some (.ref 32), none, none], [.int (w.1 32 10)], w)) rfl ?_
  rw [hC.2.1, ← m2]
  refine xQ.call rfl (c_least hlow) ?_
  show xQ MX1_choosePath (7, [some (.ref 32), none, none], [.int (nI (low (tb q.2)))], w) _
  rw [← p2]
  refine xQ.go 4 (F1 := (13, [some (.ref 32), some (.int (nI u)), none], [.int (nI u), .int (w.1 32 10)], w)) rfl ?_
  refine xQ.call rfl (c_bit p3) ?_
  show xQ MX1_choosePath (16, [some (.ref 32), some (.int (nI u)), none], [.int (mk (fun v => decide (v = u))), .int (w.1 32 10)], w) _
  refine xQ.go 3 (F1 := (19, [some (.ref 32), some (.int (nI u)), none], [.int ((w.1 32 10) &&& ((mk (fun v => decide (v = u))) ^^^ (-1)))], w)) rfl ?_
  rw [hC.2.1, ← m2, mk_andn]
  by_cases h0 : q.1 = 0
  · refine xQ.go 4 (F1 := (bif decide ((w.1 32 9) = 0) then 38 else 27, [some (.ref 32), some (.int (nI u)), some (.int (mk (fun v => tb q.2 v && !decide (v = u))))], [], w)) rfl ?_
    refine xQ.brT (by rw [hC.1, h0]; rfl) ?_
    have hi := p11 h0
    have hpt : pth H q = [u, low (fun v => tb q.2 v && !decide (v = u))] := by
      unfold pth
      rw [if_pos h0, ← p2]
    have hz : low (fun v => tb q.2 v && !decide (v = u)) = z := by
      rw [hpt, hi] at p1
      injection p1 with e1 e2
      injection e2
    refine xQ.go 4 (F1 := (44, [some (.ref 32), some (.int (nI u)), some (.int (mk (fun v => tb q.2 v && !decide (v = u))))], [.int (nI u), .int 0, .ref 37], w)) rfl ?_
    refine xQ.call rfl (c_put rfl (k := 0) (by omega) (by omega)) ?_
    show xQ MX1_choosePath (47, [some (.ref 32), some (.int (nI u)), some (.int (mk (fun v => tb q.2 v && !decide (v = u))))], [], (xuI w 37 0 (nI u))) _
    refine xQ.go 4 (F1 := (53, [some (.ref 32), some (.int (nI u)), some (.int (mk (fun v => tb q.2 v && !decide (v = u))))], [.int (mk (fun v => tb q.2 v && !decide (v = u))), .int 1, .ref 37], (xuI w 37 0 (nI u)))) rfl ?_
    refine xQ.call rfl (c_least (by rw [hz]; exact p4)) ?_
    show xQ MX1_choosePath (56, [some (.ref 32), some (.int (nI u)), some (.int (mk (fun v => tb q.2 v && !decide (v = u))))], [.int (nI (low (fun v => tb q.2 v && !decide (v = u)))), .int 1, .ref 37], (xuI w 37 0 (nI u))) _
    refine xQ.call rfl (c_put rfl (k := 1) (by omega) (by omega)) ?_
    show xQ MX1_choosePath (59, [some (.ref 32), some (.int (nI u)), some (.int (mk (fun v => tb q.2 v && !decide (v = u))))], [], (xuI (xuI w 37 0 (nI u)) 37 1 (nI (low (fun v => tb q.2 v && !decide (v = u)))))) _
    refine xQ.go 4 (F1 := (65, [some (.ref 32), some (.int (nI u)), some (.int (mk (fun v => tb q.2 v && !decide (v = u))))], [.int 1], (xuI (xuI (xuI w 37 0 (nI u)) 37 1 (nI (low (fun v => tb q.2 v && !decide (v = u))))) 32 14 2))) rfl ?_
    refine xQ.iret .boolean 1 rfl rfl (rfl) ?_
    refine ⟨rfl, ⟨?_, ?_⟩, xkq_I (xkq_I (xkq_I xkq_rfl rfl) rfl) rfl⟩
    · rw [hpt]
      simp [uI1]
      rfl
    · rw [hpt]
      intro i x hx
      match i, hx with
      | 0, hx => cases hx; simp [uI1]
      | 1, hx => cases hx; simp [uI1]
  · have hpt : pth H q = u :: dsc H (tb q.1) (fun v => tb q.2 v && !decide (v = u)) (fdep H (tb q.1) (fun v => tb q.2 v && !decide (v = u)) u 9) u := by
      unfold pth
      rw [if_neg h0, ← p2]
    obtain ⟨q1, q2⟩ := p12 h0
    refine xQ.go 4 (F1 := (bif decide ((w.1 32 9) = 0) then 38 else 27, [some (.ref 32), some (.int (nI u)), some (.int (mk (fun v => tb q.2 v && !decide (v = u))))], [], w)) rfl ?_
    refine xQ.brF (by rw [hC.1]; exact decide_eq_false h0) ?_
    refine xQ.go 5 (F1 := (34, [some (.ref 32), some (.int (nI u)), some (.int (mk (fun v => tb q.2 v && !decide (v = u))))], [.int (w.1 32 9), .int (mk (fun v => tb q.2 v && !decide (v = u))), .int (nI u), .ref 32], w)) rfl ?_
    rw [hC.1, ← m1]
    obtain ⟨r2, w2, hc, hr, hl, hk⟩ := c_findPath_t (T := fun v => tb q.2 v && !decide (v = u)) (A := tb q.1) hb.1 hG.1 p3 (by omega) (by omega)
    subst hr
    refine xQ.call rfl (hc) ?_
    show xQ MX1_choosePath (37, [some (.ref 32), some (.int (nI u)), some (.int (mk (fun v => tb q.2 v && !decide (v = u))))], [.int 1], w2) _
    refine xQ.iret .boolean 1 rfl rfl (rfl) ?_
    refine ⟨rfl, ?_, hk⟩
    rw [hpt]
    exact hl
end
section
theorem pd_ex : ∀ {l : List Nat} {x y : Nat}, (x, y) ∈ pd l → ∃ i, l[i]? = some x ∧ l[i + 1]? = some y
  | [], _, _, h => by cases h
  | [_], _, _, h => by cases h
  | a :: b :: t, x, y, h => by
    rw [pd_cons2] at h
    rcases List.mem_cons.mp h with e | e
    · cases e
      exact ⟨0, rfl, rfl⟩
    · obtain ⟨i, h1, h2⟩ := pd_ex e
      exact ⟨i + 1, h1, h2⟩
theorem get_D {l : List Nat} {k : Nat} (h : k < l.length) : l[k]? = some (l.getD k 0) := by
  rw [List.getD_eq_getElem?_getD, List.getElem?_eq_getElem h]
  rfl
theorem mem_take1 {l : List Nat} {k v : Nat} (h : k < l.length) : v ∈ l.take (k + 1) ↔ v ∈ l.take k ∨ v = l.getD k 0 := by
  rw [List.take_succ, get_D h]
  simp
theorem pd_take {l : List Nat} {k : Nat} (h : k + 1 < l.length) (p : xPr) : p ∈ pd (l.take (k + 2)) ↔ p ∈ pd (l.take (k + 1)) ∨ p = (l.getD k 0, l.getD (k + 1) 0) := by
  have e1 : l.take (k + 1) = l.take k ++ [l.getD k 0] := by rw [List.take_succ, get_D (by omega)]; rfl
  have e2 : l.take (k + 2) = l.take k ++ l.getD k 0 :: [l.getD (k + 1) 0] := by
    rw [show k + 2 = k + 1 + 1 from rfl, List.take_succ, get_D h, e1]
    simp
  rw [e2, e1, pd_app, List.mem_append]
  rw [show pd [l.getD k 0, l.getD (k + 1) 0] = [(l.getD k 0, l.getD (k + 1) 0)] from rfl, List.mem_singleton]
theorem take_ix {l : List Nat} {k : Nat} {v : Nat} (h : v ∈ l.take k) : ∃ j, j < k ∧ l[j]? = some v := by
  obtain ⟨j, hj, e⟩ := List.mem_iff_getElem.mp h
  rw [List.length_take] at hj
  refine ⟨j, by omega, ?_⟩
  rw [List.getElem_take] at e
  rw [List.getElem?_eq_getElem (by omega), e]
theorem nodup_ix {l : List Nat} (hn : l.Nodup) {i j v : Nat} (h1 : l[i]? = some v) (h2 : l[j]? = some v) : i = j := by
  obtain ⟨a1, b1⟩ := List.getElem?_eq_some_iff.mp h1
  obtain ⟨a2, b2⟩ := List.getElem?_eq_some_iff.mp h2
  have hp := List.pairwise_iff_getElem.mp hn
  rcases Nat.lt_trichotomy i j with h | h | h
  · exact absurd (b1.trans b2.symm) (hp i j a1 a2 h)
  · exact h
  · exact absurd (b2.trans b1.symm) (hp j i a2 a1 h)
theorem c_split_p {w : xW} {P : Nat → Nat → Bool} {PV : Nat → Bool} {E : Nat} {L : List (List Nat)} {cf u z : Nat} {F xs ys inn : List Nat} (hP : eP 18 20 w P PV E) (hF : eF 18 21 22 w L) (hp : eL 18 23 w (u :: inn ++ [z])) (hf : w.1 18 11 = nI cf) (hn16 : L.length < 16) (hcf : L[cf]? = some F) (hFm : ∀ v, v ∈ F ↔ v ∈ u :: xs ++ z :: ys) (hFd : ∀ q, q ∈ dts F ↔ q ∈ dts (u :: xs ++ z :: ys)) (hFn : (u :: xs ++ z :: ys).Nodup) (h10 : ∀ v ∈ u :: xs ++ z :: ys, v < 10) (hin : inn.Nodup) (hi10 : ∀ v ∈ inn, v < 10 ∧ v ∉ u :: xs ++ z :: ys) (hPu : PV u = true) (hL10 : ∀ f ∈ L, ∀ x ∈ f, x < 10) : xD MX1_splitFace [.ref 18] w (fun r w1 => r = none ∧ eP 18 20 w1 (addP P (u :: inn ++ [z])) (addV PV (u :: inn ++ [z])) (E + (inn.length + 1)) ∧ eF 18 21 22 w1 (L.set cf (u :: xs ++ z :: inn.reverse) ++ [z :: ys ++ u :: inn]) ∧ xkq [(18, some 3), (18, some 5), (18, some 8), (20, none), (21, none), (22, none)] w w1) := by
  have hcl : cf < L.length := (List.getElem?_eq_some_iff.mp hcf).1
  have hu10 : u < 10 := h10 u (by simp)
  have hz10 : z < 10 := h10 z (by simp)
  have hnd := List.nodup_append.mp hFn
  have hzy : (z :: ys).Nodup := hnd.2.1
  have hux : (u :: xs).Nodup := hnd.1
  have hdis := hnd.2.2
  have huz : u ≠ z := hdis u (by simp) z (by simp)
  obtain ⟨ws, hws⟩ : ∃ ws, ws = z :: ys ++ [u] := ⟨_, rfl⟩
  obtain ⟨p, hpp⟩ : ∃ p, p = u :: inn ++ [z] := ⟨_, rfl⟩
  have hwl : ws.length = ys.length + 2 := by rw [hws]; simp
  have hpl : p.length = inn.length + 2 := by rw [hpp]; simp
  have hwn : ws.Nodup := by
    rw [hws]
    refine List.nodup_append.mpr ⟨hzy, by simp, fun a ha b hb e => ?_⟩
    rw [List.mem_singleton] at hb
    exact hdis u (by simp) a ha (by rw [e, hb])
  have hpn : p.Nodup := by
    rw [hpp, List.cons_append]
    refine List.nodup_cons.mpr ⟨fun h => ?_, List.nodup_append.mpr ⟨hin, by simp, fun a ha b hb e => ?_⟩⟩
    · rcases List.mem_append.mp h with e | e
      · exact (hi10 u e).2 (by simp)
      · exact huz (List.mem_singleton.mp e)
    · rw [List.mem_singleton] at hb
      exact (hi10 a ha).2 (by rw [e, hb]; simp)
  have hw10 : ∀ v ∈ ws, v < 10 := fun v hv => h10 v (by
    rw [hws] at hv
    rcases List.mem_append.mp hv with e | e
    · exact List.mem_append_right _ e
    · rw [List.mem_singleton.mp e]; simp)
  have hp10 : ∀ v ∈ p, v < 10 := fun v hv => by
    rw [hpp, List.cons_append] at hv
    rcases List.mem_cons.mp hv with e | e
    · omega
    · rcases List.mem_append.mp e with e | e
      · exact (hi10 v e).1
      · rw [List.mem_singleton.mp e]; exact hz10
  have hgw : ∀ k, k < ws.length → ws.getD k 0 ∈ ws ∧ ws.getD k 0 < 10 := fun k hk => by
    have := List.mem_of_getElem? (get_D hk)
    exact ⟨this, hw10 _ this⟩
  have hgp : ∀ k, k < p.length → p.getD k 0 ∈ p ∧ p.getD k 0 < 10 := fun k hk => by
    have := List.mem_of_getElem? (get_D hk)
    exact ⟨this, hp10 _ this⟩
  have hw9 : ws.length ≤ 10 := by
    have := cnt_list hwn hw10
    have h2 := cnt_le (fun v => decide (v ∈ ws)) 10
    omega
  have hp9 : p.length ≤ 10 := by
    have := cnt_list hpn hp10
    have h2 := cnt_le (fun v => decide (v ∈ p)) 10
    omega
  have hw0 : ws.getD 0 0 = z := by rw [hws]; rfl
  have hwe : ws.getD (ys.length + 1) 0 = u := by rw [hws, List.getD_eq_getElem?_getD]; simp
  have hp0 : p.getD 0 0 = u := by rw [hpp]; rfl
  have hpe : p.getD (inn.length + 1) 0 = z := by rw [hpp, List.getD_eq_getElem?_getD]; simp
  rw [← hpp] at hp ⊢
  have hpr : ∀ k, k < p.length → w.1 23 k = nI (p.getD k 0) := fun k hk => hp.2 k _ (get_D hk)
  have hp1 : w.1 18 14 = nI (inn.length + 2) := by rw [hp.1, hpl]
  have hdw : ∀ q, q ∈ pd ws → q ∈ dts F := fun q hq => (hFd q).mpr (by rw [dts_two, ← hws]; exact List.mem_append_right _ hq)
  have hne : L.length ≠ cf := by omega
  refine xD.of ?_
  show xQ MX1_splitFace (0, [some (.ref 18), none, none, none, none, none, none, none, none], [], w) _
  refine xQ.go 3 (F1 := (5, [some (.ref 18), none, none, none, none, none, none, none, none], [.int 0, .ref 23], w)) rfl ?_
  refine xQ.call rfl (c_at rfl (k := 0) (by omega) (by omega)) ?_
  show xQ MX1_splitFace (8, [some (.ref 18), none, none, none, none, none, none, none, none], [.int (w.1 23 0)], w) _
  rw [hpr 0 (by omega), hp0]
  refine xQ.go 5 (F1 := (17, [some (.ref 18), some (.int (nI u)), none, none, none, none, none, none, none], [.int (w.1 18 14), .ref 23], w)) rfl ?_
  rw [hp1]
  refine xQ.go 2 (F1 := (19, [some (.ref 18), some (.int (nI u)), none, none, none, none, none, none, none], [.int ((nI (inn.length + 2)) - 1), .ref 23], w)) rfl ?_
  rw [show nI (inn.length + 2) - 1 = nI (inn.length + 1) from jI_sub (b := 1) (by omega)]
  refine xQ.call rfl (c_at rfl (by omega) (by omega)) ?_
  show xQ MX1_splitFace (22, [some (.ref 18), some (.int (nI u)), none, none, none, none, none, none, none], [.int (w.1 23 (inn.length + 1))], w) _
  rw [hpr _ (by omega), hpe]
  refine xQ.go 2 (F1 := (24, [some (.ref 18), some (.int (nI u)), some (.int (nI z)), none, none, none, none, none, none], [.int (nI z)], w)) rfl ?_
  refine xQ.call rfl (c_bit hz10) ?_
  show xQ MX1_splitFace (27, [some (.ref 18), some (.int (nI u)), some (.int (nI z)), none, none, none, none, none, none], [.int (mk (fun v => decide (v = z)))], w) _
  refine xQ.go 5 (F1 := (34, [some (.ref 18), some (.int (nI u)), some (.int (nI z)), some (.int (mk (fun v => decide (v = z)))), some (.int (nI z)), some (.int 0), none, none, none], [], w)) rfl ?_
  refine xQ.loop (S := xW) (fun k s => (34, [some (.ref 18), some (.int (nI u)), some (.int (nI z)), some (.int (mk (fun v => decide (v ∈ ws.take (k + 1))))), some (.int (nI (ws.getD k 0))), some (.int (nI k)), none, none, none], [], s)) (fun k s => xkq [(22, none)] w s ∧ (∀ j, j < k → s.1 22 (10 * L.length + ws.getD j 0) = nI (ws.getD (j + 1) 0)) ∧ ∀ i x, x < 10 → i ≠ L.length → s.1 22 (10 * i + x) = w.1 22 (10 * i + x)) (ys.length + 1) w (by rw [hw0, show mk (fun v => decide (v ∈ ws.take (0 + 1))) = mk (fun v => decide (v = z)) by rw [hws]; exact mk_ext fun v _ => by simp]; rfl) (⟨xkq_rfl, fun j hj => absurd hj (by omega), fun _ _ _ _ => rfl⟩) ?_ ?_
  · intro k s hk hI K
    obtain ⟨i1, i2, i3⟩ := hI
    obtain ⟨g1, g2⟩ := hgw k (by omega)
    obtain ⟨g3, g4⟩ := hgw (k + 1) (by omega)
    have hku : ws.getD k 0 ≠ u := fun e => by
      have := nodup_ix hwn (get_D (k := k) (by omega)) (by rw [get_D (k := ys.length + 1) (by omega), hwe, e])
      omega
    refine xQ.go 3 (F1 := (bif decide (10 ≤ (nI k)) then 101 else 41, [some (.ref 18), some (.int (nI u)), some (.int (nI z)), some (.int (mk (fun v => decide (v ∈ ws.take (k + 1))))), some (.int (nI (ws.getD k 0))), some (.int (nI k)), none, none, none], [], s)) rfl ?_
    refine xQ.brF (decide_eq_false (nI_ge (b := 10) (by omega) (by omega))) ?_
    refine xQ.go 3 (F1 := (bif decide ((nI (ws.getD k 0)) = (nI u)) then 101 else 47, [some (.ref 18), some (.int (nI u)), some (.int (nI z)), some (.int (mk (fun v => decide (v ∈ ws.take (k + 1))))), some (.int (nI (ws.getD k 0))), some (.int (nI k)), none, none, none], [], s)) rfl ?_
    refine xQ.brF (decide_eq_false (fun e => hku (jI_inj (by omega) (by omega) e))) ?_
    refine xQ.go 4 (F1 := (55, [some (.ref 18), some (.int (nI u)), some (.int (nI z)), some (.int (mk (fun v => decide (v ∈ ws.take (k + 1))))), some (.int (nI (ws.getD k 0))), some (.int (nI k)), none, none, none], [.int (s.1 18 11), .ref 22], s)) rfl ?_
    rw [xkq_at i1 18 11, hf]
    refine xQ.go 1 (F1 := (57, [some (.ref 18), some (.int (nI u)), some (.int (nI z)), some (.int (mk (fun v => decide (v ∈ ws.take (k + 1))))), some (.int (nI (ws.getD k 0))), some (.int (nI k)), none, none, none], [.int (nI (ws.getD k 0)), .int (nI cf), .ref 22], s)) rfl ?_
    refine xQ.call rfl (c_cell) ?_
    show xQ MX1_splitFace (60, [some (.ref 18), some (.int (nI u)), some (.int (nI z)), some (.int (mk (fun v => decide (v ∈ ws.take (k + 1))))), some (.int (nI (ws.getD k 0))), some (.int (nI k)), none, none, none], [.int (nI (10 * cf + ws.getD k 0)), .ref 22], s) _
    refine xQ.call rfl (c_at rfl (by omega) (by omega)) ?_
    show xQ MX1_splitFace (63, [some (.ref 18), some (.int (nI u)), some (.int (nI z)), some (.int (mk (fun v => decide (v ∈ ws.take (k + 1))))), some (.int (nI (ws.getD k 0))), some (.int (nI k)), none, none, none], [.int (s.1 22 (10 * cf + ws.getD k 0))], s) _
    rw [i3 cf _ g2 (by omega), (hF.2 cf F hcf).2 _ _ (hdw _ (pd_get ws k _ _ (get_D (by omega)) (get_D (by omega))))]
    refine xQ.go 6 (F1 := (75, [some (.ref 18), some (.int (nI u)), some (.int (nI z)), some (.int (mk (fun v => decide (v ∈ ws.take (k + 1))))), some (.int (nI (ws.getD k 0))), some (.int (nI k)), some (.int (nI (ws.getD (k + 1) 0))), none, none], [.int (nI (ws.getD k 0)), .int (s.1 18 8), .ref 22], s)) rfl ?_
    rw [xkq_at i1 18 8, hF.1]
    refine xQ.call rfl (c_cell) ?_
    show xQ MX1_splitFace (78, [some (.ref 18), some (.int (nI u)), some (.int (nI z)), some (.int (mk (fun v => decide (v ∈ ws.take (k + 1))))), some (.int (nI (ws.getD k 0))), some (.int (nI k)), some (.int (nI (ws.getD (k + 1) 0))), none, none], [.int (nI (10 * L.length + ws.getD k 0)), .ref 22], s) _
    refine xQ.go 1 (F1 := (80, [some (.ref 18), some (.int (nI u)), some (.int (nI z)), some (.int (mk (fun v => decide (v ∈ ws.take (k + 1))))), some (.int (nI (ws.getD k 0))), some (.int (nI k)), some (.int (nI (ws.getD (k + 1) 0))), none, none], [.int (nI (ws.getD (k + 1) 0)), .int (nI (10 * L.length + ws.getD k 0)), .ref 22], s)) rfl ?_
    refine xQ.call rfl (c_put rfl (by omega) (by omega)) ?_
    show xQ MX1_splitFace (83, [some (.ref 18), some (.int (nI u)), some (.int (nI z)), some (.int (mk (fun v => decide (v ∈ ws.take (k + 1))))), some (.int (nI (ws.getD k 0))), some (.int (nI k)), some (.int (nI (ws.getD (k + 1) 0))), none, none], [], (xuI s 22 (10 * L.length + ws.getD k 0) (nI (ws.getD (k + 1) 0)))) _
    refine xQ.go 2 (F1 := (86, [some (.ref 18), some (.int (nI u)), some (.int (nI z)), some (.int (mk (fun v => decide (v ∈ ws.take (k + 1))))), some (.int (nI (ws.getD k 0))), some (.int (nI k)), some (.int (nI (ws.getD (k + 1) 0))), none, none], [.int (nI (ws.getD (k + 1) 0)), .int (mk (fun v => decide (v ∈ ws.take (k + 1))))], (xuI s 22 (10 * L.length + ws.getD k 0) (nI (ws.getD (k + 1) 0))))) rfl ?_
    refine xQ.call rfl (c_bit g4) ?_
    show xQ MX1_splitFace (89, [some (.ref 18), some (.int (nI u)), some (.int (nI z)), some (.int (mk (fun v => decide (v ∈ ws.take (k + 1))))), some (.int (nI (ws.getD k 0))), some (.int (nI k)), some (.int (nI (ws.getD (k + 1) 0))), none, none], [.int (mk (fun v => decide (v = ws.getD (k + 1) 0))), .int (mk (fun v => decide (v ∈ ws.take (k + 1))))], (xuI s 22 (10 * L.length + ws.getD k 0) (nI (ws.getD (k + 1) 0)))) _
    refine xQ.go 1 (F1 := (90, [some (.ref 18), some (.int (nI u)), some (.int (nI z)), some (.int (mk (fun v => decide (v ∈ ws.take (k + 1))))), some (.int (nI (ws.getD k 0))), some (.int (nI k)), some (.int (nI (ws.getD (k + 1) 0))), none, none], [.int ((mk (fun v => decide (v ∈ ws.take (k + 1)))) ||| (mk (fun v => decide (v = ws.getD (k + 1) 0))))], (xuI s 22 (10 * L.length + ws.getD k 0) (nI (ws.getD (k + 1) 0))))) rfl ?_
    rw [mk_or, show mk (fun v => decide (v ∈ ws.take (k + 1)) || decide (v = ws.getD (k + 1) 0)) = mk (fun v => decide (v ∈ ws.take (k + 1 + 1))) from mk_ext fun v _ => by
      apply Bool.eq_iff_iff.mpr
      simp only [Bool.or_eq_true, decide_eq_true_iff]
      exact (mem_take1 (by omega)).symm]
    refine xQ.go 5 (F1 := (34, [some (.ref 18), some (.int (nI u)), some (.int (nI z)), some (.int (mk (fun v => decide (v ∈ ws.take (k + 1 + 1))))), some (.int (nI (ws.getD (k + 1) 0))), some (.int ((nI k) + 1)), some (.int (nI (ws.getD (k + 1) 0))), none, none], [], (xuI s 22 (10 * L.length + ws.getD k 0) (nI (ws.getD (k + 1) 0))))) rfl ?_
    refine xQ.less [some (.ref 18), some (.int (nI u)), some (.int (nI z)), some (.int (mk (fun v => decide (v ∈ ws.take (k + 1 + 1))))), some (.int (nI (ws.getD (k + 1) 0))), some (.int ((nI k) + 1)), none, none, none] (by simp [xleb]) ?_
    rw [← nI_succ]
    refine K _ ⟨xkq_I i1 rfl, fun j hj => ?_, fun i x hx hi => ?_⟩
    · rw [uI1]
      by_cases e : j = k
      · rw [e, if_pos ⟨rfl, rfl⟩]
      · rw [if_neg, i2 j (by omega)]
        rintro ⟨_, e2⟩
        have : ws.getD j 0 = ws.getD k 0 := by omega
        exact e (nodup_ix hwn (get_D (by omega)) (by rw [get_D (k := k) (by omega), this]))
    · rw [uI1, if_neg, i3 i x hx hi]
      rintro ⟨_, e2⟩
      omega
  · intro w1 hI
    obtain ⟨i1, i2, i3⟩ := hI
    rw [hwe]
    have hmv : mk (fun v => decide (v ∈ ws.take (ys.length + 1 + 1))) = mk (fun v => decide (v ∈ ws)) := by
      rw [List.take_of_length_le (by omega)]
    rw [hmv]
    refine xQ.go 3 (F1 := (bif decide (10 ≤ (nI (ys.length + 1))) then 101 else 41, [some (.ref 18), some (.int (nI u)), some (.int (nI z)), some (.int (mk (fun v => decide (v ∈ ws)))), some (.int (nI u)), some (.int (nI (ys.length + 1))), none, none, none], [], w1)) rfl ?_
    refine xQ.brF (decide_eq_false (nI_ge (b := 10) (by omega) (by omega))) ?_
    refine xQ.go 3 (F1 := (bif decide ((nI u) = (nI u)) then 101 else 47, [some (.ref 18), some (.int (nI u)), some (.int (nI z)), some (.int (mk (fun v => decide (v ∈ ws)))), some (.int (nI u)), some (.int (nI (ys.length + 1))), none, none, none], [], w1)) rfl ?_
    refine xQ.brT (decide_eq_true rfl) ?_
    refine xQ.go 1 (F1 := (102, [some (.ref 18), some (.int (nI u)), some (.int (nI z)), some (.int (mk (fun v => decide (v ∈ ws)))), some (.int (nI u)), some (.int (nI (ys.length + 1))), none, none, none], [.int (nI u)], w1)) rfl ?_
    refine xQ.call rfl (c_bit hu10) ?_
    show xQ MX1_splitFace (105, [some (.ref 18), some (.int (nI u)), some (.int (nI z)), some (.int (mk (fun v => decide (v ∈ ws)))), some (.int (nI u)), some (.int (nI (ys.length + 1))), none, none, none], [.int (mk (fun v => decide (v = u)))], w1) _
    refine xQ.go 3 (F1 := (110, [some (.ref 18), some (.int (nI u)), some (.int (nI z)), some (.int (mk (fun v => decide (v ∈ ws)))), some (.int (nI u)), some (.int (mk (fun v => decide (v = u)))), some (.int 1), none, none], [], w1)) rfl ?_
    refine xQ.loop (S := xW) (fun k s => (110, [some (.ref 18), some (.int (nI u)), some (.int (nI z)), some (.int (mk (fun v => decide (v ∈ ws)))), some (.int (nI u)), some (.int (mk (fun v => decide (v ∈ p.take (k + 1))))), some (.int (nI (k + 1))), none, none], [], s)) (fun k s => xkq [(18, some 3), (18, some 5), (20, none), (22, none)] w1 s ∧ eP 18 20 s (addP P (p.take (k + 1))) (addV PV (p.take (k + 1))) (E + k) ∧ (∀ j, j < k → s.1 22 (10 * L.length + p.getD j 0) = nI (p.getD (j + 1) 0) ∧ s.1 22 (10 * cf + p.getD (j + 1) 0) = nI (p.getD j 0)) ∧ ∀ i x, x < 10 → (i = L.length → ∀ j, j < k → x ≠ p.getD j 0) → (i = cf → ∀ j, j < k → x ≠ p.getD (j + 1) 0) → s.1 22 (10 * i + x) = w1.1 22 (10 * i + x)) (inn.length + 1) w1 (by rw [show mk (fun v => decide (v ∈ p.take (0 + 1))) = mk (fun v => decide (v = u)) by rw [hpp]; exact mk_ext fun v _ => by simp]; rfl) (⟨xkq_rfl, ⟨fun v hv => by rw [xkq_at i1 20 v, hP.1 v hv, hpp]; exact mk_ext fun x _ => by simp [addP, pd], by rw [xkq_at i1 18 3, hP.2.1, hpp]; exact mk_ext fun x _ => (by simp [addV]; intro e; rw [e]; exact hPu), by rw [xkq_at i1 18 5, hP.2.2]; rfl⟩, fun j hj => absurd hj (by omega), fun _ _ _ _ _ => rfl⟩) ?_ ?_
    · intro k s hk hI K
      obtain ⟨j1, j2, j3, j4⟩ := hI
      obtain ⟨g1, g2⟩ := hgp k (by omega)
      obtain ⟨g3, g4⟩ := hgp (k + 1) (by omega)
      have hfld : ∀ j, j = 8 ∨ j = 11 ∨ j = 14 → s.1 18 j = w.1 18 j := fun j hj => by
        rcases hj with e | e | e <;> subst e
        · rw [xkq_at j1 18 8, xkq_at i1 18 8]
        · rw [xkq_at j1 18 11, xkq_at i1 18 11]
        · rw [xkq_at j1 18 14, xkq_at i1 18 14]
      refine xQ.go 4 (F1 := (bif decide ((s.1 18 14) ≤ (nI (k + 1))) then 203 else 119, [some (.ref 18), some (.int (nI u)), some (.int (nI z)), some (.int (mk (fun v => decide (v ∈ ws)))), some (.int (nI u)), some (.int (mk (fun v => decide (v ∈ p.take (k + 1))))), some (.int (nI (k + 1))), none, none], [], s)) rfl ?_
      refine xQ.brF (by rw [hfld 14 (by omega), hp1]; exact decide_eq_false (nI_ge (by omega) (by omega))) ?_
      refine xQ.go 5 (F1 := (127, [some (.ref 18), some (.int (nI u)), some (.int (nI z)), some (.int (mk (fun v => decide (v ∈ ws)))), some (.int (nI u)), some (.int (mk (fun v => decide (v ∈ p.take (k + 1))))), some (.int (nI (k + 1))), none, none], [.int ((nI (k + 1)) - 1), .ref 23], s)) rfl ?_
      rw [show nI (k + 1) - 1 = nI k from jI_sub (b := 1) (by omega)]
      refine xQ.call rfl (c_at rfl (by omega) (by omega)) ?_
      show xQ MX1_splitFace (130, [some (.ref 18), some (.int (nI u)), some (.int (nI z)), some (.int (mk (fun v => decide (v ∈ ws)))), some (.int (nI u)), some (.int (mk (fun v => decide (v ∈ p.take (k + 1))))), some (.int (nI (k + 1))), none, none], [.int (s.1 23 k)], s) _
      rw [xkq_at j1 23 k, xkq_at i1 23 k, hpr k (by omega)]
      refine xQ.go 4 (F1 := (138, [some (.ref 18), some (.int (nI u)), some (.int (nI z)), some (.int (mk (fun v => decide (v ∈ ws)))), some (.int (nI u)), some (.int (mk (fun v => decide (v ∈ p.take (k + 1))))), some (.int (nI (k + 1))), some (.int (nI (p.getD k 0))), none], [.int (nI (k + 1)), .ref 23], s)) rfl ?_
      refine xQ.call rfl (c_at rfl (by omega) (by omega)) ?_
      show xQ MX1_splitFace (141, [some (.ref 18), some (.int (nI u)), some (.int (nI z)), some (.int (mk (fun v => decide (v ∈ ws)))), some (.int (nI u)), some (.int (mk (fun v => decide (v ∈ p.take (k + 1))))), some (.int (nI (k + 1))), some (.int (nI (p.getD k 0))), none], [.int (s.1 23 (k + 1))], s) _
      rw [xkq_at j1 23 (k + 1), xkq_at i1 23 (k + 1), hpr (k + 1) (by omega)]
      refine xQ.go 6 (F1 := (153, [some (.ref 18), some (.int (nI u)), some (.int (nI z)), some (.int (mk (fun v => decide (v ∈ ws)))), some (.int (nI u)), some (.int (mk (fun v => decide (v ∈ p.take (k + 1))))), some (.int (nI (k + 1))), some (.int (nI (p.getD k 0))), some (.int (nI (p.getD (k + 1) 0)))], [.int (nI (p.getD k 0)), .int (s.1 18 8), .ref 22], s)) rfl ?_
      rw [hfld 8 (by omega), hF.1]
      refine xQ.call rfl (c_cell) ?_
      show xQ MX1_splitFace (156, [some (.ref 18), some (.int (nI u)), some (.int (nI z)), some (.int (mk (fun v => decide (v ∈ ws)))), some (.int (nI u)), some (.int (mk (fun v => decide (v ∈ p.take (k + 1))))), some (.int (nI (k + 1))), some (.int (nI (p.getD k 0))), some (.int (nI (p.getD (k + 1) 0)))], [.int (nI (10 * L.length + p.getD k 0)), .ref 22], s) _
      refine xQ.go 1 (F1 := (158, [some (.ref 18), some (.int (nI u)), some (.int (nI z)), some (.int (mk (fun v => decide (v ∈ ws)))), some (.int (nI u)), some (.int (mk (fun v => decide (v ∈ p.take (k + 1))))), some (.int (nI (k + 1))), some (.int (nI (p.getD k 0))), some (.int (nI (p.getD (k + 1) 0)))], [.int (nI (p.getD (k + 1) 0)), .int (nI (10 * L.length + p.getD k 0)), .ref 22], s)) rfl ?_
      refine xQ.call rfl (c_put rfl (by omega) (by omega)) ?_
      show xQ MX1_splitFace (161, [some (.ref 18), some (.int (nI u)), some (.int (nI z)), some (.int (mk (fun v => decide (v ∈ ws)))), some (.int (nI u)), some (.int (mk (fun v => decide (v ∈ p.take (k + 1))))), some (.int (nI (k + 1))), some (.int (nI (p.getD k 0))), some (.int (nI (p.getD (k + 1) 0)))], [], (xuI s 22 (10 * L.length + p.getD k 0) (nI (p.getD (k + 1) 0)))) _
      refine xQ.go 4 (F1 := (169, [some (.ref 18), some (.int (nI u)), some (.int (nI z)), some (.int (mk (fun v => decide (v ∈ ws)))), some (.int (nI u)), some (.int (mk (fun v => decide (v ∈ p.take (k + 1))))), some (.int (nI (k + 1))), some (.int (nI (p.getD k 0))), some (.int (nI (p.getD (k + 1) 0)))], [.int ((xuI s 22 (10 * L.length + p.getD k 0) (nI (p.getD (k + 1) 0))).1 18 11), .ref 22], (xuI s 22 (10 * L.length + p.getD k 0) (nI (p.getD (k + 1) 0))))) rfl ?_
      rw [show (xuI s 22 (10 * L.length + p.getD k 0) (nI (p.getD (k + 1) 0))).1 18 11 = nI cf by rw [uI1, if_neg (by omega), hfld 11 (by omega), hf]]
      refine xQ.go 1 (F1 := (171, [some (.ref 18), some (.int (nI u)), some (.int (nI z)), some (.int (mk (fun v => decide (v ∈ ws)))), some (.int (nI u)), some (.int (mk (fun v => decide (v ∈ p.take (k + 1))))), some (.int (nI (k + 1))), some (.int (nI (p.getD k 0))), some (.int (nI (p.getD (k + 1) 0)))], [.int (nI (p.getD (k + 1) 0)), .int (nI cf), .ref 22], (xuI s 22 (10 * L.length + p.getD k 0) (nI (p.getD (k + 1) 0))))) rfl ?_
      refine xQ.call rfl (c_cell) ?_
      show xQ MX1_splitFace (174, [some (.ref 18), some (.int (nI u)), some (.int (nI z)), some (.int (mk (fun v => decide (v ∈ ws)))), some (.int (nI u)), some (.int (mk (fun v => decide (v ∈ p.take (k + 1))))), some (.int (nI (k + 1))), some (.int (nI (p.getD k 0))), some (.int (nI (p.getD (k + 1) 0)))], [.int (nI (10 * cf + p.getD (k + 1) 0)), .ref 22], (xuI s 22 (10 * L.length + p.getD k 0) (nI (p.getD (k + 1) 0)))) _
      refine xQ.go 1 (F1 := (176, [some (.ref 18), some (.int (nI u)), some (.int (nI z)), some (.int (mk (fun v => decide (v ∈ ws)))), some (.int (nI u)), some (.int (mk (fun v => decide (v ∈ p.take (k + 1))))), some (.int (nI (k + 1))), some (.int (nI (p.getD k 0))), some (.int (nI (p.getD (k + 1) 0)))], [.int (nI (p.getD k 0)), .int (nI (10 * cf + p.getD (k + 1) 0)), .ref 22], (xuI s 22 (10 * L.length + p.getD k 0) (nI (p.getD (k + 1) 0))))) rfl ?_
      refine xQ.call rfl (c_put rfl (by omega) (by omega)) ?_
      show xQ MX1_splitFace (179, [some (.ref 18), some (.int (nI u)), some (.int (nI z)), some (.int (mk (fun v => decide (v ∈ ws)))), some (.int (nI u)), some (.int (mk (fun v => decide (v ∈ p.take (k + 1))))), some (.int (nI (k + 1))), some (.int (nI (p.getD k 0))), some (.int (nI (p.getD (k + 1) 0)))], [], (xuI (xuI s 22 (10 * L.length + p.getD k 0) (nI (p.getD (k + 1) 0))) 22 (10 * cf + p.getD (k + 1) 0) (nI (p.getD k 0)))) _
      refine xQ.go 2 (F1 := (183, [some (.ref 18), some (.int (nI u)), some (.int (nI z)), some (.int (mk (fun v => decide (v ∈ ws)))), some (.int (nI u)), some (.int (mk (fun v => decide (v ∈ p.take (k + 1))))), some (.int (nI (k + 1))), some (.int (nI (p.getD k 0))), some (.int (nI (p.getD (k + 1) 0)))], [.int (nI (p.getD (k + 1) 0)), .int (mk (fun v => decide (v ∈ p.take (k + 1))))], (xuI (xuI s 22 (10 * L.length + p.getD k 0) (nI (p.getD (k + 1) 0))) 22 (10 * cf + p.getD (k + 1) 0) (nI (p.getD k 0))))) rfl ?_
      refine xQ.call rfl (c_bit g4) ?_
      show xQ MX1_splitFace (186, [some (.ref 18), some (.int (nI u)), some (.int (nI z)), some (.int (mk (fun v => decide (v ∈ ws)))), some (.int (nI u)), some (.int (mk (fun v => decide (v ∈ p.take (k + 1))))), some (.int (nI (k + 1))), some (.int (nI (p.getD k 0))), some (.int (nI (p.getD (k + 1) 0)))], [.int (mk (fun v => decide (v = p.getD (k + 1) 0))), .int (mk (fun v => decide (v ∈ p.take (k + 1))))], (xuI (xuI s 22 (10 * L.length + p.getD k 0) (nI (p.getD (k + 1) 0))) 22 (10 * cf + p.getD (k + 1) 0) (nI (p.getD k 0)))) _
      refine xQ.go 1 (F1 := (187, [some (.ref 18), some (.int (nI u)), some (.int (nI z)), some (.int (mk (fun v => decide (v ∈ ws)))), some (.int (nI u)), some (.int (mk (fun v => decide (v ∈ p.take (k + 1))))), some (.int (nI (k + 1))), some (.int (nI (p.getD k 0))), some (.int (nI (p.getD (k + 1) 0)))], [.int ((mk (fun v => decide (v ∈ p.take (k + 1)))) ||| (mk (fun v => decide (v = p.getD (k + 1) 0))))], (xuI (xuI s 22 (10 * L.length + p.getD k 0) (nI (p.getD (k + 1) 0))) 22 (10 * cf + p.getD (k + 1) 0) (nI (p.getD k 0))))) rfl ?_
      rw [mk_or, show mk (fun v => decide (v ∈ p.take (k + 1)) || decide (v = p.getD (k + 1) 0)) = mk (fun v => decide (v ∈ p.take (k + 1 + 1))) from mk_ext fun v _ => by
        apply Bool.eq_iff_iff.mpr
        simp only [Bool.or_eq_true, decide_eq_true_iff]
        exact (mem_take1 (by omega)).symm]
      obtain ⟨s2, hs2⟩ : ∃ s2, s2 = (xuI (xuI s 22 (10 * L.length + p.getD k 0) (nI (p.getD (k + 1) 0))) 22 (10 * cf + p.getD (k + 1) 0) (nI (p.getD k 0))) := ⟨_, rfl⟩
      have hk2 : xkq [(22, none)] s s2 := by rw [hs2]; exact xkq_I (xkq_I xkq_rfl rfl) rfl
      have hr1 : s2.1 22 (10 * L.length + p.getD k 0) = nI (p.getD (k + 1) 0) := by
        rw [hs2, uI1, if_neg (by omega), uI1, if_pos ⟨rfl, rfl⟩]
      have hr2 : s2.1 22 (10 * cf + p.getD (k + 1) 0) = nI (p.getD k 0) := by
        rw [hs2, uI1, if_pos ⟨rfl, rfl⟩]
      have hr3 : ∀ i x, x < 10 → ¬ (i = L.length ∧ x = p.getD k 0) → ¬ (i = cf ∧ x = p.getD (k + 1) 0) → s2.1 22 (10 * i + x) = s.1 22 (10 * i + x) := fun i x hx n1 n2 => by
        rw [hs2, uI1, if_neg (by omega), uI1, if_neg (by omega)]
      rw [← hs2]
      have hP2 : eP 18 20 s2 (addP P (p.take (k + 1))) (addV PV (p.take (k + 1))) (E + k) := ⟨fun v hv => by rw [xkq_at hk2 20 v]; exact j2.1 v hv, by rw [xkq_at hk2 18 3]; exact j2.2.1, by rw [xkq_at hk2 18 5]; exact j2.2.2⟩
      obtain ⟨r3, s3, hc, hr, hP3, hk3⟩ := c_placeEdge_p hP2 g2 g4
      subst hr
      refine xQ.go 4 (F1 := (194, [some (.ref 18), some (.int (nI u)), some (.int (nI z)), some (.int (mk (fun v => decide (v ∈ ws)))), some (.int (nI u)), some (.int (mk (fun v => decide (v ∈ p.take (k + 1 + 1))))), some (.int (nI (k + 1))), some (.int (nI (p.getD k 0))), some (.int (nI (p.getD (k + 1) 0)))], [.int (nI (p.getD (k + 1) 0)), .int (nI (p.getD k 0)), .ref 18], s2)) rfl ?_
      refine xQ.call rfl (hc) ?_
      show xQ MX1_splitFace (197, [some (.ref 18), some (.int (nI u)), some (.int (nI z)), some (.int (mk (fun v => decide (v ∈ ws)))), some (.int (nI u)), some (.int (mk (fun v => decide (v ∈ p.take (k + 1 + 1))))), some (.int (nI (k + 1))), some (.int (nI (p.getD k 0))), some (.int (nI (p.getD (k + 1) 0)))], [], s3) _
      refine xQ.less [some (.ref 18), some (.int (nI u)), some (.int (nI z)), some (.int (mk (fun v => decide (v ∈ ws)))), some (.int (nI u)), some (.int (mk (fun v => decide (v ∈ p.take (k + 1 + 1))))), some (.int (nI (k + 1))), none, none] (by simp [xleb]) ?_
      refine xQ.go 2 (F1 := (110, [some (.ref 18), some (.int (nI u)), some (.int (nI z)), some (.int (mk (fun v => decide (v ∈ ws)))), some (.int (nI u)), some (.int (mk (fun v => decide (v ∈ p.take (k + 1 + 1))))), some (.int ((nI (k + 1)) + 1)), none, none], [], s3)) rfl ?_
      rw [← nI_succ]
      have hpj : ∀ i j, i < p.length → j < p.length → p.getD i 0 = p.getD j 0 → i = j := fun i j hi hj e => nodup_ix hpn (get_D hi) (by rw [get_D hj, e])
      refine K s3 ⟨xkq_trans (xkq_trans j1 (xkq_mono rfl hk2)) (xkq_mono rfl hk3), ⟨fun v hv => ?_, ?_, hP3.2.2⟩, fun j hj => ?_, fun i x hx n1 n2 => ?_⟩
      · rw [hP3.1 v hv]
        refine mk_ext fun x _ => Bool.eq_iff_iff.mpr ?_
        rw [addP_iff]
        show (addP P (p.take (k + 1)) v x || ab _ _ v x) = true ↔ _
        rw [Bool.or_eq_true, addP_iff, ab_iff, pd_take (by omega), pd_take (by omega)]
        simp only [Prod.mk.injEq]
        constructor
        · rintro ((h | h | h) | h | h)
          · exact Or.inl h
          · exact Or.inr (Or.inl (Or.inl h))
          · exact Or.inr (Or.inr (Or.inl h))
          · exact Or.inr (Or.inl (Or.inr h))
          · exact Or.inr (Or.inr (Or.inr ⟨h.2, h.1⟩))
        · rintro (h | (h | h) | h | h)
          · exact Or.inl (Or.inl h)
          · exact Or.inl (Or.inr (Or.inl h))
          · exact Or.inr (Or.inl h)
          · exact Or.inl (Or.inr (Or.inr h))
          · exact Or.inr (Or.inr ⟨h.2, h.1⟩)
      · rw [hP3.2.1]
        refine mk_ext fun x _ => Bool.eq_iff_iff.mpr ?_
        rw [addV_iff, mem_take1 (by omega)]
        show (addV PV (p.take (k + 1)) x || (decide (x = _) || decide (x = _))) = true ↔ _
        simp only [Bool.or_eq_true, decide_eq_true_iff, addV_iff]
        have hm : p.getD k 0 ∈ p.take (k + 1) := (mem_take1 (by omega)).mpr (Or.inr rfl)
        constructor
        · rintro ((h | h) | h | h)
          · exact Or.inl h
          · exact Or.inr (Or.inl h)
          · rw [h]; exact Or.inr (Or.inl hm)
          · exact Or.inr (Or.inr h)
        · rintro (h | h | h)
          · exact Or.inl (Or.inl h)
          · exact Or.inl (Or.inr h)
          · exact Or.inr (Or.inr h)
      · rw [xkq_at hk3 22 _, xkq_at hk3 22 _]
        by_cases e : j = k
        · rw [e]
          exact ⟨hr1, hr2⟩
        · obtain ⟨q1, q2⟩ := j3 j (by omega)
          have := (hgp j (by omega)).2
          have := (hgp (j + 1) (by omega)).2
          refine ⟨?_, ?_⟩
          · rw [hr3 _ _ (by omega) (fun h => e (hpj _ _ (by omega) (by omega) h.2)) (fun h => hne h.1)]
            exact q1
          · rw [hr3 _ _ (by omega) (fun h => hne h.1.symm) (fun h => e (by have := hpj _ _ (by omega) (by omega) h.2; omega))]
            exact q2
      · rw [xkq_at hk3 22 _, hr3 i x hx (fun h => n1 h.1 k (by omega) h.2) (fun h => n2 h.1 k (by omega) h.2)]
        exact j4 i x hx (fun h j hj => n1 h j (by omega)) (fun h j hj => n2 h j (by omega))
    · intro w2 hI
      obtain ⟨j1, j2, j3, j4⟩ := hI
      rw [show p.take (inn.length + 1 + 1) = p from List.take_of_length_le (by omega)] at *
      have k14 : w2.1 18 14 = nI (inn.length + 2) := by rw [xkq_at j1 18 14, xkq_at i1 18 14, hp1]
      have k11 : w2.1 18 11 = nI cf := by rw [xkq_at j1 18 11, xkq_at i1 18 11, hf]
      have k8 : w2.1 18 8 = nI L.length := by rw [xkq_at j1 18 8, xkq_at i1 18 8, hF.1]
      have k21 : ∀ j, w2.1 21 j = w.1 21 j := fun j => by rw [xkq_at j1 21 j, xkq_at i1 21 j]
      refine xQ.go 4 (F1 := (bif decide ((w2.1 18 14) ≤ (nI (inn.length + 1 + 1))) then 203 else 119, [some (.ref 18), some (.int (nI u)), some (.int (nI z)), some (.int (mk (fun v => decide (v ∈ ws)))), some (.int (nI u)), some (.int (mk (fun v => decide (v ∈ p)))), some (.int (nI (inn.length + 1 + 1))), none, none], [], w2)) rfl ?_
      refine xQ.brT (by rw [k14]; exact decide_eq_true (Int32.le_refl _)) ?_
      refine xQ.go 8 (F1 := (219, [some (.ref 18), some (.int (nI u)), some (.int (nI z)), some (.int (mk (fun v => decide (v ∈ ws)))), some (.int (nI u)), some (.int (mk (fun v => decide (v ∈ p)))), some (.int (nI (inn.length + 1 + 1))), none, none], [.int (w2.1 18 11), .ref 21, .int (w2.1 18 11), .ref 21], w2)) rfl ?_
      rw [k11]
      refine xQ.call rfl (c_at rfl (by omega) (by omega)) ?_
      show xQ MX1_splitFace (222, [some (.ref 18), some (.int (nI u)), some (.int (nI z)), some (.int (mk (fun v => decide (v ∈ ws)))), some (.int (nI u)), some (.int (mk (fun v => decide (v ∈ p)))), some (.int (nI (inn.length + 1 + 1))), none, none], [.int (w2.1 21 cf), .int (nI cf), .ref 21], w2) _
      rw [k21, (hF.2 cf F hcf).1]
      refine xQ.go 6 (F1 := (229, [some (.ref 18), some (.int (nI u)), some (.int (nI z)), some (.int (mk (fun v => decide (v ∈ ws)))), some (.int (nI u)), some (.int (mk (fun v => decide (v ∈ p)))), some (.int (nI (inn.length + 1 + 1))), none, none], [.int (((mk (fun v => decide (v ∈ F))) &&& ((mk (fun v => decide (v ∈ ws))) ^^^ (-1))) ||| (mk (fun v => decide (v ∈ p)))), .int (nI cf), .ref 21], w2)) rfl ?_
      rw [mk_andn, mk_or]
      refine xQ.call rfl (c_put rfl (by omega) (by omega)) ?_
      show xQ MX1_splitFace (232, [some (.ref 18), some (.int (nI u)), some (.int (nI z)), some (.int (mk (fun v => decide (v ∈ ws)))), some (.int (nI u)), some (.int (mk (fun v => decide (v ∈ p)))), some (.int (nI (inn.length + 1 + 1))), none, none], [], (xuI w2 21 cf (mk (fun v => decide (v ∈ F) && !decide (v ∈ ws) || decide (v ∈ p))))) _
      refine xQ.go 7 (F1 := (244, [some (.ref 18), some (.int (nI u)), some (.int (nI z)), some (.int (mk (fun v => decide (v ∈ ws)))), some (.int (nI u)), some (.int (mk (fun v => decide (v ∈ p)))), some (.int (nI (inn.length + 1 + 1))), none, none], [.int ((mk (fun v => decide (v ∈ ws))) ||| (mk (fun v => decide (v ∈ p)))), .int ((xuI w2 21 cf (mk (fun v => decide (v ∈ F) && !decide (v ∈ ws) || decide (v ∈ p)))).1 18 8), .ref 21], (xuI w2 21 cf (mk (fun v => decide (v ∈ F) && !decide (v ∈ ws) || decide (v ∈ p)))))) rfl ?_
      rw [show (xuI w2 21 cf (mk (fun v => decide (v ∈ F) && !decide (v ∈ ws) || decide (v ∈ p)))).1 18 8 = nI L.length by rw [uI1, if_neg (by omega), k8], mk_or]
      refine xQ.call rfl (c_put rfl (by omega) (by omega)) ?_
      show xQ MX1_splitFace (247, [some (.ref 18), some (.int (nI u)), some (.int (nI z)), some (.int (mk (fun v => decide (v ∈ ws)))), some (.int (nI u)), some (.int (mk (fun v => decide (v ∈ p)))), some (.int (nI (inn.length + 1 + 1))), none, none], [], (xuI (xuI w2 21 cf (mk (fun v => decide (v ∈ F) && !decide (v ∈ ws) || decide (v ∈ p)))) 21 L.length (mk (fun v => decide (v ∈ ws) || decide (v ∈ p))))) _
      refine xQ.go 6 (F1 := (257, [some (.ref 18), some (.int (nI u)), some (.int (nI z)), some (.int (mk (fun v => decide (v ∈ ws)))), some (.int (nI u)), some (.int (mk (fun v => decide (v ∈ p)))), some (.int (nI (inn.length + 1 + 1))), none, none], [], (xuI (xuI (xuI w2 21 cf (mk (fun v => decide (v ∈ F) && !decide (v ∈ ws) || decide (v ∈ p)))) 21 L.length (mk (fun v => decide (v ∈ ws) || decide (v ∈ p)))) 18 8 (((xuI (xuI w2 21 cf (mk (fun v => decide (v ∈ F) && !decide (v ∈ ws) || decide (v ∈ p)))) 21 L.length (mk (fun v => decide (v ∈ ws) || decide (v ∈ p)))).1 18 8) + 1)))) rfl ?_
      refine xQ.vret 1 rfl rfl ?_
      have hpm : ∀ v, v ∈ p ↔ v = u ∨ v ∈ inn ∨ v = z := fun v => by rw [hpp]; simp
      have hwm : ∀ v, v ∈ ws ↔ v = z ∨ v ∈ ys ∨ v = u := fun v => by rw [hws]; simp
      have hFm2 : ∀ v, v ∈ F ↔ v = u ∨ v ∈ xs ∨ v = z ∨ v ∈ ys := fun v => by rw [hFm]; simp
      refine ⟨rfl, ⟨fun v hv => ?_, ?_, ?_⟩, ⟨?_, fun i f hi => ?_⟩, ?_⟩
      · simp only [uI1]
        simp
        exact j2.1 v hv
      · simp only [uI1]
        simp
        exact j2.2.1
      · simp only [uI1]
        simp
        exact j2.2.2
      · simp only [uI1]
        simp [k8, nI_succ]
      · have hset : i < L.length + 1 := by
          have := (List.getElem?_eq_some_iff.mp hi).1
          simpa using this
        have hfol : ∀ x, (xuI (xuI (xuI w2 21 cf (mk (fun v => decide (v ∈ F) && !decide (v ∈ ws) || decide (v ∈ p)))) 21 L.length (mk (fun v => decide (v ∈ ws) || decide (v ∈ p)))) 18 8 ((xuI (xuI w2 21 cf (mk (fun v => decide (v ∈ F) && !decide (v ∈ ws) || decide (v ∈ p)))) 21 L.length (mk (fun v => decide (v ∈ ws) || decide (v ∈ p)))).1 18 8 + 1)).1 22 (10 * i + x) = w2.1 22 (10 * i + x) := fun x => by
          simp only [uI1]
          simp
        have hpd : ∀ x y, (x, y) ∈ pd p → ∃ j, j < inn.length + 1 ∧ x = p.getD j 0 ∧ y = p.getD (j + 1) 0 := fun x y h => by
          obtain ⟨j, h1, h2⟩ := pd_ex h
          have hj := (List.getElem?_eq_some_iff.mp h2).1
          refine ⟨j, by omega, ?_, ?_⟩
          · rw [get_D (by omega)] at h1
            exact (Option.some.inj h1).symm
          · rw [get_D hj] at h2
            exact (Option.some.inj h2).symm
        have hpdw : ∀ x y, (x, y) ∈ pd ws → ∃ j, j < ys.length + 1 ∧ x = ws.getD j 0 ∧ y = ws.getD (j + 1) 0 := fun x y h => by
          obtain ⟨j, h1, h2⟩ := pd_ex h
          have hj := (List.getElem?_eq_some_iff.mp h2).1
          refine ⟨j, by omega, ?_, ?_⟩
          · rw [get_D (by omega)] at h1
            exact (Option.some.inj h1).symm
          · rw [get_D hj] at h2
            exact (Option.some.inj h2).symm
        have hpu : ∀ j, j < inn.length + 1 → p.getD j 0 ∈ u :: inn := fun j hj => by
          have h1 := (hgp j (by omega)).1
          rcases (hpm _).mp h1 with e | e | e
          · rw [e]; simp
          · exact List.mem_cons_of_mem _ e
          · exfalso
            have := nodup_ix hpn (get_D (k := j) (by omega)) (by rw [get_D (k := inn.length + 1) (by omega), hpe, e])
            omega
        have hpz : ∀ j, j < inn.length + 1 → p.getD (j + 1) 0 ∈ z :: inn := fun j hj => by
          have h1 := (hgp (j + 1) (by omega)).1
          rcases (hpm _).mp h1 with e | e | e
          · exfalso
            have := nodup_ix hpn (get_D (k := j + 1) (by omega)) (by rw [get_D (k := 0) (by omega), hp0, e])
            omega
          · exact List.mem_cons_of_mem _ e
          · rw [e]; simp
        have hzy2 : ∀ j, j < ys.length + 1 → ws.getD j 0 ∈ z :: ys := fun j hj => by
          have h1 := (hgw j (by omega)).1
          rcases (hwm _).mp h1 with e | e | e
          · rw [e]; simp
          · exact List.mem_cons_of_mem _ e
          · exfalso
            have := nodup_ix hwn (get_D (k := j) (by omega)) (by rw [get_D (k := ys.length + 1) (by omega), hwe, e])
            omega
        by_cases e1 : i = L.length
        · have hfe : f = z :: ys ++ u :: inn := by
            rw [List.getElem?_append_right (by simp [e1]), e1] at hi
            simp at hi
            rw [← hi]
            simp
          refine ⟨?_, fun x y hxy => ?_⟩
          · simp only [uI1]
            rw [if_neg (by omega), if_pos ⟨trivial, e1⟩]
            refine mk_ext fun v _ => Bool.eq_iff_iff.mpr ?_
            simp only [Bool.or_eq_true, decide_eq_true_iff, hwm, hpm, hfe, List.mem_append, List.mem_cons]
            constructor
            · rintro ((h | h | h) | h | h | h) <;> simp [h]
            · rintro ((h | h) | h | h) <;> simp [h]
          · rw [hfol]
            rw [hfe, dts_two, ← hws, ← hpp] at hxy
            rcases List.mem_append.mp hxy with h | h
            · obtain ⟨j, hj, rfl, rfl⟩ := hpdw x y h
              have hm := hzy2 j hj
              rw [j4 i _ (hgw j (by omega)).2 (fun _ j2 hj2 e => ?_) (fun h => absurd (e1.symm.trans h) hne), e1]
              · exact i2 j hj
              · have hm2 := hpu j2 hj2
                rw [← e] at hm2
                rcases List.mem_cons.mp hm2 with e3 | e3
                · exact hdis u (by simp) _ hm e3.symm
                · exact (hi10 _ e3).2 (List.mem_append_right _ hm)
            · obtain ⟨j, hj, rfl, rfl⟩ := hpd x y h
              rw [e1]
              exact (j3 j hj).1
        · have hi2 : (L.set cf (u :: xs ++ z :: inn.reverse))[i]? = some f := by
            rw [List.getElem?_append_left (by simp; omega)] at hi
            exact hi
          by_cases e2 : i = cf
          · have hfe : f = u :: xs ++ z :: inn.reverse := by
              rw [e2, List.getElem?_set_self hcl] at hi2
              exact (Option.some.inj hi2).symm
            refine ⟨?_, fun x y hxy => ?_⟩
            · simp only [uI1]
              rw [if_neg (by omega), if_neg (by omega), if_pos ⟨trivial, e2⟩]
              refine mk_ext fun v _ => Bool.eq_iff_iff.mpr ?_
              simp only [Bool.or_eq_true, Bool.and_eq_true, Bool.not_eq_true', decide_eq_true_iff, decide_eq_false_iff_not, hwm, hpm, hFm2, hfe, List.mem_append, List.mem_cons, List.mem_reverse]
              constructor
              · rintro (⟨h, h2⟩ | h | h | h)
                · rcases h with h | h | h | h
                  · exact absurd (Or.inr (Or.inr h)) h2
                  · exact Or.inl (Or.inr h)
                  · exact absurd (Or.inl h) h2
                  · exact absurd (Or.inr (Or.inl h)) h2
                · exact Or.inl (Or.inl h)
                · exact Or.inr (Or.inr h)
                · exact Or.inr (Or.inl h)
              · rintro ((h | h) | h | h)
                · exact Or.inr (Or.inl h)
                · refine Or.inl ⟨Or.inr (Or.inl h), ?_⟩
                  rintro (h2 | h2 | h2)
                  · exact hdis v (List.mem_cons_of_mem _ h) z (by simp) h2
                  · exact hdis v (List.mem_cons_of_mem _ h) v (List.mem_cons_of_mem _ h2) rfl
                  · rw [h2] at h
                    exact (List.nodup_cons.mp hux).1 h
                · exact Or.inr (Or.inr (Or.inr h))
                · exact Or.inr (Or.inr (Or.inl h))
            · rw [hfol]
              rw [hfe, dts_two] at hxy
              rcases List.mem_append.mp hxy with h | h
              · have hxu : x ∈ u :: xs := by
                  obtain ⟨j, h1, h2⟩ := pd_ex h
                  have hj := (List.getElem?_eq_some_iff.mp h2).1
                  rw [List.getElem?_append_left (by simp at hj ⊢; omega)] at h1
                  exact List.mem_of_getElem? h1
                have hx10 := h10 x (List.mem_append_left _ hxu)
                rw [j4 i x hx10 (fun h => absurd h e1) (fun _ j2 hj2 e => ?_), i3 i x hx10 e1, e2]
                · exact (hF.2 cf F hcf).2 x y ((hFd _).mpr (by rw [dts_two]; exact List.mem_append_left _ h))
                · have hm2 := hpz j2 hj2
                  rw [← e] at hm2
                  rcases List.mem_cons.mp hm2 with e3 | e3
                  · exact hdis x hxu z (by simp) e3
                  · exact (hi10 _ e3).2 (List.mem_append_left _ hxu)
              · have h2 : (y, x) ∈ pd p := by
                  rw [hpp]
                  have e : (u :: inn ++ [z]).reverse = z :: inn.reverse ++ [u] := by simp
                  exact (pd_rev _ (x, y)).mp (by rw [e]; exact h)
                obtain ⟨j, hj, rfl, rfl⟩ := hpd y x h2
                rw [e2]
                exact (j3 j hj).2
          · rw [List.getElem?_set_ne (fun e => e2 e.symm)] at hi2
            refine ⟨?_, fun x y hxy => ?_⟩
            · simp only [uI1]
              rw [if_neg (by omega), if_neg (by omega), if_neg (by omega), k21]
              exact (hF.2 i f hi2).1
            · rw [hfol]
              have hx10 := hL10 f (List.mem_of_getElem? hi2) x (dts_mem hxy).1
              rw [j4 i x hx10 (fun h => absurd h e1) (fun h => absurd h e2), i3 i x hx10 e1]
              exact (hF.2 i f hi2).2 x y hxy
      · exact xkq_I (xkq_I (xkq_I (xkq_trans (xkq_mono rfl i1) (xkq_mono rfl j1)) rfl) rfl) rfl

theorem c_split_t {w : xW} {P : Nat → Nat → Bool} {PV : Nat → Bool} {E : Nat} {L : List (List Nat)} {cf u z : Nat} {F xs ys inn : List Nat} (hP : eP 32 34 w P PV E) (hF : eF 32 35 36 w L) (hp : eL 32 37 w (u :: inn ++ [z])) (hf : w.1 32 11 = nI cf) (hn16 : L.length < 16) (hcf : L[cf]? = some F) (hFm : ∀ v, v ∈ F ↔ v ∈ u :: xs ++ z :: ys) (hFd : ∀ q, q ∈ dts F ↔ q ∈ dts (u :: xs ++ z :: ys)) (hFn : (u :: xs ++ z :: ys).Nodup) (h10 : ∀ v ∈ u :: xs ++ z :: ys, v < 10) (hin : inn.Nodup) (hi10 : ∀ v ∈ inn, v < 10 ∧ v ∉ u :: xs ++ z :: ys) (hPu : PV u = true) (hL10 : ∀ f ∈ L, ∀ x ∈ f, x < 10) : xD MX1_splitFace [.ref 32] w (fun r w1 => r = none ∧ eP 32 34 w1 (addP P (u :: inn ++ [z])) (addV PV (u :: inn ++ [z])) (E + (inn.length + 1)) ∧ eF 32 35 36 w1 (L.set cf (u :: xs ++ z :: inn.reverse) ++ [z :: ys ++ u :: inn]) ∧ xkq [(32, some 3), (32, some 5), (32, some 8), (34, none), (35, none), (36, none)] w w1) := by
  have hcl : cf < L.length := (List.getElem?_eq_some_iff.mp hcf).1
  have hu10 : u < 10 := h10 u (by simp)
  have hz10 : z < 10 := h10 z (by simp)
  have hnd := List.nodup_append.mp hFn
  have hzy : (z :: ys).Nodup := hnd.2.1
  have hux : (u :: xs).Nodup := hnd.1
  have hdis := hnd.2.2
  have huz : u ≠ z := hdis u (by simp) z (by simp)
  obtain ⟨ws, hws⟩ : ∃ ws, ws = z :: ys ++ [u] := ⟨_, rfl⟩
  obtain ⟨p, hpp⟩ : ∃ p, p = u :: inn ++ [z] := ⟨_, rfl⟩
  have hwl : ws.length = ys.length + 2 := by rw [hws]; simp
  have hpl : p.length = inn.length + 2 := by rw [hpp]; simp
  have hwn : ws.Nodup := by
    rw [hws]
    refine List.nodup_append.mpr ⟨hzy, by simp, fun a ha b hb e => ?_⟩
    rw [List.mem_singleton] at hb
    exact hdis u (by simp) a ha (by rw [e, hb])
  have hpn : p.Nodup := by
    rw [hpp, List.cons_append]
    refine List.nodup_cons.mpr ⟨fun h => ?_, List.nodup_append.mpr ⟨hin, by simp, fun a ha b hb e => ?_⟩⟩
    · rcases List.mem_append.mp h with e | e
      · exact (hi10 u e).2 (by simp)
      · exact huz (List.mem_singleton.mp e)
    · rw [List.mem_singleton] at hb
      exact (hi10 a ha).2 (by rw [e, hb]; simp)
  have hw10 : ∀ v ∈ ws, v < 10 := fun v hv => h10 v (by
    rw [hws] at hv
    rcases List.mem_append.mp hv with e | e
    · exact List.mem_append_right _ e
    · rw [List.mem_singleton.mp e]; simp)
  have hp10 : ∀ v ∈ p, v < 10 := fun v hv => by
    rw [hpp, List.cons_append] at hv
    rcases List.mem_cons.mp hv with e | e
    · omega
    · rcases List.mem_append.mp e with e | e
      · exact (hi10 v e).1
      · rw [List.mem_singleton.mp e]; exact hz10
  have hgw : ∀ k, k < ws.length → ws.getD k 0 ∈ ws ∧ ws.getD k 0 < 10 := fun k hk => by
    have := List.mem_of_getElem? (get_D hk)
    exact ⟨this, hw10 _ this⟩
  have hgp : ∀ k, k < p.length → p.getD k 0 ∈ p ∧ p.getD k 0 < 10 := fun k hk => by
    have := List.mem_of_getElem? (get_D hk)
    exact ⟨this, hp10 _ this⟩
  have hw9 : ws.length ≤ 10 := by
    have := cnt_list hwn hw10
    have h2 := cnt_le (fun v => decide (v ∈ ws)) 10
    omega
  have hp9 : p.length ≤ 10 := by
    have := cnt_list hpn hp10
    have h2 := cnt_le (fun v => decide (v ∈ p)) 10
    omega
  have hw0 : ws.getD 0 0 = z := by rw [hws]; rfl
  have hwe : ws.getD (ys.length + 1) 0 = u := by rw [hws, List.getD_eq_getElem?_getD]; simp
  have hp0 : p.getD 0 0 = u := by rw [hpp]; rfl
  have hpe : p.getD (inn.length + 1) 0 = z := by rw [hpp, List.getD_eq_getElem?_getD]; simp
  rw [← hpp] at hp ⊢
  have hpr : ∀ k, k < p.length → w.1 37 k = nI (p.getD k 0) := fun k hk => hp.2 k _ (get_D hk)
  have hp1 : w.1 32 14 = nI (inn.length + 2) := by rw [hp.1, hpl]
  have hdw : ∀ q, q ∈ pd ws → q ∈ dts F := fun q hq => (hFd q).mpr (by rw [dts_two, ← hws]; exact List.mem_append_right _ hq)
  have hne : L.length ≠ cf := by omega
  refine xD.of ?_
  show xQ MX1_splitFace (0, [some (.ref 32), none, none, none, none, none, none, none, none], [], w) _
  refine xQ.go 3 (F1 := (5, [some (.ref 32), none, none, none, none, none, none, none, none], [.int 0, .ref 37], w)) rfl ?_
  refine xQ.call rfl (c_at rfl (k := 0) (by omega) (by omega)) ?_
  show xQ MX1_splitFace (8, [some (.ref 32), none, none, none, none, none, none, none, none], [.int (w.1 37 0)], w) _
  rw [hpr 0 (by omega), hp0]
  refine xQ.go 5 (F1 := (17, [some (.ref 32), some (.int (nI u)), none, none, none, none, none, none, none], [.int (w.1 32 14), .ref 37], w)) rfl ?_
  rw [hp1]
  refine xQ.go 2 (F1 := (19, [some (.ref 32), some (.int (nI u)), none, none, none, none, none, none, none], [.int ((nI (inn.length + 2)) - 1), .ref 37], w)) rfl ?_
  rw [show nI (inn.length + 2) - 1 = nI (inn.length + 1) from jI_sub (b := 1) (by omega)]
  refine xQ.call rfl (c_at rfl (by omega) (by omega)) ?_
  show xQ MX1_splitFace (22, [some (.ref 32), some (.int (nI u)), none, none, none, none, none, none, none], [.int (w.1 37 (inn.length + 1))], w) _
  rw [hpr _ (by omega), hpe]
  refine xQ.go 2 (F1 := (24, [some (.ref 32), some (.int (nI u)), some (.int (nI z)), none, none, none, none, none, none], [.int (nI z)], w)) rfl ?_
  refine xQ.call rfl (c_bit hz10) ?_
  show xQ MX1_splitFace (27, [some (.ref 32), some (.int (nI u)), some (.int (nI z)), none, none, none, none, none, none], [.int (mk (fun v => decide (v = z)))], w) _
  refine xQ.go 5 (F1 := (34, [some (.ref 32), some (.int (nI u)), some (.int (nI z)), some (.int (mk (fun v => decide (v = z)))), some (.int (nI z)), some (.int 0), none, none, none], [], w)) rfl ?_
  refine xQ.loop (S := xW) (fun k s => (34, [some (.ref 32), some (.int (nI u)), some (.int (nI z)), some (.int (mk (fun v => decide (v ∈ ws.take (k + 1))))), some (.int (nI (ws.getD k 0))), some (.int (nI k)), none, none, none], [], s)) (fun k s => xkq [(36, none)] w s ∧ (∀ j, j < k → s.1 36 (10 * L.length + ws.getD j 0) = nI (ws.getD (j + 1) 0)) ∧ ∀ i x, x < 10 → i ≠ L.length → s.1 36 (10 * i + x) = w.1 36 (10 * i + x)) (ys.length + 1) w (by rw [hw0, show mk (fun v => decide (v ∈ ws.take (0 + 1))) = mk (fun v => decide (v = z)) by rw [hws]; exact mk_ext fun v _ => by simp]; rfl) (⟨xkq_rfl, fun j hj => absurd hj (by omega), fun _ _ _ _ => rfl⟩) ?_ ?_
  · intro k s hk hI K
    obtain ⟨i1, i2, i3⟩ := hI
    obtain ⟨g1, g2⟩ := hgw k (by omega)
    obtain ⟨g3, g4⟩ := hgw (k + 1) (by omega)
    have hku : ws.getD k 0 ≠ u := fun e => by
      have := nodup_ix hwn (get_D (k := k) (by omega)) (by rw [get_D (k := ys.length + 1) (by omega), hwe, e])
      omega
    refine xQ.go 3 (F1 := (bif decide (10 ≤ (nI k)) then 101 else 41, [some (.ref 32), some (.int (nI u)), some (.int (nI z)), some (.int (mk (fun v => decide (v ∈ ws.take (k + 1))))), some (.int (nI (ws.getD k 0))), some (.int (nI k)), none, none, none], [], s)) rfl ?_
    refine xQ.brF (decide_eq_false (nI_ge (b := 10) (by omega) (by omega))) ?_
    refine xQ.go 3 (F1 := (bif decide ((nI (ws.getD k 0)) = (nI u)) then 101 else 47, [some (.ref 32), some (.int (nI u)), some (.int (nI z)), some (.int (mk (fun v => decide (v ∈ ws.take (k + 1))))), some (.int (nI (ws.getD k 0))), some (.int (nI k)), none, none, none], [], s)) rfl ?_
    refine xQ.brF (decide_eq_false (fun e => hku (jI_inj (by omega) (by omega) e))) ?_
    refine xQ.go 4 (F1 := (55, [some (.ref 32), some (.int (nI u)), some (.int (nI z)), some (.int (mk (fun v => decide (v ∈ ws.take (k + 1))))), some (.int (nI (ws.getD k 0))), some (.int (nI k)), none, none, none], [.int (s.1 32 11), .ref 36], s)) rfl ?_
    rw [xkq_at i1 32 11, hf]
    refine xQ.go 1 (F1 := (57, [some (.ref 32), some (.int (nI u)), some (.int (nI z)), some (.int (mk (fun v => decide (v ∈ ws.take (k + 1))))), some (.int (nI (ws.getD k 0))), some (.int (nI k)), none, none, none], [.int (nI (ws.getD k 0)), .int (nI cf), .ref 36], s)) rfl ?_
    refine xQ.call rfl (c_cell) ?_
    show xQ MX1_splitFace (60, [some (.ref 32), some (.int (nI u)), some (.int (nI z)), some (.int (mk (fun v => decide (v ∈ ws.take (k + 1))))), some (.int (nI (ws.getD k 0))), some (.int (nI k)), none, none, none], [.int (nI (10 * cf + ws.getD k 0)), .ref 36], s) _
    refine xQ.call rfl (c_at rfl (by omega) (by omega)) ?_
    show xQ MX1_splitFace (63, [some (.ref 32), some (.int (nI u)), some (.int (nI z)), some (.int (mk (fun v => decide (v ∈ ws.take (k + 1))))), some (.int (nI (ws.getD k 0))), some (.int (nI k)), none, none, none], [.int (s.1 36 (10 * cf + ws.getD k 0))], s) _
    rw [i3 cf _ g2 (by omega), (hF.2 cf F hcf).2 _ _ (hdw _ (pd_get ws k _ _ (get_D (by omega)) (get_D (by omega))))]
    refine xQ.go 6 (F1 := (75, [some (.ref 32), some (.int (nI u)), some (.int (nI z)), some (.int (mk (fun v => decide (v ∈ ws.take (k + 1))))), some (.int (nI (ws.getD k 0))), some (.int (nI k)), some (.int (nI (ws.getD (k + 1) 0))), none, none], [.int (nI (ws.getD k 0)), .int (s.1 32 8), .ref 36], s)) rfl ?_
    rw [xkq_at i1 32 8, hF.1]
    refine xQ.call rfl (c_cell) ?_
    show xQ MX1_splitFace (78, [some (.ref 32), some (.int (nI u)), some (.int (nI z)), some (.int (mk (fun v => decide (v ∈ ws.take (k + 1))))), some (.int (nI (ws.getD k 0))), some (.int (nI k)), some (.int (nI (ws.getD (k + 1) 0))), none, none], [.int (nI (10 * L.length + ws.getD k 0)), .ref 36], s) _
    refine xQ.go 1 (F1 := (80, [some (.ref 32), some (.int (nI u)), some (.int (nI z)), some (.int (mk (fun v => decide (v ∈ ws.take (k + 1))))), some (.int (nI (ws.getD k 0))), some (.int (nI k)), some (.int (nI (ws.getD (k + 1) 0))), none, none], [.int (nI (ws.getD (k + 1) 0)), .int (nI (10 * L.length + ws.getD k 0)), .ref 36], s)) rfl ?_
    refine xQ.call rfl (c_put rfl (by omega) (by omega)) ?_
    show xQ MX1_splitFace (83, [some (.ref 32), some (.int (nI u)), some (.int (nI z)), some (.int (mk (fun v => decide (v ∈ ws.take (k + 1))))), some (.int (nI (ws.getD k 0))), some (.int (nI k)), some (.int (nI (ws.getD (k + 1) 0))), none, none], [], (xuI s 36 (10 * L.length + ws.getD k 0) (nI (ws.getD (k + 1) 0)))) _
    refine xQ.go 2 (F1 := (86, [some (.ref 32), some (.int (nI u)), some (.int (nI z)), some (.int (mk (fun v => decide (v ∈ ws.take (k + 1))))), some (.int (nI (ws.getD k 0))), some (.int (nI k)), some (.int (nI (ws.getD (k + 1) 0))), none, none], [.int (nI (ws.getD (k + 1) 0)), .int (mk (fun v => decide (v ∈ ws.take (k + 1))))], (xuI s 36 (10 * L.length + ws.getD k 0) (nI (ws.getD (k + 1) 0))))) rfl ?_
    refine xQ.call rfl (c_bit g4) ?_
    show xQ MX1_splitFace (89, [some (.ref 32), some (.int (nI u)), some (.int (nI z)), some (.int (mk (fun v => decide (v ∈ ws.take (k + 1))))), some (.int (nI (ws.getD k 0))), some (.int (nI k)), some (.int (nI (ws.getD (k + 1) 0))), none, none], [.int (mk (fun v => decide (v = ws.getD (k + 1) 0))), .int (mk (fun v => decide (v ∈ ws.take (k + 1))))], (xuI s 36 (10 * L.length + ws.getD k 0) (nI (ws.getD (k + 1) 0)))) _
    refine xQ.go 1 (F1 := (90, [some (.ref 32), some (.int (nI u)), some (.int (nI z)), some (.int (mk (fun v => decide (v ∈ ws.take (k + 1))))), some (.int (nI (ws.getD k 0))), some (.int (nI k)), some (.int (nI (ws.getD (k + 1) 0))), none, none], [.int ((mk (fun v => decide (v ∈ ws.take (k + 1)))) ||| (mk (fun v => decide (v = ws.getD (k + 1) 0))))], (xuI s 36 (10 * L.length + ws.getD k 0) (nI (ws.getD (k + 1) 0))))) rfl ?_
    rw [mk_or, show mk (fun v => decide (v ∈ ws.take (k + 1)) || decide (v = ws.getD (k + 1) 0)) = mk (fun v => decide (v ∈ ws.take (k + 1 + 1))) from mk_ext fun v _ => by
      apply Bool.eq_iff_iff.mpr
      simp only [Bool.or_eq_true, decide_eq_true_iff]
      exact (mem_take1 (by omega)).symm]
    refine xQ.go 5 (F1 := (34, [some (.ref 32), some (.int (nI u)), some (.int (nI z)), some (.int (mk (fun v => decide (v ∈ ws.take (k + 1 + 1))))), some (.int (nI (ws.getD (k + 1) 0))), some (.int ((nI k) + 1)), some (.int (nI (ws.getD (k + 1) 0))), none, none], [], (xuI s 36 (10 * L.length + ws.getD k 0) (nI (ws.getD (k + 1) 0))))) rfl ?_
    refine xQ.less [some (.ref 32), some (.int (nI u)), some (.int (nI z)), some (.int (mk (fun v => decide (v ∈ ws.take (k + 1 + 1))))), some (.int (nI (ws.getD (k + 1) 0))), some (.int ((nI k) + 1)), none, none, none] (by simp [xleb]) ?_
    rw [← nI_succ]
    refine K _ ⟨xkq_I i1 rfl, fun j hj => ?_, fun i x hx hi => ?_⟩
    · rw [uI1]
      by_cases e : j = k
      · rw [e, if_pos ⟨rfl, rfl⟩]
      · rw [if_neg, i2 j (by omega)]
        rintro ⟨_, e2⟩
        have : ws.getD j 0 = ws.getD k 0 := by omega
        exact e (nodup_ix hwn (get_D (by omega)) (by rw [get_D (k := k) (by omega), this]))
    · rw [uI1, if_neg, i3 i x hx hi]
      rintro ⟨_, e2⟩
      omega
  · intro w1 hI
    obtain ⟨i1, i2, i3⟩ := hI
    rw [hwe]
    have hmv : mk (fun v => decide (v ∈ ws.take (ys.length + 1 + 1))) = mk (fun v => decide (v ∈ ws)) := by
      rw [List.take_of_length_le (by omega)]
    rw [hmv]
    refine xQ.go 3 (F1 := (bif decide (10 ≤ (nI (ys.length + 1))) then 101 else 41, [some (.ref 32), some (.int (nI u)), some (.int (nI z)), some (.int (mk (fun v => decide (v ∈ ws)))), some (.int (nI u)), some (.int (nI (ys.length + 1))), none, none, none], [], w1)) rfl ?_
    refine xQ.brF (decide_eq_false (nI_ge (b := 10) (by omega) (by omega))) ?_
    refine xQ.go 3 (F1 := (bif decide ((nI u) = (nI u)) then 101 else 47, [some (.ref 32), some (.int (nI u)), some (.int (nI z)), some (.int (mk (fun v => decide (v ∈ ws)))), some (.int (nI u)), some (.int (nI (ys.length + 1))), none, none, none], [], w1)) rfl ?_
    refine xQ.brT (decide_eq_true rfl) ?_
    refine xQ.go 1 (F1 := (102, [some (.ref 32), some (.int (nI u)), some (.int (nI z)), some (.int (mk (fun v => decide (v ∈ ws)))), some (.int (nI u)), some (.int (nI (ys.length + 1))), none, none, none], [.int (nI u)], w1)) rfl ?_
    refine xQ.call rfl (c_bit hu10) ?_
    show xQ MX1_splitFace (105, [some (.ref 32), some (.int (nI u)), some (.int (nI z)), some (.int (mk (fun v => decide (v ∈ ws)))), some (.int (nI u)), some (.int (nI (ys.length + 1))), none, none, none], [.int (mk (fun v => decide (v = u)))], w1) _
    refine xQ.go 3 (F1 := (110, [some (.ref 32), some (.int (nI u)), some (.int (nI z)), some (.int (mk (fun v => decide (v ∈ ws)))), some (.int (nI u)), some (.int (mk (fun v => decide (v = u)))), some (.int 1), none, none], [], w1)) rfl ?_
    refine xQ.loop (S := xW) (fun k s => (110, [some (.ref 32), some (.int (nI u)), some (.int (nI z)), some (.int (mk (fun v => decide (v ∈ ws)))), some (.int (nI u)), some (.int (mk (fun v => decide (v ∈ p.take (k + 1))))), some (.int (nI (k + 1))), none, none], [], s)) (fun k s => xkq [(32, some 3), (32, some 5), (34, none), (36, none)] w1 s ∧ eP 32 34 s (addP P (p.take (k + 1))) (addV PV (p.take (k + 1))) (E + k) ∧ (∀ j, j < k → s.1 36 (10 * L.length + p.getD j 0) = nI (p.getD (j + 1) 0) ∧ s.1 36 (10 * cf + p.getD (j + 1) 0) = nI (p.getD j 0)) ∧ ∀ i x, x < 10 → (i = L.length → ∀ j, j < k → x ≠ p.getD j 0) → (i = cf → ∀ j, j < k → x ≠ p.getD (j + 1) 0) → s.1 36 (10 * i + x) = w1.1 36 (10 * i + x)) (inn.length + 1) w1 (by rw [show mk (fun v => decide (v ∈ p.take (0 + 1))) = mk (fun v => decide (v = u)) by rw [hpp]; exact mk_ext fun v _ => by simp]; rfl) (⟨xkq_rfl, ⟨fun v hv => by rw [xkq_at i1 34 v, hP.1 v hv, hpp]; exact mk_ext fun x _ => by simp [addP, pd], by rw [xkq_at i1 32 3, hP.2.1, hpp]; exact mk_ext fun x _ => (by simp [addV]; intro e; rw [e]; exact hPu), by rw [xkq_at i1 32 5, hP.2.2]; rfl⟩, fun j hj => absurd hj (by omega), fun _ _ _ _ _ => rfl⟩) ?_ ?_
    · intro k s hk hI K
      obtain ⟨j1, j2, j3, j4⟩ := hI
      obtain ⟨g1, g2⟩ := hgp k (by omega)
      obtain ⟨g3, g4⟩ := hgp (k + 1) (by omega)
      have hfld : ∀ j, j = 8 ∨ j = 11 ∨ j = 14 → s.1 32 j = w.1 32 j := fun j hj => by
        rcases hj with e | e | e <;> subst e
        · rw [xkq_at j1 32 8, xkq_at i1 32 8]
        · rw [xkq_at j1 32 11, xkq_at i1 32 11]
        · rw [xkq_at j1 32 14, xkq_at i1 32 14]
      refine xQ.go 4 (F1 := (bif decide ((s.1 32 14) ≤ (nI (k + 1))) then 203 else 119, [some (.ref 32), some (.int (nI u)), some (.int (nI z)), some (.int (mk (fun v => decide (v ∈ ws)))), some (.int (nI u)), some (.int (mk (fun v => decide (v ∈ p.take (k + 1))))), some (.int (nI (k + 1))), none, none], [], s)) rfl ?_
      refine xQ.brF (by rw [hfld 14 (by omega), hp1]; exact decide_eq_false (nI_ge (by omega) (by omega))) ?_
      refine xQ.go 5 (F1 := (127, [some (.ref 32), some (.int (nI u)), some (.int (nI z)), some (.int (mk (fun v => decide (v ∈ ws)))), some (.int (nI u)), some (.int (mk (fun v => decide (v ∈ p.take (k + 1))))), some (.int (nI (k + 1))), none, none], [.int ((nI (k + 1)) - 1), .ref 37], s)) rfl ?_
      rw [show nI (k + 1) - 1 = nI k from jI_sub (b := 1) (by omega)]
      refine xQ.call rfl (c_at rfl (by omega) (by omega)) ?_
      show xQ MX1_splitFace (130, [some (.ref 32), some (.int (nI u)), some (.int (nI z)), some (.int (mk (fun v => decide (v ∈ ws)))), some (.int (nI u)), some (.int (mk (fun v => decide (v ∈ p.take (k + 1))))), some (.int (nI (k + 1))), none, none], [.int (s.1 37 k)], s) _
      rw [xkq_at j1 37 k, xkq_at i1 37 k, hpr k (by omega)]
      refine xQ.go 4 (F1 := (138, [some (.ref 32), some (.int (nI u)), some (.int (nI z)), some (.int (mk (fun v => decide (v ∈ ws)))), some (.int (nI u)), some (.int (mk (fun v => decide (v ∈ p.take (k + 1))))), some (.int (nI (k + 1))), some (.int (nI (p.getD k 0))), none], [.int (nI (k + 1)), .ref 37], s)) rfl ?_
      refine xQ.call rfl (c_at rfl (by omega) (by omega)) ?_
      show xQ MX1_splitFace (141, [some (.ref 32), some (.int (nI u)), some (.int (nI z)), some (.int (mk (fun v => decide (v ∈ ws)))), some (.int (nI u)), some (.int (mk (fun v => decide (v ∈ p.take (k + 1))))), some (.int (nI (k + 1))), some (.int (nI (p.getD k 0))), none], [.int (s.1 37 (k + 1))], s) _
      rw [xkq_at j1 37 (k + 1), xkq_at i1 37 (k + 1), hpr (k + 1) (by omega)]
      refine xQ.go 6 (F1 := (153, [some (.ref 32), some (.int (nI u)), some (.int (nI z)), some (.int (mk (fun v => decide (v ∈ ws)))), some (.int (nI u)), some (.int (mk (fun v => decide (v ∈ p.take (k + 1))))), some (.int (nI (k + 1))), some (.int (nI (p.getD k 0))), some (.int (nI (p.getD (k + 1) 0)))], [.int (nI (p.getD k 0)), .int (s.1 32 8), .ref 36], s)) rfl ?_
      rw [hfld 8 (by omega), hF.1]
      refine xQ.call rfl (c_cell) ?_
      show xQ MX1_splitFace (156, [some (.ref 32), some (.int (nI u)), some (.int (nI z)), some (.int (mk (fun v => decide (v ∈ ws)))), some (.int (nI u)), some (.int (mk (fun v => decide (v ∈ p.take (k + 1))))), some (.int (nI (k + 1))), some (.int (nI (p.getD k 0))), some (.int (nI (p.getD (k + 1) 0)))], [.int (nI (10 * L.length + p.getD k 0)), .ref 36], s) _
      refine xQ.go 1 (F1 := (158, [some (.ref 32), some (.int (nI u)), some (.int (nI z)), some (.int (mk (fun v => decide (v ∈ ws)))), some (.int (nI u)), some (.int (mk (fun v => decide (v ∈ p.take (k + 1))))), some (.int (nI (k + 1))), some (.int (nI (p.getD k 0))), some (.int (nI (p.getD (k + 1) 0)))], [.int (nI (p.getD (k + 1) 0)), .int (nI (10 * L.length + p.getD k 0)), .ref 36], s)) rfl ?_
      refine xQ.call rfl (c_put rfl (by omega) (by omega)) ?_
      show xQ MX1_splitFace (161, [some (.ref 32), some (.int (nI u)), some (.int (nI z)), some (.int (mk (fun v => decide (v ∈ ws)))), some (.int (nI u)), some (.int (mk (fun v => decide (v ∈ p.take (k + 1))))), some (.int (nI (k + 1))), some (.int (nI (p.getD k 0))), some (.int (nI (p.getD (k + 1) 0)))], [], (xuI s 36 (10 * L.length + p.getD k 0) (nI (p.getD (k + 1) 0)))) _
      refine xQ.go 4 (F1 := (169, [some (.ref 32), some (.int (nI u)), some (.int (nI z)), some (.int (mk (fun v => decide (v ∈ ws)))), some (.int (nI u)), some (.int (mk (fun v => decide (v ∈ p.take (k + 1))))), some (.int (nI (k + 1))), some (.int (nI (p.getD k 0))), some (.int (nI (p.getD (k + 1) 0)))], [.int ((xuI s 36 (10 * L.length + p.getD k 0) (nI (p.getD (k + 1) 0))).1 32 11), .ref 36], (xuI s 36 (10 * L.length + p.getD k 0) (nI (p.getD (k + 1) 0))))) rfl ?_
      rw [show (xuI s 36 (10 * L.length + p.getD k 0) (nI (p.getD (k + 1) 0))).1 32 11 = nI cf by rw [uI1, if_neg (by omega), hfld 11 (by omega), hf]]
      refine xQ.go 1 (F1 := (171, [some (.ref 32), some (.int (nI u)), some (.int (nI z)), some (.int (mk (fun v => decide (v ∈ ws)))), some (.int (nI u)), some (.int (mk (fun v => decide (v ∈ p.take (k + 1))))), some (.int (nI (k + 1))), some (.int (nI (p.getD k 0))), some (.int (nI (p.getD (k + 1) 0)))], [.int (nI (p.getD (k + 1) 0)), .int (nI cf), .ref 36], (xuI s 36 (10 * L.length + p.getD k 0) (nI (p.getD (k + 1) 0))))) rfl ?_
      refine xQ.call rfl (c_cell) ?_
      show xQ MX1_splitFace (174, [some (.ref 32), some (.int (nI u)), some (.int (nI z)), some (.int (mk (fun v => decide (v ∈ ws)))), some (.int (nI u)), some (.int (mk (fun v => decide (v ∈ p.take (k + 1))))), some (.int (nI (k + 1))), some (.int (nI (p.getD k 0))), some (.int (nI (p.getD (k + 1) 0)))], [.int (nI (10 * cf + p.getD (k + 1) 0)), .ref 36], (xuI s 36 (10 * L.length + p.getD k 0) (nI (p.getD (k + 1) 0)))) _
      refine xQ.go 1 (F1 := (176, [some (.ref 32), some (.int (nI u)), some (.int (nI z)), some (.int (mk (fun v => decide (v ∈ ws)))), some (.int (nI u)), some (.int (mk (fun v => decide (v ∈ p.take (k + 1))))), some (.int (nI (k + 1))), some (.int (nI (p.getD k 0))), some (.int (nI (p.getD (k + 1) 0)))], [.int (nI (p.getD k 0)), .int (nI (10 * cf + p.getD (k + 1) 0)), .ref 36], (xuI s 36 (10 * L.length + p.getD k 0) (nI (p.getD (k + 1) 0))))) rfl ?_
      refine xQ.call rfl (c_put rfl (by omega) (by omega)) ?_
      show xQ MX1_splitFace (179, [some (.ref 32), some (.int (nI u)), some (.int (nI z)), some (.int (mk (fun v => decide (v ∈ ws)))), some (.int (nI u)), some (.int (mk (fun v => decide (v ∈ p.take (k + 1))))), some (.int (nI (k + 1))), some (.int (nI (p.getD k 0))), some (.int (nI (p.getD (k + 1) 0)))], [], (xuI (xuI s 36 (10 * L.length + p.getD k 0) (nI (p.getD (k + 1) 0))) 36 (10 * cf + p.getD (k + 1) 0) (nI (p.getD k 0)))) _
      refine xQ.go 2 (F1 := (183, [some (.ref 32), some (.int (nI u)), some (.int (nI z)), some (.int (mk (fun v => decide (v ∈ ws)))), some (.int (nI u)), some (.int (mk (fun v => decide (v ∈ p.take (k + 1))))), some (.int (nI (k + 1))), some (.int (nI (p.getD k 0))), some (.int (nI (p.getD (k + 1) 0)))], [.int (nI (p.getD (k + 1) 0)), .int (mk (fun v => decide (v ∈ p.take (k + 1))))], (xuI (xuI s 36 (10 * L.length + p.getD k 0) (nI (p.getD (k + 1) 0))) 36 (10 * cf + p.getD (k + 1) 0) (nI (p.getD k 0))))) rfl ?_
      refine xQ.call rfl (c_bit g4) ?_
      show xQ MX1_splitFace (186, [some (.ref 32), some (.int (nI u)), some (.int (nI z)), some (.int (mk (fun v => decide (v ∈ ws)))), some (.int (nI u)), some (.int (mk (fun v => decide (v ∈ p.take (k + 1))))), some (.int (nI (k + 1))), some (.int (nI (p.getD k 0))), some (.int (nI (p.getD (k + 1) 0)))], [.int (mk (fun v => decide (v = p.getD (k + 1) 0))), .int (mk (fun v => decide (v ∈ p.take (k + 1))))], (xuI (xuI s 36 (10 * L.length + p.getD k 0) (nI (p.getD (k + 1) 0))) 36 (10 * cf + p.getD (k + 1) 0) (nI (p.getD k 0)))) _
      refine xQ.go 1 (F1 := (187, [some (.ref 32), some (.int (nI u)), some (.int (nI z)), some (.int (mk (fun v => decide (v ∈ ws)))), some (.int (nI u)), some (.int (mk (fun v => decide (v ∈ p.take (k + 1))))), some (.int (nI (k + 1))), some (.int (nI (p.getD k 0))), some (.int (nI (p.getD (k + 1) 0)))], [.int ((mk (fun v => decide (v ∈ p.take (k + 1)))) ||| (mk (fun v => decide (v = p.getD (k + 1) 0))))], (xuI (xuI s 36 (10 * L.length + p.getD k 0) (nI (p.getD (k + 1) 0))) 36 (10 * cf + p.getD (k + 1) 0) (nI (p.getD k 0))))) rfl ?_
      rw [mk_or, show mk (fun v => decide (v ∈ p.take (k + 1)) || decide (v = p.getD (k + 1) 0)) = mk (fun v => decide (v ∈ p.take (k + 1 + 1))) from mk_ext fun v _ => by
        apply Bool.eq_iff_iff.mpr
        simp only [Bool.or_eq_true, decide_eq_true_iff]
        exact (mem_take1 (by omega)).symm]
      obtain ⟨s2, hs2⟩ : ∃ s2, s2 = (xuI (xuI s 36 (10 * L.length + p.getD k 0) (nI (p.getD (k + 1) 0))) 36 (10 * cf + p.getD (k + 1) 0) (nI (p.getD k 0))) := ⟨_, rfl⟩
      have hk2 : xkq [(36, none)] s s2 := by rw [hs2]; exact xkq_I (xkq_I xkq_rfl rfl) rfl
      have hr1 : s2.1 36 (10 * L.length + p.getD k 0) = nI (p.getD (k + 1) 0) := by
        rw [hs2, uI1, if_neg (by omega), uI1, if_pos ⟨rfl, rfl⟩]
      have hr2 : s2.1 36 (10 * cf + p.getD (k + 1) 0) = nI (p.getD k 0) := by
        rw [hs2, uI1, if_pos ⟨rfl, rfl⟩]
      have hr3 : ∀ i x, x < 10 → ¬ (i = L.length ∧ x = p.getD k 0) → ¬ (i = cf ∧ x = p.getD (k + 1) 0) → s2.1 36 (10 * i + x) = s.1 36 (10 * i + x) := fun i x hx n1 n2 => by
        rw [hs2, uI1, if_neg (by omega), uI1, if_neg (by omega)]
      rw [← hs2]
      have hP2 : eP 32 34 s2 (addP P (p.take (k + 1))) (addV PV (p.take (k + 1))) (E + k) := ⟨fun v hv => by rw [xkq_at hk2 34 v]; exact j2.1 v hv, by rw [xkq_at hk2 32 3]; exact j2.2.1, by rw [xkq_at hk2 32 5]; exact j2.2.2⟩
      obtain ⟨r3, s3, hc, hr, hP3, hk3⟩ := c_placeEdge_t hP2 g2 g4
      subst hr
      refine xQ.go 4 (F1 := (194, [some (.ref 32), some (.int (nI u)), some (.int (nI z)), some (.int (mk (fun v => decide (v ∈ ws)))), some (.int (nI u)), some (.int (mk (fun v => decide (v ∈ p.take (k + 1 + 1))))), some (.int (nI (k + 1))), some (.int (nI (p.getD k 0))), some (.int (nI (p.getD (k + 1) 0)))], [.int (nI (p.getD (k + 1) 0)), .int (nI (p.getD k 0)), .ref 32], s2)) rfl ?_
      refine xQ.call rfl (hc) ?_
      show xQ MX1_splitFace (197, [some (.ref 32), some (.int (nI u)), some (.int (nI z)), some (.int (mk (fun v => decide (v ∈ ws)))), some (.int (nI u)), some (.int (mk (fun v => decide (v ∈ p.take (k + 1 + 1))))), some (.int (nI (k + 1))), some (.int (nI (p.getD k 0))), some (.int (nI (p.getD (k + 1) 0)))], [], s3) _
      refine xQ.less [some (.ref 32), some (.int (nI u)), some (.int (nI z)), some (.int (mk (fun v => decide (v ∈ ws)))), some (.int (nI u)), some (.int (mk (fun v => decide (v ∈ p.take (k + 1 + 1))))), some (.int (nI (k + 1))), none, none] (by simp [xleb]) ?_
      refine xQ.go 2 (F1 := (110, [some (.ref 32), some (.int (nI u)), some (.int (nI z)), some (.int (mk (fun v => decide (v ∈ ws)))), some (.int (nI u)), some (.int (mk (fun v => decide (v ∈ p.take (k + 1 + 1))))), some (.int ((nI (k + 1)) + 1)), none, none], [], s3)) rfl ?_
      rw [← nI_succ]
      have hpj : ∀ i j, i < p.length → j < p.length → p.getD i 0 = p.getD j 0 → i = j := fun i j hi hj e => nodup_ix hpn (get_D hi) (by rw [get_D hj, e])
      refine K s3 ⟨xkq_trans (xkq_trans j1 (xkq_mono rfl hk2)) (xkq_mono rfl hk3), ⟨fun v hv => ?_, ?_, hP3.2.2⟩, fun j hj => ?_, fun i x hx n1 n2 => ?_⟩
      · rw [hP3.1 v hv]
        refine mk_ext fun x _ => Bool.eq_iff_iff.mpr ?_
        rw [addP_iff]
        show (addP P (p.take (k + 1)) v x || ab _ _ v x) = true ↔ _
        rw [Bool.or_eq_true, addP_iff, ab_iff, pd_take (by omega), pd_take (by omega)]
        simp only [Prod.mk.injEq]
        constructor
        · rintro ((h | h | h) | h | h)
          · exact Or.inl h
          · exact Or.inr (Or.inl (Or.inl h))
          · exact Or.inr (Or.inr (Or.inl h))
          · exact Or.inr (Or.inl (Or.inr h))
          · exact Or.inr (Or.inr (Or.inr ⟨h.2, h.1⟩))
        · rintro (h | (h | h) | h | h)
          · exact Or.inl (Or.inl h)
          · exact Or.inl (Or.inr (Or.inl h))
          · exact Or.inr (Or.inl h)
          · exact Or.inl (Or.inr (Or.inr h))
          · exact Or.inr (Or.inr ⟨h.2, h.1⟩)
      · rw [hP3.2.1]
        refine mk_ext fun x _ => Bool.eq_iff_iff.mpr ?_
        rw [addV_iff, mem_take1 (by omega)]
        show (addV PV (p.take (k + 1)) x || (decide (x = _) || decide (x = _))) = true ↔ _
        simp only [Bool.or_eq_true, decide_eq_true_iff, addV_iff]
        have hm : p.getD k 0 ∈ p.take (k + 1) := (mem_take1 (by omega)).mpr (Or.inr rfl)
        constructor
        · rintro ((h | h) | h | h)
          · exact Or.inl h
          · exact Or.inr (Or.inl h)
          · rw [h]; exact Or.inr (Or.inl hm)
          · exact Or.inr (Or.inr h)
        · rintro (h | h | h)
          · exact Or.inl (Or.inl h)
          · exact Or.inl (Or.inr h)
          · exact Or.inr (Or.inr h)
      · rw [xkq_at hk3 36 _, xkq_at hk3 36 _]
        by_cases e : j = k
        · rw [e]
          exact ⟨hr1, hr2⟩
        · obtain ⟨q1, q2⟩ := j3 j (by omega)
          have := (hgp j (by omega)).2
          have := (hgp (j + 1) (by omega)).2
          refine ⟨?_, ?_⟩
          · rw [hr3 _ _ (by omega) (fun h => e (hpj _ _ (by omega) (by omega) h.2)) (fun h => hne h.1)]
            exact q1
          · rw [hr3 _ _ (by omega) (fun h => hne h.1.symm) (fun h => e (by have := hpj _ _ (by omega) (by omega) h.2; omega))]
            exact q2
      · rw [xkq_at hk3 36 _, hr3 i x hx (fun h => n1 h.1 k (by omega) h.2) (fun h => n2 h.1 k (by omega) h.2)]
        exact j4 i x hx (fun h j hj => n1 h j (by omega)) (fun h j hj => n2 h j (by omega))
    · intro w2 hI
      obtain ⟨j1, j2, j3, j4⟩ := hI
      rw [show p.take (inn.length + 1 + 1) = p from List.take_of_length_le (by omega)] at *
      have k14 : w2.1 32 14 = nI (inn.length + 2) := by rw [xkq_at j1 32 14, xkq_at i1 32 14, hp1]
      have k11 : w2.1 32 11 = nI cf := by rw [xkq_at j1 32 11, xkq_at i1 32 11, hf]
      have k8 : w2.1 32 8 = nI L.length := by rw [xkq_at j1 32 8, xkq_at i1 32 8, hF.1]
      have k21 : ∀ j, w2.1 35 j = w.1 35 j := fun j => by rw [xkq_at j1 35 j, xkq_at i1 35 j]
      refine xQ.go 4 (F1 := (bif decide ((w2.1 32 14) ≤ (nI (inn.length + 1 + 1))) then 203 else 119, [some (.ref 32), some (.int (nI u)), some (.int (nI z)), some (.int (mk (fun v => decide (v ∈ ws)))), some (.int (nI u)), some (.int (mk (fun v => decide (v ∈ p)))), some (.int (nI (inn.length + 1 + 1))), none, none], [], w2)) rfl ?_
      refine xQ.brT (by rw [k14]; exact decide_eq_true (Int32.le_refl _)) ?_
      refine xQ.go 8 (F1 := (219, [some (.ref 32), some (.int (nI u)), some (.int (nI z)), some (.int (mk (fun v => decide (v ∈ ws)))), some (.int (nI u)), some (.int (mk (fun v => decide (v ∈ p)))), some (.int (nI (inn.length + 1 + 1))), none, none], [.int (w2.1 32 11), .ref 35, .int (w2.1 32 11), .ref 35], w2)) rfl ?_
      rw [k11]
      refine xQ.call rfl (c_at rfl (by omega) (by omega)) ?_
      show xQ MX1_splitFace (222, [some (.ref 32), some (.int (nI u)), some (.int (nI z)), some (.int (mk (fun v => decide (v ∈ ws)))), some (.int (nI u)), some (.int (mk (fun v => decide (v ∈ p)))), some (.int (nI (inn.length + 1 + 1))), none, none], [.int (w2.1 35 cf), .int (nI cf), .ref 35], w2) _
      rw [k21, (hF.2 cf F hcf).1]
      refine xQ.go 6 (F1 := (229, [some (.ref 32), some (.int (nI u)), some (.int (nI z)), some (.int (mk (fun v => decide (v ∈ ws)))), some (.int (nI u)), some (.int (mk (fun v => decide (v ∈ p)))), some (.int (nI (inn.length + 1 + 1))), none, none], [.int (((mk (fun v => decide (v ∈ F))) &&& ((mk (fun v => decide (v ∈ ws))) ^^^ (-1))) ||| (mk (fun v => decide (v ∈ p)))), .int (nI cf), .ref 35], w2)) rfl ?_
      rw [mk_andn, mk_or]
      refine xQ.call rfl (c_put rfl (by omega) (by omega)) ?_
      show xQ MX1_splitFace (232, [some (.ref 32), some (.int (nI u)), some (.int (nI z)), some (.int (mk (fun v => decide (v ∈ ws)))), some (.int (nI u)), some (.int (mk (fun v => decide (v ∈ p)))), some (.int (nI (inn.length + 1 + 1))), none, none], [], (xuI w2 35 cf (mk (fun v => decide (v ∈ F) && !decide (v ∈ ws) || decide (v ∈ p))))) _
      refine xQ.go 7 (F1 := (244, [some (.ref 32), some (.int (nI u)), some (.int (nI z)), some (.int (mk (fun v => decide (v ∈ ws)))), some (.int (nI u)), some (.int (mk (fun v => decide (v ∈ p)))), some (.int (nI (inn.length + 1 + 1))), none, none], [.int ((mk (fun v => decide (v ∈ ws))) ||| (mk (fun v => decide (v ∈ p)))), .int ((xuI w2 35 cf (mk (fun v => decide (v ∈ F) && !decide (v ∈ ws) || decide (v ∈ p)))).1 32 8), .ref 35], (xuI w2 35 cf (mk (fun v => decide (v ∈ F) && !decide (v ∈ ws) || decide (v ∈ p)))))) rfl ?_
      rw [show (xuI w2 35 cf (mk (fun v => decide (v ∈ F) && !decide (v ∈ ws) || decide (v ∈ p)))).1 32 8 = nI L.length by rw [uI1, if_neg (by omega), k8], mk_or]
      refine xQ.call rfl (c_put rfl (by omega) (by omega)) ?_
      show xQ MX1_splitFace (247, [some (.ref 32), some (.int (nI u)), some (.int (nI z)), some (.int (mk (fun v => decide (v ∈ ws)))), some (.int (nI u)), some (.int (mk (fun v => decide (v ∈ p)))), some (.int (nI (inn.length + 1 + 1))), none, none], [], (xuI (xuI w2 35 cf (mk (fun v => decide (v ∈ F) && !decide (v ∈ ws) || decide (v ∈ p)))) 35 L.length (mk (fun v => decide (v ∈ ws) || decide (v ∈ p))))) _
      refine xQ.go 6 (F1 := (257, [some (.ref 32), some (.int (nI u)), some (.int (nI z)), some (.int (mk (fun v => decide (v ∈ ws)))), some (.int (nI u)), some (.int (mk (fun v => decide (v ∈ p)))), some (.int (nI (inn.length + 1 + 1))), none, none], [], (xuI (xuI (xuI w2 35 cf (mk (fun v => decide (v ∈ F) && !decide (v ∈ ws) || decide (v ∈ p)))) 35 L.length (mk (fun v => decide (v ∈ ws) || decide (v ∈ p)))) 32 8 (((xuI (xuI w2 35 cf (mk (fun v => decide (v ∈ F) && !decide (v ∈ ws) || decide (v ∈ p)))) 35 L.length (mk (fun v => decide (v ∈ ws) || decide (v ∈ p)))).1 32 8) + 1)))) rfl ?_
      refine xQ.vret 1 rfl rfl ?_
      have hpm : ∀ v, v ∈ p ↔ v = u ∨ v ∈ inn ∨ v = z := fun v => by rw [hpp]; simp
      have hwm : ∀ v, v ∈ ws ↔ v = z ∨ v ∈ ys ∨ v = u := fun v => by rw [hws]; simp
      have hFm2 : ∀ v, v ∈ F ↔ v = u ∨ v ∈ xs ∨ v = z ∨ v ∈ ys := fun v => by rw [hFm]; simp
      refine ⟨rfl, ⟨fun v hv => ?_, ?_, ?_⟩, ⟨?_, fun i f hi => ?_⟩, ?_⟩
      · simp only [uI1]
        simp
        exact j2.1 v hv
      · simp only [uI1]
        simp
        exact j2.2.1
      · simp only [uI1]
        simp
        exact j2.2.2
      · simp only [uI1]
        simp [k8, nI_succ]
      · have hset : i < L.length + 1 := by
          have := (List.getElem?_eq_some_iff.mp hi).1
          simpa using this
        have hfol : ∀ x, (xuI (xuI (xuI w2 35 cf (mk (fun v => decide (v ∈ F) && !decide (v ∈ ws) || decide (v ∈ p)))) 35 L.length (mk (fun v => decide (v ∈ ws) || decide (v ∈ p)))) 32 8 ((xuI (xuI w2 35 cf (mk (fun v => decide (v ∈ F) && !decide (v ∈ ws) || decide (v ∈ p)))) 35 L.length (mk (fun v => decide (v ∈ ws) || decide (v ∈ p)))).1 32 8 + 1)).1 36 (10 * i + x) = w2.1 36 (10 * i + x) := fun x => by
          simp only [uI1]
          simp
        have hpd : ∀ x y, (x, y) ∈ pd p → ∃ j, j < inn.length + 1 ∧ x = p.getD j 0 ∧ y = p.getD (j + 1) 0 := fun x y h => by
          obtain ⟨j, h1, h2⟩ := pd_ex h
          have hj := (List.getElem?_eq_some_iff.mp h2).1
          refine ⟨j, by omega, ?_, ?_⟩
          · rw [get_D (by omega)] at h1
            exact (Option.some.inj h1).symm
          · rw [get_D hj] at h2
            exact (Option.some.inj h2).symm
        have hpdw : ∀ x y, (x, y) ∈ pd ws → ∃ j, j < ys.length + 1 ∧ x = ws.getD j 0 ∧ y = ws.getD (j + 1) 0 := fun x y h => by
          obtain ⟨j, h1, h2⟩ := pd_ex h
          have hj := (List.getElem?_eq_some_iff.mp h2).1
          refine ⟨j, by omega, ?_, ?_⟩
          · rw [get_D (by omega)] at h1
            exact (Option.some.inj h1).symm
          · rw [get_D hj] at h2
            exact (Option.some.inj h2).symm
        have hpu : ∀ j, j < inn.length + 1 → p.getD j 0 ∈ u :: inn := fun j hj => by
          have h1 := (hgp j (by omega)).1
          rcases (hpm _).mp h1 with e | e | e
          · rw [e]; simp
          · exact List.mem_cons_of_mem _ e
          · exfalso
            have := nodup_ix hpn (get_D (k := j) (by omega)) (by rw [get_D (k := inn.length + 1) (by omega), hpe, e])
            omega
        have hpz : ∀ j, j < inn.length + 1 → p.getD (j + 1) 0 ∈ z :: inn := fun j hj => by
          have h1 := (hgp (j + 1) (by omega)).1
          rcases (hpm _).mp h1 with e | e | e
          · exfalso
            have := nodup_ix hpn (get_D (k := j + 1) (by omega)) (by rw [get_D (k := 0) (by omega), hp0, e])
            omega
          · exact List.mem_cons_of_mem _ e
          · rw [e]; simp
        have hzy2 : ∀ j, j < ys.length + 1 → ws.getD j 0 ∈ z :: ys := fun j hj => by
          have h1 := (hgw j (by omega)).1
          rcases (hwm _).mp h1 with e | e | e
          · rw [e]; simp
          · exact List.mem_cons_of_mem _ e
          · exfalso
            have := nodup_ix hwn (get_D (k := j) (by omega)) (by rw [get_D (k := ys.length + 1) (by omega), hwe, e])
            omega
        by_cases e1 : i = L.length
        · have hfe : f = z :: ys ++ u :: inn := by
            rw [List.getElem?_append_right (by simp [e1]), e1] at hi
            simp at hi
            rw [← hi]
            simp
          refine ⟨?_, fun x y hxy => ?_⟩
          · simp only [uI1]
            rw [if_neg (by omega), if_pos ⟨trivial, e1⟩]
            refine mk_ext fun v _ => Bool.eq_iff_iff.mpr ?_
            simp only [Bool.or_eq_true, decide_eq_true_iff, hwm, hpm, hfe, List.mem_append, List.mem_cons]
            constructor
            · rintro ((h | h | h) | h | h | h) <;> simp [h]
            · rintro ((h | h) | h | h) <;> simp [h]
          · rw [hfol]
            rw [hfe, dts_two, ← hws, ← hpp] at hxy
            rcases List.mem_append.mp hxy with h | h
            · obtain ⟨j, hj, rfl, rfl⟩ := hpdw x y h
              have hm := hzy2 j hj
              rw [j4 i _ (hgw j (by omega)).2 (fun _ j2 hj2 e => ?_) (fun h => absurd (e1.symm.trans h) hne), e1]
              · exact i2 j hj
              · have hm2 := hpu j2 hj2
                rw [← e] at hm2
                rcases List.mem_cons.mp hm2 with e3 | e3
                · exact hdis u (by simp) _ hm e3.symm
                · exact (hi10 _ e3).2 (List.mem_append_right _ hm)
            · obtain ⟨j, hj, rfl, rfl⟩ := hpd x y h
              rw [e1]
              exact (j3 j hj).1
        · have hi2 : (L.set cf (u :: xs ++ z :: inn.reverse))[i]? = some f := by
            rw [List.getElem?_append_left (by simp; omega)] at hi
            exact hi
          by_cases e2 : i = cf
          · have hfe : f = u :: xs ++ z :: inn.reverse := by
              rw [e2, List.getElem?_set_self hcl] at hi2
              exact (Option.some.inj hi2).symm
            refine ⟨?_, fun x y hxy => ?_⟩
            · simp only [uI1]
              rw [if_neg (by omega), if_neg (by omega), if_pos ⟨trivial, e2⟩]
              refine mk_ext fun v _ => Bool.eq_iff_iff.mpr ?_
              simp only [Bool.or_eq_true, Bool.and_eq_true, Bool.not_eq_true', decide_eq_true_iff, decide_eq_false_iff_not, hwm, hpm, hFm2, hfe, List.mem_append, List.mem_cons, List.mem_reverse]
              constructor
              · rintro (⟨h, h2⟩ | h | h | h)
                · rcases h with h | h | h | h
                  · exact absurd (Or.inr (Or.inr h)) h2
                  · exact Or.inl (Or.inr h)
                  · exact absurd (Or.inl h) h2
                  · exact absurd (Or.inr (Or.inl h)) h2
                · exact Or.inl (Or.inl h)
                · exact Or.inr (Or.inr h)
                · exact Or.inr (Or.inl h)
              · rintro ((h | h) | h | h)
                · exact Or.inr (Or.inl h)
                · refine Or.inl ⟨Or.inr (Or.inl h), ?_⟩
                  rintro (h2 | h2 | h2)
                  · exact hdis v (List.mem_cons_of_mem _ h) z (by simp) h2
                  · exact hdis v (List.mem_cons_of_mem _ h) v (List.mem_cons_of_mem _ h2) rfl
                  · rw [h2] at h
                    exact (List.nodup_cons.mp hux).1 h
                · exact Or.inr (Or.inr (Or.inr h))
                · exact Or.inr (Or.inr (Or.inl h))
            · rw [hfol]
              rw [hfe, dts_two] at hxy
              rcases List.mem_append.mp hxy with h | h
              · have hxu : x ∈ u :: xs := by
                  obtain ⟨j, h1, h2⟩ := pd_ex h
                  have hj := (List.getElem?_eq_some_iff.mp h2).1
                  rw [List.getElem?_append_left (by simp at hj ⊢; omega)] at h1
                  exact List.mem_of_getElem? h1
                have hx10 := h10 x (List.mem_append_left _ hxu)
                rw [j4 i x hx10 (fun h => absurd h e1) (fun _ j2 hj2 e => ?_), i3 i x hx10 e1, e2]
                · exact (hF.2 cf F hcf).2 x y ((hFd _).mpr (by rw [dts_two]; exact List.mem_append_left _ h))
                · have hm2 := hpz j2 hj2
                  rw [← e] at hm2
                  rcases List.mem_cons.mp hm2 with e3 | e3
                  · exact hdis x hxu z (by simp) e3
                  · exact (hi10 _ e3).2 (List.mem_append_left _ hxu)
              · have h2 : (y, x) ∈ pd p := by
                  rw [hpp]
                  have e : (u :: inn ++ [z]).reverse = z :: inn.reverse ++ [u] := by simp
                  exact (pd_rev _ (x, y)).mp (by rw [e]; exact h)
                obtain ⟨j, hj, rfl, rfl⟩ := hpd y x h2
                rw [e2]
                exact (j3 j hj).2
          · rw [List.getElem?_set_ne (fun e => e2 e.symm)] at hi2
            refine ⟨?_, fun x y hxy => ?_⟩
            · simp only [uI1]
              rw [if_neg (by omega), if_neg (by omega), if_neg (by omega), k21]
              exact (hF.2 i f hi2).1
            · rw [hfol]
              have hx10 := hL10 f (List.mem_of_getElem? hi2) x (dts_mem hxy).1
              rw [j4 i x hx10 (fun h => absurd h e1) (fun h => absurd h e2), i3 i x hx10 e1]
              exact (hF.2 i f hi2).2 x y hxy
      · exact xkq_I (xkq_I (xkq_I (xkq_trans (xkq_mono rfl i1) (xkq_mono rfl j1)) rfl) rfl) rfl
end
section
/-! the first cycle of a block with more than one edge -/
theorem cnt_or {S T : Nat → Bool} : ∀ n, cnt (fun v => S v || T v) n ≤ cnt S n + cnt T n
  | 0 => Nat.le_refl _
  | n + 1 => by
    have ih := cnt_or (S := S) (T := T) n
    unfold cnt
    cases S n <;> cases T n <;> simp only [Bool.or_true, Bool.or_false, cond_true, cond_false] <;> omega
theorem cnt_eq {p : Nat} : ∀ n, cnt (fun v => decide (v = p)) n = if p < n then 1 else 0
  | 0 => rfl
  | n + 1 => by
    unfold cnt
    rw [cnt_eq n]
    by_cases h : n = p
    · subst h
      rw [decide_eq_true rfl, if_neg (Nat.lt_irrefl _), if_pos (Nat.lt_succ_self _)]
      rfl
    · rw [decide_eq_false h]
      by_cases h2 : p < n
      · rw [if_pos h2, if_pos (by omega)]; rfl
      · rw [if_neg h2, if_neg (by omega)]; rfl
theorem sm_cnt (S : Nat → Bool) : ∀ n, sm (fun x => bif S x then 1 else 0) n = cnt S n
  | 0 => rfl
  | n + 1 => by
    unfold sm cnt
    rw [sm_cnt S n]
section
variable {H : Nat → Nat → Bool} {S : Nat → Bool}
theorem ec_third (hb : BIC H S) (he : 2 ≤ ec H) (p q : Nat) : ∃ v, S v = true ∧ v ≠ p ∧ v ≠ q := by
  refine Classical.byContradiction (fun hno => ?_)
  have h2 : ∀ v, S v = true → v = p ∨ v = q := fun v hv => by
    by_cases e1 : v = p
    · exact Or.inl e1
    · by_cases e2 : v = q
      · exact Or.inr e2
      · exact absurd ⟨v, hv, e1, e2⟩ hno
  have h3 : ∀ x, x < 10 → cnt (H x) 10 ≤ bif two p q x then 1 else 0 := fun x _ => by
    cases hx : two p q x with
    | false =>
      have : cnt (H x) 10 ≤ cnt (fun _ => false) 10 := cnt_mono fun y _ hy => by
        obtain ⟨_, _, h4, _⟩ := hb.2.2.1 x y hy
        rw [two_iff.mpr (h2 x h4)] at hx
        cases hx
      exact this
    | true =>
      have : cnt (H x) 10 ≤ cnt (fun v => decide (v = if x = p then q else p)) 10 := cnt_mono fun y _ hy => by
        obtain ⟨_, _, h4, h5⟩ := hb.2.2.1 x y hy
        have hne : x ≠ y := fun e => by rw [e, hb.2.1] at hy; cases hy
        apply decide_eq_true
        rcases h2 x h4 with e | e <;> rcases h2 y h5 with e3 | e3
        · exact absurd (e.trans e3.symm) hne
        · rw [if_pos e, e3]
        · rw [if_neg (fun e4 => hne (by rw [e4, e3])), e3]
        · exact absurd (e.trans e3.symm) hne
      rw [cnt_eq] at this
      have h7 : (if (if x = p then q else p) < 10 then 1 else 0) ≤ 1 := by
        generalize (if x = p then q else p) = r
        split <;> omega
      show _ ≤ 1
      omega
  have h4 := sm_le (n := 10) h3
  rw [ec_sm hb, sm_cnt] at h4
  have h5 := cnt_or (S := fun v => decide (v = p)) (T := fun v => decide (v = q)) 10
  have h6 : cnt (two p q) 10 = cnt (fun v => decide (v = p) || decide (v = q)) 10 := rfl
  rw [cnt_eq, cnt_eq] at h5
  rw [h6] at h4
  have : (if p < 10 then 1 else 0) ≤ 1 := by split <;> omega
  have : (if q < 10 then 1 else 0) ≤ 1 := by split <;> omega
  omega
theorem con_first {G : Nat → Nat → Bool} {A : Nat → Bool} {x y : Nat} (hy : y < 10) (h : con G A x y) (hne : x ≠ y) : ∃ z, z < 10 ∧ G x z = true := by
  have : y = x ∨ ∃ z, z < 10 ∧ G x z = true := con_ind (G := G) (A := A) (x := x) (fun y => y = x ∨ ∃ z, z < 10 ∧ G x z = true) (fun _ => Or.inl rfl) (fun u v _ hv hp hg _ => by
    rcases hp with e | e
    · rw [e] at hg
      exact Or.inr ⟨v, hv, hg⟩
    · exact Or.inr e) hy h
  rcases this with e | e
  · exact absurd e.symm hne
  · exact e
def SA (S : Nat → Bool) (a b : Nat) : Nat → Bool := fun v => (S v && !decide (v = a)) && !decide (v = b)
theorem SA_iff {a b v : Nat} : SA S a b v = true ↔ S v = true ∧ v ≠ a ∧ v ≠ b := by
  simp [SA, and_assoc]
theorem cyc_ok (hb : BIC H S) (hS : ∀ v, S v = true → v < 10) (he : 2 ≤ ec H) : low S < 10 ∧ S (low S) = true ∧ low (H (low S)) < 10 ∧ H (low S) (low (H (low S))) = true ∧
    fdep H (SA S (low S) (low (H (low S)))) (fun v => decide (v = low S)) (low (H (low S))) 9 ≠ 0 ∧ fdep H (SA S (low S) (low (H (low S)))) (fun v => decide (v = low S)) (low (H (low S))) 9 ≤ 8 ∧
    ∃ inn, dsc H (SA S (low S) (low (H (low S)))) (fun v => decide (v = low S)) (fdep H (SA S (low S) (low (H (low S)))) (fun v => decide (v = low S)) (low (H (low S))) 9) (low (H (low S))) = inn ++ [low S] ∧ inn.length = fdep H (SA S (low S) (low (H (low S)))) (fun v => decide (v = low S)) (low (H (low S))) 9 ∧ inn.Nodup ∧ (∀ x ∈ inn, x < 10 ∧ S x = true ∧ x ≠ low S ∧ x ≠ low (H (low S))) ∧ ∀ e ∈ pd (low (H (low S)) :: inn ++ [low S]), H e.1 e.2 = true := by
  obtain ⟨v1, hv1, _, _⟩ := ec_third hb he 0 0
  obtain ⟨ha, hSa⟩ := low_some (hS v1 hv1) hv1
  generalize low S = a at *
  obtain ⟨x1, hx1, hx1a, _⟩ := ec_third hb he a a
  obtain ⟨u1, hu1, hua, hux⟩ := ec_third hb he a x1
  obtain ⟨z, hz, hz2⟩ := con_first (hS x1 hx1) (hb.2.2.2 a x1 u1 ha (hS x1 hx1) (hS u1 hu1) hSa hx1 (fun e => hua e.symm) (fun e => hux e.symm)) (fun e => hx1a e.symm)
  obtain ⟨hb10, hab⟩ := low_some hz hz2
  generalize low (H a) = b at *
  obtain ⟨_, _, _, hSb⟩ := hb.2.2.1 a b hab
  have hne : a ≠ b := fun e => by rw [e, hb.2.1] at hab; cases hab
  obtain ⟨x, hx, hxa, hxb⟩ := ec_third hb he a b
  have hx10 := hS x hx
  have hxp : two a b x = false := by
    cases h : two a b x with
    | false => rfl
    | true => rcases two_iff.mp h with e | e <;> contradiction
  obtain ⟨y, z, hy, hz, hyz, cy, cz⟩ := ctc_two hb hx10 hx hxp (fun v hv => by
    rcases two_iff.mp hv with e | e <;> rw [e] <;> constructor <;> assumption) ⟨a, b, hne, two_iff.mpr (Or.inl rfl), two_iff.mpr (Or.inr rfl)⟩
  have hcc : ∀ v, v = a ∨ v = b → nb H (cmp H S (two a b) x) v = true := by
    have cy2 := (Bool.and_eq_true _ _).mp cy
    have cz2 := (Bool.and_eq_true _ _).mp cz
    have ny := cy2.1
    have nz := cz2.1
    intro v hv
    rcases two_iff.mp cy2.2 with e1 | e1 <;> rcases two_iff.mp cz2.2 with e2 | e2
    · exact absurd (e1.trans e2.symm) hyz
    · rcases hv with e | e
      · rw [e1] at ny; rw [e]; exact ny
      · rw [e2] at nz; rw [e]; exact nz
    · rcases hv with e | e
      · rw [e2] at nz; rw [e]; exact nz
      · rw [e1] at ny; rw [e]; exact ny
    · exact absurd (e1.trans e2.symm) hyz
  obtain ⟨da, hda, da1, da2⟩ := nb_iff.mp (hcc a (Or.inl rfl))
  obtain ⟨db, hdb, db1, db2⟩ := nb_iff.mp (hcc b (Or.inr rfl))
  have c1 := cmp_con hx10 hda da1
  have c2 := cmp_con hx10 hdb db1
  have c3 := con_trans (con_sym hb.1 hx10 hda c1) c2 hdb
  have c4 : con H (SA S a b) da db := con_mono (fun v hv h => by
    obtain ⟨s1, s2⟩ := cmp_in h
    refine SA_iff.mpr ⟨s1, fun e => ?_, fun e => ?_⟩
    · rw [e, two_iff.mpr (Or.inl rfl)] at s2; cases s2
    · rw [e, two_iff.mpr (Or.inr rfl)] at s2; cases s2) hda hdb c3
  obtain ⟨k, hk1, hk2⟩ := lay_all (T := fun v => decide (v = a)) hda hdb c4 ⟨a, ha, decide_eq_true rfl, by rw [hb.1]; exact da2⟩
  have hcA : cnt (SA S a b) 10 ≤ 8 := by
    have e1 := cnt_add1 (S := SA S a b) (p := a) (n := 10) ha (by simp [SA])
    have e2 := cnt_add1 (S := fun v => SA S a b v || decide (v = a)) (p := b) (n := 10) hb10 (by simp [SA]; exact fun e => hne e.symm)
    have := cnt_le (fun v => (SA S a b v || decide (v = a)) || decide (v = b)) 10
    omega
  have hdeep : ∀ k v, 1 ≤ k → v < 10 → lay H (SA S a b) (fun v => decide (v = a)) k v = true → k ≤ 8 := fun k v h1 hv h => by
    obtain ⟨j, rfl⟩ : ∃ j, k = j + 1 := ⟨k - 1, by omega⟩
    have := lay_deep hv h
    omega
  have hs := fdep_spec (H := H) (A := SA S a b) (T := fun v => decide (v = a)) (u := b) 9
  have hm : meet (lay H (SA S a b) (fun v => decide (v = a)) k) (H b) = true := meet_iff.mpr ⟨db, hdb, hk2, by rw [hb.1]; exact db2⟩
  have h0 : fdep H (SA S a b) (fun v => decide (v = a)) b 9 ≠ 0 := fun e => by
    have := hs.2 e k hk1 (by have := hdeep k db hk1 hdb hk2; omega)
    rw [this] at hm
    cases hm
  obtain ⟨s1, s2, s3, _⟩ := hs.1 h0
  obtain ⟨z1, hz1, hz2, hz3⟩ := meet_iff.mp s3
  obtain ⟨inn, t, i1, i2, i3⟩ := dsc_pok hb.1 (H := H) (A := SA S a b) (T := fun v => decide (v = a)) (v := b) ⟨z1, hz1, hz3, hz2⟩
  obtain ⟨q1, q2, q3, q4, q5⟩ := i3
  have ht : t = a := of_decide_eq_true q2
  rw [ht] at i1 q5
  exact ⟨ha, hSa, hb10, hab, h0, hdeep _ z1 s1 hz1 hz2, inn, i1, i2, q4, fun x hx => ⟨(q3 x hx).1, SA_iff.mp (q3 x hx).2⟩, q5⟩
end
end
section
/-- the first cycle, and what is placed with it -/
def cyc0 (H : Nat → Nat → Bool) (S : Nat → Bool) : List Nat := low S :: low (H (low S)) :: (dsc H (SA S (low S) (low (H (low S)))) (fun v => decide (v = low S)) (fdep H (SA S (low S) (low (H (low S)))) (fun v => decide (v = low S)) (low (H (low S))) 9) (low (H (low S)))).dropLast
def cycP (c : List Nat) : Nat → Nat → Bool := fun x y => decide ((x, y) ∈ dts c) || decide ((y, x) ∈ dts c)
def cyc1 (H : Nat → Nat → Bool) (S : Nat → Bool) : xSg := (cycP (cyc0 H S), (fun v => decide (v ∈ cyc0 H S)), [cyc0 H S, (cyc0 H S).reverse], (cyc0 H S).length)
theorem cyc0_ok {H : Nat → Nat → Bool} {S : Nat → Bool} (hb : BIC H S) (hS : ∀ v, S v = true → v < 10) (he : 2 ≤ ec H) : ∃ a b inn, a = low S ∧ b = low (H a) ∧ cyc0 H S = a :: b :: inn ∧ a < 10 ∧ b < 10 ∧ fdep H (SA S a b) (fun v => decide (v = a)) b 9 ≠ 0 ∧ fdep H (SA S a b) (fun v => decide (v = a)) b 9 ≤ 8 ∧ dsc H (SA S a b) (fun v => decide (v = a)) (fdep H (SA S a b) (fun v => decide (v = a)) b 9) b = inn ++ [a] ∧ 1 ≤ inn.length ∧ inn.length ≤ 8 ∧ (cyc0 H S).Nodup ∧ (∀ v ∈ cyc0 H S, v < 10 ∧ S v = true) ∧ (∀ q ∈ dts (cyc0 H S), H q.1 q.2 = true) ∧ EOK H S (cyc1 H S) := by
  obtain ⟨h1, h2, h3, h4, h5, h6, inn, i1, i2, i3, i4, i5⟩ := cyc_ok hb hS he
  have hc : cyc0 H S = low S :: low (H (low S)) :: inn := by
    unfold cyc0
    rw [i1]
    simp
  have hne : low S ≠ low (H (low S)) := fun e => by
    have h4 := h4
    rw [← e, hb.2.1] at h4
    cases h4
  have hSb : S (low (H (low S))) = true := (hb.2.2.1 _ _ h4).2.2.2
  have hn : (cyc0 H S).Nodup := by
    rw [hc]
    refine List.nodup_cons.mpr ⟨fun hm => ?_, List.nodup_cons.mpr ⟨fun hm => (i4 _ hm).2.2.2 rfl, i3⟩⟩
    rcases List.mem_cons.mp hm with e | e
    · exact hne e
    · exact (i4 _ e).2.2.1 rfl
  have hm : ∀ v ∈ cyc0 H S, v < 10 ∧ S v = true := fun v hv => by
    rw [hc] at hv
    rcases List.mem_cons.mp hv with e | e
    · rw [e]; exact ⟨h1, h2⟩
    · rcases List.mem_cons.mp e with e | e
      · rw [e]; exact ⟨h3, hSb⟩
      · exact ⟨(i4 v e).1, (i4 v e).2.1⟩
  have hd : ∀ q ∈ dts (cyc0 H S), H q.1 q.2 = true := fun q hq => by
    rw [hc] at hq
    have e : dts (low S :: low (H (low S)) :: inn) = (low S, low (H (low S))) :: pd (low (H (low S)) :: inn ++ [low S]) := rfl
    rw [e] at hq
    rcases List.mem_cons.mp hq with e | e
    · rw [e]; exact h4
    · exact i5 q e
  have h3l : 3 ≤ (cyc0 H S).length := by
    rw [hc]
    simp only [List.length_cons]
    omega
  refine ⟨_, _, inn, rfl, rfl, hc, h1, h3, h5, h6, i1, by omega, by omega, hn, hm, hd, ?_, Nat.le_refl 2⟩
  exact INV_cycle hb.1 hn h3l hm hd
theorem c_cycle_p {w : xW} {H : Nat → Nat → Bool} {S : Nat → Bool} (hb : BIC H S) (hS : ∀ v, S v = true → v < 10) (he : 2 ≤ ec H) (hG : eG 18 19 w H S) (hP : eP 18 20 w (fun _ _ => false) (fun _ => false) 0) : xD MX1_placeCycle [.ref 18] w (fun r w1 => r = some (.int 1) ∧ eP 18 20 w1 (cyc1 H S).1 (cyc1 H S).2.1 (cyc1 H S).2.2.2 ∧ eF 18 21 22 w1 (cyc1 H S).2.2.1 ∧ xkq [(18, some 3), (18, some 5), (18, some 8), (18, some 14), (20, none), (21, none), (22, none), (23, none), (24, none)] w w1) := by
  obtain ⟨a, b, inn, ea, eb, hc, ha, hb10, h0, h8, hds, hi1, hi8, hcn, hcm, hcd, _⟩ := cyc0_ok hb hS he
  rw [hc] at hcn hcm hcd
  obtain ⟨p, hpp⟩ : ∃ p, p = b :: inn ++ [a] := ⟨_, rfl⟩
  have hpl : p.length = inn.length + 2 := by rw [hpp]; simp
  have hpn : p.Nodup := by
    rw [hpp]
    have := List.nodup_cons.mp hcn
    exact List.nodup_append.mpr ⟨this.2, by simp, fun x hx y hy e => by
      rw [List.mem_singleton] at hy
      rw [e, hy] at hx
      exact this.1 hx⟩
  have hpm : ∀ v, v ∈ p ↔ v ∈ a :: b :: inn := fun v => by
    rw [hpp]
    simp only [List.mem_append, List.mem_cons, List.not_mem_nil, or_false]
    constructor
    · rintro ((h | h) | h) <;> simp [h]
    · rintro (h | h | h) <;> simp [h]
  have hp10 : ∀ v ∈ p, v < 10 := fun v hv => (hcm v ((hpm v).mp hv)).1
  have hgp : ∀ k, k < p.length → p.getD k 0 ∈ p ∧ p.getD k 0 < 10 := fun k hk => by
    have := List.mem_of_getElem? (get_D hk)
    exact ⟨this, hp10 _ this⟩
  have hp0 : p.getD 0 0 = b := by rw [hpp]; rfl
  have hpe : p.getD (inn.length + 1) 0 = a := by rw [hpp, List.getD_eq_getElem?_getD]; simp
  have hpj : ∀ i j, i < p.length → j < p.length → p.getD i 0 = p.getD j 0 → i = j := fun i j hi hj e => nodup_ix hpn (get_D hi) (by rw [get_D hj, e])
  have hdt : dts (a :: b :: inn) = (a, b) :: pd p := by rw [hpp]; rfl
  refine xD.of ?_
  show xQ MX1_placeCycle (0, [some (.ref 18), none, none, none, none, none], [], w) _
  refine xQ.go 2 (F1 := (4, [some (.ref 18), none, none, none, none, none], [.int (w.1 18 2)], w)) rfl ?_
  rw [hG.2.1]
  refine xQ.call rfl (c_least (by rw [← ea]; exact ha)) ?_
  show xQ MX1_placeCycle (7, [some (.ref 18), none, none, none, none, none], [.int (nI (low S))], w) _
  rw [← ea]
  refine xQ.go 4 (F1 := (13, [some (.ref 18), some (.int (nI a)), none, none, none, none], [.int (nI a), .ref 19], w)) rfl ?_
  refine xQ.call rfl (c_at rfl ha (by omega)) ?_
  show xQ MX1_placeCycle (16, [some (.ref 18), some (.int (nI a)), none, none, none, none], [.int (w.1 19 a)], w) _
  rw [hG.1 a ha]
  refine xQ.call rfl (c_least (by rw [← eb]; exact hb10)) ?_
  show xQ MX1_placeCycle (19, [some (.ref 18), some (.int (nI a)), none, none, none, none], [.int (nI (low (H a)))], w) _
  rw [← eb]
  refine xQ.go 4 (F1 := (23, [some (.ref 18), some (.int (nI a)), some (.int (nI b)), none, none, none], [.int (nI a), .int (nI b), .ref 18], w)) rfl ?_
  refine xQ.call rfl (c_bit ha) ?_
  show xQ MX1_placeCycle (26, [some (.ref 18), some (.int (nI a)), some (.int (nI b)), none, none, none], [.int (mk (fun v => decide (v = a))), .int (nI b), .ref 18], w) _
  refine xQ.go 3 (F1 := (31, [some (.ref 18), some (.int (nI a)), some (.int (nI b)), none, none, none], [.int (nI a), .int (w.1 18 2), .int (mk (fun v => decide (v = a))), .int (nI b), .ref 18], w)) rfl ?_
  refine xQ.call rfl (c_bit ha) ?_
  show xQ MX1_placeCycle (34, [some (.ref 18), some (.int (nI a)), some (.int (nI b)), none, none, none], [.int (mk (fun v => decide (v = a))), .int (w.1 18 2), .int (mk (fun v => decide (v = a))), .int (nI b), .ref 18], w) _
  refine xQ.go 3 (F1 := (37, [some (.ref 18), some (.int (nI a)), some (.int (nI b)), none, none, none], [.int ((w.1 18 2) &&& ((mk (fun v => decide (v = a))) ^^^ (-1))), .int (mk (fun v => decide (v = a))), .int (nI b), .ref 18], w)) rfl ?_
  rw [hG.2.1, mk_andn]
  refine xQ.go 1 (F1 := (38, [some (.ref 18), some (.int (nI a)), some (.int (nI b)), none, none, none], [.int (nI b), .int (mk (fun v => S v && !decide (v = a))), .int (mk (fun v => decide (v = a))), .int (nI b), .ref 18], w)) rfl ?_
  refine xQ.call rfl (c_bit hb10) ?_
  show xQ MX1_placeCycle (41, [some (.ref 18), some (.int (nI a)), some (.int (nI b)), none, none, none], [.int (mk (fun v => decide (v = b))), .int (mk (fun v => S v && !decide (v = a))), .int (mk (fun v => decide (v = a))), .int (nI b), .ref 18], w) _
  refine xQ.go 3 (F1 := (44, [some (.ref 18), some (.int (nI a)), some (.int (nI b)), none, none, none], [.int ((mk (fun v => S v && !decide (v = a))) &&& ((mk (fun v => decide (v = b))) ^^^ (-1))), .int (mk (fun v => decide (v = a))), .int (nI b), .ref 18], w)) rfl ?_
  rw [mk_andn, show (fun v => (S v && !decide (v = a)) && !decide (v = b)) = SA S a b from rfl]
  obtain ⟨r1, w1, hc1, hr1, hl1, hk1⟩ := c_findPath_p (w := w) (H := H) (A := SA S a b) (T := fun v => decide (v = a)) (u := b) hb.1 hG.1 hb10 h0 h8
  subst hr1
  refine xQ.call rfl (hc1) ?_
  show xQ MX1_placeCycle (47, [some (.ref 18), some (.int (nI a)), some (.int (nI b)), none, none, none], [.int 1], w1) _
  rw [hds, ← List.cons_append, ← hpp] at hl1
  have hpr : ∀ k, k < p.length → w1.1 23 k = nI (p.getD k 0) := fun k hk => hl1.2 k _ (get_D hk)
  have hp1 : w1.1 18 14 = nI (inn.length + 2) := by rw [hl1.1, hpl]
  refine xQ.go 1 (F1 := (bif !decide (1 = 0) then 52 else 50, [some (.ref 18), some (.int (nI a)), some (.int (nI b)), none, none, none], [], w1)) rfl ?_
  refine xQ.brT (rfl) ?_
  refine xQ.go 3 (F1 := (57, [some (.ref 18), some (.int (nI a)), some (.int (nI b)), none, none, none], [.int 0, .ref 22], w1)) rfl ?_
  show xQ MX1_placeCycle (57, [some (.ref 18), some (.int (nI a)), some (.int (nI b)), none, none, none], [.int (nI 0), .ref 22], w1) _
  refine xQ.go 1 (F1 := (58, [some (.ref 18), some (.int (nI a)), some (.int (nI b)), none, none, none], [.int (nI a), .int (nI 0), .ref 22], w1)) rfl ?_
  refine xQ.call rfl (c_cell) ?_
  show xQ MX1_placeCycle (61, [some (.ref 18), some (.int (nI a)), some (.int (nI b)), none, none, none], [.int (nI (10 * 0 + a)), .ref 22], w1) _
  refine xQ.go 1 (F1 := (62, [some (.ref 18), some (.int (nI a)), some (.int (nI b)), none, none, none], [.int (nI b), .int (nI (10 * 0 + a)), .ref 22], w1)) rfl ?_
  refine xQ.call rfl (c_put rfl (by omega) (by omega)) ?_
  show xQ MX1_placeCycle (65, [some (.ref 18), some (.int (nI a)), some (.int (nI b)), none, none, none], [], (xuI w1 22 (10 * 0 + a) (nI b))) _
  refine xQ.go 3 (F1 := (70, [some (.ref 18), some (.int (nI a)), some (.int (nI b)), none, none, none], [.int 1, .ref 22], (xuI w1 22 (10 * 0 + a) (nI b)))) rfl ?_
  show xQ MX1_placeCycle (70, [some (.ref 18), some (.int (nI a)), some (.int (nI b)), none, none, none], [.int (nI 1), .ref 22], (xuI w1 22 (10 * 0 + a) (nI b))) _
  refine xQ.go 1 (F1 := (71, [some (.ref 18), some (.int (nI a)), some (.int (nI b)), none, none, none], [.int (nI b), .int (nI 1), .ref 22], (xuI w1 22 (10 * 0 + a) (nI b)))) rfl ?_
  refine xQ.call rfl (c_cell) ?_
  show xQ MX1_placeCycle (74, [some (.ref 18), some (.int (nI a)), some (.int (nI b)), none, none, none], [.int (nI (10 * 1 + b)), .ref 22], (xuI w1 22 (10 * 0 + a) (nI b))) _
  refine xQ.go 1 (F1 := (75, [some (.ref 18), some (.int (nI a)), some (.int (nI b)), none, none, none], [.int (nI a), .int (nI (10 * 1 + b)), .ref 22], (xuI w1 22 (10 * 0 + a) (nI b)))) rfl ?_
  refine xQ.call rfl (c_put rfl (by omega) (by omega)) ?_
  show xQ MX1_placeCycle (78, [some (.ref 18), some (.int (nI a)), some (.int (nI b)), none, none, none], [], (xuI (xuI w1 22 (10 * 0 + a) (nI b)) 22 (10 * 1 + b) (nI a))) _
  obtain ⟨w2, hw2⟩ : ∃ w2, w2 = (xuI (xuI w1 22 (10 * 0 + a) (nI b)) 22 (10 * 1 + b) (nI a)) := ⟨_, rfl⟩
  have hk2 : xkq [(22, none)] w1 w2 := by rw [hw2]; exact xkq_I (xkq_I xkq_rfl rfl) rfl
  have hab : a ≠ b := fun e => (List.nodup_cons.mp hcn).1 (by rw [e]; simp)
  have ha1 : w2.1 22 (10 * 0 + a) = nI b := by rw [hw2, uI1, if_neg (by omega), uI1, if_pos ⟨rfl, rfl⟩]
  have hb1 : w2.1 22 (10 * 1 + b) = nI a := by rw [hw2, uI1, if_pos ⟨rfl, rfl⟩]
  rw [← hw2]
  have hP2 : eP 18 20 w2 (fun _ _ => false) (fun _ => false) 0 := ⟨fun v hv => by rw [xkq_at hk2 20 v, xkq_at hk1 20 v]; exact hP.1 v hv, by rw [xkq_at hk2 18 3, xkq_at hk1 18 3]; exact hP.2.1, by rw [xkq_at hk2 18 5, xkq_at hk1 18 5]; exact hP.2.2⟩
  obtain ⟨r3, w3, hc3, hr3, hP3, hk3⟩ := c_placeEdge_p hP2 ha hb10
  subst hr3
  refine xQ.go 3 (F1 := (81, [some (.ref 18), some (.int (nI a)), some (.int (nI b)), none, none, none], [.int (nI b), .int (nI a), .ref 18], w2)) rfl ?_
  refine xQ.call rfl (hc3) ?_
  show xQ MX1_placeCycle (84, [some (.ref 18), some (.int (nI a)), some (.int (nI b)), none, none, none], [], w3) _
  refine xQ.go 2 (F1 := (86, [some (.ref 18), some (.int (nI a)), some (.int (nI b)), some (.int 1), none, none], [], w3)) rfl ?_
  obtain ⟨P1, hP1e⟩ : ∃ P1, P1 = adP (fun _ _ => false) a b := ⟨_, rfl⟩
  obtain ⟨V1, hV1e⟩ : ∃ V1, V1 = adV (fun _ => false) a b := ⟨_, rfl⟩
  rw [← hP1e, ← hV1e] at hP3
  have hV1 : ∀ v, V1 v = true ↔ v = a ∨ v = b := fun v => by rw [hV1e]; simp [adV]
  refine xQ.loop (S := xW) (fun k s => (86, [some (.ref 18), some (.int (nI a)), some (.int (nI b)), some (.int (nI (k + 1))), none, none], [], s)) (fun k s => xkq [(18, some 3), (18, some 5), (20, none), (22, none)] w3 s ∧ eP 18 20 s (addP P1 (p.take (k + 1))) (addV V1 (p.take (k + 1))) (1 + k) ∧ (∀ j, j < k → s.1 22 (10 * 0 + p.getD j 0) = nI (p.getD (j + 1) 0) ∧ s.1 22 (10 * 1 + p.getD (j + 1) 0) = nI (p.getD j 0)) ∧ s.1 22 (10 * 0 + a) = nI b ∧ s.1 22 (10 * 1 + b) = nI a) (inn.length + 1) w3 (rfl) (⟨xkq_rfl, ⟨fun v hv => by rw [hP3.1 v hv, hpp]; exact mk_ext fun x _ => by simp [addP, pd], by rw [hP3.2.1, hpp]; exact mk_ext fun x _ => (by simp [addV]; intro e; exact (hV1 x).mpr (Or.inr e)), hP3.2.2⟩, fun j hj => absurd hj (by omega), by rw [xkq_at hk3 22 _]; exact ha1, by rw [xkq_at hk3 22 _]; exact hb1⟩) ?_ ?_
  · intro k s hk hI K
    obtain ⟨j1, j2, j3, j4, j5⟩ := hI
    obtain ⟨g1, g2⟩ := hgp k (by omega)
    obtain ⟨g3, g4⟩ := hgp (k + 1) (by omega)
    have hfl : s.1 18 14 = nI (inn.length + 2) := by rw [xkq_at j1 18 14, xkq_at hk3 18 14, xkq_at hk2 18 14, hp1]
    have hfp : ∀ j, s.1 23 j = w1.1 23 j := fun j => by rw [xkq_at j1 23 j, xkq_at hk3 23 j, xkq_at hk2 23 j]
    refine xQ.go 4 (F1 := (bif decide ((s.1 18 14) ≤ (nI (k + 1))) then 160 else 94, [some (.ref 18), some (.int (nI a)), some (.int (nI b)), some (.int (nI (k + 1))), none, none], [], s)) rfl ?_
    refine xQ.brF (by rw [hfl]; exact decide_eq_false (nI_ge (by omega) (by omega))) ?_
    refine xQ.go 5 (F1 := (101, [some (.ref 18), some (.int (nI a)), some (.int (nI b)), some (.int (nI (k + 1))), none, none], [.int ((nI (k + 1)) - 1), .ref 23], s)) rfl ?_
    rw [show nI (k + 1) - 1 = nI k from jI_sub (b := 1) (by omega)]
    refine xQ.call rfl (c_at rfl (by omega) (by omega)) ?_
    show xQ MX1_placeCycle (104, [some (.ref 18), some (.int (nI a)), some (.int (nI b)), some (.int (nI (k + 1))), none, none], [.int (s.1 23 k)], s) _
    rw [hfp, hpr k (by omega)]
    refine xQ.go 4 (F1 := (111, [some (.ref 18), some (.int (nI a)), some (.int (nI b)), some (.int (nI (k + 1))), some (.int (nI (p.getD k 0))), none], [.int (nI (k + 1)), .ref 23], s)) rfl ?_
    refine xQ.call rfl (c_at rfl (by omega) (by omega)) ?_
    show xQ MX1_placeCycle (114, [some (.ref 18), some (.int (nI a)), some (.int (nI b)), some (.int (nI (k + 1))), some (.int (nI (p.getD k 0))), none], [.int (s.1 23 (k + 1))], s) _
    rw [hfp, hpr (k + 1) (by omega)]
    refine xQ.go 4 (F1 := (121, [some (.ref 18), some (.int (nI a)), some (.int (nI b)), some (.int (nI (k + 1))), some (.int (nI (p.getD k 0))), some (.int (nI (p.getD (k + 1) 0)))], [.int 0, .ref 22], s)) rfl ?_
    show xQ MX1_placeCycle (121, [some (.ref 18), some (.int (nI a)), some (.int (nI b)), some (.int (nI (k + 1))), some (.int (nI (p.getD k 0))), some (.int (nI (p.getD (k + 1) 0)))], [.int (nI 0), .ref 22], s) _
    refine xQ.go 1 (F1 := (123, [some (.ref 18), some (.int (nI a)), some (.int (nI b)), some (.int (nI (k + 1))), some (.int (nI (p.getD k 0))), some (.int (nI (p.getD (k + 1) 0)))], [.int (nI (p.getD k 0)), .int (nI 0), .ref 22], s)) rfl ?_
    refine xQ.call rfl (c_cell) ?_
    show xQ MX1_placeCycle (126, [some (.ref 18), some (.int (nI a)), some (.int (nI b)), some (.int (nI (k + 1))), some (.int (nI (p.getD k 0))), some (.int (nI (p.getD (k + 1) 0)))], [.int (nI (10 * 0 + p.getD k 0)), .ref 22], s) _
    refine xQ.go 1 (F1 := (128, [some (.ref 18), some (.int (nI a)), some (.int (nI b)), some (.int (nI (k + 1))), some (.int (nI (p.getD k 0))), some (.int (nI (p.getD (k + 1) 0)))], [.int (nI (p.getD (k + 1) 0)), .int (nI (10 * 0 + p.getD k 0)), .ref 22], s)) rfl ?_
    refine xQ.call rfl (c_put rfl (by omega) (by omega)) ?_
    show xQ MX1_placeCycle (131, [some (.ref 18), some (.int (nI a)), some (.int (nI b)), some (.int (nI (k + 1))), some (.int (nI (p.getD k 0))), some (.int (nI (p.getD (k + 1) 0)))], [], (xuI s 22 (10 * 0 + p.getD k 0) (nI (p.getD (k + 1) 0)))) _
    refine xQ.go 3 (F1 := (136, [some (.ref 18), some (.int (nI a)), some (.int (nI b)), some (.int (nI (k + 1))), some (.int (nI (p.getD k 0))), some (.int (nI (p.getD (k + 1) 0)))], [.int 1, .ref 22], (xuI s 22 (10 * 0 + p.getD k 0) (nI (p.getD (k + 1) 0))))) rfl ?_
    show xQ MX1_placeCycle (136, [some (.ref 18), some (.int (nI a)), some (.int (nI b)), some (.int (nI (k + 1))), some (.int (nI (p.getD k 0))), some (.int (nI (p.getD (k + 1) 0)))], [.int (nI 1), .ref 22], (xuI s 22 (10 * 0 + p.getD k 0) (nI (p.getD (k + 1) 0)))) _
    refine xQ.go 1 (F1 := (138, [some (.ref 18), some (.int (nI a)), some (.int (nI b)), some (.int (nI (k + 1))), some (.int (nI (p.getD k 0))), some (.int (nI (p.getD (k + 1) 0)))], [.int (nI (p.getD (k + 1) 0)), .int (nI 1), .ref 22], (xuI s 22 (10 * 0 + p.getD k 0) (nI (p.getD (k + 1) 0))))) rfl ?_
    refine xQ.call rfl (c_cell) ?_
    show xQ MX1_placeCycle (141, [some (.ref 18), some (.int (nI a)), some (.int (nI b)), some (.int (nI (k + 1))), some (.int (nI (p.getD k 0))), some (.int (nI (p.getD (k + 1) 0)))], [.int (nI (10 * 1 + p.getD (k + 1) 0)), .ref 22], (xuI s 22 (10 * 0 + p.getD k 0) (nI (p.getD (k + 1) 0)))) _
    refine xQ.go 1 (F1 := (143, [some (.ref 18), some (.int (nI a)), some (.int (nI b)), some (.int (nI (k + 1))), some (.int (nI (p.getD k 0))), some (.int (nI (p.getD (k + 1) 0)))], [.int (nI (p.getD k 0)), .int (nI (10 * 1 + p.getD (k + 1) 0)), .ref 22], (xuI s 22 (10 * 0 + p.getD k 0) (nI (p.getD (k + 1) 0))))) rfl ?_
    refine xQ.call rfl (c_put rfl (by omega) (by omega)) ?_
    show xQ MX1_placeCycle (146, [some (.ref 18), some (.int (nI a)), some (.int (nI b)), some (.int (nI (k + 1))), some (.int (nI (p.getD k 0))), some (.int (nI (p.getD (k + 1) 0)))], [], (xuI (xuI s 22 (10 * 0 + p.getD k 0) (nI (p.getD (k + 1) 0))) 22 (10 * 1 + p.getD (k + 1) 0) (nI (p.getD k 0)))) _
    obtain ⟨s2, hs2⟩ : ∃ s2, s2 = (xuI (xuI s 22 (10 * 0 + p.getD k 0) (nI (p.getD (k + 1) 0))) 22 (10 * 1 + p.getD (k + 1) 0) (nI (p.getD k 0))) := ⟨_, rfl⟩
    have hq2 : xkq [(22, none)] s s2 := by rw [hs2]; exact xkq_I (xkq_I xkq_rfl rfl) rfl
    have hr1 : s2.1 22 (10 * 0 + p.getD k 0) = nI (p.getD (k + 1) 0) := by
      rw [hs2, uI1, if_neg (by omega), uI1, if_pos ⟨rfl, rfl⟩]
    have hr2 : s2.1 22 (10 * 1 + p.getD (k + 1) 0) = nI (p.getD k 0) := by
      rw [hs2, uI1, if_pos ⟨rfl, rfl⟩]
    have hr3 : ∀ i x, x < 10 → ¬ (i = 0 ∧ x = p.getD k 0) → ¬ (i = 1 ∧ x = p.getD (k + 1) 0) → s2.1 22 (10 * i + x) = s.1 22 (10 * i + x) := fun i x hx n1 n2 => by
      rw [hs2, uI1, if_neg (by omega), uI1, if_neg (by omega)]
    rw [← hs2]
    have hP4 : eP 18 20 s2 (addP P1 (p.take (k + 1))) (addV V1 (p.take (k + 1))) (1 + k) := ⟨fun v hv => by rw [xkq_at hq2 20 v]; exact j2.1 v hv, by rw [xkq_at hq2 18 3]; exact j2.2.1, by rw [xkq_at hq2 18 5]; exact j2.2.2⟩
    obtain ⟨r5, s3, hc5, hr5, hP5, hk5⟩ := c_placeEdge_p hP4 g2 g4
    subst hr5
    refine xQ.go 3 (F1 := (151, [some (.ref 18), some (.int (nI a)), some (.int (nI b)), some (.int (nI (k + 1))), some (.int (nI (p.getD k 0))), some (.int (nI (p.getD (k + 1) 0)))], [.int (nI (p.getD (k + 1) 0)), .int (nI (p.getD k 0)), .ref 18], s2)) rfl ?_
    refine xQ.call rfl (hc5) ?_
    show xQ MX1_placeCycle (154, [some (.ref 18), some (.int (nI a)), some (.int (nI b)), some (.int (nI (k + 1))), some (.int (nI (p.getD k 0))), some (.int (nI (p.getD (k + 1) 0)))], [], s3) _
    refine xQ.less [some (.ref 18), some (.int (nI a)), some (.int (nI b)), some (.int (nI (k + 1))), none, none] (by simp [xleb]) ?_
    refine xQ.go 2 (F1 := (86, [some (.ref 18), some (.int (nI a)), some (.int (nI b)), some (.int ((nI (k + 1)) + 1)), none, none], [], s3)) rfl ?_
    rw [← nI_succ]
    refine K s3 ⟨xkq_trans (xkq_trans j1 (xkq_mono rfl hq2)) (xkq_mono rfl hk5), ⟨fun v hv => ?_, ?_, hP5.2.2⟩, fun j hj => ?_, ?_, ?_⟩
    · rw [hP5.1 v hv]
      refine mk_ext fun x _ => Bool.eq_iff_iff.mpr ?_
      rw [addP_iff]
      show (addP P1 (p.take (k + 1)) v x || ab _ _ v x) = true ↔ _
      rw [Bool.or_eq_true, addP_iff, ab_iff, pd_take (by omega), pd_take (by omega)]
      simp only [Prod.mk.injEq]
      constructor
      · rintro ((h | h | h) | h | h)
        · exact Or.inl h
        · exact Or.inr (Or.inl (Or.inl h))
        · exact Or.inr (Or.inr (Or.inl h))
        · exact Or.inr (Or.inl (Or.inr h))
        · exact Or.inr (Or.inr (Or.inr ⟨h.2, h.1⟩))
      · rintro (h | (h | h) | h | h)
        · exact Or.inl (Or.inl h)
        · exact Or.inl (Or.inr (Or.inl h))
        · exact Or.inr (Or.inl h)
        · exact Or.inl (Or.inr (Or.inr h))
        · exact Or.inr (Or.inr ⟨h.2, h.1⟩)
    · rw [hP5.2.1]
      refine mk_ext fun x _ => Bool.eq_iff_iff.mpr ?_
      rw [addV_iff, mem_take1 (by omega)]
      show (addV V1 (p.take (k + 1)) x || (decide (x = _) || decide (x = _))) = true ↔ _
      simp only [Bool.or_eq_true, decide_eq_true_iff, addV_iff]
      have hm : p.getD k 0 ∈ p.take (k + 1) := (mem_take1 (by omega)).mpr (Or.inr rfl)
      constructor
      · rintro ((h | h) | h | h)
        · exact Or.inl h
        · exact Or.inr (Or.inl h)
        · rw [h]; exact Or.inr (Or.inl hm)
        · exact Or.inr (Or.inr h)
      · rintro (h | h | h)
        · exact Or.inl (Or.inl h)
        · exact Or.inl (Or.inr h)
        · exact Or.inr (Or.inr h)
    · rw [xkq_at hk5 22 _, xkq_at hk5 22 _]
      by_cases e : j = k
      · rw [e]
        exact ⟨hr1, hr2⟩
      · obtain ⟨q1, q2⟩ := j3 j (by omega)
        have := (hgp j (by omega)).2
        have := (hgp (j + 1) (by omega)).2
        refine ⟨?_, ?_⟩
        · rw [hr3 _ _ (by omega) (fun h => e (hpj _ _ (by omega) (by omega) h.2)) (fun h => absurd h.1 (by omega))]
          exact q1
        · rw [hr3 _ _ (by omega) (fun h => absurd h.1 (by omega)) (fun h => e (by have := hpj _ _ (by omega) (by omega) h.2; omega))]
          exact q2
    · rw [xkq_at hk5 22 _, hr3 0 a ha (fun h => ?_) (fun h => absurd h.1 (by omega))]
      · exact j4
      · have := hpj k (inn.length + 1) (by omega) (by omega) (by rw [hpe]; exact h.2.symm)
        omega
    · rw [xkq_at hk5 22 _, hr3 1 b hb10 (fun h => absurd h.1 (by omega)) (fun h => ?_)]
      · exact j5
      · have := hpj (k + 1) 0 (by omega) (by omega) (by rw [hp0]; exact h.2.symm)
        omega
  · intro w4 hI
    obtain ⟨j1, j2, j3, j4, j5⟩ := hI
    rw [show p.take (inn.length + 1 + 1) = p from List.take_of_length_le (by omega)] at *
    have k14 : w4.1 18 14 = nI (inn.length + 2) := by rw [xkq_at j1 18 14, xkq_at hk3 18 14, xkq_at hk2 18 14, hp1]
    refine xQ.go 4 (F1 := (bif decide ((w4.1 18 14) ≤ (nI (inn.length + 1 + 1))) then 160 else 94, [some (.ref 18), some (.int (nI a)), some (.int (nI b)), some (.int (nI (inn.length + 1 + 1))), none, none], [], w4)) rfl ?_
    refine xQ.brT (by rw [k14]; exact decide_eq_true (Int32.le_refl _)) ?_
    refine xQ.go 5 (F1 := (169, [some (.ref 18), some (.int (nI a)), some (.int (nI b)), some (.int (nI (inn.length + 1 + 1))), none, none], [.int (w4.1 18 3), .int 0, .ref 21], w4)) rfl ?_
    refine xQ.call rfl (c_put rfl (k := 0) (by omega) (by omega)) ?_
    show xQ MX1_placeCycle (172, [some (.ref 18), some (.int (nI a)), some (.int (nI b)), some (.int (nI (inn.length + 1 + 1))), none, none], [], (xuI w4 21 0 (w4.1 18 3))) _
    refine xQ.go 5 (F1 := (181, [some (.ref 18), some (.int (nI a)), some (.int (nI b)), some (.int (nI (inn.length + 1 + 1))), none, none], [.int ((xuI w4 21 0 (w4.1 18 3)).1 18 3), .int 1, .ref 21], (xuI w4 21 0 (w4.1 18 3)))) rfl ?_
    refine xQ.call rfl (c_put rfl (k := 1) (by omega) (by omega)) ?_
    show xQ MX1_placeCycle (184, [some (.ref 18), some (.int (nI a)), some (.int (nI b)), some (.int (nI (inn.length + 1 + 1))), none, none], [], (xuI (xuI w4 21 0 (w4.1 18 3)) 21 1 ((xuI w4 21 0 (w4.1 18 3)).1 18 3))) _
    refine xQ.go 4 (F1 := (190, [some (.ref 18), some (.int (nI a)), some (.int (nI b)), some (.int (nI (inn.length + 1 + 1))), none, none], [.int 1], (xuI (xuI (xuI w4 21 0 (w4.1 18 3)) 21 1 ((xuI w4 21 0 (w4.1 18 3)).1 18 3)) 18 8 2))) rfl ?_
    refine xQ.iret .boolean 1 rfl rfl (rfl) ?_
    have hVe : ∀ v, addV V1 p v = decide (v ∈ a :: b :: inn) := fun v => by
      apply Bool.eq_iff_iff.mpr
      rw [addV_iff, hV1, hpm, decide_eq_true_iff]
      constructor
      · rintro ((h | h) | h)
        · rw [h]; simp
        · rw [h]; simp
        · exact h
      · exact Or.inr
    have hset : w4.1 18 3 = mk (fun v => decide (v ∈ a :: b :: inn)) := by
      rw [j2.2.1]
      exact mk_ext fun v _ => hVe v
    have hpd : ∀ x y, (x, y) ∈ pd p → ∃ j, j < inn.length + 1 ∧ x = p.getD j 0 ∧ y = p.getD (j + 1) 0 := fun x y h => by
      obtain ⟨j, h1, h2⟩ := pd_ex h
      have hj := (List.getElem?_eq_some_iff.mp h2).1
      refine ⟨j, by omega, ?_, ?_⟩
      · rw [get_D (by omega)] at h1
        exact (Option.some.inj h1).symm
      · rw [get_D hj] at h2
        exact (Option.some.inj h2).symm
    show _ ∧ eP 18 20 _ (cycP (cyc0 H S)) (fun v => decide (v ∈ cyc0 H S)) (cyc0 H S).length ∧ eF 18 21 22 _ [cyc0 H S, (cyc0 H S).reverse] ∧ _
    rw [hc]
    refine ⟨rfl, ⟨fun v hv => ?_, ?_, ?_⟩, ⟨?_, fun i f hi => ?_⟩, ?_⟩
    · simp only [uI1]
      simp
      rw [j2.1 v hv]
      refine mk_ext fun x _ => Bool.eq_iff_iff.mpr ?_
      rw [addP_iff]
      show _ ↔ (decide ((v, x) ∈ dts (a :: b :: inn)) || decide ((x, v) ∈ dts (a :: b :: inn))) = true
      rw [Bool.or_eq_true, decide_eq_true_iff, decide_eq_true_iff, hdt, List.mem_cons, List.mem_cons, hP1e]
      show (false || ab a b v x) = true ∨ _ ↔ _
      rw [Bool.false_or, ab_iff]
      simp only [Prod.mk.injEq]
      constructor
      · rintro ((h | h) | h | h)
        · exact Or.inl (Or.inl h)
        · exact Or.inr (Or.inl ⟨h.2, h.1⟩)
        · exact Or.inl (Or.inr h)
        · exact Or.inr (Or.inr h)
      · rintro ((h | h) | h | h)
        · exact Or.inl (Or.inl h)
        · exact Or.inr (Or.inl h)
        · exact Or.inl (Or.inr ⟨h.2, h.1⟩)
        · exact Or.inr (Or.inr h)
    · simp only [uI1]
      simp
      rw [hset]
      simp
    · simp only [uI1]
      simp
      rw [j2.2.2, show 1 + (inn.length + 1) = inn.length + 1 + 1 by omega]
    · simp only [uI1]
      simp
      rfl
    · have hi2 : i < 2 := (List.getElem?_eq_some_iff.mp hi).1
      have hcase : (i = 0 ∧ f = a :: b :: inn) ∨ (i = 1 ∧ f = (a :: b :: inn).reverse) := by
        match i, hi2, hi with
        | 0, _, hi => exact Or.inl ⟨rfl, (Option.some.inj hi).symm⟩
        | 1, _, hi => exact Or.inr ⟨rfl, (Option.some.inj hi).symm⟩
      rcases hcase with ⟨rfl, rfl⟩ | ⟨rfl, rfl⟩
      · refine ⟨?_, fun x y hxy => ?_⟩
        · simp only [uI1]
          simp
          rw [hset]
          simp
        · simp only [uI1]
          simp
          rw [hdt] at hxy
          rcases List.mem_cons.mp hxy with e | e
          · cases e
            simpa using j4
          · obtain ⟨j, hj, rfl, rfl⟩ := hpd x y e
            simpa using (j3 j hj).1
      · refine ⟨?_, fun x y hxy => ?_⟩
        · simp only [uI1]
          simp
          rw [hset]
          exact mk_ext fun v _ => (by simp; cases decide (v = a) <;> cases decide (v = b) <;> cases decide (v ∈ inn) <;> rfl)
        · simp only [uI1]
          simp
          rw [dts_rev, hdt] at hxy
          rcases List.mem_cons.mp hxy with e | e
          · cases e
            simpa using j5
          · obtain ⟨j, hj, rfl, rfl⟩ := hpd y x e
            simpa using (j3 j hj).2
    · exact xkq_I (xkq_I (xkq_I (xkq_trans (xkq_trans (xkq_trans (xkq_mono rfl hk1) (xkq_mono rfl hk2)) (xkq_mono rfl hk3)) (xkq_mono rfl j1)) rfl) rfl) rfl

theorem c_cycle_t {w : xW} {H : Nat → Nat → Bool} {S : Nat → Bool} (hb : BIC H S) (hS : ∀ v, S v = true → v < 10) (he : 2 ≤ ec H) (hG : eG 32 33 w H S) (hP : eP 32 34 w (fun _ _ => false) (fun _ => false) 0) : xD MX1_placeCycle [.ref 32] w (fun r w1 => r = some (.int 1) ∧ eP 32 34 w1 (cyc1 H S).1 (cyc1 H S).2.1 (cyc1 H S).2.2.2 ∧ eF 32 35 36 w1 (cyc1 H S).2.2.1 ∧ xkq [(32, some 3), (32, some 5), (32, some 8), (32, some 14), (34, none), (35, none), (36, none), (37, none), (38, none)] w w1) := by
  obtain ⟨a, b, inn, ea, eb, hc, ha, hb10, h0, h8, hds, hi1, hi8, hcn, hcm, hcd, _⟩ := cyc0_ok hb hS he
  rw [hc] at hcn hcm hcd
  obtain ⟨p, hpp⟩ : ∃ p, p = b :: inn ++ [a] := ⟨_, rfl⟩
  have hpl : p.length = inn.length + 2 := by rw [hpp]; simp
  have hpn : p.Nodup := by
    rw [hpp]
    have := List.nodup_cons.mp hcn
    exact List.nodup_append.mpr ⟨this.2, by simp, fun x hx y hy e => by
      rw [List.mem_singleton] at hy
      rw [e, hy] at hx
      exact this.1 hx⟩
  have hpm : ∀ v, v ∈ p ↔ v ∈ a :: b :: inn := fun v => by
    rw [hpp]
    simp only [List.mem_append, List.mem_cons, List.not_mem_nil, or_false]
    constructor
    · rintro ((h | h) | h) <;> simp [h]
    · rintro (h | h | h) <;> simp [h]
  have hp10 : ∀ v ∈ p, v < 10 := fun v hv => (hcm v ((hpm v).mp hv)).1
  have hgp : ∀ k, k < p.length → p.getD k 0 ∈ p ∧ p.getD k 0 < 10 := fun k hk => by
    have := List.mem_of_getElem? (get_D hk)
    exact ⟨this, hp10 _ this⟩
  have hp0 : p.getD 0 0 = b := by rw [hpp]; rfl
  have hpe : p.getD (inn.length + 1) 0 = a := by rw [hpp, List.getD_eq_getElem?_getD]; simp
  have hpj : ∀ i j, i < p.length → j < p.length → p.getD i 0 = p.getD j 0 → i = j := fun i j hi hj e => nodup_ix hpn (get_D hi) (by rw [get_D hj, e])
  have hdt : dts (a :: b :: inn) = (a, b) :: pd p := by rw [hpp]; rfl
  refine xD.of ?_
  show xQ MX1_placeCycle (0, [some (.ref 32), none, none, none, none, none], [], w) _
  refine xQ.go 2 (F1 := (4, [some (.ref 32), none, none, none, none, none], [.int (w.1 32 2)], w)) rfl ?_
  rw [hG.2.1]
  refine xQ.call rfl (c_least (by rw [← ea]; exact ha)) ?_
  show xQ MX1_placeCycle (7, [some (.ref 32), none, none, none, none, none], [.int (nI (low S))], w) _
  rw [← ea]
  refine xQ.go 4 (F1 := (13, [some (.ref 32), some (.int (nI a)), none, none, none, none], [.int (nI a), .ref 33], w)) rfl ?_
  refine xQ.call rfl (c_at rfl ha (by omega)) ?_
  show xQ MX1_placeCycle (16, [some (.ref 32), some (.int (nI a)), none, none, none, none], [.int (w.1 33 a)], w) _
  rw [hG.1 a ha]
  refine xQ.call rfl (c_least (by rw [← eb]; exact hb10)) ?_
  show xQ MX1_placeCycle (19, [some (.ref 32), some (.int (nI a)), none, none, none, none], [.int (nI (low (H a)))], w) _
  rw [← eb]
  refine xQ.go 4 (F1 := (23, [some (.ref 32), some (.int (nI a)), some (.int (nI b)), none, none, none], [.int (nI a), .int (nI b), .ref 32], w)) rfl ?_
  refine xQ.call rfl (c_bit ha) ?_
  show xQ MX1_placeCycle (26, [some (.ref 32), some (.int (nI a)), some (.int (nI b)), none, none, none], [.int (mk (fun v => decide (v = a))), .int (nI b), .ref 32], w) _
  refine xQ.go 3 (F1 := (31, [some (.ref 32), some (.int (nI a)), some (.int (nI b)), none, none, none], [.int (nI a), .int (w.1 32 2), .int (mk (fun v => decide (v = a))), .int (nI b), .ref 32], w)) rfl ?_
  refine xQ.call rfl (c_bit ha) ?_
  show xQ MX1_placeCycle (34, [some (.ref 32), some (.int (nI a)), some (.int (nI b)), none, none, none], [.int (mk (fun v => decide (v = a))), .int (w.1 32 2), .int (mk (fun v => decide (v = a))), .int (nI b), .ref 32], w) _
  refine xQ.go 3 (F1 := (37, [some (.ref 32), some (.int (nI a)), some (.int (nI b)), none, none, none], [.int ((w.1 32 2) &&& ((mk (fun v => decide (v = a))) ^^^ (-1))), .int (mk (fun v => decide (v = a))), .int (nI b), .ref 32], w)) rfl ?_
  rw [hG.2.1, mk_andn]
  refine xQ.go 1 (F1 := (38, [some (.ref 32), some (.int (nI a)), some (.int (nI b)), none, none, none], [.int (nI b), .int (mk (fun v => S v && !decide (v = a))), .int (mk (fun v => decide (v = a))), .int (nI b), .ref 32], w)) rfl ?_
  refine xQ.call rfl (c_bit hb10) ?_
  show xQ MX1_placeCycle (41, [some (.ref 32), some (.int (nI a)), some (.int (nI b)), none, none, none], [.int (mk (fun v => decide (v = b))), .int (mk (fun v => S v && !decide (v = a))), .int (mk (fun v => decide (v = a))), .int (nI b), .ref 32], w) _
  refine xQ.go 3 (F1 := (44, [some (.ref 32), some (.int (nI a)), some (.int (nI b)), none, none, none], [.int ((mk (fun v => S v && !decide (v = a))) &&& ((mk (fun v => decide (v = b))) ^^^ (-1))), .int (mk (fun v => decide (v = a))), .int (nI b), .ref 32], w)) rfl ?_
  rw [mk_andn, show (fun v => (S v && !decide (v = a)) && !decide (v = b)) = SA S a b from rfl]
  obtain ⟨r1, w1, hc1, hr1, hl1, hk1⟩ := c_findPath_t (w := w) (H := H) (A := SA S a b) (T := fun v => decide (v = a)) (u := b) hb.1 hG.1 hb10 h0 h8
  subst hr1
  refine xQ.call rfl (hc1) ?_
  show xQ MX1_placeCycle (47, [some (.ref 32), some (.int (nI a)), some (.int (nI b)), none, none, none], [.int 1], w1) _
  rw [hds, ← List.cons_append, ← hpp] at hl1
  have hpr : ∀ k, k < p.length → w1.1 37 k = nI (p.getD k 0) := fun k hk => hl1.2 k _ (get_D hk)
  have hp1 : w1.1 32 14 = nI (inn.length + 2) := by rw [hl1.1, hpl]
  refine xQ.go 1 (F1 := (bif !decide (1 = 0) then 52 else 50, [some (.ref 32), some (.int (nI a)), some (.int (nI b)), none, none, none], [], w1)) rfl ?_
  refine xQ.brT (rfl) ?_
  refine xQ.go 3 (F1 := (57, [some (.ref 32), some (.int (nI a)), some (.int (nI b)), none, none, none], [.int 0, .ref 36], w1)) rfl ?_
  show xQ MX1_placeCycle (57, [some (.ref 32), some (.int (nI a)), some (.int (nI b)), none, none, none], [.int (nI 0), .ref 36], w1) _
  refine xQ.go 1 (F1 := (58, [some (.ref 32), some (.int (nI a)), some (.int (nI b)), none, none, none], [.int (nI a), .int (nI 0), .ref 36], w1)) rfl ?_
  refine xQ.call rfl (c_cell) ?_
  show xQ MX1_placeCycle (61, [some (.ref 32), some (.int (nI a)), some (.int (nI b)), none, none, none], [.int (nI (10 * 0 + a)), .ref 36], w1) _
  refine xQ.go 1 (F1 := (62, [some (.ref 32), some (.int (nI a)), some (.int (nI b)), none, none, none], [.int (nI b), .int (nI (10 * 0 + a)), .ref 36], w1)) rfl ?_
  refine xQ.call rfl (c_put rfl (by omega) (by omega)) ?_
  show xQ MX1_placeCycle (65, [some (.ref 32), some (.int (nI a)), some (.int (nI b)), none, none, none], [], (xuI w1 36 (10 * 0 + a) (nI b))) _
  refine xQ.go 3 (F1 := (70, [some (.ref 32), some (.int (nI a)), some (.int (nI b)), none, none, none], [.int 1, .ref 36], (xuI w1 36 (10 * 0 + a) (nI b)))) rfl ?_
  show xQ MX1_placeCycle (70, [some (.ref 32), some (.int (nI a)), some (.int (nI b)), none, none, none], [.int (nI 1), .ref 36], (xuI w1 36 (10 * 0 + a) (nI b))) _
  refine xQ.go 1 (F1 := (71, [some (.ref 32), some (.int (nI a)), some (.int (nI b)), none, none, none], [.int (nI b), .int (nI 1), .ref 36], (xuI w1 36 (10 * 0 + a) (nI b)))) rfl ?_
  refine xQ.call rfl (c_cell) ?_
  show xQ MX1_placeCycle (74, [some (.ref 32), some (.int (nI a)), some (.int (nI b)), none, none, none], [.int (nI (10 * 1 + b)), .ref 36], (xuI w1 36 (10 * 0 + a) (nI b))) _
  refine xQ.go 1 (F1 := (75, [some (.ref 32), some (.int (nI a)), some (.int (nI b)), none, none, none], [.int (nI a), .int (nI (10 * 1 + b)), .ref 36], (xuI w1 36 (10 * 0 + a) (nI b)))) rfl ?_
  refine xQ.call rfl (c_put rfl (by omega) (by omega)) ?_
  show xQ MX1_placeCycle (78, [some (.ref 32), some (.int (nI a)), some (.int (nI b)), none, none, none], [], (xuI (xuI w1 36 (10 * 0 + a) (nI b)) 36 (10 * 1 + b) (nI a))) _
  obtain ⟨w2, hw2⟩ : ∃ w2, w2 = (xuI (xuI w1 36 (10 * 0 + a) (nI b)) 36 (10 * 1 + b) (nI a)) := ⟨_, rfl⟩
  have hk2 : xkq [(36, none)] w1 w2 := by rw [hw2]; exact xkq_I (xkq_I xkq_rfl rfl) rfl
  have hab : a ≠ b := fun e => (List.nodup_cons.mp hcn).1 (by rw [e]; simp)
  have ha1 : w2.1 36 (10 * 0 + a) = nI b := by rw [hw2, uI1, if_neg (by omega), uI1, if_pos ⟨rfl, rfl⟩]
  have hb1 : w2.1 36 (10 * 1 + b) = nI a := by rw [hw2, uI1, if_pos ⟨rfl, rfl⟩]
  rw [← hw2]
  have hP2 : eP 32 34 w2 (fun _ _ => false) (fun _ => false) 0 := ⟨fun v hv => by rw [xkq_at hk2 34 v, xkq_at hk1 34 v]; exact hP.1 v hv, by rw [xkq_at hk2 32 3, xkq_at hk1 32 3]; exact hP.2.1, by rw [xkq_at hk2 32 5, xkq_at hk1 32 5]; exact hP.2.2⟩
  obtain ⟨r3, w3, hc3, hr3, hP3, hk3⟩ := c_placeEdge_t hP2 ha hb10
  subst hr3
  refine xQ.go 3 (F1 := (81, [some (.ref 32), some (.int (nI a)), some (.int (nI b)), none, none, none], [.int (nI b), .int (nI a), .ref 32], w2)) rfl ?_
  refine xQ.call rfl (hc3) ?_
  show xQ MX1_placeCycle (84, [some (.ref 32), some (.int (nI a)), some (.int (nI b)), none, none, none], [], w3) _
  refine xQ.go 2 (F1 := (86, [some (.ref 32), some (.int (nI a)), some (.int (nI b)), some (.int 1), none, none], [], w3)) rfl ?_
  obtain ⟨P1, hP1e⟩ : ∃ P1, P1 = adP (fun _ _ => false) a b := ⟨_, rfl⟩
  obtain ⟨V1, hV1e⟩ : ∃ V1, V1 = adV (fun _ => false) a b := ⟨_, rfl⟩
  rw [← hP1e, ← hV1e] at hP3
  have hV1 : ∀ v, V1 v = true ↔ v = a ∨ v = b := fun v => by rw [hV1e]; simp [adV]
  refine xQ.loop (S := xW) (fun k s => (86, [some (.ref 32), some (.int (nI a)), some (.int (nI b)), some (.int (nI (k + 1))), none, none], [], s)) (fun k s => xkq [(32, some 3), (32, some 5), (34, none), (36, none)] w3 s ∧ eP 32 34 s (addP P1 (p.take (k + 1))) (addV V1 (p.take (k + 1))) (1 + k) ∧ (∀ j, j < k → s.1 36 (10 * 0 + p.getD j 0) = nI (p.getD (j + 1) 0) ∧ s.1 36 (10 * 1 + p.getD (j + 1) 0) = nI (p.getD j 0)) ∧ s.1 36 (10 * 0 + a) = nI b ∧ s.1 36 (10 * 1 + b) = nI a) (inn.length + 1) w3 (rfl) (⟨xkq_rfl, ⟨fun v hv => by rw [hP3.1 v hv, hpp]; exact mk_ext fun x _ => by simp [addP, pd], by rw [hP3.2.1, hpp]; exact mk_ext fun x _ => (by simp [addV]; intro e; exact (hV1 x).mpr (Or.inr e)), hP3.2.2⟩, fun j hj => absurd hj (by omega), by rw [xkq_at hk3 36 _]; exact ha1, by rw [xkq_at hk3 36 _]; exact hb1⟩) ?_ ?_
  · intro k s hk hI K
    obtain ⟨j1, j2, j3, j4, j5⟩ := hI
    obtain ⟨g1, g2⟩ := hgp k (by omega)
    obtain ⟨g3, g4⟩ := hgp (k + 1) (by omega)
    have hfl : s.1 32 14 = nI (inn.length + 2) := by rw [xkq_at j1 32 14, xkq_at hk3 32 14, xkq_at hk2 32 14, hp1]
    have hfp : ∀ j, s.1 37 j = w1.1 37 j := fun j => by rw [xkq_at j1 37 j, xkq_at hk3 37 j, xkq_at hk2 37 j]
    refine xQ.go 4 (F1 := (bif decide ((s.1 32 14) ≤ (nI (k + 1))) then 160 else 94, [some (.ref 32), some (.int (nI a)), some (.int (nI b)), some (.int (nI (k + 1))), none, none], [], s)) rfl ?_
    refine xQ.brF (by rw [hfl]; exact decide_eq_false (nI_ge (by omega) (by omega))) ?_
    refine xQ.go 5 (F1 := (101, [some (.ref 32), some (.int (nI a)), some (.int (nI b)), some (.int (nI (k + 1))), none, none], [.int ((nI (k + 1)) - 1), .ref 37], s)) rfl ?_
    rw [show nI (k + 1) - 1 = nI k from jI_sub (b := 1) (by omega)]
    refine xQ.call rfl (c_at rfl (by omega) (by omega)) ?_
    show xQ MX1_placeCycle (104, [some (.ref 32), some (.int (nI a)), some (.int (nI b)), some (.int (nI (k + 1))), none, none], [.int (s.1 37 k)], s) _
    rw [hfp, hpr k (by omega)]
    refine xQ.go 4 (F1 := (111, [some (.ref 32), some (.int (nI a)), some (.int (nI b)), some (.int (nI (k + 1))), some (.int (nI (p.getD k 0))), none], [.int (nI (k + 1)), .ref 37], s)) rfl ?_
    refine xQ.call rfl (c_at rfl (by omega) (by omega)) ?_
    show xQ MX1_placeCycle (114, [some (.ref 32), some (.int (nI a)), some (.int (nI b)), some (.int (nI (k + 1))), some (.int (nI (p.getD k 0))), none], [.int (s.1 37 (k + 1))], s) _
    rw [hfp, hpr (k + 1) (by omega)]
    refine xQ.go 4 (F1 := (121, [some (.ref 32), some (.int (nI a)), some (.int (nI b)), some (.int (nI (k + 1))), some (.int (nI (p.getD k 0))), some (.int (nI (p.getD (k + 1) 0)))], [.int 0, .ref 36], s)) rfl ?_
    show xQ MX1_placeCycle (121, [some (.ref 32), some (.int (nI a)), some (.int (nI b)), some (.int (nI (k + 1))), some (.int (nI (p.getD k 0))), some (.int (nI (p.getD (k + 1) 0)))], [.int (nI 0), .ref 36], s) _
    refine xQ.go 1 (F1 := (123, [some (.ref 32), some (.int (nI a)), some (.int (nI b)), some (.int (nI (k + 1))), some (.int (nI (p.getD k 0))), some (.int (nI (p.getD (k + 1) 0)))], [.int (nI (p.getD k 0)), .int (nI 0), .ref 36], s)) rfl ?_
    refine xQ.call rfl (c_cell) ?_
    show xQ MX1_placeCycle (126, [some (.ref 32), some (.int (nI a)), some (.int (nI b)), some (.int (nI (k + 1))), some (.int (nI (p.getD k 0))), some (.int (nI (p.getD (k + 1) 0)))], [.int (nI (10 * 0 + p.getD k 0)), .ref 36], s) _
    refine xQ.go 1 (F1 := (128, [some (.ref 32), some (.int (nI a)), some (.int (nI b)), some (.int (nI (k + 1))), some (.int (nI (p.getD k 0))), some (.int (nI (p.getD (k + 1) 0)))], [.int (nI (p.getD (k + 1) 0)), .int (nI (10 * 0 + p.getD k 0)), .ref 36], s)) rfl ?_
    refine xQ.call rfl (c_put rfl (by omega) (by omega)) ?_
    show xQ MX1_placeCycle (131, [some (.ref 32), some (.int (nI a)), some (.int (nI b)), some (.int (nI (k + 1))), some (.int (nI (p.getD k 0))), some (.int (nI (p.getD (k + 1) 0)))], [], (xuI s 36 (10 * 0 + p.getD k 0) (nI (p.getD (k + 1) 0)))) _
    refine xQ.go 3 (F1 := (136, [some (.ref 32), some (.int (nI a)), some (.int (nI b)), some (.int (nI (k + 1))), some (.int (nI (p.getD k 0))), some (.int (nI (p.getD (k + 1) 0)))], [.int 1, .ref 36], (xuI s 36 (10 * 0 + p.getD k 0) (nI (p.getD (k + 1) 0))))) rfl ?_
    show xQ MX1_placeCycle (136, [some (.ref 32), some (.int (nI a)), some (.int (nI b)), some (.int (nI (k + 1))), some (.int (nI (p.getD k 0))), some (.int (nI (p.getD (k + 1) 0)))], [.int (nI 1), .ref 36], (xuI s 36 (10 * 0 + p.getD k 0) (nI (p.getD (k + 1) 0)))) _
    refine xQ.go 1 (F1 := (138, [some (.ref 32), some (.int (nI a)), some (.int (nI b)), some (.int (nI (k + 1))), some (.int (nI (p.getD k 0))), some (.int (nI (p.getD (k + 1) 0)))], [.int (nI (p.getD (k + 1) 0)), .int (nI 1), .ref 36], (xuI s 36 (10 * 0 + p.getD k 0) (nI (p.getD (k + 1) 0))))) rfl ?_
    refine xQ.call rfl (c_cell) ?_
    show xQ MX1_placeCycle (141, [some (.ref 32), some (.int (nI a)), some (.int (nI b)), some (.int (nI (k + 1))), some (.int (nI (p.getD k 0))), some (.int (nI (p.getD (k + 1) 0)))], [.int (nI (10 * 1 + p.getD (k + 1) 0)), .ref 36], (xuI s 36 (10 * 0 + p.getD k 0) (nI (p.getD (k + 1) 0)))) _
    refine xQ.go 1 (F1 := (143, [some (.ref 32), some (.int (nI a)), some (.int (nI b)), some (.int (nI (k + 1))), some (.int (nI (p.getD k 0))), some (.int (nI (p.getD (k + 1) 0)))], [.int (nI (p.getD k 0)), .int (nI (10 * 1 + p.getD (k + 1) 0)), .ref 36], (xuI s 36 (10 * 0 + p.getD k 0) (nI (p.getD (k + 1) 0))))) rfl ?_
    refine xQ.call rfl (c_put rfl (by omega) (by omega)) ?_
    show xQ MX1_placeCycle (146, [some (.ref 32), some (.int (nI a)), some (.int (nI b)), some (.int (nI (k + 1))), some (.int (nI (p.getD k 0))), some (.int (nI (p.getD (k + 1) 0)))], [], (xuI (xuI s 36 (10 * 0 + p.getD k 0) (nI (p.getD (k + 1) 0))) 36 (10 * 1 + p.getD (k + 1) 0) (nI (p.getD k 0)))) _
    obtain ⟨s2, hs2⟩ : ∃ s2, s2 = (xuI (xuI s 36 (10 * 0 + p.getD k 0) (nI (p.getD (k + 1) 0))) 36 (10 * 1 + p.getD (k + 1) 0) (nI (p.getD k 0))) := ⟨_, rfl⟩
    have hq2 : xkq [(36, none)] s s2 := by rw [hs2]; exact xkq_I (xkq_I xkq_rfl rfl) rfl
    have hr1 : s2.1 36 (10 * 0 + p.getD k 0) = nI (p.getD (k + 1) 0) := by
      rw [hs2, uI1, if_neg (by omega), uI1, if_pos ⟨rfl, rfl⟩]
    have hr2 : s2.1 36 (10 * 1 + p.getD (k + 1) 0) = nI (p.getD k 0) := by
      rw [hs2, uI1, if_pos ⟨rfl, rfl⟩]
    have hr3 : ∀ i x, x < 10 → ¬ (i = 0 ∧ x = p.getD k 0) → ¬ (i = 1 ∧ x = p.getD (k + 1) 0) → s2.1 36 (10 * i + x) = s.1 36 (10 * i + x) := fun i x hx n1 n2 => by
      rw [hs2, uI1, if_neg (by omega), uI1, if_neg (by omega)]
    rw [← hs2]
    have hP4 : eP 32 34 s2 (addP P1 (p.take (k + 1))) (addV V1 (p.take (k + 1))) (1 + k) := ⟨fun v hv => by rw [xkq_at hq2 34 v]; exact j2.1 v hv, by rw [xkq_at hq2 32 3]; exact j2.2.1, by rw [xkq_at hq2 32 5]; exact j2.2.2⟩
    obtain ⟨r5, s3, hc5, hr5, hP5, hk5⟩ := c_placeEdge_t hP4 g2 g4
    subst hr5
    refine xQ.go 3 (F1 := (151, [some (.ref 32), some (.int (nI a)), some (.int (nI b)), some (.int (nI (k + 1))), some (.int (nI (p.getD k 0))), some (.int (nI (p.getD (k + 1) 0)))], [.int (nI (p.getD (k + 1) 0)), .int (nI (p.getD k 0)), .ref 32], s2)) rfl ?_
    refine xQ.call rfl (hc5) ?_
    show xQ MX1_placeCycle (154, [some (.ref 32), some (.int (nI a)), some (.int (nI b)), some (.int (nI (k + 1))), some (.int (nI (p.getD k 0))), some (.int (nI (p.getD (k + 1) 0)))], [], s3) _
    refine xQ.less [some (.ref 32), some (.int (nI a)), some (.int (nI b)), some (.int (nI (k + 1))), none, none] (by simp [xleb]) ?_
    refine xQ.go 2 (F1 := (86, [some (.ref 32), some (.int (nI a)), some (.int (nI b)), some (.int ((nI (k + 1)) + 1)), none, none], [], s3)) rfl ?_
    rw [← nI_succ]
    refine K s3 ⟨xkq_trans (xkq_trans j1 (xkq_mono rfl hq2)) (xkq_mono rfl hk5), ⟨fun v hv => ?_, ?_, hP5.2.2⟩, fun j hj => ?_, ?_, ?_⟩
    · rw [hP5.1 v hv]
      refine mk_ext fun x _ => Bool.eq_iff_iff.mpr ?_
      rw [addP_iff]
      show (addP P1 (p.take (k + 1)) v x || ab _ _ v x) = true ↔ _
      rw [Bool.or_eq_true, addP_iff, ab_iff, pd_take (by omega), pd_take (by omega)]
      simp only [Prod.mk.injEq]
      constructor
      · rintro ((h | h | h) | h | h)
        · exact Or.inl h
        · exact Or.inr (Or.inl (Or.inl h))
        · exact Or.inr (Or.inr (Or.inl h))
        · exact Or.inr (Or.inl (Or.inr h))
        · exact Or.inr (Or.inr (Or.inr ⟨h.2, h.1⟩))
      · rintro (h | (h | h) | h | h)
        · exact Or.inl (Or.inl h)
        · exact Or.inl (Or.inr (Or.inl h))
        · exact Or.inr (Or.inl h)
        · exact Or.inl (Or.inr (Or.inr h))
        · exact Or.inr (Or.inr ⟨h.2, h.1⟩)
    · rw [hP5.2.1]
      refine mk_ext fun x _ => Bool.eq_iff_iff.mpr ?_
      rw [addV_iff, mem_take1 (by omega)]
      show (addV V1 (p.take (k + 1)) x || (decide (x = _) || decide (x = _))) = true ↔ _
      simp only [Bool.or_eq_true, decide_eq_true_iff, addV_iff]
      have hm : p.getD k 0 ∈ p.take (k + 1) := (mem_take1 (by omega)).mpr (Or.inr rfl)
      constructor
      · rintro ((h | h) | h | h)
        · exact Or.inl h
        · exact Or.inr (Or.inl h)
        · rw [h]; exact Or.inr (Or.inl hm)
        · exact Or.inr (Or.inr h)
      · rintro (h | h | h)
        · exact Or.inl (Or.inl h)
        · exact Or.inl (Or.inr h)
        · exact Or.inr (Or.inr h)
    · rw [xkq_at hk5 36 _, xkq_at hk5 36 _]
      by_cases e : j = k
      · rw [e]
        exact ⟨hr1, hr2⟩
      · obtain ⟨q1, q2⟩ := j3 j (by omega)
        have := (hgp j (by omega)).2
        have := (hgp (j + 1) (by omega)).2
        refine ⟨?_, ?_⟩
        · rw [hr3 _ _ (by omega) (fun h => e (hpj _ _ (by omega) (by omega) h.2)) (fun h => absurd h.1 (by omega))]
          exact q1
        · rw [hr3 _ _ (by omega) (fun h => absurd h.1 (by omega)) (fun h => e (by have := hpj _ _ (by omega) (by omega) h.2; omega))]
          exact q2
    · rw [xkq_at hk5 36 _, hr3 0 a ha (fun h => ?_) (fun h => absurd h.1 (by omega))]
      · exact j4
      · have := hpj k (inn.length + 1) (by omega) (by omega) (by rw [hpe]; exact h.2.symm)
        omega
    · rw [xkq_at hk5 36 _, hr3 1 b hb10 (fun h => absurd h.1 (by omega)) (fun h => ?_)]
      · exact j5
      · have := hpj (k + 1) 0 (by omega) (by omega) (by rw [hp0]; exact h.2.symm)
        omega
  · intro w4 hI
    obtain ⟨j1, j2, j3, j4, j5⟩ := hI
    rw [show p.take (inn.length + 1 + 1) = p from List.take_of_length_le (by omega)] at *
    have k14 : w4.1 32 14 = nI (inn.length + 2) := by rw [xkq_at j1 32 14, xkq_at hk3 32 14, xkq_at hk2 32 14, hp1]
    refine xQ.go 4 (F1 := (bif decide ((w4.1 32 14) ≤ (nI (inn.length + 1 + 1))) then 160 else 94, [some (.ref 32), some (.int (nI a)), some (.int (nI b)), some (.int (nI (inn.length + 1 + 1))), none, none], [], w4)) rfl ?_
    refine xQ.brT (by rw [k14]; exact decide_eq_true (Int32.le_refl _)) ?_
    refine xQ.go 5 (F1 := (169, [some (.ref 32), some (.int (nI a)), some (.int (nI b)), some (.int (nI (inn.length + 1 + 1))), none, none], [.int (w4.1 32 3), .int 0, .ref 35], w4)) rfl ?_
    refine xQ.call rfl (c_put rfl (k := 0) (by omega) (by omega)) ?_
    show xQ MX1_placeCycle (172, [some (.ref 32), some (.int (nI a)), some (.int (nI b)), some (.int (nI (inn.length + 1 + 1))), none, none], [], (xuI w4 35 0 (w4.1 32 3))) _
    refine xQ.go 5 (F1 := (181, [some (.ref 32), some (.int (nI a)), some (.int (nI b)), some (.int (nI (inn.length + 1 + 1))), none, none], [.int ((xuI w4 35 0 (w4.1 32 3)).1 32 3), .int 1, .ref 35], (xuI w4 35 0 (w4.1 32 3)))) rfl ?_
    refine xQ.call rfl (c_put rfl (k := 1) (by omega) (by omega)) ?_
    show xQ MX1_placeCycle (184, [some (.ref 32), some (.int (nI a)), some (.int (nI b)), some (.int (nI (inn.length + 1 + 1))), none, none], [], (xuI (xuI w4 35 0 (w4.1 32 3)) 35 1 ((xuI w4 35 0 (w4.1 32 3)).1 32 3))) _
    refine xQ.go 4 (F1 := (190, [some (.ref 32), some (.int (nI a)), some (.int (nI b)), some (.int (nI (inn.length + 1 + 1))), none, none], [.int 1], (xuI (xuI (xuI w4 35 0 (w4.1 32 3)) 35 1 ((xuI w4 35 0 (w4.1 32 3)).1 32 3)) 32 8 2))) rfl ?_
    refine xQ.iret .boolean 1 rfl rfl (rfl) ?_
    have hVe : ∀ v, addV V1 p v = decide (v ∈ a :: b :: inn) := fun v => by
      apply Bool.eq_iff_iff.mpr
      rw [addV_iff, hV1, hpm, decide_eq_true_iff]
      constructor
      · rintro ((h | h) | h)
        · rw [h]; simp
        · rw [h]; simp
        · exact h
      · exact Or.inr
    have hset : w4.1 32 3 = mk (fun v => decide (v ∈ a :: b :: inn)) := by
      rw [j2.2.1]
      exact mk_ext fun v _ => hVe v
    have hpd : ∀ x y, (x, y) ∈ pd p → ∃ j, j < inn.length + 1 ∧ x = p.getD j 0 ∧ y = p.getD (j + 1) 0 := fun x y h => by
      obtain ⟨j, h1, h2⟩ := pd_ex h
      have hj := (List.getElem?_eq_some_iff.mp h2).1
      refine ⟨j, by omega, ?_, ?_⟩
      · rw [get_D (by omega)] at h1
        exact (Option.some.inj h1).symm
      · rw [get_D hj] at h2
        exact (Option.some.inj h2).symm
    show _ ∧ eP 32 34 _ (cycP (cyc0 H S)) (fun v => decide (v ∈ cyc0 H S)) (cyc0 H S).length ∧ eF 32 35 36 _ [cyc0 H S, (cyc0 H S).reverse] ∧ _
    rw [hc]
    refine ⟨rfl, ⟨fun v hv => ?_, ?_, ?_⟩, ⟨?_, fun i f hi => ?_⟩, ?_⟩
    · simp only [uI1]
      simp
      rw [j2.1 v hv]
      refine mk_ext fun x _ => Bool.eq_iff_iff.mpr ?_
      rw [addP_iff]
      show _ ↔ (decide ((v, x) ∈ dts (a :: b :: inn)) || decide ((x, v) ∈ dts (a :: b :: inn))) = true
      rw [Bool.or_eq_true, decide_eq_true_iff, decide_eq_true_iff, hdt, List.mem_cons, List.mem_cons, hP1e]
      show (false || ab a b v x) = true ∨ _ ↔ _
      rw [Bool.false_or, ab_iff]
      simp only [Prod.mk.injEq]
      constructor
      · rintro ((h | h) | h | h)
        · exact Or.inl (Or.inl h)
        · exact Or.inr (Or.inl ⟨h.2, h.1⟩)
        · exact Or.inl (Or.inr h)
        · exact Or.inr (Or.inr h)
      · rintro ((h | h) | h | h)
        · exact Or.inl (Or.inl h)
        · exact Or.inr (Or.inl h)
        · exact Or.inl (Or.inr ⟨h.2, h.1⟩)
        · exact Or.inr (Or.inr h)
    · simp only [uI1]
      simp
      rw [hset]
      simp
    · simp only [uI1]
      simp
      rw [j2.2.2, show 1 + (inn.length + 1) = inn.length + 1 + 1 by omega]
    · simp only [uI1]
      simp
      rfl
    · have hi2 : i < 2 := (List.getElem?_eq_some_iff.mp hi).1
      have hcase : (i = 0 ∧ f = a :: b :: inn) ∨ (i = 1 ∧ f = (a :: b :: inn).reverse) := by
        match i, hi2, hi with
        | 0, _, hi => exact Or.inl ⟨rfl, (Option.some.inj hi).symm⟩
        | 1, _, hi => exact Or.inr ⟨rfl, (Option.some.inj hi).symm⟩
      rcases hcase with ⟨rfl, rfl⟩ | ⟨rfl, rfl⟩
      · refine ⟨?_, fun x y hxy => ?_⟩
        · simp only [uI1]
          simp
          rw [hset]
          simp
        · simp only [uI1]
          simp
          rw [hdt] at hxy
          rcases List.mem_cons.mp hxy with e | e
          · cases e
            simpa using j4
          · obtain ⟨j, hj, rfl, rfl⟩ := hpd x y e
            simpa using (j3 j hj).1
      · refine ⟨?_, fun x y hxy => ?_⟩
        · simp only [uI1]
          simp
          rw [hset]
          exact mk_ext fun v _ => (by simp; cases decide (v = a) <;> cases decide (v = b) <;> cases decide (v ∈ inn) <;> rfl)
        · simp only [uI1]
          simp
          rw [dts_rev, hdt] at hxy
          rcases List.mem_cons.mp hxy with e | e
          · cases e
            simpa using j5
          · obtain ⟨j, hj, rfl, rfl⟩ := hpd y x e
            simpa using (j3 j hj).2
    · exact xkq_I (xkq_I (xkq_I (xkq_trans (xkq_trans (xkq_trans (xkq_mono rfl hk1) (xkq_mono rfl hk2)) (xkq_mono rfl hk3)) (xkq_mono rfl j1)) rfl) rfl) rfl
end
section
theorem i_half {m : Nat} (h : m < 51) : nI (2 * m) / 2 = nI m := by
  have : ∀ m, m < 51 → nI (2 * m) / 2 = nI m := by decide +kernel
  exact this m h
theorem sm_le10 {f : Nat → Nat} (h : ∀ i, i < 10 → f i ≤ 10) : ∀ n, n ≤ 10 → sm f n ≤ 10 * n
  | 0, _ => Nat.le_refl _
  | n + 1, hn => by
    have := sm_le10 h n (by omega)
    have := h n (by omega)
    unfold sm
    omega
theorem ec_le {H : Nat → Nat → Bool} (hs : ∀ u v, H u v = H v u) (hi : ∀ v, H v v = false) : ec H < 51 := by
  have h1 := sm_even hs hi 10
  have h2 := sm_le10 (f := fun x => cnt (H x) 10) (fun i _ => cnt_le _ _) 10 (Nat.le_refl _)
  unfold ec
  omega
theorem c_start_p {w : xW} {G : Nat → Nat → Bool} {S : Nat → Bool} (hg : gok G) (hw : ∀ v, v < 10 → w.1 12 v = mk (G v)) : xD MX1_start [.ref 18, .ref 12, .int (mk S)] w (fun r w1 => r = none ∧ eG 18 19 w1 (bH G S) S ∧ eP 18 20 w1 (fun _ _ => false) (fun _ => false) 0 ∧ xkq [(18, some 2), (18, some 3), (18, some 4), (18, some 5), (18, some 8), (19, none), (20, none)] w w1) := by
  have hbs : ∀ u v, bH G S u v = bH G S v u := fun u v => by
    show (_ && (_ && _)) = (_ && (_ && _))
    rw [hg.1, Bool.and_comm (S u)]
  have hbi : ∀ v, bH G S v v = false := fun v => by
    show (_ && _) = false
    rw [hg.2.1]
    rfl
  refine xD.of ?_
  show xQ MX1_start (0, [some (.ref 18), some (.ref 12), some (.int (mk S)), none, none, none], [], w) _
  refine xQ.go 16 (F1 := (25, [some (.ref 18), some (.ref 12), some (.int (mk S)), some (.int 0), some (.int 0), none], [], (xuI (xuI (xuI (xuI w 18 2 (mk S)) 18 3 0) 18 5 0) 18 8 0))) rfl ?_
  refine xQ.loop (S := xW) (fun k s => (25, [some (.ref 18), some (.ref 12), some (.int (mk S)), some (.int (nI (sm (fun x => cnt (bH G S x) 10) k))), some (.int (nI k)), none], [], s)) (fun k s => xkq [(18, some 2), (18, some 3), (18, some 5), (18, some 8), (19, none), (20, none)] w s ∧ s.1 18 2 = mk S ∧ s.1 18 3 = 0 ∧ s.1 18 5 = 0 ∧ ∀ v, v < k → s.1 19 v = mk (bH G S v) ∧ s.1 20 v = 0) 10 (xuI (xuI (xuI (xuI w 18 2 (mk S)) 18 3 0) 18 5 0) 18 8 0) (rfl) (⟨xkq_I (xkq_I (xkq_I (xkq_I xkq_rfl rfl) rfl) rfl) rfl, by simp [uI1], by simp [uI1], by simp [uI1], fun v hv => absurd hv (by omega)⟩) ?_ ?_
  · intro k s hk hI K
    obtain ⟨i1, i2, i3, i4, i5⟩ := hI
    have hsm := sm_le10 (f := fun x => cnt (bH G S x) 10) (fun i _ => cnt_le _ _) k (by omega)
    have com : xQ MX1_start (53, [some (.ref 18), some (.ref 12), some (.int (mk S)), some (.int (nI (sm (fun x => cnt (bH G S x) 10) k))), some (.int (nI k)), none], [.int (mk (bH G S k))], s) (fun r w1 => r = none ∧ eG 18 19 w1 (bH G S) S ∧ eP 18 20 w1 (fun _ _ => false) (fun _ => false) 0 ∧ xkq [(18, some 2), (18, some 3), (18, some 4), (18, some 5), (18, some 8), (19, none), (20, none)] w w1) := by
      refine xQ.go 5 (F1 := (63, [some (.ref 18), some (.ref 12), some (.int (mk S)), some (.int (nI (sm (fun x => cnt (bH G S x) 10) k))), some (.int (nI k)), some (.int (mk (bH G S k)))], [.int (mk (bH G S k)), .int (nI k), .ref 19], s)) rfl ?_
      refine xQ.call rfl (c_put rfl (by omega) (by omega)) ?_
      show xQ MX1_start (66, [some (.ref 18), some (.ref 12), some (.int (mk S)), some (.int (nI (sm (fun x => cnt (bH G S x) 10) k))), some (.int (nI k)), some (.int (mk (bH G S k)))], [], (xuI s 19 k (mk (bH G S k)))) _
      refine xQ.go 4 (F1 := (73, [some (.ref 18), some (.ref 12), some (.int (mk S)), some (.int (nI (sm (fun x => cnt (bH G S x) 10) k))), some (.int (nI k)), some (.int (mk (bH G S k)))], [.int 0, .int (nI k), .ref 20], (xuI s 19 k (mk (bH G S k))))) rfl ?_
      refine xQ.call rfl (c_put rfl (by omega) (by omega)) ?_
      show xQ MX1_start (76, [some (.ref 18), some (.ref 12), some (.int (mk S)), some (.int (nI (sm (fun x => cnt (bH G S x) 10) k))), some (.int (nI k)), some (.int (mk (bH G S k)))], [], (xuI (xuI s 19 k (mk (bH G S k))) 20 k 0)) _
      refine xQ.go 2 (F1 := (79, [some (.ref 18), some (.ref 12), some (.int (mk S)), some (.int (nI (sm (fun x => cnt (bH G S x) 10) k))), some (.int (nI k)), some (.int (mk (bH G S k)))], [.int (mk (bH G S k)), .int (nI (sm (fun x => cnt (bH G S x) 10) k))], (xuI (xuI s 19 k (mk (bH G S k))) 20 k 0))) rfl ?_
      refine xQ.call rfl (c_ones) ?_
      show xQ MX1_start (82, [some (.ref 18), some (.ref 12), some (.int (mk S)), some (.int (nI (sm (fun x => cnt (bH G S x) 10) k))), some (.int (nI k)), some (.int (mk (bH G S k)))], [.int (nI (cnt (bH G S k) 10)), .int (nI (sm (fun x => cnt (bH G S x) 10) k))], (xuI (xuI s 19 k (mk (bH G S k))) 20 k 0)) _
      refine xQ.go 4 (F1 := (25, [some (.ref 18), some (.ref 12), some (.int (mk S)), some (.int ((nI (sm (fun x => cnt (bH G S x) 10) k)) + (nI (cnt (bH G S k) 10)))), some (.int ((nI k) + 1)), some (.int (mk (bH G S k)))], [], (xuI (xuI s 19 k (mk (bH G S k))) 20 k 0))) rfl ?_
      rw [jI_add, show sm (fun x => cnt (bH G S x) 10) k + cnt (bH G S k) 10 = sm (fun x => cnt (bH G S x) 10) (k + 1) from rfl, ← nI_succ]
      refine xQ.less [some (.ref 18), some (.ref 12), some (.int (mk S)), some (.int (nI (sm (fun x => cnt (bH G S x) 10) (k + 1)))), some (.int (nI (k + 1))), none] (by simp [xleb]) ?_
      refine K _ ⟨xkq_I (xkq_I i1 rfl) rfl, by simp [uI1, i2], by simp [uI1, i3], by simp [uI1, i4], fun v hv => ?_⟩
      simp only [uI1]
      simp
      by_cases e : v = k
      · rw [e]
        simp
      · simp only [if_neg e]
        exact ⟨(i5 v (by omega)).1, fun _ => (i5 v (by omega)).2⟩
    refine xQ.go 3 (F1 := (bif decide (10 ≤ (nI k)) then 90 else 32, [some (.ref 18), some (.ref 12), some (.int (mk S)), some (.int (nI (sm (fun x => cnt (bH G S x) 10) k))), some (.int (nI k)), none], [], s)) rfl ?_
    refine xQ.brF (decide_eq_false (nI_ge (b := 10) (by omega) (by omega))) ?_
    refine xQ.go 2 (F1 := (35, [some (.ref 18), some (.ref 12), some (.int (mk S)), some (.int (nI (sm (fun x => cnt (bH G S x) 10) k))), some (.int (nI k)), none], [.int (nI k), .int (mk S)], s)) rfl ?_
    refine xQ.call rfl (c_has (show k < 10 by omega)) ?_
    show xQ MX1_start (38, [some (.ref 18), some (.ref 12), some (.int (mk S)), some (.int (nI (sm (fun x => cnt (bH G S x) 10) k))), some (.int (nI k)), none], [.int (if S k then 1 else 0)], s) _
    refine xQ.go 1 (F1 := (bif decide ((if S k then 1 else 0) = 0) then 52 else 41, [some (.ref 18), some (.ref 12), some (.int (mk S)), some (.int (nI (sm (fun x => cnt (bH G S x) 10) k))), some (.int (nI k)), none], [], s)) rfl ?_
    cases hS : S k with
    | false =>
      refine xQ.brT (by decide) ?_
      refine xQ.go 1 (F1 := (53, [some (.ref 18), some (.ref 12), some (.int (mk S)), some (.int (nI (sm (fun x => cnt (bH G S x) 10) k))), some (.int (nI k)), none], [.int 0], s)) rfl ?_
      rw [show (0 : Int32) = mk (bH G S k) by rw [mk_0]; exact mk_ext fun v _ => by simp [bH, hS]] 
      exact com
    | true =>
      refine xQ.brF (by decide) ?_
      refine xQ.go 2 (F1 := (44, [some (.ref 18), some (.ref 12), some (.int (mk S)), some (.int (nI (sm (fun x => cnt (bH G S x) 10) k))), some (.int (nI k)), none], [.int (nI k), .ref 12], s)) rfl ?_
      refine xQ.call rfl (c_at rfl (by omega) (by omega)) ?_
      show xQ MX1_start (47, [some (.ref 18), some (.ref 12), some (.int (mk S)), some (.int (nI (sm (fun x => cnt (bH G S x) 10) k))), some (.int (nI k)), none], [.int (s.1 12 k)], s) _
      refine xQ.go 3 (F1 := (53, [some (.ref 18), some (.ref 12), some (.int (mk S)), some (.int (nI (sm (fun x => cnt (bH G S x) 10) k))), some (.int (nI k)), none], [.int ((s.1 12 k) &&& (mk S))], s)) rfl ?_
      rw [xkq_at i1 12 k, hw k (by omega), mk_and, show mk (fun v => G k v && S v) = mk (bH G S k) from mk_ext fun v _ => by simp [bH, hS]]
      exact com
  · intro s hI
    obtain ⟨i1, i2, i3, i4, i5⟩ := hI
    refine xQ.go 3 (F1 := (bif decide (10 ≤ (nI 10)) then 90 else 32, [some (.ref 18), some (.ref 12), some (.int (mk S)), some (.int (nI (sm (fun x => cnt (bH G S x) 10) 10))), some (.int (nI 10)), none], [], s)) rfl ?_
    refine xQ.brT (rfl) ?_
    refine xQ.go 4 (F1 := (94, [some (.ref 18), some (.ref 12), some (.int (mk S)), some (.int (nI (sm (fun x => cnt (bH G S x) 10) 10))), some (.int (nI 10)), none], [.int ((nI (sm (fun x => cnt (bH G S x) 10) 10)) / 2), .ref 18], s)) rfl ?_
    have he := ec_le hbs hbi
    rw [show nI (sm (fun x => cnt (bH G S x) 10) 10) / 2 = nI (ec (bH G S)) by rw [sm_even hbs hbi 10]; exact i_half he]
    refine xQ.go 1 (F1 := (97, [some (.ref 18), some (.ref 12), some (.int (mk S)), some (.int (nI (sm (fun x => cnt (bH G S x) 10) 10))), some (.int (nI 10)), none], [], (xuI s 18 4 (nI (ec (bH G S)))))) rfl ?_
    refine xQ.vret 1 rfl rfl ?_
    refine ⟨rfl, ⟨fun v hv => ?_, ?_, ?_⟩, ⟨fun v hv => ?_, ?_, ?_⟩, xkq_I (xkq_mono rfl i1) rfl⟩
    · simp [uI1, (i5 v hv).1]
    · simp [uI1, i2]
    · simp [uI1]
    · simp [uI1, (i5 v hv).2]
      exact mk_0
    · simp [uI1, i3]
      exact mk_0
    · simp [uI1, i4]
      rfl

theorem c_start_t {w : xW} {G : Nat → Nat → Bool} {S : Nat → Bool} (hg : gok G) (hw : ∀ v, v < 10 → w.1 26 v = mk (G v)) : xD MX1_start [.ref 32, .ref 26, .int (mk S)] w (fun r w1 => r = none ∧ eG 32 33 w1 (bH G S) S ∧ eP 32 34 w1 (fun _ _ => false) (fun _ => false) 0 ∧ xkq [(32, some 2), (32, some 3), (32, some 4), (32, some 5), (32, some 8), (33, none), (34, none)] w w1) := by
  have hbs : ∀ u v, bH G S u v = bH G S v u := fun u v => by
    show (_ && (_ && _)) = (_ && (_ && _))
    rw [hg.1, Bool.and_comm (S u)]
  have hbi : ∀ v, bH G S v v = false := fun v => by
    show (_ && _) = false
    rw [hg.2.1]
    rfl
  refine xD.of ?_
  show xQ MX1_start (0, [some (.ref 32), some (.ref 26), some (.int (mk S)), none, none, none], [], w) _
  refine xQ.go 16 (F1 := (25, [some (.ref 32), some (.ref 26), some (.int (mk S)), some (.int 0), some (.int 0), none], [], (xuI (xuI (xuI (xuI w 32 2 (mk S)) 32 3 0) 32 5 0) 32 8 0))) rfl ?_
  refine xQ.loop (S := xW) (fun k s => (25, [some (.ref 32), some (.ref 26), some (.int (mk S)), some (.int (nI (sm (fun x => cnt (bH G S x) 10) k))), some (.int (nI k)), none], [], s)) (fun k s => xkq [(32, some 2), (32, some 3), (32, some 5), (32, some 8), (33, none), (34, none)] w s ∧ s.1 32 2 = mk S ∧ s.1 32 3 = 0 ∧ s.1 32 5 = 0 ∧ ∀ v, v < k → s.1 33 v = mk (bH G S v) ∧ s.1 34 v = 0) 10 (xuI (xuI (xuI (xuI w 32 2 (mk S)) 32 3 0) 32 5 0) 32 8 0) (rfl) (⟨xkq_I (xkq_I (xkq_I (xkq_I xkq_rfl rfl) rfl) rfl) rfl, by simp [uI1], by simp [uI1], by simp [uI1], fun v hv => absurd hv (by omega)⟩) ?_ ?_
  · intro k s hk hI K
    obtain ⟨i1, i2, i3, i4, i5⟩ := hI
    have hsm := sm_le10 (f := fun x => cnt (bH G S x) 10) (fun i _ => cnt_le _ _) k (by omega)
    have com : xQ MX1_start (53, [some (.ref 32), some (.ref 26), some (.int (mk S)), some (.int (nI (sm (fun x => cnt (bH G S x) 10) k))), some (.int (nI k)), none], [.int (mk (bH G S k))], s) (fun r w1 => r = none ∧ eG 32 33 w1 (bH G S) S ∧ eP 32 34 w1 (fun _ _ => false) (fun _ => false) 0 ∧ xkq [(32, some 2), (32, some 3), (32, some 4), (32, some 5), (32, some 8), (33, none), (34, none)] w w1) := by
      refine xQ.go 5 (F1 := (63, [some (.ref 32), some (.ref 26), some (.int (mk S)), some (.int (nI (sm (fun x => cnt (bH G S x) 10) k))), some (.int (nI k)), some (.int (mk (bH G S k)))], [.int (mk (bH G S k)), .int (nI k), .ref 33], s)) rfl ?_
      refine xQ.call rfl (c_put rfl (by omega) (by omega)) ?_
      show xQ MX1_start (66, [some (.ref 32), some (.ref 26), some (.int (mk S)), some (.int (nI (sm (fun x => cnt (bH G S x) 10) k))), some (.int (nI k)), some (.int (mk (bH G S k)))], [], (xuI s 33 k (mk (bH G S k)))) _
      refine xQ.go 4 (F1 := (73, [some (.ref 32), some (.ref 26), some (.int (mk S)), some (.int (nI (sm (fun x => cnt (bH G S x) 10) k))), some (.int (nI k)), some (.int (mk (bH G S k)))], [.int 0, .int (nI k), .ref 34], (xuI s 33 k (mk (bH G S k))))) rfl ?_
      refine xQ.call rfl (c_put rfl (by omega) (by omega)) ?_
      show xQ MX1_start (76, [some (.ref 32), some (.ref 26), some (.int (mk S)), some (.int (nI (sm (fun x => cnt (bH G S x) 10) k))), some (.int (nI k)), some (.int (mk (bH G S k)))], [], (xuI (xuI s 33 k (mk (bH G S k))) 34 k 0)) _
      refine xQ.go 2 (F1 := (79, [some (.ref 32), some (.ref 26), some (.int (mk S)), some (.int (nI (sm (fun x => cnt (bH G S x) 10) k))), some (.int (nI k)), some (.int (mk (bH G S k)))], [.int (mk (bH G S k)), .int (nI (sm (fun x => cnt (bH G S x) 10) k))], (xuI (xuI s 33 k (mk (bH G S k))) 34 k 0))) rfl ?_
      refine xQ.call rfl (c_ones) ?_
      show xQ MX1_start (82, [some (.ref 32), some (.ref 26), some (.int (mk S)), some (.int (nI (sm (fun x => cnt (bH G S x) 10) k))), some (.int (nI k)), some (.int (mk (bH G S k)))], [.int (nI (cnt (bH G S k) 10)), .int (nI (sm (fun x => cnt (bH G S x) 10) k))], (xuI (xuI s 33 k (mk (bH G S k))) 34 k 0)) _
      refine xQ.go 4 (F1 := (25, [some (.ref 32), some (.ref 26), some (.int (mk S)), some (.int ((nI (sm (fun x => cnt (bH G S x) 10) k)) + (nI (cnt (bH G S k) 10)))), some (.int ((nI k) + 1)), some (.int (mk (bH G S k)))], [], (xuI (xuI s 33 k (mk (bH G S k))) 34 k 0))) rfl ?_
      rw [jI_add, show sm (fun x => cnt (bH G S x) 10) k + cnt (bH G S k) 10 = sm (fun x => cnt (bH G S x) 10) (k + 1) from rfl, ← nI_succ]
      refine xQ.less [some (.ref 32), some (.ref 26), some (.int (mk S)), some (.int (nI (sm (fun x => cnt (bH G S x) 10) (k + 1)))), some (.int (nI (k + 1))), none] (by simp [xleb]) ?_
      refine K _ ⟨xkq_I (xkq_I i1 rfl) rfl, by simp [uI1, i2], by simp [uI1, i3], by simp [uI1, i4], fun v hv => ?_⟩
      simp only [uI1]
      simp
      by_cases e : v = k
      · rw [e]
        simp
      · simp only [if_neg e]
        exact ⟨(i5 v (by omega)).1, fun _ => (i5 v (by omega)).2⟩
    refine xQ.go 3 (F1 := (bif decide (10 ≤ (nI k)) then 90 else 32, [some (.ref 32), some (.ref 26), some (.int (mk S)), some (.int (nI (sm (fun x => cnt (bH G S x) 10) k))), some (.int (nI k)), none], [], s)) rfl ?_
    refine xQ.brF (decide_eq_false (nI_ge (b := 10) (by omega) (by omega))) ?_
    refine xQ.go 2 (F1 := (35, [some (.ref 32), some (.ref 26), some (.int (mk S)), some (.int (nI (sm (fun x => cnt (bH G S x) 10) k))), some (.int (nI k)), none], [.int (nI k), .int (mk S)], s)) rfl ?_
    refine xQ.call rfl (c_has (show k < 10 by omega)) ?_
    show xQ MX1_start (38, [some (.ref 32), some (.ref 26), some (.int (mk S)), some (.int (nI (sm (fun x => cnt (bH G S x) 10) k))), some (.int (nI k)), none], [.int (if S k then 1 else 0)], s) _
    refine xQ.go 1 (F1 := (bif decide ((if S k then 1 else 0) = 0) then 52 else 41, [some (.ref 32), some (.ref 26), some (.int (mk S)), some (.int (nI (sm (fun x => cnt (bH G S x) 10) k))), some (.int (nI k)), none], [], s)) rfl ?_
    cases hS : S k with
    | false =>
      refine xQ.brT (by decide) ?_
      refine xQ.go 1 (F1 := (53, [some (.ref 32), some (.ref 26), some (.int (mk S)), some (.int (nI (sm (fun x => cnt (bH G S x) 10) k))), some (.int (nI k)), none], [.int 0], s)) rfl ?_
      rw [show (0 : Int32) = mk (bH G S k) by rw [mk_0]; exact mk_ext fun v _ => by simp [bH, hS]] 
      exact com
    | true =>
      refine xQ.brF (by decide) ?_
      refine xQ.go 2 (F1 := (44, [some (.ref 32), some (.ref 26), some (.int (mk S)), some (.int (nI (sm (fun x => cnt (bH G S x) 10) k))), some (.int (nI k)), none], [.int (nI k), .ref 26], s)) rfl ?_
      refine xQ.call rfl (c_at rfl (by omega) (by omega)) ?_
      show xQ MX1_start (47, [some (.ref 32), some (.ref 26), some (.int (mk S)), some (.int (nI (sm (fun x => cnt (bH G S x) 10) k))), some (.int (nI k)), none], [.int (s.1 26 k)], s) _
      refine xQ.go 3 (F1 := (53, [some (.ref 32), some (.ref 26), some (.int (mk S)), some (.int (nI (sm (fun x => cnt (bH G S x) 10) k))), some (.int (nI k)), none], [.int ((s.1 26 k) &&& (mk S))], s)) rfl ?_
      rw [xkq_at i1 26 k, hw k (by omega), mk_and, show mk (fun v => G k v && S v) = mk (bH G S k) from mk_ext fun v _ => by simp [bH, hS]]
      exact com
  · intro s hI
    obtain ⟨i1, i2, i3, i4, i5⟩ := hI
    refine xQ.go 3 (F1 := (bif decide (10 ≤ (nI 10)) then 90 else 32, [some (.ref 32), some (.ref 26), some (.int (mk S)), some (.int (nI (sm (fun x => cnt (bH G S x) 10) 10))), some (.int (nI 10)), none], [], s)) rfl ?_
    refine xQ.brT (rfl) ?_
    refine xQ.go 4 (F1 := (94, [some (.ref 32), some (.ref 26), some (.int (mk S)), some (.int (nI (sm (fun x => cnt (bH G S x) 10) 10))), some (.int (nI 10)), none], [.int ((nI (sm (fun x => cnt (bH G S x) 10) 10)) / 2), .ref 32], s)) rfl ?_
    have he := ec_le hbs hbi
    rw [show nI (sm (fun x => cnt (bH G S x) 10) 10) / 2 = nI (ec (bH G S)) by rw [sm_even hbs hbi 10]; exact i_half he]
    refine xQ.go 1 (F1 := (97, [some (.ref 32), some (.ref 26), some (.int (mk S)), some (.int (nI (sm (fun x => cnt (bH G S x) 10) 10))), some (.int (nI 10)), none], [], (xuI s 32 4 (nI (ec (bH G S)))))) rfl ?_
    refine xQ.vret 1 rfl rfl ?_
    refine ⟨rfl, ⟨fun v hv => ?_, ?_, ?_⟩, ⟨fun v hv => ?_, ?_, ?_⟩, xkq_I (xkq_mono rfl i1) rfl⟩
    · simp [uI1, (i5 v hv).1]
    · simp [uI1, i2]
    · simp [uI1]
    · simp [uI1, (i5 v hv).2]
      exact mk_0
    · simp [uI1, i3]
      exact mk_0
    · simp [uI1, i4]
      rfl
end
section
theorem sm_id : sm (fun x => x) 10 = 45 := rfl
theorem ec_45 (H : Nat → Nat → Bool) : ec H ≤ 45 := by
  have := sm_le (f := fun x => cnt (H x) x) (g := fun x => x) (n := 10) (fun i _ => cnt_le _ _)
  rw [sm_id] at this
  exact this
theorem erun_no {H : Nat → Nat → Bool} {S : Nat → Bool} {m n : Nat} {s : xSg} (h : ¬ s.2.2.2 < m) : erun H S m n s = s := by
  cases n with
  | zero => rfl
  | succ n =>
    show (if _ then _ else _) = _
    rw [if_neg h]
theorem erun_none {H : Nat → Nat → Bool} {S : Nat → Bool} {m n : Nat} {s : xSg} (h : estep H S s = none) : erun H S m n s = s := by
  cases n with
  | zero => rfl
  | succ n =>
    show (if _ then _ else _) = _
    rw [h]
    split <;> rfl
theorem erun_some {H : Nat → Nat → Bool} {S : Nat → Bool} {m n : Nat} {s s1 : xSg} (hlt : s.2.2.2 < m) (h : estep H S s = some s1) : erun H S m (n + 1) s = erun H S m n s1 := by
  show (if _ then _ else _) = _
  rw [h, if_pos hlt]
theorem c_embed_p {w : xW} {G : Nat → Nat → Bool} {S : Nat → Bool} (hg : gok G) (hb : BIC (bH G S) S) (hS : ∀ v, S v = true → v < 10) (h1 : 1 ≤ ec (bH G S)) (hw : ∀ v, v < 10 → w.1 12 v = mk (G v)) : xD MX1_embed [.ref 18, .ref 12, .int (mk S)] w (fun r w1 => r = none ∧ eG 18 19 w1 (bH G S) S ∧ (ec (bH G S) = 1 → w1.1 18 5 = 1 ∧ w1.1 18 8 = 1) ∧ (ec (bH G S) ≠ 1 → eP 18 20 w1 (erun (bH G S) S (ec (bH G S)) 45 (cyc1 (bH G S) S)).1 (erun (bH G S) S (ec (bH G S)) 45 (cyc1 (bH G S) S)).2.1 (erun (bH G S) S (ec (bH G S)) 45 (cyc1 (bH G S) S)).2.2.2 ∧ eF 18 21 22 w1 (erun (bH G S) S (ec (bH G S)) 45 (cyc1 (bH G S) S)).2.2.1) ∧ xkq [(18, none), (19, none), (20, none), (21, none), (22, none), (23, none), (24, none)] w w1) := by
  refine xD.of ?_
  show xQ MX1_embed (0, [some (.ref 18), some (.ref 12), some (.int (mk S)), none, none], [], w) _
  obtain ⟨r1, w1, hc1, hr1, hG1, hP1, hk1⟩ := c_start_p (S := S) hg hw
  subst hr1
  obtain ⟨H, hH⟩ : ∃ H, H = bH G S := ⟨_, rfl⟩
  rw [← hH] at hb h1 hG1 ⊢
  have hk1 : xkq [(18, none), (19, none), (20, none), (21, none), (22, none), (23, none), (24, none)] w w1 := xkq_mono rfl hk1
  have he45 := ec_45 H
  refine xQ.go 3 (F1 := (3, [some (.ref 18), some (.ref 12), some (.int (mk S)), none, none], [.int (mk S), .ref 12, .ref 18], w)) rfl ?_
  refine xQ.call rfl (hc1) ?_
  show xQ MX1_embed (6, [some (.ref 18), some (.ref 12), some (.int (mk S)), none, none], [], w1) _
  by_cases e1 : ec H = 1
  · refine xQ.go 4 (F1 := (bif !decide ((w1.1 18 4) = 1) then 25 else 14, [some (.ref 18), some (.ref 12), some (.int (mk S)), none, none], [], w1)) rfl ?_
    refine xQ.brF (by rw [hG1.2.2, e1]; rfl) ?_
    refine xQ.go 6 (F1 := (24, [some (.ref 18), some (.ref 12), some (.int (mk S)), none, none], [], (xuI (xuI w1 18 5 1) 18 8 1))) rfl ?_
    refine xQ.vret 1 rfl rfl ?_
    refine ⟨rfl, ⟨fun v hv => ?_, ?_, ?_⟩, fun _ => ⟨?_, ?_⟩, fun h => absurd e1 h, xkq_I (xkq_I hk1 rfl) rfl⟩
    · simp [uI1, hG1.1 v hv]
    · simp [uI1, hG1.2.1]
    · simp [uI1, hG1.2.2]
    · simp [uI1]
    · simp [uI1]
  · refine xQ.go 4 (F1 := (bif !decide ((w1.1 18 4) = 1) then 25 else 14, [some (.ref 18), some (.ref 12), some (.int (mk S)), none, none], [], w1)) rfl ?_
    refine xQ.brT (by rw [hG1.2.2, show (1 : Int32) = nI 1 from rfl, decide_eq_false (fun e => e1 (jI_inj (b := 1) (by omega) (by omega) e))]; rfl) ?_
    obtain ⟨r2, w2, hc2, hr2, hP2, hF2, hk2⟩ := c_cycle_p hb hS (by omega) hG1 hP1
    subst hr2
    obtain ⟨_, _, _, _, _, _, _, _, _, _, _, _, _, _, _, _, hEO⟩ := cyc0_ok hb hS (show 2 ≤ ec H by omega)
    refine xQ.go 1 (F1 := (26, [some (.ref 18), some (.ref 12), some (.int (mk S)), none, none], [.ref 18], w1)) rfl ?_
    refine xQ.call rfl (hc2) ?_
    show xQ MX1_embed (29, [some (.ref 18), some (.ref 12), some (.int (mk S)), none, none], [.int 1], w2) _
    refine xQ.go 3 (F1 := (33, [some (.ref 18), some (.ref 12), some (.int (mk S)), some (.int 1), some (.int 0)], [], w2)) rfl ?_
    have hG2 : eG 18 19 w2 H S := ⟨fun v hv => by rw [xkq_at hk2 19 v]; exact hG1.1 v hv, by rw [xkq_at hk2 18 2]; exact hG1.2.1, by rw [xkq_at hk2 18 4]; exact hG1.2.2⟩
    obtain ⟨fin, hfin⟩ : ∃ fin, fin = erun H S (ec H) 45 (cyc1 H S) := ⟨_, rfl⟩
    rw [← hfin]
    have done : ∀ (w3 : xW) (x y : Int32), eG 18 19 w3 H S → eP 18 20 w3 fin.1 fin.2.1 fin.2.2.2 → eF 18 21 22 w3 fin.2.2.1 → xkq [(18, none), (19, none), (20, none), (21, none), (22, none), (23, none), (24, none)] w w3 → xQ MX1_embed (89, [some (.ref 18), some (.ref 12), some (.int (mk S)), some (.int x), some (.int y)], [], w3) (fun r w1 => r = none ∧ eG 18 19 w1 H S ∧ (ec H = 1 → w1.1 18 5 = 1 ∧ w1.1 18 8 = 1) ∧ (ec H ≠ 1 → eP 18 20 w1 fin.1 fin.2.1 fin.2.2.2 ∧ eF 18 21 22 w1 fin.2.2.1) ∧ xkq [(18, none), (19, none), (20, none), (21, none), (22, none), (23, none), (24, none)] w w1) := by
      intro w3 x y d1 d2 d3 d4
      refine xQ.vret 1 rfl rfl ?_
      exact ⟨rfl, d1, fun h => absurd h e1, fun _ => ⟨d2, d3⟩, d4⟩
    refine xQ.loop (S := xW × xSg × Bool) (fun k s => (33, [some (.ref 18), some (.ref 12), some (.int (mk S)), some (.int (bif s.2.2 then 1 else 0)), some (.int (nI k))], [], s.1)) (fun k s => eG 18 19 s.1 H S ∧ eP 18 20 s.1 s.2.1.1 s.2.1.2.1 s.2.1.2.2.2 ∧ eF 18 21 22 s.1 s.2.1.2.2.1 ∧ EOK H S s.2.1 ∧ (s.2.2 = true → erun H S (ec H) (45 - k) s.2.1 = fin) ∧ (s.2.2 = false → s.2.1 = fin) ∧ xkq [(18, none), (19, none), (20, none), (21, none), (22, none), (23, none), (24, none)] w s.1) 45 (w2, cyc1 H S, true) (rfl) (⟨hG2, hP2, hF2, hEO, fun _ => hfin.symm, (fun h => by cases h), xkq_trans hk1 (xkq_mono rfl hk2)⟩) ?_ ?_
    · intro k s hk hI K
      obtain ⟨w3, sg, g⟩ := s
      obtain ⟨i1, i2, i3, i4, i5, i6, i7⟩ := hI
      refine xQ.go 3 (F1 := (bif decide (45 ≤ (nI k)) then 89 else 40, [some (.ref 18), some (.ref 12), some (.int (mk S)), some (.int (bif g then 1 else 0)), some (.int (nI k))], [], w3)) rfl ?_
      refine xQ.brF (decide_eq_false (nI_ge (b := 45) (by omega) (by omega))) ?_
      cases g with
      | false =>
        show xQ MX1_embed (40, [some (.ref 18), some (.ref 12), some (.int (mk S)), some (.int 0), some (.int (nI k))], [], w3) _
        refine xQ.go 2 (F1 := (bif decide (0 = 0) then 89 else 44, [some (.ref 18), some (.ref 12), some (.int (mk S)), some (.int 0), some (.int (nI k))], [], w3)) rfl ?_
        refine xQ.brT (rfl) ?_
        have i6 : sg = fin := i6 rfl
        subst i6
        exact done w3 _ _ i1 i2 i3 i7
      | true =>
        have i5 := i5 rfl
        show xQ MX1_embed (40, [some (.ref 18), some (.ref 12), some (.int (mk S)), some (.int 1), some (.int (nI k))], [], w3) _
        refine xQ.go 2 (F1 := (bif decide (1 = 0) then 89 else 44, [some (.ref 18), some (.ref 12), some (.int (mk S)), some (.int 1), some (.int (nI k))], [], w3)) rfl ?_
        refine xQ.brF (rfl) ?_
        have hle : sg.2.2.2 ≤ ec H := EOK_le hb i4
        by_cases hlt : sg.2.2.2 < ec H
        · refine xQ.go 5 (F1 := (bif decide ((w3.1 18 4) ≤ (w3.1 18 5)) then 89 else 55, [some (.ref 18), some (.ref 12), some (.int (mk S)), some (.int 1), some (.int (nI k))], [], w3)) rfl ?_
          refine xQ.brF (by rw [i1.2.2, i2.2.2]; exact decide_eq_false (nI_ge hlt (by omega))) ?_
          obtain ⟨r4, w4, hc4, hr4, hC4, hk4⟩ := c_choose_p hb i1 i2 i3 (EOK_max i4).1
          subst hr4
          have q1 : eG 18 19 w4 H S := ⟨fun v hv => by rw [xkq_at hk4 19 v]; exact i1.1 v hv, by rw [xkq_at hk4 18 2]; exact i1.2.1, by rw [xkq_at hk4 18 4]; exact i1.2.2⟩
          have q2 : eP 18 20 w4 sg.1 sg.2.1 sg.2.2.2 := ⟨fun v hv => by rw [xkq_at hk4 20 v]; exact i2.1 v hv, by rw [xkq_at hk4 18 3]; exact i2.2.1, by rw [xkq_at hk4 18 5]; exact i2.2.2⟩
          have q3 : eF 18 21 22 w4 sg.2.2.1 := ⟨by rw [xkq_at hk4 18 8]; exact i3.1, fun i c hi => ⟨by rw [xkq_at hk4 21 i]; exact (i3.2 i c hi).1, fun x y hxy => by rw [xkq_at hk4 22 _]; exact (i3.2 i c hi).2 x y hxy⟩⟩
          refine xQ.go 1 (F1 := (56, [some (.ref 18), some (.ref 12), some (.int (mk S)), some (.int 1), some (.int (nI k))], [.ref 18], w3)) rfl ?_
          refine xQ.call rfl (hc4) ?_
          show xQ MX1_embed (59, [some (.ref 18), some (.ref 12), some (.int (mk S)), some (.int 1), some (.int (nI k))], [.int (if (chs sg.2.2.1 (frs H S sg.1 sg.2.1 100)).isSome then 1 else 0)], w4) _
          cases hch : chs sg.2.2.1 (frs H S sg.1 sg.2.1 100) with
          | none =>
            show xQ MX1_embed (59, [some (.ref 18), some (.ref 12), some (.int (mk S)), some (.int 1), some (.int (nI k))], [.int 0], w4) _
            refine xQ.go 1 (F1 := (bif decide (0 = 0) then 73 else 62, [some (.ref 18), some (.ref 12), some (.int (mk S)), some (.int 1), some (.int (nI k))], [], w4)) rfl ?_
            refine xQ.brT (rfl) ?_
            refine xQ.go 2 (F1 := (75, [some (.ref 18), some (.ref 12), some (.int (mk S)), some (.int 0), some (.int (nI k))], [], w4)) rfl ?_
            refine xQ.go 2 (F1 := (bif decide (0 = 0) then 83 else 79, [some (.ref 18), some (.ref 12), some (.int (mk S)), some (.int 0), some (.int (nI k))], [], w4)) rfl ?_
            refine xQ.brT (rfl) ?_
            refine xQ.go 2 (F1 := (33, [some (.ref 18), some (.ref 12), some (.int (mk S)), some (.int 0), some (.int ((nI k) + 1))], [], w4)) rfl ?_
            rw [← nI_succ]
            have hst : estep H S sg = none := by
              unfold estep
              rw [hch]
            rw [erun_none hst] at i5
            exact K (w4, sg, false) ⟨q1, q2, q3, i4, (fun h => by cases h), fun _ => i5, xkq_trans i7 (xkq_mono rfl hk4)⟩
          | some q =>
            have hC4 := hC4 q hch
            obtain ⟨u, inn, z, f, A, B, xs, ys, s1, s2, s3, s4, s5, s6, s7, s8, s9⟩ := estep_ok hb hS i4 hch
            show xQ MX1_embed (59, [some (.ref 18), some (.ref 12), some (.int (mk S)), some (.int 1), some (.int (nI k))], [.int 1], w4) _
            refine xQ.go 1 (F1 := (bif decide (1 = 0) then 73 else 62, [some (.ref 18), some (.ref 12), some (.int (mk S)), some (.int 1), some (.int (nI k))], [], w4)) rfl ?_
            refine xQ.brF (rfl) ?_
            have hfo := frs_ok hb (P := sg.1) (PV := sg.2.1) 100 (Nat.le_refl _) q (chs_mem hch).1
            obtain ⟨r5, w5, hc5, hr5, hL5, hk5⟩ := c_cpath_p hb q1 hC4 hfo s1
            subst hr5
            refine xQ.go 1 (F1 := (63, [some (.ref 18), some (.ref 12), some (.int (mk S)), some (.int 1), some (.int (nI k))], [.ref 18], w4)) rfl ?_
            refine xQ.call rfl (hc5) ?_
            show xQ MX1_embed (66, [some (.ref 18), some (.ref 12), some (.int (mk S)), some (.int 1), some (.int (nI k))], [.int 1], w5) _
            refine xQ.go 1 (F1 := (bif decide (1 = 0) then 73 else 69, [some (.ref 18), some (.ref 12), some (.int (mk S)), some (.int 1), some (.int (nI k))], [], w5)) rfl ?_
            refine xQ.brF (rfl) ?_
            refine xQ.go 3 (F1 := (75, [some (.ref 18), some (.ref 12), some (.int (mk S)), some (.int 1), some (.int (nI k))], [], w5)) rfl ?_
            refine xQ.go 2 (F1 := (bif decide (1 = 0) then 83 else 79, [some (.ref 18), some (.ref 12), some (.int (mk S)), some (.int 1), some (.int (nI k))], [], w5)) rfl ?_
            refine xQ.brF (rfl) ?_
            have t1 : eG 18 19 w5 H S := ⟨fun v hv => by rw [xkq_at hk5 19 v]; exact q1.1 v hv, by rw [xkq_at hk5 18 2]; exact q1.2.1, by rw [xkq_at hk5 18 4]; exact q1.2.2⟩
            have t2 : eP 18 20 w5 sg.1 sg.2.1 sg.2.2.2 := ⟨fun v hv => by rw [xkq_at hk5 20 v]; exact q2.1 v hv, by rw [xkq_at hk5 18 3]; exact q2.2.1, by rw [xkq_at hk5 18 5]; exact q2.2.2⟩
            have t3 : eF 18 21 22 w5 sg.2.2.1 := ⟨by rw [xkq_at hk5 18 8]; exact q3.1, fun i c hi => ⟨by rw [xkq_at hk5 21 i]; exact (q3.2 i c hi).1, fun x y hxy => by rw [xkq_at hk5 22 _]; exact (q3.2 i c hi).2 x y hxy⟩⟩
            have hpth : pth H q = u :: inn ++ [z] := s1.1
            rw [hpth] at hL5
            have hIV := i4.1
            have hfm : f ∈ sg.2.2.1 := List.mem_of_getElem? s2
            have hff := hIV.2.2.2.1 f hfm
            have hPV10 : ∀ v, sg.2.1 v = true → v < 10 := fun v hv => hS v (hIV.2.2.1 v hv)
            have hrot : u :: xs ++ z :: ys = (u :: B) ++ A := by rw [List.cons_append, List.cons_append, s6]
            have hmem : ∀ v, v ∈ f ↔ v ∈ u :: xs ++ z :: ys := fun v => by
              rw [hrot, s3]
              simp only [List.mem_append]
              exact or_comm
            have hfn : (u :: xs ++ z :: ys).Nodup := by
              rw [hrot]
              have := hff.1
              rw [s3] at this
              exact (List.perm_append_comm.nodup_iff).mp this
            have hmx := EOK_max s9
            have hlen : sg.2.2.1.length < 16 := by
              have := hmx.1
              simp only [List.length_append, List.length_set, List.length_cons, List.length_nil] at this
              omega
            have hPu : sg.2.1 u = true := hff.2.2 u ((hmem u).mpr (by simp))
            have hPz : sg.2.1 z = true := hff.2.2 z ((hmem z).mpr (by simp))
            obtain ⟨r6, w6, hc6, hr6, hP6, hF6, hk6⟩ := c_split_p t2 t3 hL5 ((xkq_at hk5 18 11).trans hC4.2.2.1) hlen s2 hmem (fun q => by rw [hrot, s3]; exact dts_rot A (u :: B) q) hfn (fun v hv => hPV10 v (hff.2.2 v ((hmem v).mpr hv))) s1.2.2.2.2.2.2.2.1 (fun v hv => ⟨(s1.2.2.2.2.2.2.2.2.1 v hv).1, fun h => by
              have h2 := hff.2.2 v ((hmem v).mpr h)
              rw [(s1.2.2.2.2.2.2.2.2.1 v hv).2.1] at h2
              cases h2⟩) hPu (fun g hg x hx => hPV10 x ((hIV.2.2.2.1 g hg).2.2 x hx))
            subst hr6
            refine xQ.go 1 (F1 := (80, [some (.ref 18), some (.ref 12), some (.int (mk S)), some (.int 1), some (.int (nI k))], [.ref 18], w5)) rfl ?_
            refine xQ.call rfl (hc6) ?_
            show xQ MX1_embed (83, [some (.ref 18), some (.ref 12), some (.int (mk S)), some (.int 1), some (.int (nI k))], [], w6) _
            refine xQ.go 2 (F1 := (33, [some (.ref 18), some (.ref 12), some (.int (mk S)), some (.int 1), some (.int ((nI k) + 1))], [], w6)) rfl ?_
            rw [← nI_succ]
            have hn45 : 45 - k = (45 - (k + 1)) + 1 := by omega
            rw [hn45, erun_some hlt s8] at i5
            refine K (w6, (addP sg.1 (u :: inn ++ [z]), addV sg.2.1 inn, sg.2.2.1.set (ffit q.2 sg.2.2.1) (u :: xs ++ z :: inn.reverse) ++ [z :: ys ++ u :: inn], sg.2.2.2 + inn.length + 1), true) ⟨⟨fun v hv => by rw [xkq_at hk6 19 v]; exact t1.1 v hv, by rw [xkq_at hk6 18 2]; exact t1.2.1, by rw [xkq_at hk6 18 4]; exact t1.2.2⟩, ⟨hP6.1, ?_, ?_⟩, hF6, s9, fun _ => i5, (fun h => by cases h), xkq_trans i7 (xkq_trans (xkq_mono rfl hk4) (xkq_trans (xkq_mono rfl hk5) (xkq_mono rfl hk6)))⟩
            · rw [hP6.2.1]
              refine mk_ext fun v _ => Bool.eq_iff_iff.mpr ?_
              rw [addV_iff, addV_iff]
              simp only [List.cons_append, List.mem_cons, List.mem_append, List.not_mem_nil, or_false]
              constructor
              · rintro (h | h | h | h)
                · exact Or.inl h
                · rw [h]; exact Or.inl hPu
                · exact Or.inr h
                · rw [h]; exact Or.inl hPz
              · rintro (h | h)
                · exact Or.inl h
                · exact Or.inr (Or.inr (Or.inl h))
            · exact hP6.2.2
        · refine xQ.go 5 (F1 := (bif decide ((w3.1 18 4) ≤ (w3.1 18 5)) then 89 else 55, [some (.ref 18), some (.ref 12), some (.int (mk S)), some (.int 1), some (.int (nI k))], [], w3)) rfl ?_
          refine xQ.brT (by rw [i1.2.2, show w3.1 18 5 = nI sg.2.2.2 from i2.2.2]; exact decide_eq_true (nI_le (by omega) (by omega))) ?_
          rw [erun_no hlt] at i5
          subst i5
          exact done w3 _ _ i1 i2 i3 i7
    · intro s hI
      obtain ⟨w3, sg, g⟩ := s
      obtain ⟨i1, i2, i3, i4, i5, i6, i7⟩ := hI
      have hsf : sg = fin := by
        cases g with
        | false => exact i6 rfl
        | true => exact i5 rfl
      subst hsf
      refine xQ.go 3 (F1 := (bif decide (45 ≤ (nI 45)) then 89 else 40, [some (.ref 18), some (.ref 12), some (.int (mk S)), some (.int (bif g then 1 else 0)), some (.int (nI 45))], [], w3)) rfl ?_
      refine xQ.brT (rfl) ?_
      exact done w3 _ _ i1 i2 i3 i7

theorem c_embed_t {w : xW} {G : Nat → Nat → Bool} {S : Nat → Bool} (hg : gok G) (hb : BIC (bH G S) S) (hS : ∀ v, S v = true → v < 10) (h1 : 1 ≤ ec (bH G S)) (hw : ∀ v, v < 10 → w.1 26 v = mk (G v)) : xD MX1_embed [.ref 32, .ref 26, .int (mk S)] w (fun r w1 => r = none ∧ eG 32 33 w1 (bH G S) S ∧ (ec (bH G S) = 1 → w1.1 32 5 = 1 ∧ w1.1 32 8 = 1) ∧ (ec (bH G S) ≠ 1 → eP 32 34 w1 (erun (bH G S) S (ec (bH G S)) 45 (cyc1 (bH G S) S)).1 (erun (bH G S) S (ec (bH G S)) 45 (cyc1 (bH G S) S)).2.1 (erun (bH G S) S (ec (bH G S)) 45 (cyc1 (bH G S) S)).2.2.2 ∧ eF 32 35 36 w1 (erun (bH G S) S (ec (bH G S)) 45 (cyc1 (bH G S) S)).2.2.1) ∧ xkq [(32, none), (33, none), (34, none), (35, none), (36, none), (37, none), (38, none)] w w1) := by
  refine xD.of ?_
  show xQ MX1_embed (0, [some (.ref 32), some (.ref 26), some (.int (mk S)), none, none], [], w) _
  obtain ⟨r1, w1, hc1, hr1, hG1, hP1, hk1⟩ := c_start_t (S := S) hg hw
  subst hr1
  obtain ⟨H, hH⟩ : ∃ H, H = bH G S := ⟨_, rfl⟩
  rw [← hH] at hb h1 hG1 ⊢
  have hk1 : xkq [(32, none), (33, none), (34, none), (35, none), (36, none), (37, none), (38, none)] w w1 := xkq_mono rfl hk1
  have he45 := ec_45 H
  refine xQ.go 3 (F1 := (3, [some (.ref 32), some (.ref 26), some (.int (mk S)), none, none], [.int (mk S), .ref 26, .ref 32], w)) rfl ?_
  refine xQ.call rfl (hc1) ?_
  show xQ MX1_embed (6, [some (.ref 32), some (.ref 26), some (.int (mk S)), none, none], [], w1) _
  by_cases e1 : ec H = 1
  · refine xQ.go 4 (F1 := (bif !decide ((w1.1 32 4) = 1) then 25 else 14, [some (.ref 32), some (.ref 26), some (.int (mk S)), none, none], [], w1)) rfl ?_
    refine xQ.brF (by rw [hG1.2.2, e1]; rfl) ?_
    refine xQ.go 6 (F1 := (24, [some (.ref 32), some (.ref 26), some (.int (mk S)), none, none], [], (xuI (xuI w1 32 5 1) 32 8 1))) rfl ?_
    refine xQ.vret 1 rfl rfl ?_
    refine ⟨rfl, ⟨fun v hv => ?_, ?_, ?_⟩, fun _ => ⟨?_, ?_⟩, fun h => absurd e1 h, xkq_I (xkq_I hk1 rfl) rfl⟩
    · simp [uI1, hG1.1 v hv]
    · simp [uI1, hG1.2.1]
    · simp [uI1, hG1.2.2]
    · simp [uI1]
    · simp [uI1]
  · refine xQ.go 4 (F1 := (bif !decide ((w1.1 32 4) = 1) then 25 else 14, [some (.ref 32), some (.ref 26), some (.int (mk S)), none, none], [], w1)) rfl ?_
    refine xQ.brT (by rw [hG1.2.2, show (1 : Int32) = nI 1 from rfl, decide_eq_false (fun e => e1 (jI_inj (b := 1) (by omega) (by omega) e))]; rfl) ?_
    obtain ⟨r2, w2, hc2, hr2, hP2, hF2, hk2⟩ := c_cycle_t hb hS (by omega) hG1 hP1
    subst hr2
    obtain ⟨_, _, _, _, _, _, _, _, _, _, _, _, _, _, _, _, hEO⟩ := cyc0_ok hb hS (show 2 ≤ ec H by omega)
    refine xQ.go 1 (F1 := (26, [some (.ref 32), some (.ref 26), some (.int (mk S)), none, none], [.ref 32], w1)) rfl ?_
    refine xQ.call rfl (hc2) ?_
    show xQ MX1_embed (29, [some (.ref 32), some (.ref 26), some (.int (mk S)), none, none], [.int 1], w2) _
    refine xQ.go 3 (F1 := (33, [some (.ref 32), some (.ref 26), some (.int (mk S)), some (.int 1), some (.int 0)], [], w2)) rfl ?_
    have hG2 : eG 32 33 w2 H S := ⟨fun v hv => by rw [xkq_at hk2 33 v]; exact hG1.1 v hv, by rw [xkq_at hk2 32 2]; exact hG1.2.1, by rw [xkq_at hk2 32 4]; exact hG1.2.2⟩
    obtain ⟨fin, hfin⟩ : ∃ fin, fin = erun H S (ec H) 45 (cyc1 H S) := ⟨_, rfl⟩
    rw [← hfin]
    have done : ∀ (w3 : xW) (x y : Int32), eG 32 33 w3 H S → eP 32 34 w3 fin.1 fin.2.1 fin.2.2.2 → eF 32 35 36 w3 fin.2.2.1 → xkq [(32, none), (33, none), (34, none), (35, none), (36, none), (37, none), (38, none)] w w3 → xQ MX1_embed (89, [some (.ref 32), some (.ref 26), some (.int (mk S)), some (.int x), some (.int y)], [], w3) (fun r w1 => r = none ∧ eG 32 33 w1 H S ∧ (ec H = 1 → w1.1 32 5 = 1 ∧ w1.1 32 8 = 1) ∧ (ec H ≠ 1 → eP 32 34 w1 fin.1 fin.2.1 fin.2.2.2 ∧ eF 32 35 36 w1 fin.2.2.1) ∧ xkq [(32, none), (33, none), (34, none), (35, none), (36, none), (37, none), (38, none)] w w1) := by
      intro w3 x y d1 d2 d3 d4
      refine xQ.vret 1 rfl rfl ?_
      exact ⟨rfl, d1, fun h => absurd h e1, fun _ => ⟨d2, d3⟩, d4⟩
    refine xQ.loop (S := xW × xSg × Bool) (fun k s => (33, [some (.ref 32), some (.ref 26), some (.int (mk S)), some (.int (bif s.2.2 then 1 else 0)), some (.int (nI k))], [], s.1)) (fun k s => eG 32 33 s.1 H S ∧ eP 32 34 s.1 s.2.1.1 s.2.1.2.1 s.2.1.2.2.2 ∧ eF 32 35 36 s.1 s.2.1.2.2.1 ∧ EOK H S s.2.1 ∧ (s.2.2 = true → erun H S (ec H) (45 - k) s.2.1 = fin) ∧ (s.2.2 = false → s.2.1 = fin) ∧ xkq [(32, none), (33, none), (34, none), (35, none), (36, none), (37, none), (38, none)] w s.1) 45 (w2, cyc1 H S, true) (rfl) (⟨hG2, hP2, hF2, hEO, fun _ => hfin.symm, (fun h => by cases h), xkq_trans hk1 (xkq_mono rfl hk2)⟩) ?_ ?_
    · intro k s hk hI K
      obtain ⟨w3, sg, g⟩ := s
      obtain ⟨i1, i2, i3, i4, i5, i6, i7⟩ := hI
      refine xQ.go 3 (F1 := (bif decide (45 ≤ (nI k)) then 89 else 40, [some (.ref 32), some (.ref 26), some (.int (mk S)), some (.int (bif g then 1 else 0)), some (.int (nI k))], [], w3)) rfl ?_
      refine xQ.brF (decide_eq_false (nI_ge (b := 45) (by omega) (by omega))) ?_
      cases g with
      | false =>
        show xQ MX1_embed (40, [some (.ref 32), some (.ref 26), some (.int (mk S)), some (.int 0), some (.int (nI k))], [], w3) _
        refine xQ.go 2 (F1 := (bif decide (0 = 0) then 89 else 44, [some (.ref 32), some (.ref 26), some (.int (mk S)), some (.int 0), some (.int (nI k))], [], w3)) rfl ?_
        refine xQ.brT (rfl) ?_
        have i6 : sg = fin := i6 rfl
        subst i6
        exact done w3 _ _ i1 i2 i3 i7
      | true =>
        have i5 := i5 rfl
        show xQ MX1_embed (40, [some (.ref 32), some (.ref 26), some (.int (mk S)), some (.int 1), some (.int (nI k))], [], w3) _
        refine xQ.go 2 (F1 := (bif decide (1 = 0) then 89 else 44, [some (.ref 32), some (.ref 26), some (.int (mk S)), some (.int 1), some (.int (nI k))], [], w3)) rfl ?_
        refine xQ.brF (rfl) ?_
        have hle : sg.2.2.2 ≤ ec H := EOK_le hb i4
        by_cases hlt : sg.2.2.2 < ec H
        · refine xQ.go 5 (F1 := (bif decide ((w3.1 32 4) ≤ (w3.1 32 5)) then 89 else 55, [some (.ref 32), some (.ref 26), some (.int (mk S)), some (.int 1), some (.int (nI k))], [], w3)) rfl ?_
          refine xQ.brF (by rw [i1.2.2, i2.2.2]; exact decide_eq_false (nI_ge hlt (by omega))) ?_
          obtain ⟨r4, w4, hc4, hr4, hC4, hk4⟩ := c_choose_t hb i1 i2 i3 (EOK_max i4).1
          subst hr4
          have q1 : eG 32 33 w4 H S := ⟨fun v hv => by rw [xkq_at hk4 33 v]; exact i1.1 v hv, by rw [xkq_at hk4 32 2]; exact i1.2.1, by rw [xkq_at hk4 32 4]; exact i1.2.2⟩
          have q2 : eP 32 34 w4 sg.1 sg.2.1 sg.2.2.2 := ⟨fun v hv => by rw [xkq_at hk4 34 v]; exact i2.1 v hv, by rw [xkq_at hk4 32 3]; exact i2.2.1, by rw [xkq_at hk4 32 5]; exact i2.2.2⟩
          have q3 : eF 32 35 36 w4 sg.2.2.1 := ⟨by rw [xkq_at hk4 32 8]; exact i3.1, fun i c hi => ⟨by rw [xkq_at hk4 35 i]; exact (i3.2 i c hi).1, fun x y hxy => by rw [xkq_at hk4 36 _]; exact (i3.2 i c hi).2 x y hxy⟩⟩
          refine xQ.go 1 (F1 := (56, [some (.ref 32), some (.ref 26), some (.int (mk S)), some (.int 1), some (.int (nI k))], [.ref 32], w3)) rfl ?_
          refine xQ.call rfl (hc4) ?_
          show xQ MX1_embed (59, [some (.ref 32), some (.ref 26), some (.int (mk S)), some (.int 1), some (.int (nI k))], [.int (if (chs sg.2.2.1 (frs H S sg.1 sg.2.1 100)).isSome then 1 else 0)], w4) _
          cases hch : chs sg.2.2.1 (frs H S sg.1 sg.2.1 100) with
          | none =>
            show xQ MX1_embed (59, [some (.ref 32), some (.ref 26), some (.int (mk S)), some (.int 1), some (.int (nI k))], [.int 0], w4) _
            refine xQ.go 1 (F1 := (bif decide (0 = 0) then 73 else 62, [some (.ref 32), some (.ref 26), some (.int (mk S)), some (.int 1), some (.int (nI k))], [], w4)) rfl ?_
            refine xQ.brT (rfl) ?_
            refine xQ.go 2 (F1 := (75, [some (.ref 32), some (.ref 26), some (.int (mk S)), some (.int 0), some (.int (nI k))], [], w4)) rfl ?_
            refine xQ.go 2 (F1 := (bif decide (0 = 0) then 83 else 79, [some (.ref 32), some (.ref 26), some (.int (mk S)), some (.int 0), some (.int (nI k))], [], w4)) rfl ?_
            refine xQ.brT (rfl) ?_
            refine xQ.go 2 (F1 := (33, [some (.ref 32), some (.ref 26), some (.int (mk S)), some (.int 0), some (.int ((nI k) + 1))], [], w4)) rfl ?_
            rw [← nI_succ]
            have hst : estep H S sg = none := by
              unfold estep
              rw [hch]
            rw [erun_none hst] at i5
            exact K (w4, sg, false) ⟨q1, q2, q3, i4, (fun h => by cases h), fun _ => i5, xkq_trans i7 (xkq_mono rfl hk4)⟩
          | some q =>
            have hC4 := hC4 q hch
            obtain ⟨u, inn, z, f, A, B, xs, ys, s1, s2, s3, s4, s5, s6, s7, s8, s9⟩ := estep_ok hb hS i4 hch
            show xQ MX1_embed (59, [some (.ref 32), some (.ref 26), some (.int (mk S)), some (.int 1), some (.int (nI k))], [.int 1], w4) _
            refine xQ.go 1 (F1 := (bif decide (1 = 0) then 73 else 62, [some (.ref 32), some (.ref 26), some (.int (mk S)), some (.int 1), some (.int (nI k))], [], w4)) rfl ?_
            refine xQ.brF (rfl) ?_
            have hfo := frs_ok hb (P := sg.1) (PV := sg.2.1) 100 (Nat.le_refl _) q (chs_mem hch).1
            obtain ⟨r5, w5, hc5, hr5, hL5, hk5⟩ := c_cpath_t hb q1 hC4 hfo s1
            subst hr5
            refine xQ.go 1 (F1 := (63, [some (.ref 32), some (.ref 26), some (.int (mk S)), some (.int 1), some (.int (nI k))], [.ref 32], w4)) rfl ?_
            refine xQ.call rfl (hc5) ?_
            show xQ MX1_embed (66, [some (.ref 32), some (.ref 26), some (.int (mk S)), some (.int 1), some (.int (nI k))], [.int 1], w5) _
            refine xQ.go 1 (F1 := (bif decide (1 = 0) then 73 else 69, [some (.ref 32), some (.ref 26), some (.int (mk S)), some (.int 1), some (.int (nI k))], [], w5)) rfl ?_
            refine xQ.brF (rfl) ?_
            refine xQ.go 3 (F1 := (75, [some (.ref 32), some (.ref 26), some (.int (mk S)), some (.int 1), some (.int (nI k))], [], w5)) rfl ?_
            refine xQ.go 2 (F1 := (bif decide (1 = 0) then 83 else 79, [some (.ref 32), some (.ref 26), some (.int (mk S)), some (.int 1), some (.int (nI k))], [], w5)) rfl ?_
            refine xQ.brF (rfl) ?_
            have t1 : eG 32 33 w5 H S := ⟨fun v hv => by rw [xkq_at hk5 33 v]; exact q1.1 v hv, by rw [xkq_at hk5 32 2]; exact q1.2.1, by rw [xkq_at hk5 32 4]; exact q1.2.2⟩
            have t2 : eP 32 34 w5 sg.1 sg.2.1 sg.2.2.2 := ⟨fun v hv => by rw [xkq_at hk5 34 v]; exact q2.1 v hv, by rw [xkq_at hk5 32 3]; exact q2.2.1, by rw [xkq_at hk5 32 5]; exact q2.2.2⟩
            have t3 : eF 32 35 36 w5 sg.2.2.1 := ⟨by rw [xkq_at hk5 32 8]; exact q3.1, fun i c hi => ⟨by rw [xkq_at hk5 35 i]; exact (q3.2 i c hi).1, fun x y hxy => by rw [xkq_at hk5 36 _]; exact (q3.2 i c hi).2 x y hxy⟩⟩
            have hpth : pth H q = u :: inn ++ [z] := s1.1
            rw [hpth] at hL5
            have hIV := i4.1
            have hfm : f ∈ sg.2.2.1 := List.mem_of_getElem? s2
            have hff := hIV.2.2.2.1 f hfm
            have hPV10 : ∀ v, sg.2.1 v = true → v < 10 := fun v hv => hS v (hIV.2.2.1 v hv)
            have hrot : u :: xs ++ z :: ys = (u :: B) ++ A := by rw [List.cons_append, List.cons_append, s6]
            have hmem : ∀ v, v ∈ f ↔ v ∈ u :: xs ++ z :: ys := fun v => by
              rw [hrot, s3]
              simp only [List.mem_append]
              exact or_comm
            have hfn : (u :: xs ++ z :: ys).Nodup := by
              rw [hrot]
              have := hff.1
              rw [s3] at this
              exact (List.perm_append_comm.nodup_iff).mp this
            have hmx := EOK_max s9
            have hlen : sg.2.2.1.length < 16 := by
              have := hmx.1
              simp only [List.length_append, List.length_set, List.length_cons, List.length_nil] at this
              omega
            have hPu : sg.2.1 u = true := hff.2.2 u ((hmem u).mpr (by simp))
            have hPz : sg.2.1 z = true := hff.2.2 z ((hmem z).mpr (by simp))
            obtain ⟨r6, w6, hc6, hr6, hP6, hF6, hk6⟩ := c_split_t t2 t3 hL5 ((xkq_at hk5 32 11).trans hC4.2.2.1) hlen s2 hmem (fun q => by rw [hrot, s3]; exact dts_rot A (u :: B) q) hfn (fun v hv => hPV10 v (hff.2.2 v ((hmem v).mpr hv))) s1.2.2.2.2.2.2.2.1 (fun v hv => ⟨(s1.2.2.2.2.2.2.2.2.1 v hv).1, fun h => by
              have h2 := hff.2.2 v ((hmem v).mpr h)
              rw [(s1.2.2.2.2.2.2.2.2.1 v hv).2.1] at h2
              cases h2⟩) hPu (fun g hg x hx => hPV10 x ((hIV.2.2.2.1 g hg).2.2 x hx))
            subst hr6
            refine xQ.go 1 (F1 := (80, [some (.ref 32), some (.ref 26), some (.int (mk S)), some (.int 1), some (.int (nI k))], [.ref 32], w5)) rfl ?_
            refine xQ.call rfl (hc6) ?_
            show xQ MX1_embed (83, [some (.ref 32), some (.ref 26), some (.int (mk S)), some (.int 1), some (.int (nI k))], [], w6) _
            refine xQ.go 2 (F1 := (33, [some (.ref 32), some (.ref 26), some (.int (mk S)), some (.int 1), some (.int ((nI k) + 1))], [], w6)) rfl ?_
            rw [← nI_succ]
            have hn45 : 45 - k = (45 - (k + 1)) + 1 := by omega
            rw [hn45, erun_some hlt s8] at i5
            refine K (w6, (addP sg.1 (u :: inn ++ [z]), addV sg.2.1 inn, sg.2.2.1.set (ffit q.2 sg.2.2.1) (u :: xs ++ z :: inn.reverse) ++ [z :: ys ++ u :: inn], sg.2.2.2 + inn.length + 1), true) ⟨⟨fun v hv => by rw [xkq_at hk6 33 v]; exact t1.1 v hv, by rw [xkq_at hk6 32 2]; exact t1.2.1, by rw [xkq_at hk6 32 4]; exact t1.2.2⟩, ⟨hP6.1, ?_, ?_⟩, hF6, s9, fun _ => i5, (fun h => by cases h), xkq_trans i7 (xkq_trans (xkq_mono rfl hk4) (xkq_trans (xkq_mono rfl hk5) (xkq_mono rfl hk6)))⟩
            · rw [hP6.2.1]
              refine mk_ext fun v _ => Bool.eq_iff_iff.mpr ?_
              rw [addV_iff, addV_iff]
              simp only [List.cons_append, List.mem_cons, List.mem_append, List.not_mem_nil, or_false]
              constructor
              · rintro (h | h | h | h)
                · exact Or.inl h
                · rw [h]; exact Or.inl hPu
                · exact Or.inr h
                · rw [h]; exact Or.inl hPz
              · rintro (h | h)
                · exact Or.inl h
                · exact Or.inr (Or.inr (Or.inl h))
            · exact hP6.2.2
        · refine xQ.go 5 (F1 := (bif decide ((w3.1 32 4) ≤ (w3.1 32 5)) then 89 else 55, [some (.ref 32), some (.ref 26), some (.int (mk S)), some (.int 1), some (.int (nI k))], [], w3)) rfl ?_
          refine xQ.brT (by rw [i1.2.2, show w3.1 32 5 = nI sg.2.2.2 from i2.2.2]; exact decide_eq_true (nI_le (by omega) (by omega))) ?_
          rw [erun_no hlt] at i5
          subst i5
          exact done w3 _ _ i1 i2 i3 i7
    · intro s hI
      obtain ⟨w3, sg, g⟩ := s
      obtain ⟨i1, i2, i3, i4, i5, i6, i7⟩ := hI
      have hsf : sg = fin := by
        cases g with
        | false => exact i6 rfl
        | true => exact i5 rfl
      subst hsf
      refine xQ.go 3 (F1 := (bif decide (45 ≤ (nI 45)) then 89 else 40, [some (.ref 32), some (.ref 26), some (.int (mk S)), some (.int (bif g then 1 else 0)), some (.int (nI 45))], [], w3)) rfl ?_
      refine xQ.brT (rfl) ?_
      exact done w3 _ _ i1 i2 i3 i7
end
section
theorem flat_ix {α β : Type} {g : α → List β} : ∀ {l : List α}, (l.flatMap g).Nodup → ∀ {i j : Nat} {a b : α} {p : β}, l[i]? = some a → l[j]? = some b → p ∈ g a → p ∈ g b → i = j
  | [], _, i, _, _, _, _, h, _, _, _ => by simp at h
  | c :: t, hn, i, j, a, b, p, h1, h2, h3, h4 => by
    rw [List.flatMap_cons] at hn
    obtain ⟨n1, n2, n3⟩ := List.nodup_append.mp hn
    have tail : ∀ {i : Nat} {a : α}, t[i]? = some a → p ∈ g a → p ∈ t.flatMap g := fun h hp => List.mem_flatMap.mpr ⟨_, List.mem_of_getElem? h, hp⟩
    match i, j, h1, h2 with
    | 0, 0, _, _ => rfl
    | 0, j + 1, h1, h2 =>
      cases h1
      exact absurd rfl (n3 p h3 p (tail h2 h4))
    | i + 1, 0, h1, h2 =>
      cases h2
      exact absurd rfl (n3 p h4 p (tail h1 h3))
    | i + 1, j + 1, h1, h2 => rw [flat_ix n2 (i := i) (j := j) h1 h2 h3 h4]
/-- the successors that faces give -/
def eS (s : Nat) (w w1 : xW) (L : List (List Nat)) : Prop := (∀ f ∈ L, ∀ x v y, (x, v) ∈ dts f → (v, y) ∈ dts f → w1.1 s (10 * v + x) = nI y) ∧ ∀ v x, v < 10 → x < 10 → (∀ f ∈ L, (x, v) ∉ dts f) → w1.1 s (10 * v + x) = w.1 s (10 * v + x)
theorem c_succ1_p {w : xW} {H : Nat → Nat → Bool} {S : Nat → Bool} {a b : Nat} (hG : eG 18 19 w H S) (he : ec H = 1) (hab : a < b) (hb : b < 10) (hS : ∀ v, v < 10 → S v = two a b v) : xC MX1_writeSuccessors [.ref 18, .ref 17] w none (xuI (xuI w 17 (10 * a + b) (nI b)) 17 (10 * b + a) (nI a)) := by
  have hla : low S = a := low_eq (by omega) (by rw [hS a (by omega)]; exact two_iff.mpr (Or.inl rfl)) (fun v hv => by
    rw [hS v (by omega)]
    cases h : two a b v with
    | false => rfl
    | true => rcases two_iff.mp h with e | e <;> omega)
  have hlb : low (fun v => S v && !decide (v = a)) = b := low_eq hb (by rw [hS b hb, two_iff.mpr (Or.inr rfl)]; simp; omega) (fun v hv => by
    rw [hS v (by omega)]
    cases h : two a b v with
    | false => rfl
    | true =>
      rcases two_iff.mp h with e | e
      · simp [e]
      · omega)
  unfold xC
  show xE MX1_writeSuccessors (0, [some (.ref 18), some (.ref 17), none, none, none], [], w) _ _
  refine xE.go 4 (F1 := (bif !decide ((w.1 18 4) = 1) then 52 else 8, [some (.ref 18), some (.ref 17), none, none, none], [], w)) rfl ?_
  refine xE.brF (by rw [hG.2.2, he]; rfl) ?_
  refine xE.go 2 (F1 := (12, [some (.ref 18), some (.ref 17), none, none, none], [.int (w.1 18 2)], w)) rfl ?_
  rw [hG.2.1]
  refine xE.call rfl (c_least (by omega)) ?_
  show xE MX1_writeSuccessors (15, [some (.ref 18), some (.ref 17), none, none, none], [.int (nI (low S))], w) _ _
  rw [hla]
  refine xE.go 4 (F1 := (21, [some (.ref 18), some (.ref 17), some (.int (nI a)), none, none], [.int (nI a), .int (w.1 18 2)], w)) rfl ?_
  refine xE.call rfl (c_bit (by omega)) ?_
  show xE MX1_writeSuccessors (24, [some (.ref 18), some (.ref 17), some (.int (nI a)), none, none], [.int (mk (fun v => decide (v = a))), .int (w.1 18 2)], w) _ _
  refine xE.go 3 (F1 := (27, [some (.ref 18), some (.ref 17), some (.int (nI a)), none, none], [.int ((w.1 18 2) &&& ((mk (fun v => decide (v = a))) ^^^ (-1)))], w)) rfl ?_
  rw [hG.2.1, mk_andn]
  refine xE.call rfl (c_least (by omega)) ?_
  show xE MX1_writeSuccessors (30, [some (.ref 18), some (.ref 17), some (.int (nI a)), none, none], [.int (nI (low (fun v => S v && !decide (v = a))))], w) _ _
  rw [hlb]
  refine xE.go 4 (F1 := (34, [some (.ref 18), some (.ref 17), some (.int (nI a)), some (.int (nI b)), none], [.int (nI b), .int (nI a), .ref 17], w)) rfl ?_
  refine xE.call rfl (c_cell) ?_
  show xE MX1_writeSuccessors (37, [some (.ref 18), some (.ref 17), some (.int (nI a)), some (.int (nI b)), none], [.int (nI (10 * a + b)), .ref 17], w) _ _
  refine xE.go 1 (F1 := (38, [some (.ref 18), some (.ref 17), some (.int (nI a)), some (.int (nI b)), none], [.int (nI b), .int (nI (10 * a + b)), .ref 17], w)) rfl ?_
  refine xE.call rfl (c_put rfl (by omega) (by omega)) ?_
  show xE MX1_writeSuccessors (41, [some (.ref 18), some (.ref 17), some (.int (nI a)), some (.int (nI b)), none], [], (xuI w 17 (10 * a + b) (nI b))) _ _
  refine xE.go 3 (F1 := (44, [some (.ref 18), some (.ref 17), some (.int (nI a)), some (.int (nI b)), none], [.int (nI a), .int (nI b), .ref 17], (xuI w 17 (10 * a + b) (nI b)))) rfl ?_
  refine xE.call rfl (c_cell) ?_
  show xE MX1_writeSuccessors (47, [some (.ref 18), some (.ref 17), some (.int (nI a)), some (.int (nI b)), none], [.int (nI (10 * b + a)), .ref 17], (xuI w 17 (10 * a + b) (nI b))) _ _
  refine xE.go 1 (F1 := (48, [some (.ref 18), some (.ref 17), some (.int (nI a)), some (.int (nI b)), none], [.int (nI a), .int (nI (10 * b + a)), .ref 17], (xuI w 17 (10 * a + b) (nI b)))) rfl ?_
  refine xE.call rfl (c_put rfl (by omega) (by omega)) ?_
  show xE MX1_writeSuccessors (51, [some (.ref 18), some (.ref 17), some (.int (nI a)), some (.int (nI b)), none], [], (xuI (xuI w 17 (10 * a + b) (nI b)) 17 (10 * b + a) (nI a))) _ _
  exact xE.vret 1 rfl rfl
theorem c_succ_p {w : xW} {H : Nat → Nat → Bool} {S : Nat → Bool} {L : List (List Nat)} (hG : eG 18 19 w H S) (he : ec H ≠ 1) (he5 : ec H ≤ 45) (hF : eF 18 21 22 w L) (hL : L.length ≤ 16) (hn : (L.flatMap dts).Nodup) (hfn : ∀ f ∈ L, f.Nodup) (hL10 : ∀ f ∈ L, ∀ x ∈ f, x < 10) : xD MX1_writeSuccessors [.ref 18, .ref 17] w (fun r w1 => r = none ∧ eS 17 w w1 L ∧ xkq [(17, none)] w w1) := by
  refine xD.of ?_
  show xQ MX1_writeSuccessors (0, [some (.ref 18), some (.ref 17), none, none, none], [], w) _
  refine xQ.go 4 (F1 := (bif !decide ((w.1 18 4) = 1) then 52 else 8, [some (.ref 18), some (.ref 17), none, none, none], [], w)) rfl ?_
  refine xQ.brT (by rw [hG.2.2, show (1 : Int32) = nI 1 from rfl, decide_eq_false (fun e => he (jI_inj (b := 1) (by omega) (by omega) e))]; rfl) ?_
  refine xQ.go 2 (F1 := (54, [some (.ref 18), some (.ref 17), some (.int 0), none, none], [], w)) rfl ?_
  refine xQ.loop (S := xW) (fun k s => (54, [some (.ref 18), some (.ref 17), some (.int (nI k)), none, none], [], s)) (fun k s => xkq [(17, none)] w s ∧ (∀ i f, L[i]? = some f → i < k → ∀ x v y, (x, v) ∈ dts f → (v, y) ∈ dts f → s.1 17 (10 * v + x) = nI y) ∧ ∀ v x, v < 10 → x < 10 → (∀ f ∈ L, (x, v) ∉ dts f) → s.1 17 (10 * v + x) = w.1 17 (10 * v + x)) L.length w (rfl) (⟨xkq_rfl, fun _ _ _ h => absurd h (by omega), fun _ _ _ _ _ => rfl⟩) ?_ ?_
  · intro k s hk hI K
    obtain ⟨i1, i2, i3⟩ := hI
    obtain ⟨f, hf⟩ : ∃ f, L[k]? = some f := ⟨_, List.getElem?_eq_getElem hk⟩
    have hfm := List.mem_of_getElem? hf
    refine xQ.go 4 (F1 := (bif decide ((s.1 18 8) ≤ (nI k)) then 134 else 62, [some (.ref 18), some (.ref 17), some (.int (nI k)), none, none], [], s)) rfl ?_
    refine xQ.brF (by rw [xkq_at i1 18 8, hF.1]; exact decide_eq_false (nI_ge hk (by omega))) ?_
    refine xQ.go 2 (F1 := (64, [some (.ref 18), some (.ref 17), some (.int (nI k)), some (.int 0), none], [], s)) rfl ?_
    refine xQ.loop (S := xW) (fun k2 s2 => (64, [some (.ref 18), some (.ref 17), some (.int (nI k)), some (.int (nI k2)), none], [], s2)) (fun k2 s2 => xkq [(17, none)] w s2 ∧ (∀ i g, L[i]? = some g → ∀ x v y, (i < k ∨ (i = k ∧ x < k2)) → (x, v) ∈ dts g → (v, y) ∈ dts g → s2.1 17 (10 * v + x) = nI y) ∧ ∀ v x, v < 10 → x < 10 → (∀ f ∈ L, (x, v) ∉ dts f) → s2.1 17 (10 * v + x) = w.1 17 (10 * v + x)) 10 s (rfl) (⟨i1, fun i g hg x v y h => i2 i g hg (by omega) x v y, i3⟩) ?_ ?_
    · intro k2 s2 hk2 hI2 K2
      obtain ⟨j1, j2, j3⟩ := hI2
      refine xQ.go 3 (F1 := (bif decide (10 ≤ (nI k2)) then 128 else 70, [some (.ref 18), some (.ref 17), some (.int (nI k)), some (.int (nI k2)), none], [], s2)) rfl ?_
      refine xQ.brF (decide_eq_false (nI_ge (b := 10) (by omega) (by omega))) ?_
      refine xQ.go 3 (F1 := (75, [some (.ref 18), some (.ref 17), some (.int (nI k)), some (.int (nI k2)), none], [.int (nI k), .ref 21], s2)) rfl ?_
      refine xQ.call rfl (c_at rfl (by omega) (by omega)) ?_
      show xQ MX1_writeSuccessors (78, [some (.ref 18), some (.ref 17), some (.int (nI k)), some (.int (nI k2)), none], [.int (s2.1 21 k)], s2) _
      rw [xkq_at j1 21 k, (hF.2 k f hf).1]
      refine xQ.go 1 (F1 := (79, [some (.ref 18), some (.ref 17), some (.int (nI k)), some (.int (nI k2)), none], [.int (nI k2), .int (mk (fun v => decide (v ∈ f)))], s2)) rfl ?_
      refine xQ.call rfl (c_has hk2) ?_
      show xQ MX1_writeSuccessors (82, [some (.ref 18), some (.ref 17), some (.int (nI k)), some (.int (nI k2)), none], [.int (if decide (k2 ∈ f) then 1 else 0)], s2) _
      by_cases hx : k2 ∈ f
      · refine xQ.go 1 (F1 := (bif decide ((if decide (k2 ∈ f) then 1 else 0) = 0) then 122 else 85, [some (.ref 18), some (.ref 17), some (.int (nI k)), some (.int (nI k2)), none], [], s2)) rfl ?_
        refine xQ.brF (by rw [decide_eq_true hx]; rfl) ?_
        obtain ⟨v, hv⟩ := dts_ex hx
        have hvf := (dts_mem hv).2
        obtain ⟨y, hy⟩ := dts_ex hvf
        have hv10 := hL10 f hfm v hvf
        refine xQ.go 4 (F1 := (91, [some (.ref 18), some (.ref 17), some (.int (nI k)), some (.int (nI k2)), none], [.int (nI k2), .int (nI k), .ref 22], s2)) rfl ?_
        refine xQ.call rfl (c_cell) ?_
        show xQ MX1_writeSuccessors (94, [some (.ref 18), some (.ref 17), some (.int (nI k)), some (.int (nI k2)), none], [.int (nI (10 * k + k2)), .ref 22], s2) _
        refine xQ.call rfl (c_at rfl (by omega) (by omega)) ?_
        show xQ MX1_writeSuccessors (97, [some (.ref 18), some (.ref 17), some (.int (nI k)), some (.int (nI k2)), none], [.int (s2.1 22 (10 * k + k2))], s2) _
        rw [xkq_at j1 22 _, (hF.2 k f hf).2 _ _ hv]
        refine xQ.go 4 (F1 := (103, [some (.ref 18), some (.ref 17), some (.int (nI k)), some (.int (nI k2)), some (.int (nI v))], [.int (nI k2), .int (nI v), .ref 17], s2)) rfl ?_
        refine xQ.call rfl (c_cell) ?_
        show xQ MX1_writeSuccessors (106, [some (.ref 18), some (.ref 17), some (.int (nI k)), some (.int (nI k2)), some (.int (nI v))], [.int (nI (10 * v + k2)), .ref 17], s2) _
        refine xQ.go 4 (F1 := (113, [some (.ref 18), some (.ref 17), some (.int (nI k)), some (.int (nI k2)), some (.int (nI v))], [.int (nI v), .int (nI k), .ref 22, .int (nI (10 * v + k2)), .ref 17], s2)) rfl ?_
        refine xQ.call rfl (c_cell) ?_
        show xQ MX1_writeSuccessors (116, [some (.ref 18), some (.ref 17), some (.int (nI k)), some (.int (nI k2)), some (.int (nI v))], [.int (nI (10 * k + v)), .ref 22, .int (nI (10 * v + k2)), .ref 17], s2) _
        refine xQ.call rfl (c_at rfl (by omega) (by omega)) ?_
        show xQ MX1_writeSuccessors (119, [some (.ref 18), some (.ref 17), some (.int (nI k)), some (.int (nI k2)), some (.int (nI v))], [.int (s2.1 22 (10 * k + v)), .int (nI (10 * v + k2)), .ref 17], s2) _
        rw [xkq_at j1 22 _, (hF.2 k f hf).2 _ _ hy]
        refine xQ.call rfl (c_put rfl (by omega) (by omega)) ?_
        show xQ MX1_writeSuccessors (122, [some (.ref 18), some (.ref 17), some (.int (nI k)), some (.int (nI k2)), some (.int (nI v))], [], (xuI s2 17 (10 * v + k2) (nI y))) _
        refine xQ.go 2 (F1 := (64, [some (.ref 18), some (.ref 17), some (.int (nI k)), some (.int ((nI k2) + 1)), some (.int (nI v))], [], (xuI s2 17 (10 * v + k2) (nI y)))) rfl ?_
        refine xQ.less [some (.ref 18), some (.ref 17), some (.int (nI k)), some (.int ((nI k2) + 1)), none] (by simp [xleb]) ?_
        rw [← nI_succ]
        refine K2 _ ⟨xkq_I j1 rfl, fun i g hg x v2 y2 hd h1 h2 => ?_, fun v2 x hv2 hx2 hno => ?_⟩
        · have hx10 := hL10 g (List.mem_of_getElem? hg) x (dts_mem h1).1
          have hv20 := hL10 g (List.mem_of_getElem? hg) v2 (dts_mem h1).2
          rw [uI1]
          by_cases e : v2 = v ∧ x = k2
          · obtain ⟨rfl, rfl⟩ := e
            have hik := flat_ix hn hg hf h1 hv
            rw [hik, hf] at hg
            cases hg
            rw [if_pos ⟨rfl, rfl⟩]
            rw [dts_fun (hfn f hfm) hy h2]
          · rw [if_neg (fun h => e (by omega))]
            refine j2 i g hg x v2 y2 ?_ h1 h2
            rcases hd with h | ⟨h, h3⟩
            · exact Or.inl h
            · refine Or.inr ⟨h, ?_⟩
              rw [h, hf] at hg
              cases hg
              have : x ≠ k2 := fun e2 => e ⟨by rw [e2] at h1; exact dts_fun (hfn f hfm) h1 hv, e2⟩
              omega
        · rw [uI1, if_neg]
          · exact j3 v2 x hv2 hx2 hno
          · rintro ⟨_, e⟩
            have e1 : v2 = v := by omega
            have e2 : x = k2 := by omega
            rw [e1, e2] at hno
            exact hno f hfm hv
      · refine xQ.go 1 (F1 := (bif decide ((if decide (k2 ∈ f) then 1 else 0) = 0) then 122 else 85, [some (.ref 18), some (.ref 17), some (.int (nI k)), some (.int (nI k2)), none], [], s2)) rfl ?_
        refine xQ.brT (by rw [decide_eq_false hx]; rfl) ?_
        refine xQ.go 2 (F1 := (64, [some (.ref 18), some (.ref 17), some (.int (nI k)), some (.int ((nI k2) + 1)), none], [], s2)) rfl ?_
        rw [← nI_succ]
        refine K2 _ ⟨j1, fun i g hg x v2 y2 hd h1 h2 => ?_, j3⟩
        refine j2 i g hg x v2 y2 ?_ h1 h2
        rcases hd with h | ⟨h, h3⟩
        · exact Or.inl h
        · refine Or.inr ⟨h, ?_⟩
          rw [h, hf] at hg
          cases hg
          have : x ≠ k2 := fun e => hx (e ▸ (dts_mem h1).1)
          omega
    · intro s2 hI2
      obtain ⟨j1, j2, j3⟩ := hI2
      refine xQ.go 3 (F1 := (bif decide (10 ≤ (nI 10)) then 128 else 70, [some (.ref 18), some (.ref 17), some (.int (nI k)), some (.int (nI 10)), none], [], s2)) rfl ?_
      refine xQ.brT (rfl) ?_
      refine xQ.less [some (.ref 18), some (.ref 17), some (.int (nI k)), none, none] (by simp [xleb]) ?_
      refine xQ.go 2 (F1 := (54, [some (.ref 18), some (.ref 17), some (.int ((nI k) + 1)), none, none], [], s2)) rfl ?_
      rw [← nI_succ]
      refine K _ ⟨j1, fun i g hg hi x v y h1 h2 => ?_, j3⟩
      have hx10 := hL10 g (List.mem_of_getElem? hg) x (dts_mem h1).1
      exact j2 i g hg x v y (by omega) h1 h2
  · intro s hI
    obtain ⟨i1, i2, i3⟩ := hI
    refine xQ.go 4 (F1 := (bif decide ((s.1 18 8) ≤ (nI L.length)) then 134 else 62, [some (.ref 18), some (.ref 17), some (.int (nI L.length)), none, none], [], s)) rfl ?_
    refine xQ.brT (by rw [xkq_at i1 18 8, hF.1]; exact decide_eq_true (Int32.le_refl _)) ?_
    refine xQ.vret 1 rfl rfl ?_
    refine ⟨rfl, ⟨fun f hf x v y h1 h2 => ?_, i3⟩, i1⟩
    obtain ⟨i, hi, e⟩ := List.mem_iff_getElem.mp hf
    exact i2 i f (by rw [List.getElem?_eq_getElem hi, e]) hi x v y h1 h2

theorem c_succ1_t {w : xW} {H : Nat → Nat → Bool} {S : Nat → Bool} {a b : Nat} (hG : eG 32 33 w H S) (he : ec H = 1) (hab : a < b) (hb : b < 10) (hS : ∀ v, v < 10 → S v = two a b v) : xC MX1_writeSuccessors [.ref 32, .ref 31] w none (xuI (xuI w 31 (10 * a + b) (nI b)) 31 (10 * b + a) (nI a)) := by
  have hla : low S = a := low_eq (by omega) (by rw [hS a (by omega)]; exact two_iff.mpr (Or.inl rfl)) (fun v hv => by
    rw [hS v (by omega)]
    cases h : two a b v with
    | false => rfl
    | true => rcases two_iff.mp h with e | e <;> omega)
  have hlb : low (fun v => S v && !decide (v = a)) = b := low_eq hb (by rw [hS b hb, two_iff.mpr (Or.inr rfl)]; simp; omega) (fun v hv => by
    rw [hS v (by omega)]
    cases h : two a b v with
    | false => rfl
    | true =>
      rcases two_iff.mp h with e | e
      · simp [e]
      · omega)
  unfold xC
  show xE MX1_writeSuccessors (0, [some (.ref 32), some (.ref 31), none, none, none], [], w) _ _
  refine xE.go 4 (F1 := (bif !decide ((w.1 32 4) = 1) then 52 else 8, [some (.ref 32), some (.ref 31), none, none, none], [], w)) rfl ?_
  refine xE.brF (by rw [hG.2.2, he]; rfl) ?_
  refine xE.go 2 (F1 := (12, [some (.ref 32), some (.ref 31), none, none, none], [.int (w.1 32 2)], w)) rfl ?_
  rw [hG.2.1]
  refine xE.call rfl (c_least (by omega)) ?_
  show xE MX1_writeSuccessors (15, [some (.ref 32), some (.ref 31), none, none, none], [.int (nI (low S))], w) _ _
  rw [hla]
  refine xE.go 4 (F1 := (21, [some (.ref 32), some (.ref 31), some (.int (nI a)), none, none], [.int (nI a), .int (w.1 32 2)], w)) rfl ?_
  refine xE.call rfl (c_bit (by omega)) ?_
  show xE MX1_writeSuccessors (24, [some (.ref 32), some (.ref 31), some (.int (nI a)), none, none], [.int (mk (fun v => decide (v = a))), .int (w.1 32 2)], w) _ _
  refine xE.go 3 (F1 := (27, [some (.ref 32), some (.ref 31), some (.int (nI a)), none, none], [.int ((w.1 32 2) &&& ((mk (fun v => decide (v = a))) ^^^ (-1)))], w)) rfl ?_
  rw [hG.2.1, mk_andn]
  refine xE.call rfl (c_least (by omega)) ?_
  show xE MX1_writeSuccessors (30, [some (.ref 32), some (.ref 31), some (.int (nI a)), none, none], [.int (nI (low (fun v => S v && !decide (v = a))))], w) _ _
  rw [hlb]
  refine xE.go 4 (F1 := (34, [some (.ref 32), some (.ref 31), some (.int (nI a)), some (.int (nI b)), none], [.int (nI b), .int (nI a), .ref 31], w)) rfl ?_
  refine xE.call rfl (c_cell) ?_
  show xE MX1_writeSuccessors (37, [some (.ref 32), some (.ref 31), some (.int (nI a)), some (.int (nI b)), none], [.int (nI (10 * a + b)), .ref 31], w) _ _
  refine xE.go 1 (F1 := (38, [some (.ref 32), some (.ref 31), some (.int (nI a)), some (.int (nI b)), none], [.int (nI b), .int (nI (10 * a + b)), .ref 31], w)) rfl ?_
  refine xE.call rfl (c_put rfl (by omega) (by omega)) ?_
  show xE MX1_writeSuccessors (41, [some (.ref 32), some (.ref 31), some (.int (nI a)), some (.int (nI b)), none], [], (xuI w 31 (10 * a + b) (nI b))) _ _
  refine xE.go 3 (F1 := (44, [some (.ref 32), some (.ref 31), some (.int (nI a)), some (.int (nI b)), none], [.int (nI a), .int (nI b), .ref 31], (xuI w 31 (10 * a + b) (nI b)))) rfl ?_
  refine xE.call rfl (c_cell) ?_
  show xE MX1_writeSuccessors (47, [some (.ref 32), some (.ref 31), some (.int (nI a)), some (.int (nI b)), none], [.int (nI (10 * b + a)), .ref 31], (xuI w 31 (10 * a + b) (nI b))) _ _
  refine xE.go 1 (F1 := (48, [some (.ref 32), some (.ref 31), some (.int (nI a)), some (.int (nI b)), none], [.int (nI a), .int (nI (10 * b + a)), .ref 31], (xuI w 31 (10 * a + b) (nI b)))) rfl ?_
  refine xE.call rfl (c_put rfl (by omega) (by omega)) ?_
  show xE MX1_writeSuccessors (51, [some (.ref 32), some (.ref 31), some (.int (nI a)), some (.int (nI b)), none], [], (xuI (xuI w 31 (10 * a + b) (nI b)) 31 (10 * b + a) (nI a))) _ _
  exact xE.vret 1 rfl rfl
theorem c_succ_t {w : xW} {H : Nat → Nat → Bool} {S : Nat → Bool} {L : List (List Nat)} (hG : eG 32 33 w H S) (he : ec H ≠ 1) (he5 : ec H ≤ 45) (hF : eF 32 35 36 w L) (hL : L.length ≤ 16) (hn : (L.flatMap dts).Nodup) (hfn : ∀ f ∈ L, f.Nodup) (hL10 : ∀ f ∈ L, ∀ x ∈ f, x < 10) : xD MX1_writeSuccessors [.ref 32, .ref 31] w (fun r w1 => r = none ∧ eS 31 w w1 L ∧ xkq [(31, none)] w w1) := by
  refine xD.of ?_
  show xQ MX1_writeSuccessors (0, [some (.ref 32), some (.ref 31), none, none, none], [], w) _
  refine xQ.go 4 (F1 := (bif !decide ((w.1 32 4) = 1) then 52 else 8, [some (.ref 32), some (.ref 31), none, none, none], [], w)) rfl ?_
  refine xQ.brT (by rw [hG.2.2, show (1 : Int32) = nI 1 from rfl, decide_eq_false (fun e => he (jI_inj (b := 1) (by omega) (by omega) e))]; rfl) ?_
  refine xQ.go 2 (F1 := (54, [some (.ref 32), some (.ref 31), some (.int 0), none, none], [], w)) rfl ?_
  refine xQ.loop (S := xW) (fun k s => (54, [some (.ref 32), some (.ref 31), some (.int (nI k)), none, none], [], s)) (fun k s => xkq [(31, none)] w s ∧ (∀ i f, L[i]? = some f → i < k → ∀ x v y, (x, v) ∈ dts f → (v, y) ∈ dts f → s.1 31 (10 * v + x) = nI y) ∧ ∀ v x, v < 10 → x < 10 → (∀ f ∈ L, (x, v) ∉ dts f) → s.1 31 (10 * v + x) = w.1 31 (10 * v + x)) L.length w (rfl) (⟨xkq_rfl, fun _ _ _ h => absurd h (by omega), fun _ _ _ _ _ => rfl⟩) ?_ ?_
  · intro k s hk hI K
    obtain ⟨i1, i2, i3⟩ := hI
    obtain ⟨f, hf⟩ : ∃ f, L[k]? = some f := ⟨_, List.getElem?_eq_getElem hk⟩
    have hfm := List.mem_of_getElem? hf
    refine xQ.go 4 (F1 := (bif decide ((s.1 32 8) ≤ (nI k)) then 134 else 62, [some (.ref 32), some (.ref 31), some (.int (nI k)), none, none], [], s)) rfl ?_
    refine xQ.brF (by rw [xkq_at i1 32 8, hF.1]; exact decide_eq_false (nI_ge hk (by omega))) ?_
    refine xQ.go 2 (F1 := (64, [some (.ref 32), some (.ref 31), some (.int (nI k)), some (.int 0), none], [], s)) rfl ?_
    refine xQ.loop (S := xW) (fun k2 s2 => (64, [some (.ref 32), some (.ref 31), some (.int (nI k)), some (.int (nI k2)), none], [], s2)) (fun k2 s2 => xkq [(31, none)] w s2 ∧ (∀ i g, L[i]? = some g → ∀ x v y, (i < k ∨ (i = k ∧ x < k2)) → (x, v) ∈ dts g → (v, y) ∈ dts g → s2.1 31 (10 * v + x) = nI y) ∧ ∀ v x, v < 10 → x < 10 → (∀ f ∈ L, (x, v) ∉ dts f) → s2.1 31 (10 * v + x) = w.1 31 (10 * v + x)) 10 s (rfl) (⟨i1, fun i g hg x v y h => i2 i g hg (by omega) x v y, i3⟩) ?_ ?_
    · intro k2 s2 hk2 hI2 K2
      obtain ⟨j1, j2, j3⟩ := hI2
      refine xQ.go 3 (F1 := (bif decide (10 ≤ (nI k2)) then 128 else 70, [some (.ref 32), some (.ref 31), some (.int (nI k)), some (.int (nI k2)), none], [], s2)) rfl ?_
      refine xQ.brF (decide_eq_false (nI_ge (b := 10) (by omega) (by omega))) ?_
      refine xQ.go 3 (F1 := (75, [some (.ref 32), some (.ref 31), some (.int (nI k)), some (.int (nI k2)), none], [.int (nI k), .ref 35], s2)) rfl ?_
      refine xQ.call rfl (c_at rfl (by omega) (by omega)) ?_
      show xQ MX1_writeSuccessors (78, [some (.ref 32), some (.ref 31), some (.int (nI k)), some (.int (nI k2)), none], [.int (s2.1 35 k)], s2) _
      rw [xkq_at j1 35 k, (hF.2 k f hf).1]
      refine xQ.go 1 (F1 := (79, [some (.ref 32), some (.ref 31), some (.int (nI k)), some (.int (nI k2)), none], [.int (nI k2), .int (mk (fun v => decide (v ∈ f)))], s2)) rfl ?_
      refine xQ.call rfl (c_has hk2) ?_
      show xQ MX1_writeSuccessors (82, [some (.ref 32), some (.ref 31), some (.int (nI k)), some (.int (nI k2)), none], [.int (if decide (k2 ∈ f) then 1 else 0)], s2) _
      by_cases hx : k2 ∈ f
      · refine xQ.go 1 (F1 := (bif decide ((if decide (k2 ∈ f) then 1 else 0) = 0) then 122 else 85, [some (.ref 32), some (.ref 31), some (.int (nI k)), some (.int (nI k2)), none], [], s2)) rfl ?_
        refine xQ.brF (by rw [decide_eq_true hx]; rfl) ?_
        obtain ⟨v, hv⟩ := dts_ex hx
        have hvf := (dts_mem hv).2
        obtain ⟨y, hy⟩ := dts_ex hvf
        have hv10 := hL10 f hfm v hvf
        refine xQ.go 4 (F1 := (91, [some (.ref 32), some (.ref 31), some (.int (nI k)), some (.int (nI k2)), none], [.int (nI k2), .int (nI k), .ref 36], s2)) rfl ?_
        refine xQ.call rfl (c_cell) ?_
        show xQ MX1_writeSuccessors (94, [some (.ref 32), some (.ref 31), some (.int (nI k)), some (.int (nI k2)), none], [.int (nI (10 * k + k2)), .ref 36], s2) _
        refine xQ.call rfl (c_at rfl (by omega) (by omega)) ?_
        show xQ MX1_writeSuccessors (97, [some (.ref 32), some (.ref 31), some (.int (nI k)), some (.int (nI k2)), none], [.int (s2.1 36 (10 * k + k2))], s2) _
        rw [xkq_at j1 36 _, (hF.2 k f hf).2 _ _ hv]
        refine xQ.go 4 (F1 := (103, [some (.ref 32), some (.ref 31), some (.int (nI k)), some (.int (nI k2)), some (.int (nI v))], [.int (nI k2), .int (nI v), .ref 31], s2)) rfl ?_
        refine xQ.call rfl (c_cell) ?_
        show xQ MX1_writeSuccessors (106, [some (.ref 32), some (.ref 31), some (.int (nI k)), some (.int (nI k2)), some (.int (nI v))], [.int (nI (10 * v + k2)), .ref 31], s2) _
        refine xQ.go 4 (F1 := (113, [some (.ref 32), some (.ref 31), some (.int (nI k)), some (.int (nI k2)), some (.int (nI v))], [.int (nI v), .int (nI k), .ref 36, .int (nI (10 * v + k2)), .ref 31], s2)) rfl ?_
        refine xQ.call rfl (c_cell) ?_
        show xQ MX1_writeSuccessors (116, [some (.ref 32), some (.ref 31), some (.int (nI k)), some (.int (nI k2)), some (.int (nI v))], [.int (nI (10 * k + v)), .ref 36, .int (nI (10 * v + k2)), .ref 31], s2) _
        refine xQ.call rfl (c_at rfl (by omega) (by omega)) ?_
        show xQ MX1_writeSuccessors (119, [some (.ref 32), some (.ref 31), some (.int (nI k)), some (.int (nI k2)), some (.int (nI v))], [.int (s2.1 36 (10 * k + v)), .int (nI (10 * v + k2)), .ref 31], s2) _
        rw [xkq_at j1 36 _, (hF.2 k f hf).2 _ _ hy]
        refine xQ.call rfl (c_put rfl (by omega) (by omega)) ?_
        show xQ MX1_writeSuccessors (122, [some (.ref 32), some (.ref 31), some (.int (nI k)), some (.int (nI k2)), some (.int (nI v))], [], (xuI s2 31 (10 * v + k2) (nI y))) _
        refine xQ.go 2 (F1 := (64, [some (.ref 32), some (.ref 31), some (.int (nI k)), some (.int ((nI k2) + 1)), some (.int (nI v))], [], (xuI s2 31 (10 * v + k2) (nI y)))) rfl ?_
        refine xQ.less [some (.ref 32), some (.ref 31), some (.int (nI k)), some (.int ((nI k2) + 1)), none] (by simp [xleb]) ?_
        rw [← nI_succ]
        refine K2 _ ⟨xkq_I j1 rfl, fun i g hg x v2 y2 hd h1 h2 => ?_, fun v2 x hv2 hx2 hno => ?_⟩
        · have hx10 := hL10 g (List.mem_of_getElem? hg) x (dts_mem h1).1
          have hv20 := hL10 g (List.mem_of_getElem? hg) v2 (dts_mem h1).2
          rw [uI1]
          by_cases e : v2 = v ∧ x = k2
          · obtain ⟨rfl, rfl⟩ := e
            have hik := flat_ix hn hg hf h1 hv
            rw [hik, hf] at hg
            cases hg
            rw [if_pos ⟨rfl, rfl⟩]
            rw [dts_fun (hfn f hfm) hy h2]
          · rw [if_neg (fun h => e (by omega))]
            refine j2 i g hg x v2 y2 ?_ h1 h2
            rcases hd with h | ⟨h, h3⟩
            · exact Or.inl h
            · refine Or.inr ⟨h, ?_⟩
              rw [h, hf] at hg
              cases hg
              have : x ≠ k2 := fun e2 => e ⟨by rw [e2] at h1; exact dts_fun (hfn f hfm) h1 hv, e2⟩
              omega
        · rw [uI1, if_neg]
          · exact j3 v2 x hv2 hx2 hno
          · rintro ⟨_, e⟩
            have e1 : v2 = v := by omega
            have e2 : x = k2 := by omega
            rw [e1, e2] at hno
            exact hno f hfm hv
      · refine xQ.go 1 (F1 := (bif decide ((if decide (k2 ∈ f) then 1 else 0) = 0) then 122 else 85, [some (.ref 32), some (.ref 31), some (.int (nI k)), some (.int (nI k2)), none], [], s2)) rfl ?_
        refine xQ.brT (by rw [decide_eq_false hx]; rfl) ?_
        refine xQ.go 2 (F1 := (64, [some (.ref 32), some (.ref 31), some (.int (nI k)), some (.int ((nI k2) + 1)), none], [], s2)) rfl ?_
        rw [← nI_succ]
        refine K2 _ ⟨j1, fun i g hg x v2 y2 hd h1 h2 => ?_, j3⟩
        refine j2 i g hg x v2 y2 ?_ h1 h2
        rcases hd with h | ⟨h, h3⟩
        · exact Or.inl h
        · refine Or.inr ⟨h, ?_⟩
          rw [h, hf] at hg
          cases hg
          have : x ≠ k2 := fun e => hx (e ▸ (dts_mem h1).1)
          omega
    · intro s2 hI2
      obtain ⟨j1, j2, j3⟩ := hI2
      refine xQ.go 3 (F1 := (bif decide (10 ≤ (nI 10)) then 128 else 70, [some (.ref 32), some (.ref 31), some (.int (nI k)), some (.int (nI 10)), none], [], s2)) rfl ?_
      refine xQ.brT (rfl) ?_
      refine xQ.less [some (.ref 32), some (.ref 31), some (.int (nI k)), none, none] (by simp [xleb]) ?_
      refine xQ.go 2 (F1 := (54, [some (.ref 32), some (.ref 31), some (.int ((nI k) + 1)), none, none], [], s2)) rfl ?_
      rw [← nI_succ]
      refine K _ ⟨j1, fun i g hg hi x v y h1 h2 => ?_, j3⟩
      have hx10 := hL10 g (List.mem_of_getElem? hg) x (dts_mem h1).1
      exact j2 i g hg x v y (by omega) h1 h2
  · intro s hI
    obtain ⟨i1, i2, i3⟩ := hI
    refine xQ.go 4 (F1 := (bif decide ((s.1 32 8) ≤ (nI L.length)) then 134 else 62, [some (.ref 32), some (.ref 31), some (.int (nI L.length)), none, none], [], s)) rfl ?_
    refine xQ.brT (by rw [xkq_at i1 32 8, hF.1]; exact decide_eq_true (Int32.le_refl _)) ?_
    refine xQ.vret 1 rfl rfl ?_
    refine ⟨rfl, ⟨fun f hf x v y h1 h2 => ?_, i3⟩, i1⟩
    obtain ⟨i, hi, e⟩ := List.mem_iff_getElem.mp hf
    exact i2 i f (by rw [List.getElem?_eq_getElem hi, e]) hi x v y h1 h2
end
section
theorem rch_two {G : Nat → Nat → Bool} {A X : Nat → Bool} : ∀ v, v < 10 → rch G A (fun v => X v && A v) v = rch G A X v := by
  unfold rch
  exact rchn_ext 10 fun v _ => by rw [Bool.and_assoc, Bool.and_self]
theorem mk_ends {a b : Nat} {S : Nat → Bool} (ha : a < 10) (hb : b < 10) : decide (mk (fun v => two a b v && !S v) = 0) = (S a && S b) := by
  apply Bool.eq_iff_iff.mpr
  rw [decide_eq_true_iff, mk_zero, Bool.and_eq_true]
  constructor
  · intro h
    have h1 := h a ha
    have h2 := h b hb
    rw [two_iff.mpr (Or.inl rfl)] at h1
    rw [two_iff.mpr (Or.inr rfl)] at h2
    simp at h1 h2
    exact ⟨h1, h2⟩
  · rintro ⟨h1, h2⟩ v _
    cases h : two a b v with
    | false => rfl
    | true => rcases two_iff.mp h with e | e <;> simp [e, h1, h2]
theorem c_fillNear_p {w : xW} : xD MX4_fillNear [.ref 11] w (fun r w1 => r = none ∧ (∀ v, v < 10 → w1.1 12 v = mk (gr (w.2 11 9) v)) ∧ xkq [(12, none)] w w1) := by
  refine xD.of ?_
  show xQ MX4_fillNear (0, [some (.ref 11), none, none, none], [], w) _
  refine xQ.go 2 (F1 := (2, [some (.ref 11), some (.int 0), none, none], [], w)) rfl ?_
  refine xQ.loop (S := xW) (fun k s => (2, [some (.ref 11), some (.int (nI k)), none, none], [], s)) (fun k s => xkq [(12, none)] w s ∧ ∀ v, v < k → s.1 12 v = mk (gr (w.2 11 9) v)) 10 w (rfl) (⟨xkq_rfl, fun v hv => absurd hv (by omega)⟩) ?_ ?_
  · intro k s hk hI K
    obtain ⟨i1, i2⟩ := hI
    refine xQ.go 3 (F1 := (bif decide (10 ≤ (nI k)) then 61 else 8, [some (.ref 11), some (.int (nI k)), none, none], [], s)) rfl ?_
    refine xQ.brF (decide_eq_false (nI_ge (b := 10) (by omega) (by omega))) ?_
    refine xQ.go 4 (F1 := (12, [some (.ref 11), some (.int (nI k)), some (.int 0), some (.int 0)], [], s)) rfl ?_
    refine xQ.loop (S := Unit) (fun k2 s2 => (12, [some (.ref 11), some (.int (nI k)), some (.int (mk (fun z => decide (z < k2) && gr (w.2 11 9) k z))), some (.int (nI k2))], [], s)) (fun _ _ => True) 10 () (by rw [show mk (fun z => decide (z < 0) && gr (w.2 11 9) k z) = 0 by rw [mk_0]; exact mk_ext fun z _ => by simp]; rfl) (trivial) ?_ ?_
    · intro k2 s2 hk2 hI2 K2
      have K2 := K2 () trivial
      refine xQ.go 3 (F1 := (bif decide (10 ≤ (nI k2)) then 46 else 18, [some (.ref 11), some (.int (nI k)), some (.int (mk (fun z => decide (z < k2) && gr (w.2 11 9) k z))), some (.int (nI k2))], [], s)) rfl ?_
      refine xQ.brF (decide_eq_false (nI_ge (b := 10) (by omega) (by omega))) ?_
      by_cases e : k = k2
      · refine xQ.go 4 (F1 := (24, [some (.ref 11), some (.int (nI k)), some (.int (mk (fun z => decide (z < k2) && gr (w.2 11 9) k z))), some (.int (nI k2))], [.int (nI k2), .int (nI k), .long (s.2 11 9)], s)) rfl ?_
        refine xQ.call rfl (c_pb_0 (fun a b ha hb hne e1 e2 => hne (by rw [← jI_inj (a := k) (b := a) (by omega) (by omega) e1, ← jI_inj (a := k2) (b := b) (by omega) (by omega) e2, e]))) ?_
        show xQ MX4_fillNear (27, [some (.ref 11), some (.int (nI k)), some (.int (mk (fun z => decide (z < k2) && gr (w.2 11 9) k z))), some (.int (nI k2))], [.long 0, .long (s.2 11 9)], s) _
        refine xQ.go 4 (F1 := (bif decide ((lg_cmp ((s.2 11 9) &&& 0) 0) = 0) then 40 else 33, [some (.ref 11), some (.int (nI k)), some (.int (mk (fun z => decide (z < k2) && gr (w.2 11 9) k z))), some (.int (nI k2))], [], s)) rfl ?_
        rw [lg_cmp0]
        refine xQ.brT (decide_eq_true (by simp)) ?_
        refine xQ.go 2 (F1 := (12, [some (.ref 11), some (.int (nI k)), some (.int (mk (fun z => decide (z < k2) && gr (w.2 11 9) k z))), some (.int ((nI k2) + 1))], [], s)) rfl ?_
        rw [← nI_succ, show mk (fun z => decide (z < k2) && gr (w.2 11 9) k z) = mk (fun z => decide (z < k2 + 1) && gr (w.2 11 9) k z) from mk_ext fun z hz => by
          by_cases e2 : z = k2
          · rw [e2, ← e, gr_irr, Bool.and_false, Bool.and_false]
          · rw [show decide (z < k2) = decide (z < k2 + 1) from decide_eq_decide.mpr (by omega)]]
        exact K2
      · refine xQ.go 4 (F1 := (24, [some (.ref 11), some (.int (nI k)), some (.int (mk (fun z => decide (z < k2) && gr (w.2 11 9) k z))), some (.int (nI k2))], [.int (nI k2), .int (nI k), .long (s.2 11 9)], s)) rfl ?_
        refine xQ.call rfl (c_pb (by omega) (by omega) e) ?_
        show xQ MX4_fillNear (27, [some (.ref 11), some (.int (nI k)), some (.int (mk (fun z => decide (z < k2) && gr (w.2 11 9) k z))), some (.int (nI k2))], [.long (pbit k k2), .long (s.2 11 9)], s) _
        refine xQ.go 4 (F1 := (bif decide ((lg_cmp ((s.2 11 9) &&& (pbit k k2)) 0) = 0) then 40 else 33, [some (.ref 11), some (.int (nI k)), some (.int (mk (fun z => decide (z < k2) && gr (w.2 11 9) k z))), some (.int (nI k2))], [], s)) rfl ?_
        rw [lg_cmp0, xkq_atJ i1 11 9]
        cases hg : gr (w.2 11 9) k k2 with
        | true =>
          refine xQ.brF (decide_eq_false (fun e3 => by rw [(and_zero _ (by omega) (by omega) e).mp e3] at hg; cases hg)) ?_
          refine xQ.go 2 (F1 := (35, [some (.ref 11), some (.int (nI k)), some (.int (mk (fun z => decide (z < k2) && gr (w.2 11 9) k z))), some (.int (nI k2))], [.int (nI k2), .int (mk (fun z => decide (z < k2) && gr (w.2 11 9) k z))], s)) rfl ?_
          refine xQ.call rfl (c_bit (show k2 < 10 by omega)) ?_
          show xQ MX4_fillNear (38, [some (.ref 11), some (.int (nI k)), some (.int (mk (fun z => decide (z < k2) && gr (w.2 11 9) k z))), some (.int (nI k2))], [.int (mk (fun v => decide (v = k2))), .int (mk (fun z => decide (z < k2) && gr (w.2 11 9) k z))], s) _
          refine xQ.go 4 (F1 := (12, [some (.ref 11), some (.int (nI k)), some (.int ((mk (fun z => decide (z < k2) && gr (w.2 11 9) k z)) ||| (mk (fun v => decide (v = k2))))), some (.int ((nI k2) + 1))], [], s)) rfl ?_
          rw [mk_or, ← nI_succ, show mk (fun v => (decide (v < k2) && gr (w.2 11 9) k v) || decide (v = k2)) = mk (fun z => decide (z < k2 + 1) && gr (w.2 11 9) k z) from mk_ext fun z hz => by
            by_cases e2 : z = k2
            · rw [e2, hg]; simp
            · rw [show decide (z < k2) = decide (z < k2 + 1) from decide_eq_decide.mpr (by omega), decide_eq_false e2, Bool.or_false]]
          exact K2
        | false =>
          refine xQ.brT (decide_eq_true ((and_zero _ (by omega) (by omega) e).mpr hg)) ?_
          refine xQ.go 2 (F1 := (12, [some (.ref 11), some (.int (nI k)), some (.int (mk (fun z => decide (z < k2) && gr (w.2 11 9) k z))), some (.int ((nI k2) + 1))], [], s)) rfl ?_
          rw [← nI_succ, show mk (fun z => decide (z < k2) && gr (w.2 11 9) k z) = mk (fun z => decide (z < k2 + 1) && gr (w.2 11 9) k z) from mk_ext fun z hz => by
            by_cases e2 : z = k2
            · rw [e2, hg, Bool.and_false, Bool.and_false]
            · rw [show decide (z < k2) = decide (z < k2 + 1) from decide_eq_decide.mpr (by omega)]]
          exact K2
    · intro s2 hI2
      refine xQ.go 3 (F1 := (bif decide (10 ≤ (nI 10)) then 46 else 18, [some (.ref 11), some (.int (nI k)), some (.int (mk (fun z => decide (z < 10) && gr (w.2 11 9) k z))), some (.int (nI 10))], [], s)) rfl ?_
      refine xQ.brT (rfl) ?_
      rw [show mk (fun z => decide (z < 10) && gr (w.2 11 9) k z) = mk (gr (w.2 11 9) k) from mk_ext fun z hz => by rw [decide_eq_true hz, Bool.true_and]]
      refine xQ.go 4 (F1 := (52, [some (.ref 11), some (.int (nI k)), some (.int (mk (gr (w.2 11 9) k))), some (.int (nI 10))], [.int (mk (gr (w.2 11 9) k)), .int (nI k), .ref 12], s)) rfl ?_
      refine xQ.call rfl (c_put rfl (by omega) (by omega)) ?_
      show xQ MX4_fillNear (55, [some (.ref 11), some (.int (nI k)), some (.int (mk (gr (w.2 11 9) k))), some (.int (nI 10))], [], (xuI s 12 k (mk (gr (w.2 11 9) k)))) _
      refine xQ.go 2 (F1 := (2, [some (.ref 11), some (.int ((nI k) + 1)), some (.int (mk (gr (w.2 11 9) k))), some (.int (nI 10))], [], (xuI s 12 k (mk (gr (w.2 11 9) k))))) rfl ?_
      refine xQ.less [some (.ref 11), some (.int ((nI k) + 1)), none, none] (by simp [xleb]) ?_
      rw [← nI_succ]
      refine K _ ⟨xkq_I i1 rfl, fun v hv => ?_⟩
      rw [uI1]
      by_cases e : v = k
      · rw [if_pos ⟨rfl, e⟩, e]
      · rw [if_neg (fun h => e h.2)]
        exact i2 v (by omega)
  · intro s hI
    refine xQ.go 3 (F1 := (bif decide (10 ≤ (nI 10)) then 61 else 8, [some (.ref 11), some (.int (nI 10)), none, none], [], s)) rfl ?_
    refine xQ.brT (rfl) ?_
    refine xQ.vret 1 rfl rfl ?_
    exact ⟨rfl, hI.2, hI.1⟩
theorem c_blockAround_p {w : xW} {G : Nat → Nat → Bool} {a b : Nat} (hw : ∀ v, v < 10 → w.1 12 v = mk (G v)) (ha : a < 10) (hb : b < 10) : xC MX4_blockAround [.ref 11, .int (nI a), .int (nI b)] w (some (.int (mk (bS G (a, b))))) w := by
  unfold xC
  show xE MX4_blockAround (0, [some (.ref 11), some (.int (nI a)), some (.int (nI b)), none, none, none, none], [], w) _ _
  refine xE.go 1 (F1 := (1, [some (.ref 11), some (.int (nI a)), some (.int (nI b)), none, none, none, none], [.int (nI a)], w)) rfl ?_
  refine xE.call rfl (c_bit ha) ?_
  show xE MX4_blockAround (4, [some (.ref 11), some (.int (nI a)), some (.int (nI b)), none, none, none, none], [.int (mk (fun v => decide (v = a)))], w) _ _
  refine xE.go 1 (F1 := (5, [some (.ref 11), some (.int (nI a)), some (.int (nI b)), none, none, none, none], [.int (nI b), .int (mk (fun v => decide (v = a)))], w)) rfl ?_
  refine xE.call rfl (c_bit hb) ?_
  show xE MX4_blockAround (8, [some (.ref 11), some (.int (nI a)), some (.int (nI b)), none, none, none, none], [.int (mk (fun v => decide (v = b))), .int (mk (fun v => decide (v = a)))], w) _ _
  refine xE.go 6 (F1 := (18, [some (.ref 11), some (.int (nI a)), some (.int (nI b)), some (.int ((mk (fun v => decide (v = a))) ||| (mk (fun v => decide (v = b))))), some (.int 1023), some (.int 0), none], [], w)) rfl ?_
  rw [mk_or, show (fun v => decide (v = a) || decide (v = b)) = two a b from rfl]
  refine xE.loop (S := Unit) (fun k s => (18, [some (.ref 11), some (.int (nI a)), some (.int (nI b)), some (.int (mk (two a b))), some (.int (mk (fun z => ally (fun u => decide (z = u) || rch G (but u) (two a b) z) k))), some (.int (nI k)), none], [], w)) (fun _ _ => True) 10 () (by rw [show mk (fun z => ally (fun u => decide (z = u) || rch G (but u) (two a b) z) 0) = 1023 by rw [mk_all]; rfl]; rfl) (trivial) ?_ ?_
  · intro k s hk hI K
    have K := K () trivial
    refine xE.go 3 (F1 := (bif decide (10 ≤ (nI k)) then 68 else 25, [some (.ref 11), some (.int (nI a)), some (.int (nI b)), some (.int (mk (two a b))), some (.int (mk (fun z => ally (fun u => decide (z = u) || rch G (but u) (two a b) z) k))), some (.int (nI k)), none], [], w)) rfl ?_
    refine xE.brF (decide_eq_false (nI_ge (b := 10) (by omega) (by omega))) ?_
    refine xE.go 2 (F1 := (30, [some (.ref 11), some (.int (nI a)), some (.int (nI b)), some (.int (mk (two a b))), some (.int (mk (fun z => ally (fun u => decide (z = u) || rch G (but u) (two a b) z) k))), some (.int (nI k)), none], [.int (nI k), .int 1023], w)) rfl ?_
    refine xE.call rfl (c_bit (show k < 10 by omega)) ?_
    show xE MX4_blockAround (33, [some (.ref 11), some (.int (nI a)), some (.int (nI b)), some (.int (mk (two a b))), some (.int (mk (fun z => ally (fun u => decide (z = u) || rch G (but u) (two a b) z) k))), some (.int (nI k)), none], [.int (mk (fun v => decide (v = k))), .int 1023], w) _ _
    refine xE.go 3 (F1 := (36, [some (.ref 11), some (.int (nI a)), some (.int (nI b)), some (.int (mk (two a b))), some (.int (mk (fun z => ally (fun u => decide (z = u) || rch G (but u) (two a b) z) k))), some (.int (nI k)), none], [.int (1023 &&& ((mk (fun v => decide (v = k))) ^^^ (-1)))], w)) rfl ?_
    rw [mk_all, mk_andn, show (fun v => true && !decide (v = k)) = but k from funext fun v => by simp [but]]
    refine xE.go 8 (F1 := (50, [some (.ref 11), some (.int (nI a)), some (.int (nI b)), some (.int (mk (two a b))), some (.int (mk (fun z => ally (fun u => decide (z = u) || rch G (but u) (two a b) z) k))), some (.int (nI k)), some (.int (mk (but k)))], [.int (mk (but k)), .int ((mk (two a b)) &&& (mk (but k))), .ref 12, .int (mk (fun z => ally (fun u => decide (z = u) || rch G (but u) (two a b) z) k))], w)) rfl ?_
    rw [mk_and]
    refine xE.call rfl (c_reach rfl hw) ?_
    show xE MX4_blockAround (53, [some (.ref 11), some (.int (nI a)), some (.int (nI b)), some (.int (mk (two a b))), some (.int (mk (fun z => ally (fun u => decide (z = u) || rch G (but u) (two a b) z) k))), some (.int (nI k)), some (.int (mk (but k)))], [.int (mk (rch G (but k) (fun v => two a b v && but k v))), .int (mk (fun z => ally (fun u => decide (z = u) || rch G (but u) (two a b) z) k))], w) _ _
    refine xE.go 1 (F1 := (55, [some (.ref 11), some (.int (nI a)), some (.int (nI b)), some (.int (mk (two a b))), some (.int (mk (fun z => ally (fun u => decide (z = u) || rch G (but u) (two a b) z) k))), some (.int (nI k)), some (.int (mk (but k)))], [.int (nI k), .int (mk (rch G (but k) (fun v => two a b v && but k v))), .int (mk (fun z => ally (fun u => decide (z = u) || rch G (but u) (two a b) z) k))], w)) rfl ?_
    refine xE.call rfl (c_bit (show k < 10 by omega)) ?_
    show xE MX4_blockAround (58, [some (.ref 11), some (.int (nI a)), some (.int (nI b)), some (.int (mk (two a b))), some (.int (mk (fun z => ally (fun u => decide (z = u) || rch G (but u) (two a b) z) k))), some (.int (nI k)), some (.int (mk (but k)))], [.int (mk (fun v => decide (v = k))), .int (mk (rch G (but k) (fun v => two a b v && but k v))), .int (mk (fun z => ally (fun u => decide (z = u) || rch G (but u) (two a b) z) k))], w) _ _
    refine xE.go 2 (F1 := (60, [some (.ref 11), some (.int (nI a)), some (.int (nI b)), some (.int (mk (two a b))), some (.int (mk (fun z => ally (fun u => decide (z = u) || rch G (but u) (two a b) z) k))), some (.int (nI k)), some (.int (mk (but k)))], [.int ((mk (fun z => ally (fun u => decide (z = u) || rch G (but u) (two a b) z) k)) &&& ((mk (rch G (but k) (fun v => two a b v && but k v))) ||| (mk (fun v => decide (v = k)))))], w)) rfl ?_
    rw [mk_or, mk_and]
    refine xE.go 3 (F1 := (18, [some (.ref 11), some (.int (nI a)), some (.int (nI b)), some (.int (mk (two a b))), some (.int (mk (fun z => ally (fun u => decide (z = u) || rch G (but u) (two a b) z) k && (rch G (but k) (fun v => two a b v && but k v) z || decide (z = k))))), some (.int ((nI k) + 1)), some (.int (mk (but k)))], [], w)) rfl ?_
    refine xE.less [some (.ref 11), some (.int (nI a)), some (.int (nI b)), some (.int (mk (two a b))), some (.int (mk (fun z => ally (fun u => decide (z = u) || rch G (but u) (two a b) z) k && (rch G (but k) (fun v => two a b v && but k v) z || decide (z = k))))), some (.int ((nI k) + 1)), none] (by simp [xleb]) ?_
    rw [← nI_succ, show mk (fun z => ally (fun u => decide (z = u) || rch G (but u) (two a b) z) k && (rch G (but k) (fun v => two a b v && but k v) z || decide (z = k))) = mk (fun z => ally (fun u => decide (z = u) || rch G (but u) (two a b) z) (k + 1)) from mk_ext fun z hz => by
      rw [rch_two z hz, Bool.or_comm]
      rfl]
    exact K
  · intro s hI
    refine xE.go 3 (F1 := (bif decide (10 ≤ (nI 10)) then 68 else 25, [some (.ref 11), some (.int (nI a)), some (.int (nI b)), some (.int (mk (two a b))), some (.int (mk (fun z => ally (fun u => decide (z = u) || rch G (but u) (two a b) z) 10))), some (.int (nI 10)), none], [], w)) rfl ?_
    refine xE.brT (rfl) ?_
    rw [show mk (fun z => ally (fun u => decide (z = u) || rch G (but u) (two a b) z) 10) = mk (bS G (a, b)) from mk_ext fun z hz => by
      show _ = (decide (z < 10) && _)
      rw [decide_eq_true hz, Bool.true_and]
      rfl]
    refine xE.go 1 (F1 := (70, [some (.ref 11), some (.int (nI a)), some (.int (nI b)), some (.int (mk (two a b))), some (.int (mk (bS G (a, b)))), some (.int (nI 10)), none], [.int (mk (bS G (a, b)))], w)) rfl ?_
    exact xE.iret .int 1 rfl rfl (rfl)
theorem c_blockOf_p {w : xW} {G : Nat → Nat → Bool} {a b : Nat} {l : List xPr} (ha : a < 10) (hb : b < 10) (hn : w.1 11 7 = nI l.length) (h9 : l.length ≤ 9) (hl : ∀ i p, l[i]? = some p → w.1 13 i = mk (bS G p)) : xC MX4_blockOf [.ref 11, .int (nI a), .int (nI b)] w (some (.int (match l.findIdx? (fun p => bS G p a && bS G p b) with | some i => nI i | none => -1))) w := by
  unfold xC
  show xE MX4_blockOf (0, [some (.ref 11), some (.int (nI a)), some (.int (nI b)), none, none], [], w) _ _
  refine xE.go 1 (F1 := (1, [some (.ref 11), some (.int (nI a)), some (.int (nI b)), none, none], [.int (nI a)], w)) rfl ?_
  refine xE.call rfl (c_bit ha) ?_
  show xE MX4_blockOf (4, [some (.ref 11), some (.int (nI a)), some (.int (nI b)), none, none], [.int (mk (fun v => decide (v = a)))], w) _ _
  refine xE.go 1 (F1 := (5, [some (.ref 11), some (.int (nI a)), some (.int (nI b)), none, none], [.int (nI b), .int (mk (fun v => decide (v = a)))], w)) rfl ?_
  refine xE.call rfl (c_bit hb) ?_
  show xE MX4_blockOf (8, [some (.ref 11), some (.int (nI a)), some (.int (nI b)), none, none], [.int (mk (fun v => decide (v = b))), .int (mk (fun v => decide (v = a)))], w) _ _
  refine xE.go 4 (F1 := (13, [some (.ref 11), some (.int (nI a)), some (.int (nI b)), some (.int ((mk (fun v => decide (v = a))) ||| (mk (fun v => decide (v = b))))), some (.int 0)], [], w)) rfl ?_
  rw [mk_or, show (fun v => decide (v = a) || decide (v = b)) = two a b from rfl]
  refine xE.loop (S := Unit) (fun k s => (13, [some (.ref 11), some (.int (nI a)), some (.int (nI b)), some (.int (mk (two a b))), some (.int (nI k))], [], w)) (fun k _ => ∀ i p, i < k → l[i]? = some p → (bS G p a && bS G p b) = false) l.length () (rfl) (fun _ _ h => absurd h (by omega)) ?_ ?_
  · intro k s hk hI K
    have hg : l[k]? = some l[k] := List.getElem?_eq_getElem hk
    refine xE.go 4 (F1 := (bif decide ((w.1 11 7) ≤ (nI k)) then 47 else 22, [some (.ref 11), some (.int (nI a)), some (.int (nI b)), some (.int (mk (two a b))), some (.int (nI k))], [], w)) rfl ?_
    refine xE.brF (by rw [hn]; exact decide_eq_false (nI_ge hk (by omega))) ?_
    refine xE.go 4 (F1 := (29, [some (.ref 11), some (.int (nI a)), some (.int (nI b)), some (.int (mk (two a b))), some (.int (nI k))], [.int (nI k), .ref 13, .int (mk (two a b))], w)) rfl ?_
    refine xE.call rfl (c_at rfl (by omega) (by omega)) ?_
    show xE MX4_blockOf (32, [some (.ref 11), some (.int (nI a)), some (.int (nI b)), some (.int (mk (two a b))), some (.int (nI k))], [.int (w.1 13 k), .int (mk (two a b))], w) _ _
    rw [hl k _ hg]
    refine xE.go 4 (F1 := (bif !decide (((mk (two a b)) &&& ((mk (bS G l[k])) ^^^ (-1))) = 0) then 41 else 38, [some (.ref 11), some (.int (nI a)), some (.int (nI b)), some (.int (mk (two a b))), some (.int (nI k))], [], w)) rfl ?_
    rw [mk_andn, mk_ends ha hb]
    cases hf : (bS G l[k] a && bS G l[k] b) with
    | true =>
      refine xE.brF (by decide) ?_
      rw [show l.findIdx? (fun p => bS G p a && bS G p b) = some k from List.findIdx?_eq_some_iff_getElem.mpr ⟨hk, hf, fun j hj => by
        rw [hI j _ hj (List.getElem?_eq_getElem (by omega))]
        decide⟩]
      refine xE.go 1 (F1 := (40, [some (.ref 11), some (.int (nI a)), some (.int (nI b)), some (.int (mk (two a b))), some (.int (nI k))], [.int (nI k)], w)) rfl ?_
      exact xE.iret .int 1 rfl rfl (rfl)
    | false =>
      refine xE.brT (by decide) ?_
      refine xE.go 2 (F1 := (13, [some (.ref 11), some (.int (nI a)), some (.int (nI b)), some (.int (mk (two a b))), some (.int ((nI k) + 1))], [], w)) rfl ?_
      rw [← nI_succ]
      refine K () (fun i p hi hp => ?_)
      by_cases e : i = k
      · rw [e, hg] at hp
        cases hp
        exact hf
      · exact hI i p (by omega) hp
  · intro s hI
    refine xE.go 4 (F1 := (bif decide ((w.1 11 7) ≤ (nI l.length)) then 47 else 22, [some (.ref 11), some (.int (nI a)), some (.int (nI b)), some (.int (mk (two a b))), some (.int (nI l.length))], [], w)) rfl ?_
    refine xE.brT (by rw [hn]; exact decide_eq_true (Int32.le_refl _)) ?_
    rw [show l.findIdx? (fun p => bS G p a && bS G p b) = none from List.findIdx?_eq_none_iff.mpr fun p hp => by
      obtain ⟨i, hi, e⟩ := List.mem_iff_getElem.mp hp
      exact hI i p hi (by rw [List.getElem?_eq_getElem hi, e])]
    refine xE.go 1 (F1 := (48, [some (.ref 11), some (.int (nI a)), some (.int (nI b)), some (.int (mk (two a b))), some (.int (nI l.length))], [.int (-1)], w)) rfl ?_
    exact xE.iret .int 1 rfl rfl (rfl)
theorem c_flat_p {w : xW} {i : Nat} (hi : i < 9) : xC MX4_isPlanar [.ref 11, .int (nI i)] w (some (.int (if w.1 16 i = w.1 14 i then 1 else 0))) w := by
  unfold xC
  show xE MX4_isPlanar (0, [some (.ref 11), some (.int (nI i))], [], w) _ _
  refine xE.go 3 (F1 := (5, [some (.ref 11), some (.int (nI i))], [.int (nI i), .ref 16], w)) rfl ?_
  refine xE.call rfl (c_at rfl hi (by omega)) ?_
  show xE MX4_isPlanar (8, [some (.ref 11), some (.int (nI i))], [.int (w.1 16 i)], w) _ _
  refine xE.go 3 (F1 := (13, [some (.ref 11), some (.int (nI i))], [.int (nI i), .ref 14, .int (w.1 16 i)], w)) rfl ?_
  refine xE.call rfl (c_at rfl hi (by omega)) ?_
  show xE MX4_isPlanar (16, [some (.ref 11), some (.int (nI i))], [.int (w.1 14 i), .int (w.1 16 i)], w) _ _
  refine xE.go 1 (F1 := (bif !decide ((w.1 16 i) = (w.1 14 i)) then 23 else 19, [some (.ref 11), some (.int (nI i))], [], w)) rfl ?_
  by_cases e : w.1 16 i = w.1 14 i
  · rw [if_pos e]
    refine xE.brF (by rw [decide_eq_true e]; rfl) ?_
    refine xE.go 2 (F1 := (24, [some (.ref 11), some (.int (nI i))], [.int 1], w)) rfl ?_
    exact xE.iret .boolean 1 rfl rfl (rfl)
  · rw [if_neg e]
    refine xE.brT (by rw [decide_eq_false e]; rfl) ?_
    refine xE.go 1 (F1 := (24, [some (.ref 11), some (.int (nI i))], [.int 0], w)) rfl ?_
    exact xE.iret .boolean 1 rfl rfl (rfl)
theorem c_eedges_p {w : xW} : xC MX1_edges [.ref 18] w (some (.int (w.1 18 4))) w := by
  unfold xC
  show xE MX1_edges (0, [some (.ref 18)], [], w) _ _
  refine xE.go 2 (F1 := (4, [some (.ref 18)], [.int (w.1 18 4)], w)) rfl ?_
  exact xE.iret .int 1 rfl rfl (rfl)
theorem c_eplaced_p {w : xW} : xC MX1_placedEdges [.ref 18] w (some (.int (w.1 18 5))) w := by
  unfold xC
  show xE MX1_placedEdges (0, [some (.ref 18)], [], w) _ _
  refine xE.go 2 (F1 := (4, [some (.ref 18)], [.int (w.1 18 5)], w)) rfl ?_
  exact xE.iret .int 1 rfl rfl (rfl)
theorem c_efaces_p {w : xW} : xC MX1_faces [.ref 18] w (some (.int (w.1 18 8))) w := by
  unfold xC
  show xE MX1_faces (0, [some (.ref 18)], [], w) _ _
  refine xE.go 2 (F1 := (4, [some (.ref 18)], [.int (w.1 18 8)], w)) rfl ?_
  exact xE.iret .int 1 rfl rfl (rfl)

theorem c_fillNear_t {w : xW} : xD MX4_fillNear [.ref 25] w (fun r w1 => r = none ∧ (∀ v, v < 10 → w1.1 26 v = mk (gr (w.2 25 9) v)) ∧ xkq [(26, none)] w w1) := by
  refine xD.of ?_
  show xQ MX4_fillNear (0, [some (.ref 25), none, none, none], [], w) _
  refine xQ.go 2 (F1 := (2, [some (.ref 25), some (.int 0), none, none], [], w)) rfl ?_
  refine xQ.loop (S := xW) (fun k s => (2, [some (.ref 25), some (.int (nI k)), none, none], [], s)) (fun k s => xkq [(26, none)] w s ∧ ∀ v, v < k → s.1 26 v = mk (gr (w.2 25 9) v)) 10 w (rfl) (⟨xkq_rfl, fun v hv => absurd hv (by omega)⟩) ?_ ?_
  · intro k s hk hI K
    obtain ⟨i1, i2⟩ := hI
    refine xQ.go 3 (F1 := (bif decide (10 ≤ (nI k)) then 61 else 8, [some (.ref 25), some (.int (nI k)), none, none], [], s)) rfl ?_
    refine xQ.brF (decide_eq_false (nI_ge (b := 10) (by omega) (by omega))) ?_
    refine xQ.go 4 (F1 := (12, [some (.ref 25), some (.int (nI k)), some (.int 0), some (.int 0)], [], s)) rfl ?_
    refine xQ.loop (S := Unit) (fun k2 s2 => (12, [some (.ref 25), some (.int (nI k)), some (.int (mk (fun z => decide (z < k2) && gr (w.2 25 9) k z))), some (.int (nI k2))], [], s)) (fun _ _ => True) 10 () (by rw [show mk (fun z => decide (z < 0) && gr (w.2 25 9) k z) = 0 by rw [mk_0]; exact mk_ext fun z _ => by simp]; rfl) (trivial) ?_ ?_
    · intro k2 s2 hk2 hI2 K2
      have K2 := K2 () trivial
      refine xQ.go 3 (F1 := (bif decide (10 ≤ (nI k2)) then 46 else 18, [some (.ref 25), some (.int (nI k)), some (.int (mk (fun z => decide (z < k2) && gr (w.2 25 9) k z))), some (.int (nI k2))], [], s)) rfl ?_
      refine xQ.brF (decide_eq_false (nI_ge (b := 10) (by omega) (by omega))) ?_
      by_cases e : k = k2
      · refine xQ.go 4 (F1 := (24, [some (.ref 25), some (.int (nI k)), some (.int (mk (fun z => decide (z < k2) && gr (w.2 25 9) k z))), some (.int (nI k2))], [.int (nI k2), .int (nI k), .long (s.2 25 9)], s)) rfl ?_
        refine xQ.call rfl (c_pb_0 (fun a b ha hb hne e1 e2 => hne (by rw [← jI_inj (a := k) (b := a) (by omega) (by omega) e1, ← jI_inj (a := k2) (b := b) (by omega) (by omega) e2, e]))) ?_
        show xQ MX4_fillNear (27, [some (.ref 25), some (.int (nI k)), some (.int (mk (fun z => decide (z < k2) && gr (w.2 25 9) k z))), some (.int (nI k2))], [.long 0, .long (s.2 25 9)], s) _
        refine xQ.go 4 (F1 := (bif decide ((lg_cmp ((s.2 25 9) &&& 0) 0) = 0) then 40 else 33, [some (.ref 25), some (.int (nI k)), some (.int (mk (fun z => decide (z < k2) && gr (w.2 25 9) k z))), some (.int (nI k2))], [], s)) rfl ?_
        rw [lg_cmp0]
        refine xQ.brT (decide_eq_true (by simp)) ?_
        refine xQ.go 2 (F1 := (12, [some (.ref 25), some (.int (nI k)), some (.int (mk (fun z => decide (z < k2) && gr (w.2 25 9) k z))), some (.int ((nI k2) + 1))], [], s)) rfl ?_
        rw [← nI_succ, show mk (fun z => decide (z < k2) && gr (w.2 25 9) k z) = mk (fun z => decide (z < k2 + 1) && gr (w.2 25 9) k z) from mk_ext fun z hz => by
          by_cases e2 : z = k2
          · rw [e2, ← e, gr_irr, Bool.and_false, Bool.and_false]
          · rw [show decide (z < k2) = decide (z < k2 + 1) from decide_eq_decide.mpr (by omega)]]
        exact K2
      · refine xQ.go 4 (F1 := (24, [some (.ref 25), some (.int (nI k)), some (.int (mk (fun z => decide (z < k2) && gr (w.2 25 9) k z))), some (.int (nI k2))], [.int (nI k2), .int (nI k), .long (s.2 25 9)], s)) rfl ?_
        refine xQ.call rfl (c_pb (by omega) (by omega) e) ?_
        show xQ MX4_fillNear (27, [some (.ref 25), some (.int (nI k)), some (.int (mk (fun z => decide (z < k2) && gr (w.2 25 9) k z))), some (.int (nI k2))], [.long (pbit k k2), .long (s.2 25 9)], s) _
        refine xQ.go 4 (F1 := (bif decide ((lg_cmp ((s.2 25 9) &&& (pbit k k2)) 0) = 0) then 40 else 33, [some (.ref 25), some (.int (nI k)), some (.int (mk (fun z => decide (z < k2) && gr (w.2 25 9) k z))), some (.int (nI k2))], [], s)) rfl ?_
        rw [lg_cmp0, xkq_atJ i1 25 9]
        cases hg : gr (w.2 25 9) k k2 with
        | true =>
          refine xQ.brF (decide_eq_false (fun e3 => by rw [(and_zero _ (by omega) (by omega) e).mp e3] at hg; cases hg)) ?_
          refine xQ.go 2 (F1 := (35, [some (.ref 25), some (.int (nI k)), some (.int (mk (fun z => decide (z < k2) && gr (w.2 25 9) k z))), some (.int (nI k2))], [.int (nI k2), .int (mk (fun z => decide (z < k2) && gr (w.2 25 9) k z))], s)) rfl ?_
          refine xQ.call rfl (c_bit (show k2 < 10 by omega)) ?_
          show xQ MX4_fillNear (38, [some (.ref 25), some (.int (nI k)), some (.int (mk (fun z => decide (z < k2) && gr (w.2 25 9) k z))), some (.int (nI k2))], [.int (mk (fun v => decide (v = k2))), .int (mk (fun z => decide (z < k2) && gr (w.2 25 9) k z))], s) _
          refine xQ.go 4 (F1 := (12, [some (.ref 25), some (.int (nI k)), some (.int ((mk (fun z => decide (z < k2) && gr (w.2 25 9) k z)) ||| (mk (fun v => decide (v = k2))))), some (.int ((nI k2) + 1))], [], s)) rfl ?_
          rw [mk_or, ← nI_succ, show mk (fun v => (decide (v < k2) && gr (w.2 25 9) k v) || decide (v = k2)) = mk (fun z => decide (z < k2 + 1) && gr (w.2 25 9) k z) from mk_ext fun z hz => by
            by_cases e2 : z = k2
            · rw [e2, hg]; simp
            · rw [show decide (z < k2) = decide (z < k2 + 1) from decide_eq_decide.mpr (by omega), decide_eq_false e2, Bool.or_false]]
          exact K2
        | false =>
          refine xQ.brT (decide_eq_true ((and_zero _ (by omega) (by omega) e).mpr hg)) ?_
          refine xQ.go 2 (F1 := (12, [some (.ref 25), some (.int (nI k)), some (.int (mk (fun z => decide (z < k2) && gr (w.2 25 9) k z))), some (.int ((nI k2) + 1))], [], s)) rfl ?_
          rw [← nI_succ, show mk (fun z => decide (z < k2) && gr (w.2 25 9) k z) = mk (fun z => decide (z < k2 + 1) && gr (w.2 25 9) k z) from mk_ext fun z hz => by
            by_cases e2 : z = k2
            · rw [e2, hg, Bool.and_false, Bool.and_false]
            · rw [show decide (z < k2) = decide (z < k2 + 1) from decide_eq_decide.mpr (by omega)]]
          exact K2
    · intro s2 hI2
      refine xQ.go 3 (F1 := (bif decide (10 ≤ (nI 10)) then 46 else 18, [some (.ref 25), some (.int (nI k)), some (.int (mk (fun z => decide (z < 10) && gr (w.2 25 9) k z))), some (.int (nI 10))], [], s)) rfl ?_
      refine xQ.brT (rfl) ?_
      rw [show mk (fun z => decide (z < 10) && gr (w.2 25 9) k z) = mk (gr (w.2 25 9) k) from mk_ext fun z hz => by rw [decide_eq_true hz, Bool.true_and]]
      refine xQ.go 4 (F1 := (52, [some (.ref 25), some (.int (nI k)), some (.int (mk (gr (w.2 25 9) k))), some (.int (nI 10))], [.int (mk (gr (w.2 25 9) k)), .int (nI k), .ref 26], s)) rfl ?_
      refine xQ.call rfl (c_put rfl (by omega) (by omega)) ?_
      show xQ MX4_fillNear (55, [some (.ref 25), some (.int (nI k)), some (.int (mk (gr (w.2 25 9) k))), some (.int (nI 10))], [], (xuI s 26 k (mk (gr (w.2 25 9) k)))) _
      refine xQ.go 2 (F1 := (2, [some (.ref 25), some (.int ((nI k) + 1)), some (.int (mk (gr (w.2 25 9) k))), some (.int (nI 10))], [], (xuI s 26 k (mk (gr (w.2 25 9) k))))) rfl ?_
      refine xQ.less [some (.ref 25), some (.int ((nI k) + 1)), none, none] (by simp [xleb]) ?_
      rw [← nI_succ]
      refine K _ ⟨xkq_I i1 rfl, fun v hv => ?_⟩
      rw [uI1]
      by_cases e : v = k
      · rw [if_pos ⟨rfl, e⟩, e]
      · rw [if_neg (fun h => e h.2)]
        exact i2 v (by omega)
  · intro s hI
    refine xQ.go 3 (F1 := (bif decide (10 ≤ (nI 10)) then 61 else 8, [some (.ref 25), some (.int (nI 10)), none, none], [], s)) rfl ?_
    refine xQ.brT (rfl) ?_
    refine xQ.vret 1 rfl rfl ?_
    exact ⟨rfl, hI.2, hI.1⟩
theorem c_blockAround_t {w : xW} {G : Nat → Nat → Bool} {a b : Nat} (hw : ∀ v, v < 10 → w.1 26 v = mk (G v)) (ha : a < 10) (hb : b < 10) : xC MX4_blockAround [.ref 25, .int (nI a), .int (nI b)] w (some (.int (mk (bS G (a, b))))) w := by
  unfold xC
  show xE MX4_blockAround (0, [some (.ref 25), some (.int (nI a)), some (.int (nI b)), none, none, none, none], [], w) _ _
  refine xE.go 1 (F1 := (1, [some (.ref 25), some (.int (nI a)), some (.int (nI b)), none, none, none, none], [.int (nI a)], w)) rfl ?_
  refine xE.call rfl (c_bit ha) ?_
  show xE MX4_blockAround (4, [some (.ref 25), some (.int (nI a)), some (.int (nI b)), none, none, none, none], [.int (mk (fun v => decide (v = a)))], w) _ _
  refine xE.go 1 (F1 := (5, [some (.ref 25), some (.int (nI a)), some (.int (nI b)), none, none, none, none], [.int (nI b), .int (mk (fun v => decide (v = a)))], w)) rfl ?_
  refine xE.call rfl (c_bit hb) ?_
  show xE MX4_blockAround (8, [some (.ref 25), some (.int (nI a)), some (.int (nI b)), none, none, none, none], [.int (mk (fun v => decide (v = b))), .int (mk (fun v => decide (v = a)))], w) _ _
  refine xE.go 6 (F1 := (18, [some (.ref 25), some (.int (nI a)), some (.int (nI b)), some (.int ((mk (fun v => decide (v = a))) ||| (mk (fun v => decide (v = b))))), some (.int 1023), some (.int 0), none], [], w)) rfl ?_
  rw [mk_or, show (fun v => decide (v = a) || decide (v = b)) = two a b from rfl]
  refine xE.loop (S := Unit) (fun k s => (18, [some (.ref 25), some (.int (nI a)), some (.int (nI b)), some (.int (mk (two a b))), some (.int (mk (fun z => ally (fun u => decide (z = u) || rch G (but u) (two a b) z) k))), some (.int (nI k)), none], [], w)) (fun _ _ => True) 10 () (by rw [show mk (fun z => ally (fun u => decide (z = u) || rch G (but u) (two a b) z) 0) = 1023 by rw [mk_all]; rfl]; rfl) (trivial) ?_ ?_
  · intro k s hk hI K
    have K := K () trivial
    refine xE.go 3 (F1 := (bif decide (10 ≤ (nI k)) then 68 else 25, [some (.ref 25), some (.int (nI a)), some (.int (nI b)), some (.int (mk (two a b))), some (.int (mk (fun z => ally (fun u => decide (z = u) || rch G (but u) (two a b) z) k))), some (.int (nI k)), none], [], w)) rfl ?_
    refine xE.brF (decide_eq_false (nI_ge (b := 10) (by omega) (by omega))) ?_
    refine xE.go 2 (F1 := (30, [some (.ref 25), some (.int (nI a)), some (.int (nI b)), some (.int (mk (two a b))), some (.int (mk (fun z => ally (fun u => decide (z = u) || rch G (but u) (two a b) z) k))), some (.int (nI k)), none], [.int (nI k), .int 1023], w)) rfl ?_
    refine xE.call rfl (c_bit (show k < 10 by omega)) ?_
    show xE MX4_blockAround (33, [some (.ref 25), some (.int (nI a)), some (.int (nI b)), some (.int (mk (two a b))), some (.int (mk (fun z => ally (fun u => decide (z = u) || rch G (but u) (two a b) z) k))), some (.int (nI k)), none], [.int (mk (fun v => decide (v = k))), .int 1023], w) _ _
    refine xE.go 3 (F1 := (36, [some (.ref 25), some (.int (nI a)), some (.int (nI b)), some (.int (mk (two a b))), some (.int (mk (fun z => ally (fun u => decide (z = u) || rch G (but u) (two a b) z) k))), some (.int (nI k)), none], [.int (1023 &&& ((mk (fun v => decide (v = k))) ^^^ (-1)))], w)) rfl ?_
    rw [mk_all, mk_andn, show (fun v => true && !decide (v = k)) = but k from funext fun v => by simp [but]]
    refine xE.go 8 (F1 := (50, [some (.ref 25), some (.int (nI a)), some (.int (nI b)), some (.int (mk (two a b))), some (.int (mk (fun z => ally (fun u => decide (z = u) || rch G (but u) (two a b) z) k))), some (.int (nI k)), some (.int (mk (but k)))], [.int (mk (but k)), .int ((mk (two a b)) &&& (mk (but k))), .ref 26, .int (mk (fun z => ally (fun u => decide (z = u) || rch G (but u) (two a b) z) k))], w)) rfl ?_
    rw [mk_and]
    refine xE.call rfl (c_reach rfl hw) ?_
    show xE MX4_blockAround (53, [some (.ref 25), some (.int (nI a)), some (.int (nI b)), some (.int (mk (two a b))), some (.int (mk (fun z => ally (fun u => decide (z = u) || rch G (but u) (two a b) z) k))), some (.int (nI k)), some (.int (mk (but k)))], [.int (mk (rch G (but k) (fun v => two a b v && but k v))), .int (mk (fun z => ally (fun u => decide (z = u) || rch G (but u) (two a b) z) k))], w) _ _
    refine xE.go 1 (F1 := (55, [some (.ref 25), some (.int (nI a)), some (.int (nI b)), some (.int (mk (two a b))), some (.int (mk (fun z => ally (fun u => decide (z = u) || rch G (but u) (two a b) z) k))), some (.int (nI k)), some (.int (mk (but k)))], [.int (nI k), .int (mk (rch G (but k) (fun v => two a b v && but k v))), .int (mk (fun z => ally (fun u => decide (z = u) || rch G (but u) (two a b) z) k))], w)) rfl ?_
    refine xE.call rfl (c_bit (show k < 10 by omega)) ?_
    show xE MX4_blockAround (58, [some (.ref 25), some (.int (nI a)), some (.int (nI b)), some (.int (mk (two a b))), some (.int (mk (fun z => ally (fun u => decide (z = u) || rch G (but u) (two a b) z) k))), some (.int (nI k)), some (.int (mk (but k)))], [.int (mk (fun v => decide (v = k))), .int (mk (rch G (but k) (fun v => two a b v && but k v))), .int (mk (fun z => ally (fun u => decide (z = u) || rch G (but u) (two a b) z) k))], w) _ _
    refine xE.go 2 (F1 := (60, [some (.ref 25), some (.int (nI a)), some (.int (nI b)), some (.int (mk (two a b))), some (.int (mk (fun z => ally (fun u => decide (z = u) || rch G (but u) (two a b) z) k))), some (.int (nI k)), some (.int (mk (but k)))], [.int ((mk (fun z => ally (fun u => decide (z = u) || rch G (but u) (two a b) z) k)) &&& ((mk (rch G (but k) (fun v => two a b v && but k v))) ||| (mk (fun v => decide (v = k)))))], w)) rfl ?_
    rw [mk_or, mk_and]
    refine xE.go 3 (F1 := (18, [some (.ref 25), some (.int (nI a)), some (.int (nI b)), some (.int (mk (two a b))), some (.int (mk (fun z => ally (fun u => decide (z = u) || rch G (but u) (two a b) z) k && (rch G (but k) (fun v => two a b v && but k v) z || decide (z = k))))), some (.int ((nI k) + 1)), some (.int (mk (but k)))], [], w)) rfl ?_
    refine xE.less [some (.ref 25), some (.int (nI a)), some (.int (nI b)), some (.int (mk (two a b))), some (.int (mk (fun z => ally (fun u => decide (z = u) || rch G (but u) (two a b) z) k && (rch G (but k) (fun v => two a b v && but k v) z || decide (z = k))))), some (.int ((nI k) + 1)), none] (by simp [xleb]) ?_
    rw [← nI_succ, show mk (fun z => ally (fun u => decide (z = u) || rch G (but u) (two a b) z) k && (rch G (but k) (fun v => two a b v && but k v) z || decide (z = k))) = mk (fun z => ally (fun u => decide (z = u) || rch G (but u) (two a b) z) (k + 1)) from mk_ext fun z hz => by
      rw [rch_two z hz, Bool.or_comm]
      rfl]
    exact K
  · intro s hI
    refine xE.go 3 (F1 := (bif decide (10 ≤ (nI 10)) then 68 else 25, [some (.ref 25), some (.int (nI a)), some (.int (nI b)), some (.int (mk (two a b))), some (.int (mk (fun z => ally (fun u => decide (z = u) || rch G (but u) (two a b) z) 10))), some (.int (nI 10)), none], [], w)) rfl ?_
    refine xE.brT (rfl) ?_
    rw [show mk (fun z => ally (fun u => decide (z = u) || rch G (but u) (two a b) z) 10) = mk (bS G (a, b)) from mk_ext fun z hz => by
      show _ = (decide (z < 10) && _)
      rw [decide_eq_true hz, Bool.true_and]
      rfl]
    refine xE.go 1 (F1 := (70, [some (.ref 25), some (.int (nI a)), some (.int (nI b)), some (.int (mk (two a b))), some (.int (mk (bS G (a, b)))), some (.int (nI 10)), none], [.int (mk (bS G (a, b)))], w)) rfl ?_
    exact xE.iret .int 1 rfl rfl (rfl)
theorem c_blockOf_t {w : xW} {G : Nat → Nat → Bool} {a b : Nat} {l : List xPr} (ha : a < 10) (hb : b < 10) (hn : w.1 25 7 = nI l.length) (h9 : l.length ≤ 9) (hl : ∀ i p, l[i]? = some p → w.1 27 i = mk (bS G p)) : xC MX4_blockOf [.ref 25, .int (nI a), .int (nI b)] w (some (.int (match l.findIdx? (fun p => bS G p a && bS G p b) with | some i => nI i | none => -1))) w := by
  unfold xC
  show xE MX4_blockOf (0, [some (.ref 25), some (.int (nI a)), some (.int (nI b)), none, none], [], w) _ _
  refine xE.go 1 (F1 := (1, [some (.ref 25), some (.int (nI a)), some (.int (nI b)), none, none], [.int (nI a)], w)) rfl ?_
  refine xE.call rfl (c_bit ha) ?_
  show xE MX4_blockOf (4, [some (.ref 25), some (.int (nI a)), some (.int (nI b)), none, none], [.int (mk (fun v => decide (v = a)))], w) _ _
  refine xE.go 1 (F1 := (5, [some (.ref 25), some (.int (nI a)), some (.int (nI b)), none, none], [.int (nI b), .int (mk (fun v => decide (v = a)))], w)) rfl ?_
  refine xE.call rfl (c_bit hb) ?_
  show xE MX4_blockOf (8, [some (.ref 25), some (.int (nI a)), some (.int (nI b)), none, none], [.int (mk (fun v => decide (v = b))), .int (mk (fun v => decide (v = a)))], w) _ _
  refine xE.go 4 (F1 := (13, [some (.ref 25), some (.int (nI a)), some (.int (nI b)), some (.int ((mk (fun v => decide (v = a))) ||| (mk (fun v => decide (v = b))))), some (.int 0)], [], w)) rfl ?_
  rw [mk_or, show (fun v => decide (v = a) || decide (v = b)) = two a b from rfl]
  refine xE.loop (S := Unit) (fun k s => (13, [some (.ref 25), some (.int (nI a)), some (.int (nI b)), some (.int (mk (two a b))), some (.int (nI k))], [], w)) (fun k _ => ∀ i p, i < k → l[i]? = some p → (bS G p a && bS G p b) = false) l.length () (rfl) (fun _ _ h => absurd h (by omega)) ?_ ?_
  · intro k s hk hI K
    have hg : l[k]? = some l[k] := List.getElem?_eq_getElem hk
    refine xE.go 4 (F1 := (bif decide ((w.1 25 7) ≤ (nI k)) then 47 else 22, [some (.ref 25), some (.int (nI a)), some (.int (nI b)), some (.int (mk (two a b))), some (.int (nI k))], [], w)) rfl ?_
    refine xE.brF (by rw [hn]; exact decide_eq_false (nI_ge hk (by omega))) ?_
    refine xE.go 4 (F1 := (29, [some (.ref 25), some (.int (nI a)), some (.int (nI b)), some (.int (mk (two a b))), some (.int (nI k))], [.int (nI k), .ref 27, .int (mk (two a b))], w)) rfl ?_
    refine xE.call rfl (c_at rfl (by omega) (by omega)) ?_
    show xE MX4_blockOf (32, [some (.ref 25), some (.int (nI a)), some (.int (nI b)), some (.int (mk (two a b))), some (.int (nI k))], [.int (w.1 27 k), .int (mk (two a b))], w) _ _
    rw [hl k _ hg]
    refine xE.go 4 (F1 := (bif !decide (((mk (two a b)) &&& ((mk (bS G l[k])) ^^^ (-1))) = 0) then 41 else 38, [some (.ref 25), some (.int (nI a)), some (.int (nI b)), some (.int (mk (two a b))), some (.int (nI k))], [], w)) rfl ?_
    rw [mk_andn, mk_ends ha hb]
    cases hf : (bS G l[k] a && bS G l[k] b) with
    | true =>
      refine xE.brF (by decide) ?_
      rw [show l.findIdx? (fun p => bS G p a && bS G p b) = some k from List.findIdx?_eq_some_iff_getElem.mpr ⟨hk, hf, fun j hj => by
        rw [hI j _ hj (List.getElem?_eq_getElem (by omega))]
        decide⟩]
      refine xE.go 1 (F1 := (40, [some (.ref 25), some (.int (nI a)), some (.int (nI b)), some (.int (mk (two a b))), some (.int (nI k))], [.int (nI k)], w)) rfl ?_
      exact xE.iret .int 1 rfl rfl (rfl)
    | false =>
      refine xE.brT (by decide) ?_
      refine xE.go 2 (F1 := (13, [some (.ref 25), some (.int (nI a)), some (.int (nI b)), some (.int (mk (two a b))), some (.int ((nI k) + 1))], [], w)) rfl ?_
      rw [← nI_succ]
      refine K () (fun i p hi hp => ?_)
      by_cases e : i = k
      · rw [e, hg] at hp
        cases hp
        exact hf
      · exact hI i p (by omega) hp
  · intro s hI
    refine xE.go 4 (F1 := (bif decide ((w.1 25 7) ≤ (nI l.length)) then 47 else 22, [some (.ref 25), some (.int (nI a)), some (.int (nI b)), some (.int (mk (two a b))), some (.int (nI l.length))], [], w)) rfl ?_
    refine xE.brT (by rw [hn]; exact decide_eq_true (Int32.le_refl _)) ?_
    rw [show l.findIdx? (fun p => bS G p a && bS G p b) = none from List.findIdx?_eq_none_iff.mpr fun p hp => by
      obtain ⟨i, hi, e⟩ := List.mem_iff_getElem.mp hp
      exact hI i p hi (by rw [List.getElem?_eq_getElem hi, e])]
    refine xE.go 1 (F1 := (48, [some (.ref 25), some (.int (nI a)), some (.int (nI b)), some (.int (mk (two a b))), some (.int (nI l.length))], [.int (-1)], w)) rfl ?_
    exact xE.iret .int 1 rfl rfl (rfl)
theorem c_flat_t {w : xW} {i : Nat} (hi : i < 9) : xC MX4_isPlanar [.ref 25, .int (nI i)] w (some (.int (if w.1 30 i = w.1 28 i then 1 else 0))) w := by
  unfold xC
  show xE MX4_isPlanar (0, [some (.ref 25), some (.int (nI i))], [], w) _ _
  refine xE.go 3 (F1 := (5, [some (.ref 25), some (.int (nI i))], [.int (nI i), .ref 30], w)) rfl ?_
  refine xE.call rfl (c_at rfl hi (by omega)) ?_
  show xE MX4_isPlanar (8, [some (.ref 25), some (.int (nI i))], [.int (w.1 30 i)], w) _ _
  refine xE.go 3 (F1 := (13, [some (.ref 25), some (.int (nI i))], [.int (nI i), .ref 28, .int (w.1 30 i)], w)) rfl ?_
  refine xE.call rfl (c_at rfl hi (by omega)) ?_
  show xE MX4_isPlanar (16, [some (.ref 25), some (.int (nI i))], [.int (w.1 28 i), .int (w.1 30 i)], w) _ _
  refine xE.go 1 (F1 := (bif !decide ((w.1 30 i) = (w.1 28 i)) then 23 else 19, [some (.ref 25), some (.int (nI i))], [], w)) rfl ?_
  by_cases e : w.1 30 i = w.1 28 i
  · rw [if_pos e]
    refine xE.brF (by rw [decide_eq_true e]; rfl) ?_
    refine xE.go 2 (F1 := (24, [some (.ref 25), some (.int (nI i))], [.int 1], w)) rfl ?_
    exact xE.iret .boolean 1 rfl rfl (rfl)
  · rw [if_neg e]
    refine xE.brT (by rw [decide_eq_false e]; rfl) ?_
    refine xE.go 1 (F1 := (24, [some (.ref 25), some (.int (nI i))], [.int 0], w)) rfl ?_
    exact xE.iret .boolean 1 rfl rfl (rfl)
theorem c_eedges_t {w : xW} : xC MX1_edges [.ref 32] w (some (.int (w.1 32 4))) w := by
  unfold xC
  show xE MX1_edges (0, [some (.ref 32)], [], w) _ _
  refine xE.go 2 (F1 := (4, [some (.ref 32)], [.int (w.1 32 4)], w)) rfl ?_
  exact xE.iret .int 1 rfl rfl (rfl)
theorem c_eplaced_t {w : xW} : xC MX1_placedEdges [.ref 32] w (some (.int (w.1 32 5))) w := by
  unfold xC
  show xE MX1_placedEdges (0, [some (.ref 32)], [], w) _ _
  refine xE.go 2 (F1 := (4, [some (.ref 32)], [.int (w.1 32 5)], w)) rfl ?_
  exact xE.iret .int 1 rfl rfl (rfl)
theorem c_efaces_t {w : xW} : xC MX1_faces [.ref 32] w (some (.int (w.1 32 8))) w := by
  unfold xC
  show xE MX1_faces (0, [some (.ref 32)], [], w) _ _
  refine xE.go 2 (F1 := (4, [some (.ref 32)], [.int (w.1 32 8)], w)) rfl ?_
  exact xE.iret .int 1 rfl rfl (rfl)
end
section
/-! what is told of a block -/
def bE (G : Nat → Nat → Bool) (p : xPr) : Nat := ec (bH G (bS G p))
/-- how the run of the embedding ends -/
def bR (G : Nat → Nat → Bool) (p : xPr) : xSg := erun (bH G (bS G p)) (bS G p) (bE G p) 45 (cyc1 (bH G (bS G p)) (bS G p))
def bPl (G : Nat → Nat → Bool) (p : xPr) : Nat := if bE G p = 1 then 1 else (bR G p).2.2.2
def bFa (G : Nat → Nat → Bool) (p : xPr) : Nat := if bE G p = 1 then 1 else (bR G p).2.2.1.length
/-- at v, behind x there is y -/
def bSc (G : Nat → Nat → Bool) (p : xPr) (v x y : Nat) : Prop := if bE G p = 1 then (v = p.1 ∧ x = p.2 ∧ y = p.2) ∨ (v = p.2 ∧ x = p.1 ∧ y = p.1) else ∃ f ∈ (bR G p).2.2.1, (x, v) ∈ dts f ∧ (v, y) ∈ dts f
theorem ec_deg {H : Nat → Nat → Bool} {S : Nat → Bool} (hb : BIC H S) {l : List Nat} (hn : l.Nodup) (hl : ∀ v ∈ l, v < 10 ∧ ∃ y, H v y = true) : l.length ≤ 2 * ec H := by
  rw [← ec_sm hb, ← cnt_list hn (fun v hv => (hl v hv).1), ← sm_cnt]
  refine sm_le fun i _ => ?_
  by_cases h : i ∈ l
  · obtain ⟨h1, y, hy⟩ := hl i h
    rw [decide_eq_true h]
    have hy10 := (hb.2.2.1 _ _ hy).2.1
    have := cnt_mono (S := fun v => decide (v = y)) (T := H i) (n := 10) fun v _ hv => by rw [of_decide_eq_true hv]; exact hy
    rw [cnt_eq, if_pos hy10] at this
    exact this
  · rw [decide_eq_false h]
    exact Nat.zero_le _
theorem bE_pos {G : Nat → Nat → Bool} (hg : gok G) {p : xPr} (hp : G p.1 p.2 = true) : 1 ≤ bE G p := by
  have hb := bS_bic hg hp
  have h10 := hg.2.2 _ _ hp
  have ha : bS G p p.1 = true := bS_iff.mpr ⟨h10.1, Bs_a hg hp⟩
  have hbb : bS G p p.2 = true := bS_iff.mpr ⟨h10.2, Bs_b hg hp⟩
  have := ec_deg hb (l := [p.1]) (by simp) (fun v hv => by
    rw [List.mem_singleton] at hv
    rw [hv]
    exact ⟨h10.1, p.2, bH_iff.mpr ⟨hp, ha, hbb⟩⟩)
  unfold bE
  simp only [List.length_cons, List.length_nil] at this
  omega
theorem bS_one {G : Nat → Nat → Bool} (hg : gok G) {p : xPr} (hp : G p.1 p.2 = true) (h1 : bE G p = 1) (v : Nat) : bS G p v = two p.1 p.2 v := by
  have hb := bS_bic hg hp
  have h10 := hg.2.2 _ _ hp
  have ha : bS G p p.1 = true := bS_iff.mpr ⟨h10.1, Bs_a hg hp⟩
  have hbb : bS G p p.2 = true := bS_iff.mpr ⟨h10.2, Bs_b hg hp⟩
  have hne : p.1 ≠ p.2 := fun e => by
    rw [e, hg.2.1] at hp
    cases hp
  apply Bool.eq_iff_iff.mpr
  rw [two_iff]
  constructor
  · intro hv
    by_cases e1 : v = p.1
    · exact Or.inl e1
    · by_cases e2 : v = p.2
      · exact Or.inr e2
      · exfalso
        obtain ⟨z, hz⟩ := bS_edge hg hp hv
        have := ec_deg hb (l := [v, p.1, p.2]) (by simp [e1, e2, hne]) (fun u hu => by
          simp only [List.mem_cons, List.not_mem_nil, or_false] at hu
          rcases hu with e | e | e
          · rw [e]; exact ⟨(bS_iff.mp hv).1, z, hz⟩
          · rw [e]; exact ⟨h10.1, p.2, bH_iff.mpr ⟨hp, ha, hbb⟩⟩
          · rw [e]; exact ⟨h10.2, p.1, bH_iff.mpr ⟨by rw [hg.1]; exact hp, hbb, ha⟩⟩)
        unfold bE at h1
        simp only [List.length_cons, List.length_nil] at this
        omega
  · rintro (e | e) <;> rw [e] <;> assumption
theorem bR_ok {G : Nat → Nat → Bool} (hg : gok G) {p : xPr} (hp : G p.1 p.2 = true) (h1 : bE G p ≠ 1) : EOK (bH G (bS G p)) (bS G p) (bR G p) := by
  have hb := bS_bic hg hp
  have hS : ∀ v, bS G p v = true → v < 10 := fun v hv => (bS_iff.mp hv).1
  have h2 := bE_pos hg hp
  obtain ⟨_, _, _, _, _, _, _, _, _, _, _, _, _, _, _, _, hE⟩ := cyc0_ok hb hS (show 2 ≤ ec _ by unfold bE at h1 h2; omega)
  have := ec_45 (bH G (bS G p))
  exact (erun_ok hb hS 45 _ hE (by omega)).1
end
section
theorem bPl_le {G : Nat → Nat → Bool} (hg : gok G) {p : xPr} (hp : G p.1 p.2 = true) : bPl G p ≤ 45 ∧ bE G p ≤ 45 := by
  have h45 : bE G p ≤ 45 := ec_45 _
  refine ⟨?_, h45⟩
  unfold bPl
  split
  · omega
  · next h =>
    have : (bR G p).2.2.2 ≤ bE G p := EOK_le (bS_bic hg hp) (bR_ok hg hp h)
    omega
theorem c_keep_p {w : xW} {G : Nat → Nat → Bool} {p : xPr} {n : Nat} (hg : gok G) (hp : G p.1 p.2 = true) (hlt : p.1 < p.2) (hn : w.1 11 7 = nI n) (h9 : n < 9) (hG : eG 18 19 w (bH G (bS G p)) (bS G p)) (h1 : bE G p = 1 → w.1 18 5 = 1 ∧ w.1 18 8 = 1) (hr : bE G p ≠ 1 → eP 18 20 w (bR G p).1 (bR G p).2.1 (bR G p).2.2.2 ∧ eF 18 21 22 w (bR G p).2.2.1) : xD MX4_keepBlock [.ref 11, .int (mk (bS G p))] w (fun r w1 => r = none ∧ w1.1 11 7 = nI (n + 1) ∧ (w1.1 13 n = mk (bS G p) ∧ w1.1 14 n = nI (bE G p) ∧ w1.1 16 n = nI (bPl G p) ∧ w1.1 15 n = nI (bFa G p)) ∧ (bPl G p = bE G p → w1.1 11 8 = w.1 11 8 ∧ ∀ v x y, bSc G p v x y → w1.1 17 (10 * v + x) = nI y) ∧ (bPl G p ≠ bE G p → w1.1 11 8 = 0) ∧ (∀ v x, v < 10 → x < 10 → bH G (bS G p) v x = false → w1.1 17 (10 * v + x) = w.1 17 (10 * v + x)) ∧ (∀ i, i ≠ n → w1.1 13 i = w.1 13 i ∧ w1.1 14 i = w.1 14 i ∧ w1.1 15 i = w.1 15 i ∧ w1.1 16 i = w.1 16 i) ∧ xkq [(11, some 7), (11, some 8), (13, none), (14, none), (15, none), (16, none), (17, none)] w w1) := by
  obtain ⟨hle1, hle2⟩ := bPl_le hg hp
  have h10 := hg.2.2 _ _ hp
  have f4 : w.1 18 4 = nI (bE G p) := hG.2.2
  have f5 : w.1 18 5 = nI (bPl G p) := by
    unfold bPl
    split
    · next h => exact (h1 h).1
    · next h => exact (hr h).1.2.2
  have f8 : w.1 18 8 = nI (bFa G p) := by
    unfold bFa
    split
    · next h => exact (h1 h).2
    · next h => exact (hr h).2.1
  refine xD.of ?_
  show xQ MX4_keepBlock (0, [some (.ref 11), some (.int (mk (bS G p)))], [], w) _
  refine xQ.go 4 (F1 := (8, [some (.ref 11), some (.int (mk (bS G p)))], [.int (w.1 11 7), .ref 13], w)) rfl ?_
  rw [hn]
  refine xQ.go 1 (F1 := (9, [some (.ref 11), some (.int (mk (bS G p)))], [.int (mk (bS G p)), .int (nI n), .ref 13], w)) rfl ?_
  refine xQ.call rfl (c_put rfl h9 (by omega)) ?_
  show xQ MX4_keepBlock (12, [some (.ref 11), some (.int (mk (bS G p)))], [], (xuI w 13 n (mk (bS G p)))) _
  obtain ⟨w1, e1⟩ : ∃ w1, w1 = (xuI w 13 n (mk (bS G p))) := ⟨_, rfl⟩
  have k1 : xkq [(13, none)] w w1 := by rw [e1]; exact xkq_I xkq_rfl rfl
  rw [← e1]
  refine xQ.go 4 (F1 := (20, [some (.ref 11), some (.int (mk (bS G p)))], [.int (w1.1 11 7), .ref 14], w1)) rfl ?_
  rw [xkq_at k1 11 7, hn]
  refine xQ.go 2 (F1 := (24, [some (.ref 11), some (.int (mk (bS G p)))], [.ref 18, .int (nI n), .ref 14], w1)) rfl ?_
  refine xQ.call rfl (c_eedges_p) ?_
  show xQ MX4_keepBlock (27, [some (.ref 11), some (.int (mk (bS G p)))], [.int (w1.1 18 4), .int (nI n), .ref 14], w1) _
  rw [xkq_at k1 18 4, f4]
  refine xQ.call rfl (c_put rfl h9 (by omega)) ?_
  show xQ MX4_keepBlock (30, [some (.ref 11), some (.int (mk (bS G p)))], [], (xuI w1 14 n (nI (bE G p)))) _
  obtain ⟨w2, e2⟩ : ∃ w2, w2 = (xuI w1 14 n (nI (bE G p))) := ⟨_, rfl⟩
  have k2 : xkq [(13, none), (14, none)] w w2 := by rw [e2]; exact xkq_I (xkq_mono rfl k1) rfl
  rw [← e2]
  refine xQ.go 4 (F1 := (38, [some (.ref 11), some (.int (mk (bS G p)))], [.int (w2.1 11 7), .ref 16], w2)) rfl ?_
  rw [xkq_at k2 11 7, hn]
  refine xQ.go 2 (F1 := (42, [some (.ref 11), some (.int (mk (bS G p)))], [.ref 18, .int (nI n), .ref 16], w2)) rfl ?_
  refine xQ.call rfl (c_eplaced_p) ?_
  show xQ MX4_keepBlock (45, [some (.ref 11), some (.int (mk (bS G p)))], [.int (w2.1 18 5), .int (nI n), .ref 16], w2) _
  rw [xkq_at k2 18 5, f5]
  refine xQ.call rfl (c_put rfl h9 (by omega)) ?_
  show xQ MX4_keepBlock (48, [some (.ref 11), some (.int (mk (bS G p)))], [], (xuI w2 16 n (nI (bPl G p)))) _
  obtain ⟨w3, e3⟩ : ∃ w3, w3 = (xuI w2 16 n (nI (bPl G p))) := ⟨_, rfl⟩
  have k3 : xkq [(13, none), (14, none), (16, none)] w w3 := by rw [e3]; exact xkq_I (xkq_mono rfl k2) rfl
  rw [← e3]
  refine xQ.go 4 (F1 := (56, [some (.ref 11), some (.int (mk (bS G p)))], [.int (w3.1 11 7), .ref 15], w3)) rfl ?_
  rw [xkq_at k3 11 7, hn]
  refine xQ.go 2 (F1 := (60, [some (.ref 11), some (.int (mk (bS G p)))], [.ref 18, .int (nI n), .ref 15], w3)) rfl ?_
  refine xQ.call rfl (c_efaces_p) ?_
  show xQ MX4_keepBlock (63, [some (.ref 11), some (.int (mk (bS G p)))], [.int (w3.1 18 8), .int (nI n), .ref 15], w3) _
  rw [xkq_at k3 18 8, f8]
  refine xQ.call rfl (c_put rfl h9 (by omega)) ?_
  show xQ MX4_keepBlock (66, [some (.ref 11), some (.int (mk (bS G p)))], [], (xuI w3 15 n (nI (bFa G p)))) _
  obtain ⟨w4, e4⟩ : ∃ w4, w4 = (xuI w3 15 n (nI (bFa G p))) := ⟨_, rfl⟩
  have k4 : xkq [(13, none), (14, none), (15, none), (16, none)] w w4 := by rw [e4]; exact xkq_I (xkq_mono rfl k3) rfl
  rw [← e4]
  have row : w4.1 13 n = mk (bS G p) ∧ w4.1 14 n = nI (bE G p) ∧ w4.1 16 n = nI (bPl G p) ∧ w4.1 15 n = nI (bFa G p) := by
    rw [e4, e3, e2, e1]
    simp [uI1]
  have oth : ∀ i, i ≠ n → w4.1 13 i = w.1 13 i ∧ w4.1 14 i = w.1 14 i ∧ w4.1 15 i = w.1 15 i ∧ w4.1 16 i = w.1 16 i := fun i hi => by
    rw [e4, e3, e2, e1]
    simp [uI1, hi]
  refine xQ.go 3 (F1 := (71, [some (.ref 11), some (.int (mk (bS G p)))], [.int (w4.1 11 7), .ref 11], w4)) rfl ?_
  rw [xkq_at k4 11 7, hn]
  refine xQ.call rfl (c_flat_p h9) ?_
  show xQ MX4_keepBlock (74, [some (.ref 11), some (.int (mk (bS G p)))], [.int (if w4.1 16 n = w4.1 14 n then 1 else 0)], w4) _
  have q1 : eG 18 19 w4 (bH G (bS G p)) (bS G p) := ⟨fun v hv => by rw [xkq_at k4 19 v]; exact hG.1 v hv, by rw [xkq_at k4 18 2]; exact hG.2.1, by rw [xkq_at k4 18 4]; exact hG.2.2⟩
  by_cases hfl : bPl G p = bE G p
  · rw [if_pos (by rw [row.2.2.1, row.2.1, hfl])]
    refine xQ.go 1 (F1 := (bif decide (1 = 0) then 91 else 77, [some (.ref 11), some (.int (mk (bS G p)))], [], w4)) rfl ?_
    refine xQ.brF (rfl) ?_
    have tail : ∀ w5 : xW, xkq [(17, none)] w4 w5 → (∀ v x y, bSc G p v x y → w5.1 17 (10 * v + x) = nI y) → (∀ v x, v < 10 → x < 10 → bH G (bS G p) v x = false → w5.1 17 (10 * v + x) = w4.1 17 (10 * v + x)) → xQ MX4_keepBlock (88, [some (.ref 11), some (.int (mk (bS G p)))], [], w5) (fun r w1 => r = none ∧ w1.1 11 7 = nI (n + 1) ∧ (w1.1 13 n = mk (bS G p) ∧ w1.1 14 n = nI (bE G p) ∧ w1.1 16 n = nI (bPl G p) ∧ w1.1 15 n = nI (bFa G p)) ∧ (bPl G p = bE G p → w1.1 11 8 = w.1 11 8 ∧ ∀ v x y, bSc G p v x y → w1.1 17 (10 * v + x) = nI y) ∧ (bPl G p ≠ bE G p → w1.1 11 8 = 0) ∧ (∀ v x, v < 10 → x < 10 → bH G (bS G p) v x = false → w1.1 17 (10 * v + x) = w.1 17 (10 * v + x)) ∧ (∀ i, i ≠ n → w1.1 13 i = w.1 13 i ∧ w1.1 14 i = w.1 14 i ∧ w1.1 15 i = w.1 15 i ∧ w1.1 16 i = w.1 16 i) ∧ xkq [(11, some 7), (11, some 8), (13, none), (14, none), (15, none), (16, none), (17, none)] w w1) := by
      intro w5 k5 t1 t2
      refine xQ.go 7 (F1 := (106, [some (.ref 11), some (.int (mk (bS G p)))], [], (xuI w5 11 7 ((w5.1 11 7) + 1)))) rfl ?_
      refine xQ.vret 1 rfl rfl ?_
      refine ⟨rfl, ?_, ?_, fun _ => ⟨?_, fun v x y h => ?_⟩, fun h => absurd hfl h, fun v x hv hx h => ?_, fun i hi => ?_, xkq_I (xkq_trans (xkq_mono rfl k4) (xkq_mono rfl k5)) rfl⟩
      · simp [uI1, xkq_at k5 11 7, xkq_at k4 11 7, hn, nI_succ]
      · simp [uI1, xkq_at k5 13 n, xkq_at k5 14 n, xkq_at k5 15 n, xkq_at k5 16 n, row]
      · simp [uI1, xkq_at k5 11 8, xkq_at k4 11 8]
      · simpa [uI1] using t1 v x y h
      · have := t2 v x hv hx h
        rw [xkq_at k4 17] at this
        simpa [uI1] using this
      · have := oth i hi
        rw [← xkq_at k5 13 i, ← xkq_at k5 14 i, ← xkq_at k5 15 i, ← xkq_at k5 16 i] at this
        simpa [uI1] using this
    by_cases he : bE G p = 1
    · refine xQ.go 4 (F1 := (85, [some (.ref 11), some (.int (mk (bS G p)))], [.ref 17, .ref 18], w4)) rfl ?_
      refine xQ.call rfl (c_succ1_p q1 he hlt h10.2 (fun v _ => bS_one hg hp he v)) ?_
      show xQ MX4_keepBlock (88, [some (.ref 11), some (.int (mk (bS G p)))], [], (xuI (xuI w4 17 (10 * p.1 + p.2) (nI p.2)) 17 (10 * p.2 + p.1) (nI p.1))) _
      refine tail _ (xkq_I (xkq_I xkq_rfl rfl) rfl) (fun v x y h => ?_) (fun v x hv hx h => ?_)
      · unfold bSc at h
        rw [if_pos he] at h
        rcases h with ⟨rfl, rfl, rfl⟩ | ⟨rfl, rfl, rfl⟩
        · rw [uI1, if_neg (by omega), uI1, if_pos ⟨rfl, rfl⟩]
        · rw [uI1, if_pos ⟨rfl, rfl⟩]
      · have ha : bS G p p.1 = true := bS_iff.mpr ⟨h10.1, Bs_a hg hp⟩
        have hbb : bS G p p.2 = true := bS_iff.mpr ⟨h10.2, Bs_b hg hp⟩
        have hH : bH G (bS G p) p.1 p.2 = true := bH_iff.mpr ⟨hp, ha, hbb⟩
        have hH2 : bH G (bS G p) p.2 p.1 = true := bH_iff.mpr ⟨by rw [hg.1]; exact hp, hbb, ha⟩
        rw [uI1, if_neg, uI1, if_neg]
        · rintro ⟨_, e⟩
          have e1 : v = p.1 := by omega
          have e2 : x = p.2 := by omega
          rw [e1, e2, hH] at h
          cases h
        · rintro ⟨_, e⟩
          have e1 : v = p.2 := by omega
          have e2 : x = p.1 := by omega
          rw [e1, e2, hH2] at h
          cases h
    · have hEO := bR_ok hg hp he
      have hb := bS_bic hg hp
      have q3 : eF 18 21 22 w4 (bR G p).2.2.1 := ⟨by rw [xkq_at k4 18 8]; exact (hr he).2.1, fun i c hi => ⟨by rw [xkq_at k4 21 i]; exact ((hr he).2.2 i c hi).1, fun x y hxy => by rw [xkq_at k4 22 _]; exact ((hr he).2.2 i c hi).2 x y hxy⟩⟩
      have hIV := hEO.1
      have hall := EOK_all hb hEO (by unfold bPl at hfl; rw [if_neg he] at hfl; exact hfl)
      obtain ⟨r5, w5, hc5, hr5, hS5, hk5⟩ := c_succ_p q1 he (ec_45 _) q3 (EOK_max hEO).1 hIV.2.2.2.2.1 (fun f hf => (hIV.2.2.2.1 f hf).1) (fun f hf x hx => (bS_iff.mp (hIV.2.2.1 x ((hIV.2.2.2.1 f hf).2.2 x hx))).1)
      subst hr5
      refine xQ.go 4 (F1 := (85, [some (.ref 11), some (.int (mk (bS G p)))], [.ref 17, .ref 18], w4)) rfl ?_
      refine xQ.call rfl (hc5) ?_
      show xQ MX4_keepBlock (88, [some (.ref 11), some (.int (mk (bS G p)))], [], w5) _
      refine tail _ hk5 (fun v x y h => ?_) (fun v x hv hx h => ?_)
      · unfold bSc at h
        rw [if_neg he] at h
        obtain ⟨f, hf, h1, h2⟩ := h
        exact hS5.1 f hf x v y h1 h2
      · refine hS5.2 v x hv hx (fun f hf hm => ?_)
        have := (hIV.2.2.2.2.2.1 x v).mp (List.mem_flatMap.mpr ⟨f, hf, hm⟩)
        rw [hall, hb.1, h] at this
        cases this
  · rw [if_neg (by rw [row.2.2.1, row.2.1]; exact fun e => hfl (jI_inj (by omega) (by omega) e))]
    refine xQ.go 1 (F1 := (bif decide (0 = 0) then 91 else 77, [some (.ref 11), some (.int (mk (bS G p)))], [], w4)) rfl ?_
    refine xQ.brT (rfl) ?_
    refine xQ.go 9 (F1 := (106, [some (.ref 11), some (.int (mk (bS G p)))], [], (xuI (xuI w4 11 8 0) 11 7 ((w4.1 11 7) + 1)))) rfl ?_
    refine xQ.vret 1 rfl rfl ?_
    refine ⟨rfl, ?_, ?_, fun h => absurd h hfl, fun _ => ?_, fun v x _ _ _ => ?_, fun i hi => ?_, xkq_I (xkq_I (xkq_mono rfl k4) rfl) rfl⟩
    · simp [uI1, xkq_at k4 11 7, hn, nI_succ]
    · simp [uI1, row]
    · simp [uI1]
    · simp [uI1, xkq_at k4 17]
    · simpa [uI1] using oth i hi

theorem c_keep_t {w : xW} {G : Nat → Nat → Bool} {p : xPr} {n : Nat} (hg : gok G) (hp : G p.1 p.2 = true) (hlt : p.1 < p.2) (hn : w.1 25 7 = nI n) (h9 : n < 9) (hG : eG 32 33 w (bH G (bS G p)) (bS G p)) (h1 : bE G p = 1 → w.1 32 5 = 1 ∧ w.1 32 8 = 1) (hr : bE G p ≠ 1 → eP 32 34 w (bR G p).1 (bR G p).2.1 (bR G p).2.2.2 ∧ eF 32 35 36 w (bR G p).2.2.1) : xD MX4_keepBlock [.ref 25, .int (mk (bS G p))] w (fun r w1 => r = none ∧ w1.1 25 7 = nI (n + 1) ∧ (w1.1 27 n = mk (bS G p) ∧ w1.1 28 n = nI (bE G p) ∧ w1.1 30 n = nI (bPl G p) ∧ w1.1 29 n = nI (bFa G p)) ∧ (bPl G p = bE G p → w1.1 25 8 = w.1 25 8 ∧ ∀ v x y, bSc G p v x y → w1.1 31 (10 * v + x) = nI y) ∧ (bPl G p ≠ bE G p → w1.1 25 8 = 0) ∧ (∀ v x, v < 10 → x < 10 → bH G (bS G p) v x = false → w1.1 31 (10 * v + x) = w.1 31 (10 * v + x)) ∧ (∀ i, i ≠ n → w1.1 27 i = w.1 27 i ∧ w1.1 28 i = w.1 28 i ∧ w1.1 29 i = w.1 29 i ∧ w1.1 30 i = w.1 30 i) ∧ xkq [(25, some 7), (25, some 8), (27, none), (28, none), (29, none), (30, none), (31, none)] w w1) := by
  obtain ⟨hle1, hle2⟩ := bPl_le hg hp
  have h10 := hg.2.2 _ _ hp
  have f4 : w.1 32 4 = nI (bE G p) := hG.2.2
  have f5 : w.1 32 5 = nI (bPl G p) := by
    unfold bPl
    split
    · next h => exact (h1 h).1
    · next h => exact (hr h).1.2.2
  have f8 : w.1 32 8 = nI (bFa G p) := by
    unfold bFa
    split
    · next h => exact (h1 h).2
    · next h => exact (hr h).2.1
  refine xD.of ?_
  show xQ MX4_keepBlock (0, [some (.ref 25), some (.int (mk (bS G p)))], [], w) _
  refine xQ.go 4 (F1 := (8, [some (.ref 25), some (.int (mk (bS G p)))], [.int (w.1 25 7), .ref 27], w)) rfl ?_
  rw [hn]
  refine xQ.go 1 (F1 := (9, [some (.ref 25), some (.int (mk (bS G p)))], [.int (mk (bS G p)), .int (nI n), .ref 27], w)) rfl ?_
  refine xQ.call rfl (c_put rfl h9 (by omega)) ?_
  show xQ MX4_keepBlock (12, [some (.ref 25), some (.int (mk (bS G p)))], [], (xuI w 27 n (mk (bS G p)))) _
  obtain ⟨w1, e1⟩ : ∃ w1, w1 = (xuI w 27 n (mk (bS G p))) := ⟨_, rfl⟩
  have k1 : xkq [(27, none)] w w1 := by rw [e1]; exact xkq_I xkq_rfl rfl
  rw [← e1]
  refine xQ.go 4 (F1 := (20, [some (.ref 25), some (.int (mk (bS G p)))], [.int (w1.1 25 7), .ref 28], w1)) rfl ?_
  rw [xkq_at k1 25 7, hn]
  refine xQ.go 2 (F1 := (24, [some (.ref 25), some (.int (mk (bS G p)))], [.ref 32, .int (nI n), .ref 28], w1)) rfl ?_
  refine xQ.call rfl (c_eedges_t) ?_
  show xQ MX4_keepBlock (27, [some (.ref 25), some (.int (mk (bS G p)))], [.int (w1.1 32 4), .int (nI n), .ref 28], w1) _
  rw [xkq_at k1 32 4, f4]
  refine xQ.call rfl (c_put rfl h9 (by omega)) ?_
  show xQ MX4_keepBlock (30, [some (.ref 25), some (.int (mk (bS G p)))], [], (xuI w1 28 n (nI (bE G p)))) _
  obtain ⟨w2, e2⟩ : ∃ w2, w2 = (xuI w1 28 n (nI (bE G p))) := ⟨_, rfl⟩
  have k2 : xkq [(27, none), (28, none)] w w2 := by rw [e2]; exact xkq_I (xkq_mono rfl k1) rfl
  rw [← e2]
  refine xQ.go 4 (F1 := (38, [some (.ref 25), some (.int (mk (bS G p)))], [.int (w2.1 25 7), .ref 30], w2)) rfl ?_
  rw [xkq_at k2 25 7, hn]
  refine xQ.go 2 (F1 := (42, [some (.ref 25), some (.int (mk (bS G p)))], [.ref 32, .int (nI n), .ref 30], w2)) rfl ?_
  refine xQ.call rfl (c_eplaced_t) ?_
  show xQ MX4_keepBlock (45, [some (.ref 25), some (.int (mk (bS G p)))], [.int (w2.1 32 5), .int (nI n), .ref 30], w2) _
  rw [xkq_at k2 32 5, f5]
  refine xQ.call rfl (c_put rfl h9 (by omega)) ?_
  show xQ MX4_keepBlock (48, [some (.ref 25), some (.int (mk (bS G p)))], [], (xuI w2 30 n (nI (bPl G p)))) _
  obtain ⟨w3, e3⟩ : ∃ w3, w3 = (xuI w2 30 n (nI (bPl G p))) := ⟨_, rfl⟩
  have k3 : xkq [(27, none), (28, none), (30, none)] w w3 := by rw [e3]; exact xkq_I (xkq_mono rfl k2) rfl
  rw [← e3]
  refine xQ.go 4 (F1 := (56, [some (.ref 25), some (.int (mk (bS G p)))], [.int (w3.1 25 7), .ref 29], w3)) rfl ?_
  rw [xkq_at k3 25 7, hn]
  refine xQ.go 2 (F1 := (60, [some (.ref 25), some (.int (mk (bS G p)))], [.ref 32, .int (nI n), .ref 29], w3)) rfl ?_
  refine xQ.call rfl (c_efaces_t) ?_
  show xQ MX4_keepBlock (63, [some (.ref 25), some (.int (mk (bS G p)))], [.int (w3.1 32 8), .int (nI n), .ref 29], w3) _
  rw [xkq_at k3 32 8, f8]
  refine xQ.call rfl (c_put rfl h9 (by omega)) ?_
  show xQ MX4_keepBlock (66, [some (.ref 25), some (.int (mk (bS G p)))], [], (xuI w3 29 n (nI (bFa G p)))) _
  obtain ⟨w4, e4⟩ : ∃ w4, w4 = (xuI w3 29 n (nI (bFa G p))) := ⟨_, rfl⟩
  have k4 : xkq [(27, none), (28, none), (29, none), (30, none)] w w4 := by rw [e4]; exact xkq_I (xkq_mono rfl k3) rfl
  rw [← e4]
  have row : w4.1 27 n = mk (bS G p) ∧ w4.1 28 n = nI (bE G p) ∧ w4.1 30 n = nI (bPl G p) ∧ w4.1 29 n = nI (bFa G p) := by
    rw [e4, e3, e2, e1]
    simp [uI1]
  have oth : ∀ i, i ≠ n → w4.1 27 i = w.1 27 i ∧ w4.1 28 i = w.1 28 i ∧ w4.1 29 i = w.1 29 i ∧ w4.1 30 i = w.1 30 i := fun i hi => by
    rw [e4, e3, e2, e1]
    simp [uI1, hi]
  refine xQ.go 3 (F1 := (71, [some (.ref 25), some (.int (mk (bS G p)))], [.int (w4.1 25 7), .ref 25], w4)) rfl ?_
  rw [xkq_at k4 25 7, hn]
  refine xQ.call rfl (c_flat_t h9) ?_
  show xQ MX4_keepBlock (74, [some (.ref 25), some (.int (mk (bS G p)))], [.int (if w4.1 30 n = w4.1 28 n then 1 else 0)], w4) _
  have q1 : eG 32 33 w4 (bH G (bS G p)) (bS G p) := ⟨fun v hv => by rw [xkq_at k4 33 v]; exact hG.1 v hv, by rw [xkq_at k4 32 2]; exact hG.2.1, by rw [xkq_at k4 32 4]; exact hG.2.2⟩
  by_cases hfl : bPl G p = bE G p
  · rw [if_pos (by rw [row.2.2.1, row.2.1, hfl])]
    refine xQ.go 1 (F1 := (bif decide (1 = 0) then 91 else 77, [some (.ref 25), some (.int (mk (bS G p)))], [], w4)) rfl ?_
    refine xQ.brF (rfl) ?_
    have tail : ∀ w5 : xW, xkq [(31, none)] w4 w5 → (∀ v x y, bSc G p v x y → w5.1 31 (10 * v + x) = nI y) → (∀ v x, v < 10 → x < 10 → bH G (bS G p) v x = false → w5.1 31 (10 * v + x) = w4.1 31 (10 * v + x)) → xQ MX4_keepBlock (88, [some (.ref 25), some (.int (mk (bS G p)))], [], w5) (fun r w1 => r = none ∧ w1.1 25 7 = nI (n + 1) ∧ (w1.1 27 n = mk (bS G p) ∧ w1.1 28 n = nI (bE G p) ∧ w1.1 30 n = nI (bPl G p) ∧ w1.1 29 n = nI (bFa G p)) ∧ (bPl G p = bE G p → w1.1 25 8 = w.1 25 8 ∧ ∀ v x y, bSc G p v x y → w1.1 31 (10 * v + x) = nI y) ∧ (bPl G p ≠ bE G p → w1.1 25 8 = 0) ∧ (∀ v x, v < 10 → x < 10 → bH G (bS G p) v x = false → w1.1 31 (10 * v + x) = w.1 31 (10 * v + x)) ∧ (∀ i, i ≠ n → w1.1 27 i = w.1 27 i ∧ w1.1 28 i = w.1 28 i ∧ w1.1 29 i = w.1 29 i ∧ w1.1 30 i = w.1 30 i) ∧ xkq [(25, some 7), (25, some 8), (27, none), (28, none), (29, none), (30, none), (31, none)] w w1) := by
      intro w5 k5 t1 t2
      refine xQ.go 7 (F1 := (106, [some (.ref 25), some (.int (mk (bS G p)))], [], (xuI w5 25 7 ((w5.1 25 7) + 1)))) rfl ?_
      refine xQ.vret 1 rfl rfl ?_
      refine ⟨rfl, ?_, ?_, fun _ => ⟨?_, fun v x y h => ?_⟩, fun h => absurd hfl h, fun v x hv hx h => ?_, fun i hi => ?_, xkq_I (xkq_trans (xkq_mono rfl k4) (xkq_mono rfl k5)) rfl⟩
      · simp [uI1, xkq_at k5 25 7, xkq_at k4 25 7, hn, nI_succ]
      · simp [uI1, xkq_at k5 27 n, xkq_at k5 28 n, xkq_at k5 29 n, xkq_at k5 30 n, row]
      · simp [uI1, xkq_at k5 25 8, xkq_at k4 25 8]
      · simpa [uI1] using t1 v x y h
      · have := t2 v x hv hx h
        rw [xkq_at k4 31] at this
        simpa [uI1] using this
      · have := oth i hi
        rw [← xkq_at k5 27 i, ← xkq_at k5 28 i, ← xkq_at k5 29 i, ← xkq_at k5 30 i] at this
        simpa [uI1] using this
    by_cases he : bE G p = 1
    · refine xQ.go 4 (F1 := (85, [some (.ref 25), some (.int (mk (bS G p)))], [.ref 31, .ref 32], w4)) rfl ?_
      refine xQ.call rfl (c_succ1_t q1 he hlt h10.2 (fun v _ => bS_one hg hp he v)) ?_
      show xQ MX4_keepBlock (88, [some (.ref 25), some (.int (mk (bS G p)))], [], (xuI (xuI w4 31 (10 * p.1 + p.2) (nI p.2)) 31 (10 * p.2 + p.1) (nI p.1))) _
      refine tail _ (xkq_I (xkq_I xkq_rfl rfl) rfl) (fun v x y h => ?_) (fun v x hv hx h => ?_)
      · unfold bSc at h
        rw [if_pos he] at h
        rcases h with ⟨rfl, rfl, rfl⟩ | ⟨rfl, rfl, rfl⟩
        · rw [uI1, if_neg (by omega), uI1, if_pos ⟨rfl, rfl⟩]
        · rw [uI1, if_pos ⟨rfl, rfl⟩]
      · have ha : bS G p p.1 = true := bS_iff.mpr ⟨h10.1, Bs_a hg hp⟩
        have hbb : bS G p p.2 = true := bS_iff.mpr ⟨h10.2, Bs_b hg hp⟩
        have hH : bH G (bS G p) p.1 p.2 = true := bH_iff.mpr ⟨hp, ha, hbb⟩
        have hH2 : bH G (bS G p) p.2 p.1 = true := bH_iff.mpr ⟨by rw [hg.1]; exact hp, hbb, ha⟩
        rw [uI1, if_neg, uI1, if_neg]
        · rintro ⟨_, e⟩
          have e1 : v = p.1 := by omega
          have e2 : x = p.2 := by omega
          rw [e1, e2, hH] at h
          cases h
        · rintro ⟨_, e⟩
          have e1 : v = p.2 := by omega
          have e2 : x = p.1 := by omega
          rw [e1, e2, hH2] at h
          cases h
    · have hEO := bR_ok hg hp he
      have hb := bS_bic hg hp
      have q3 : eF 32 35 36 w4 (bR G p).2.2.1 := ⟨by rw [xkq_at k4 32 8]; exact (hr he).2.1, fun i c hi => ⟨by rw [xkq_at k4 35 i]; exact ((hr he).2.2 i c hi).1, fun x y hxy => by rw [xkq_at k4 36 _]; exact ((hr he).2.2 i c hi).2 x y hxy⟩⟩
      have hIV := hEO.1
      have hall := EOK_all hb hEO (by unfold bPl at hfl; rw [if_neg he] at hfl; exact hfl)
      obtain ⟨r5, w5, hc5, hr5, hS5, hk5⟩ := c_succ_t q1 he (ec_45 _) q3 (EOK_max hEO).1 hIV.2.2.2.2.1 (fun f hf => (hIV.2.2.2.1 f hf).1) (fun f hf x hx => (bS_iff.mp (hIV.2.2.1 x ((hIV.2.2.2.1 f hf).2.2 x hx))).1)
      subst hr5
      refine xQ.go 4 (F1 := (85, [some (.ref 25), some (.int (mk (bS G p)))], [.ref 31, .ref 32], w4)) rfl ?_
      refine xQ.call rfl (hc5) ?_
      show xQ MX4_keepBlock (88, [some (.ref 25), some (.int (mk (bS G p)))], [], w5) _
      refine tail _ hk5 (fun v x y h => ?_) (fun v x hv hx h => ?_)
      · unfold bSc at h
        rw [if_neg he] at h
        obtain ⟨f, hf, h1, h2⟩ := h
        exact hS5.1 f hf x v y h1 h2
      · refine hS5.2 v x hv hx (fun f hf hm => ?_)
        have := (hIV.2.2.2.2.2.1 x v).mp (List.mem_flatMap.mpr ⟨f, hf, hm⟩)
        rw [hall, hb.1, h] at this
        cases this
  · rw [if_neg (by rw [row.2.2.1, row.2.1]; exact fun e => hfl (jI_inj (by omega) (by omega) e))]
    refine xQ.go 1 (F1 := (bif decide (0 = 0) then 91 else 77, [some (.ref 25), some (.int (mk (bS G p)))], [], w4)) rfl ?_
    refine xQ.brT (rfl) ?_
    refine xQ.go 9 (F1 := (106, [some (.ref 25), some (.int (mk (bS G p)))], [], (xuI (xuI w4 25 8 0) 25 7 ((w4.1 25 7) + 1)))) rfl ?_
    refine xQ.vret 1 rfl rfl ?_
    refine ⟨rfl, ?_, ?_, fun h => absurd h hfl, fun _ => ?_, fun v x _ _ _ => ?_, fun i hi => ?_, xkq_I (xkq_I (xkq_mono rfl k4) rfl) rfl⟩
    · simp [uI1, xkq_at k4 25 7, hn, nI_succ]
    · simp [uI1, row]
    · simp [uI1]
    · simp [uI1, xkq_at k4 31]
    · simpa [uI1] using oth i hi
end
section
theorem c_pedges_p {w : xW} : xC MX4_edges [.ref 11] w (some (.long (w.2 11 9))) w := by
  unfold xC
  show xE MX4_edges (0, [some (.ref 11)], [], w) _ _
  refine xE.go 2 (F1 := (4, [some (.ref 11)], [.long (w.2 11 9)], w)) rfl ?_
  exact xE.lret 1 rfl rfl
theorem c_pblocks_p {w : xW} : xC MX4_blocks [.ref 11] w (some (.int (w.1 11 7))) w := by
  unfold xC
  show xE MX4_blocks (0, [some (.ref 11)], [], w) _ _
  refine xE.go 2 (F1 := (4, [some (.ref 11)], [.int (w.1 11 7)], w)) rfl ?_
  exact xE.iret .int 1 rfl rfl (rfl)
theorem c_pnear_p {w : xW} {v : Nat} (hv : v < 10) : xC MX4_near [.ref 11, .int (nI v)] w (some (.int (w.1 12 v))) w := by
  unfold xC
  show xE MX4_near (0, [some (.ref 11), some (.int (nI v))], [], w) _ _
  refine xE.go 3 (F1 := (5, [some (.ref 11), some (.int (nI v))], [.int (nI v), .ref 12], w)) rfl ?_
  refine xE.call rfl (c_at rfl hv (by omega)) ?_
  show xE MX4_near (8, [some (.ref 11), some (.int (nI v))], [.int (w.1 12 v)], w) _ _
  exact xE.iret .int 1 rfl rfl (rfl)
theorem c_pverts_p {w : xW} {v : Nat} (hv : v < 9) : xC MX4_verticesOf [.ref 11, .int (nI v)] w (some (.int (w.1 13 v))) w := by
  unfold xC
  show xE MX4_verticesOf (0, [some (.ref 11), some (.int (nI v))], [], w) _ _
  refine xE.go 3 (F1 := (5, [some (.ref 11), some (.int (nI v))], [.int (nI v), .ref 13], w)) rfl ?_
  refine xE.call rfl (c_at rfl hv (by omega)) ?_
  show xE MX4_verticesOf (8, [some (.ref 11), some (.int (nI v))], [.int (w.1 13 v)], w) _ _
  exact xE.iret .int 1 rfl rfl (rfl)
theorem c_pedgs_p {w : xW} {v : Nat} (hv : v < 9) : xC MX4_edgesOf [.ref 11, .int (nI v)] w (some (.int (w.1 14 v))) w := by
  unfold xC
  show xE MX4_edgesOf (0, [some (.ref 11), some (.int (nI v))], [], w) _ _
  refine xE.go 3 (F1 := (5, [some (.ref 11), some (.int (nI v))], [.int (nI v), .ref 14], w)) rfl ?_
  refine xE.call rfl (c_at rfl hv (by omega)) ?_
  show xE MX4_edgesOf (8, [some (.ref 11), some (.int (nI v))], [.int (w.1 14 v)], w) _ _
  exact xE.iret .int 1 rfl rfl (rfl)
theorem c_pfaces_p {w : xW} {v : Nat} (hv : v < 9) : xC MX4_facesOf [.ref 11, .int (nI v)] w (some (.int (w.1 15 v))) w := by
  unfold xC
  show xE MX4_facesOf (0, [some (.ref 11), some (.int (nI v))], [], w) _ _
  refine xE.go 3 (F1 := (5, [some (.ref 11), some (.int (nI v))], [.int (nI v), .ref 15], w)) rfl ?_
  refine xE.call rfl (c_at rfl hv (by omega)) ?_
  show xE MX4_facesOf (8, [some (.ref 11), some (.int (nI v))], [.int (w.1 15 v)], w) _ _
  exact xE.iret .int 1 rfl rfl (rfl)
theorem c_pplaced_p {w : xW} {v : Nat} (hv : v < 9) : xC MX4_placedOf [.ref 11, .int (nI v)] w (some (.int (w.1 16 v))) w := by
  unfold xC
  show xE MX4_placedOf (0, [some (.ref 11), some (.int (nI v))], [], w) _ _
  refine xE.go 3 (F1 := (5, [some (.ref 11), some (.int (nI v))], [.int (nI v), .ref 16], w)) rfl ?_
  refine xE.call rfl (c_at rfl hv (by omega)) ?_
  show xE MX4_placedOf (8, [some (.ref 11), some (.int (nI v))], [.int (w.1 16 v)], w) _ _
  exact xE.iret .int 1 rfl rfl (rfl)
theorem c_psucc_p {w : xW} {v x : Nat} (hv : v < 10) (hx : x < 10) : xC MX4_successor [.ref 11, .int (nI v), .int (nI x)] w (some (.int (w.1 17 (10 * v + x)))) w := by
  unfold xC
  show xE MX4_successor (0, [some (.ref 11), some (.int (nI v)), some (.int (nI x))], [], w) _ _
  refine xE.go 4 (F1 := (6, [some (.ref 11), some (.int (nI v)), some (.int (nI x))], [.int (nI x), .int (nI v), .ref 17], w)) rfl ?_
  refine xE.call rfl (c_cell) ?_
  show xE MX4_successor (9, [some (.ref 11), some (.int (nI v)), some (.int (nI x))], [.int (nI (10 * v + x)), .ref 17], w) _ _
  refine xE.call rfl (c_at rfl (by omega) (by omega)) ?_
  show xE MX4_successor (12, [some (.ref 11), some (.int (nI v)), some (.int (nI x))], [.int (w.1 17 (10 * v + x))], w) _ _
  exact xE.iret .int 1 rfl rfl (rfl)

theorem c_pedges_t {w : xW} : xC MX4_edges [.ref 25] w (some (.long (w.2 25 9))) w := by
  unfold xC
  show xE MX4_edges (0, [some (.ref 25)], [], w) _ _
  refine xE.go 2 (F1 := (4, [some (.ref 25)], [.long (w.2 25 9)], w)) rfl ?_
  exact xE.lret 1 rfl rfl
theorem c_pblocks_t {w : xW} : xC MX4_blocks [.ref 25] w (some (.int (w.1 25 7))) w := by
  unfold xC
  show xE MX4_blocks (0, [some (.ref 25)], [], w) _ _
  refine xE.go 2 (F1 := (4, [some (.ref 25)], [.int (w.1 25 7)], w)) rfl ?_
  exact xE.iret .int 1 rfl rfl (rfl)
theorem c_pnear_t {w : xW} {v : Nat} (hv : v < 10) : xC MX4_near [.ref 25, .int (nI v)] w (some (.int (w.1 26 v))) w := by
  unfold xC
  show xE MX4_near (0, [some (.ref 25), some (.int (nI v))], [], w) _ _
  refine xE.go 3 (F1 := (5, [some (.ref 25), some (.int (nI v))], [.int (nI v), .ref 26], w)) rfl ?_
  refine xE.call rfl (c_at rfl hv (by omega)) ?_
  show xE MX4_near (8, [some (.ref 25), some (.int (nI v))], [.int (w.1 26 v)], w) _ _
  exact xE.iret .int 1 rfl rfl (rfl)
theorem c_pverts_t {w : xW} {v : Nat} (hv : v < 9) : xC MX4_verticesOf [.ref 25, .int (nI v)] w (some (.int (w.1 27 v))) w := by
  unfold xC
  show xE MX4_verticesOf (0, [some (.ref 25), some (.int (nI v))], [], w) _ _
  refine xE.go 3 (F1 := (5, [some (.ref 25), some (.int (nI v))], [.int (nI v), .ref 27], w)) rfl ?_
  refine xE.call rfl (c_at rfl hv (by omega)) ?_
  show xE MX4_verticesOf (8, [some (.ref 25), some (.int (nI v))], [.int (w.1 27 v)], w) _ _
  exact xE.iret .int 1 rfl rfl (rfl)
theorem c_pedgs_t {w : xW} {v : Nat} (hv : v < 9) : xC MX4_edgesOf [.ref 25, .int (nI v)] w (some (.int (w.1 28 v))) w := by
  unfold xC
  show xE MX4_edgesOf (0, [some (.ref 25), some (.int (nI v))], [], w) _ _
  refine xE.go 3 (F1 := (5, [some (.ref 25), some (.int (nI v))], [.int (nI v), .ref 28], w)) rfl ?_
  refine xE.call rfl (c_at rfl hv (by omega)) ?_
  show xE MX4_edgesOf (8, [some (.ref 25), some (.int (nI v))], [.int (w.1 28 v)], w) _ _
  exact xE.iret .int 1 rfl rfl (rfl)
theorem c_pfaces_t {w : xW} {v : Nat} (hv : v < 9) : xC MX4_facesOf [.ref 25, .int (nI v)] w (some (.int (w.1 29 v))) w := by
  unfold xC
  show xE MX4_facesOf (0, [some (.ref 25), some (.int (nI v))], [], w) _ _
  refine xE.go 3 (F1 := (5, [some (.ref 25), some (.int (nI v))], [.int (nI v), .ref 29], w)) rfl ?_
  refine xE.call rfl (c_at rfl hv (by omega)) ?_
  show xE MX4_facesOf (8, [some (.ref 25), some (.int (nI v))], [.int (w.1 29 v)], w) _ _
  exact xE.iret .int 1 rfl rfl (rfl)
theorem c_pplaced_t {w : xW} {v : Nat} (hv : v < 9) : xC MX4_placedOf [.ref 25, .int (nI v)] w (some (.int (w.1 30 v))) w := by
  unfold xC
  show xE MX4_placedOf (0, [some (.ref 25), some (.int (nI v))], [], w) _ _
  refine xE.go 3 (F1 := (5, [some (.ref 25), some (.int (nI v))], [.int (nI v), .ref 30], w)) rfl ?_
  refine xE.call rfl (c_at rfl hv (by omega)) ?_
  show xE MX4_placedOf (8, [some (.ref 25), some (.int (nI v))], [.int (w.1 30 v)], w) _ _
  exact xE.iret .int 1 rfl rfl (rfl)
theorem c_psucc_t {w : xW} {v x : Nat} (hv : v < 10) (hx : x < 10) : xC MX4_successor [.ref 25, .int (nI v), .int (nI x)] w (some (.int (w.1 31 (10 * v + x)))) w := by
  unfold xC
  show xE MX4_successor (0, [some (.ref 25), some (.int (nI v)), some (.int (nI x))], [], w) _ _
  refine xE.go 4 (F1 := (6, [some (.ref 25), some (.int (nI v)), some (.int (nI x))], [.int (nI x), .int (nI v), .ref 31], w)) rfl ?_
  refine xE.call rfl (c_cell) ?_
  show xE MX4_successor (9, [some (.ref 25), some (.int (nI v)), some (.int (nI x))], [.int (nI (10 * v + x)), .ref 31], w) _ _
  refine xE.call rfl (c_at rfl (by omega) (by omega)) ?_
  show xE MX4_successor (12, [some (.ref 25), some (.int (nI v)), some (.int (nI x))], [.int (w.1 31 (10 * v + x))], w) _ _
  exact xE.iret .int 1 rfl rfl (rfl)
end
section
/-- how the components are counted -/
def cmpS (G : Nat → Nat → Bool) : Nat → (Nat → Bool) × Nat
  | 0 => (fun _ => false, 0)
  | k + 1 => if (cmpS G k).1 k then cmpS G k else (fun v => (cmpS G k).1 v || rch G (fun _ => true) (fun z => decide (z = k)) v, (cmpS G k).2 + 1)
theorem cmpS_le (G : Nat → Nat → Bool) : ∀ k, (cmpS G k).2 ≤ k
  | 0 => Nat.le_refl _
  | k + 1 => by
    have := cmpS_le G k
    unfold cmpS
    split
    · omega
    · show _ + 1 ≤ _
      omega
theorem c_pcomp_p {w : xW} {G : Nat → Nat → Bool} (hw : ∀ v, v < 10 → w.1 12 v = mk (G v)) : xC MX4_components [.ref 11] w (some (.int (nI (cmpS G 10).2))) w := by
  unfold xC
  show xE MX4_components (0, [some (.ref 11), none, none, none], [], w) _ _
  refine xE.go 6 (F1 := (6, [some (.ref 11), some (.int 0), some (.int 0), some (.int 0)], [], w)) rfl ?_
  refine xE.loop (S := Unit) (fun k s => (6, [some (.ref 11), some (.int (nI (cmpS G k).2)), some (.int (mk (cmpS G k).1)), some (.int (nI k))], [], w)) (fun _ _ => True) 10 () (by rw [show mk (cmpS G 0).1 = 0 from mk_0.symm]; rfl) (trivial) ?_ ?_
  · intro k s hk hI K
    have K := K () trivial
    refine xE.go 3 (F1 := (bif decide (10 ≤ (nI k)) then 46 else 12, [some (.ref 11), some (.int (nI (cmpS G k).2)), some (.int (mk (cmpS G k).1)), some (.int (nI k))], [], w)) rfl ?_
    refine xE.brF (decide_eq_false (nI_ge (b := 10) (by omega) (by omega))) ?_
    refine xE.go 2 (F1 := (14, [some (.ref 11), some (.int (nI (cmpS G k).2)), some (.int (mk (cmpS G k).1)), some (.int (nI k))], [.int (nI k), .int (mk (cmpS G k).1)], w)) rfl ?_
    refine xE.call rfl (c_has (show k < 10 by omega)) ?_
    show xE MX4_components (17, [some (.ref 11), some (.int (nI (cmpS G k).2)), some (.int (mk (cmpS G k).1)), some (.int (nI k))], [.int (if (cmpS G k).1 k then 1 else 0)], w) _ _
    have e : cmpS G (k + 1) = if (cmpS G k).1 k then cmpS G k else (fun v => (cmpS G k).1 v || rch G (fun _ => true) (fun z => decide (z = k)) v, (cmpS G k).2 + 1) := rfl
    cases hs : (cmpS G k).1 k with
    | true =>
      rw [hs, if_pos rfl] at e
      show xE MX4_components (17, [some (.ref 11), some (.int (nI (cmpS G k).2)), some (.int (mk (cmpS G k).1)), some (.int (nI k))], [.int 1], w) _ _
      refine xE.go 1 (F1 := (bif !decide (1 = 0) then 40 else 20, [some (.ref 11), some (.int (nI (cmpS G k).2)), some (.int (mk (cmpS G k).1)), some (.int (nI k))], [], w)) rfl ?_
      refine xE.brT (rfl) ?_
      refine xE.go 2 (F1 := (6, [some (.ref 11), some (.int (nI (cmpS G k).2)), some (.int (mk (cmpS G k).1)), some (.int ((nI k) + 1))], [], w)) rfl ?_
      rw [← nI_succ]
      rw [e] at K
      exact K
    | false =>
      rw [hs, if_neg (by decide)] at e
      show xE MX4_components (17, [some (.ref 11), some (.int (nI (cmpS G k).2)), some (.int (mk (cmpS G k).1)), some (.int (nI k))], [.int 0], w) _ _
      refine xE.go 1 (F1 := (bif !decide (0 = 0) then 40 else 20, [some (.ref 11), some (.int (nI (cmpS G k).2)), some (.int (mk (cmpS G k).1)), some (.int (nI k))], [], w)) rfl ?_
      refine xE.brF (rfl) ?_
      refine xE.go 4 (F1 := (26, [some (.ref 11), some (.int (nI (cmpS G k).2)), some (.int (mk (cmpS G k).1)), some (.int (nI k))], [.int (nI k), .ref 12, .int (mk (cmpS G k).1)], w)) rfl ?_
      refine xE.call rfl (c_bit (show k < 10 by omega)) ?_
      show xE MX4_components (29, [some (.ref 11), some (.int (nI (cmpS G k).2)), some (.int (mk (cmpS G k).1)), some (.int (nI k))], [.int (mk (fun v => decide (v = k))), .ref 12, .int (mk (cmpS G k).1)], w) _ _
      refine xE.go 1 (F1 := (32, [some (.ref 11), some (.int (nI (cmpS G k).2)), some (.int (mk (cmpS G k).1)), some (.int (nI k))], [.int 1023, .int (mk (fun v => decide (v = k))), .ref 12, .int (mk (cmpS G k).1)], w)) rfl ?_
      rw [mk_all]
      refine xE.call rfl (c_reach rfl hw) ?_
      show xE MX4_components (35, [some (.ref 11), some (.int (nI (cmpS G k).2)), some (.int (mk (cmpS G k).1)), some (.int (nI k))], [.int (mk (rch G (fun _ => true) (fun v => decide (v = k)))), .int (mk (cmpS G k).1)], w) _ _
      refine xE.go 5 (F1 := (6, [some (.ref 11), some (.int ((nI (cmpS G k).2) + 1)), some (.int ((mk (cmpS G k).1) ||| (mk (rch G (fun _ => true) (fun v => decide (v = k)))))), some (.int ((nI k) + 1))], [], w)) rfl ?_
      rw [mk_or, ← nI_succ, ← nI_succ]
      rw [e] at K
      exact K
  · intro s hI
    refine xE.go 3 (F1 := (bif decide (10 ≤ (nI 10)) then 46 else 12, [some (.ref 11), some (.int (nI (cmpS G 10).2)), some (.int (mk (cmpS G 10).1)), some (.int (nI 10))], [], w)) rfl ?_
    refine xE.brT (rfl) ?_
    refine xE.go 1 (F1 := (47, [some (.ref 11), some (.int (nI (cmpS G 10).2)), some (.int (mk (cmpS G 10).1)), some (.int (nI 10))], [.int (nI (cmpS G 10).2)], w)) rfl ?_
    exact xE.iret .int 1 rfl rfl (rfl)

theorem c_pcomp_t {w : xW} {G : Nat → Nat → Bool} (hw : ∀ v, v < 10 → w.1 26 v = mk (G v)) : xC MX4_components [.ref 25] w (some (.int (nI (cmpS G 10).2))) w := by
  unfold xC
  show xE MX4_components (0, [some (.ref 25), none, none, none], [], w) _ _
  refine xE.go 6 (F1 := (6, [some (.ref 25), some (.int 0), some (.int 0), some (.int 0)], [], w)) rfl ?_
  refine xE.loop (S := Unit) (fun k s => (6, [some (.ref 25), some (.int (nI (cmpS G k).2)), some (.int (mk (cmpS G k).1)), some (.int (nI k))], [], w)) (fun _ _ => True) 10 () (by rw [show mk (cmpS G 0).1 = 0 from mk_0.symm]; rfl) (trivial) ?_ ?_
  · intro k s hk hI K
    have K := K () trivial
    refine xE.go 3 (F1 := (bif decide (10 ≤ (nI k)) then 46 else 12, [some (.ref 25), some (.int (nI (cmpS G k).2)), some (.int (mk (cmpS G k).1)), some (.int (nI k))], [], w)) rfl ?_
    refine xE.brF (decide_eq_false (nI_ge (b := 10) (by omega) (by omega))) ?_
    refine xE.go 2 (F1 := (14, [some (.ref 25), some (.int (nI (cmpS G k).2)), some (.int (mk (cmpS G k).1)), some (.int (nI k))], [.int (nI k), .int (mk (cmpS G k).1)], w)) rfl ?_
    refine xE.call rfl (c_has (show k < 10 by omega)) ?_
    show xE MX4_components (17, [some (.ref 25), some (.int (nI (cmpS G k).2)), some (.int (mk (cmpS G k).1)), some (.int (nI k))], [.int (if (cmpS G k).1 k then 1 else 0)], w) _ _
    have e : cmpS G (k + 1) = if (cmpS G k).1 k then cmpS G k else (fun v => (cmpS G k).1 v || rch G (fun _ => true) (fun z => decide (z = k)) v, (cmpS G k).2 + 1) := rfl
    cases hs : (cmpS G k).1 k with
    | true =>
      rw [hs, if_pos rfl] at e
      show xE MX4_components (17, [some (.ref 25), some (.int (nI (cmpS G k).2)), some (.int (mk (cmpS G k).1)), some (.int (nI k))], [.int 1], w) _ _
      refine xE.go 1 (F1 := (bif !decide (1 = 0) then 40 else 20, [some (.ref 25), some (.int (nI (cmpS G k).2)), some (.int (mk (cmpS G k).1)), some (.int (nI k))], [], w)) rfl ?_
      refine xE.brT (rfl) ?_
      refine xE.go 2 (F1 := (6, [some (.ref 25), some (.int (nI (cmpS G k).2)), some (.int (mk (cmpS G k).1)), some (.int ((nI k) + 1))], [], w)) rfl ?_
      rw [← nI_succ]
      rw [e] at K
      exact K
    | false =>
      rw [hs, if_neg (by decide)] at e
      show xE MX4_components (17, [some (.ref 25), some (.int (nI (cmpS G k).2)), some (.int (mk (cmpS G k).1)), some (.int (nI k))], [.int 0], w) _ _
      refine xE.go 1 (F1 := (bif !decide (0 = 0) then 40 else 20, [some (.ref 25), some (.int (nI (cmpS G k).2)), some (.int (mk (cmpS G k).1)), some (.int (nI k))], [], w)) rfl ?_
      refine xE.brF (rfl) ?_
      refine xE.go 4 (F1 := (26, [some (.ref 25), some (.int (nI (cmpS G k).2)), some (.int (mk (cmpS G k).1)), some (.int (nI k))], [.int (nI k), .ref 26, .int (mk (cmpS G k).1)], w)) rfl ?_
      refine xE.call rfl (c_bit (show k < 10 by omega)) ?_
      show xE MX4_components (29, [some (.ref 25), some (.int (nI (cmpS G k).2)), some (.int (mk (cmpS G k).1)), some (.int (nI k))], [.int (mk (fun v => decide (v = k))), .ref 26, .int (mk (cmpS G k).1)], w) _ _
      refine xE.go 1 (F1 := (32, [some (.ref 25), some (.int (nI (cmpS G k).2)), some (.int (mk (cmpS G k).1)), some (.int (nI k))], [.int 1023, .int (mk (fun v => decide (v = k))), .ref 26, .int (mk (cmpS G k).1)], w)) rfl ?_
      rw [mk_all]
      refine xE.call rfl (c_reach rfl hw) ?_
      show xE MX4_components (35, [some (.ref 25), some (.int (nI (cmpS G k).2)), some (.int (mk (cmpS G k).1)), some (.int (nI k))], [.int (mk (rch G (fun _ => true) (fun v => decide (v = k)))), .int (mk (cmpS G k).1)], w) _ _
      refine xE.go 5 (F1 := (6, [some (.ref 25), some (.int ((nI (cmpS G k).2) + 1)), some (.int ((mk (cmpS G k).1) ||| (mk (rch G (fun _ => true) (fun v => decide (v = k)))))), some (.int ((nI k) + 1))], [], w)) rfl ?_
      rw [mk_or, ← nI_succ, ← nI_succ]
      rw [e] at K
      exact K
  · intro s hI
    refine xE.go 3 (F1 := (bif decide (10 ≤ (nI 10)) then 46 else 12, [some (.ref 25), some (.int (nI (cmpS G 10).2)), some (.int (mk (cmpS G 10).1)), some (.int (nI 10))], [], w)) rfl ?_
    refine xE.brT (rfl) ?_
    refine xE.go 1 (F1 := (47, [some (.ref 25), some (.int (nI (cmpS G 10).2)), some (.int (mk (cmpS G 10).1)), some (.int (nI 10))], [.int (nI (cmpS G 10).2)], w)) rfl ?_
    exact xE.iret .int 1 rfl rfl (rfl)
end
section
/-- vertices in one block, in more than one -/
def cvS (f : Nat → Nat → Bool) : Nat → (Nat → Bool) × (Nat → Bool)
  | 0 => (fun _ => false, fun _ => false)
  | k + 1 => (fun v => (cvS f k).1 v || f k v, fun v => (cvS f k).2 v || ((cvS f k).1 v && f k v))
theorem c_pcut_p {w : xW} {f : Nat → Nat → Bool} {n : Nat} (hn : w.1 11 7 = nI n) (h9 : n ≤ 9) (hw : ∀ i, i < n → w.1 13 i = mk (f i)) : xC MX4_cutVertices [.ref 11] w (some (.int (nI (cnt (cvS f n).2 10)))) w := by
  unfold xC
  show xE MX4_cutVertices (0, [some (.ref 11), none, none, none, none], [], w) _ _
  refine xE.go 6 (F1 := (6, [some (.ref 11), some (.int 0), some (.int 0), some (.int 0), none], [], w)) rfl ?_
  refine xE.loop (S := Unit) (fun k s => (6, [some (.ref 11), some (.int (mk (cvS f k).1)), some (.int (mk (cvS f k).2)), some (.int (nI k)), none], [], w)) (fun _ _ => True) n () (by rw [show mk (cvS f 0).1 = 0 from mk_0.symm, show mk (cvS f 0).2 = 0 from mk_0.symm]; rfl) (trivial) ?_ ?_
  · intro k s hk hI K
    have K := K () trivial
    refine xE.go 4 (F1 := (bif decide ((w.1 11 7) ≤ (nI k)) then 42 else 14, [some (.ref 11), some (.int (mk (cvS f k).1)), some (.int (mk (cvS f k).2)), some (.int (nI k)), none], [], w)) rfl ?_
    refine xE.brF (by rw [hn]; exact decide_eq_false (nI_ge hk (by omega))) ?_
    refine xE.go 3 (F1 := (19, [some (.ref 11), some (.int (mk (cvS f k).1)), some (.int (mk (cvS f k).2)), some (.int (nI k)), none], [.int (nI k), .ref 13], w)) rfl ?_
    refine xE.call rfl (c_at rfl (by omega) (by omega)) ?_
    show xE MX4_cutVertices (22, [some (.ref 11), some (.int (mk (cvS f k).1)), some (.int (mk (cvS f k).2)), some (.int (nI k)), none], [.int (w.1 13 k)], w) _ _
    rw [hw k hk]
    refine xE.go 13 (F1 := (6, [some (.ref 11), some (.int ((mk (cvS f k).1) ||| (mk (f k)))), some (.int ((mk (cvS f k).2) ||| ((mk (cvS f k).1) &&& (mk (f k))))), some (.int ((nI k) + 1)), some (.int (mk (f k)))], [], w)) rfl ?_
    refine xE.less [some (.ref 11), some (.int ((mk (cvS f k).1) ||| (mk (f k)))), some (.int ((mk (cvS f k).2) ||| ((mk (cvS f k).1) &&& (mk (f k))))), some (.int ((nI k) + 1)), none] (by simp [xleb]) ?_
    rw [mk_and, mk_or, mk_or, ← nI_succ]
    exact K
  · intro s hI
    refine xE.go 4 (F1 := (bif decide ((w.1 11 7) ≤ (nI n)) then 42 else 14, [some (.ref 11), some (.int (mk (cvS f n).1)), some (.int (mk (cvS f n).2)), some (.int (nI n)), none], [], w)) rfl ?_
    refine xE.brT (by rw [hn]; exact decide_eq_true (Int32.le_refl _)) ?_
    refine xE.go 1 (F1 := (43, [some (.ref 11), some (.int (mk (cvS f n).1)), some (.int (mk (cvS f n).2)), some (.int (nI n)), none], [.int (mk (cvS f n).2)], w)) rfl ?_
    refine xE.call rfl (c_ones) ?_
    show xE MX4_cutVertices (46, [some (.ref 11), some (.int (mk (cvS f n).1)), some (.int (mk (cvS f n).2)), some (.int (nI n)), none], [.int (nI (cnt (cvS f n).2 10))], w) _ _
    exact xE.iret .int 1 rfl rfl (rfl)
theorem c_pbridge_p {w : xW} {f : Nat → Nat} {n : Nat} (hn : w.1 11 7 = nI n) (h9 : n ≤ 9) (hw : ∀ i, i < n → w.1 14 i = nI (f i) ∧ f i ≤ 45) : xC MX4_bridges [.ref 11] w (some (.int (nI (cnt (fun i => decide (f i = 1)) n)))) w := by
  unfold xC
  show xE MX4_bridges (0, [some (.ref 11), none, none], [], w) _ _
  refine xE.go 4 (F1 := (4, [some (.ref 11), some (.int 0), some (.int 0)], [], w)) rfl ?_
  refine xE.loop (S := Unit) (fun k s => (4, [some (.ref 11), some (.int (nI (cnt (fun i => decide (f i = 1)) k))), some (.int (nI k))], [], w)) (fun _ _ => True) n () (rfl) (trivial) ?_ ?_
  · intro k s hk hI K
    have K := K () trivial
    obtain ⟨h1, h2⟩ := hw k hk
    have e : cnt (fun i => decide (f i = 1)) (k + 1) = cnt (fun i => decide (f i = 1)) k + (bif decide (f k = 1) then 1 else 0) := rfl
    rw [e] at K
    refine xE.go 4 (F1 := (bif decide ((w.1 11 7) ≤ (nI k)) then 33 else 12, [some (.ref 11), some (.int (nI (cnt (fun i => decide (f i = 1)) k))), some (.int (nI k))], [], w)) rfl ?_
    refine xE.brF (by rw [hn]; exact decide_eq_false (nI_ge hk (by omega))) ?_
    refine xE.go 3 (F1 := (17, [some (.ref 11), some (.int (nI (cnt (fun i => decide (f i = 1)) k))), some (.int (nI k))], [.int (nI k), .ref 14], w)) rfl ?_
    refine xE.call rfl (c_at rfl (by omega) (by omega)) ?_
    show xE MX4_bridges (20, [some (.ref 11), some (.int (nI (cnt (fun i => decide (f i = 1)) k))), some (.int (nI k))], [.int (w.1 14 k)], w) _ _
    rw [h1]
    by_cases h : f k = 1
    · refine xE.go 2 (F1 := (bif !decide ((nI (f k)) = 1) then 27 else 24, [some (.ref 11), some (.int (nI (cnt (fun i => decide (f i = 1)) k))), some (.int (nI k))], [], w)) rfl ?_
      refine xE.brF (by rw [h]; rfl) ?_
      refine xE.go 3 (F1 := (4, [some (.ref 11), some (.int ((nI (cnt (fun i => decide (f i = 1)) k)) + 1)), some (.int ((nI k) + 1))], [], w)) rfl ?_
      rw [← nI_succ, ← nI_succ]
      rw [decide_eq_true h] at K
      exact K
    · refine xE.go 2 (F1 := (bif !decide ((nI (f k)) = 1) then 27 else 24, [some (.ref 11), some (.int (nI (cnt (fun i => decide (f i = 1)) k))), some (.int (nI k))], [], w)) rfl ?_
      refine xE.brT (by rw [show (1 : Int32) = nI 1 from rfl, decide_eq_false (fun e => h (jI_inj (by omega) (by omega) e))]; rfl) ?_
      refine xE.go 2 (F1 := (4, [some (.ref 11), some (.int (nI (cnt (fun i => decide (f i = 1)) k))), some (.int ((nI k) + 1))], [], w)) rfl ?_
      rw [← nI_succ]
      rw [decide_eq_false h] at K
      exact K
  · intro s hI
    refine xE.go 4 (F1 := (bif decide ((w.1 11 7) ≤ (nI n)) then 33 else 12, [some (.ref 11), some (.int (nI (cnt (fun i => decide (f i = 1)) n))), some (.int (nI n))], [], w)) rfl ?_
    refine xE.brT (by rw [hn]; exact decide_eq_true (Int32.le_refl _)) ?_
    refine xE.go 1 (F1 := (34, [some (.ref 11), some (.int (nI (cnt (fun i => decide (f i = 1)) n))), some (.int (nI n))], [.int (nI (cnt (fun i => decide (f i = 1)) n))], w)) rfl ?_
    exact xE.iret .int 1 rfl rfl (rfl)

theorem c_pcut_t {w : xW} {f : Nat → Nat → Bool} {n : Nat} (hn : w.1 25 7 = nI n) (h9 : n ≤ 9) (hw : ∀ i, i < n → w.1 27 i = mk (f i)) : xC MX4_cutVertices [.ref 25] w (some (.int (nI (cnt (cvS f n).2 10)))) w := by
  unfold xC
  show xE MX4_cutVertices (0, [some (.ref 25), none, none, none, none], [], w) _ _
  refine xE.go 6 (F1 := (6, [some (.ref 25), some (.int 0), some (.int 0), some (.int 0), none], [], w)) rfl ?_
  refine xE.loop (S := Unit) (fun k s => (6, [some (.ref 25), some (.int (mk (cvS f k).1)), some (.int (mk (cvS f k).2)), some (.int (nI k)), none], [], w)) (fun _ _ => True) n () (by rw [show mk (cvS f 0).1 = 0 from mk_0.symm, show mk (cvS f 0).2 = 0 from mk_0.symm]; rfl) (trivial) ?_ ?_
  · intro k s hk hI K
    have K := K () trivial
    refine xE.go 4 (F1 := (bif decide ((w.1 25 7) ≤ (nI k)) then 42 else 14, [some (.ref 25), some (.int (mk (cvS f k).1)), some (.int (mk (cvS f k).2)), some (.int (nI k)), none], [], w)) rfl ?_
    refine xE.brF (by rw [hn]; exact decide_eq_false (nI_ge hk (by omega))) ?_
    refine xE.go 3 (F1 := (19, [some (.ref 25), some (.int (mk (cvS f k).1)), some (.int (mk (cvS f k).2)), some (.int (nI k)), none], [.int (nI k), .ref 27], w)) rfl ?_
    refine xE.call rfl (c_at rfl (by omega) (by omega)) ?_
    show xE MX4_cutVertices (22, [some (.ref 25), some (.int (mk (cvS f k).1)), some (.int (mk (cvS f k).2)), some (.int (nI k)), none], [.int (w.1 27 k)], w) _ _
    rw [hw k hk]
    refine xE.go 13 (F1 := (6, [some (.ref 25), some (.int ((mk (cvS f k).1) ||| (mk (f k)))), some (.int ((mk (cvS f k).2) ||| ((mk (cvS f k).1) &&& (mk (f k))))), some (.int ((nI k) + 1)), some (.int (mk (f k)))], [], w)) rfl ?_
    refine xE.less [some (.ref 25), some (.int ((mk (cvS f k).1) ||| (mk (f k)))), some (.int ((mk (cvS f k).2) ||| ((mk (cvS f k).1) &&& (mk (f k))))), some (.int ((nI k) + 1)), none] (by simp [xleb]) ?_
    rw [mk_and, mk_or, mk_or, ← nI_succ]
    exact K
  · intro s hI
    refine xE.go 4 (F1 := (bif decide ((w.1 25 7) ≤ (nI n)) then 42 else 14, [some (.ref 25), some (.int (mk (cvS f n).1)), some (.int (mk (cvS f n).2)), some (.int (nI n)), none], [], w)) rfl ?_
    refine xE.brT (by rw [hn]; exact decide_eq_true (Int32.le_refl _)) ?_
    refine xE.go 1 (F1 := (43, [some (.ref 25), some (.int (mk (cvS f n).1)), some (.int (mk (cvS f n).2)), some (.int (nI n)), none], [.int (mk (cvS f n).2)], w)) rfl ?_
    refine xE.call rfl (c_ones) ?_
    show xE MX4_cutVertices (46, [some (.ref 25), some (.int (mk (cvS f n).1)), some (.int (mk (cvS f n).2)), some (.int (nI n)), none], [.int (nI (cnt (cvS f n).2 10))], w) _ _
    exact xE.iret .int 1 rfl rfl (rfl)
theorem c_pbridge_t {w : xW} {f : Nat → Nat} {n : Nat} (hn : w.1 25 7 = nI n) (h9 : n ≤ 9) (hw : ∀ i, i < n → w.1 28 i = nI (f i) ∧ f i ≤ 45) : xC MX4_bridges [.ref 25] w (some (.int (nI (cnt (fun i => decide (f i = 1)) n)))) w := by
  unfold xC
  show xE MX4_bridges (0, [some (.ref 25), none, none], [], w) _ _
  refine xE.go 4 (F1 := (4, [some (.ref 25), some (.int 0), some (.int 0)], [], w)) rfl ?_
  refine xE.loop (S := Unit) (fun k s => (4, [some (.ref 25), some (.int (nI (cnt (fun i => decide (f i = 1)) k))), some (.int (nI k))], [], w)) (fun _ _ => True) n () (rfl) (trivial) ?_ ?_
  · intro k s hk hI K
    have K := K () trivial
    obtain ⟨h1, h2⟩ := hw k hk
    have e : cnt (fun i => decide (f i = 1)) (k + 1) = cnt (fun i => decide (f i = 1)) k + (bif decide (f k = 1) then 1 else 0) := rfl
    rw [e] at K
    refine xE.go 4 (F1 := (bif decide ((w.1 25 7) ≤ (nI k)) then 33 else 12, [some (.ref 25), some (.int (nI (cnt (fun i => decide (f i = 1)) k))), some (.int (nI k))], [], w)) rfl ?_
    refine xE.brF (by rw [hn]; exact decide_eq_false (nI_ge hk (by omega))) ?_
    refine xE.go 3 (F1 := (17, [some (.ref 25), some (.int (nI (cnt (fun i => decide (f i = 1)) k))), some (.int (nI k))], [.int (nI k), .ref 28], w)) rfl ?_
    refine xE.call rfl (c_at rfl (by omega) (by omega)) ?_
    show xE MX4_bridges (20, [some (.ref 25), some (.int (nI (cnt (fun i => decide (f i = 1)) k))), some (.int (nI k))], [.int (w.1 28 k)], w) _ _
    rw [h1]
    by_cases h : f k = 1
    · refine xE.go 2 (F1 := (bif !decide ((nI (f k)) = 1) then 27 else 24, [some (.ref 25), some (.int (nI (cnt (fun i => decide (f i = 1)) k))), some (.int (nI k))], [], w)) rfl ?_
      refine xE.brF (by rw [h]; rfl) ?_
      refine xE.go 3 (F1 := (4, [some (.ref 25), some (.int ((nI (cnt (fun i => decide (f i = 1)) k)) + 1)), some (.int ((nI k) + 1))], [], w)) rfl ?_
      rw [← nI_succ, ← nI_succ]
      rw [decide_eq_true h] at K
      exact K
    · refine xE.go 2 (F1 := (bif !decide ((nI (f k)) = 1) then 27 else 24, [some (.ref 25), some (.int (nI (cnt (fun i => decide (f i = 1)) k))), some (.int (nI k))], [], w)) rfl ?_
      refine xE.brT (by rw [show (1 : Int32) = nI 1 from rfl, decide_eq_false (fun e => h (jI_inj (by omega) (by omega) e))]; rfl) ?_
      refine xE.go 2 (F1 := (4, [some (.ref 25), some (.int (nI (cnt (fun i => decide (f i = 1)) k))), some (.int ((nI k) + 1))], [], w)) rfl ?_
      rw [← nI_succ]
      rw [decide_eq_false h] at K
      exact K
  · intro s hI
    refine xE.go 4 (F1 := (bif decide ((w.1 25 7) ≤ (nI n)) then 33 else 12, [some (.ref 25), some (.int (nI (cnt (fun i => decide (f i = 1)) n))), some (.int (nI n))], [], w)) rfl ?_
    refine xE.brT (by rw [hn]; exact decide_eq_true (Int32.le_refl _)) ?_
    refine xE.go 1 (F1 := (34, [some (.ref 25), some (.int (nI (cnt (fun i => decide (f i = 1)) n))), some (.int (nI n))], [.int (nI (cnt (fun i => decide (f i = 1)) n))], w)) rfl ?_
    exact xE.iret .int 1 rfl rfl (rfl)
end
section
theorem c_hsize {w : xW} : xC MX2_size [.ref 3] w (some (.int (w.1 3 3))) w := by
  unfold xC
  show xE MX2_size (0, [some (.ref 3)], [], w) _ _
  refine xE.go 2 (F1 := (4, [some (.ref 3)], [.int (w.1 3 3)], w)) rfl ?_
  exact xE.iret .int 1 rfl rfl (rfl)
theorem c_give_0 {w : xW} (hn : w.1 3 3 = 0) : xC MX2_giveBack [.ref 3, .ref 1] w (some (.int 0)) w := by
  unfold xC
  show xE MX2_giveBack (0, [some (.ref 3), some (.ref 1), none], [], w) _ _
  refine xE.go 5 (F1 := (7, [some (.ref 3), some (.ref 1), some (.int ((w.1 3 3) - 1))], [], w)) rfl ?_
  rw [hn]
  show xE MX2_giveBack (7, [some (.ref 3), some (.ref 1), some (.int (-1))], [], w) _ _
  refine xE.go 2 (F1 := (bif decide ((-1) < 0) then 16 else 11, [some (.ref 3), some (.ref 1), some (.int (-1))], [], w)) rfl ?_
  refine xE.brT (rfl) ?_
  refine xE.go 1 (F1 := (17, [some (.ref 3), some (.ref 1), some (.int (-1))], [.int 0], w)) rfl ?_
  exact xE.iret .boolean 1 rfl rfl (rfl)
theorem c_give {w : xW} {m : Nat} (hn : w.1 3 3 = nI (m + 1)) (hm : m < 5) : xC MX2_giveBack [.ref 3, .ref 1] w (some (.int 1)) (xuI (xuI (xuI (xuJ w 1 0 (w.2 4 m)) 1 1 (w.1 5 m)) 1 2 (w.1 6 m)) 3 3 (nI m)) := by
  unfold xC
  show xE MX2_giveBack (0, [some (.ref 3), some (.ref 1), none], [], w) _ _
  refine xE.go 5 (F1 := (7, [some (.ref 3), some (.ref 1), some (.int ((w.1 3 3) - 1))], [], w)) rfl ?_
  rw [hn, show nI (m + 1) - 1 = nI m from jI_sub (b := 1) (by omega)]
  refine xE.go 2 (F1 := (bif decide ((nI m) < 0) then 16 else 11, [some (.ref 3), some (.ref 1), some (.int (nI m))], [], w)) rfl ?_
  refine xE.brF (decide_eq_false (nI_pos (by omega))) ?_
  refine xE.go 3 (F1 := (bif decide ((nI m) < 5) then 18 else 16, [some (.ref 3), some (.ref 1), some (.int (nI m))], [], w)) rfl ?_
  refine xE.brT (decide_eq_true (nI_lt (b := 5) hm (by omega))) ?_
  refine xE.go 4 (F1 := (24, [some (.ref 3), some (.ref 1), some (.int (nI m))], [.int (nI m), .ref 4, .ref 1], w)) rfl ?_
  refine xE.lald rfl (k := m) (rfl) (⟨hm, by omega⟩) rfl ?_
  show xE MX2_giveBack (25, [some (.ref 3), some (.ref 1), some (.int (nI m))], [.long (w.2 4 m), .ref 1], w) _ _
  refine xE.go 3 (F1 := (30, [some (.ref 3), some (.ref 1), some (.int (nI m))], [.int (nI m), .ref 5, .long (w.2 4 m), .ref 1], w)) rfl ?_
  refine xE.iald rfl (k := m) (rfl) (⟨hm, by omega⟩) rfl ?_
  show xE MX2_giveBack (31, [some (.ref 3), some (.ref 1), some (.int (nI m))], [.int (w.1 5 m), .long (w.2 4 m), .ref 1], w) _ _
  refine xE.go 3 (F1 := (36, [some (.ref 3), some (.ref 1), some (.int (nI m))], [.int (nI m), .ref 6, .int (w.1 5 m), .long (w.2 4 m), .ref 1], w)) rfl ?_
  refine xE.iald rfl (k := m) (rfl) (⟨hm, by omega⟩) rfl ?_
  show xE MX2_giveBack (37, [some (.ref 3), some (.ref 1), some (.int (nI m))], [.int (w.1 6 m), .int (w.1 5 m), .long (w.2 4 m), .ref 1], w) _ _
  refine xE.call rfl (c_become) ?_
  show xE MX2_giveBack (40, [some (.ref 3), some (.ref 1), some (.int (nI m))], [], (xuI (xuI (xuJ w 1 0 (w.2 4 m)) 1 1 (w.1 5 m)) 1 2 (w.1 6 m))) _ _
  refine xE.go 4 (F1 := (46, [some (.ref 3), some (.ref 1), some (.int (nI m))], [.int 1], (xuI (xuI (xuI (xuJ w 1 0 (w.2 4 m)) 1 1 (w.1 5 m)) 1 2 (w.1 6 m)) 3 3 (nI m)))) rfl ?_
  exact xE.iret .boolean 1 rfl rfl (rfl)
theorem c_forget {w : xW} : xD MX2_forgetOldest [.ref 3] w (fun r w1 => r = none ∧ w1.1 3 3 = 4 ∧ (∀ i, i < 4 → w1.2 4 i = w.2 4 (i + 1) ∧ w1.1 5 i = w.1 5 (i + 1) ∧ w1.1 6 i = w.1 6 (i + 1)) ∧ xkq [(3, some 3), (4, none), (5, none), (6, none)] w w1) := by
  refine xD.of ?_
  show xQ MX2_forgetOldest (0, [some (.ref 3), none], [], w) _
  refine xQ.go 2 (F1 := (2, [some (.ref 3), some (.int 1)], [], w)) rfl ?_
  refine xQ.loop (S := xW) (fun k s => (2, [some (.ref 3), some (.int (nI (k + 1)))], [], s)) (fun k s => xkq [(4, none), (5, none), (6, none)] w s ∧ (∀ i, i < k → s.2 4 i = w.2 4 (i + 1) ∧ s.1 5 i = w.1 5 (i + 1) ∧ s.1 6 i = w.1 6 (i + 1)) ∧ ∀ i, k ≤ i → s.2 4 i = w.2 4 i ∧ s.1 5 i = w.1 5 i ∧ s.1 6 i = w.1 6 i) 4 w (rfl) (⟨xkq_rfl, fun i hi => absurd hi (by omega), fun i _ => ⟨rfl, rfl, rfl⟩⟩) ?_ ?_
  · intro k s hk hI K
    obtain ⟨i1, i2, i3⟩ := hI
    have hm : nI (k + 1) - 1 = nI k := jI_sub (b := 1) (by omega)
    refine xQ.go 3 (F1 := (bif decide (5 ≤ (nI (k + 1))) then 55 else 7, [some (.ref 3), some (.int (nI (k + 1)))], [], s)) rfl ?_
    refine xQ.brF (decide_eq_false (nI_ge (b := 5) (by omega) (by omega))) ?_
    refine xQ.go 8 (F1 := (19, [some (.ref 3), some (.int (nI (k + 1)))], [.int (nI (k + 1)), .ref 4, .int ((nI (k + 1)) - 1), .ref 4], s)) rfl ?_
    refine xQ.lald rfl (k := (k + 1)) (rfl) (⟨by omega, by omega⟩) rfl ?_
    show xQ MX2_forgetOldest (20, [some (.ref 3), some (.int (nI (k + 1)))], [.long (s.2 4 (k + 1)), .int ((nI (k + 1)) - 1), .ref 4], s) _
    refine xQ.last rfl (k := k) (hm) (⟨by omega, by omega⟩) rfl ?_
    show xQ MX2_forgetOldest (21, [some (.ref 3), some (.int (nI (k + 1)))], [], (xuJ s 4 k (s.2 4 (k + 1)))) _
    refine xQ.go 8 (F1 := (33, [some (.ref 3), some (.int (nI (k + 1)))], [.int (nI (k + 1)), .ref 5, .int ((nI (k + 1)) - 1), .ref 5], (xuJ s 4 k (s.2 4 (k + 1))))) rfl ?_
    refine xQ.iald rfl (k := (k + 1)) (rfl) (⟨by omega, by omega⟩) rfl ?_
    show xQ MX2_forgetOldest (34, [some (.ref 3), some (.int (nI (k + 1)))], [.int (s.1 5 (k + 1)), .int ((nI (k + 1)) - 1), .ref 5], (xuJ s 4 k (s.2 4 (k + 1)))) _
    refine xQ.iast rfl (k := k) (hm) (⟨by omega, by omega⟩) rfl ?_
    show xQ MX2_forgetOldest (35, [some (.ref 3), some (.int (nI (k + 1)))], [], (xuI (xuJ s 4 k (s.2 4 (k + 1))) 5 k (s.1 5 (k + 1)))) _
    refine xQ.go 8 (F1 := (47, [some (.ref 3), some (.int (nI (k + 1)))], [.int (nI (k + 1)), .ref 6, .int ((nI (k + 1)) - 1), .ref 6], (xuI (xuJ s 4 k (s.2 4 (k + 1))) 5 k (s.1 5 (k + 1))))) rfl ?_
    refine xQ.iald rfl (k := (k + 1)) (rfl) (⟨by omega, by omega⟩) rfl ?_
    show xQ MX2_forgetOldest (48, [some (.ref 3), some (.int (nI (k + 1)))], [.int (s.1 6 (k + 1)), .int ((nI (k + 1)) - 1), .ref 6], (xuI (xuJ s 4 k (s.2 4 (k + 1))) 5 k (s.1 5 (k + 1)))) _
    refine xQ.iast rfl (k := k) (hm) (⟨by omega, by omega⟩) rfl ?_
    show xQ MX2_forgetOldest (49, [some (.ref 3), some (.int (nI (k + 1)))], [], (xuI (xuI (xuJ s 4 k (s.2 4 (k + 1))) 5 k (s.1 5 (k + 1))) 6 k (s.1 6 (k + 1)))) _
    refine xQ.go 2 (F1 := (2, [some (.ref 3), some (.int ((nI (k + 1)) + 1))], [], (xuI (xuI (xuJ s 4 k (s.2 4 (k + 1))) 5 k (s.1 5 (k + 1))) 6 k (s.1 6 (k + 1))))) rfl ?_
    rw [← nI_succ]
    have h := i3 (k + 1) (by omega)
    refine K _ ⟨xkq_I (xkq_I (xkq_J i1 rfl) rfl) rfl, fun i hi => ?_, fun i hi => ?_⟩
    · by_cases e : i = k
      · subst e
        simp [uI1, uJ2, uI2, uJ1, h]
      · have := i2 i (by omega)
        simp [uI1, uJ2, uI2, uJ1, e, this]
    · have := i3 i (by omega)
      have e : i ≠ k := by omega
      simp [uI1, uJ2, uI2, uJ1, e, this]
  · intro s hI
    obtain ⟨i1, i2, i3⟩ := hI
    refine xQ.go 3 (F1 := (bif decide (5 ≤ (nI (4 + 1))) then 55 else 7, [some (.ref 3), some (.int (nI (4 + 1)))], [], s)) rfl ?_
    refine xQ.brT (rfl) ?_
    refine xQ.go 3 (F1 := (60, [some (.ref 3), some (.int (nI (4 + 1)))], [], (xuI s 3 3 4))) rfl ?_
    refine xQ.vret 1 rfl rfl ?_
    refine ⟨rfl, by simp [uI1], fun i hi => ?_, xkq_I (xkq_mono rfl i1) rfl⟩
    have := i2 i hi
    simp [uI1, uI2, this]
theorem c_remember {w : xW} {n : Nat} (hn : w.1 3 3 = nI n) (h5 : n ≤ 5) : xD MX2_remember [.ref 3, .ref 1] w (fun r w1 => r = none ∧ w1.1 3 3 = nI ((if n = 5 then 4 else n) + 1) ∧ (w1.2 4 (if n = 5 then 4 else n) = w.2 1 0 ∧ w1.1 5 (if n = 5 then 4 else n) = w.1 1 1 ∧ w1.1 6 (if n = 5 then 4 else n) = w.1 1 2) ∧ (∀ i, i < (if n = 5 then 4 else n) → w1.2 4 i = w.2 4 (if n = 5 then i + 1 else i) ∧ w1.1 5 i = w.1 5 (if n = 5 then i + 1 else i) ∧ w1.1 6 i = w.1 6 (if n = 5 then i + 1 else i)) ∧ xkq [(3, some 3), (4, none), (5, none), (6, none)] w w1) := by
  have com : ∀ (w2 : xW) (m : Nat), m < 5 → w2.1 3 3 = nI m → xkq [(3, some 3), (4, none), (5, none), (6, none)] w w2 → xQ MX2_remember (12, [some (.ref 3), some (.ref 1)], [], w2) (fun r w1 => r = none ∧ w1.1 3 3 = nI (m + 1) ∧ (w1.2 4 m = w.2 1 0 ∧ w1.1 5 m = w.1 1 1 ∧ w1.1 6 m = w.1 1 2) ∧ (∀ i, i < m → w1.2 4 i = w2.2 4 i ∧ w1.1 5 i = w2.1 5 i ∧ w1.1 6 i = w2.1 6 i) ∧ xkq [(3, some 3), (4, none), (5, none), (6, none)] w w1) := by
    intro w2 m hm hm2 hk
    refine xQ.go 3 (F1 := (bif decide ((w2.1 3 3) < 0) then 76 else 19, [some (.ref 3), some (.ref 1)], [], w2)) rfl ?_
    refine xQ.brF (by rw [hm2]; exact decide_eq_false (nI_pos (by omega))) ?_
    refine xQ.go 4 (F1 := (bif decide (5 ≤ (w2.1 3 3)) then 76 else 27, [some (.ref 3), some (.ref 1)], [], w2)) rfl ?_
    refine xQ.brF (by rw [hm2]; exact decide_eq_false (nI_ge (b := 5) hm (by omega))) ?_
    refine xQ.go 5 (F1 := (36, [some (.ref 3), some (.ref 1)], [.ref 1, .int (w2.1 3 3), .ref 4], w2)) rfl ?_
    refine xQ.call rfl (c_edges1) ?_
    show xQ MX2_remember (39, [some (.ref 3), some (.ref 1)], [.long (w2.2 1 0), .int (w2.1 3 3), .ref 4], w2) _
    refine xQ.last rfl (k := m) (hm2) (⟨hm, by omega⟩) rfl ?_
    show xQ MX2_remember (40, [some (.ref 3), some (.ref 1)], [], (xuJ w2 4 m (w2.2 1 0))) _
    refine xQ.go 5 (F1 := (49, [some (.ref 3), some (.ref 1)], [.ref 1, .int (w2.1 3 3), .ref 5], (xuJ w2 4 m (w2.2 1 0)))) rfl ?_
    refine xQ.call rfl (c_added1) ?_
    show xQ MX2_remember (52, [some (.ref 3), some (.ref 1)], [.int ((xuJ w2 4 m (w2.2 1 0)).1 1 1), .int (w2.1 3 3), .ref 5], (xuJ w2 4 m (w2.2 1 0))) _
    refine xQ.iast rfl (k := m) (hm2) (⟨hm, by omega⟩) rfl ?_
    show xQ MX2_remember (53, [some (.ref 3), some (.ref 1)], [], (xuI (xuJ w2 4 m (w2.2 1 0)) 5 m ((xuJ w2 4 m (w2.2 1 0)).1 1 1))) _
    refine xQ.go 5 (F1 := (62, [some (.ref 3), some (.ref 1)], [.ref 1, .int (w2.1 3 3), .ref 6], (xuI (xuJ w2 4 m (w2.2 1 0)) 5 m ((xuJ w2 4 m (w2.2 1 0)).1 1 1)))) rfl ?_
    refine xQ.call rfl (c_dropped1) ?_
    show xQ MX2_remember (65, [some (.ref 3), some (.ref 1)], [.int ((xuI (xuJ w2 4 m (w2.2 1 0)) 5 m ((xuJ w2 4 m (w2.2 1 0)).1 1 1)).1 1 2), .int (w2.1 3 3), .ref 6], (xuI (xuJ w2 4 m (w2.2 1 0)) 5 m ((xuJ w2 4 m (w2.2 1 0)).1 1 1))) _
    refine xQ.iast rfl (k := m) (by simp [uI1, uJ1, hm2]) (⟨hm, by omega⟩) rfl ?_
    show xQ MX2_remember (66, [some (.ref 3), some (.ref 1)], [], (xuI (xuI (xuJ w2 4 m (w2.2 1 0)) 5 m ((xuJ w2 4 m (w2.2 1 0)).1 1 1)) 6 m ((xuI (xuJ w2 4 m (w2.2 1 0)) 5 m ((xuJ w2 4 m (w2.2 1 0)).1 1 1)).1 1 2))) _
    refine xQ.go 6 (F1 := (76, [some (.ref 3), some (.ref 1)], [], (xuI (xuI (xuI (xuJ w2 4 m (w2.2 1 0)) 5 m ((xuJ w2 4 m (w2.2 1 0)).1 1 1)) 6 m ((xuI (xuJ w2 4 m (w2.2 1 0)) 5 m ((xuJ w2 4 m (w2.2 1 0)).1 1 1)).1 1 2)) 3 3 ((w2.1 3 3) + 1)))) rfl ?_
    refine xQ.vret 1 rfl rfl ?_
    refine ⟨rfl, by simp [uI1, uJ1, hm2, nI_succ], ?_, fun i hi => ?_, xkq_I (xkq_I (xkq_I (xkq_J hk rfl) rfl) rfl) rfl⟩
    · simp [uI1, uI2, uJ1, uJ2, xkq_at hk 1 1, xkq_at hk 1 2, xkq_atJ hk 1 0]
    · have e : i ≠ m := by omega
      simp [uI1, uI2, uJ1, uJ2, e]
  refine xD.of ?_
  show xQ MX2_remember (0, [some (.ref 3), some (.ref 1)], [], w) _
  by_cases e5 : n = 5
  · refine xQ.go 4 (F1 := (bif decide ((w.1 3 3) < 5) then 12 else 8, [some (.ref 3), some (.ref 1)], [], w)) rfl ?_
    refine xQ.brF (by rw [hn, e5]; decide) ?_
    obtain ⟨r2, w2, hc, hr, h1, h2, h3⟩ := c_forget (w := w)
    subst hr
    refine xQ.go 1 (F1 := (9, [some (.ref 3), some (.ref 1)], [.ref 3], w)) rfl ?_
    refine xQ.call rfl (hc) ?_
    show xQ MX2_remember (12, [some (.ref 3), some (.ref 1)], [], w2) _
    simp only [if_pos e5]
    obtain ⟨r3, w3, g0, g1, g2, g3, g4, g5⟩ := com w2 4 (by omega) h1 h3
    refine ⟨r3, w3, g0, g1, g2, g3, fun i hi => ?_, g5⟩
    obtain ⟨a1, a2, a3⟩ := g4 i hi
    obtain ⟨b1, b2, b3⟩ := h2 i hi
    exact ⟨a1.trans b1, a2.trans b2, a3.trans b3⟩
  · refine xQ.go 4 (F1 := (bif decide ((w.1 3 3) < 5) then 12 else 8, [some (.ref 3), some (.ref 1)], [], w)) rfl ?_
    refine xQ.brT (by rw [hn]; exact decide_eq_true (nI_lt (b := 5) (by omega) (by omega))) ?_
    simp only [if_neg e5]
    exact com w n (by omega) hn xkq_rfl
end
section
theorem c_tlen {w : xW} : xC MX0_length [.ref 7] w (some (.int (w.1 7 1))) w := by
  unfold xC
  show xE MX0_length (0, [some (.ref 7)], [], w) _ _
  refine xE.go 2 (F1 := (4, [some (.ref 7)], [.int (w.1 7 1)], w)) rfl ?_
  exact xE.iret .int 1 rfl rfl (rfl)
theorem c_tedits {w : xW} : xC MX0_edits [.ref 7] w (some (.int (w.1 7 4))) w := by
  unfold xC
  show xE MX0_edits (0, [some (.ref 7)], [], w) _ _
  refine xE.go 2 (F1 := (4, [some (.ref 7)], [.int (w.1 7 4)], w)) rfl ?_
  exact xE.iret .int 1 rfl rfl (rfl)
theorem c_terase {w : xW} : xC MX0_erase [.ref 7] w none (xuI w 7 1 0) := by
  unfold xC
  show xE MX0_erase (0, [some (.ref 7)], [], w) _ _
  refine xE.go 3 (F1 := (5, [some (.ref 7)], [], (xuI w 7 1 0))) rfl ?_
  exact xE.vret 1 rfl rfl
theorem c_twrite_0 {w : xW} {x : Int32} (hn : w.1 7 1 = nI 80) : xC MX0_write [.ref 7, .int x] w (some (.int 0)) w := by
  unfold xC
  show xE MX0_write (0, [some (.ref 7), some (.int x)], [], w) _ _
  refine xE.go 4 (F1 := (bif decide ((w.1 7 1) < 80) then 11 else 9, [some (.ref 7), some (.int x)], [], w)) rfl ?_
  refine xE.brF (by rw [hn]; decide) ?_
  refine xE.go 1 (F1 := (10, [some (.ref 7), some (.int x)], [.int 0], w)) rfl ?_
  exact xE.iret .boolean 1 rfl rfl (rfl)
theorem c_twrite {w : xW} {x : Int32} {n : Nat} (hn : w.1 7 1 = nI n) (h : n < 80) : xC MX0_write [.ref 7, .int x] w (some (.int 1)) (xuI (xuI w 8 n x) 7 1 (nI (n + 1))) := by
  unfold xC
  show xE MX0_write (0, [some (.ref 7), some (.int x)], [], w) _ _
  refine xE.go 4 (F1 := (bif decide ((w.1 7 1) < 80) then 11 else 9, [some (.ref 7), some (.int x)], [], w)) rfl ?_
  refine xE.brT (by rw [hn]; exact decide_eq_true (nI_lt (b := 80) h (by omega))) ?_
  refine xE.go 4 (F1 := (19, [some (.ref 7), some (.int x)], [.int (w.1 7 1), .ref 8], w)) rfl ?_
  rw [hn]
  refine xE.go 1 (F1 := (20, [some (.ref 7), some (.int x)], [.int x, .int (nI n), .ref 8], w)) rfl ?_
  refine xE.call rfl (c_put rfl h (by omega)) ?_
  show xE MX0_write (23, [some (.ref 7), some (.int x)], [], (xuI w 8 n x)) _ _
  refine xE.go 5 (F1 := (30, [some (.ref 7), some (.int x)], [.int (((xuI w 8 n x).1 7 1) + 1), .ref 7], (xuI w 8 n x))) rfl ?_
  rw [show (xuI w 8 n x).1 7 1 = nI n by rw [uI1, if_neg (by omega), hn], ← nI_succ]
  refine xE.go 2 (F1 := (34, [some (.ref 7), some (.int x)], [.int 1], (xuI (xuI w 8 n x) 7 1 (nI (n + 1))))) rfl ?_
  exact xE.iret .boolean 1 rfl rfl (rfl)
theorem c_tsign {w : xW} {n k : Nat} (hn : w.1 7 1 = nI n) (h : n ≤ 80) (hk : k < 2 ^ 31) : xC MX0_signAt [.ref 7, .int (nI k)] w (some (.int (if k < n then w.1 8 k else 0))) w := by
  unfold xC
  show xE MX0_signAt (0, [some (.ref 7), some (.int (nI k))], [], w) _ _
  by_cases hkn : k < n
  · rw [if_pos hkn]
    refine xE.go 4 (F1 := (bif decide ((w.1 7 1) ≤ (nI k)) then 19 else 8, [some (.ref 7), some (.int (nI k))], [], w)) rfl ?_
    refine xE.brF (by rw [hn]; exact decide_eq_false (nI_ge hkn (by omega))) ?_
    refine xE.go 3 (F1 := (13, [some (.ref 7), some (.int (nI k))], [.int (nI k), .ref 8], w)) rfl ?_
    refine xE.call rfl (c_at rfl (by omega) (by omega)) ?_
    show xE MX0_signAt (16, [some (.ref 7), some (.int (nI k))], [.int (w.1 8 k)], w) _ _
    refine xE.go 1 (F1 := (20, [some (.ref 7), some (.int (nI k))], [.int (w.1 8 k)], w)) rfl ?_
    exact xE.iret .int 1 rfl rfl (rfl)
  · rw [if_neg hkn]
    refine xE.go 4 (F1 := (bif decide ((w.1 7 1) ≤ (nI k)) then 19 else 8, [some (.ref 7), some (.int (nI k))], [], w)) rfl ?_
    refine xE.brT (by rw [hn]; exact decide_eq_true (nI_le (by omega) hk)) ?_
    refine xE.go 1 (F1 := (20, [some (.ref 7), some (.int (nI k))], [.int 0], w)) rfl ?_
    exact xE.iret .int 1 rfl rfl (rfl)
end
section
/-! the plan of a graph -/
/-- are all blocks of the list planar -/
def flt (G : Nat → Nat → Bool) (l : List xPr) : Bool := l.all (fun p => decide (bPl G p = bE G p))
theorem flt_app {G : Nat → Nat → Bool} {l : List xPr} {p : xPr} : flt G (l ++ [p]) = (flt G l && decide (bPl G p = bE G p)) := by simp [flt]
theorem bSc_edge {G : Nat → Nat → Bool} (hg : gok G) {p : xPr} (hp : G p.1 p.2 = true) (hf : bPl G p = bE G p) {v x y : Nat} (h : bSc G p v x y) : bH G (bS G p) v x = true ∧ bH G (bS G p) v y = true := by
  have hb := bS_bic hg hp
  have h10 := hg.2.2 _ _ hp
  have ha : bS G p p.1 = true := bS_iff.mpr ⟨h10.1, Bs_a hg hp⟩
  have hbb : bS G p p.2 = true := bS_iff.mpr ⟨h10.2, Bs_b hg hp⟩
  have hH : bH G (bS G p) p.1 p.2 = true := bH_iff.mpr ⟨hp, ha, hbb⟩
  have hH2 : bH G (bS G p) p.2 p.1 = true := bH_iff.mpr ⟨by rw [hg.1]; exact hp, hbb, ha⟩
  unfold bSc at h
  by_cases he : bE G p = 1
  · rw [if_pos he] at h
    rcases h with ⟨rfl, rfl, rfl⟩ | ⟨rfl, rfl, rfl⟩
    · exact ⟨hH, hH⟩
    · exact ⟨hH2, hH2⟩
  · rw [if_neg he] at h
    obtain ⟨f, hf2, h1, h2⟩ := h
    have hEO := bR_ok hg hp he
    have hall := EOK_all hb hEO (by unfold bPl at hf; rw [if_neg he] at hf; exact hf)
    have a1 := (hEO.1.2.2.2.2.2.1 x v).mp (List.mem_flatMap.mpr ⟨f, hf2, h1⟩)
    have a2 := (hEO.1.2.2.2.2.2.1 v y).mp (List.mem_flatMap.mpr ⟨f, hf2, h2⟩)
    rw [hall] at a1 a2
    exact ⟨by rw [hb.1]; exact a1, a2⟩
/-- all that a plan's rows hold of the blocks in l -/
def pI (a c d e f g : Nat) (w : xW) (G : Nat → Nat → Bool) (l : List xPr) : Prop :=
  w.1 a 7 = nI l.length ∧ w.1 a 8 = (if flt G l then 1 else 0) ∧
  (∀ i p, l[i]? = some p → w.1 c i = mk (bS G p) ∧ w.1 d i = nI (bE G p) ∧ w.1 e i = nI (bFa G p) ∧ w.1 f i = nI (bPl G p)) ∧
  ∀ p ∈ l, bPl G p = bE G p → ∀ v x y, bSc G p v x y → w.1 g (10 * v + x) = nI y
/-- a plan that knows the graph e -/
def pN (a b c d e f g : Nat) (w : xW) (E : Int64) : Prop := w.1 a 10 = 1 ∧ w.2 a 9 = E ∧ (∀ v, v < 10 → w.1 b v = mk (gr E v)) ∧ pI a c d e f g w (gr E) (blks (gr E) 100)
def pOK (a b c d e f g : Nat) (w : xW) : Prop := w.1 a 10 = 0 ∨ ∃ E, pN a b c d e f g w E
abbrev kA_p : xCS := [(11, none), (12, none), (13, none), (14, none), (15, none), (16, none), (17, none), (18, none), (19, none), (20, none), (21, none), (22, none), (23, none), (24, none)]
abbrev kB_p : xCS := [(11, some 7), (11, some 8), (13, none), (14, none), (15, none), (16, none), (17, none), (18, none), (19, none), (20, none), (21, none), (22, none), (23, none), (24, none)]
abbrev pI_p (w : xW) (G : Nat → Nat → Bool) (l : List xPr) : Prop := pI 11 13 14 15 16 17 w G l
abbrev pN_p (w : xW) (E : Int64) : Prop := pN 11 12 13 14 15 16 17 w E
abbrev pOK_p (w : xW) : Prop := pOK 11 12 13 14 15 16 17 w
/-- a block is added -/
theorem pI_add_p {w w1 w2 : xW} {G : Nat → Nat → Bool} {l : List xPr} {p : xPr} (hg : gok G) (hO : BOK G (l ++ [p])) (h : pI_p w G l) (k1 : xkq [(18, none), (19, none), (20, none), (21, none), (22, none), (23, none), (24, none)] w w1) (h7 : w2.1 11 7 = nI (l.length + 1)) (row : w2.1 13 l.length = mk (bS G p) ∧ w2.1 14 l.length = nI (bE G p) ∧ w2.1 16 l.length = nI (bPl G p) ∧ w2.1 15 l.length = nI (bFa G p)) (hfl : bPl G p = bE G p → w2.1 11 8 = w1.1 11 8 ∧ ∀ v x y, bSc G p v x y → w2.1 17 (10 * v + x) = nI y) (hnf : bPl G p ≠ bE G p → w2.1 11 8 = 0) (hs : ∀ v x, v < 10 → x < 10 → bH G (bS G p) v x = false → w2.1 17 (10 * v + x) = w1.1 17 (10 * v + x)) (oth : ∀ i, i ≠ l.length → w2.1 13 i = w1.1 13 i ∧ w2.1 14 i = w1.1 14 i ∧ w2.1 15 i = w1.1 15 i ∧ w2.1 16 i = w1.1 16 i) : pI_p w2 G (l ++ [p]) := by
  obtain ⟨i1, i2, i3, i4⟩ := h
  have hpm : p ∈ l ++ [p] := List.mem_append_right _ List.mem_cons_self
  have hlast : (l ++ [p])[l.length]? = some p := by simp
  refine ⟨by rw [h7]; simp, ?_, fun i q hi => ?_, fun q hq hqf v x y hsc => ?_⟩
  · rw [flt_app]
    by_cases e : bPl G p = bE G p
    · rw [(hfl e).1, xkq_at k1 11 8, i2, decide_eq_true e, Bool.and_true]
    · rw [hnf e, decide_eq_false e, Bool.and_false]; rfl
  · by_cases e : i = l.length
    · rw [e, hlast] at hi
      cases hi
      rw [e]
      exact ⟨row.1, row.2.1, row.2.2.2, row.2.2.1⟩
    · have hlt : i < l.length := by
        have := (List.getElem?_eq_some_iff.mp hi).1
        rw [List.length_append] at this
        simp only [List.length_cons, List.length_nil] at this
        omega
      rw [List.getElem?_append_left hlt] at hi
      obtain ⟨o1, o2, o3, o4⟩ := oth i e
      rw [o1, o2, o3, o4, xkq_at k1 13 i, xkq_at k1 14 i, xkq_at k1 15 i, xkq_at k1 16 i]
      exact i3 i q hi
  · rcases List.mem_append.mp hq with hq | hq
    · have hq2 := hO.1 q (List.mem_append_left _ hq)
      have hed := (bSc_edge hg hq2.1 hqf hsc).1
      have h10 := hg.2.2 _ _ (bH_iff.mp hed).1
      rw [hs v x h10.1 h10.2 ?_, xkq_at k1 17]
      · exact i4 q hq hqf v x y hsc
      · cases e : bH G (bS G p) v x with
        | false => rfl
        | true =>
          exfalso
          obtain ⟨i, hi, ei⟩ := List.mem_iff_getElem.mp hq
          have e1 := bH_iff.mp hed
          have e2 := bH_iff.mp e
          have := BOK_one hg hO (i := i) (j := l.length) (p := q) (q := p) (by rw [List.getElem?_append_left hi, List.getElem?_eq_getElem hi, ei]) hlast e1.1 e1.2.1 e1.2.2 e2.2.1 e2.2.2
          omega
    · rw [List.mem_singleton.mp hq] at hqf hsc
      exact (hfl hqf).2 v x y hsc
theorem c_read_p {w : xW} {e : Int64} (hP : pOK_p w) : xD MX4_read [.ref 11, .long e] w (fun r w1 => r = some (.int (if flt (gr e) (blks (gr e) 100) then 1 else 0)) ∧ pN_p w1 e ∧ xkq kA_p w w1) := by
  have hg := gr_gok e
  have nar : ∀ b : Bool, narrow .boolean (.int (if b then 1 else 0)) = .int (if b then 1 else 0) := fun b => by cases b <;> rfl
  have com : xQ MX4_read (21, [some (.ref 11), some (.long e), none, none, none, none], [], w) (fun r w1 => r = some (.int (if flt (gr e) (blks (gr e) 100) then 1 else 0)) ∧ pN_p w1 e ∧ xkq kA_p w w1) := by
    refine xQ.go 12 (F1 := (41, [some (.ref 11), some (.long e), none, none, none, none], [], (xuI (xuI (xuJ (xuI w 11 10 1) 11 9 e) 11 7 0) 11 8 1))) rfl ?_
    obtain ⟨w1, e1⟩ : ∃ w1, w1 = (xuI (xuI (xuJ (xuI w 11 10 1) 11 9 e) 11 7 0) 11 8 1) := ⟨_, rfl⟩
    rw [← e1]
    have a1 : w1.1 11 7 = 0 ∧ w1.1 11 8 = 1 ∧ w1.1 11 10 = 1 ∧ w1.2 11 9 = e := by rw [e1]; simp [uI1, uI2, uJ1, uJ2]
    have ka : xkq kA_p w w1 := by rw [e1]; exact xkq_I (xkq_I (xkq_J (xkq_I xkq_rfl rfl) rfl) rfl) rfl
    obtain ⟨r2, w2, hc, hr, h12, hk2⟩ := c_fillNear_p (w := w1)
    subst hr
    refine xQ.go 1 (F1 := (42, [some (.ref 11), some (.long e), none, none, none, none], [.ref 11], w1)) rfl ?_
    refine xQ.call rfl (hc) ?_
    show xQ MX4_read (45, [some (.ref 11), some (.long e), none, none, none, none], [], w2) _
    rw [a1.2.2.2] at h12
    refine xQ.go 2 (F1 := (47, [some (.ref 11), some (.long e), none, some (.int 0), none, none], [], w2)) rfl ?_
    refine xQ.loop (S := xW) (fun k s => (47, [some (.ref 11), some (.long e), none, some (.int (nI k)), none, none], [], s)) (fun k s => pI_p s (gr e) (blks (gr e) (10 * k)) ∧ xkq kB_p w2 s) 10 w2 (rfl) (⟨⟨(xkq_at hk2 11 7).trans a1.1, (xkq_at hk2 11 8).trans a1.2.1, (fun i p hi => by cases hi), (fun p hp => by cases hp)⟩, xkq_rfl⟩) ?_ ?_
    · intro k s hk hI K
      refine xQ.go 3 (F1 := (bif decide (10 ≤ (nI k)) then 132 else 53, [some (.ref 11), some (.long e), none, some (.int (nI k)), none, none], [], s)) rfl ?_
      refine xQ.brF (decide_eq_false (nI_ge (b := 10) (by omega) (by omega))) ?_
      refine xQ.go 4 (F1 := (58, [some (.ref 11), some (.long e), none, some (.int (nI k)), some (.int ((nI k) + 1)), none], [], s)) rfl ?_
      rw [show nI k + 1 = nI (k + 1) from (nI_succ k).symm]
      have hsk : ∀ n, n = k + 1 → blks (gr e) (10 * k + n) = blks (gr e) (10 * k) := fun n hn => pfold_skip (by omega) (by omega)
      refine xQ.loop (S := xW) (fun k2 s2 => (58, [some (.ref 11), some (.long e), none, some (.int (nI k)), some (.int (nI (k + 1 + k2))), none], [], s2)) (fun k2 s2 => pI_p s2 (gr e) (blks (gr e) (10 * k + (k + 1 + k2))) ∧ xkq kB_p w2 s2) (9 - k) s (rfl) (by rw [hsk (k + 1 + 0) rfl]; exact hI) ?_ ?_
      · intro k2 s2 hk2 hI2 K2
        obtain ⟨b, hbe⟩ : ∃ b, b = k + 1 + k2 := ⟨_, rfl⟩
        rw [show k + 1 + (k2 + 1) = b + 1 by omega] at K2
        rw [← hbe] at hI2 ⊢
        obtain ⟨i1, i3⟩ := hI2
        have hnx : blks (gr e) (10 * k + (b + 1)) = bAdd (gr e) (blks (gr e) (10 * k + b)) k b := pfold_next (by omega) (by omega)
        have hO : BOK (gr e) (bAdd (gr e) (blks (gr e) (10 * k + b)) k b) := by rw [← hnx]; exact blks_ok hg _ (by omega)
        rw [hnx] at K2
        have hO0 : BOK (gr e) (blks (gr e) (10 * k + b)) := blks_ok hg _ (by omega)
        generalize blks (gr e) (10 * k + b) = l at *
        have h9 := blk_nine hg hO0
        have hnear : ∀ v, v < 10 → s2.1 12 v = mk (gr e v) := fun v hv => (xkq_at i3 12 v).trans (h12 v hv)
        have skip : bAdd (gr e) l k b = l → xQ MX4_read (120, [some (.ref 11), some (.long e), none, some (.int (nI k)), some (.int (nI b)), none], [], s2) (fun r w1 => r = some (.int (if flt (gr e) (blks (gr e) 100) then 1 else 0)) ∧ pN_p w1 e ∧ xkq kA_p w w1) := by
          intro hsame
          refine xQ.go 2 (F1 := (58, [some (.ref 11), some (.long e), none, some (.int (nI k)), some (.int ((nI b) + 1)), none], [], s2)) rfl ?_
          rw [← nI_succ]
          rw [hsame] at K2
          exact K2 s2 ⟨i1, i3⟩
        refine xQ.go 3 (F1 := (bif decide (10 ≤ (nI b)) then 126 else 65, [some (.ref 11), some (.long e), none, some (.int (nI k)), some (.int (nI b)), none], [], s2)) rfl ?_
        refine xQ.brF (decide_eq_false (nI_ge (b := 10) (by omega) (by omega))) ?_
        refine xQ.go 3 (F1 := (70, [some (.ref 11), some (.long e), none, some (.int (nI k)), some (.int (nI b)), none], [.int (nI k), .ref 12], s2)) rfl ?_
        refine xQ.call rfl (c_at rfl (by omega) (by omega)) ?_
        show xQ MX4_read (73, [some (.ref 11), some (.long e), none, some (.int (nI k)), some (.int (nI b)), none], [.int (s2.1 12 k)], s2) _
        rw [hnear k (by omega)]
        refine xQ.go 1 (F1 := (75, [some (.ref 11), some (.long e), none, some (.int (nI k)), some (.int (nI b)), none], [.int (nI b), .int (mk (gr e k))], s2)) rfl ?_
        refine xQ.call rfl (c_has (show b < 10 by omega)) ?_
        show xQ MX4_read (78, [some (.ref 11), some (.long e), none, some (.int (nI k)), some (.int (nI b)), none], [.int (if gr e k b then 1 else 0)], s2) _
        refine xQ.go 1 (F1 := (bif decide ((if gr e k b then 1 else 0) = 0) then 120 else 81, [some (.ref 11), some (.long e), none, some (.int (nI k)), some (.int (nI b)), none], [], s2)) rfl ?_
        cases hGk : gr e k b with
        | false =>
          refine xQ.brT (by decide) ?_
          exact skip (by unfold bAdd; rw [hGk]; rfl)
        | true =>
          refine xQ.brF (by decide) ?_
          refine xQ.go 3 (F1 := (85, [some (.ref 11), some (.long e), none, some (.int (nI k)), some (.int (nI b)), none], [.int (nI b), .int (nI k), .ref 11], s2)) rfl ?_
          refine xQ.call rfl (c_blockOf_p (show k < 10 by omega) (show b < 10 by omega) i1.1 h9 (fun i p hi => (i1.2.2.1 i p hi).1)) ?_
          show xQ MX4_read (88, [some (.ref 11), some (.long e), none, some (.int (nI k)), some (.int (nI b)), none], [.int (match l.findIdx? (fun p => bS (gr e) p k && bS (gr e) p b) with | some i => nI i | none => -1)], s2) _
          refine xQ.go 2 (F1 := (bif !decide ((match l.findIdx? (fun p => bS (gr e) p k && bS (gr e) p b) with | some i => nI i | none => -1) = (-1)) then 120 else 92, [some (.ref 11), some (.long e), none, some (.int (nI k)), some (.int (nI b)), none], [], s2)) rfl ?_
          cases hfi : l.findIdx? (fun p => bS (gr e) p k && bS (gr e) p b) with
          | some i =>
            have hil := (List.findIdx?_eq_some_iff_getElem.mp hfi)
            obtain ⟨hil, hit, _⟩ := hil
            refine xQ.brT ?_ ?_
            · rw [decide_eq_false]
              · rfl
              · intro e2
                have := nI_pos (n := i) (by omega)
                exact this (by show nI i < 0; rw [show nI i = -1 from e2]; decide)
            refine skip ?_
            unfold bAdd
            rw [show l.any (fun p => bS (gr e) p k && bS (gr e) p b) = true from List.any_eq_true.mpr ⟨l[i], List.getElem_mem hil, hit⟩, Bool.not_true, Bool.and_false]
            rfl
          | none =>
            refine xQ.brF (by decide) ?_
            have hany : l.any (fun p => bS (gr e) p k && bS (gr e) p b) = false := by
              rw [List.any_eq_false]
              intro p hp
              rw [List.findIdx?_eq_none_iff.mp hfi p hp]
              decide
            have hadd : bAdd (gr e) l k b = l ++ [(k, b)] := by
              unfold bAdd
              rw [hany, hGk]
              rfl
            rw [hadd] at K2 hO
            have h9' := blk_nine hg hO
            rw [List.length_append] at h9'
            simp only [List.length_cons, List.length_nil] at h9'
            have hp : gr e (k, b).1 (k, b).2 = true := hGk
            refine xQ.go 3 (F1 := (96, [some (.ref 11), some (.long e), none, some (.int (nI k)), some (.int (nI b)), none], [.int (nI b), .int (nI k), .ref 11], s2)) rfl ?_
            refine xQ.call rfl (c_blockAround_p (G := gr e) hnear (show k < 10 by omega) (show b < 10 by omega)) ?_
            show xQ MX4_read (99, [some (.ref 11), some (.long e), none, some (.int (nI k)), some (.int (nI b)), none], [.int (mk (bS (gr e) (k, b)))], s2) _
            obtain ⟨r4, w4, hc4, hr4, g1, g2, g3, g4⟩ := c_embed_p (w := s2) hg (bS_bic hg hp) (fun v hv => (bS_iff.mp hv).1) (bE_pos hg hp) hnear
            subst hr4
            refine xQ.go 6 (F1 := (111, [some (.ref 11), some (.long e), none, some (.int (nI k)), some (.int (nI b)), some (.int (mk (bS (gr e) (k, b))))], [.int (mk (bS (gr e) (k, b))), .ref 12, .ref 18], s2)) rfl ?_
            refine xQ.call rfl (hc4) ?_
            show xQ MX4_read (114, [some (.ref 11), some (.long e), none, some (.int (nI k)), some (.int (nI b)), some (.int (mk (bS (gr e) (k, b))))], [], w4) _
            obtain ⟨r5, w5, hc5, hr5, q1, q2, q3, q4, q5, q6, q7⟩ := c_keep_p (w := w4) (n := l.length) hg hp (show k < b by omega) ((xkq_at g4 11 7).trans i1.1) (by omega) g1 g2 g3
            subst hr5
            refine xQ.go 2 (F1 := (117, [some (.ref 11), some (.long e), none, some (.int (nI k)), some (.int (nI b)), some (.int (mk (bS (gr e) (k, b))))], [.int (mk (bS (gr e) (k, b))), .ref 11], w4)) rfl ?_
            refine xQ.call rfl (hc5) ?_
            show xQ MX4_read (120, [some (.ref 11), some (.long e), none, some (.int (nI k)), some (.int (nI b)), some (.int (mk (bS (gr e) (k, b))))], [], w5) _
            refine xQ.go 2 (F1 := (58, [some (.ref 11), some (.long e), none, some (.int (nI k)), some (.int ((nI b) + 1)), some (.int (mk (bS (gr e) (k, b))))], [], w5)) rfl ?_
            refine xQ.less [some (.ref 11), some (.long e), none, some (.int (nI k)), some (.int ((nI b) + 1)), none] (by simp [xleb]) ?_
            rw [← nI_succ]
            exact K2 w5 ⟨pI_add_p hg hO i1 g4 q1 q2 q3 q4 q5 q6, xkq_trans (xkq_trans i3 (xkq_mono rfl g4)) (xkq_mono rfl q7)⟩
      · intro s2 hI2
        rw [show 10 * k + (k + 1 + (9 - k)) = 10 * (k + 1) by omega, show k + 1 + (9 - k) = 10 by omega] at *
        refine xQ.go 3 (F1 := (bif decide (10 ≤ (nI 10)) then 126 else 65, [some (.ref 11), some (.long e), none, some (.int (nI k)), some (.int (nI 10)), none], [], s2)) rfl ?_
        refine xQ.brT (rfl) ?_
        refine xQ.go 2 (F1 := (47, [some (.ref 11), some (.long e), none, some (.int ((nI k) + 1)), some (.int (nI 10)), none], [], s2)) rfl ?_
        refine xQ.less [some (.ref 11), some (.long e), none, some (.int ((nI k) + 1)), none, none] (by simp [xleb]) ?_
        rw [← nI_succ]
        exact K s2 hI2
    · intro s hI
      obtain ⟨i1, i3⟩ := hI
      refine xQ.go 3 (F1 := (bif decide (10 ≤ (nI 10)) then 132 else 53, [some (.ref 11), some (.long e), none, some (.int (nI 10)), none, none], [], s)) rfl ?_
      refine xQ.brT (rfl) ?_
      refine xQ.go 2 (F1 := (136, [some (.ref 11), some (.long e), none, some (.int (nI 10)), none, none], [.int (s.1 11 8)], s)) rfl ?_
      rw [i1.2.1]
      refine xQ.iret .boolean 1 rfl rfl (nar _) ?_
      exact ⟨rfl, ⟨(xkq_at i3 11 10).trans ((xkq_at hk2 11 10).trans a1.2.2.1), (xkq_atJ i3 11 9).trans ((xkq_atJ hk2 11 9).trans a1.2.2.2), fun v hv => (xkq_at i3 12 v).trans (h12 v hv), i1⟩, xkq_trans (xkq_trans ka (xkq_mono rfl hk2)) (xkq_mono rfl i3)⟩
  refine xD.of ?_
  show xQ MX4_read (0, [some (.ref 11), some (.long e), none, none, none, none], [], w) _
  rcases hP with h0 | ⟨E, hE⟩
  · refine xQ.go 3 (F1 := (bif decide ((w.1 11 10) = 0) then 21 else 7, [some (.ref 11), some (.long e), none, none, none, none], [], w)) rfl ?_
    refine xQ.brT (by rw [h0]; rfl) ?_
    exact com
  · refine xQ.go 3 (F1 := (bif decide ((w.1 11 10) = 0) then 21 else 7, [some (.ref 11), some (.long e), none, none, none, none], [], w)) rfl ?_
    refine xQ.brF (by rw [hE.1]; rfl) ?_
    refine xQ.go 5 (F1 := (bif !decide ((lg_cmp (w.2 11 9) e) = 0) then 21 else 16, [some (.ref 11), some (.long e), none, none, none, none], [], w)) rfl ?_
    rw [lg_cmp0, hE.2.1]
    by_cases e3 : E = e
    · rw [e3] at hE
      refine xQ.brF (by rw [decide_eq_true e3]; rfl) ?_
      refine xQ.go 2 (F1 := (20, [some (.ref 11), some (.long e), none, none, none, none], [.int (w.1 11 8)], w)) rfl ?_
      rw [hE.2.2.2.2.1]
      refine xQ.iret .boolean 1 rfl rfl (nar _) ?_
      exact ⟨rfl, hE, xkq_rfl⟩
    · refine xQ.brT (by rw [decide_eq_false e3]; rfl) ?_
      exact com

abbrev kA_t : xCS := [(25, none), (26, none), (27, none), (28, none), (29, none), (30, none), (31, none), (32, none), (33, none), (34, none), (35, none), (36, none), (37, none), (38, none)]
abbrev kB_t : xCS := [(25, some 7), (25, some 8), (27, none), (28, none), (29, none), (30, none), (31, none), (32, none), (33, none), (34, none), (35, none), (36, none), (37, none), (38, none)]
abbrev pI_t (w : xW) (G : Nat → Nat → Bool) (l : List xPr) : Prop := pI 25 27 28 29 30 31 w G l
abbrev pN_t (w : xW) (E : Int64) : Prop := pN 25 26 27 28 29 30 31 w E
abbrev pOK_t (w : xW) : Prop := pOK 25 26 27 28 29 30 31 w
/-- a block is added -/
theorem pI_add_t {w w1 w2 : xW} {G : Nat → Nat → Bool} {l : List xPr} {p : xPr} (hg : gok G) (hO : BOK G (l ++ [p])) (h : pI_t w G l) (k1 : xkq [(32, none), (33, none), (34, none), (35, none), (36, none), (37, none), (38, none)] w w1) (h7 : w2.1 25 7 = nI (l.length + 1)) (row : w2.1 27 l.length = mk (bS G p) ∧ w2.1 28 l.length = nI (bE G p) ∧ w2.1 30 l.length = nI (bPl G p) ∧ w2.1 29 l.length = nI (bFa G p)) (hfl : bPl G p = bE G p → w2.1 25 8 = w1.1 25 8 ∧ ∀ v x y, bSc G p v x y → w2.1 31 (10 * v + x) = nI y) (hnf : bPl G p ≠ bE G p → w2.1 25 8 = 0) (hs : ∀ v x, v < 10 → x < 10 → bH G (bS G p) v x = false → w2.1 31 (10 * v + x) = w1.1 31 (10 * v + x)) (oth : ∀ i, i ≠ l.length → w2.1 27 i = w1.1 27 i ∧ w2.1 28 i = w1.1 28 i ∧ w2.1 29 i = w1.1 29 i ∧ w2.1 30 i = w1.1 30 i) : pI_t w2 G (l ++ [p]) := by
  obtain ⟨i1, i2, i3, i4⟩ := h
  have hpm : p ∈ l ++ [p] := List.mem_append_right _ List.mem_cons_self
  have hlast : (l ++ [p])[l.length]? = some p := by simp
  refine ⟨by rw [h7]; simp, ?_, fun i q hi => ?_, fun q hq hqf v x y hsc => ?_⟩
  · rw [flt_app]
    by_cases e : bPl G p = bE G p
    · rw [(hfl e).1, xkq_at k1 25 8, i2, decide_eq_true e, Bool.and_true]
    · rw [hnf e, decide_eq_false e, Bool.and_false]; rfl
  · by_cases e : i = l.length
    · rw [e, hlast] at hi
      cases hi
      rw [e]
      exact ⟨row.1, row.2.1, row.2.2.2, row.2.2.1⟩
    · have hlt : i < l.length := by
        have := (List.getElem?_eq_some_iff.mp hi).1
        rw [List.length_append] at this
        simp only [List.length_cons, List.length_nil] at this
        omega
      rw [List.getElem?_append_left hlt] at hi
      obtain ⟨o1, o2, o3, o4⟩ := oth i e
      rw [o1, o2, o3, o4, xkq_at k1 27 i, xkq_at k1 28 i, xkq_at k1 29 i, xkq_at k1 30 i]
      exact i3 i q hi
  · rcases List.mem_append.mp hq with hq | hq
    · have hq2 := hO.1 q (List.mem_append_left _ hq)
      have hed := (bSc_edge hg hq2.1 hqf hsc).1
      have h10 := hg.2.2 _ _ (bH_iff.mp hed).1
      rw [hs v x h10.1 h10.2 ?_, xkq_at k1 31]
      · exact i4 q hq hqf v x y hsc
      · cases e : bH G (bS G p) v x with
        | false => rfl
        | true =>
          exfalso
          obtain ⟨i, hi, ei⟩ := List.mem_iff_getElem.mp hq
          have e1 := bH_iff.mp hed
          have e2 := bH_iff.mp e
          have := BOK_one hg hO (i := i) (j := l.length) (p := q) (q := p) (by rw [List.getElem?_append_left hi, List.getElem?_eq_getElem hi, ei]) hlast e1.1 e1.2.1 e1.2.2 e2.2.1 e2.2.2
          omega
    · rw [List.mem_singleton.mp hq] at hqf hsc
      exact (hfl hqf).2 v x y hsc
theorem c_read_t {w : xW} {e : Int64} (hP : pOK_t w) : xD MX4_read [.ref 25, .long e] w (fun r w1 => r = some (.int (if flt (gr e) (blks (gr e) 100) then 1 else 0)) ∧ pN_t w1 e ∧ xkq kA_t w w1) := by
  have hg := gr_gok e
  have nar : ∀ b : Bool, narrow .boolean (.int (if b then 1 else 0)) = .int (if b then 1 else 0) := fun b => by cases b <;> rfl
  have com : xQ MX4_read (21, [some (.ref 25), some (.long e), none, none, none, none], [], w) (fun r w1 => r = some (.int (if flt (gr e) (blks (gr e) 100) then 1 else 0)) ∧ pN_t w1 e ∧ xkq kA_t w w1) := by
    refine xQ.go 12 (F1 := (41, [some (.ref 25), some (.long e), none, none, none, none], [], (xuI (xuI (xuJ (xuI w 25 10 1) 25 9 e) 25 7 0) 25 8 1))) rfl ?_
    obtain ⟨w1, e1⟩ : ∃ w1, w1 = (xuI (xuI (xuJ (xuI w 25 10 1) 25 9 e) 25 7 0) 25 8 1) := ⟨_, rfl⟩
    rw [← e1]
    have a1 : w1.1 25 7 = 0 ∧ w1.1 25 8 = 1 ∧ w1.1 25 10 = 1 ∧ w1.2 25 9 = e := by rw [e1]; simp [uI1, uI2, uJ1, uJ2]
    have ka : xkq kA_t w w1 := by rw [e1]; exact xkq_I (xkq_I (xkq_J (xkq_I xkq_rfl rfl) rfl) rfl) rfl
    obtain ⟨r2, w2, hc, hr, h12, hk2⟩ := c_fillNear_t (w := w1)
    subst hr
    refine xQ.go 1 (F1 := (42, [some (.ref 25), some (.long e), none, none, none, none], [.ref 25], w1)) rfl ?_
    refine xQ.call rfl (hc) ?_
    show xQ MX4_read (45, [some (.ref 25), some (.long e), none, none, none, none], [], w2) _
    rw [a1.2.2.2] at h12
    refine xQ.go 2 (F1 := (47, [some (.ref 25), some (.long e), none, some (.int 0), none, none], [], w2)) rfl ?_
    refine xQ.loop (S := xW) (fun k s => (47, [some (.ref 25), some (.long e), none, some (.int (nI k)), none, none], [], s)) (fun k s => pI_t s (gr e) (blks (gr e) (10 * k)) ∧ xkq kB_t w2 s) 10 w2 (rfl) (⟨⟨(xkq_at hk2 25 7).trans a1.1, (xkq_at hk2 25 8).trans a1.2.1, (fun i p hi => by cases hi), (fun p hp => by cases hp)⟩, xkq_rfl⟩) ?_ ?_
    · intro k s hk hI K
      refine xQ.go 3 (F1 := (bif decide (10 ≤ (nI k)) then 132 else 53, [some (.ref 25), some (.long e), none, some (.int (nI k)), none, none], [], s)) rfl ?_
      refine xQ.brF (decide_eq_false (nI_ge (b := 10) (by omega) (by omega))) ?_
      refine xQ.go 4 (F1 := (58, [some (.ref 25), some (.long e), none, some (.int (nI k)), some (.int ((nI k) + 1)), none], [], s)) rfl ?_
      rw [show nI k + 1 = nI (k + 1) from (nI_succ k).symm]
      have hsk : ∀ n, n = k + 1 → blks (gr e) (10 * k + n) = blks (gr e) (10 * k) := fun n hn => pfold_skip (by omega) (by omega)
      refine xQ.loop (S := xW) (fun k2 s2 => (58, [some (.ref 25), some (.long e), none, some (.int (nI k)), some (.int (nI (k + 1 + k2))), none], [], s2)) (fun k2 s2 => pI_t s2 (gr e) (blks (gr e) (10 * k + (k + 1 + k2))) ∧ xkq kB_t w2 s2) (9 - k) s (rfl) (by rw [hsk (k + 1 + 0) rfl]; exact hI) ?_ ?_
      · intro k2 s2 hk2 hI2 K2
        obtain ⟨b, hbe⟩ : ∃ b, b = k + 1 + k2 := ⟨_, rfl⟩
        rw [show k + 1 + (k2 + 1) = b + 1 by omega] at K2
        rw [← hbe] at hI2 ⊢
        obtain ⟨i1, i3⟩ := hI2
        have hnx : blks (gr e) (10 * k + (b + 1)) = bAdd (gr e) (blks (gr e) (10 * k + b)) k b := pfold_next (by omega) (by omega)
        have hO : BOK (gr e) (bAdd (gr e) (blks (gr e) (10 * k + b)) k b) := by rw [← hnx]; exact blks_ok hg _ (by omega)
        rw [hnx] at K2
        have hO0 : BOK (gr e) (blks (gr e) (10 * k + b)) := blks_ok hg _ (by omega)
        generalize blks (gr e) (10 * k + b) = l at *
        have h9 := blk_nine hg hO0
        have hnear : ∀ v, v < 10 → s2.1 26 v = mk (gr e v) := fun v hv => (xkq_at i3 26 v).trans (h12 v hv)
        have skip : bAdd (gr e) l k b = l → xQ MX4_read (120, [some (.ref 25), some (.long e), none, some (.int (nI k)), some (.int (nI b)), none], [], s2) (fun r w1 => r = some (.int (if flt (gr e) (blks (gr e) 100) then 1 else 0)) ∧ pN_t w1 e ∧ xkq kA_t w w1) := by
          intro hsame
          refine xQ.go 2 (F1 := (58, [some (.ref 25), some (.long e), none, some (.int (nI k)), some (.int ((nI b) + 1)), none], [], s2)) rfl ?_
          rw [← nI_succ]
          rw [hsame] at K2
          exact K2 s2 ⟨i1, i3⟩
        refine xQ.go 3 (F1 := (bif decide (10 ≤ (nI b)) then 126 else 65, [some (.ref 25), some (.long e), none, some (.int (nI k)), some (.int (nI b)), none], [], s2)) rfl ?_
        refine xQ.brF (decide_eq_false (nI_ge (b := 10) (by omega) (by omega))) ?_
        refine xQ.go 3 (F1 := (70, [some (.ref 25), some (.long e), none, some (.int (nI k)), some (.int (nI b)), none], [.int (nI k), .ref 26], s2)) rfl ?_
        refine xQ.call rfl (c_at rfl (by omega) (by omega)) ?_
        show xQ MX4_read (73, [some (.ref 25), some (.long e), none, some (.int (nI k)), some (.int (nI b)), none], [.int (s2.1 26 k)], s2) _
        rw [hnear k (by omega)]
        refine xQ.go 1 (F1 := (75, [some (.ref 25), some (.long e), none, some (.int (nI k)), some (.int (nI b)), none], [.int (nI b), .int (mk (gr e k))], s2)) rfl ?_
        refine xQ.call rfl (c_has (show b < 10 by omega)) ?_
        show xQ MX4_read (78, [some (.ref 25), some (.long e), none, some (.int (nI k)), some (.int (nI b)), none], [.int (if gr e k b then 1 else 0)], s2) _
        refine xQ.go 1 (F1 := (bif decide ((if gr e k b then 1 else 0) = 0) then 120 else 81, [some (.ref 25), some (.long e), none, some (.int (nI k)), some (.int (nI b)), none], [], s2)) rfl ?_
        cases hGk : gr e k b with
        | false =>
          refine xQ.brT (by decide) ?_
          exact skip (by unfold bAdd; rw [hGk]; rfl)
        | true =>
          refine xQ.brF (by decide) ?_
          refine xQ.go 3 (F1 := (85, [some (.ref 25), some (.long e), none, some (.int (nI k)), some (.int (nI b)), none], [.int (nI b), .int (nI k), .ref 25], s2)) rfl ?_
          refine xQ.call rfl (c_blockOf_t (show k < 10 by omega) (show b < 10 by omega) i1.1 h9 (fun i p hi => (i1.2.2.1 i p hi).1)) ?_
          show xQ MX4_read (88, [some (.ref 25), some (.long e), none, some (.int (nI k)), some (.int (nI b)), none], [.int (match l.findIdx? (fun p => bS (gr e) p k && bS (gr e) p b) with | some i => nI i | none => -1)], s2) _
          refine xQ.go 2 (F1 := (bif !decide ((match l.findIdx? (fun p => bS (gr e) p k && bS (gr e) p b) with | some i => nI i | none => -1) = (-1)) then 120 else 92, [some (.ref 25), some (.long e), none, some (.int (nI k)), some (.int (nI b)), none], [], s2)) rfl ?_
          cases hfi : l.findIdx? (fun p => bS (gr e) p k && bS (gr e) p b) with
          | some i =>
            have hil := (List.findIdx?_eq_some_iff_getElem.mp hfi)
            obtain ⟨hil, hit, _⟩ := hil
            refine xQ.brT ?_ ?_
            · rw [decide_eq_false]
              · rfl
              · intro e2
                have := nI_pos (n := i) (by omega)
                exact this (by show nI i < 0; rw [show nI i = -1 from e2]; decide)
            refine skip ?_
            unfold bAdd
            rw [show l.any (fun p => bS (gr e) p k && bS (gr e) p b) = true from List.any_eq_true.mpr ⟨l[i], List.getElem_mem hil, hit⟩, Bool.not_true, Bool.and_false]
            rfl
          | none =>
            refine xQ.brF (by decide) ?_
            have hany : l.any (fun p => bS (gr e) p k && bS (gr e) p b) = false := by
              rw [List.any_eq_false]
              intro p hp
              rw [List.findIdx?_eq_none_iff.mp hfi p hp]
              decide
            have hadd : bAdd (gr e) l k b = l ++ [(k, b)] := by
              unfold bAdd
              rw [hany, hGk]
              rfl
            rw [hadd] at K2 hO
            have h9' := blk_nine hg hO
            rw [List.length_append] at h9'
            simp only [List.length_cons, List.length_nil] at h9'
            have hp : gr e (k, b).1 (k, b).2 = true := hGk
            refine xQ.go 3 (F1 := (96, [some (.ref 25), some (.long e), none, some (.int (nI k)), some (.int (nI b)), none], [.int (nI b), .int (nI k), .ref 25], s2)) rfl ?_
            refine xQ.call rfl (c_blockAround_t (G := gr e) hnear (show k < 10 by omega) (show b < 10 by omega)) ?_
            show xQ MX4_read (99, [some (.ref 25), some (.long e), none, some (.int (nI k)), some (.int (nI b)), none], [.int (mk (bS (gr e) (k, b)))], s2) _
            obtain ⟨r4, w4, hc4, hr4, g1, g2, g3, g4⟩ := c_embed_t (w := s2) hg (bS_bic hg hp) (fun v hv => (bS_iff.mp hv).1) (bE_pos hg hp) hnear
            subst hr4
            refine xQ.go 6 (F1 := (111, [some (.ref 25), some (.long e), none, some (.int (nI k)), some (.int (nI b)), some (.int (mk (bS (gr e) (k, b))))], [.int (mk (bS (gr e) (k, b))), .ref 26, .ref 32], s2)) rfl ?_
            refine xQ.call rfl (hc4) ?_
            show xQ MX4_read (114, [some (.ref 25), some (.long e), none, some (.int (nI k)), some (.int (nI b)), some (.int (mk (bS (gr e) (k, b))))], [], w4) _
            obtain ⟨r5, w5, hc5, hr5, q1, q2, q3, q4, q5, q6, q7⟩ := c_keep_t (w := w4) (n := l.length) hg hp (show k < b by omega) ((xkq_at g4 25 7).trans i1.1) (by omega) g1 g2 g3
            subst hr5
            refine xQ.go 2 (F1 := (117, [some (.ref 25), some (.long e), none, some (.int (nI k)), some (.int (nI b)), some (.int (mk (bS (gr e) (k, b))))], [.int (mk (bS (gr e) (k, b))), .ref 25], w4)) rfl ?_
            refine xQ.call rfl (hc5) ?_
            show xQ MX4_read (120, [some (.ref 25), some (.long e), none, some (.int (nI k)), some (.int (nI b)), some (.int (mk (bS (gr e) (k, b))))], [], w5) _
            refine xQ.go 2 (F1 := (58, [some (.ref 25), some (.long e), none, some (.int (nI k)), some (.int ((nI b) + 1)), some (.int (mk (bS (gr e) (k, b))))], [], w5)) rfl ?_
            refine xQ.less [some (.ref 25), some (.long e), none, some (.int (nI k)), some (.int ((nI b) + 1)), none] (by simp [xleb]) ?_
            rw [← nI_succ]
            exact K2 w5 ⟨pI_add_t hg hO i1 g4 q1 q2 q3 q4 q5 q6, xkq_trans (xkq_trans i3 (xkq_mono rfl g4)) (xkq_mono rfl q7)⟩
      · intro s2 hI2
        rw [show 10 * k + (k + 1 + (9 - k)) = 10 * (k + 1) by omega, show k + 1 + (9 - k) = 10 by omega] at *
        refine xQ.go 3 (F1 := (bif decide (10 ≤ (nI 10)) then 126 else 65, [some (.ref 25), some (.long e), none, some (.int (nI k)), some (.int (nI 10)), none], [], s2)) rfl ?_
        refine xQ.brT (rfl) ?_
        refine xQ.go 2 (F1 := (47, [some (.ref 25), some (.long e), none, some (.int ((nI k) + 1)), some (.int (nI 10)), none], [], s2)) rfl ?_
        refine xQ.less [some (.ref 25), some (.long e), none, some (.int ((nI k) + 1)), none, none] (by simp [xleb]) ?_
        rw [← nI_succ]
        exact K s2 hI2
    · intro s hI
      obtain ⟨i1, i3⟩ := hI
      refine xQ.go 3 (F1 := (bif decide (10 ≤ (nI 10)) then 132 else 53, [some (.ref 25), some (.long e), none, some (.int (nI 10)), none, none], [], s)) rfl ?_
      refine xQ.brT (rfl) ?_
      refine xQ.go 2 (F1 := (136, [some (.ref 25), some (.long e), none, some (.int (nI 10)), none, none], [.int (s.1 25 8)], s)) rfl ?_
      rw [i1.2.1]
      refine xQ.iret .boolean 1 rfl rfl (nar _) ?_
      exact ⟨rfl, ⟨(xkq_at i3 25 10).trans ((xkq_at hk2 25 10).trans a1.2.2.1), (xkq_atJ i3 25 9).trans ((xkq_atJ hk2 25 9).trans a1.2.2.2), fun v hv => (xkq_at i3 26 v).trans (h12 v hv), i1⟩, xkq_trans (xkq_trans ka (xkq_mono rfl hk2)) (xkq_mono rfl i3)⟩
  refine xD.of ?_
  show xQ MX4_read (0, [some (.ref 25), some (.long e), none, none, none, none], [], w) _
  rcases hP with h0 | ⟨E, hE⟩
  · refine xQ.go 3 (F1 := (bif decide ((w.1 25 10) = 0) then 21 else 7, [some (.ref 25), some (.long e), none, none, none, none], [], w)) rfl ?_
    refine xQ.brT (by rw [h0]; rfl) ?_
    exact com
  · refine xQ.go 3 (F1 := (bif decide ((w.1 25 10) = 0) then 21 else 7, [some (.ref 25), some (.long e), none, none, none, none], [], w)) rfl ?_
    refine xQ.brF (by rw [hE.1]; rfl) ?_
    refine xQ.go 5 (F1 := (bif !decide ((lg_cmp (w.2 25 9) e) = 0) then 21 else 16, [some (.ref 25), some (.long e), none, none, none, none], [], w)) rfl ?_
    rw [lg_cmp0, hE.2.1]
    by_cases e3 : E = e
    · rw [e3] at hE
      refine xQ.brF (by rw [decide_eq_true e3]; rfl) ?_
      refine xQ.go 2 (F1 := (20, [some (.ref 25), some (.long e), none, none, none, none], [.int (w.1 25 8)], w)) rfl ?_
      rw [hE.2.2.2.2.1]
      refine xQ.iret .boolean 1 rfl rfl (nar _) ?_
      exact ⟨rfl, hE, xkq_rfl⟩
    · refine xQ.brT (by rw [decide_eq_false e3]; rfl) ?_
      exact com
end
section
/-! the order around a vertex -/
theorem rtl_ex0 {G : Nat → Nat → Bool} (hg : gok G) {p : xPr} (hp : G p.1 p.2 = true) (hf : bPl G p = bE G p) {v : Nat} (hv : bS G p v = true) : ∃ R : List Nat, R.Nodup ∧ (∀ x, x ∈ R ↔ bH G (bS G p) v x = true) ∧ ∀ x y, (x, y) ∈ dts R → bSc G p v x y := by
  have hb := bS_bic hg hp
  have h10 := hg.2.2 _ _ hp
  have ha : bS G p p.1 = true := bS_iff.mpr ⟨h10.1, Bs_a hg hp⟩
  have hbb : bS G p p.2 = true := bS_iff.mpr ⟨h10.2, Bs_b hg hp⟩
  by_cases he : bE G p = 1
  · have hone := bS_one hg hp he
    have hsc : ∀ x y, bSc G p v x y ↔ (v = p.1 ∧ x = p.2 ∧ y = p.2) ∨ (v = p.2 ∧ x = p.1 ∧ y = p.1) := fun x y => by
      unfold bSc
      rw [if_pos he]
    rw [hone] at hv
    have one : ∀ a b, (∀ z, bS G p z = true ↔ z = a ∨ z = b) → G a b = true → v = a → ∀ x, x ∈ [b] ↔ bH G (bS G p) v x = true := by
      intro a b h1 h2 h3 x
      subst h3
      rw [List.mem_singleton, bH_iff]
      constructor
      · rintro rfl
        exact ⟨h2, (h1 v).mpr (Or.inl rfl), (h1 x).mpr (Or.inr rfl)⟩
      · rintro ⟨g1, _, g3⟩
        rcases (h1 x).mp g3 with e | e
        · rw [e, hg.2.1] at g1
          cases g1
        · exact e
    rcases two_iff.mp hv with e | e
    · refine ⟨[p.2], by simp, one p.1 p.2 (fun z => by rw [hone]; exact two_iff) hp e, fun x y h => (hsc x y).mpr (Or.inl ?_)⟩
      have : (x, y) = (p.2, p.2) := by simpa [dts, pd] using h
      cases this
      exact ⟨e, rfl, rfl⟩
    · refine ⟨[p.1], by simp, one p.2 p.1 (fun z => by rw [hone, two_iff]; exact Or.comm) (by rw [hg.1]; exact hp) e, fun x y h => (hsc x y).mpr (Or.inr ?_)⟩
      have : (x, y) = (p.1, p.1) := by simpa [dts, pd] using h
      cases this
      exact ⟨e, rfl, rfl⟩
  · have hEO := bR_ok hg hp he
    have hall := EOK_all hb hEO (by unfold bPl at hf; rw [if_neg he] at hf; exact hf)
    obtain ⟨I1, I2, I3, I4, I5, I6, I7, I8, I9⟩ := hEO.1
    obtain ⟨w, hw⟩ := bS_edge hg hp hv
    have hPV := (I2 v w (by rw [hall]; exact hw)).2
    obtain ⟨R, r1, r2, r3⟩ := I9 v hPV
    refine ⟨R, r1, fun x => by rw [r2, hall], fun x y hxy => ?_⟩
    have hx := (dts_mem hxy).1
    have hPx : (bR G p).1 x v = true := by rw [I1]; exact (r2 x).mp hx
    obtain ⟨f, hf1, hf2⟩ := List.mem_flatMap.mp ((I6 x v).mpr hPx)
    obtain ⟨z, hz⟩ := dts_ex (dts_mem hf2).2
    have h3 := r3 f hf1 x z hf2 hz
    have := dts_fun r1 hxy h3
    subst this
    unfold bSc
    rw [if_neg he]
    exact ⟨f, hf1, hf2, hz⟩
theorem rtl_ex {G : Nat → Nat → Bool} (hg : gok G) {p : xPr} (hp : G p.1 p.2 = true) (hf : bPl G p = bE G p) {v : Nat} (hv : bS G p v = true) : ∃ R : List Nat, R.Nodup ∧ (∀ x, x ∈ R ↔ bH G (bS G p) v x = true) ∧ (∀ x y, (x, y) ∈ dts R → bSc G p v x y) ∧ R.head? = some (low (bH G (bS G p) v)) := by
  obtain ⟨R, r1, r2, r3⟩ := rtl_ex0 hg hp hf hv
  obtain ⟨w, hw⟩ := bS_edge hg hp hv
  have hw10 := (hg.2.2 _ _ (bH_iff.mp hw).1).2
  have hl := low_some hw10 hw
  obtain ⟨A, B, e⟩ := List.append_of_mem ((r2 _).mpr hl.2)
  refine ⟨low (bH G (bS G p) v) :: B ++ A, ?_, fun x => ?_, fun x y h => r3 x y ?_, rfl⟩
  · rw [e] at r1
    exact (List.perm_append_comm.nodup_iff).mp r1
  · rw [← r2, e, List.mem_append, List.mem_append, Or.comm]
  · rw [e, dts_rot]
    exact h
/-- the neighbors of v in a block, from the least on -/
noncomputable def rtl (G : Nat → Nat → Bool) (p : xPr) (v : Nat) : List Nat := bif bS G p v then Classical.epsilon (fun R : List Nat => R.Nodup ∧ (∀ x, x ∈ R ↔ bH G (bS G p) v x = true) ∧ (∀ x y, (x, y) ∈ dts R → bSc G p v x y) ∧ R.head? = some (low (bH G (bS G p) v))) else []
theorem rtl_no {G : Nat → Nat → Bool} {p : xPr} {v : Nat} (hv : bS G p v = false) : rtl G p v = [] := by unfold rtl; rw [hv]; rfl
theorem rtl_yes {G : Nat → Nat → Bool} (hg : gok G) {p : xPr} (hp : G p.1 p.2 = true) (hf : bPl G p = bE G p) {v : Nat} (hv : bS G p v = true) : (rtl G p v).Nodup ∧ (∀ x, x ∈ rtl G p v ↔ bH G (bS G p) v x = true) ∧ (∀ x y, (x, y) ∈ dts (rtl G p v) → bSc G p v x y) ∧ (rtl G p v).head? = some (low (bH G (bS G p) v)) := by
  unfold rtl
  rw [hv]
  exact Classical.epsilon_spec (rtl_ex hg hp hf hv)
theorem rtl_mem {G : Nat → Nat → Bool} (hg : gok G) {p : xPr} (hp : G p.1 p.2 = true) (hf : bPl G p = bE G p) {v x : Nat} : x ∈ rtl G p v ↔ bH G (bS G p) v x = true := by
  cases hv : bS G p v with
  | true => exact (rtl_yes hg hp hf hv).2.1 x
  | false =>
    rw [rtl_no hv]
    constructor
    · intro h; cases h
    · intro h
      have := (bH_iff.mp h).2.1
      rw [hv] at this
      cases this
theorem rtl_nodup {G : Nat → Nat → Bool} (hg : gok G) {p : xPr} (hp : G p.1 p.2 = true) (hf : bPl G p = bE G p) (v : Nat) : (rtl G p v).Nodup := by
  cases hv : bS G p v with
  | true => exact (rtl_yes hg hp hf hv).1
  | false => rw [rtl_no hv]; exact List.nodup_nil
theorem rtl_sc {G : Nat → Nat → Bool} (hg : gok G) {p : xPr} (hp : G p.1 p.2 = true) (hf : bPl G p = bE G p) {v x y : Nat} (h : (x, y) ∈ dts (rtl G p v)) : bSc G p v x y := by
  cases hv : bS G p v with
  | true => exact (rtl_yes hg hp hf hv).2.2.1 x y h
  | false => rw [rtl_no hv] at h; cases h
/-- the order around a vertex -/
noncomputable def ord (G : Nat → Nat → Bool) (l : List xPr) (v : Nat) : List Nat := l.flatMap (fun p => rtl G p v)
theorem flt_all {G : Nat → Nat → Bool} {l : List xPr} (h : flt G l = true) {p : xPr} (hp : p ∈ l) : bPl G p = bE G p := of_decide_eq_true (List.all_eq_true.mp h p hp)
theorem ord_nodup {G : Nat → Nat → Bool} (hg : gok G) {l : List xPr} (hO : BOK G l) (hf : flt G l = true) (v : Nat) : (ord G l v).Nodup := by
  unfold ord
  refine List.pairwise_flatMap.mpr ⟨fun p hp => rtl_nodup hg (hO.1 p hp).1 (flt_all hf hp) v, ?_⟩
  refine List.Pairwise.imp_of_mem ?_ hO.2
  intro p q hp hq hpq x hx y hy e
  subst e
  have e1 := bH_iff.mp ((rtl_mem hg (hO.1 p hp).1 (flt_all hf hp)).mp hx)
  have e2 := bH_iff.mp ((rtl_mem hg (hO.1 q hq).1 (flt_all hf hq)).mp hy)
  have hs := bS_same hg (hO.1 p hp).1 e1.1 e1.2.1 e1.2.2 (hO.1 q hq).1 e2.2.1 e2.2.2
  have hq1 := (hO.1 q hq).1
  have h10 := hg.2.2 _ _ hq1
  rw [hs, hs, bS_iff.mpr ⟨h10.1, Bs_a hg hq1⟩, bS_iff.mpr ⟨h10.2, Bs_b hg hq1⟩] at hpq
  cases hpq
theorem ord_mem {G : Nat → Nat → Bool} (hg : gok G) (hf : flt G (blks G 100) = true) {v x : Nat} : x ∈ ord G (blks G 100) v ↔ G v x = true := by
  have hO := blks_ok hg 100 (Nat.le_refl _)
  unfold ord
  rw [List.mem_flatMap]
  constructor
  · rintro ⟨p, hp, hx⟩
    exact (bH_iff.mp ((rtl_mem hg (hO.1 p hp).1 (flt_all hf hp)).mp hx)).1
  · intro h
    obtain ⟨p, hp, h1, h2⟩ := blks_all hg h
    exact ⟨p, hp, (rtl_mem hg (hO.1 p hp).1 (flt_all hf hp)).mpr (bH_iff.mpr ⟨h, h1, h2⟩)⟩
/-- behind x in a cyclic list -/
def nxL (L : List Nat) (x : Nat) : Nat := L.getD ((L.findIdx (fun z => Nat.beq z x) + 1) % L.length) 0
theorem nxL_dts {L : List Nat} {x : Nat} (h : x ∈ L) : (x, nxL L x) ∈ dts L := by
  obtain ⟨A, B, e, hA, hi⟩ := findIdx_beq h
  have hpos : 0 < L.length := by rw [e]; simp; omega
  have hlt := Nat.mod_lt (L.findIdx (fun z => Nat.beq z x) + 1) hpos
  refine dts_get (i := L.findIdx (fun z => Nat.beq z x)) ?_ ?_
  · rw [hi, e]
    simp
  · unfold nxL
    rw [List.getD_eq_getElem?_getD, List.getElem?_eq_getElem hlt]
    rfl
/-- NEXT -/
noncomputable def nxt (G : Nat → Nat → Bool) (v x : Nat) : Nat := nxL (ord G (blks G 100) v) x
theorem nxt_dts {G : Nat → Nat → Bool} (hg : gok G) (hf : flt G (blks G 100) = true) {v x : Nat} (h : G v x = true) : (x, nxt G v x) ∈ dts (ord G (blks G 100) v) := nxL_dts ((ord_mem hg hf).mpr h)
theorem nxt_of {G : Nat → Nat → Bool} (hg : gok G) (hf : flt G (blks G 100) = true) {v x y : Nat} (h : (x, y) ∈ dts (ord G (blks G 100) v)) : nxt G v x = y :=
  dts_fun (ord_nodup hg (blks_ok hg 100 (Nat.le_refl _)) hf v) (nxL_dts (dts_mem h).1) h
theorem nxt_edge {G : Nat → Nat → Bool} (hg : gok G) (hf : flt G (blks G 100) = true) {v x : Nat} (h : G v x = true) : G v (nxt G v x) = true := (ord_mem hg hf).mp (dts_mem (nxt_dts hg hf h)).2
end
section
/-! walks, traced one after the other -/
def wup (lab : Nat → Option Nat) (d k : Nat) : Nat → Option Nat := fun j => bif Nat.beq j d then some k else lab j
theorem wup_eq (lab : Nat → Option Nat) (d k j : Nat) : wup lab d k j = if j = d then some k else lab j := by
  unfold wup
  cases h : Nat.beq j d with
  | true => rw [if_pos (Nat.eq_of_beq_eq_true h)]; rfl
  | false => rw [if_neg (Nat.ne_of_beq_eq_false h)]; rfl
abbrev dn (q : xPr) : Nat := 10 * q.1 + q.2
def fol (N : Nat → Nat → Nat) (k : Nat) : Nat → (Nat → Option Nat) → Nat → Nat → (Nat → Option Nat) × List xPr
  | 0, lab, _, _ => (lab, [])
  | n + 1, lab, v, w => if (lab (10 * v + w)).isSome = true then (lab, []) else ((fol N k n (wup lab (10 * v + w) k) w (N w v)).1, (v, w) :: (fol N k n (wup lab (10 * v + w) k) w (N w v)).2)
theorem fol_stop {N : Nat → Nat → Nat} {k : Nat} {n : Nat} {lab : Nat → Option Nat} {v w : Nat} (h : (lab (10 * v + w)).isSome = true) : fol N k n lab v w = (lab, []) := by
  cases n with
  | zero => rfl
  | succ n => unfold fol; rw [if_pos h]
theorem fol_go {N : Nat → Nat → Nat} {k : Nat} {n : Nat} {lab : Nat → Option Nat} {v w : Nat} (h : (lab (10 * v + w)).isSome = false) : fol N k (n + 1) lab v w = ((fol N k n (wup lab (10 * v + w) k) w (N w v)).1, (v, w) :: (fol N k n (wup lab (10 * v + w) k) w (N w v)).2) := by
  rw [fol, if_neg (by rw [h]; decide)]
/-- the darts from one on -/
def itd (N : Nat → Nat → Nat) (v w : Nat) : Nat → xPr
  | 0 => (v, w)
  | j + 1 => ((itd N v w j).2, N (itd N v w j).2 (itd N v w j).1)
theorem itd_next (N : Nat → Nat → Nat) (v w : Nat) : ∀ j, itd N w (N w v) j = itd N v w (j + 1)
  | 0 => rfl
  | j + 1 => by
    show ((itd N w (N w v) j).2, N (itd N w (N w v) j).2 (itd N w (N w v) j).1) = _
    rw [itd_next N v w j]
    rfl
theorem fol_lab {N : Nat → Nat → Nat} {k : Nat} : ∀ (n : Nat) (lab : Nat → Option Nat) (v w : Nat), (∀ d, (fol N k n lab v w).1 d = if d ∈ (fol N k n lab v w).2.map dn then some k else lab d) ∧ ((fol N k n lab v w).2.map dn).Nodup ∧ (∀ d ∈ (fol N k n lab v w).2.map dn, lab d = none) ∧ ∀ (j : Nat) (q : xPr), (fol N k n lab v w).2[j]? = some q → q = itd N v w j
  | 0, lab, v, w => ⟨fun d => by simp [fol], by simp [fol], by simp [fol], by simp [fol]⟩
  | n + 1, lab, v, w => by
    cases h : (lab (10 * v + w)).isSome with
    | true =>
      rw [fol_stop h]
      exact ⟨fun d => by simp, by simp, by simp, by simp⟩
    | false =>
      have hno : lab (10 * v + w) = none := by
        cases e : lab (10 * v + w) with
        | none => rfl
        | some z => rw [e] at h; cases h
      obtain ⟨a1, a2, a3, a4⟩ := fol_lab (N := N) (k := k) n (wup lab (10 * v + w) k) w (N w v)
      rw [fol_go h]
      refine ⟨fun d => ?_, ?_, fun d hd => ?_, fun j q hj => ?_⟩
      · show (fol N k n (wup lab (10 * v + w) k) w (N w v)).1 d = _
        rw [a1 d]
        by_cases e1 : d ∈ (fol N k n (wup lab (10 * v + w) k) w (N w v)).2.map dn
        · rw [if_pos e1, if_pos (by rw [List.map_cons]; exact List.mem_cons_of_mem _ e1)]
        · rw [if_neg e1, wup_eq]
          by_cases e2 : d = 10 * v + w
          · rw [if_pos e2, if_pos (by rw [List.map_cons, e2]; exact List.mem_cons_self)]
          · rw [if_neg e2, if_neg]
            rw [List.map_cons, List.mem_cons]
            rintro (e | e)
            · exact e2 e
            · exact e1 e
      · rw [List.map_cons]
        refine List.nodup_cons.mpr ⟨fun e => ?_, a2⟩
        have := a3 _ e
        rw [wup_eq, if_pos rfl] at this
        cases this
      · rw [List.map_cons, List.mem_cons] at hd
        rcases hd with e | e
        · rw [e]; exact hno
        · have := a3 d e
          rw [wup_eq] at this
          by_cases e2 : d = 10 * v + w
          · rw [if_pos e2] at this; cases this
          · rw [if_neg e2] at this; exact this
      · cases j with
        | zero => cases hj; rfl
        | succ j =>
          rw [List.getElem?_cons_succ] at hj
          rw [a4 j q hj, itd_next]
/-- darts without a label -/
def fre (G : Nat → Nat → Bool) (lab : Nat → Option Nat) : Nat := cnt (fun d => G (d / 10) (d % 10) && !(lab d).isSome) 100
theorem dn_div {v w : Nat} (hw : w < 10) : (10 * v + w) / 10 = v ∧ (10 * v + w) % 10 = w := by omega
theorem fre_wup {G : Nat → Nat → Bool} {lab : Nat → Option Nat} {v w k : Nat} (hv : v < 10) (hw : w < 10) (hg : G v w = true) (h : (lab (10 * v + w)).isSome = false) : fre G (wup lab (10 * v + w) k) + 1 = fre G lab := by
  unfold fre
  rw [← cnt_add1 (S := fun d => G (d / 10) (d % 10) && !(wup lab (10 * v + w) k d).isSome) (p := 10 * v + w) (n := 100) (by omega) (by rw [wup_eq, if_pos rfl]; simp)]
  refine cnt_ext fun d _ => ?_
  by_cases e : d = 10 * v + w
  · subst e
    rw [(dn_div (v := v) hw).1, (dn_div (v := v) hw).2, hg, h]
    simp
  · rw [wup_eq, if_neg e]
    simp [e]
theorem fre_pos {G : Nat → Nat → Bool} {lab : Nat → Option Nat} {v w : Nat} (hv : v < 10) (hw : w < 10) (hg : G v w = true) (h : (lab (10 * v + w)).isSome = false) : 1 ≤ fre G lab := by
  have := fre_wup (k := 0) hv hw hg h
  omega
/-- all darts of a trace are edges, and it takes as many free darts as it is long -/
theorem fol_fre {G : Nat → Nat → Bool} {N : Nat → Nat → Nat} (hG : ∀ v w, G v w = true → v < 10 ∧ w < 10 ∧ G w (N w v) = true) {k : Nat} : ∀ (n : Nat) (lab : Nat → Option Nat) (v w : Nat), G v w = true → fre G (fol N k n lab v w).1 + (fol N k n lab v w).2.length = fre G lab ∧ ∀ q ∈ (fol N k n lab v w).2, G q.1 q.2 = true
  | 0, lab, v, w, _ => ⟨by simp [fol], by simp [fol]⟩
  | n + 1, lab, v, w, hvw => by
    obtain ⟨hv, hw, hn⟩ := hG v w hvw
    cases h : (lab (10 * v + w)).isSome with
    | true =>
      rw [fol_stop h]
      exact ⟨by simp, by simp⟩
    | false =>
      obtain ⟨a1, a2⟩ := fol_fre hG (k := k) n (wup lab (10 * v + w) k) w (N w v) hn
      have := fre_wup (k := k) hv hw hvw h
      rw [fol_go h]
      refine ⟨?_, fun q hq => ?_⟩
      · show fre G (fol N k n (wup lab (10 * v + w) k) w (N w v)).1 + ((fol N k n (wup lab (10 * v + w) k) w (N w v)).2.length + 1) = _
        omega
      · rcases List.mem_cons.mp hq with e | e
        · rw [e]; exact hvw
        · exact a2 q e
def trc (N : Nat → Nat → Nat) (G : Nat → Nat → Bool) : Nat → (Nat → Option Nat) × List (List xPr)
  | 0 => (fun _ => none, [])
  | n + 1 => if (G (n / 10) (n % 10) && !((trc N G n).1 n).isSome) = true then ((fol N (trc N G n).2.length 101 (trc N G n).1 (n / 10) (n % 10)).1, (trc N G n).2 ++ [(fol N (trc N G n).2.length 101 (trc N G n).1 (n / 10) (n % 10)).2]) else trc N G n
/-- what a trace is -/
def TOK (N : Nat → Nat → Nat) (G : Nat → Nat → Bool) (n : Nat) (s : (Nat → Option Nat) × List (List xPr)) : Prop :=
  (∀ d k, s.1 d = some k ↔ ∃ L : List xPr, s.2[k]? = some L ∧ d ∈ L.map dn) ∧
  (∀ (k : Nat) (L : List xPr), s.2[k]? = some L → (L.map dn).Nodup ∧ (∃ (q : xPr) (t : List xPr), L = q :: t ∧ G q.1 q.2 = true ∧ (∀ r ∈ L, dn q ≤ dn r) ∧ ∀ (j : Nat) (r : xPr), L[j]? = some r → r = itd N q.1 q.2 j) ∧ ∀ r ∈ L, G r.1 r.2 = true) ∧
  (∀ d, d < n → G (d / 10) (d % 10) = true → (s.1 d).isSome = true) ∧
  fre G s.1 + s.2.flatten.length = fre G (fun _ => none)
theorem trc_ok {G : Nat → Nat → Bool} {N : Nat → Nat → Nat} (hG : ∀ v w, G v w = true → v < 10 ∧ w < 10 ∧ G w (N w v) = true) : ∀ n, TOK N G n (trc N G n)
  | 0 => ⟨fun d k => by simp [trc], fun k L h => by simp [trc] at h, fun d h => absurd h (by omega), by simp [trc]⟩
  | n + 1 => by
    obtain ⟨t1, t2, t3, t4⟩ := trc_ok hG n
    unfold trc
    generalize trc N G n = s at *
    by_cases h : (G (n / 10) (n % 10) && !(s.1 n).isSome) = true
    · rw [if_pos h]
      rw [Bool.and_eq_true] at h
      have hn : (s.1 n).isSome = false := by simpa using h.2
      obtain ⟨hv, hw, _⟩ := hG _ _ h.1
      have e10 : 10 * (n / 10) + n % 10 = n := by omega
      obtain ⟨f1, f2, f3, f4⟩ := fol_lab (N := N) (k := s.2.length) 101 s.1 (n / 10) (n % 10)
      obtain ⟨g1, g2⟩ := fol_fre hG (k := s.2.length) 101 s.1 (n / 10) (n % 10) h.1
      have hhd : ∃ t, (fol N s.2.length 101 s.1 (n / 10) (n % 10)).2 = (n / 10, n % 10) :: t := ⟨_, by rw [fol_go (by rw [e10]; exact hn)]⟩
      generalize fol N s.2.length 101 s.1 (n / 10) (n % 10) = r at *
      refine ⟨fun d k => ?_, fun k L hk => ?_, fun d hd hgd => ?_, ?_⟩
      · show r.1 d = some k ↔ _
        rw [f1 d]
        by_cases e : d ∈ r.2.map dn
        · rw [if_pos e]
          constructor
          · intro e2
            cases e2
            exact ⟨r.2, by simp, e⟩
          · rintro ⟨L, hL, hd⟩
            by_cases e3 : k = s.2.length
            · rw [e3]
            · exfalso
              have hlt : k < s.2.length := by
                have := (List.getElem?_eq_some_iff.mp hL).1
                rw [List.length_append] at this
                simp only [List.length_cons, List.length_nil] at this
                omega
              have : s.1 d = some k := (t1 d k).mpr ⟨L, by rw [← hL]; exact (List.getElem?_append_left hlt).symm, hd⟩
              rw [f3 d e] at this
              cases this
        · rw [if_neg e, t1]
          constructor
          · rintro ⟨L, hL, hd⟩
            exact ⟨L, by rw [← hL]; exact List.getElem?_append_left (List.getElem?_eq_some_iff.mp hL).1, hd⟩
          · rintro ⟨L, hL, hd⟩
            by_cases e3 : k = s.2.length
            · exfalso
              have : L = r.2 := by
                rw [e3] at hL
                simpa using hL.symm
              rw [this] at hd
              exact e hd
            · have hlt : k < s.2.length := by
                have := (List.getElem?_eq_some_iff.mp hL).1
                rw [List.length_append] at this
                simp only [List.length_cons, List.length_nil] at this
                omega
              exact ⟨L, by rw [← hL]; exact (List.getElem?_append_left hlt).symm, hd⟩
      · by_cases e3 : k = s.2.length
        · have : L = r.2 := by
            rw [e3] at hk
            simpa using hk.symm
          subst this
          obtain ⟨t, ht⟩ := hhd
          refine ⟨f2, ⟨_, t, ht, h.1, fun q hq => ?_, f4⟩, g2⟩
          show 10 * (n / 10) + n % 10 ≤ _
          rw [e10]
          have hno := f3 (dn q) (List.mem_map.mpr ⟨q, hq, rfl⟩)
          have hgq := g2 q hq
          obtain ⟨q1, q2, _⟩ := hG _ _ hgq
          refine Nat.le_of_not_lt fun hlt => ?_
          have := t3 (dn q) hlt (by rw [(dn_div (v := q.1) q2).1, (dn_div (v := q.1) q2).2]; exact hgq)
          rw [hno] at this
          cases this
        · have hlt : k < s.2.length := by
            have := (List.getElem?_eq_some_iff.mp hk).1
            rw [List.length_append] at this
            simp only [List.length_cons, List.length_nil] at this
            omega
          exact t2 k L (by rw [← hk]; exact (List.getElem?_append_left hlt).symm)
      · show (r.1 d).isSome = true
        rw [f1 d]
        by_cases e : d ∈ r.2.map dn
        · rw [if_pos e]; rfl
        · rw [if_neg e]
          by_cases e2 : d = n
          · exfalso
            obtain ⟨t, ht⟩ := hhd
            apply e
            rw [ht, e2]
            show n ∈ (10 * (n / 10) + n % 10) :: _
            rw [e10]
            exact List.mem_cons_self
          · exact t3 d (by omega) hgd
      · show fre G r.1 + (s.2 ++ [r.2]).flatten.length = _
        rw [List.flatten_append, List.length_append]
        have : ([r.2] : List (List xPr)).flatten.length = r.2.length := by simp
        rw [this]
        omega
    · rw [if_neg h]
      refine ⟨t1, t2, fun d hd hgd => ?_, t4⟩
      by_cases e2 : d = n
      · subst e2
        rw [Bool.and_eq_true] at h
        cases e3 : (s.1 d).isSome with
        | true => rfl
        | false => exact absurd ⟨hgd, by rw [e3]; rfl⟩ h
      · exact t3 d (by omega) hgd
/-- where each walk begins -/
def off (ws : List (List xPr)) (k : Nat) : Nat := (ws.take k).flatten.length
theorem off_succ {ws : List (List xPr)} {k : Nat} {L : List xPr} (h : ws[k]? = some L) : off ws (k + 1) = off ws k + L.length := by
  unfold off
  rw [List.take_add_one, h]
  simp
theorem off_all (ws : List (List xPr)) : off ws ws.length = ws.flatten.length := by unfold off; rw [List.take_length]
theorem flat_get {ws : List (List xPr)} {k j : Nat} {L : List xPr} (h : ws[k]? = some L) (hj : j < L.length) : ws.flatten[off ws k + j]? = some (L[j]) := by
  obtain ⟨e, _⟩ := list_at h
  have : ws.flatten = (ws.take k).flatten ++ (L ++ (ws.drop (k + 1)).flatten) := by
    conv => lhs; rw [e]
    simp
  rw [this, List.getElem?_append_right (by unfold off; omega)]
  rw [show off ws k + j - (ws.take k).flatten.length = j by unfold off; omega, List.getElem?_append_left hj, List.getElem?_eq_getElem hj]
theorem fol_len {N : Nat → Nat → Nat} {k n : Nat} {lab : Nat → Option Nat} {v w : Nat} (h : (lab (10 * v + w)).isSome = false) : 1 ≤ (fol N k (n + 1) lab v w).2.length := by
  rw [fol_go h]
  simp
theorem flat_ge {ws : List (List xPr)} (h : ∀ (k : Nat) (L : List xPr), ws[k]? = some L → 1 ≤ L.length) : ∀ n, n ≤ ws.length → n ≤ off ws n
  | 0, _ => Nat.zero_le _
  | n + 1, hn => by
    have ih := flat_ge h n (by omega)
    have e := List.getElem?_eq_getElem (l := ws) (i := n) (by omega)
    rw [off_succ e]
    have := h n _ e
    omega
/-- how many darts have a label -/
theorem cnt_lab {L : List Nat} (hn : L.Nodup) (hl : ∀ d ∈ L, d < 100) : cnt (fun d => decide (d ∈ L)) 100 = L.length := by
  induction L with
  | nil =>
    have : cnt (fun d => decide (d ∈ ([] : List Nat))) 100 = cnt (fun _ => false) 100 := cnt_ext fun d _ => by simp
    rw [this]
    decide +kernel
  | cons a t ih =>
    have h1 := List.nodup_cons.mp hn
    rw [show cnt (fun d => decide (d ∈ a :: t)) 100 = cnt (fun d => decide (d ∈ t) || decide (d = a)) 100 from cnt_ext fun d _ => by
      by_cases e1 : d = a <;> by_cases e2 : d ∈ t <;> simp [e1, e2], cnt_add1 (hl a List.mem_cons_self) (by simp [h1.1]), ih h1.2 (fun d hd => hl d (List.mem_cons_of_mem _ hd))]
    rfl
end
section
/-! the walks of the class: cells 39 .. 43 -/
def labI (m : Int32) (o : Option Nat) : Int32 := match o with
  | none => m
  | some k => nI k
def wK (w : xW) (lab : Nat → Option Nat) (ws : List (List xPr)) : Prop :=
  (∀ d, d < 100 → w.1 41 d = labI (-1) (lab d)) ∧ w.1 39 4 = nI ws.length ∧ w.1 39 5 = nI ws.flatten.length ∧
  (∀ j q, ws.flatten[j]? = some q → w.1 43 j = nI q.1) ∧ ∀ k, k < ws.length → w.1 42 k = nI (off ws k) ∧ w.1 42 (k + 1) = nI (off ws (k + 1))
theorem labI_dec {o : Option Nat} (h : ∀ k, o = some k → k < 2 ^ 31) : decide (labI (-1) o = -1) = !o.isSome := by
  cases o with
  | none => rfl
  | some k =>
    refine decide_eq_false (fun e => nI_pos (n := k) (h k rfl) ?_)
    rw [show nI k = -1 from e]
    decide
theorem c_wsize {w : xW} : xC MX6_size [.ref 39] w (some (.int (w.1 39 4))) w := by
  unfold xC
  show xE MX6_size (0, [some (.ref 39)], [], w) _ _
  refine xE.go 2 (F1 := (4, [some (.ref 39)], [.int (w.1 39 4)], w)) rfl ?_
  exact xE.iret .int 1 rfl rfl (rfl)
theorem c_wholds {w : xW} {k n : Nat} (hn : w.1 39 4 = nI n) (hk : k < n) (h49 : n < 49) : xC MX6_holds [.ref 39, .int (nI k)] w (some (.int 1)) w := by
  unfold xC
  show xE MX6_holds (0, [some (.ref 39), some (.int (nI k))], [], w) _ _
  refine xE.go 2 (F1 := (bif decide ((nI k) < 0) then 16 else 4, [some (.ref 39), some (.int (nI k))], [], w)) rfl ?_
  refine xE.brF (decide_eq_false (nI_pos (by omega))) ?_
  refine xE.go 4 (F1 := (bif decide ((w.1 39 4) ≤ (nI k)) then 16 else 12, [some (.ref 39), some (.int (nI k))], [], w)) rfl ?_
  refine xE.brF (by rw [hn]; exact decide_eq_false (nI_ge hk (by omega))) ?_
  refine xE.go 2 (F1 := (17, [some (.ref 39), some (.int (nI k))], [.int 1], w)) rfl ?_
  exact xE.iret .boolean 1 rfl rfl (rfl)
theorem c_wholds_0 {w : xW} {x : Int32} {n : Nat} (hn : w.1 39 4 = nI n) (hx : ∀ k, k < n → x ≠ nI k) (h49 : n < 49) : xC MX6_holds [.ref 39, .int x] w (some (.int 0)) w := by
  unfold xC
  show xE MX6_holds (0, [some (.ref 39), some (.int x)], [], w) _ _
  refine xE.go 2 (F1 := (bif decide (x < 0) then 16 else 4, [some (.ref 39), some (.int x)], [], w)) rfl ?_
  refine xE.br (fun h => ?_) (fun h => ?_)
  · refine xE.go 1 (F1 := (17, [some (.ref 39), some (.int x)], [.int 0], w)) rfl ?_
    exact xE.iret .boolean 1 rfl rfl (rfl)
  · have hge : nI n ≤ x := by
      refine Classical.byContradiction fun hc => ?_
      obtain ⟨k, hk, e⟩ := i_of (N := n) (by omega) (i_lt0 h) hc
      exact hx k hk e
    refine xE.go 4 (F1 := (bif decide ((w.1 39 4) ≤ x) then 16 else 12, [some (.ref 39), some (.int x)], [], w)) rfl ?_
    refine xE.brT (by rw [hn]; exact decide_eq_true hge) ?_
    refine xE.go 1 (F1 := (17, [some (.ref 39), some (.int x)], [.int 0], w)) rfl ?_
    exact xE.iret .boolean 1 rfl rfl (rfl)
theorem c_ofDart {w : xW} {a b : Nat} (ha : a < 10) (hb : b < 10) : xC MX6_ofDart [.ref 39, .int (nI a), .int (nI b)] w (some (.int (w.1 41 (10 * a + b)))) w := by
  unfold xC
  show xE MX6_ofDart (0, [some (.ref 39), some (.int (nI a)), some (.int (nI b))], [], w) _ _
  refine xE.go 4 (F1 := (6, [some (.ref 39), some (.int (nI a)), some (.int (nI b))], [.int (nI b), .int (nI a), .ref 41], w)) rfl ?_
  refine xE.call rfl (c_cell) ?_
  show xE MX6_ofDart (9, [some (.ref 39), some (.int (nI a)), some (.int (nI b))], [.int (nI (10 * a + b)), .ref 41], w) _ _
  refine xE.call rfl (c_at rfl (by omega) (by omega)) ?_
  show xE MX6_ofDart (12, [some (.ref 39), some (.int (nI a)), some (.int (nI b))], [.int (w.1 41 (10 * a + b))], w) _ _
  exact xE.iret .int 1 rfl rfl (rfl)
theorem c_behind {w : xW} {a b : Nat} (ha : a < 10) (hb : b < 10) : xC MX6_behind [.ref 39, .int (nI a), .int (nI b)] w (some (.int (w.1 40 (10 * a + b)))) w := by
  unfold xC
  show xE MX6_behind (0, [some (.ref 39), some (.int (nI a)), some (.int (nI b))], [], w) _ _
  refine xE.go 4 (F1 := (6, [some (.ref 39), some (.int (nI a)), some (.int (nI b))], [.int (nI b), .int (nI a), .ref 40], w)) rfl ?_
  refine xE.call rfl (c_cell) ?_
  show xE MX6_behind (9, [some (.ref 39), some (.int (nI a)), some (.int (nI b))], [.int (nI (10 * a + b)), .ref 40], w) _ _
  refine xE.call rfl (c_at rfl (by omega) (by omega)) ?_
  show xE MX6_behind (12, [some (.ref 39), some (.int (nI a)), some (.int (nI b))], [.int (w.1 40 (10 * a + b))], w) _ _
  exact xE.iret .int 1 rfl rfl (rfl)
theorem c_wlen {w : xW} {k a b : Nat} (hk : k < 48) (h1 : w.1 42 k = nI a) (h2 : w.1 42 (k + 1) = nI b) (hab : a ≤ b) : xC MX6_lengthOf [.ref 39, .int (nI k)] w (some (.int (nI (b - a)))) w := by
  unfold xC
  show xE MX6_lengthOf (0, [some (.ref 39), some (.int (nI k))], [], w) _ _
  refine xE.go 5 (F1 := (7, [some (.ref 39), some (.int (nI k))], [.int ((nI k) + 1), .ref 42], w)) rfl ?_
  rw [← nI_succ]
  refine xE.call rfl (c_at rfl (by omega) (by omega)) ?_
  show xE MX6_lengthOf (10, [some (.ref 39), some (.int (nI k))], [.int (w.1 42 (k + 1))], w) _ _
  refine xE.go 3 (F1 := (15, [some (.ref 39), some (.int (nI k))], [.int (nI k), .ref 42, .int (w.1 42 (k + 1))], w)) rfl ?_
  refine xE.call rfl (c_at rfl (by omega) (by omega)) ?_
  show xE MX6_lengthOf (18, [some (.ref 39), some (.int (nI k))], [.int (w.1 42 k), .int (w.1 42 (k + 1))], w) _ _
  refine xE.go 1 (F1 := (19, [some (.ref 39), some (.int (nI k))], [.int ((w.1 42 (k + 1)) - (w.1 42 k))], w)) rfl ?_
  rw [h1, h2, jI_sub hab]
  exact xE.iret .int 1 rfl rfl (rfl)
theorem c_wvert {w : xW} {k a j : Nat} (hk : k < 49) (h1 : w.1 42 k = nI a) (hj : a + j < 48) : xC MX6_vertexOf [.ref 39, .int (nI k), .int (nI j)] w (some (.int (w.1 43 (a + j)))) w := by
  unfold xC
  show xE MX6_vertexOf (0, [some (.ref 39), some (.int (nI k)), some (.int (nI j))], [], w) _ _
  refine xE.go 5 (F1 := (9, [some (.ref 39), some (.int (nI k)), some (.int (nI j))], [.int (nI k), .ref 42, .ref 43], w)) rfl ?_
  refine xE.call rfl (c_at rfl (by omega) (by omega)) ?_
  show xE MX6_vertexOf (12, [some (.ref 39), some (.int (nI k)), some (.int (nI j))], [.int (w.1 42 k), .ref 43], w) _ _
  refine xE.go 2 (F1 := (14, [some (.ref 39), some (.int (nI k)), some (.int (nI j))], [.int ((w.1 42 k) + (nI j)), .ref 43], w)) rfl ?_
  rw [h1, jI_add]
  refine xE.call rfl (c_at rfl (by omega) (by omega)) ?_
  show xE MX6_vertexOf (17, [some (.ref 39), some (.int (nI k)), some (.int (nI j))], [.int (w.1 43 (a + j))], w) _ _
  exact xE.iret .int 1 rfl rfl (rfl)
theorem flat_snoc (ws : List (List xPr)) (L : List xPr) : (ws ++ [L]).flatten = ws.flatten ++ L := by simp
theorem c_follow {w : xW} {G : Nat → Nat → Bool} {N : Nat → Nat → Nat} {lab : Nat → Option Nat} {ws : List (List xPr)} {v x : Nat} (hG : ∀ v x, G v x = true → v < 10 ∧ x < 10 ∧ G x (N x v) = true) (hN : ∀ v x, G v x = true → w.1 40 (10 * x + v) = nI (N x v)) (hvx : G v x = true) (hk : wK w lab ws) (hlk : ∀ d k, lab d = some k → k < ws.length) (hwl : ws.length ≤ ws.flatten.length) (htot : ws.flatten.length + fre G lab ≤ 48) (hfree : (lab (10 * v + x)).isSome = false) : xD MX6_follow [.ref 39, .int (nI v), .int (nI x)] w (fun r w1 => r = none ∧ wK w1 (fol N ws.length 101 lab v x).1 (ws ++ [(fol N ws.length 101 lab v x).2]) ∧ xkq [(39, some 4), (39, some 5), (41, none), (42, none), (43, none)] w w1) := by
  obtain ⟨hv, hx, _⟩ := hG v x hvx
  obtain ⟨k1, k2, k3, k4, k5⟩ := hk
  have hfp := fre_pos hv hx hvx hfree
  refine xD.of ?_
  show xQ MX6_follow (0, [some (.ref 39), some (.int (nI v)), some (.int (nI x)), none, none, none, none], [], w) _
  refine xQ.go 10 (F1 := (17, [some (.ref 39), some (.int (nI v)), some (.int (nI x)), some (.int (nI v)), some (.int (nI x)), none, none], [.int (w.1 39 5), .int (w.1 39 4), .ref 42], w)) rfl ?_
  rw [k2, k3]
  refine xQ.call rfl (c_put rfl (show ws.length < 49 by omega) (by omega)) ?_
  show xQ MX6_follow (20, [some (.ref 39), some (.int (nI v)), some (.int (nI x)), some (.int (nI v)), some (.int (nI x)), none, none], [], (xuI w 42 ws.length (nI ws.flatten.length))) _
  refine xQ.go 2 (F1 := (23, [some (.ref 39), some (.int (nI v)), some (.int (nI x)), some (.int (nI v)), some (.int (nI x)), some (.int 0), none], [], (xuI w 42 ws.length (nI ws.flatten.length)))) rfl ?_
  have tail : ∀ (s1 : xW) (a b : Nat) (k : Nat) (y : Option Value) (labe : Nat → Option Nat) (L : List xPr), L.length = k → k ≤ 48 → 1 ≤ k → fol N ws.length 101 lab v x = (labe, L) → (∀ d, d < 100 → s1.1 41 d = labI (-1) (labe d)) → s1.1 39 5 = nI (ws.flatten.length + k) → (∀ j q, (ws.flatten ++ L)[j]? = some q → s1.1 43 j = nI q.1) → s1.1 42 ws.length = nI ws.flatten.length → (∀ i, i ≠ ws.length → s1.1 42 i = w.1 42 i) → xkq [(39, some 5), (41, none), (42, none), (43, none)] w s1 → xQ MX6_follow (102, [some (.ref 39), some (.int (nI v)), some (.int (nI x)), some (.int (nI a)), some (.int (nI b)), some (.int (nI k)), y], [], s1) (fun r w1 => r = none ∧ wK w1 (fol N ws.length 101 lab v x).1 (ws ++ [(fol N ws.length 101 lab v x).2]) ∧ xkq [(39, some 4), (39, some 5), (41, none), (42, none), (43, none)] w w1) := by
    intro s1 a b k y labe L hL hk48 hk1 hfol j1 j2 j3 j4 j6 j5
    have hw47 : ws.length < 48 := by omega
    have e4 : s1.1 39 4 = nI ws.length := by rw [xkq_at j5 39 4, k2]
    refine xQ.less [some (.ref 39), none, none, none, none, none, none] (by simp [xleb]) ?_
    refine xQ.go 9 (F1 := (117, [some (.ref 39), none, none, none, none, none, none], [.ref 39, .ref 42], (xuI s1 39 4 ((s1.1 39 4) + 1)))) rfl ?_
    rw [e4, ← nI_succ]
    refine xQ.go 3 (F1 := (124, [some (.ref 39), none, none, none, none, none, none], [.int ((xuI s1 39 4 (nI (ws.length + 1))).1 39 5), .int ((xuI s1 39 4 (nI (ws.length + 1))).1 39 4), .ref 42], (xuI s1 39 4 (nI (ws.length + 1))))) rfl ?_
    rw [show (xuI s1 39 4 (nI (ws.length + 1))).1 39 4 = nI (ws.length + 1) by simp [uI1], show (xuI s1 39 4 (nI (ws.length + 1))).1 39 5 = nI (ws.flatten.length + k) by simp [uI1, j2]]
    refine xQ.call rfl (c_put rfl (show ws.length + 1 < 49 by omega) (by omega)) ?_
    show xQ MX6_follow (127, [some (.ref 39), none, none, none, none, none, none], [], (xuI (xuI s1 39 4 (nI (ws.length + 1))) 42 (ws.length + 1) (nI (ws.flatten.length + k)))) _
    refine xQ.vret 1 rfl rfl ?_
    rw [hfol]
    refine ⟨rfl, ⟨fun d hd => by simpa [uI1] using j1 d hd, by simp [uI1], by simp [uI1, j2, hL], fun j q hj => ?_, fun i hi => ?_⟩, ?_⟩
    · rw [flat_snoc] at hj
      simpa [uI1] using j3 j q hj
    · have hlast : (ws ++ [L])[ws.length]? = some L := by simp
      have o1 : off (ws ++ [L]) ws.length = ws.flatten.length := by unfold off; simp
      by_cases e : i = ws.length
      · subst e
        refine ⟨by rw [o1]; simp [uI1, j4], ?_⟩
        rw [off_succ hlast, o1, hL]
        simp [uI1]
      · have hi2 : i < ws.length := by
          rw [List.length_append] at hi
          simp only [List.length_cons, List.length_nil] at hi
          omega
        obtain ⟨q1, q2⟩ := k5 i hi2
        have o2 : ∀ i, i ≤ ws.length → off (ws ++ [L]) i = off ws i := fun i hi => by
          unfold off
          rw [List.take_append_of_le_length hi]
        rw [o2 i (by omega), o2 (i + 1) (by omega)]
        have e2 : i ≠ ws.length + 1 := by omega
        refine ⟨?_, ?_⟩
        · rw [← q1, ← j6 i e]
          simp [uI1, e2]
        · have e3 : i + 1 ≠ ws.length + 1 := by omega
          by_cases e4 : i + 1 = ws.length
          · rw [e4, off_all, ← j4]
            simp [uI1]
          · rw [← q2, ← j6 (i + 1) e4]
            simp [uI1, e3, e]
    · exact xkq_I (xkq_I (xkq_mono rfl j5) rfl) rfl
  refine xQ.loop (S := xW × (Nat → Option Nat) × xPr × List xPr) (fun k s => (23, [some (.ref 39), some (.int (nI v)), some (.int (nI x)), some (.int (nI s.2.2.1.1)), some (.int (nI s.2.2.1.2)), some (.int (nI k)), none], [], s.1)) (fun k s => G s.2.2.1.1 s.2.2.1.2 = true ∧ s.2.2.2.length = k ∧ fre G s.2.1 + k = fre G lab ∧ (∀ d k, s.2.1 d = some k → k ≤ ws.length) ∧ fol N ws.length 101 lab v x = ((fol N ws.length (101 - k) s.2.1 s.2.2.1.1 s.2.2.1.2).1, s.2.2.2 ++ (fol N ws.length (101 - k) s.2.1 s.2.2.1.1 s.2.2.1.2).2) ∧ (∀ d, d < 100 → s.1.1 41 d = labI (-1) (s.2.1 d)) ∧ s.1.1 39 5 = nI (ws.flatten.length + k) ∧ (∀ j q, (ws.flatten ++ s.2.2.2)[j]? = some q → s.1.1 43 j = nI q.1) ∧ s.1.1 42 ws.length = nI ws.flatten.length ∧ (∀ i, i ≠ ws.length → s.1.1 42 i = w.1 42 i) ∧ xkq [(39, some 5), (41, none), (42, none), (43, none)] w s.1) 48 ((xuI w 42 ws.length (nI ws.flatten.length)), lab, (v, x), []) (rfl) (⟨hvx, rfl, Nat.add_zero _, (fun d k h => by have := hlk d k h; omega), by simp, (fun d hd => by simpa [uI1] using k1 d hd), by simpa [uI1] using k3, (fun j q hj => by rw [List.append_nil] at hj; simpa [uI1] using k4 j q hj), by simp [uI1], (fun i hi => by simp [uI1, hi]), xkq_I xkq_rfl rfl⟩) ?_ ?_
  · intro k s hk hI K
    obtain ⟨s, lb, q, L⟩ := s
    obtain ⟨i1, i2, i3, i4, i5, i6, i7, i8, i9, i11, i10⟩ := hI
    obtain ⟨a, b⟩ := q
    simp only at i1 i2 i3 i4 i5 i6 i7 i8 i9 i11 i10 ⊢
    obtain ⟨ha, hb, hn⟩ := hG a b i1
    show xQ MX6_follow (23, [some (.ref 39), some (.int (nI v)), some (.int (nI x)), some (.int (nI a)), some (.int (nI b)), some (.int (nI k)), none], [], s) _
    refine xQ.go 3 (F1 := (bif decide (48 ≤ (nI k)) then 102 else 30, [some (.ref 39), some (.int (nI v)), some (.int (nI x)), some (.int (nI a)), some (.int (nI b)), some (.int (nI k)), none], [], s)) rfl ?_
    refine xQ.brF (decide_eq_false (nI_ge (b := 48) (by omega) (by omega))) ?_
    refine xQ.go 3 (F1 := (34, [some (.ref 39), some (.int (nI v)), some (.int (nI x)), some (.int (nI a)), some (.int (nI b)), some (.int (nI k)), none], [.int (nI b), .int (nI a), .ref 39], s)) rfl ?_
    refine xQ.call rfl (c_ofDart ha hb) ?_
    show xQ MX6_follow (37, [some (.ref 39), some (.int (nI v)), some (.int (nI x)), some (.int (nI a)), some (.int (nI b)), some (.int (nI k)), none], [.int (s.1 41 (10 * a + b))], s) _
    rw [i6 _ (by omega)]
    refine xQ.go 2 (F1 := (bif !decide ((labI (-1) (lb (10 * a + b))) = (-1)) then 102 else 41, [some (.ref 39), some (.int (nI v)), some (.int (nI x)), some (.int (nI a)), some (.int (nI b)), some (.int (nI k)), none], [], s)) rfl ?_
    rw [labI_dec (fun k h => by have := i4 _ k h; omega), Bool.not_not]
    cases hs : (lb (10 * a + b)).isSome with
    | true =>
      rw [fol_stop hs, List.append_nil] at i5
      have h1k : 1 ≤ k := by
        rcases Nat.eq_zero_or_pos k with e | e
        · exfalso
          subst e
          have := fol_len (N := N) (k := ws.length) (n := 100) hfree
          rw [i5] at this
          simp only at this
          omega
        · exact e
      exact tail s a b k _ lb L i2 (by omega) h1k i5 i6 i7 i8 i9 i11 i10
    | false =>
      have hfu := fre_wup (k := ws.length) ha hb i1 hs
      refine xQ.go 4 (F1 := (48, [some (.ref 39), some (.int (nI v)), some (.int (nI x)), some (.int (nI a)), some (.int (nI b)), some (.int (nI k)), none], [.int (nI b), .int (nI a), .ref 41], s)) rfl ?_
      refine xQ.call rfl (c_cell) ?_
      show xQ MX6_follow (51, [some (.ref 39), some (.int (nI v)), some (.int (nI x)), some (.int (nI a)), some (.int (nI b)), some (.int (nI k)), none], [.int (nI (10 * a + b)), .ref 41], s) _
      refine xQ.go 2 (F1 := (55, [some (.ref 39), some (.int (nI v)), some (.int (nI x)), some (.int (nI a)), some (.int (nI b)), some (.int (nI k)), none], [.int (s.1 39 4), .int (nI (10 * a + b)), .ref 41], s)) rfl ?_
      rw [show s.1 39 4 = nI ws.length by rw [xkq_at i10 39 4, k2]]
      refine xQ.call rfl (c_put rfl (show 10 * a + b < 100 by omega) (by omega)) ?_
      show xQ MX6_follow (58, [some (.ref 39), some (.int (nI v)), some (.int (nI x)), some (.int (nI a)), some (.int (nI b)), some (.int (nI k)), none], [], (xuI s 41 (10 * a + b) (nI ws.length))) _
      refine xQ.go 5 (F1 := (67, [some (.ref 39), some (.int (nI v)), some (.int (nI x)), some (.int (nI a)), some (.int (nI b)), some (.int (nI k)), none], [.int (nI a), .int ((xuI s 41 (10 * a + b) (nI ws.length)).1 39 5), .ref 43], (xuI s 41 (10 * a + b) (nI ws.length)))) rfl ?_
      rw [show (xuI s 41 (10 * a + b) (nI ws.length)).1 39 5 = nI (ws.flatten.length + k) by simp [uI1, i7]]
      refine xQ.call rfl (c_put rfl (show ws.flatten.length + k < 48 by omega) (by omega)) ?_
      show xQ MX6_follow (70, [some (.ref 39), some (.int (nI v)), some (.int (nI x)), some (.int (nI a)), some (.int (nI b)), some (.int (nI k)), none], [], (xuI (xuI s 41 (10 * a + b) (nI ws.length)) 43 (ws.flatten.length + k) (nI a))) _
      refine xQ.go 5 (F1 := (77, [some (.ref 39), some (.int (nI v)), some (.int (nI x)), some (.int (nI a)), some (.int (nI b)), some (.int (nI k)), none], [.int (((xuI (xuI s 41 (10 * a + b) (nI ws.length)) 43 (ws.flatten.length + k) (nI a)).1 39 5) + 1), .ref 39], (xuI (xuI s 41 (10 * a + b) (nI ws.length)) 43 (ws.flatten.length + k) (nI a)))) rfl ?_
      rw [show (xuI (xuI s 41 (10 * a + b) (nI ws.length)) 43 (ws.flatten.length + k) (nI a)).1 39 5 = nI (ws.flatten.length + k) by simp [uI1, i7], ← nI_succ]
      refine xQ.go 4 (F1 := (84, [some (.ref 39), some (.int (nI v)), some (.int (nI x)), some (.int (nI a)), some (.int (nI b)), some (.int (nI k)), none], [.int (nI a), .int (nI b), .ref 39], (xuI (xuI (xuI s 41 (10 * a + b) (nI ws.length)) 43 (ws.flatten.length + k) (nI a)) 39 5 (nI (ws.flatten.length + k + 1))))) rfl ?_
      refine xQ.call rfl (c_behind hb ha) ?_
      show xQ MX6_follow (87, [some (.ref 39), some (.int (nI v)), some (.int (nI x)), some (.int (nI a)), some (.int (nI b)), some (.int (nI k)), none], [.int ((xuI (xuI (xuI s 41 (10 * a + b) (nI ws.length)) 43 (ws.flatten.length + k) (nI a)) 39 5 (nI (ws.flatten.length + k + 1))).1 40 (10 * b + a))], (xuI (xuI (xuI s 41 (10 * a + b) (nI ws.length)) 43 (ws.flatten.length + k) (nI a)) 39 5 (nI (ws.flatten.length + k + 1)))) _
      rw [show (xuI (xuI (xuI s 41 (10 * a + b) (nI ws.length)) 43 (ws.flatten.length + k) (nI a)) 39 5 (nI (ws.flatten.length + k + 1))).1 40 (10 * b + a) = nI (N b a) by
        simp only [uI1]
        rw [if_neg (by omega), if_neg (by omega), if_neg (by omega), xkq_at i10 40 (10 * b + a)]
        exact hN a b i1]
      refine xQ.go 7 (F1 := (23, [some (.ref 39), some (.int (nI v)), some (.int (nI x)), some (.int (nI b)), some (.int (nI (N b a))), some (.int ((nI k) + 1)), some (.int (nI (N b a)))], [], (xuI (xuI (xuI s 41 (10 * a + b) (nI ws.length)) 43 (ws.flatten.length + k) (nI a)) 39 5 (nI (ws.flatten.length + k + 1))))) rfl ?_
      refine xQ.less [some (.ref 39), some (.int (nI v)), some (.int (nI x)), some (.int (nI b)), some (.int (nI (N b a))), some (.int ((nI k) + 1)), none] (by simp [xleb]) ?_
      rw [← nI_succ]
      refine K ((xuI (xuI (xuI s 41 (10 * a + b) (nI ws.length)) 43 (ws.flatten.length + k) (nI a)) 39 5 (nI (ws.flatten.length + k + 1))), wup lb (10 * a + b) ws.length, (b, N b a), L ++ [(a, b)]) ⟨hn, by simp [i2], by simp only; omega, fun d j hd => ?_, ?_, fun d hd => ?_, by simp [uI1, Nat.add_assoc], fun j q hj => ?_, by simp only [uI1]; rw [if_neg (by omega), if_neg (by omega), if_neg (by omega)]; exact i9, (fun i hi => by simp [uI1, i11 i hi]), xkq_I (xkq_I (xkq_I i10 rfl) rfl) rfl⟩
      · simp only [wup_eq] at hd
        by_cases e : d = 10 * a + b
        · rw [if_pos e] at hd
          cases hd
          exact Nat.le_refl _
        · rw [if_neg e] at hd
          exact i4 d j hd
      · rw [i5, show 101 - k = (101 - (k + 1)) + 1 by omega, fol_go hs]
        simp
      · simp only [wup_eq]
        by_cases e : d = 10 * a + b
        · rw [if_pos e, e]
          simp [uI1, labI]
        · rw [if_neg e, ← i6 d hd]
          simp [uI1, e]
      · simp only at hj ⊢
        rw [← List.append_assoc] at hj
        by_cases e : j = ws.flatten.length + k
        · subst e
          have : (ws.flatten ++ L ++ [(a, b)])[ws.flatten.length + k]? = some (a, b) := by
            rw [List.getElem?_append_right (by rw [List.length_append]; omega), List.length_append, i2]
            simp
          rw [this] at hj
          cases hj
          simp [uI1]
        · have hjl := (List.getElem?_eq_some_iff.mp hj).1
          rw [List.length_append, List.length_append] at hjl
          simp only [List.length_cons, List.length_nil] at hjl
          rw [List.getElem?_append_left (by rw [List.length_append]; omega)] at hj
          rw [← i8 j q hj]
          simp [uI1, e, -List.length_flatten]
  · intro s hI
    obtain ⟨s, lb, q, L⟩ := s
    obtain ⟨i1, i2, i3, i4, i5, i6, i7, i8, i9, i11, i10⟩ := hI
    obtain ⟨a, b⟩ := q
    simp only at i1 i2 i3 i4 i5 i6 i7 i8 i9 i11 i10 ⊢
    obtain ⟨ha, hb, hn⟩ := hG a b i1
    show xQ MX6_follow (23, [some (.ref 39), some (.int (nI v)), some (.int (nI x)), some (.int (nI a)), some (.int (nI b)), some (.int (nI 48)), none], [], s) _
    refine xQ.go 3 (F1 := (bif decide (48 ≤ (nI 48)) then 102 else 30, [some (.ref 39), some (.int (nI v)), some (.int (nI x)), some (.int (nI a)), some (.int (nI b)), some (.int (nI 48)), none], [], s)) rfl ?_
    refine xQ.brT (decide_eq_true (Int32.le_refl _)) ?_
    have hs : (lb (10 * a + b)).isSome = true := by
      cases e : (lb (10 * a + b)).isSome with
      | true => rfl
      | false =>
        have := fre_pos ha hb i1 e
        omega
    rw [fol_stop hs, List.append_nil] at i5
    exact tail s a b 48 _ lb L i2 (by omega) (by omega) i5 i6 i7 i8 i9 i11 i10
end
section
/-! a planar graph has at most 24 edges, so 48 darts -/
theorem cnt_plus (f : Nat → Bool) (a : Nat) : ∀ b, cnt f (a + b) = cnt f a + cnt (fun w => f (a + w)) b
  | 0 => rfl
  | b + 1 => by
    show cnt f (a + b) + _ = _
    rw [cnt_plus f a b, Nat.add_assoc]
    rfl
theorem cnt_rows (f : Nat → Bool) : ∀ n, cnt f (10 * n) = sm (fun v => cnt (fun w => f (10 * v + w)) 10) n
  | 0 => rfl
  | n + 1 => by
    rw [show 10 * (n + 1) = 10 * n + 10 by omega, cnt_plus, cnt_rows f n]
    rfl
theorem fre_ec {G : Nat → Nat → Bool} (hg : gok G) : fre G (fun _ => none) = 2 * ec G := by
  unfold fre ec
  rw [show (100 : Nat) = 10 * 10 from rfl, cnt_rows, ← sm_even hg.1 hg.2.1 10]
  refine sm_ext fun v _ => cnt_ext fun w hw => ?_
  rw [(dn_div (v := v) hw).1, (dn_div (v := v) hw).2]
  simp
def sumE (G : Nat → Nat → Bool) : List xPr → Nat
  | [] => 0
  | p :: t => bE G p + sumE G t
theorem ec_or {H A B : Nat → Nat → Bool} (h : ∀ x y, H x y = true → A x y = true ∨ B x y = true) : ec H ≤ ec A + ec B := by
  unfold ec
  have : ∀ n, sm (fun x => cnt (H x) x) n ≤ sm (fun x => cnt (A x) x) n + sm (fun x => cnt (B x) x) n := by
    intro n
    induction n with
    | zero => exact Nat.le_refl _
    | succ n ih =>
      have h1 : cnt (H n) n ≤ cnt (fun v => A n v || B n v) n := cnt_mono fun v _ hv => by
        rcases h n v hv with e | e <;> simp [e]
      have h2 := cnt_or (S := A n) (T := B n) n
      show sm _ n + cnt (H n) n ≤ (sm _ n + cnt (A n) n) + (sm _ n + cnt (B n) n)
      omega
  exact this 10
theorem ec_sum (G : Nat → Nat → Bool) : ∀ l : List xPr, ec (gL G l) ≤ sumE G l
  | [] => by
    have : gL G [] = fun _ _ => false := by
      funext x y
      simp [gL]
    rw [this]
    decide +kernel
  | p :: t => by
    have ih := ec_sum G t
    have := ec_or (H := gL G (p :: t)) (A := bH G (bS G p)) (B := gL G t) (fun x y h => by
      obtain ⟨h1, q, hq, h2, h3⟩ := gL_iff.mp h
      rcases List.mem_cons.mp hq with e | e
      · rw [e] at h2 h3
        exact Or.inl (bH_iff.mpr ⟨h1, h2, h3⟩)
      · exact Or.inr (gL_iff.mpr ⟨h1, q, e, h2, h3⟩))
    show _ ≤ bE G p + sumE G t
    unfold bE
    omega
theorem bE_flat {G : Nat → Nat → Bool} (hg : gok G) {p : xPr} (hp : G p.1 p.2 = true) (hf : bPl G p = bE G p) : bE G p + 5 ≤ 3 * cnt (bS G p) 10 ∧ bE G p ≤ 24 := by
  by_cases he : bE G p = 1
  · have := blk_two hg hp
    omega
  · have hEO := bR_ok hg hp he
    obtain ⟨m1, m2, m3⟩ := EOK_max hEO
    have e : (bR G p).2.2.2 = bE G p := by
      unfold bPl at hf
      rw [if_neg he] at hf
      exact hf
    have hm : cnt (bR G p).2.1 10 ≤ cnt (bS G p) 10 := cnt_mono fun v _ hv => hEO.1.2.2.1 v hv
    omega
theorem sum_flat {G : Nat → Nat → Bool} (hg : gok G) : ∀ l : List xPr, (∀ p ∈ l, G p.1 p.2 = true ∧ bPl G p = bE G p) → sumE G l + 5 * l.length ≤ 3 * sumS G l
  | [], _ => Nat.le_refl _
  | p :: t, h => by
    have ih := sum_flat hg t (fun q hq => h q (List.mem_cons_of_mem _ hq))
    obtain ⟨h1, h2⟩ := h p List.mem_cons_self
    have := (bE_flat hg h1 h2).1
    show bE G p + sumE G t + 5 * (t.length + 1) ≤ 3 * (cnt (bS G p) 10 + sumS G t)
    omega
theorem flat_24 {G : Nat → Nat → Bool} (hg : gok G) (hf : flt G (blks G 100) = true) : ec G ≤ 24 := by
  have hO := blks_ok hg 100 (Nat.le_refl _)
  have h1 := ec_sum G (blks G 100)
  have e : gL G (blks G 100) = G := by
    funext x y
    cases h : G x y with
    | false =>
      cases h2 : gL G (blks G 100) x y with
      | false => rfl
      | true =>
        have := (gL_iff.mp h2).1
        rw [h] at this
        cases this
    | true =>
      obtain ⟨p, hp, h2, h3⟩ := blks_all hg h
      exact gL_iff.mpr ⟨h, p, hp, h2, h3⟩
  rw [e] at h1
  have h2 := sum_flat hg (blks G 100) (fun p hp => ⟨(hO.1 p hp).1, flt_all hf hp⟩)
  have h3 := blk_sum hg hO
  have hone : ∀ l : List xPr, l.length = 1 → (∀ p ∈ l, G p.1 p.2 = true ∧ bPl G p = bE G p) → sumE G l ≤ 24 := by
    intro l hl ha
    match l, hl, ha with
    | [p], _, ha =>
      obtain ⟨a1, a2⟩ := ha p List.mem_cons_self
      have := (bE_flat hg a1 a2).2
      show bE G p + 0 ≤ 24
      omega
  have h4 := hone (blks G 100)
  by_cases e1 : (blks G 100).length = 1
  · have := h4 e1 (fun p hp => ⟨(hO.1 p hp).1, flt_all hf hp⟩)
    omega
  · by_cases e0 : (blks G 100).length = 0
    · have : blks G 100 = [] := List.length_eq_zero_iff.mp e0
      rw [this] at h1
      have : sumE G [] = 0 := rfl
      omega
    · omega
theorem flat_48 {G : Nat → Nat → Bool} (hg : gok G) (hf : flt G (blks G 100) = true) : fre G (fun _ => none) ≤ 48 := by
  rw [fre_ec hg]
  have := flat_24 hg hf
  omega
end
