section
-- ===== PART A: goes FIRST, ahead of the names: the tables' words, and 'selects' of the private methods out of them =====
/-- a private method of a class that the tables say can be made, by its rows of tables_1 -/
def lw_okq (q : MethodName × Nat) : Prop := (q.1.cls ≠ "java/lang/invoke/MethodHandle" ∧ q.1.cls ≠ "java/lang/invoke/VarHandle") ∧ Cond.instantiable q.1.cls q.2 ∈ tables_1 ∧ Cond.privateMethod q.1 ∈ tables_1 ∧ Cond.instanceMethod q.1 ∈ tables_1
theorem lw_p0 : lw_okq (⟨"GoodsKeeper$Hunt", "risingColumn", "()I"⟩, 5) := ⟨⟨by decide +kernel, by decide +kernel⟩, List.mem_of_getElem? (i := 73) (by decide +kernel), List.mem_of_getElem? (i := 169) (by decide +kernel), List.mem_of_getElem? (i := 170) (by decide +kernel)⟩
theorem lw_p1 : lw_okq (⟨"GoodsKeeper$Hunt", "hinderingRow", "(I)I"⟩, 5) := ⟨⟨by decide +kernel, by decide +kernel⟩, List.mem_of_getElem? (i := 73) (by decide +kernel), List.mem_of_getElem? (i := 173) (by decide +kernel), List.mem_of_getElem? (i := 174) (by decide +kernel)⟩
theorem lw_p2 : lw_okq (⟨"GoodsKeeper$Hunt", "exchange", "(II)V"⟩, 5) := ⟨⟨by decide +kernel, by decide +kernel⟩, List.mem_of_getElem? (i := 73) (by decide +kernel), List.mem_of_getElem? (i := 177) (by decide +kernel), List.mem_of_getElem? (i := 178) (by decide +kernel)⟩
theorem lw_p3 : lw_okq (⟨"GoodsKeeper$Hunt", "replaceIn", "(IIIJ)V"⟩, 5) := ⟨⟨by decide +kernel, by decide +kernel⟩, List.mem_of_getElem? (i := 73) (by decide +kernel), List.mem_of_getElem? (i := 181) (by decide +kernel), List.mem_of_getElem? (i := 182) (by decide +kernel)⟩
theorem lw_p4 : lw_okq (⟨"GoodsKeeper", "wonByTimes", "(I)I"⟩, 10) := ⟨⟨by decide +kernel, by decide +kernel⟩, List.mem_of_getElem? (i := 27) (by decide +kernel), List.mem_of_getElem? (i := 189) (by decide +kernel), List.mem_of_getElem? (i := 190) (by decide +kernel)⟩
theorem lw_p5 : lw_okq (⟨"GoodsKeeper", "weightWonBy", "(LGoodsKeeper$Rule;)I"⟩, 10) := ⟨⟨by decide +kernel, by decide +kernel⟩, List.mem_of_getElem? (i := 27) (by decide +kernel), List.mem_of_getElem? (i := 198) (by decide +kernel), List.mem_of_getElem? (i := 199) (by decide +kernel)⟩
theorem lw_p6 : lw_okq (⟨"GoodsKeeper", "countOpen", "()I"⟩, 10) := ⟨⟨by decide +kernel, by decide +kernel⟩, List.mem_of_getElem? (i := 27) (by decide +kernel), List.mem_of_getElem? (i := 229) (by decide +kernel), List.mem_of_getElem? (i := 230) (by decide +kernel)⟩
theorem lw_p7 : lw_okq (⟨"java/lang/Throwable", "fillInStackTrace", "(I)Ljava/lang/Throwable;"⟩, 6) := ⟨⟨by decide +kernel, by decide +kernel⟩, List.mem_of_getElem? (i := 281) (by decide +kernel), List.mem_of_getElem? (i := 279) (by decide +kernel), List.mem_of_getElem? (i := 280) (by decide +kernel)⟩
theorem lw_p8 : lw_okq (⟨"java/util/ArrayList", "add", "(Ljava/lang/Object;[Ljava/lang/Object;I)V"⟩, 3) := ⟨⟨by decide +kernel, by decide +kernel⟩, List.mem_of_getElem? (i := 35) (by decide +kernel), List.mem_of_getElem? (i := 338) (by decide +kernel), List.mem_of_getElem? (i := 339) (by decide +kernel)⟩
theorem lw_p9 : lw_okq (⟨"java/util/ArrayList", "grow", "()[Ljava/lang/Object;"⟩, 3) := ⟨⟨by decide +kernel, by decide +kernel⟩, List.mem_of_getElem? (i := 35) (by decide +kernel), List.mem_of_getElem? (i := 342) (by decide +kernel), List.mem_of_getElem? (i := 343) (by decide +kernel)⟩
theorem lw_p10 : lw_okq (⟨"java/util/ArrayList", "grow", "(I)[Ljava/lang/Object;"⟩, 3) := ⟨⟨by decide +kernel, by decide +kernel⟩, List.mem_of_getElem? (i := 35) (by decide +kernel), List.mem_of_getElem? (i := 346) (by decide +kernel), List.mem_of_getElem? (i := 347) (by decide +kernel)⟩
theorem lw_p11 : lw_okq (⟨"GoodsKeeper", "ruleAt", "(I)LGoodsKeeper$Rule;"⟩, 10) := ⟨⟨by decide +kernel, by decide +kernel⟩, List.mem_of_getElem? (i := 27) (by decide +kernel), List.mem_of_getElem? (i := 434) (by decide +kernel), List.mem_of_getElem? (i := 435) (by decide +kernel)⟩
theorem lw_p12 : lw_okq (⟨"GoodsKeeper", "playerAt", "(I)LGoodsKeeper$Player;"⟩, 10) := ⟨⟨by decide +kernel, by decide +kernel⟩, List.mem_of_getElem? (i := 27) (by decide +kernel), List.mem_of_getElem? (i := 484) (by decide +kernel), List.mem_of_getElem? (i := 485) (by decide +kernel)⟩
theorem lw_p13 : lw_okq (⟨"GoodsKeeper", "carryOut", "(LGoodsKeeper$Player;LGoodsKeeper$Rule;I)V"⟩, 10) := ⟨⟨by decide +kernel, by decide +kernel⟩, List.mem_of_getElem? (i := 27) (by decide +kernel), List.mem_of_getElem? (i := 495) (by decide +kernel), List.mem_of_getElem? (i := 496) (by decide +kernel)⟩
theorem lw_p14 : lw_okq (⟨"GoodsKeeper$Things", "nextDue", "(I)LGoodsKeeper$Single;"⟩, 1) := ⟨⟨by decide +kernel, by decide +kernel⟩, List.mem_of_getElem? (i := 61) (by decide +kernel), List.mem_of_getElem? (i := 672) (by decide +kernel), List.mem_of_getElem? (i := 673) (by decide +kernel)⟩
theorem lw_p15 : lw_okq (⟨"GoodsKeeper", "sideOf", "(IIII)LGoodsKeeper$Side;"⟩, 10) := ⟨⟨by decide +kernel, by decide +kernel⟩, List.mem_of_getElem? (i := 27) (by decide +kernel), List.mem_of_getElem? (i := 724) (by decide +kernel), List.mem_of_getElem? (i := 725) (by decide +kernel)⟩
def lw_privs_1 : List (MethodName × Nat) := [(⟨"GoodsKeeper$Hunt", "risingColumn", "()I"⟩, 5), (⟨"GoodsKeeper$Hunt", "hinderingRow", "(I)I"⟩, 5), (⟨"GoodsKeeper$Hunt", "exchange", "(II)V"⟩, 5), (⟨"GoodsKeeper$Hunt", "replaceIn", "(IIIJ)V"⟩, 5), (⟨"GoodsKeeper", "wonByTimes", "(I)I"⟩, 10), (⟨"GoodsKeeper", "weightWonBy", "(LGoodsKeeper$Rule;)I"⟩, 10), (⟨"GoodsKeeper", "countOpen", "()I"⟩, 10), (⟨"java/lang/Throwable", "fillInStackTrace", "(I)Ljava/lang/Throwable;"⟩, 6), (⟨"java/util/ArrayList", "add", "(Ljava/lang/Object;[Ljava/lang/Object;I)V"⟩, 3), (⟨"java/util/ArrayList", "grow", "()[Ljava/lang/Object;"⟩, 3), (⟨"java/util/ArrayList", "grow", "(I)[Ljava/lang/Object;"⟩, 3), (⟨"GoodsKeeper", "ruleAt", "(I)LGoodsKeeper$Rule;"⟩, 10), (⟨"GoodsKeeper", "playerAt", "(I)LGoodsKeeper$Player;"⟩, 10), (⟨"GoodsKeeper", "carryOut", "(LGoodsKeeper$Player;LGoodsKeeper$Rule;I)V"⟩, 10), (⟨"GoodsKeeper$Things", "nextDue", "(I)LGoodsKeeper$Single;"⟩, 1), (⟨"GoodsKeeper", "sideOf", "(IIII)LGoodsKeeper$Side;"⟩, 10)]
theorem lw_r1 : ∀ q ∈ lw_privs_1, lw_okq q := List.forall_mem_cons.mpr ⟨lw_p0, List.forall_mem_cons.mpr ⟨lw_p1, List.forall_mem_cons.mpr ⟨lw_p2, List.forall_mem_cons.mpr ⟨lw_p3, List.forall_mem_cons.mpr ⟨lw_p4, List.forall_mem_cons.mpr ⟨lw_p5, List.forall_mem_cons.mpr ⟨lw_p6, List.forall_mem_cons.mpr ⟨lw_p7, List.forall_mem_cons.mpr ⟨lw_p8, List.forall_mem_cons.mpr ⟨lw_p9, List.forall_mem_cons.mpr ⟨lw_p10, List.forall_mem_cons.mpr ⟨lw_p11, List.forall_mem_cons.mpr ⟨lw_p12, List.forall_mem_cons.mpr ⟨lw_p13, List.forall_mem_cons.mpr ⟨lw_p14, List.forall_mem_cons.mpr ⟨lw_p15, fun _ h => absurd h List.not_mem_nil⟩⟩⟩⟩⟩⟩⟩⟩⟩⟩⟩⟩⟩⟩⟩⟩
theorem lw_p16 : lw_okq (⟨"GoodsKeeper", "offerAt", "(I)LGoodsKeeper$Offer;"⟩, 10) := ⟨⟨by decide +kernel, by decide +kernel⟩, List.mem_of_getElem? (i := 27) (by decide +kernel), List.mem_of_getElem? (i := 782) (by decide +kernel), List.mem_of_getElem? (i := 783) (by decide +kernel)⟩
theorem lw_p17 : lw_okq (⟨"GoodsKeeper", "answerTo", "(LGoodsKeeper$Offer;)I"⟩, 10) := ⟨⟨by decide +kernel, by decide +kernel⟩, List.mem_of_getElem? (i := 27) (by decide +kernel), List.mem_of_getElem? (i := 787) (by decide +kernel), List.mem_of_getElem? (i := 788) (by decide +kernel)⟩
theorem lw_p18 : lw_okq (⟨"GoodsKeeper", "mayHandOver", "(LGoodsKeeper$Side;)Z"⟩, 10) := ⟨⟨by decide +kernel, by decide +kernel⟩, List.mem_of_getElem? (i := 27) (by decide +kernel), List.mem_of_getElem? (i := 800) (by decide +kernel), List.mem_of_getElem? (i := 801) (by decide +kernel)⟩
theorem lw_p19 : lw_okq (⟨"GoodsKeeper", "trade", "(LGoodsKeeper$Side;LGoodsKeeper$Side;)V"⟩, 10) := ⟨⟨by decide +kernel, by decide +kernel⟩, List.mem_of_getElem? (i := 27) (by decide +kernel), List.mem_of_getElem? (i := 808) (by decide +kernel), List.mem_of_getElem? (i := 809) (by decide +kernel)⟩
theorem lw_p20 : lw_okq (⟨"GoodsKeeperModel", "throwsIf", "(ZI)Z"⟩, 33) := ⟨⟨by decide +kernel, by decide +kernel⟩, List.mem_of_getElem? (i := 833) (by decide +kernel), List.mem_of_getElem? (i := 948) (by decide +kernel), List.mem_of_getElem? (i := 949) (by decide +kernel)⟩
theorem lw_p21 : lw_okq (⟨"GoodsKeeperModel", "noRule", "(I)Z"⟩, 33) := ⟨⟨by decide +kernel, by decide +kernel⟩, List.mem_of_getElem? (i := 833) (by decide +kernel), List.mem_of_getElem? (i := 960) (by decide +kernel), List.mem_of_getElem? (i := 961) (by decide +kernel)⟩
theorem lw_p22 : lw_okq (⟨"GoodsKeeperModel", "noPlayer", "(I)Z"⟩, 33) := ⟨⟨by decide +kernel, by decide +kernel⟩, List.mem_of_getElem? (i := 833) (by decide +kernel), List.mem_of_getElem? (i := 976) (by decide +kernel), List.mem_of_getElem? (i := 977) (by decide +kernel)⟩
theorem lw_p23 : lw_okq (⟨"GoodsKeeperModel", "does", "(III)I"⟩, 33) := ⟨⟨by decide +kernel, by decide +kernel⟩, List.mem_of_getElem? (i := 833) (by decide +kernel), List.mem_of_getElem? (i := 981) (by decide +kernel), List.mem_of_getElem? (i := 982) (by decide +kernel)⟩
theorem lw_p24 : lw_okq (⟨"GoodsKeeperModel", "lines", "(II)V"⟩, 33) := ⟨⟨by decide +kernel, by decide +kernel⟩, List.mem_of_getElem? (i := 833) (by decide +kernel), List.mem_of_getElem? (i := 999) (by decide +kernel), List.mem_of_getElem? (i := 1000) (by decide +kernel)⟩
theorem lw_p25 : lw_okq (⟨"GoodsKeeperModel", "noSingle", "(I)Z"⟩, 33) := ⟨⟨by decide +kernel, by decide +kernel⟩, List.mem_of_getElem? (i := 833) (by decide +kernel), List.mem_of_getElem? (i := 1007) (by decide +kernel), List.mem_of_getElem? (i := 1008) (by decide +kernel)⟩
theorem lw_p26 : lw_okq (⟨"GoodsKeeperModel", "isBroken", "(I)Z"⟩, 33) := ⟨⟨by decide +kernel, by decide +kernel⟩, List.mem_of_getElem? (i := 833) (by decide +kernel), List.mem_of_getElem? (i := 1011) (by decide +kernel), List.mem_of_getElem? (i := 1012) (by decide +kernel)⟩
theorem lw_p27 : lw_okq (⟨"GoodsKeeperModel", "isWithin", "(II)Z"⟩, 33) := ⟨⟨by decide +kernel, by decide +kernel⟩, List.mem_of_getElem? (i := 833) (by decide +kernel), List.mem_of_getElem? (i := 1015) (by decide +kernel), List.mem_of_getElem? (i := 1016) (by decide +kernel)⟩
theorem lw_p28 : lw_okq (⟨"GoodsKeeperModel", "right", "(I)I"⟩, 33) := ⟨⟨by decide +kernel, by decide +kernel⟩, List.mem_of_getElem? (i := 833) (by decide +kernel), List.mem_of_getElem? (i := 1019) (by decide +kernel), List.mem_of_getElem? (i := 1020) (by decide +kernel)⟩
theorem lw_p29 : lw_okq (⟨"GoodsKeeperModel", "mayGo", "(I)Z"⟩, 33) := ⟨⟨by decide +kernel, by decide +kernel⟩, List.mem_of_getElem? (i := 833) (by decide +kernel), List.mem_of_getElem? (i := 1031) (by decide +kernel), List.mem_of_getElem? (i := 1032) (by decide +kernel)⟩
theorem lw_p30 : lw_okq (⟨"GoodsKeeperModel", "isLent", "(I)Z"⟩, 33) := ⟨⟨by decide +kernel, by decide +kernel⟩, List.mem_of_getElem? (i := 833) (by decide +kernel), List.mem_of_getElem? (i := 1035) (by decide +kernel), List.mem_of_getElem? (i := 1036) (by decide +kernel)⟩
theorem lw_p31 : lw_okq (⟨"GoodsKeeperModel", "goes", "(II)V"⟩, 33) := ⟨⟨by decide +kernel, by decide +kernel⟩, List.mem_of_getElem? (i := 833) (by decide +kernel), List.mem_of_getElem? (i := 1039) (by decide +kernel), List.mem_of_getElem? (i := 1040) (by decide +kernel)⟩
def lw_privs_2 : List (MethodName × Nat) := [(⟨"GoodsKeeper", "offerAt", "(I)LGoodsKeeper$Offer;"⟩, 10), (⟨"GoodsKeeper", "answerTo", "(LGoodsKeeper$Offer;)I"⟩, 10), (⟨"GoodsKeeper", "mayHandOver", "(LGoodsKeeper$Side;)Z"⟩, 10), (⟨"GoodsKeeper", "trade", "(LGoodsKeeper$Side;LGoodsKeeper$Side;)V"⟩, 10), (⟨"GoodsKeeperModel", "throwsIf", "(ZI)Z"⟩, 33), (⟨"GoodsKeeperModel", "noRule", "(I)Z"⟩, 33), (⟨"GoodsKeeperModel", "noPlayer", "(I)Z"⟩, 33), (⟨"GoodsKeeperModel", "does", "(III)I"⟩, 33), (⟨"GoodsKeeperModel", "lines", "(II)V"⟩, 33), (⟨"GoodsKeeperModel", "noSingle", "(I)Z"⟩, 33), (⟨"GoodsKeeperModel", "isBroken", "(I)Z"⟩, 33), (⟨"GoodsKeeperModel", "isWithin", "(II)Z"⟩, 33), (⟨"GoodsKeeperModel", "right", "(I)I"⟩, 33), (⟨"GoodsKeeperModel", "mayGo", "(I)Z"⟩, 33), (⟨"GoodsKeeperModel", "isLent", "(I)Z"⟩, 33), (⟨"GoodsKeeperModel", "goes", "(II)V"⟩, 33)]
theorem lw_r2 : ∀ q ∈ lw_privs_2, lw_okq q := List.forall_mem_cons.mpr ⟨lw_p16, List.forall_mem_cons.mpr ⟨lw_p17, List.forall_mem_cons.mpr ⟨lw_p18, List.forall_mem_cons.mpr ⟨lw_p19, List.forall_mem_cons.mpr ⟨lw_p20, List.forall_mem_cons.mpr ⟨lw_p21, List.forall_mem_cons.mpr ⟨lw_p22, List.forall_mem_cons.mpr ⟨lw_p23, List.forall_mem_cons.mpr ⟨lw_p24, List.forall_mem_cons.mpr ⟨lw_p25, List.forall_mem_cons.mpr ⟨lw_p26, List.forall_mem_cons.mpr ⟨lw_p27, List.forall_mem_cons.mpr ⟨lw_p28, List.forall_mem_cons.mpr ⟨lw_p29, List.forall_mem_cons.mpr ⟨lw_p30, List.forall_mem_cons.mpr ⟨lw_p31, fun _ h => absurd h List.not_mem_nil⟩⟩⟩⟩⟩⟩⟩⟩⟩⟩⟩⟩⟩⟩⟩⟩
theorem lw_p32 : lw_okq (⟨"GoodsKeeperModel", "against", "(I)I"⟩, 33) := ⟨⟨by decide +kernel, by decide +kernel⟩, List.mem_of_getElem? (i := 833) (by decide +kernel), List.mem_of_getElem? (i := 1074) (by decide +kernel), List.mem_of_getElem? (i := 1075) (by decide +kernel)⟩
theorem lw_p33 : lw_okq (⟨"GoodsKeeperModel", "after", "(IIIII)I"⟩, 33) := ⟨⟨by decide +kernel, by decide +kernel⟩, List.mem_of_getElem? (i := 833) (by decide +kernel), List.mem_of_getElem? (i := 1078) (by decide +kernel), List.mem_of_getElem? (i := 1079) (by decide +kernel)⟩
theorem lw_p34 : lw_okq (⟨"GoodsKeeperModel", "tries", "(II)Z"⟩, 33) := ⟨⟨by decide +kernel, by decide +kernel⟩, List.mem_of_getElem? (i := 833) (by decide +kernel), List.mem_of_getElem? (i := 1091) (by decide +kernel), List.mem_of_getElem? (i := 1092) (by decide +kernel)⟩
theorem lw_p35 : lw_okq (⟨"GoodsKeeperModel", "gainsWithSome", "()Z"⟩, 33) := ⟨⟨by decide +kernel, by decide +kernel⟩, List.mem_of_getElem? (i := 833) (by decide +kernel), List.mem_of_getElem? (i := 1095) (by decide +kernel), List.mem_of_getElem? (i := 1096) (by decide +kernel)⟩
theorem lw_p36 : lw_okq (⟨"GoodsKeeperModel", "bounds", "()V"⟩, 33) := ⟨⟨by decide +kernel, by decide +kernel⟩, List.mem_of_getElem? (i := 833) (by decide +kernel), List.mem_of_getElem? (i := 1099) (by decide +kernel), List.mem_of_getElem? (i := 1100) (by decide +kernel)⟩
theorem lw_p37 : lw_okq (⟨"GoodsKeeperModel", "leaves", "(II)I"⟩, 33) := ⟨⟨by decide +kernel, by decide +kernel⟩, List.mem_of_getElem? (i := 833) (by decide +kernel), List.mem_of_getElem? (i := 1103) (by decide +kernel), List.mem_of_getElem? (i := 1104) (by decide +kernel)⟩
theorem lw_p38 : lw_okq (⟨"GoodsKeeperModel", "isGain", "()Z"⟩, 33) := ⟨⟨by decide +kernel, by decide +kernel⟩, List.mem_of_getElem? (i := 833) (by decide +kernel), List.mem_of_getElem? (i := 1107) (by decide +kernel), List.mem_of_getElem? (i := 1108) (by decide +kernel)⟩
theorem lw_p39 : lw_okq (⟨"GoodsKeeperModel", "isGain", "(J)Z"⟩, 33) := ⟨⟨by decide +kernel, by decide +kernel⟩, List.mem_of_getElem? (i := 833) (by decide +kernel), List.mem_of_getElem? (i := 1111) (by decide +kernel), List.mem_of_getElem? (i := 1112) (by decide +kernel)⟩
theorem lw_p40 : lw_okq (⟨"GoodsKeeperModel", "two", "(IIII)J"⟩, 33) := ⟨⟨by decide +kernel, by decide +kernel⟩, List.mem_of_getElem? (i := 833) (by decide +kernel), List.mem_of_getElem? (i := 1116) (by decide +kernel), List.mem_of_getElem? (i := 1117) (by decide +kernel)⟩
theorem lw_p41 : lw_okq (⟨"GoodsKeeperModel", "three", "(IIIIII)J"⟩, 33) := ⟨⟨by decide +kernel, by decide +kernel⟩, List.mem_of_getElem? (i := 833) (by decide +kernel), List.mem_of_getElem? (i := 1120) (by decide +kernel), List.mem_of_getElem? (i := 1121) (by decide +kernel)⟩
def lw_privs_3 : List (MethodName × Nat) := [(⟨"GoodsKeeperModel", "against", "(I)I"⟩, 33), (⟨"GoodsKeeperModel", "after", "(IIIII)I"⟩, 33), (⟨"GoodsKeeperModel", "tries", "(II)Z"⟩, 33), (⟨"GoodsKeeperModel", "gainsWithSome", "()Z"⟩, 33), (⟨"GoodsKeeperModel", "bounds", "()V"⟩, 33), (⟨"GoodsKeeperModel", "leaves", "(II)I"⟩, 33), (⟨"GoodsKeeperModel", "isGain", "()Z"⟩, 33), (⟨"GoodsKeeperModel", "isGain", "(J)Z"⟩, 33), (⟨"GoodsKeeperModel", "two", "(IIII)J"⟩, 33), (⟨"GoodsKeeperModel", "three", "(IIIIII)J"⟩, 33)]
theorem lw_r3 : ∀ q ∈ lw_privs_3, lw_okq q := List.forall_mem_cons.mpr ⟨lw_p32, List.forall_mem_cons.mpr ⟨lw_p33, List.forall_mem_cons.mpr ⟨lw_p34, List.forall_mem_cons.mpr ⟨lw_p35, List.forall_mem_cons.mpr ⟨lw_p36, List.forall_mem_cons.mpr ⟨lw_p37, List.forall_mem_cons.mpr ⟨lw_p38, List.forall_mem_cons.mpr ⟨lw_p39, List.forall_mem_cons.mpr ⟨lw_p40, List.forall_mem_cons.mpr ⟨lw_p41, fun _ h => absurd h List.not_mem_nil⟩⟩⟩⟩⟩⟩⟩⟩⟩⟩
def lw_privs : List (MethodName × Nat) := lw_privs_1 ++ (lw_privs_2 ++ (lw_privs_3))
def lw_tbl : List Cond := k2_sels lw_privs ++ tables_1
theorem lw_privs_ok : ∀ q ∈ lw_privs, lw_okq q := by
  show ∀ q ∈ lw_privs_1 ++ (lw_privs_2 ++ (lw_privs_3)), lw_okq q
  exact List.forall_mem_append.mpr ⟨lw_r1, List.forall_mem_append.mpr ⟨lw_r2, lw_r3⟩⟩
end
section
def va_AOA (t : FieldType) (U : State) : Prop := (Cond.arrayOver (.array t)).before #[] U = true
theorem va_AOA.of {t : FieldType} {A : Array Value} {U : State} (h : (Cond.arrayOver (.array t)).before A U = true) : va_AOA t U := h
theorem va_AOA.use {t : FieldType} {A : Array Value} {U : State} (h : va_AOA t U) : (Cond.arrayOver (.array t)).before A U = true := h
/-! ===== BEGIN words of one list among another's, by their places ===== -/
theorem goodIn_r {big : List Cond} (ws : List Cond) (ps : List Nat) (hp : ws = ps.filterMap (fun i => big[i]?)) (h : ws.all goodWord = true) : GoodIn big ws := by
  intro w hw
  have h1 := List.all_eq_true.mp h w hw
  rw [hp] at hw
  obtain ⟨i, -, hi⟩ := List.mem_filterMap.mp hw
  have hm : w ∈ big := by first | exact List.mem_of_getElem? hi | exact List.getElem?_mem hi
  exact ⟨hm, good_of_word h1⟩
theorem goodIn_app {big a b : List Cond} (ha : GoodIn big a) (hb : GoodIn big b) : GoodIn big (a ++ b) := fun w h => (List.mem_append.mp h).elim (ha w) (hb w)
theorem goodIn_ca {big a b : List Cond} {c : Cond} (ha : GoodIn big (c :: a)) (hb : GoodIn big b) : GoodIn big (c :: (a ++ b)) := fun w h => (List.mem_cons.mp h).elim (fun e => ha w (List.mem_cons.mpr (Or.inl e))) (fun h => (List.mem_append.mp h).elim (fun h => ha w (List.mem_cons.mpr (Or.inr h))) (hb w))
theorem goodIn_sub {big ws : List Cond} (hm : ∀ w ∈ ws, w ∈ big) (h : ws.all goodWord = true) : GoodIn big ws := fun w hw => ⟨hm w hw, good_of_word (List.all_eq_true.mp h w hw)⟩
/-! ===== END ===== -/

/-! ===== BEGIN new T[n][m]: the outer array a place, the inner ones among the pooled ===== -/
/-- f, but v at every address of l -/
def vr_up {α : Type} (f : Nat → α) (l : List Nat) (v : α) : Nat → α := fun a => if a ∈ l then v else f a
theorem vr_up_in {α : Type} {f : Nat → α} {l : List Nat} {v : α} {a : Nat} (h : a ∈ l) : vr_up f l v a = v := if_pos h
theorem vr_up_ne {α : Type} {f : Nat → α} {l : List Nat} {v : α} {a : Nat} (h : a ∉ l) : vr_up f l v a = f a := if_neg h
theorem vr_rows {L l : List Nat} {f : Nat → va_E} {e : va_E} (h : ∀ a, a ∈ l → a ∉ L) : va_pl L f ++ l.map (fun a => (a, e)) = va_pl (L ++ l) (vr_up f l e) := by
  unfold va_pl
  rw [List.map_append]
  congr 1
  · apply List.map_congr_left
    intro a ha
    rw [vr_up_ne (fun q => h a q ha)]
  · apply List.map_congr_left
    intro a ha
    rw [vr_up_in ha]
theorem vr_lay {X rows : va_W} {x : Nat × va_E} {pl : va_W} {D : va_G} {cl : List vw_C} {H : Heap} (hP : va_P D cl (((X ++ pl) ++ [x]) ++ rows) H) : va_P D cl ((X ++ [x]) ++ (pl ++ rows)) H := by
  rw [List.append_assoc (X ++ pl)] at hP
  have h := va_P.swap hP
  rw [← List.append_assoc X] at h
  have h2 := va_P.swap h
  rw [List.append_assoc (X ++ [x])] at h2
  exact h2
theorem vr_layD {X rows : va_W} {x : Nat × va_E} {pl : va_W} {A : Nat → Prop} (hD : va_D A (((X ++ pl) ++ [x]) ++ rows)) : va_D A ((X ++ [x]) ++ (pl ++ rows)) := by
  rw [List.append_assoc (X ++ pl)] at hD
  have h := va_D.swap hD
  rw [← List.append_assoc X] at h
  have h2 := va_D.swap h
  rw [List.append_assoc (X ++ [x])] at h2
  exact h2
theorem vr_outer (c : ClassId) (N h0 : Nat) : ∀ i : Nat, Jvm.Free.Multi.outerC c N h0 i = arrV c N (fun j => va_rf (if j < i then some (h0 + 1 + j) else none))
  | 0 => by
    show ({ cls := c, slots := Array.replicate N .null, vm := .none } : Cell) = _
    rw [arrV_new]
    refine congrArg (arrV c N) (funext fun j => ?_)
    simp [va_rf]
  | i + 1 => by
    show (Jvm.Free.Multi.outerC c N h0 i).setSlot i (.ref (h0 + 1 + i)) = _
    rw [vr_outer c N h0 i, arrV_store]
    refine congrArg (arrV c N) (funext fun j => ?_)
    by_cases e : j = i
    · subst e
      simp [updV, va_rf]
    · by_cases h : j < i
      · simp [updV, e, h, Nat.lt_succ_of_lt h]
      · simp [updV, e, h, show ¬ j < i + 1 by omega]
section VGM
variable {p : Program} {l : Launch} {e : Env} {R : Room} {s : State} {m : MethodId} {args : Array Value} {below : List Frame} {meth : Method} {c : Code} {H : Heap} {locs : List Loc} {cells slots : Nat} {Q : State → Prop}
variable {cc : ByteArray} {pc : Nat} {ls : Array Slot} {rest : List Value} {D : va_G} {cl : List vw_C} {A : Nat → Prop} {a : Nat} {tys : List (ClassId × FieldType)} {ws : va_W} {H0 : Heap}
theorem va_mna {X : va_W} {L : List Nat} {f : Nat → va_E} {cc : ByteArray} (hexec : p.tables.exec = Jvm.exec) (hb : c.code = cc) {own : String} {index : Nat} {ty : FieldType} {cy : ClassId} (hown : s.vm.findClass own = some m.cls) (hclink : (Cond.classLink own index ("[" ++ (FieldType.array ty).toString)).before args s = true) (hover : va_AOA ty s) (harr : (Cond.arrayClass ty).before args s = true) (hcy : s.vm.findClass (FieldType.array ty).toString = some cy)
    (hK : va_K D cl tys s) (hP : va_P D cl (X ++ va_pl L f) H) (hD : va_D A (X ++ va_pl L f)) (hS : va_S A H0 H locs) (hA : ∀ q, H0.size ≤ q → A q) {n k : Int32} {N' K' : Nat} {z : vp_A} (hn : ¬ n < 0) (hk : ¬ k < 0) (hN : n.toNatClampNeg = N') (hM : k.toNatClampNeg = K')
    (hb1 : N' * 4 ≤ 536870912) (hb2 : K' * componentBytes ty ≤ 536870912) (hb3 : K' ≤ 536870912) (hdf : fits ty (defaultValue ty) = true) (hdd : (defaultValue ty).isDefault = true) (hcells : cells + (1 + N') ≤ R.cells) (hslots : slots + (N' + N' * K') ≤ R.slots) (hz : ∀ c : ClassId, Jvm.Free.Multi.innerC c K' (defaultValue ty) = vp_cell c z) (hdg : decode cc pc = .ok (.multianewarray index 2, 4))
    (kk : ∀ (q : Nat) (r : Nat → Nat) (cA : ClassId) (H1 : Heap), (∀ i j : Nat, i < N' → j < N' → r i = r j → i = j) → (∀ i : Nat, i < N' → r i ∉ L) → va_K D cl (tys ++ [(cA, .array ty)]) s →
      va_P D cl ((X ++ [(q, .inl (cA, N', .inr (.inr (.inr (.inr (fun i => if i < N' then some (r i) else none))))))]) ++ va_pl (L ++ (List.range N').map r) (vr_up f ((List.range N').map r) (.inl (cy, z)))) H1 → va_D A ((X ++ [(q, .inl (cA, N', .inr (.inr (.inr (.inr (fun i => if i < N' then some (r i) else none))))))]) ++ va_pl (L ++ (List.range N').map r) (vr_up f ((List.range N').map r) (.inl (cy, z)))) → va_S A H0 H1 locs →
      W p l e R s m args below meth c H1 locs (cells + 1 + N') (slots + N' + N' * K') Q (F0 m (pc + 4) ls (.ref q :: rest))) : W p l e R s m args below meth c H locs cells slots Q (F0 m pc ls (.int k :: .int n :: rest)) := by
  subst hN
  subst hM
  intro T hT Xs
  obtain ⟨vm₁, cA, comp, -, fA, fC, hO, -, X', step⟩ := Xs.multianewarray2F hexec hown hclink (va_AOA.use hover) harr (g := F0 m pc ls (.int k :: .int n :: rest)) rfl (by rw [hb]; exact hdg) rfl hn hk hb1 hb2 hb3 hdf hdd hcells hslots
  have ec : some cy = some comp := hcy.symm.trans fC
  cases ec
  generalize hF : Jvm.Free.Multi.fill (T.setVm vm₁) cA cy n.toNatClampNeg k.toNatClampNeg (defaultValue ty) n.toNatClampNeg = F at X' step
  have hTh : (T.setVm vm₁).heap = H := hT
  obtain ⟨f1, f2, -, -⟩ := Jvm.Free.Multi.fill_facts (T.setVm vm₁) cA cy n.toNatClampNeg k.toNatClampNeg (defaultValue ty) n.toNatClampNeg
  rw [hF, hTh] at f1 f2
  have hold : ∀ x : Nat, x < H.size → F.heap[x]? = H[x]? := fun x hx => by
    have := Jvm.Free.Multi.fill_old (T.setVm vm₁) cA cy n.toNatClampNeg k.toNatClampNeg (defaultValue ty) (a := x) (by rw [hTh]; exact hx) n.toNatClampNeg
    rw [hF, hTh] at this
    exact this
  have hrow : ∀ j : Nat, j < n.toNatClampNeg → F.heap[H.size + 1 + j]? = some (vp_cell cy z) := fun j hj => by
    have := Jvm.Free.Multi.fill_inner (T.setVm vm₁) cA cy n.toNatClampNeg k.toNatClampNeg (defaultValue ty) n.toNatClampNeg j hj
    rw [hF, hTh, hz] at this
    exact this
  have hout : Jvm.Free.Multi.outerC cA n.toNatClampNeg H.size n.toNatClampNeg = vp_cell cA (n.toNatClampNeg, .inr (.inr (.inr (.inr (fun i => if i < n.toNatClampNeg then some (H.size + 1 + i) else none))))) := by
    rw [vp_cell_q]
    exact vr_outer cA n.toNatClampNeg H.size n.toNatClampNeg
  rw [hout] at f2
  have hlt : ∀ a, a ∈ L → a < H.size := fun a ha => by
    obtain ⟨k9, hk9⟩ := va_pl_get (X := X) (f := f) ha
    exact (hP k9 _ hk9).lt
  have hnl : ∀ i : Nat, i < n.toNatClampNeg → H.size + 1 + i ∉ L := fun i _ h => by
    have := hlt _ h
    omega
  have hnm : ∀ a, a ∈ (List.range n.toNatClampNeg).map (fun i => H.size + 1 + i) → a ∉ L := fun a ha h => by
    obtain ⟨i, -, rfl⟩ := List.mem_map.mp ha
    have := hlt _ h
    omega
  have hP0 : va_P D cl (X ++ va_pl L f) F.heap := hP.kept (fun k9 x hx => hold x.1 ((hP k9 x hx).lt))
  have hP1 : va_P D cl ((X ++ va_pl L f) ++ [(H.size, .inl (cA, n.toNatClampNeg, .inr (.inr (.inr (.inr (fun i => if i < n.toNatClampNeg then some (H.size + 1 + i) else none))))))]) F.heap := hP0.app (fun k9 x hx => by
    have h0 : k9 < 1 := (List.getElem?_eq_some_iff.mp hx).1
    rw [show k9 = 0 by omega] at hx
    cases hx
    exact f2)
  have hP2 : va_P D cl (((X ++ va_pl L f) ++ [(H.size, .inl (cA, n.toNatClampNeg, .inr (.inr (.inr (.inr (fun i => if i < n.toNatClampNeg then some (H.size + 1 + i) else none))))))]) ++ ((List.range n.toNatClampNeg).map (fun i => H.size + 1 + i)).map (fun a => (a, .inl (cy, z)))) F.heap := hP1.app (fun k9 x hx => by
    obtain ⟨a, ha, rfl⟩ := List.mem_map.mp (List.mem_of_getElem? hx)
    obtain ⟨i, hi, rfl⟩ := List.mem_map.mp ha
    exact hrow i (List.mem_range.mp hi))
  have hD2 : va_D A (((X ++ va_pl L f) ++ [(H.size, .inl (cA, n.toNatClampNeg, .inr (.inr (.inr (.inr (fun i => if i < n.toNatClampNeg then some (H.size + 1 + i) else none))))))]) ++ ((List.range n.toNatClampNeg).map (fun i => H.size + 1 + i)).map (fun a => (a, .inl (cy, z)))) := by
    have hD1 := hD.push (e := .inl (cA, n.toNatClampNeg, .inr (.inr (.inr (.inr (fun i => if i < n.toNatClampNeg then some (H.size + 1 + i) else none)))))) hP rfl (hA _ hS.1)
    generalize hW1 : (X ++ va_pl L f) ++ [(H.size, .inl (cA, n.toNatClampNeg, .inr (.inr (.inr (.inr (fun i => if i < n.toNatClampNeg then some (H.size + 1 + i) else none))))))] = W1 at hD1 hP1 ⊢
    have hle : ∀ (k9 : Nat) (x : Nat × va_E), W1[k9]? = some x → x.1 ≤ H.size := fun k9 x hx => by
      rw [← hW1] at hx
      by_cases hl : k9 < (X ++ va_pl L f).length
      · rw [List.getElem?_append_left hl] at hx
        exact Nat.le_of_lt ((hP k9 x hx).lt)
      · rw [List.getElem?_append_right (by omega)] at hx
        have h0 : k9 - (X ++ va_pl L f).length < 1 := (List.getElem?_eq_some_iff.mp hx).1
        rw [show k9 - (X ++ va_pl L f).length = 0 by omega] at hx
        cases hx
        exact Nat.le_refl _
    have hr : ∀ (k9 : Nat) (x : Nat × va_E), (((List.range n.toNatClampNeg).map (fun i => H.size + 1 + i)).map (fun a => ((a, .inl (cy, z)) : Nat × va_E)))[k9]? = some x → x.1 = H.size + 1 + k9 := fun k9 x hx => by
      rw [List.getElem?_map, List.getElem?_map] at hx
      by_cases h9 : k9 < n.toNatClampNeg
      · rw [List.getElem?_range h9] at hx
        cases hx
        rfl
      · have hn0 : (List.range n.toNatClampNeg)[k9]? = none := List.getElem?_eq_none (by rw [List.length_range]; omega)
        rw [hn0] at hx
        cases hx
    refine ⟨fun i j x y hi hj hxy => ?_, fun k9 x hx => ?_⟩
    · by_cases h1 : i < W1.length <;> by_cases h2 : j < W1.length
      · rw [List.getElem?_append_left h1] at hi
        rw [List.getElem?_append_left h2] at hj
        exact hD1.1 i j x y hi hj hxy
      · rw [List.getElem?_append_left h1] at hi
        rw [List.getElem?_append_right (by omega)] at hj
        have := hle _ _ hi
        have := hr _ _ hj
        omega
      · rw [List.getElem?_append_right (by omega)] at hi
        rw [List.getElem?_append_left h2] at hj
        have := hle _ _ hj
        have := hr _ _ hi
        omega
      · rw [List.getElem?_append_right (by omega)] at hi hj
        have := hr _ _ hi
        have := hr _ _ hj
        omega
    · by_cases h1 : k9 < W1.length
      · rw [List.getElem?_append_left h1] at hx
        exact hD1.2 k9 x hx
      · rw [List.getElem?_append_right (by omega)] at hx
        have := hr _ _ hx
        exact hA _ (by have := hS.1; omega)
  have hAr : ArrOfT s cA (.array ty) := fun N9 z9 => by
    obtain ⟨-, k9, hk9, cm9, hkk9⟩ := (hO 0 0 0).1
    exact ⟨(fun q hq => by cases hq), k9, hk9, cm9, hkk9⟩
  have hK2 : va_K D cl (tys ++ [(cA, .array ty)]) s := ⟨hK.1, fun k9 x hx => by
    by_cases hl : k9 < tys.length
    · rw [List.getElem?_append_left hl] at hx
      exact hK.2 k9 x hx
    · rw [List.getElem?_append_right (by omega)] at hx
      have h0 : k9 - tys.length < 1 := (List.getElem?_eq_some_iff.mp hx).1
      rw [show k9 - tys.length = 0 by omega] at hx
      cases hx
      exact ⟨hAr, fA⟩⟩
  obtain ⟨t, a1, b1⟩ := kk H.size (fun i => H.size + 1 + i) cA F.heap (fun i j _ _ h => by have h9 : H.size + 1 + i = H.size + 1 + j := h; omega) hnl hK2 (by rw [← vr_rows hnm]; exact vr_lay hP2) (by rw [← vr_rows hnm]; exact vr_layD hD2) ⟨by rw [f1]; have := hS.1; omega, fun x h1 h2 => (hold x (Nat.lt_of_lt_of_le h1 hS.1)).trans (hS.2.1 x h1 h2), hS.2.2⟩ F rfl X'
  refine ⟨t, step t ?_, b1⟩
  have e : T.heap.size = H.size := by rw [hT]
  rw [e]
  exact a1
end VGM
/-! ===== END ===== -/

/-! ===== BEGIN exceptions that leave a method, and their catching by the caller (launches without stack traces) ===== -/
section VXA
/-! The laws vx_back, vx_callV, vx_callS, vx_callSW, vx_throw0, vx_throwS follow proofs of the library, with one case more: JvmDerived/Free/Laws.lean (Back.of_free), Shelf42/LK1.lean (callV, callS), Shelf/KitTraced.lean (throwNew0V, throwNewS). -/
/-- where a method has thrown q: the class by its name, the cell, what was written, the world -/
def vx_T (XC : String → State → State → Prop) (st : State) (q : Addr) (t : State) (mc ms : Nat) (free : Addr → Prop) : Prop :=
  ∃ (E : String) (ce : Cell) (L : List Loc), XC E st t ∧ t.heap[q]? = some ce ∧ ce.vm = .none ∧ st.vm.findClass E = some ce.cls ∧ st.WarmedH t.vm ∧ st.sameButNew ({ t with vm := st.vm } : State) L mc ms ∧ ∀ z ∈ L, free z.base
def vx_Q (Qc : Array Value → State → Outcome → State → Prop) (XC : String → State → State → Prop) (mc ms : Nat) (free : Addr → Prop) : Array Value → State → Outcome → State → Prop := fun a st o t =>
  (Qc a st o t ∧ ∃ L, FrameEnd st o t L mc ms ∧ ∀ q ∈ L, free q.base) ∨ ∃ q, o = .threw q ∧ vx_T XC st q t mc ms free
/-- a callee that returns or throws -/
def vx_Met (l : Launch) (y : MethodName) (ws : List Cond) (rm : Room) (Pc : Array Value → State → Prop) (Qc : Array Value → State → Outcome → State → Prop) (XC : String → State → State → Prop) (mc ms : Nat) (free : Addr → Prop) : Prop :=
  MetFree l y (headSpec ws rm) Pc (fun _ _ _ _ _ => True) (vx_Q Qc XC mc ms free)
def vx_Post (XC : String → State → State → Prop) (mc ms : Nat) (free : Addr → Prop) : Pt → Array Value → Addr → Pt → Prop := fun A a q B =>
  ∃ (g : JFrame) (mk : MethodId) (t : State) (L : List Loc) (E : String) (ce : Cell), B.U.heap = t.heap ∧ B.U.vm = t.vm ∧ XC E (A.U.calling g mk a) t ∧ t.heap[q]? = some ce ∧ ce.vm = .none ∧ A.U.vm.findClass E = some ce.cls ∧ B.locs = A.locs ++ L ∧ (∀ z ∈ L, free z.base) ∧ B.cells = A.cells + mc ∧ B.slots = A.slots + ms
def vx_Back (l : Launch) (R : Room) (p : Program) (e : Env) (below : List Frame) (s : State) (sargs : Array Value) (y : MethodName) (len W9 : Nat)
    (Pre : Pt → Array Value → Prop) (Post : Pt → Array Value → Option Value → Pt → Prop) (PostX : Pt → Array Value → Addr → Pt → Prop) : Prop :=
  ∀ (m : MethodId) (meth : Method) (c : Code) (A : Pt) (g : JFrame) (ig : Instr) (mk : MethodId) (a : Array Value),
    Stand p l e R s m sargs below meth c A.U A.locs A.cells A.slots → g.method = m → g.locals.size = c.maxLocals → decode c.code g.pc = .ok (ig, len) →
    2 * g.monitorRoom + (g.stack.map fun v => v.category).sum ≤ W9 → A.U.methodNamed? y = some mk → Pre A a →
    (∃ (v : Option Value) (B : Pt), Stand p l e R s m sargs below meth c B.U B.locs B.cells B.slots ∧ Post A a v B ∧
      Steps p.tables e below (doInvoke e (A.U.setTop g) [] mk a).1 (B.U.setTop { g with pc := g.pc + len, stack := v.toList ++ g.stack })) ∨
    (∃ (q : Addr) (B : Pt), Stand p l e R s m sargs below meth c B.U B.locs B.cells B.slots ∧ PostX A a q B ∧
      Steps p.tables e below (doInvoke e (A.U.setTop g) [] mk a).1 ((B.U.setTop g).pushFrame (.throwing q)))
section Payer
variable {l : Launch} {R : Room} {p : Program} {e : Env} {below : List Frame} {s : State} {sargs : Array Value} {y : MethodName} {len W9 : Nat}
theorem vx_back {ws : List Cond} {rm : Room} {Pc : Array Value → State → Prop} {Qc : Array Value → State → Outcome → State → Prop} {XC : String → State → State → Prop} {mc ms : Nat} {free : Addr → Prop} {bytes : ByteArray} {maxL : Nat} {ret : Option FieldType}
    (hM : vx_Met l y ws rm Pc Qc XC mc ms free) (hblind : FrameBlind Pc) (hrc : rm.cells = mc) (hrs : rm.slots = ms)
    (hframes : rm.frames + 1 ≤ R.frames) (hlocals : W9 + (maxL + 11) + rm.locals ≤ R.locals)
    (hws : ∀ w ∈ ws, ∀ a' U, s.WarmedH U.vm → w.before a' U = true) (hcode : Cond.code y bytes maxL ret ∈ ws) (hinit : ∀ a' U, s.WarmedH U.vm → (Cond.initialized y.cls).before a' U = true) :
    vx_Back l R p e below s sargs y len W9 (PreOf R mc ms Pc) (PostOf Qc mc ms free) (vx_Post XC mc ms free) := by
  intro m meth c A g ig mk a X hg hsize hdg hW hn hp
  have h1 : (headSpec ws rm).pre.before a A.U = true := atoms_intro fun w hw => hws w hw _ _ X.warmed
  have h2 : (Cond.code y bytes maxL ret).before a A.U = true := hws _ hcode _ _ X.warmed
  have h3 : (Cond.initialized y.cls).before a A.U = true := hinit _ _ X.warmed
  have h4 : A.cells + (headSpec ws rm).room.cells ≤ R.cells := by rw [show (headSpec ws rm).room.cells = mc from hrc]; exact hp.1
  have h5 : A.slots + (headSpec ws rm).room.slots ≤ R.slots := by rw [show (headSpec ws rm).room.slots = ms from hrs]; exact hp.2.1
  have hPc : Pc a (A.U.calling g mk a) := hblind _ _ _ _ hp.2.2
  obtain ⟨U, Ls, c0, s0⟩ := A
  dsimp only [Pt.U, Pt.locs, Pt.cells, Pt.slots] at h1 h2 h3 h4 h5 X hn hPc ⊢
  obtain ⟨methY, cY, hmY, hcY, -, hlY, -, -, -, -⟩ := Cond.code_spec hn h2
  obtain ⟨kY, hkY, -⟩ := className_of_methodNamed hn
  have hinitY : kY.init = .initialized := Cond.initialized_spec (findClass_of_methodNamed hn) hkY h3
  have h : At U g.method c below := by rw [hg]; exact X.here
  have hlocals9 : W9 + (maxL + 11) + (headSpec ws rm).room.locals ≤ R.locals := hlocals
  have happ : (headSpec ws rm).appliesLoose y e.platform (U.calling g mk a) = true :=
    Spec.appliesLoose_calling (g := g) h hdg hn hkY hinitY
      (X.room_calling (g := g) (R' := (headSpec ws rm).room) hsize hmY hcY hframes (by rw [hlY]; omega) h4 h5) h1
  obtain ⟨mid, hmid⟩ := h.above
  have hfr : (U.setTop g).frames = (.java g :: mid) ++ below := by rw [State.frames_setTop' g h.top, hmid]; rfl
  obtain ⟨o, s₂, hsteps, -, hend, hq⟩ := Steps.callFree hM p X.admits X.cas X.clock (acts := []) hfr happ hPc trivial
  have hq' : vx_Q Qc XC mc ms free a (U.calling g mk a) o s₂ := hq
  rw [State.frames_setTop' g h.top] at hend
  obtain ⟨g₀, hg0⟩ := Option.isSome_iff_exists.mp h.top
  obtain ⟨r, hr⟩ := State.topJava?_eq_some.mp hg0
  have hr' : (({ U with heap := s₂.heap, slotsUsed := s₂.slotsUsed } : State).setVm s₂.vm).frames = .java g₀ :: r := hr
  rcases hq' with ⟨hqc, L, hfe, hL⟩ | ⟨q, rfl, E, ce, L, hx, hce, hcv, hcl, hW₂, hsm, hL⟩
  · obtain ⟨⟨v, rfl⟩, hW₂, e2, q2, q3, q4, q5, q6⟩ := id hfe
    have e3 : s₂ = ({ (U.calling g mk a).setFrames s₂.frames with heap := s₂.heap, slotsUsed := s₂.slotsUsed } : State).setVm s₂.vm := by
      have : s₂ = ({ s₂ with vm := (U.calling g mk a).vm } : State).setVm s₂.vm := rfl
      rw [e2] at this
      exact this
    obtain ⟨c₂, i₂, len₂, hc₂, hd₂, hf₂⟩ := hend
    have hW' : U.WarmedH s₂.vm := hW₂
    have hcc : c₂ = c := by
      have h1 : s₂.code? g.method = U.code? g.method := by
        rw [State.code?_eq, State.code?_eq, hW'.alike.method?]
      exact Option.some.inj (hc₂.symm.trans (h1.trans h.code))
    subst hcc
    have hlen : len₂ = len := by rw [hdg] at hd₂; cases hd₂; rfl
    subst hlen
    have hs₂ : s₂ = (({ U with heap := s₂.heap, slotsUsed := s₂.slotsUsed } : State).setVm s₂.vm).setTop { g with pc := g.pc + len₂, stack := v.toList ++ g.stack } := by
      refine e3.trans ?_
      rw [hf₂, State.calling_eq h.top, State.setFrames_setFrames, State.setTop_of_frames _ hr', hr]
      rfl
    have hsame : U.sameButNew ({ U with heap := s₂.heap, slotsUsed := s₂.slotsUsed } : State) L mc ms := by
      refine ⟨?_, q2, q3, q4, q5, q6⟩
      obtain ⟨t, ht, -⟩ := State.frames_cons hr
      show ({ U with heap := s₂.heap, slotsUsed := s₂.slotsUsed } : State) = { U.setFrames U.frames with heap := s₂.heap, slotsUsed := s₂.slotsUsed }
      rw [State.setFrames_self ht]
    subst hg
    refine Or.inl ⟨v, ⟨(({ U with heap := s₂.heap, slotsUsed := s₂.slotsUsed } : State).setVm s₂.vm), Ls ++ L, c0 + mc, s0 + ms⟩,
      ⟨X.admits, X.cas, X.clock, X.frames, X.room, X.hears, X.method, X.code, (X.here.setHeapUsed s₂.heap s₂.slotsUsed).setVm hW'.alike, X.tail, State.WarmedH.trans X.warmed hW', X.limits, X.bytes, X.same.trans (hsame.setVm s.vm)⟩,
      ⟨g, mk, s₂, L, rfl, rfl, hqc, rfl, hL, rfl, rfl⟩, ?_⟩
    show Steps p.tables e below _ ((({ U with heap := s₂.heap, slotsUsed := s₂.slotsUsed } : State).setVm s₂.vm).setTop { g with pc := g.pc + len₂, stack := v.toList ++ g.stack })
    rw [← hs₂]
    exact hsteps
  · obtain ⟨e2, q2, q3, q4, q5, q6⟩ := id hsm
    have e3 : s₂ = ({ (U.calling g mk a).setFrames s₂.frames with heap := s₂.heap, slotsUsed := s₂.slotsUsed } : State).setVm s₂.vm := by
      have : s₂ = ({ s₂ with vm := (U.calling g mk a).vm } : State).setVm s₂.vm := rfl
      rw [e2] at this
      exact this
    have hf₂ : s₂.frames = .throwing q :: .java g :: U.frames.tail := hend
    have hW' : U.WarmedH s₂.vm := hW₂
    have hs₂ : s₂ = ((({ U with heap := s₂.heap, slotsUsed := s₂.slotsUsed } : State).setVm s₂.vm).setTop g).pushFrame (.throwing q) := by
      refine e3.trans ?_
      rw [hf₂, State.calling_eq h.top, State.setFrames_setFrames, State.pushFrame, State.frames_setTop _ hr', State.setTop_of_frames _ hr', State.setFrames_setFrames, hr]
      rfl
    have hsame : U.sameButNew ({ U with heap := s₂.heap, slotsUsed := s₂.slotsUsed } : State) L mc ms := by
      refine ⟨?_, q2, q3, q4, q5, q6⟩
      obtain ⟨t, ht, -⟩ := State.frames_cons hr
      show ({ U with heap := s₂.heap, slotsUsed := s₂.slotsUsed } : State) = { U.setFrames U.frames with heap := s₂.heap, slotsUsed := s₂.slotsUsed }
      rw [State.setFrames_self ht]
    subst hg
    refine Or.inr ⟨q, ⟨(({ U with heap := s₂.heap, slotsUsed := s₂.slotsUsed } : State).setVm s₂.vm), Ls ++ L, c0 + mc, s0 + ms⟩,
      ⟨X.admits, X.cas, X.clock, X.frames, X.room, X.hears, X.method, X.code, (X.here.setHeapUsed s₂.heap s₂.slotsUsed).setVm hW'.alike, X.tail, State.WarmedH.trans X.warmed hW', X.limits, X.bytes, X.same.trans (hsame.setVm s.vm)⟩,
      ⟨g, mk, s₂, L, E, ce, rfl, rfl, hx, hce, hcv, hcl, rfl, hL, rfl, rfl⟩, ?_⟩
    show Steps p.tables e below _ (((({ U with heap := s₂.heap, slotsUsed := s₂.slotsUsed } : State).setVm s₂.vm).setTop g).pushFrame (.throwing q))
    rw [← hs₂]
    exact hsteps
end Payer
section Calls
variable {p : Program} {l : Launch} {e : Env} {R : Room} {s : State} {m : MethodId} {args : Array Value} {below : List Frame} {meth : Method} {c : Code} {T : State} {locs : List Loc} {cells slots : Nat}
theorem vx_callV (X : Stand p l e R s m args below meth c T locs cells slots) (hexec : p.tables.exec = Jvm.exec) {own C : String} {index : Nat} {y : MethodName} {bytes : ByteArray} {maxL : Nat} {ret : Option FieldType}
    (hown : s.vm.findClass own = some m.cls) (hlink : (Cond.methodLink own index y).before args s = true) (hinst : (Cond.instanceMethod y).before args s = true) (hsel : (Cond.selects C y y).before args s = true)
    (hcode : (Cond.code y bytes maxL ret).before args s = true) (hy : y.cls ≠ "java/lang/invoke/MethodHandle" ∧ y.cls ≠ "java/lang/invoke/VarHandle")
    {W9 : Nat} {Pre : Pt → Array Value → Prop} {Post : Pt → Array Value → Option Value → Pt → Prop} {PostX : Pt → Array Value → Addr → Pt → Prop} (hK : vx_Back l R p e below s args y 3 W9 Pre Post PostX)
    {b : Addr} {cellB : Cell} (hcell : T.heap[b]? = some cellB) (hobj : cellB.vm.isStatics = false) (hcls : s.vm.findClass C = some cellB.cls)
    {g : JFrame} (hg : g.method = m) (hsize : g.locals.size = c.maxLocals) {argsL rest : List Value} (hlen : ∀ sig, parseMethodDescriptor y.desc = some sig → argsL.length = sig.parameters.length)
    (hstack : g.stack = argsL.reverse ++ .ref b :: rest) (hW : 2 * g.monitorRoom + (rest.map fun v => v.category).sum ≤ W9) (hdg : decode c.code g.pc = .ok (.invokevirtual index, 3))
    (hpre : ∀ vm₁, s.WarmedH vm₁ → Pre ⟨T.setVm vm₁, locs, cells, slots⟩ (Value.ref b :: argsL).toArray) :
    (∃ (v : Option Value) (vm₁ : Vm) (B : Pt), s.WarmedH vm₁ ∧ Stand p l e R s m args below meth c B.U B.locs B.cells B.slots ∧ Post ⟨T.setVm vm₁, locs, cells, slots⟩ (Value.ref b :: argsL).toArray v B ∧
      ∀ target, Steps p.tables e below (B.U.setTop { g with pc := g.pc + 3, stack := v.toList ++ rest }) target → Steps p.tables e below (T.setTop g) target) ∨
    (∃ (q : Addr) (vm₁ : Vm) (B : Pt), s.WarmedH vm₁ ∧ Stand p l e R s m args below meth c B.U B.locs B.cells B.slots ∧ PostX ⟨T.setVm vm₁, locs, cells, slots⟩ (Value.ref b :: argsL).toArray q B ∧
      Steps p.tables e below (T.setTop g) ((B.U.setTop { g with stack := rest }).pushFrame (.throwing q))) := by
  obtain ⟨mk, methM, hnamed, hmethM, hstM, habM⟩ := Cond.instanceMethod_spec hinst
  obtain ⟨methM', cM, hmethM', -, -, -, -, -, -, hsigM⟩ := Cond.code_spec hnamed hcode
  cases hmethM.symm.trans hmethM'
  obtain ⟨c2, r2, m2, q1, q2, q3, q4, kP, hkP, hkPi⟩ := Cond.selects_spec hsel
  cases hcls.symm.trans q1
  cases (State.methodFound?_of_named hnamed hy).symm.trans q2
  cases hnamed.symm.trans q3
  have hselP : selectMethod e.platform s.vm cellB.cls mk = .method mk := by rw [Launch.admits_selectMethod X.admits]; exact q4
  obtain ⟨vm₁, X₁, hstep₁⟩ := X.invokevirtual hexec hown hlink hnamed hmethM hstM hkP hkPi hy (a := b) (cell := cellB) hcell
    (fun z h => by rw [h] at hobj; cases hobj) hselP hmethM habM hkP hkPi (g := g) hg (argsL := argsL) (rest := rest) (hlen _ hsigM) hstack hdg
  rcases hK m meth c ⟨T.setVm vm₁, locs, cells, slots⟩ { g with stack := rest } (.invokevirtual index) mk (Value.ref b :: argsL).toArray X₁ hg hsize hdg hW (X₁.named hnamed) (hpre vm₁ X₁.warmed) with ⟨v, B, X', hpost, hsteps⟩ | ⟨q, B, X', hpost, hsteps⟩
  · exact Or.inl ⟨v, vm₁, B, X₁.warmed, X', hpost, fun target h => hstep₁ _ fun acts => by rw [doInvoke_state]; exact hsteps.trans h⟩
  · exact Or.inr ⟨q, vm₁, B, X₁.warmed, X', hpost, hstep₁ _ fun acts => by rw [doInvoke_state]; exact hsteps⟩
theorem vx_callS (X : Stand p l e R s m args below meth c T locs cells slots) (hexec : p.tables.exec = Jvm.exec) {own : String} {index : Nat} {y : MethodName} {bytes : ByteArray} {maxL : Nat} {ret : Option FieldType}
    (hown : s.vm.findClass own = some m.cls) (hlink : (Cond.methodLink own index y).before args s = true) (hstat : (Cond.static y).before args s = true) (hinit : (Cond.initialized y.cls).before args s = true)
    (hcode : (Cond.code y bytes maxL ret).before args s = true) (hy : y.cls ≠ "java/lang/invoke/MethodHandle" ∧ y.cls ≠ "java/lang/invoke/VarHandle")
    {W9 : Nat} {Pre : Pt → Array Value → Prop} {Post : Pt → Array Value → Option Value → Pt → Prop} {PostX : Pt → Array Value → Addr → Pt → Prop} (hK : vx_Back l R p e below s args y 3 W9 Pre Post PostX)
    {g : JFrame} (hg : g.method = m) (hsize : g.locals.size = c.maxLocals) {argsL rest : List Value} (hlen : ∀ sig, parseMethodDescriptor y.desc = some sig → argsL.length = sig.parameters.length)
    (hstack : g.stack = argsL.reverse ++ rest) (hW : 2 * g.monitorRoom + (rest.map fun v => v.category).sum ≤ W9) (hdg : decode c.code g.pc = .ok (.invokestatic index, 3))
    (hpre : ∀ vm₁, s.WarmedH vm₁ → Pre ⟨T.setVm vm₁, locs, cells, slots⟩ argsL.toArray) :
    (∃ (v : Option Value) (vm₁ : Vm) (B : Pt), s.WarmedH vm₁ ∧ Stand p l e R s m args below meth c B.U B.locs B.cells B.slots ∧ Post ⟨T.setVm vm₁, locs, cells, slots⟩ argsL.toArray v B ∧
      ∀ target, Steps p.tables e below (B.U.setTop { g with pc := g.pc + 3, stack := v.toList ++ rest }) target → Steps p.tables e below (T.setTop g) target) ∨
    (∃ (q : Addr) (vm₁ : Vm) (B : Pt), s.WarmedH vm₁ ∧ Stand p l e R s m args below meth c B.U B.locs B.cells B.slots ∧ PostX ⟨T.setVm vm₁, locs, cells, slots⟩ argsL.toArray q B ∧
      Steps p.tables e below (T.setTop g) ((B.U.setTop { g with stack := rest }).pushFrame (.throwing q))) := by
  obtain ⟨mk, hnamed⟩ := Cond.code_named hcode
  obtain ⟨methM, cM, hmethM, -, -, -, -, -, -, hsigM⟩ := Cond.code_spec hnamed hcode
  have hstatic : methM.isStatic = true := Cond.static_spec hnamed hmethM hstat
  obtain ⟨kP, hkP, -⟩ := className_of_methodNamed hnamed
  have hinitP : kP.init = .initialized := Cond.initialized_spec (findClass_of_methodNamed hnamed) hkP hinit
  obtain ⟨vm₁, X₁, hstep₁⟩ := X.invokestatic hexec hown hlink hnamed hmethM hstatic hkP hinitP hy (g := g) hg (argsL := argsL) (rest := rest) (hlen _ hsigM) hstack hdg
  rcases hK m meth c ⟨T.setVm vm₁, locs, cells, slots⟩ { g with stack := rest } (.invokestatic index) mk argsL.toArray X₁ hg hsize hdg hW (X₁.named hnamed) (hpre vm₁ X₁.warmed) with ⟨v, B, X', hpost, hsteps⟩ | ⟨q, B, X', hpost, hsteps⟩
  · exact Or.inl ⟨v, vm₁, B, X₁.warmed, X', hpost, fun target h => hstep₁ _ fun acts => by rw [doInvoke_state]; exact hsteps.trans h⟩
  · exact Or.inr ⟨q, vm₁, B, X₁.warmed, X', hpost, hstep₁ _ fun acts => by rw [doInvoke_state]; exact hsteps⟩
end Calls
theorem vx_cls {s : State} {T : State} {vm₁ : Vm} {E : String} {k : ClassId} (hW : s.WarmedH vm₁) (h : (T.setVm vm₁).vm.findClass E = some k) : s.vm.findClass E = some k := by
  have h1 : vm₁.findClass E = some k := h
  rw [hW.alike.findClass] at h1
  exact h1
/-- the method's frame g, with q thrown over it -/
def vx_W (p : Program) (l : Launch) (e : Env) (R : Room) (s : State) (m : MethodId) (args : Array Value) (below : List Frame) (meth : Method) (c : Code) (H : Heap) (locs : List Loc) (cells slots : Nat) (Q : State → Prop) (g : JFrame) (q : Addr) : Prop :=
  ∀ T : State, T.heap = H → Stand p l e R s m args below meth c T locs cells slots → ∃ t, Steps p.tables e below ((T.setTop g).pushFrame (.throwing q)) t ∧ Q t
def vx_Run (p : Program) (l : Launch) (e : Env) (R : Room) (s : State) (m : MethodId) (args : Array Value) (below : List Frame) (meth : Method) (c : Code) (H : Heap) (locs : List Loc) (cells slots mc ms : Nat) (g : JFrame) (rest : List Value) (Qa : State → Outcome → State → Prop) (XC : String → State → State → Prop) (free : Addr → Prop) : Prop :=
  ∀ T : State, T.heap = H → Stand p l e R s m args below meth c T locs cells slots →
    (∃ (v : Option Value) (st₀ t T' : State) (L : List Loc), st₀.heap = H ∧ Stand p l e R s m args below meth c T' (locs ++ L) (cells + mc) (slots + ms) ∧ (∀ q ∈ L, free q.base) ∧ T'.heap = t.heap ∧ T'.vm = t.vm ∧ Qa st₀ (.returned v) t ∧
      Goes p e below T g T' { g with pc := g.pc + 3, stack := v.toList ++ rest }) ∨
    (∃ (q : Addr) (st₀ t T' : State) (L : List Loc) (E : String) (ce : Cell), st₀.heap = H ∧ Stand p l e R s m args below meth c T' (locs ++ L) (cells + mc) (slots + ms) ∧ (∀ z ∈ L, free z.base) ∧ T'.heap = t.heap ∧ T'.vm = t.vm ∧ XC E st₀ t ∧ t.heap[q]? = some ce ∧ ce.vm = .none ∧ s.vm.findClass E = some ce.cls ∧
      Steps p.tables e below (T.setTop g) ((T'.setTop { g with stack := rest }).pushFrame (.throwing q)))
def vx_X {S : Type} (px : S → Prop) (B : String → S → State → Prop) (A : Nat → Prop) : String → State → State → Prop := fun E st t => ∃ u : S, px u ∧ B E u t ∧ va_F A st t
section Runs
variable {p : Program} {l : Launch} {e : Env} {R : Room} {s : State} {m : MethodId} {args : Array Value} {below : List Frame} {meth : Method} {c : Code} {H : Heap} {locs : List Loc} {cells slots : Nat}
variable {y : MethodName} {bytes cc : ByteArray} {maxL nL mc ms n index : Nat} {ret : Option FieldType} {ws : List Cond} {rm : Room} {Pc : Array Value → State → Prop} {Qc : Array Value → State → Outcome → State → Prop} {XC : String → State → State → Prop} {free : Addr → Prop} {Ts : List Cond} {own C : String} {b : Addr} {As rest : List Value} {g : JFrame}
theorem vx_callBack (cb : CallB R s args own index y bytes maxL ret ws rm mc ms n) (hM : vx_Met l y ws rm Pc Qc XC mc ms free) (hbl : FrameBlind Pc) : vx_Back l R p e below s args y 3 8 (PreOf R mc ms Pc) (PostOf Qc mc ms free) (vx_Post XC mc ms free) := by
  obtain ⟨hrc, hrs, hfr, hlo, hws, hcw, -, hini, -⟩ := cb
  exact vx_back (bytes := bytes) (maxL := maxL) (ret := ret) hM hbl hrc hrs hfr hlo hws hcw (fun a' U hW => word_at hW (Or.inl (by first | rfl | simp [Cond.onTables, Cond.keeps, Cond.steady])) hini)
theorem vx_runV (S : CallFix p m c cc nL s args Ts own) (hM : vx_Met l y ws rm Pc Qc XC mc ms free) (cw : CallW R s args own C index y bytes maxL ret ws rm mc ms n) (hp : PreV s H C b Pc As)
    (hg : g.method = m) (hn : As.length = n) (hsize : g.locals.size = nL) (hstack : g.stack = As.reverse ++ .ref b :: rest) (hW : 2 * g.monitorRoom + (rest.map fun v => v.category).sum ≤ 8) (hdg : decode cc g.pc = .ok (.invokevirtual index, 3)) (hf : cells + mc ≤ R.cells ∧ slots + ms ≤ R.slots) :
    vx_Run p l e R s m args below meth c H locs cells slots mc ms g rest (Qc (Value.ref b :: As).toArray) XC free := by
  have hK : vx_Back l R p e below s args y 3 8 (PreOf R mc ms Pc) (PostOf Qc mc ms free) (vx_Post XC mc ms free) := vx_callBack cw.1 hM hp.1
  obtain ⟨⟨-, -, -, -, -, -, hcode, -, hy, hlen, hl⟩, hin, hse⟩ := cw
  obtain ⟨hx, hb, hml, ho, -⟩ := S
  obtain ⟨-, ⟨cellB, hcB, hoB, hclB⟩, hPc⟩ := hp
  intro T hT X
  rcases vx_callV X hx (C := C) (bytes := bytes) (maxL := maxL) (ret := ret) ho hl hin hse hcode hy hK (by rw [hT]; exact hcB) hoB hclB hg (hsize.trans hml.symm) (argsL := As) (rest := rest) (fun sig h => hn.trans (hlen sig h)) hstack hW (by rw [hb]; exact hdg)
    (fun vm₁ hW₁ => ⟨hf.1, hf.2, hPc (T.setVm vm₁) hT hW₁⟩) with ⟨v, vm₁, ⟨U', l2, c2, s2⟩, hW₁, X', ⟨g', mk, t, L, e1, e2, hq, h1, hL, h2, h3⟩, st⟩ | ⟨q, vm₁, ⟨U', l2, c2, s2⟩, hW₁, X', ⟨g', mk, t, L, E, ce, e1, e2, hq, hce, hcv, hcl, h1, hL, h2, h3⟩, st⟩
  · dsimp only [Pt.U, Pt.locs, Pt.cells, Pt.slots] at X' e1 e2 h1 h2 h3 st
    subst h1; subst h2; subst h3
    exact Or.inl ⟨v, (T.setVm vm₁).calling g' mk (Value.ref b :: As).toArray, t, U', L, hT, X', hL, e1, e2, hq, st⟩
  · dsimp only [Pt.U, Pt.locs, Pt.cells, Pt.slots] at X' e1 e2 h1 h2 h3 st hcl
    subst h1; subst h2; subst h3
    exact Or.inr ⟨q, (T.setVm vm₁).calling g' mk (Value.ref b :: As).toArray, t, U', L, E, ce, hT, X', hL, e1, e2, hq, hce, hcv, vx_cls hW₁ hcl, st⟩
theorem vx_runS (S : CallFix p m c cc nL s args Ts own) (hM : vx_Met l y ws rm Pc Qc XC mc ms free) (cw : CallB R s args own index y bytes maxL ret ws rm mc ms n ∧ (Cond.static y).before args s = true) (hp : PreS s H Pc As)
    (hg : g.method = m) (hn : As.length = n) (hsize : g.locals.size = nL) (hstack : g.stack = As.reverse ++ rest) (hW : 2 * g.monitorRoom + (rest.map fun v => v.category).sum ≤ 8) (hdg : decode cc g.pc = .ok (.invokestatic index, 3)) (hf : cells + mc ≤ R.cells ∧ slots + ms ≤ R.slots) :
    vx_Run p l e R s m args below meth c H locs cells slots mc ms g rest (Qc As.toArray) XC free := by
  have hK : vx_Back l R p e below s args y 3 8 (PreOf R mc ms Pc) (PostOf Qc mc ms free) (vx_Post XC mc ms free) := vx_callBack cw.1 hM hp.1
  obtain ⟨⟨-, -, -, -, -, -, hcode, hini, hy, hlen, hl⟩, hstt⟩ := cw
  obtain ⟨hx, hb, hml, ho, -⟩ := S
  intro T hT X
  rcases vx_callS X hx (bytes := bytes) (maxL := maxL) (ret := ret) ho hl hstt hini hcode hy hK hg (hsize.trans hml.symm) (argsL := As) (rest := rest) (fun sig h => hn.trans (hlen sig h)) hstack hW (by rw [hb]; exact hdg)
    (fun vm₁ hW₁ => ⟨hf.1, hf.2, hp.2 (T.setVm vm₁) hT hW₁⟩) with ⟨v, vm₁, ⟨U', l2, c2, s2⟩, hW₁, X', ⟨g', mk, t, L, e1, e2, hq, h1, hL, h2, h3⟩, st⟩ | ⟨q, vm₁, ⟨U', l2, c2, s2⟩, hW₁, X', ⟨g', mk, t, L, E, ce, e1, e2, hq, hce, hcv, hcl, h1, hL, h2, h3⟩, st⟩
  · dsimp only [Pt.U, Pt.locs, Pt.cells, Pt.slots] at X' e1 e2 h1 h2 h3 st
    subst h1; subst h2; subst h3
    exact Or.inl ⟨v, (T.setVm vm₁).calling g' mk As.toArray, t, U', L, hT, X', hL, e1, e2, hq, st⟩
  · dsimp only [Pt.U, Pt.locs, Pt.cells, Pt.slots] at X' e1 e2 h1 h2 h3 st hcl
    subst h1; subst h2; subst h3
    exact Or.inr ⟨q, (T.setVm vm₁).calling g' mk As.toArray, t, U', L, E, ce, hT, X', hL, e1, e2, hq, hce, hcv, vx_cls hW₁ hcl, st⟩
end Runs
section Rows
variable {p : Program} {l : Launch} {e : Env} {R : Room} {s : State} {m : MethodId} {args : Array Value} {below : List Frame} {meth : Method} {c : Code} {H : Heap} {locs : List Loc} {cells slots : Nat} {Q : State → Prop}
variable {mc ms : Nat} {free : Addr → Prop} {A0 A1 : Nat → Prop} {H0 : Heap} {a : Array Value} {pc : Nat} {ls : Array Slot} {st0 rest : List Value}
theorem vx_keep {st₀ t T' : State} {L : List Loc} (h0 : st₀.heap = H) (e1 : T'.heap = t.heap) (hS : va_S A0 H0 H locs) (hA : ∀ q, q < H.size → A1 q → A0 q) (hf : ∀ q, free q → A0 q) (hL : ∀ q ∈ L, free q.base) (hF : va_F A1 st₀ t) :
    H.size ≤ T'.heap.size ∧ (∀ q : Nat, q < H.size → ¬ A1 q → T'.heap[q]? = H[q]?) ∧ va_S A0 H0 T'.heap (locs ++ L) := by
  obtain ⟨hz, hk⟩ := hF
  rw [h0] at hz hk
  exact ⟨by rw [e1]; exact hz, fun q h1 h2 => by rw [e1]; exact hk q h1 h2,
    ⟨Nat.le_trans hS.1 (by rw [e1]; exact hz), fun q h1 h2 => by rw [e1, hk q (Nat.lt_of_lt_of_le h1 hS.1) (fun z => h2 (hA q (Nat.lt_of_lt_of_le h1 hS.1) z))]; exact hS.2.1 q h1 h2, fun q hq => by
      rcases List.mem_append.mp hq with h | h
      · exact hS.2.2 q h
      · exact hf _ (hL q h)⟩⟩
theorem vx_calli {S SX : Type} {post : Int32 → S → Prop} {px : SX → Prop} {B : S → State → Prop} {BX : String → SX → State → Prop} {AX : Nat → Prop} (hr : vx_Run p l e R s m args below meth c H locs cells slots mc ms (F0 m pc ls st0) rest (va_Qi post B A1 a) (vx_X px BX AX) free) (hS : va_S A0 H0 H locs) (hA : ∀ q, q < H.size → A1 q → A0 q) (hf : ∀ q, free q → A0 q) (hAX : ∀ q, q < H.size → AX q → A0 q)
    (kx : ∀ (E : String) (ce : Cell) (q9 : Addr) (u : SX) (t : State) (H1 : Heap) (locs1 : List Loc), t.heap = H1 → s.vm.Alike t.vm → px u → BX E u t → H.size ≤ H1.size → (∀ q : Nat, q < H.size → ¬ AX q → H1[q]? = H[q]?) → va_S A0 H0 H1 locs1 → H1[q9]? = some ce → ce.vm = .none → s.vm.findClass E = some ce.cls → vx_W p l e R s m args below meth c H1 locs1 (cells + mc) (slots + ms) Q (F0 m pc ls rest) q9)
    (kk : ∀ (r : Int32) (u : S) (t : State) (H1 : Heap) (locs1 : List Loc), t.heap = H1 → s.vm.Alike t.vm → post r u → B u t → H.size ≤ H1.size → (∀ q : Nat, q < H.size → ¬ A1 q → H1[q]? = H[q]?) → va_S A0 H0 H1 locs1 → W p l e R s m args below meth c H1 locs1 (cells + mc) (slots + ms) Q (F0 m (pc + 3) ls (.int r :: rest))) : W p l e R s m args below meth c H locs cells slots Q (F0 m pc ls st0) := by
  intro T hT X
  rcases hr T hT X with ⟨v, st₀, t, T', L, h0, X', hL, e1, e2, ⟨⟨r, u, hv, hp, hb⟩, hF⟩, st⟩ | ⟨q, st₀, t, T', L, E, ce, h0, X', hL, e1, e2, ⟨u, hp, hb, hF⟩, hce, hcv, hcl, st⟩
  · cases hv
    obtain ⟨k1, k2, k3⟩ := vx_keep h0 e1 hS hA hf hL hF
    obtain ⟨t2, a1, b1⟩ := kk r u t T'.heap (locs ++ L) e1.symm (by rw [← e2]; exact X'.warmed.alike) hp hb k1 k2 k3 T' rfl X'
    exact ⟨t2, st t2 a1, b1⟩
  · obtain ⟨k1, k2, k3⟩ := vx_keep h0 e1 hS hAX hf hL hF
    obtain ⟨t2, a1, b1⟩ := kx E ce q u t T'.heap (locs ++ L) e1.symm (by rw [← e2]; exact X'.warmed.alike) hp hb k1 k2 k3 (by rw [e1]; exact hce) hcv hcl T' rfl X'
    exact ⟨t2, st.trans a1, b1⟩
theorem vx_calll {S SX : Type} {post : Int64 → S → Prop} {px : SX → Prop} {B : S → State → Prop} {BX : String → SX → State → Prop} {AX : Nat → Prop} (hr : vx_Run p l e R s m args below meth c H locs cells slots mc ms (F0 m pc ls st0) rest (va_Ql post B A1 a) (vx_X px BX AX) free) (hS : va_S A0 H0 H locs) (hA : ∀ q, q < H.size → A1 q → A0 q) (hf : ∀ q, free q → A0 q) (hAX : ∀ q, q < H.size → AX q → A0 q)
    (kx : ∀ (E : String) (ce : Cell) (q9 : Addr) (u : SX) (t : State) (H1 : Heap) (locs1 : List Loc), t.heap = H1 → s.vm.Alike t.vm → px u → BX E u t → H.size ≤ H1.size → (∀ q : Nat, q < H.size → ¬ AX q → H1[q]? = H[q]?) → va_S A0 H0 H1 locs1 → H1[q9]? = some ce → ce.vm = .none → s.vm.findClass E = some ce.cls → vx_W p l e R s m args below meth c H1 locs1 (cells + mc) (slots + ms) Q (F0 m pc ls rest) q9)
    (kk : ∀ (r : Int64) (u : S) (t : State) (H1 : Heap) (locs1 : List Loc), t.heap = H1 → s.vm.Alike t.vm → post r u → B u t → H.size ≤ H1.size → (∀ q : Nat, q < H.size → ¬ A1 q → H1[q]? = H[q]?) → va_S A0 H0 H1 locs1 → W p l e R s m args below meth c H1 locs1 (cells + mc) (slots + ms) Q (F0 m (pc + 3) ls (.long r :: rest))) : W p l e R s m args below meth c H locs cells slots Q (F0 m pc ls st0) := by
  intro T hT X
  rcases hr T hT X with ⟨v, st₀, t, T', L, h0, X', hL, e1, e2, ⟨⟨r, u, hv, hp, hb⟩, hF⟩, st⟩ | ⟨q, st₀, t, T', L, E, ce, h0, X', hL, e1, e2, ⟨u, hp, hb, hF⟩, hce, hcv, hcl, st⟩
  · cases hv
    obtain ⟨k1, k2, k3⟩ := vx_keep h0 e1 hS hA hf hL hF
    obtain ⟨t2, a1, b1⟩ := kk r u t T'.heap (locs ++ L) e1.symm (by rw [← e2]; exact X'.warmed.alike) hp hb k1 k2 k3 T' rfl X'
    exact ⟨t2, st t2 a1, b1⟩
  · obtain ⟨k1, k2, k3⟩ := vx_keep h0 e1 hS hAX hf hL hF
    obtain ⟨t2, a1, b1⟩ := kx E ce q u t T'.heap (locs ++ L) e1.symm (by rw [← e2]; exact X'.warmed.alike) hp hb k1 k2 k3 (by rw [e1]; exact hce) hcv hcl T' rfl X'
    exact ⟨t2, st.trans a1, b1⟩
theorem vx_callf {S SX : Type} {post : UInt32 → S → Prop} {px : SX → Prop} {B : S → State → Prop} {BX : String → SX → State → Prop} {AX : Nat → Prop} (hr : vx_Run p l e R s m args below meth c H locs cells slots mc ms (F0 m pc ls st0) rest (va_Qf post B A1 a) (vx_X px BX AX) free) (hS : va_S A0 H0 H locs) (hA : ∀ q, q < H.size → A1 q → A0 q) (hf : ∀ q, free q → A0 q) (hAX : ∀ q, q < H.size → AX q → A0 q)
    (kx : ∀ (E : String) (ce : Cell) (q9 : Addr) (u : SX) (t : State) (H1 : Heap) (locs1 : List Loc), t.heap = H1 → s.vm.Alike t.vm → px u → BX E u t → H.size ≤ H1.size → (∀ q : Nat, q < H.size → ¬ AX q → H1[q]? = H[q]?) → va_S A0 H0 H1 locs1 → H1[q9]? = some ce → ce.vm = .none → s.vm.findClass E = some ce.cls → vx_W p l e R s m args below meth c H1 locs1 (cells + mc) (slots + ms) Q (F0 m pc ls rest) q9)
    (kk : ∀ (r : UInt32) (u : S) (t : State) (H1 : Heap) (locs1 : List Loc), t.heap = H1 → s.vm.Alike t.vm → post r u → B u t → H.size ≤ H1.size → (∀ q : Nat, q < H.size → ¬ A1 q → H1[q]? = H[q]?) → va_S A0 H0 H1 locs1 → W p l e R s m args below meth c H1 locs1 (cells + mc) (slots + ms) Q (F0 m (pc + 3) ls (.float r :: rest))) : W p l e R s m args below meth c H locs cells slots Q (F0 m pc ls st0) := by
  intro T hT X
  rcases hr T hT X with ⟨v, st₀, t, T', L, h0, X', hL, e1, e2, ⟨⟨r, u, hv, hp, hb⟩, hF⟩, st⟩ | ⟨q, st₀, t, T', L, E, ce, h0, X', hL, e1, e2, ⟨u, hp, hb, hF⟩, hce, hcv, hcl, st⟩
  · cases hv
    obtain ⟨k1, k2, k3⟩ := vx_keep h0 e1 hS hA hf hL hF
    obtain ⟨t2, a1, b1⟩ := kk r u t T'.heap (locs ++ L) e1.symm (by rw [← e2]; exact X'.warmed.alike) hp hb k1 k2 k3 T' rfl X'
    exact ⟨t2, st t2 a1, b1⟩
  · obtain ⟨k1, k2, k3⟩ := vx_keep h0 e1 hS hAX hf hL hF
    obtain ⟨t2, a1, b1⟩ := kx E ce q u t T'.heap (locs ++ L) e1.symm (by rw [← e2]; exact X'.warmed.alike) hp hb k1 k2 k3 (by rw [e1]; exact hce) hcv hcl T' rfl X'
    exact ⟨t2, st.trans a1, b1⟩
theorem vx_calld {S SX : Type} {post : UInt64 → S → Prop} {px : SX → Prop} {B : S → State → Prop} {BX : String → SX → State → Prop} {AX : Nat → Prop} (hr : vx_Run p l e R s m args below meth c H locs cells slots mc ms (F0 m pc ls st0) rest (va_Qd post B A1 a) (vx_X px BX AX) free) (hS : va_S A0 H0 H locs) (hA : ∀ q, q < H.size → A1 q → A0 q) (hf : ∀ q, free q → A0 q) (hAX : ∀ q, q < H.size → AX q → A0 q)
    (kx : ∀ (E : String) (ce : Cell) (q9 : Addr) (u : SX) (t : State) (H1 : Heap) (locs1 : List Loc), t.heap = H1 → s.vm.Alike t.vm → px u → BX E u t → H.size ≤ H1.size → (∀ q : Nat, q < H.size → ¬ AX q → H1[q]? = H[q]?) → va_S A0 H0 H1 locs1 → H1[q9]? = some ce → ce.vm = .none → s.vm.findClass E = some ce.cls → vx_W p l e R s m args below meth c H1 locs1 (cells + mc) (slots + ms) Q (F0 m pc ls rest) q9)
    (kk : ∀ (r : UInt64) (u : S) (t : State) (H1 : Heap) (locs1 : List Loc), t.heap = H1 → s.vm.Alike t.vm → post r u → B u t → H.size ≤ H1.size → (∀ q : Nat, q < H.size → ¬ A1 q → H1[q]? = H[q]?) → va_S A0 H0 H1 locs1 → W p l e R s m args below meth c H1 locs1 (cells + mc) (slots + ms) Q (F0 m (pc + 3) ls (.double r :: rest))) : W p l e R s m args below meth c H locs cells slots Q (F0 m pc ls st0) := by
  intro T hT X
  rcases hr T hT X with ⟨v, st₀, t, T', L, h0, X', hL, e1, e2, ⟨⟨r, u, hv, hp, hb⟩, hF⟩, st⟩ | ⟨q, st₀, t, T', L, E, ce, h0, X', hL, e1, e2, ⟨u, hp, hb, hF⟩, hce, hcv, hcl, st⟩
  · cases hv
    obtain ⟨k1, k2, k3⟩ := vx_keep h0 e1 hS hA hf hL hF
    obtain ⟨t2, a1, b1⟩ := kk r u t T'.heap (locs ++ L) e1.symm (by rw [← e2]; exact X'.warmed.alike) hp hb k1 k2 k3 T' rfl X'
    exact ⟨t2, st t2 a1, b1⟩
  · obtain ⟨k1, k2, k3⟩ := vx_keep h0 e1 hS hAX hf hL hF
    obtain ⟨t2, a1, b1⟩ := kx E ce q u t T'.heap (locs ++ L) e1.symm (by rw [← e2]; exact X'.warmed.alike) hp hb k1 k2 k3 (by rw [e1]; exact hce) hcv hcl T' rfl X'
    exact ⟨t2, st.trans a1, b1⟩
theorem vx_callv {S SX : Type} {post : S → Prop} {px : SX → Prop} {B : S → State → Prop} {BX : String → SX → State → Prop} {AX : Nat → Prop} (hr : vx_Run p l e R s m args below meth c H locs cells slots mc ms (F0 m pc ls st0) rest (va_Qv post B A1 a) (vx_X px BX AX) free) (hS : va_S A0 H0 H locs) (hA : ∀ q, q < H.size → A1 q → A0 q) (hf : ∀ q, free q → A0 q) (hAX : ∀ q, q < H.size → AX q → A0 q)
    (kx : ∀ (E : String) (ce : Cell) (q9 : Addr) (u : SX) (t : State) (H1 : Heap) (locs1 : List Loc), t.heap = H1 → s.vm.Alike t.vm → px u → BX E u t → H.size ≤ H1.size → (∀ q : Nat, q < H.size → ¬ AX q → H1[q]? = H[q]?) → va_S A0 H0 H1 locs1 → H1[q9]? = some ce → ce.vm = .none → s.vm.findClass E = some ce.cls → vx_W p l e R s m args below meth c H1 locs1 (cells + mc) (slots + ms) Q (F0 m pc ls rest) q9)
    (kk : ∀ (u : S) (t : State) (H1 : Heap) (locs1 : List Loc), t.heap = H1 → s.vm.Alike t.vm → post u → B u t → H.size ≤ H1.size → (∀ q : Nat, q < H.size → ¬ A1 q → H1[q]? = H[q]?) → va_S A0 H0 H1 locs1 → W p l e R s m args below meth c H1 locs1 (cells + mc) (slots + ms) Q (F0 m (pc + 3) ls (rest))) : W p l e R s m args below meth c H locs cells slots Q (F0 m pc ls st0) := by
  intro T hT X
  rcases hr T hT X with ⟨v, st₀, t, T', L, h0, X', hL, e1, e2, ⟨⟨u, hv, hp, hb⟩, hF⟩, st⟩ | ⟨q, st₀, t, T', L, E, ce, h0, X', hL, e1, e2, ⟨u, hp, hb, hF⟩, hce, hcv, hcl, st⟩
  · cases hv
    obtain ⟨k1, k2, k3⟩ := vx_keep h0 e1 hS hA hf hL hF
    obtain ⟨t2, a1, b1⟩ := kk u t T'.heap (locs ++ L) e1.symm (by rw [← e2]; exact X'.warmed.alike) hp hb k1 k2 k3 T' rfl X'
    exact ⟨t2, st t2 a1, b1⟩
  · obtain ⟨k1, k2, k3⟩ := vx_keep h0 e1 hS hAX hf hL hF
    obtain ⟨t2, a1, b1⟩ := kx E ce q u t T'.heap (locs ++ L) e1.symm (by rw [← e2]; exact X'.warmed.alike) hp hb k1 k2 k3 (by rw [e1]; exact hce) hcv hcl T' rfl X'
    exact ⟨t2, st.trans a1, b1⟩
/-- caught by the row x of this method's table; the rows ahead don't take it -/
theorem vx_catch {own name : String} {E : String} {ce : Cell} {q : Addr} (hown : s.vm.findClass own = some m.cls) (pre : List ExceptionTableEntry) (x : ExceptionTableEntry) (suf : List ExceptionTableEntry) (hsplit : c.exceptionTable.toList = pre ++ x :: suf)
    (hpass : ∀ z ∈ pre, covers z pc = false ∨ (z.catchType ≠ 0 ∧ ∃ nm : String, (Cond.classLink own z.catchType nm).before args s = true ∧ va_Nc E nm s)) (hx : covers x pc = true) (h0 : x.catchType ≠ 0)
    (hlink : (Cond.classLink own x.catchType name).before args s = true) (hcast : (Cond.castable E name).before args s = true) (hcell : H[q]? = some ce) (hv : ce.vm = .none) (hcl : s.vm.findClass E = some ce.cls)
    (kk : W p l e R s m args below meth c H locs cells slots Q (F0 m x.handlerPc ls [.ref q])) : vx_W p l e R s m args below meth c H locs cells slots Q (F0 m pc ls rest) q := by
  intro T hT X
  have hpl : e.platform.magicAccessors = ({} : Platform).magicAccessors := by rw [X.admits.platform]
  obtain ⟨c3, c4, hc3, hc4, hasg⟩ := Cond.castable_spec hcast
  cases Option.some.inj (hc3.symm.trans hcl)
  obtain ⟨c5, hc5, hcl5⟩ := Cond.classLink_spec hown hlink e.platform hpl
  cases Option.some.inj (hc4.symm.trans hc5)
  obtain ⟨vm', X', st⟩ := X.thenCaughtThrough q (g := F0 m pc ls rest) rfl (Steps.refl _) (by rw [hT]; exact hcell) (by rw [hv]; rfl) (by obtain ⟨k9, h9, -⟩ := Vm.findClass_spec hcl; exact ⟨k9, h9⟩) pre x suf hsplit
    (fun z hz => by
      rcases hpass z hz with h | ⟨hz0, nm, hl1, hn1⟩
      · exact Or.inl h
      · obtain ⟨c6, hc6, hcl6⟩ := Cond.classLink_spec hown hl1 e.platform hpl
        obtain ⟨a8, b8, h1, h2, h3⟩ := hn1
        cases Option.some.inj (h1.symm.trans hcl)
        cases Option.some.inj (h2.symm.trans hc6)
        exact Or.inr ⟨hz0, _, hcl6, h3⟩) hx (Or.inr ⟨h0, c4, hcl5, hasg⟩)
  obtain ⟨t, a1, b1⟩ := kk (T.setVm vm') hT X'
  exact ⟨t, st.trans a1, b1⟩
end Rows
section Ends
variable {p : Program} {l : Launch} {e : Env} {R : Room} {s : State} {m : MethodId} {args : Array Value} {below : List Frame} {meth : Method} {c : Code} {H : Heap} {locs : List Loc} {cells slots : Nat} {Q : State → Prop}
variable {mc ms : Nat} {free : Addr → Prop} {A0 A1 : Nat → Prop} {H0 : Heap} {a : Array Value} {ls : Array Slot} {st0 rest : List Value}
variable {Qc : Array Value → State → Outcome → State → Prop} {XC : String → State → State → Prop}
/-- what a body that may throw owes at its end -/
def vx_MQ (below : List Frame) (Qc : Array Value → State → Outcome → State → Prop) (XC : String → State → State → Prop) (a : Array Value) (s : State) (mc ms : Nat) (free : Addr → Prop) : State → Prop := fun t =>
  ∃ o, t.status = .running ∧ Ended t below o ∧ vx_Q Qc XC mc ms free a s o t
theorem vx_ret {g : JFrame} {mc ms : Nat} (k : W p l e R s m args below meth c H locs cells slots (MQ below Qc args s mc ms free) g) : W p l e R s m args below meth c H locs cells slots (vx_MQ below Qc XC args s mc ms free) g := by
  intro T hT X
  obtain ⟨t, a1, o, b1, b2, b3, b4⟩ := k T hT X
  exact ⟨t, a1, o, b1, b2, Or.inl ⟨b3, b4⟩⟩
/-- not caught here: it goes on to the caller -/
theorem vx_widen {g : JFrame} {q : Addr} {k n : Nat} (h1 : cells ≤ k) (h2 : slots ≤ n) (kk : vx_W p l e R s m args below meth c H locs k n Q g q) : vx_W p l e R s m args below meth c H locs cells slots Q g q := fun T hT X => kk T hT (stand_widen X h1 h2)
theorem vx_out {pc : Nat} {E : String} {ce : Cell} {q : Addr} {mc ms : Nat} (hout : ∀ x ∈ c.exceptionTable.toList, covers x pc = false) (hlocks : meth.locks = false) (hcell : H[q]? = some ce) (hv : ce.vm = .none) (hcl : s.vm.findClass E = some ce.cls)
    (hx : ∀ t : State, t.heap = H → s.vm.Alike t.vm → XC E s t) (hf : ∀ z ∈ locs, free z.base) (hc : cells ≤ mc) (hs : slots ≤ ms) :
    vx_W p l e R s m args below meth c H locs cells slots (vx_MQ below Qc XC args s mc ms free) (F0 m pc ls rest) q := by
  intro T hT X
  obtain ⟨st1, hrun, hend, hW, hsm⟩ := X.leaveThrown q (g := F0 m pc ls rest) rfl rfl rfl hout hlocks
  have hcell9 : (T.setFrames (.throwing q :: below)).heap[q]? = some ce := by
    show T.heap[q]? = some ce
    rw [hT]; exact hcell
  exact ⟨_, st1, .threw q, hrun, hend, Or.inr ⟨q, rfl, E, ce, locs, hx _ hT hW.alike, hcell9, hv, hcl, hW, hsm.mono hc hs, hf⟩⟩
theorem vx_frame {U : State} {k n : Nat} (h : s.sameButNew ({ U with vm := s.vm } : State) locs k n) : s.heap.size ≤ U.heap.size ∧ ∀ q : Nat, q < s.heap.size → (∀ z ∈ locs, z.base ≠ q) → U.heap[q]? = s.heap[q]? := by
  obtain ⟨-, h2, -, -, -, h6⟩ := h
  refine ⟨h2, fun q hq hz => ?_⟩
  obtain ⟨c9, e1, e2, e3, e4⟩ := h6 q _ (Array.getElem?_eq_getElem hq)
  have hs : c9.slots = (s.heap[q]).slots := Array.ext_getElem? fun i => e4 i fun hm => hz _ hm rfl
  have h9 : c9 = s.heap[q] := by
    rw [hs] at e2
    exact e2
  have e5 : U.heap[q]? = some c9 := e1
  rw [e5, h9, Array.getElem?_eq_getElem hq]
/-- the words of a throw but the four that speak of the heap -/
def vx_no (w : Cond) : Bool := decide (w ≠ .isRef (.static Bundle.tN "UNASSIGNED_STACK" Bundle.steD)) && decide (w ≠ .isRef (.static Bundle.tN "SUPPRESSED_SENTINEL" Bundle.listD)) && decide (w ≠ .laysStatic Bundle.tN "UNASSIGNED_STACK" Bundle.steD) && decide (w ≠ .laysStatic Bundle.tN "SUPPRESSED_SENTINEL" Bundle.listD)
def vx_at0 (own : String) (ic : Nat) (X : String) (names : List String) : List Cond := (Bundle.ownAtoms0 own ic X names).filter vx_no
def vx_atS (own : String) (ic : Nat) (X : String) (names : List String) : List Cond := (Bundle.ownAtoms own ic X names).filter vx_no
/-- a word that the tables alone decide, or a good one -/
def vx_ot (w : Cond) : Bool := w.onTables || goodWord w
theorem vx_ot_at {args a' : Array Value} {s U : State} {w : Cond} (hW : s.WarmedH U.vm) (hvm : s.vm = U.vm) (hg : vx_ot w = true) (h : w.before args s = true) : w.before a' U = true := by
  simp only [vx_ot, Bool.or_eq_true] at hg
  rcases hg with hg | hg
  · exact va_tabs hg hvm h
  · exact word_at hW (good_of_word hg) h
/-- a list's words: the good ones out of the method's own list, the others by premises of their own -/
theorem vx_hat {args : Array Value} {s : State} {L B : List Cond} (h1 : ∀ w ∈ L.filter goodWord, w.before args s = true) (h2 : ∀ w ∈ L.filter (fun w => !goodWord w), w ∈ B) (h3 : ∀ w ∈ B, w.before args s = true) : ∀ w ∈ L, w.before args s = true := by
  intro w hw
  by_cases g : goodWord w = true
  · exact h1 w (List.mem_filter.mpr ⟨hw, g⟩)
  · refine h3 w (h2 w (List.mem_filter.mpr ⟨hw, ?_⟩))
    show (!goodWord w) = true
    cases hgw : goodWord w
    · rfl
    · exact absurd hgw g
theorem vx_c {args : Array Value} {s : State} {w : Cond} {B : List Cond} (h : w.before args s = true) (t : ∀ w ∈ B, w.before args s = true) : ∀ w' ∈ w :: B, w'.before args s = true := fun w' h' => (List.mem_cons.mp h').elim (fun e => by rw [e]; exact h) (t w')
theorem vx_n {args : Array Value} {s : State} : ∀ w ∈ ([] : List Cond), w.before args s = true := fun _ h => nomatch h
theorem vx_own {args : Array Value} {s : State} {L : List Cond} (h1 : ∀ w ∈ L.filter vx_no, w.before args s = true)
    (hU : (Cond.isRef (.static Bundle.tN "UNASSIGNED_STACK" Bundle.steD)).before args s = true) (hN : (Cond.isRef (.static Bundle.tN "SUPPRESSED_SENTINEL" Bundle.listD)).before args s = true)
    (lU : (Cond.laysStatic Bundle.tN "UNASSIGNED_STACK" Bundle.steD).before args s = true) (lN : (Cond.laysStatic Bundle.tN "SUPPRESSED_SENTINEL" Bundle.listD).before args s = true) : ∀ w ∈ L, w.before args s = true := by
  intro w hw
  by_cases e1 : w = .isRef (.static Bundle.tN "UNASSIGNED_STACK" Bundle.steD)
  · rw [e1]; exact hU
  · by_cases e2 : w = .isRef (.static Bundle.tN "SUPPRESSED_SENTINEL" Bundle.listD)
    · rw [e2]; exact hN
    · by_cases e3 : w = .laysStatic Bundle.tN "UNASSIGNED_STACK" Bundle.steD
      · rw [e3]; exact lU
      · by_cases e4 : w = .laysStatic Bundle.tN "SUPPRESSED_SENTINEL" Bundle.listD
        · rw [e4]; exact lN
        · exact h1 w (List.mem_filter.mpr ⟨hw, by unfold vx_no; rw [decide_eq_true e1, decide_eq_true e2, decide_eq_true e3, decide_eq_true e4]; rfl⟩)
/-- where a static field lies, its class's statics cell in H -/
def vx_L (C n d : String) (A : Nat → Prop) (U : State) (H : Heap) : Prop := ∃ (c : ClassId) (k : Class) (i : Nat) (f : Field) (a : Nat) (cell : Cell), U.vm.findClass C = some c ∧ U.fieldFound? C n d = some (c, k, i, f) ∧ f.isStatic = true ∧ k.statics = some a ∧ H[a]? = some cell ∧ cell.vm.isStatics = true ∧ cell.cls = c ∧ f.slot < cell.slots.size ∧ k.staticTypes[f.slot]? = some f.type ∧ ¬ A a
theorem vx_L.moved {C n d : String} {A : Nat → Prop} {u U : State} {H : Heap} (hvm : u.vm.Alike U.vm) (h : vx_L C n d A u H) : vx_L C n d A U H := by
  obtain ⟨c, k, i, f, a, cell, h1, h2, h3, h4, h5, h6, h7, h8, h9, h10⟩ := h
  obtain ⟨k', hi', he⟩ := State.fieldFound?_setVm hvm h2
  exact ⟨c, k', i, f, a, cell, by rw [hvm.findClass]; exact h1, hi', h3, by rw [he]; exact h4, h5, h6, h7, h8, by rw [he]; exact h9, h10⟩
theorem vx_L.kept {C n d : String} {A : Nat → Prop} {U : State} {H H1 : Heap} (h : vx_L C n d A U H) (hq : ∀ a : Nat, a < H.size → ¬ A a → H1[a]? = H[a]?) : vx_L C n d A U H1 := by
  obtain ⟨c, k, i, f, a, cell, h1, h2, h3, h4, h5, h6, h7, h8, h9, h10⟩ := h
  exact ⟨c, k, i, f, a, cell, h1, h2, h3, h4, by rw [hq a (Array.getElem?_eq_some_iff.mp h5).1 h10]; exact h5, h6, h7, h8, h9, h10⟩
theorem vx_L.narrow {C n d : String} {A B : Nat → Prop} {U : State} {H : Heap} (h : vx_L C n d A U H) (hAB : ∀ q, B q → A q) : vx_L C n d B U H := by
  obtain ⟨c, k, i, f, a, cell, h1, h2, h3, h4, h5, h6, h7, h8, h9, h10⟩ := h
  exact ⟨c, k, i, f, a, cell, h1, h2, h3, h4, h5, h6, h7, h8, h9, fun z => h10 (hAB _ z)⟩
theorem vx_L.word {C n d : String} {A : Nat → Prop} {s : State} {args : Array Value} (h : vx_L C n d A s s.heap) : (Cond.laysStatic C n d).before args s = true := by
  obtain ⟨c, k, i, f, a, cell, h1, h2, h3, h4, h5, h6, h7, h8, h9, -⟩ := h
  show (Cond.laysStatic C n d).holds args s none s [] = true
  exact Cond.laysStatic_of h1 h2 h3 h4 h5 h6 h7 h8 h9
/-- .. and what it holds: null or some reference -/
def vx_Zq (C n d : String) (A : Nat → Prop) (U : State) (H : Heap) : Prop := va_Zq C n d A U H ∧ vx_L C n d A U H
theorem vx_Zq.moved {C n d : String} {A : Nat → Prop} {u U : State} {H : Heap} (hvm : u.vm.Alike U.vm) (h : vx_Zq C n d A u H) : vx_Zq C n d A U H := ⟨va_Zq.moved hvm h.1, vx_L.moved hvm h.2⟩
theorem vx_Zq.kept {C n d : String} {A : Nat → Prop} {U : State} {H H1 : Heap} (h : vx_Zq C n d A U H) (hq : ∀ a : Nat, a < H.size → ¬ A a → H1[a]? = H[a]?) : vx_Zq C n d A U H1 := ⟨va_Zq.kept h.1 hq, vx_L.kept h.2 hq⟩
theorem vx_Zq.narrow {C n d : String} {A B : Nat → Prop} {U : State} {H : Heap} (h : vx_Zq C n d A U H) (hAB : ∀ q, B q → A q) : vx_Zq C n d B U H := ⟨va_Zq.narrow h.1 hAB, vx_L.narrow h.2 hAB⟩
theorem vx_Zqof {args : Array Value} {s : State} {C n d : String} {A : Nat → Prop} (hl : (Cond.laysStatic C n d).before args s = true) (hini : (Cond.initialized C).before args s = true) (h : (Cond.isRef (.static C n d)).before args s = true) (hA : ∀ a : Nat, a < s.heap.size → ¬ A a) : vx_Zq C n d A s s.heap := by
  refine ⟨va_Zqof hl hini h hA, ?_⟩
  obtain ⟨c, k, i, f, a, cell, h1, h2, h3, h4, h5, h6, h7, h8, h9⟩ := Cond.laysStatic_spec hl
  exact ⟨c, k, i, f, a, cell, h1, h2, h3, h4, h5, h6, h7, h8, h9, hA a (Array.getElem?_eq_some_iff.mp h5).1⟩
theorem vx_isRef {C n d : String} {v : Value} {A : Nat → Prop} {s : State} {args : Array Value} (h : va_Z C n d v A s s.heap) (hv : v.isRef = true) : (Cond.isRef (.static C n d)).before args s = true := by
  obtain ⟨cf, kf, fi, f, a, cell, h1, h2, h3, h4, h5, h6, h7, -⟩ := h
  have he : (Term.static C n d).eval args s none [] s = some v := by
    simp [Term.eval, State.fieldNamed?, h1, h2, h4, h5, h6, h7]
  simp only [Cond.before, Cond.holds, Cond.value, he]
  cases v <;> simp_all [Value.isRef]
theorem vx_isRefq {C n d : String} {A : Nat → Prop} {s : State} {args : Array Value} (h : va_Zq C n d A s s.heap) : (Cond.isRef (.static C n d)).before args s = true := by
  rcases h with h | ⟨t, h⟩
  · exact vx_isRef h rfl
  · exact vx_isRef h rfl
/-- the same frame, seen from here: as if the method were called anew in this heap -/
theorem vx_rebase {T : State} (X : Stand p l e R s m args below meth c T locs cells slots) {R' : Room} (hf : R'.frames ≤ R.frames) (hl : R'.locals ≤ R.locals) (hc : cells + R'.cells ≤ R.cells) (hs : slots + R'.slots ≤ R.slots) :
    Stand p l e R' ((T.setVm s.vm).setFrames (.invoking m args :: below)) m args below meth c T [] 0 0 := by
  have htop : (T.setVm s.vm).topJava?.isSome := X.here.top
  have hF : ((T.setVm s.vm).setFrames (.invoking m args :: below)).frames = .invoking m args :: below := State.frames_setFrames _ (State.cur_lt_of_top htop)
  obtain ⟨g₀, hg0⟩ := Option.isSome_iff_exists.mp htop
  obtain ⟨r, hr⟩ := State.topJava?_eq_some.mp hg0
  have hl9 : e.platform.stackLimits (T.setVm s.vm).me = e.platform.stackLimits s.me := X.limits
  have hb9 : (T.setVm s.vm).me.stackBytes = s.me.stackBytes := X.bytes
  refine ⟨X.admits, X.cas, X.clock, hF, ?_, X.hears, X.method, X.code, X.here, X.tail, X.warmed, ?_, ?_, ?_⟩
  · have h := X.room
    have hU : ((T.setVm s.vm).setFrames (.invoking m args :: below)).localsInUse = s.localsInUse := by
      rw [State.localsInUse_invoking hF (meth := meth) (c := c) X.method X.code, State.localsInUse_invoking X.frames X.method X.code]
    simp only [State.hasRoom, Bool.and_eq_true, decide_eq_true_eq] at h ⊢
    obtain ⟨⟨⟨⟨h1, h2, h3, h4, h5, h6⟩, h7⟩, h8⟩, h9⟩ := h
    rw [X.frames, List.length_cons] at h2 h3
    have q1 := X.heapSize
    have q2 := X.used
    simp only [hF, hU, List.length_cons, State.stackLimits_setFrames, State.stackBytes_setFrames, hl9, hb9]
    refine ⟨⟨⟨⟨by omega, by omega, by omega, by omega, by omega, h6⟩, ?_⟩, ?_⟩, X.book⟩
    · show T.heap.size + R'.cells ≤ e.platform.maxCells
      omega
    · show T.slotsUsed + R'.slots ≤ e.platform.maxSlots
      omega
  · rw [State.stackLimits_setFrames]; rfl
  · rw [State.stackBytes_setFrames]; rfl
  · refine ⟨?_, Nat.le_refl _, Nat.le_refl _, ?_, ?_, fun a c9 h9 => ⟨c9, h9, rfl, rfl, fun _ _ => rfl⟩⟩
    · obtain ⟨t, ht, -⟩ := State.frames_cons hr
      show T.setVm s.vm = { ((T.setVm s.vm).setFrames (.invoking m args :: below)).setFrames (T.setVm s.vm).frames with heap := T.heap, slotsUsed := T.slotsUsed }
      rw [State.setFrames_setFrames, State.setFrames_self ht]
      rfl
    · show T.slotsUsed = T.slotsUsed + ((T.heap.toList.drop T.heap.size).map (·.slots.size)).sum
      rw [List.drop_eq_nil_of_le (Nat.le_of_eq Array.length_toList)]
      rfl
    · show ((T.heap.toList.drop T.heap.size).map (·.slots.size)).sum ≤ 0
      rw [List.drop_eq_nil_of_le (Nat.le_of_eq Array.length_toList)]
      exact Nat.le_refl _
/-- 'throw new E()': new; dup; invokespecial; athrow -/
theorem vx_throw0 {cc : ByteArray} {pc : Nat} (hexec : p.tables.exec = Jvm.exec) (hb : c.code = cc) (hl : l.stackTraces = false) {own cls : String} {names : List String} {ik ic mc ms : Nat} {A : Nat → Prop}
    (hown : s.vm.findClass own = some m.cls) (hcls : Bundle.fit cls = true) (hnames : ∀ n ∈ names, Bundle.fit n = true)
    (hk : (Cond.classLink own ik cls).before args s = true) (hini : (Cond.initialized cls).before args s = true) (hat : ∀ w ∈ vx_at0 own ic cls names, w.before args s = true)
    (hgood : ∀ w ∈ Cond.classLink own ik cls :: Cond.initialized cls :: vx_at0 own ic cls names, vx_ot w = true)
    (hU : vx_Zq Bundle.tN "UNASSIGNED_STACK" Bundle.steD A s s.heap) (hN : vx_Zq Bundle.tN "SUPPRESSED_SENTINEL" Bundle.listD A s s.heap) (hS : va_S A s.heap H locs) (hsize : ls.size = c.maxLocals)
    (d0 : decode cc pc = .ok (.new ik, 3)) (d3 : decode cc (pc + 3) = .ok (.dup, 1)) (d4 : decode cc (pc + 4) = .ok (.invokespecial ic, 3)) (d7 : decode cc (pc + 7) = .ok (.athrow, 1))
    (hout : ∀ x ∈ c.exceptionTable.toList, covers x (pc + 7) = false)
    (hRframes : names.length + 3 < R.frames) (hRlocals : (rest.map fun v => v.category).sum + (13 * (names.length + 1) + 42) ≤ R.locals) (hRcells : cells + 1 ≤ R.cells) (hRslots : slots + 6 ≤ R.slots) (hlocks : meth.locks = false)
    (hx : ∀ t : State, s.vm.Alike t.vm → H.size ≤ t.heap.size → (∀ q : Nat, q < H.size → t.heap[q]? = H[q]?) → XC cls s t)
    (hf : ∀ z ∈ locs, free z.base) (hc : cells + 1 ≤ mc) (hs : slots + 6 ≤ ms) :
    W p l e R s m args below meth c H locs cells slots (vx_MQ below Qc XC args s mc ms free) (F0 m pc ls rest) := by
  intro T hT X
  have htr : e.platform.stackTraces = false := (show e.platform.stackTraces = l.stackTraces by rw [X.admits.platform]).trans hl
  have Y := vx_rebase X (R' := { frames := R.frames, locals := R.locals, cells := 1, slots := 6 }) (Nat.le_refl _) (Nat.le_refl _) hRcells hRslots
  obtain ⟨s', hA⟩ : ∃ z, z = (T.setVm s.vm).setFrames (.invoking m args :: below) := ⟨_, rfl⟩
  rw [← hA] at Y
  have hvm : s'.vm = s.vm := by rw [hA]; rfl
  have hhp : s'.heap = H := by rw [hA]; exact hT
  have hW0 : s.WarmedH s'.vm := by rw [hvm]; exact State.WarmedH.refl s
  have hat' : ∀ w ∈ vx_at0 own ic cls names, w.before args s' = true := fun w hw => vx_ot_at hW0 hvm.symm (hgood w (List.mem_cons_of_mem _ (List.mem_cons_of_mem _ hw))) (hat w hw)
  have hk' : (Cond.classLink own ik cls).before args s' = true := vx_ot_at hW0 hvm.symm (hgood _ List.mem_cons_self) hk
  have hini' : (Cond.initialized cls).before args s' = true := vx_ot_at hW0 hvm.symm (hgood _ (List.mem_cons_of_mem _ List.mem_cons_self)) hini
  have hU' : vx_Zq Bundle.tN "UNASSIGNED_STACK" Bundle.steD A s' s'.heap := by rw [hhp]; exact vx_Zq.moved hW0.alike (hU.kept hS.2.1)
  have hN' : vx_Zq Bundle.tN "SUPPRESSED_SENTINEL" Bundle.listD A s' s'.heap := by rw [hhp]; exact vx_Zq.moved hW0.alike (hN.kept hS.2.1)
  have h : ∀ w ∈ Bundle.ownAtoms0 own ic cls names, w.before args s' = true := vx_own hat' (vx_isRefq hU'.1) (vx_isRefq hN'.1) hU'.2.word hN'.2.word
  have hown' : s'.vm.findClass own = some m.cls := by rw [hvm]; exact hown
  have hins : (Cond.instantiable cls 6).before args s' = true := h _ (by simp [Bundle.ownAtoms0])
  obtain ⟨vm₁, cX, kX, hfX, hkX, -, -, X₁, st1⟩ := Y.newCold hexec (own := own) (C := cls) (index := ik) (n := 6) hown' hk' hins hini'
    (g := F0 m pc ls rest) rfl (by rw [hb]; exact d0) (Nat.le_refl _) (Nat.le_refl _)
  generalize hT1 : (T.setVm vm₁).pushCell { cls := cX, slots := kX.instanceTypes.map defaultValue, vm := .none } = T1 at X₁ st1
  have hcat : (Value.ref T.heap.size).category = 1 := rfl
  have hcellA : T1.heap[T.heap.size]? = some (freshCell cX kX) := by rw [← hT1]; exact State.heap_pushCell_size _ _
  have d3' : decode c.code (pc + 3) = .ok (.dup, 1) := by rw [hb]; exact d3
  obtain ⟨U, hsteps, hrun, hend, hW, hsame, ce, hce, hO⟩ := X₁.ctorThrow0 hexec htr (own := own) (cls := cls) (names := names) (ic := ic) hown' hcls hnames h (fun x hx => nomatch hx) hfX hkX hcellA (by rw [hhp, hT]; exact Nat.le_refl _)
    (g := { method := m, pc := pc + 4, locals := ls, stack := .ref T.heap.size :: .ref T.heap.size :: rest, locked := none }) rfl hsize rfl rfl (rest := rest) rfl
    (by rw [hb]; exact d4) (by rw [hb]; exact d7) hout hRframes (by simp only [List.map_cons, List.sum_cons, hcat]; omega) hlocks
  obtain ⟨f1, f2⟩ := vx_frame hsame
  rw [hhp] at f1 f2
  have hWs : s.WarmedH U.vm := State.WarmedH.trans hW0 hW
  have hcl : s.vm.findClass cls = some ce.cls := by
    have h9 := hO.cls
    rw [hvm] at h9
    exact h9
  have hall : s.sameButNew ({ U with vm := s.vm } : State) locs mc ms := by
    subst hA
    obtain ⟨e1, e2⟩ := hsame
    rw [State.setFrames_setFrames] at e1
    have h2 : (T.setVm s.vm).sameButNew ({ U with vm := s.vm } : State) [] (0 + 1) (0 + 6) := ⟨e1, e2⟩
    have h3 := X.same.trans h2
    rw [List.append_nil] at h3
    exact h3.mono hc hs
  refine ⟨U, ?_, .threw T.heap.size, hrun, hend, Or.inr ⟨T.heap.size, rfl, cls, ce, locs, hx U hWs.alike f1 (fun q hq => f2 q hq (fun z hz => nomatch hz)), hce, hO.vm, hcl, hWs, hall, hf⟩⟩
  refine st1 _ ?_
  show Steps p.tables e below (T1.setTop { method := m, pc := pc + 3, locals := ls, stack := .ref T.heap.size :: rest, locked := none }) _
  jvm_step X₁.here [X₁.here.top, hexec, d3', Value.category]
  exact hsteps
/-- 'throw new E("text")': new; dup; ldc; invokespecial; athrow -/
theorem vx_throwS {cc : ByteArray} {pc : Nat} (hexec : p.tables.exec = Jvm.exec) (hb : c.code = cc) (hl : l.stackTraces = false) {own cls text : String} {names : List String} {ik is ic mc ms sa : Nat} {A : Nat → Prop}
    (hown : s.vm.findClass own = some m.cls) (hcls : Bundle.fit cls = true) (hnames : ∀ n ∈ names, Bundle.fit n = true)
    (hk : (Cond.classLink own ik cls).before args s = true) (hini : (Cond.initialized cls).before args s = true) (hstr : vk_R own is text sa s) (hat : ∀ w ∈ vx_atS own ic cls names, w.before args s = true)
    (hgood : ∀ w ∈ Cond.classLink own ik cls :: Cond.initialized cls :: vx_atS own ic cls names, vx_ot w = true)
    (hU : vx_Zq Bundle.tN "UNASSIGNED_STACK" Bundle.steD A s s.heap) (hN : vx_Zq Bundle.tN "SUPPRESSED_SENTINEL" Bundle.listD A s s.heap) (hS : va_S A s.heap H locs) (hsize : ls.size = c.maxLocals)
    (d0 : decode cc pc = .ok (.new ik, 3)) (d3 : decode cc (pc + 3) = .ok (.dup, 1)) (d4 : decode cc (pc + 4) = .ok (.ldc is, 2)) (d6 : decode cc (pc + 6) = .ok (.invokespecial ic, 3)) (d9 : decode cc (pc + 9) = .ok (.athrow, 1))
    (hout : ∀ x ∈ c.exceptionTable.toList, covers x (pc + 9) = false)
    (hRframes : names.length + 3 < R.frames) (hRlocals : (rest.map fun v => v.category).sum + (13 * (names.length + 1) + 43) ≤ R.locals) (hRcells : cells + 1 ≤ R.cells) (hRslots : slots + 6 ≤ R.slots) (hlocks : meth.locks = false)
    (hx : ∀ t : State, s.vm.Alike t.vm → H.size ≤ t.heap.size → (∀ q : Nat, q < H.size → t.heap[q]? = H[q]?) → XC cls s t)
    (hf : ∀ z ∈ locs, free z.base) (hc : cells + 1 ≤ mc) (hs : slots + 6 ≤ ms) :
    W p l e R s m args below meth c H locs cells slots (vx_MQ below Qc XC args s mc ms free) (F0 m pc ls rest) := by
  intro T hT X
  have htr : e.platform.stackTraces = false := (show e.platform.stackTraces = l.stackTraces by rw [X.admits.platform]).trans hl
  have Y := vx_rebase X (R' := { frames := R.frames, locals := R.locals, cells := 1, slots := 6 }) (Nat.le_refl _) (Nat.le_refl _) hRcells hRslots
  obtain ⟨s', hA⟩ : ∃ z, z = (T.setVm s.vm).setFrames (.invoking m args :: below) := ⟨_, rfl⟩
  rw [← hA] at Y
  have hvm : s'.vm = s.vm := by rw [hA]; rfl
  have hhp : s'.heap = H := by rw [hA]; exact hT
  have hW0 : s.WarmedH s'.vm := by rw [hvm]; exact State.WarmedH.refl s
  have hat' : ∀ w ∈ vx_atS own ic cls names, w.before args s' = true := fun w hw => vx_ot_at hW0 hvm.symm (hgood w (List.mem_cons_of_mem _ (List.mem_cons_of_mem _ hw))) (hat w hw)
  have hk' : (Cond.classLink own ik cls).before args s' = true := vx_ot_at hW0 hvm.symm (hgood _ List.mem_cons_self) hk
  have hini' : (Cond.initialized cls).before args s' = true := vx_ot_at hW0 hvm.symm (hgood _ (List.mem_cons_of_mem _ List.mem_cons_self)) hini
  have hU' : vx_Zq Bundle.tN "UNASSIGNED_STACK" Bundle.steD A s' s'.heap := by rw [hhp]; exact vx_Zq.moved hW0.alike (hU.kept hS.2.1)
  have hN' : vx_Zq Bundle.tN "SUPPRESSED_SENTINEL" Bundle.listD A s' s'.heap := by rw [hhp]; exact vx_Zq.moved hW0.alike (hN.kept hS.2.1)
  have h : ∀ w ∈ Bundle.ownAtoms own ic cls names, w.before args s' = true := vx_own hat' (vx_isRefq hU'.1) (vx_isRefq hN'.1) hU'.2.word hN'.2.word
  have hown' : s'.vm.findClass own = some m.cls := by rw [hvm]; exact hown
  have hins : (Cond.instantiable cls 6).before args s' = true := h _ (by simp [Bundle.ownAtoms])
  obtain ⟨vm₁, cX, kX, hfX, hkX, -, -, X₁, st1⟩ := Y.newCold hexec (own := own) (C := cls) (index := ik) (n := 6) hown' hk' hins hini'
    (g := F0 m pc ls rest) rfl (by rw [hb]; exact d0) (Nat.le_refl _) (Nat.le_refl _)
  generalize hT1 : (T.setVm vm₁).pushCell { cls := cX, slots := kX.instanceTypes.map defaultValue, vm := .none } = T1 at X₁ st1
  have hcat : (Value.ref T.heap.size).category = 1 := rfl
  have hcellA : T1.heap[T.heap.size]? = some (freshCell cX kX) := by rw [← hT1]; exact State.heap_pushCell_size _ _
  have d3' : decode c.code (pc + 3) = .ok (.dup, 1) := by rw [hb]; exact d3
  have d4' : decode c.code (pc + 4) = .ok (.ldc is, 2) := by rw [hb]; exact d4
  have hstr' : vk_R own is text sa s' := vk_R.warm hW0 hstr
  obtain ⟨U, hsteps, hrun, hend, hW, hsame, ce, hce, hO⟩ := X₁.ctorThrowS hexec htr (own := own) (cls := cls) (names := names) (ic := ic) hown' hcls hnames h (fun x hx => nomatch hx) hfX hkX hcellA (by rw [hhp, hT]; exact Nat.le_refl _) (msg := .ref sa) rfl
    (g := { method := m, pc := pc + 6, locals := ls, stack := .ref sa :: .ref T.heap.size :: .ref T.heap.size :: rest, locked := none }) rfl hsize rfl rfl (rest := rest) rfl
    (by rw [hb]; exact d6) (by rw [hb]; exact d9) hout hRframes (by simp only [List.map_cons, List.sum_cons, hcat]; omega) hlocks
  obtain ⟨f1, f2⟩ := vx_frame hsame
  rw [hhp] at f1 f2
  have hWs : s.WarmedH U.vm := State.WarmedH.trans hW0 hW
  have hcl : s.vm.findClass cls = some ce.cls := by
    have h9 := hO.cls
    rw [hvm] at h9
    exact h9
  have hall : s.sameButNew ({ U with vm := s.vm } : State) locs mc ms := by
    subst hA
    obtain ⟨e1, e2⟩ := hsame
    rw [State.setFrames_setFrames] at e1
    have h2 : (T.setVm s.vm).sameButNew ({ U with vm := s.vm } : State) [] (0 + 1) (0 + 6) := ⟨e1, e2⟩
    have h3 := X.same.trans h2
    rw [List.append_nil] at h3
    exact h3.mono hc hs
  refine ⟨U, ?_, .threw T.heap.size, hrun, hend, Or.inr ⟨T.heap.size, rfl, cls, ce, locs, hx U hWs.alike f1 (fun q hq => f2 q hq (fun z hz => nomatch hz)), hce, hO.vm, hcl, hWs, hall, hf⟩⟩
  refine st1 _ ?_
  show Steps p.tables e below (T1.setTop { method := m, pc := pc + 3, locals := ls, stack := .ref T.heap.size :: rest, locked := none }) _
  jvm_step X₁.here [X₁.here.top, hexec, d3', Value.category]
  exact X₁.ldcString hexec (own := own) (text := text) (index := is) (a := sa) hown' hstr'.1 hstr'.2
    (g := { method := m, pc := pc + 4, locals := ls, stack := .ref T.heap.size :: .ref T.heap.size :: rest, locked := none }) rfl d4' _ hsteps
/-- 'throw new E("text")', the text by a wide index -/
theorem vx_throwSW {cc : ByteArray} {pc : Nat} (hexec : p.tables.exec = Jvm.exec) (hb : c.code = cc) (hl : l.stackTraces = false) {own cls text : String} {names : List String} {ik is ic mc ms sa : Nat} {A : Nat → Prop}
    (hown : s.vm.findClass own = some m.cls) (hcls : Bundle.fit cls = true) (hnames : ∀ n ∈ names, Bundle.fit n = true)
    (hk : (Cond.classLink own ik cls).before args s = true) (hini : (Cond.initialized cls).before args s = true) (hstr : vk_R own is text sa s) (hat : ∀ w ∈ vx_atS own ic cls names, w.before args s = true)
    (hgood : ∀ w ∈ Cond.classLink own ik cls :: Cond.initialized cls :: vx_atS own ic cls names, vx_ot w = true)
    (hU : vx_Zq Bundle.tN "UNASSIGNED_STACK" Bundle.steD A s s.heap) (hN : vx_Zq Bundle.tN "SUPPRESSED_SENTINEL" Bundle.listD A s s.heap) (hS : va_S A s.heap H locs) (hsize : ls.size = c.maxLocals)
    (d0 : decode cc pc = .ok (.new ik, 3)) (d3 : decode cc (pc + 3) = .ok (.dup, 1)) (d4 : decode cc (pc + 4) = .ok (.ldc_w is, 3)) (d7 : decode cc (pc + 7) = .ok (.invokespecial ic, 3)) (d10 : decode cc (pc + 10) = .ok (.athrow, 1))
    (hout : ∀ x ∈ c.exceptionTable.toList, covers x (pc + 10) = false)
    (hRframes : names.length + 3 < R.frames) (hRlocals : (rest.map fun v => v.category).sum + (13 * (names.length + 1) + 43) ≤ R.locals) (hRcells : cells + 1 ≤ R.cells) (hRslots : slots + 6 ≤ R.slots) (hlocks : meth.locks = false)
    (hx : ∀ t : State, s.vm.Alike t.vm → H.size ≤ t.heap.size → (∀ q : Nat, q < H.size → t.heap[q]? = H[q]?) → XC cls s t)
    (hf : ∀ z ∈ locs, free z.base) (hc : cells + 1 ≤ mc) (hs : slots + 6 ≤ ms) :
    W p l e R s m args below meth c H locs cells slots (vx_MQ below Qc XC args s mc ms free) (F0 m pc ls rest) := by
  intro T hT X
  have htr : e.platform.stackTraces = false := (show e.platform.stackTraces = l.stackTraces by rw [X.admits.platform]).trans hl
  have Y := vx_rebase X (R' := { frames := R.frames, locals := R.locals, cells := 1, slots := 6 }) (Nat.le_refl _) (Nat.le_refl _) hRcells hRslots
  obtain ⟨s', hA⟩ : ∃ z, z = (T.setVm s.vm).setFrames (.invoking m args :: below) := ⟨_, rfl⟩
  rw [← hA] at Y
  have hvm : s'.vm = s.vm := by rw [hA]; rfl
  have hhp : s'.heap = H := by rw [hA]; exact hT
  have hW0 : s.WarmedH s'.vm := by rw [hvm]; exact State.WarmedH.refl s
  have hat' : ∀ w ∈ vx_atS own ic cls names, w.before args s' = true := fun w hw => vx_ot_at hW0 hvm.symm (hgood w (List.mem_cons_of_mem _ (List.mem_cons_of_mem _ hw))) (hat w hw)
  have hk' : (Cond.classLink own ik cls).before args s' = true := vx_ot_at hW0 hvm.symm (hgood _ List.mem_cons_self) hk
  have hini' : (Cond.initialized cls).before args s' = true := vx_ot_at hW0 hvm.symm (hgood _ (List.mem_cons_of_mem _ List.mem_cons_self)) hini
  have hU' : vx_Zq Bundle.tN "UNASSIGNED_STACK" Bundle.steD A s' s'.heap := by rw [hhp]; exact vx_Zq.moved hW0.alike (hU.kept hS.2.1)
  have hN' : vx_Zq Bundle.tN "SUPPRESSED_SENTINEL" Bundle.listD A s' s'.heap := by rw [hhp]; exact vx_Zq.moved hW0.alike (hN.kept hS.2.1)
  have h : ∀ w ∈ Bundle.ownAtoms own ic cls names, w.before args s' = true := vx_own hat' (vx_isRefq hU'.1) (vx_isRefq hN'.1) hU'.2.word hN'.2.word
  have hown' : s'.vm.findClass own = some m.cls := by rw [hvm]; exact hown
  have hins : (Cond.instantiable cls 6).before args s' = true := h _ (by simp [Bundle.ownAtoms])
  obtain ⟨vm₁, cX, kX, hfX, hkX, -, -, X₁, st1⟩ := Y.newCold hexec (own := own) (C := cls) (index := ik) (n := 6) hown' hk' hins hini'
    (g := F0 m pc ls rest) rfl (by rw [hb]; exact d0) (Nat.le_refl _) (Nat.le_refl _)
  generalize hT1 : (T.setVm vm₁).pushCell { cls := cX, slots := kX.instanceTypes.map defaultValue, vm := .none } = T1 at X₁ st1
  have hcat : (Value.ref T.heap.size).category = 1 := rfl
  have hcellA : T1.heap[T.heap.size]? = some (freshCell cX kX) := by rw [← hT1]; exact State.heap_pushCell_size _ _
  have d3' : decode c.code (pc + 3) = .ok (.dup, 1) := by rw [hb]; exact d3
  have d4' : decode c.code (pc + 4) = .ok (.ldc_w is, 3) := by rw [hb]; exact d4
  have hstr' : vk_R own is text sa s' := vk_R.warm hW0 hstr
  obtain ⟨U, hsteps, hrun, hend, hW, hsame, ce, hce, hO⟩ := X₁.ctorThrowS hexec htr (own := own) (cls := cls) (names := names) (ic := ic) hown' hcls hnames h (fun x hx => nomatch hx) hfX hkX hcellA (by rw [hhp, hT]; exact Nat.le_refl _) (msg := .ref sa) rfl
    (g := { method := m, pc := pc + 7, locals := ls, stack := .ref sa :: .ref T.heap.size :: .ref T.heap.size :: rest, locked := none }) rfl hsize rfl rfl (rest := rest) rfl
    (by rw [hb]; exact d7) (by rw [hb]; exact d10) hout hRframes (by simp only [List.map_cons, List.sum_cons, hcat]; omega) hlocks
  obtain ⟨f1, f2⟩ := vx_frame hsame
  rw [hhp] at f1 f2
  have hWs : s.WarmedH U.vm := State.WarmedH.trans hW0 hW
  have hcl : s.vm.findClass cls = some ce.cls := by
    have h9 := hO.cls
    rw [hvm] at h9
    exact h9
  have hall : s.sameButNew ({ U with vm := s.vm } : State) locs mc ms := by
    subst hA
    obtain ⟨e1, e2⟩ := hsame
    rw [State.setFrames_setFrames] at e1
    have h2 : (T.setVm s.vm).sameButNew ({ U with vm := s.vm } : State) [] (0 + 1) (0 + 6) := ⟨e1, e2⟩
    have h3 := X.same.trans h2
    rw [List.append_nil] at h3
    exact h3.mono hc hs
  refine ⟨U, ?_, .threw T.heap.size, hrun, hend, Or.inr ⟨T.heap.size, rfl, cls, ce, locs, hx U hWs.alike f1 (fun q hq => f2 q hq (fun z hz => nomatch hz)), hce, hO.vm, hcl, hWs, hall, hf⟩⟩
  refine st1 _ ?_
  show Steps p.tables e below (T1.setTop { method := m, pc := pc + 3, locals := ls, stack := .ref T.heap.size :: rest, locked := none }) _
  jvm_step X₁.here [X₁.here.top, hexec, d3', Value.category]
  exact X₁.ldcStringW hexec (own := own) (text := text) (index := is) (a := sa) hown' hstr'.1 hstr'.2
    (g := { method := m, pc := pc + 4, locals := ls, stack := .ref T.heap.size :: .ref T.heap.size :: rest, locked := none }) rfl d4' _ hsteps
end Ends
section Bodies
variable {l : Launch}
theorem vx_ofW {y : MethodName} {ws ws' : List Cond} {rm : Room} {Pc : Array Value → State → Prop} {Qc : Array Value → State → Outcome → State → Prop} {XC : String → State → State → Prop} {mc ms : Nat} {free : Addr → Prop} {cc : ByteArray} {maxL : Nat} {ret : Option FieldType}
    (hy : plainName y.cls = true) (hw : ws = Cond.code y cc maxL ret :: ws')
    (body : ∀ p e s m args below meth c s₁, BodyLoose p l y (headSpec ws rm) cc maxL ret e s m args below meth c s₁ → c.maxLocals = maxL → (∀ x ∈ c.exceptionTable.toList, False) → Pc args s →
      W p l e (headSpec ws rm).room s m args below meth c s.heap [] 0 0 (vx_MQ below Qc XC args s mc ms free) (entryFrame m args maxL)) : vx_Met l y ws rm Pc Qc XC mc ms free := by
  refine MetFree.of_bodyS (code := cc) (maxLocals := maxL) (ret := ret) hy ?_ ?_
  · intro args s m h hn
    obtain ⟨meth, c, h1, h2, h3, h4, h5, h6, -, -⟩ := Cond.code_spec hn (atoms_spec (ws := ws) h _ (by rw [hw]; exact List.mem_cons_self))
    exact ⟨meth, c, h1, h2, h3, h4, h5, h6⟩
  · intro p e s m args below meth c s₁ B hml hP _
    have hh0 : s₁.heap = s.heap := by rw [B.state]; rfl
    have ht : ∀ x ∈ c.exceptionTable.toList, False := by
      obtain ⟨meth9, c9, h1, h2, -, -, -, -, h7, -⟩ := Cond.code_spec B.named (atoms_spec (ws := ws) B.pre _ (by rw [hw]; exact List.mem_cons_self))
      cases Option.some.inj (h1.symm.trans B.method)
      cases Option.some.inj (h2.symm.trans (Stand.of_body B).code)
      intro x hx
      rw [Array.isEmpty_iff.mp h7] at hx
      cases hx
    obtain ⟨t, a1, o, b1, b2, b3⟩ := body p e s m args below meth c s₁ B hml ht hP s₁ hh0 (Stand.of_body B)
    exact ⟨t, o, a1, b1, b2, b3⟩
/-- the table of a body with handlers -/
theorem vx_table {p : Program} {x y : MethodName} {S : Spec} {cc bytes : ByteArray} {maxL maxL' : Nat} {ret ret' : Option FieldType} {e : Env} {s s₁ : State} {m : MethodId} {args : Array Value} {below : List Frame} {meth : Method} {c : Code} {hh : List (Nat × Nat × Nat × Nat)}
    (B : BodyLoose p l y S cc maxL ret e s m args below meth c s₁) (h : (Cond.codeWith y bytes maxL' ret' hh).before args s = true) : c.exceptionTable.toList = tableOf hh := by
  obtain ⟨m9, meth9, c9, hn9, h1, h2, -, -, h6, -⟩ := Cond.codeWith_spec h
  cases Option.some.inj (hn9.symm.trans B.named)
  cases Option.some.inj (h1.symm.trans B.method)
  cases Option.some.inj (h2.symm.trans (Stand.of_body B).code)
  rw [← h6, table_eq]
end Bodies
end VXA
/-! ===== END ===== -/
/-! ===== BEGIN a static call of a method with an exception table ===== -/
section VXS
variable {p : Program} {l : Launch} {e : Env} {R : Room} {s : State} {m : MethodId} {args : Array Value} {below : List Frame} {meth : Method} {c : Code} {T : State} {H : Heap} {locs : List Loc} {cells slots : Nat}
abbrev vx_CSW (R : Room) (s : State) (args : Array Value) (own : String) (index : Nat) (y : MethodName) (bytes : ByteArray) (maxL : Nat) (ret : Option FieldType) (hh : List (Nat × Nat × Nat × Nat)) (ws : List Cond) (rm : Room) (mc ms n : Nat) : Prop :=
  (rm.cells = mc ∧ rm.slots = ms ∧ rm.frames + 1 ≤ R.frames ∧ 8 + (maxL + 11) + rm.locals ≤ R.locals ∧ (∀ w ∈ ws, ∀ (a' : Array Value) (U : State), s.WarmedH U.vm → w.before a' U = true) ∧ Cond.codeWith y bytes maxL ret hh ∈ ws) ∧
  (Cond.codeWith y bytes maxL ret hh).before args s = true ∧ (Cond.initialized y.cls).before args s = true ∧ (y.cls ≠ "java/lang/invoke/MethodHandle" ∧ y.cls ≠ "java/lang/invoke/VarHandle") ∧
  (∀ sig, parseMethodDescriptor y.desc = some sig → n = sig.parameters.length) ∧ (Cond.methodLink own index y).before args s = true ∧ (Cond.static y).before args s = true
theorem vx_cwSW {own : String} {index maxL mc ms : Nat} {y : MethodName} {bytes : ByteArray} {ret : Option FieldType} {hh : List (Nat × Nat × Nat × Nat)} {Ts ws ws' : List Cond} {rm : Room} (n : Nat) (ht : ∀ w ∈ Ts, w.before args s = true) (hT : GoodIn Ts (va_wsS own index y ws)) (hw : ws = Cond.codeWith y bytes maxL ret hh :: ws') (hrc : rm.cells = mc) (hrs : rm.slots = ms)
    (hd : y.cls ≠ "java/lang/invoke/MethodHandle" ∧ y.cls ≠ "java/lang/invoke/VarHandle" ∧ (parseMethodDescriptor y.desc).map (fun d => d.parameters.length) = some n) (hR : rm.frames + 1 ≤ R.frames ∧ 8 + (maxL + 11) + rm.locals ≤ R.locals) :
    vx_CSW R s args own index y bytes maxL ret hh ws rm mc ms n := by
  have ok : ∀ w ∈ va_wsS own index y ws, w.before args s = true := fun w h => ht w (hT w h).1
  have hG : GoodIn Ts ws := fun w h => hT w (by unfold va_wsS; exact List.mem_append_right _ h)
  have hc : Cond.codeWith y bytes maxL ret hh ∈ ws := by rw [hw]; exact List.mem_cons_self
  refine ⟨⟨hrc, hrs, hR.1, hR.2, pay_in ht hG, hc⟩, ht _ (hG _ hc).1, ok _ (by simp [va_wsS]), ⟨hd.1, hd.2.1⟩, fun sig h => ?_, ok _ (by simp [va_wsS]), ok _ (by simp [va_wsS])⟩
  have h2 := hd.2.2
  rw [h] at h2
  exact (Option.some.inj h2).symm
theorem vx_callSW (X : Stand p l e R s m args below meth c T locs cells slots) (hexec : p.tables.exec = Jvm.exec) {own : String} {index : Nat} {y : MethodName} {bytes : ByteArray} {maxL : Nat} {ret : Option FieldType} {hh : List (Nat × Nat × Nat × Nat)}
    (hown : s.vm.findClass own = some m.cls) (hlink : (Cond.methodLink own index y).before args s = true) (hstat : (Cond.static y).before args s = true) (hinit : (Cond.initialized y.cls).before args s = true)
    (hcode : (Cond.codeWith y bytes maxL ret hh).before args s = true) (hy : y.cls ≠ "java/lang/invoke/MethodHandle" ∧ y.cls ≠ "java/lang/invoke/VarHandle")
    {W9 : Nat} {Pre : Pt → Array Value → Prop} {Post : Pt → Array Value → Option Value → Pt → Prop} (hK : Back l R p e below s args y 3 W9 Pre Post)
    {g : JFrame} (hg : g.method = m) (hsize : g.locals.size = c.maxLocals) {argsL rest : List Value} (hlen : ∀ sig, parseMethodDescriptor y.desc = some sig → argsL.length = sig.parameters.length)
    (hstack : g.stack = argsL.reverse ++ rest) (hW : 2 * g.monitorRoom + (rest.map fun v => v.category).sum ≤ W9) (hdg : decode c.code g.pc = .ok (.invokestatic index, 3))
    (hpre : ∀ vm₁, s.WarmedH vm₁ → Pre ⟨T.setVm vm₁, locs, cells, slots⟩ argsL.toArray) :
    ∃ (v : Option Value) (vm₁ : Vm) (B : Pt), s.WarmedH vm₁ ∧ Stand p l e R s m args below meth c B.U B.locs B.cells B.slots ∧ Post ⟨T.setVm vm₁, locs, cells, slots⟩ argsL.toArray v B ∧
      ∀ target, Steps p.tables e below (B.U.setTop { g with pc := g.pc + 3, stack := v.toList ++ rest }) target → Steps p.tables e below (T.setTop g) target := by
  obtain ⟨mk, methM, cM, hnamed, hmethM, -, -, -, -, -, -, hsigM⟩ := Cond.codeWith_spec hcode
  have hstatic : methM.isStatic = true := Cond.static_spec hnamed hmethM hstat
  obtain ⟨kP, hkP, -⟩ := className_of_methodNamed hnamed
  have hinitP : kP.init = .initialized := Cond.initialized_spec (findClass_of_methodNamed hnamed) hkP hinit
  obtain ⟨vm₁, X₁, hstep₁⟩ := X.invokestatic hexec hown hlink hnamed hmethM hstatic hkP hinitP hy (g := g) hg (argsL := argsL) (rest := rest) (hlen _ hsigM) hstack hdg
  obtain ⟨v, B, X', hpost, hsteps⟩ := hK m meth c ⟨T.setVm vm₁, locs, cells, slots⟩ { g with stack := rest } (.invokestatic index) mk argsL.toArray X₁ hg hsize hdg hW (X₁.named hnamed) (hpre vm₁ X₁.warmed)
  exact ⟨v, vm₁, B, X₁.warmed, X', hpost, fun target h => hstep₁ _ fun acts => by rw [doInvoke_state]; exact hsteps.trans h⟩
theorem vx_runSW {y : MethodName} {bytes cc : ByteArray} {maxL nL mc ms n index : Nat} {ret : Option FieldType} {hh : List (Nat × Nat × Nat × Nat)} {ws : List Cond} {rm : Room} {Pc : Array Value → State → Prop} {Qc : Array Value → State → Outcome → State → Prop} {free : Addr → Prop} {Ts : List Cond} {own : String} {As rest : List Value} {g : JFrame}
    (S : CallFix p m c cc nL s args Ts own) (hM : Met l y ws rm Pc Qc mc ms free) (cw : vx_CSW R s args own index y bytes maxL ret hh ws rm mc ms n) (hp : PreS s H Pc As)
    (hg : g.method = m) (hn : As.length = n) (hsize : g.locals.size = nL) (hstack : g.stack = As.reverse ++ rest) (hW : 2 * g.monitorRoom + (rest.map fun v => v.category).sum ≤ 8) (hdg : decode cc g.pc = .ok (.invokestatic index, 3)) (hf : cells + mc ≤ R.cells ∧ slots + ms ≤ R.slots) :
    va_Run p l e R s m args below meth c H locs cells slots mc ms g rest (Qc As.toArray) (free) := by
  obtain ⟨⟨hrc, hrs, hfr, hlo, hws, hcw⟩, hcode, hini, hy, hlen, hl, hstt⟩ := cw
  have hK : Back l R p e below s args y 3 8 (PreOf R mc ms Pc) (PostOf Qc mc ms free) := va_backW (hh := hh) (bytes := bytes) (maxL := maxL) (ret := ret) hM hp.1 hrc hrs hfr hlo hws hcw (fun a' U hW => word_at hW (Or.inl (by first | rfl | simp [Cond.onTables, Cond.keeps, Cond.steady])) hini)
  obtain ⟨hx, hb, hml, ho, -⟩ := S
  intro T hT X
  obtain ⟨v, vm₁, ⟨U', l2, c2, s2⟩, hW₁, X', ⟨g', mk, t, L, e1, e2, hq, h1, hL, h2, h3⟩, st⟩ := vx_callSW X hx (hh := hh) (bytes := bytes) (maxL := maxL) (ret := ret) ho hl hstt hini hcode hy hK hg (hsize.trans hml.symm) (argsL := As) (rest := rest) (fun sig h => hn.trans (hlen sig h)) hstack hW (by rw [hb]; exact hdg)
    (fun vm₁ hW₁ => ⟨hf.1, hf.2, hp.2 (T.setVm vm₁) hT hW₁⟩)
  dsimp only [Pt.U, Pt.locs, Pt.cells, Pt.slots] at X' e1 e2 h1 h2 h3 st
  subst h1; subst h2; subst h3
  exact ⟨v, (T.setVm vm₁).calling g' mk As.toArray, t, U', L, hT, X', hL, e1, e2, hq, st⟩
/-- not caught here, past rows that name other classes: it goes on to the caller -/
theorem vx_outP {p : Program} {l : Launch} {e : Env} {R : Room} {s : State} {m : MethodId} {args : Array Value} {below : List Frame} {meth : Method} {c : Code} {H : Heap} {locs : List Loc} {cells slots : Nat} {free : Addr → Prop} {ls : Array Slot} {rest : List Value} {Qc : Array Value → State → Outcome → State → Prop} {XC : String → State → State → Prop}
    {pc : Nat} {own E : String} {ce : Cell} {q : Addr} {mc ms : Nat} (hown : s.vm.findClass own = some m.cls) (hlocks : meth.locks = false)
    (hpass : ∀ z ∈ c.exceptionTable.toList, covers z pc = false ∨ (z.catchType ≠ 0 ∧ ∃ nm : String, (Cond.classLink own z.catchType nm).before args s = true ∧ va_Nc E nm s)) (hcell : H[q]? = some ce) (hv : ce.vm = .none) (hcl : s.vm.findClass E = some ce.cls)
    (hx : ∀ t : State, t.heap = H → s.vm.Alike t.vm → XC E s t) (hf : ∀ z ∈ locs, free z.base) (hc : cells ≤ mc) (hs : slots ≤ ms) :
    vx_W p l e R s m args below meth c H locs cells slots (vx_MQ below Qc XC args s mc ms free) (F0 m pc ls rest) q := by
  intro T hT X
  have hpl : e.platform.magicAccessors = ({} : Platform).magicAccessors := by rw [X.admits.platform]
  obtain ⟨vm', hW', X', st⟩ := X.outThrough hlocks q (g := F0 m pc ls rest) rfl rfl rfl (cell := ce) (by rw [hT]; exact hcell) (by rw [hv]; rfl)
    (by obtain ⟨k9, h9, -⟩ := Vm.findClass_spec hcl; exact ⟨k9, h9⟩) (fun z hz => by
      rcases hpass z hz with h | ⟨hz0, nm, hl1, hn1⟩
      · exact Or.inl h
      · obtain ⟨c6, hc6, hcl6⟩ := Cond.classLink_spec hown hl1 e.platform hpl
        obtain ⟨a8, b8, h1, h2, h3⟩ := hn1
        cases Option.some.inj (h1.symm.trans hcl)
        cases Option.some.inj (h2.symm.trans hc6)
        exact Or.inr ⟨hz0, _, hcl6, h3⟩)
  obtain ⟨g₀, hfr⟩ := X'.frames_eq
  have hcell9 : ((T.setVm vm').setFrames (.throwing q :: below)).heap[q]? = some ce := by
    show T.heap[q]? = some ce
    rw [hT]; exact hcell
  have hend : Ended ((T.setVm vm').setFrames (.throwing q :: below)) below (.threw q) := State.frames_setFrames _ (State.cur_lt_of_frames hfr)
  refine ⟨(T.setVm vm').setFrames (.throwing q :: below), ?_, .threw q, X'.here.running, hend, Or.inr ⟨q, rfl, E, ce, locs, hx _ hT (X'.ends _).1.alike, hcell9, hv, hcl, (X'.ends _).1, (X'.ends _).2.mono hc hs, hf⟩⟩
  rw [X.pushThrowing_eq]
  exact st
/-- a thing of a world lies in the heap -/
theorem vx_lt {D : va_G} {cl : List vw_C} {ws : va_W} {H1 : Heap} (h : va_P D cl ws H1) {k : Nat} {q : Nat × va_E} (hk : ws[k]? = some q) : q.1 < H1.size := (h k q hk).lt
end VXS
/-! ===== END ===== -/
/-! ===== BEGIN methods with a table of their own: called by a name, returning or throwing ===== -/
section VXH
/-! vx_backW, vx_callVX, vx_callSX, vx_callVW, vx_runVW, vx_runVX, vx_runSX, vx_ofWH follow the same proofs as their sisters above (Free/Laws.lean, Shelf42/LK1.lean); vx_outP calls Shelf42/NT130.lean (outThrough). -/
section
variable {l : Launch} {R : Room} {p : Program} {e : Env} {below : List Frame} {s : State} {sargs : Array Value} {y : MethodName} {len W9 : Nat}
theorem vx_backW {ws : List Cond} {rm : Room} {Pc : Array Value → State → Prop} {Qc : Array Value → State → Outcome → State → Prop} {XC : String → State → State → Prop} {mc ms : Nat} {free : Addr → Prop} {bytes : ByteArray} {maxL : Nat} {ret : Option FieldType} {hh : List (Nat × Nat × Nat × Nat)}
    (hM : vx_Met l y ws rm Pc Qc XC mc ms free) (hblind : FrameBlind Pc) (hrc : rm.cells = mc) (hrs : rm.slots = ms)
    (hframes : rm.frames + 1 ≤ R.frames) (hlocals : W9 + (maxL + 11) + rm.locals ≤ R.locals)
    (hws : ∀ w ∈ ws, ∀ a' U, s.WarmedH U.vm → w.before a' U = true) (hcode : Cond.codeWith y bytes maxL ret hh ∈ ws) (hinit : ∀ a' U, s.WarmedH U.vm → (Cond.initialized y.cls).before a' U = true) :
    vx_Back l R p e below s sargs y len W9 (PreOf R mc ms Pc) (PostOf Qc mc ms free) (vx_Post XC mc ms free) := by
  intro m meth c A g ig mk a X hg hsize hdg hW hn hp
  have h1 : (headSpec ws rm).pre.before a A.U = true := atoms_intro fun w hw => hws w hw _ _ X.warmed
  have h2 : (Cond.codeWith y bytes maxL ret hh).before a A.U = true := hws _ hcode _ _ X.warmed
  have h3 : (Cond.initialized y.cls).before a A.U = true := hinit _ _ X.warmed
  have h4 : A.cells + (headSpec ws rm).room.cells ≤ R.cells := by rw [show (headSpec ws rm).room.cells = mc from hrc]; exact hp.1
  have h5 : A.slots + (headSpec ws rm).room.slots ≤ R.slots := by rw [show (headSpec ws rm).room.slots = ms from hrs]; exact hp.2.1
  have hPc : Pc a (A.U.calling g mk a) := hblind _ _ _ _ hp.2.2
  obtain ⟨U, Ls, c0, s0⟩ := A
  dsimp only [Pt.U, Pt.locs, Pt.cells, Pt.slots] at h1 h2 h3 h4 h5 X hn hPc ⊢
  obtain ⟨m9, methY, cY, hn9, hmY, hcY, -, hlY, -⟩ := Cond.codeWith_spec h2
  cases Option.some.inj (hn9.symm.trans hn)
  obtain ⟨kY, hkY, -⟩ := className_of_methodNamed hn
  have hinitY : kY.init = .initialized := Cond.initialized_spec (findClass_of_methodNamed hn) hkY h3
  have h : At U g.method c below := by rw [hg]; exact X.here
  have hlocals9 : W9 + (maxL + 11) + (headSpec ws rm).room.locals ≤ R.locals := hlocals
  have happ : (headSpec ws rm).appliesLoose y e.platform (U.calling g mk a) = true :=
    Spec.appliesLoose_calling (g := g) h hdg hn hkY hinitY
      (X.room_calling (g := g) (R' := (headSpec ws rm).room) hsize hmY hcY hframes (by rw [hlY]; omega) h4 h5) h1
  obtain ⟨mid, hmid⟩ := h.above
  have hfr : (U.setTop g).frames = (.java g :: mid) ++ below := by rw [State.frames_setTop' g h.top, hmid]; rfl
  obtain ⟨o, s₂, hsteps, -, hend, hq⟩ := Steps.callFree hM p X.admits X.cas X.clock (acts := []) hfr happ hPc trivial
  have hq' : vx_Q Qc XC mc ms free a (U.calling g mk a) o s₂ := hq
  rw [State.frames_setTop' g h.top] at hend
  obtain ⟨g₀, hg0⟩ := Option.isSome_iff_exists.mp h.top
  obtain ⟨r, hr⟩ := State.topJava?_eq_some.mp hg0
  have hr' : (({ U with heap := s₂.heap, slotsUsed := s₂.slotsUsed } : State).setVm s₂.vm).frames = .java g₀ :: r := hr
  rcases hq' with ⟨hqc, L, hfe, hL⟩ | ⟨q, rfl, E, ce, L, hx, hce, hcv, hcl, hW₂, hsm, hL⟩
  · obtain ⟨⟨v, rfl⟩, hW₂, e2, q2, q3, q4, q5, q6⟩ := id hfe
    have e3 : s₂ = ({ (U.calling g mk a).setFrames s₂.frames with heap := s₂.heap, slotsUsed := s₂.slotsUsed } : State).setVm s₂.vm := by
      have : s₂ = ({ s₂ with vm := (U.calling g mk a).vm } : State).setVm s₂.vm := rfl
      rw [e2] at this
      exact this
    obtain ⟨c₂, i₂, len₂, hc₂, hd₂, hf₂⟩ := hend
    have hW' : U.WarmedH s₂.vm := hW₂
    have hcc : c₂ = c := by
      have h1 : s₂.code? g.method = U.code? g.method := by
        rw [State.code?_eq, State.code?_eq, hW'.alike.method?]
      exact Option.some.inj (hc₂.symm.trans (h1.trans h.code))
    subst hcc
    have hlen : len₂ = len := by rw [hdg] at hd₂; cases hd₂; rfl
    subst hlen
    have hs₂ : s₂ = (({ U with heap := s₂.heap, slotsUsed := s₂.slotsUsed } : State).setVm s₂.vm).setTop { g with pc := g.pc + len₂, stack := v.toList ++ g.stack } := by
      refine e3.trans ?_
      rw [hf₂, State.calling_eq h.top, State.setFrames_setFrames, State.setTop_of_frames _ hr', hr]
      rfl
    have hsame : U.sameButNew ({ U with heap := s₂.heap, slotsUsed := s₂.slotsUsed } : State) L mc ms := by
      refine ⟨?_, q2, q3, q4, q5, q6⟩
      obtain ⟨t, ht, -⟩ := State.frames_cons hr
      show ({ U with heap := s₂.heap, slotsUsed := s₂.slotsUsed } : State) = { U.setFrames U.frames with heap := s₂.heap, slotsUsed := s₂.slotsUsed }
      rw [State.setFrames_self ht]
    subst hg
    refine Or.inl ⟨v, ⟨(({ U with heap := s₂.heap, slotsUsed := s₂.slotsUsed } : State).setVm s₂.vm), Ls ++ L, c0 + mc, s0 + ms⟩,
      ⟨X.admits, X.cas, X.clock, X.frames, X.room, X.hears, X.method, X.code, (X.here.setHeapUsed s₂.heap s₂.slotsUsed).setVm hW'.alike, X.tail, State.WarmedH.trans X.warmed hW', X.limits, X.bytes, X.same.trans (hsame.setVm s.vm)⟩,
      ⟨g, mk, s₂, L, rfl, rfl, hqc, rfl, hL, rfl, rfl⟩, ?_⟩
    show Steps p.tables e below _ ((({ U with heap := s₂.heap, slotsUsed := s₂.slotsUsed } : State).setVm s₂.vm).setTop { g with pc := g.pc + len₂, stack := v.toList ++ g.stack })
    rw [← hs₂]
    exact hsteps
  · obtain ⟨e2, q2, q3, q4, q5, q6⟩ := id hsm
    have e3 : s₂ = ({ (U.calling g mk a).setFrames s₂.frames with heap := s₂.heap, slotsUsed := s₂.slotsUsed } : State).setVm s₂.vm := by
      have : s₂ = ({ s₂ with vm := (U.calling g mk a).vm } : State).setVm s₂.vm := rfl
      rw [e2] at this
      exact this
    have hf₂ : s₂.frames = .throwing q :: .java g :: U.frames.tail := hend
    have hW' : U.WarmedH s₂.vm := hW₂
    have hs₂ : s₂ = ((({ U with heap := s₂.heap, slotsUsed := s₂.slotsUsed } : State).setVm s₂.vm).setTop g).pushFrame (.throwing q) := by
      refine e3.trans ?_
      rw [hf₂, State.calling_eq h.top, State.setFrames_setFrames, State.pushFrame, State.frames_setTop _ hr', State.setTop_of_frames _ hr', State.setFrames_setFrames, hr]
      rfl
    have hsame : U.sameButNew ({ U with heap := s₂.heap, slotsUsed := s₂.slotsUsed } : State) L mc ms := by
      refine ⟨?_, q2, q3, q4, q5, q6⟩
      obtain ⟨t, ht, -⟩ := State.frames_cons hr
      show ({ U with heap := s₂.heap, slotsUsed := s₂.slotsUsed } : State) = { U.setFrames U.frames with heap := s₂.heap, slotsUsed := s₂.slotsUsed }
      rw [State.setFrames_self ht]
    subst hg
    refine Or.inr ⟨q, ⟨(({ U with heap := s₂.heap, slotsUsed := s₂.slotsUsed } : State).setVm s₂.vm), Ls ++ L, c0 + mc, s0 + ms⟩,
      ⟨X.admits, X.cas, X.clock, X.frames, X.room, X.hears, X.method, X.code, (X.here.setHeapUsed s₂.heap s₂.slotsUsed).setVm hW'.alike, X.tail, State.WarmedH.trans X.warmed hW', X.limits, X.bytes, X.same.trans (hsame.setVm s.vm)⟩,
      ⟨g, mk, s₂, L, E, ce, rfl, rfl, hx, hce, hcv, hcl, rfl, hL, rfl, rfl⟩, ?_⟩
    show Steps p.tables e below _ (((({ U with heap := s₂.heap, slotsUsed := s₂.slotsUsed } : State).setVm s₂.vm).setTop g).pushFrame (.throwing q))
    rw [← hs₂]
    exact hsteps
end
variable {p : Program} {l : Launch} {e : Env} {R : Room} {s : State} {m : MethodId} {args : Array Value} {below : List Frame} {meth : Method} {c : Code} {T : State} {H : Heap} {locs : List Loc} {cells slots : Nat}
theorem vx_callVX (X : Stand p l e R s m args below meth c T locs cells slots) (hexec : p.tables.exec = Jvm.exec) {own C : String} {index : Nat} {y : MethodName} {bytes : ByteArray} {maxL : Nat} {ret : Option FieldType} {hh : List (Nat × Nat × Nat × Nat)}
    (hown : s.vm.findClass own = some m.cls) (hlink : (Cond.methodLink own index y).before args s = true) (hinst : (Cond.instanceMethod y).before args s = true) (hsel : (Cond.selects C y y).before args s = true)
    (hcode : (Cond.codeWith y bytes maxL ret hh).before args s = true) (hy : y.cls ≠ "java/lang/invoke/MethodHandle" ∧ y.cls ≠ "java/lang/invoke/VarHandle")
    {W9 : Nat} {Pre : Pt → Array Value → Prop} {Post : Pt → Array Value → Option Value → Pt → Prop} {PostX : Pt → Array Value → Addr → Pt → Prop} (hK : vx_Back l R p e below s args y 3 W9 Pre Post PostX)
    {b : Addr} {cellB : Cell} (hcell : T.heap[b]? = some cellB) (hobj : cellB.vm.isStatics = false) (hcls : s.vm.findClass C = some cellB.cls)
    {g : JFrame} (hg : g.method = m) (hsize : g.locals.size = c.maxLocals) {argsL rest : List Value} (hlen : ∀ sig, parseMethodDescriptor y.desc = some sig → argsL.length = sig.parameters.length)
    (hstack : g.stack = argsL.reverse ++ .ref b :: rest) (hW : 2 * g.monitorRoom + (rest.map fun v => v.category).sum ≤ W9) (hdg : decode c.code g.pc = .ok (.invokevirtual index, 3))
    (hpre : ∀ vm₁, s.WarmedH vm₁ → Pre ⟨T.setVm vm₁, locs, cells, slots⟩ (Value.ref b :: argsL).toArray) :
    (∃ (v : Option Value) (vm₁ : Vm) (B : Pt), s.WarmedH vm₁ ∧ Stand p l e R s m args below meth c B.U B.locs B.cells B.slots ∧ Post ⟨T.setVm vm₁, locs, cells, slots⟩ (Value.ref b :: argsL).toArray v B ∧
      ∀ target, Steps p.tables e below (B.U.setTop { g with pc := g.pc + 3, stack := v.toList ++ rest }) target → Steps p.tables e below (T.setTop g) target) ∨
    (∃ (q : Addr) (vm₁ : Vm) (B : Pt), s.WarmedH vm₁ ∧ Stand p l e R s m args below meth c B.U B.locs B.cells B.slots ∧ PostX ⟨T.setVm vm₁, locs, cells, slots⟩ (Value.ref b :: argsL).toArray q B ∧
      Steps p.tables e below (T.setTop g) ((B.U.setTop { g with stack := rest }).pushFrame (.throwing q))) := by
  obtain ⟨mk, methM, hnamed, hmethM, hstM, habM⟩ := Cond.instanceMethod_spec hinst
  obtain ⟨m8, methM', cM, hn8, hmethM', -, -, -, -, -, -, hsigM⟩ := Cond.codeWith_spec hcode
  cases Option.some.inj (hn8.symm.trans hnamed)
  cases hmethM.symm.trans hmethM'
  obtain ⟨c2, r2, m2, q1, q2, q3, q4, kP, hkP, hkPi⟩ := Cond.selects_spec hsel
  cases hcls.symm.trans q1
  cases (State.methodFound?_of_named hnamed hy).symm.trans q2
  cases hnamed.symm.trans q3
  have hselP : selectMethod e.platform s.vm cellB.cls mk = .method mk := by rw [Launch.admits_selectMethod X.admits]; exact q4
  obtain ⟨vm₁, X₁, hstep₁⟩ := X.invokevirtual hexec hown hlink hnamed hmethM hstM hkP hkPi hy (a := b) (cell := cellB) hcell
    (fun z h => by rw [h] at hobj; cases hobj) hselP hmethM habM hkP hkPi (g := g) hg (argsL := argsL) (rest := rest) (hlen _ hsigM) hstack hdg
  rcases hK m meth c ⟨T.setVm vm₁, locs, cells, slots⟩ { g with stack := rest } (.invokevirtual index) mk (Value.ref b :: argsL).toArray X₁ hg hsize hdg hW (X₁.named hnamed) (hpre vm₁ X₁.warmed) with ⟨v, B, X', hpost, hsteps⟩ | ⟨q, B, X', hpost, hsteps⟩
  · exact Or.inl ⟨v, vm₁, B, X₁.warmed, X', hpost, fun target h => hstep₁ _ fun acts => by rw [doInvoke_state]; exact hsteps.trans h⟩
  · exact Or.inr ⟨q, vm₁, B, X₁.warmed, X', hpost, hstep₁ _ fun acts => by rw [doInvoke_state]; exact hsteps⟩
theorem vx_callSX (X : Stand p l e R s m args below meth c T locs cells slots) (hexec : p.tables.exec = Jvm.exec) {own : String} {index : Nat} {y : MethodName} {bytes : ByteArray} {maxL : Nat} {ret : Option FieldType} {hh : List (Nat × Nat × Nat × Nat)}
    (hown : s.vm.findClass own = some m.cls) (hlink : (Cond.methodLink own index y).before args s = true) (hstat : (Cond.static y).before args s = true) (hinit : (Cond.initialized y.cls).before args s = true)
    (hcode : (Cond.codeWith y bytes maxL ret hh).before args s = true) (hy : y.cls ≠ "java/lang/invoke/MethodHandle" ∧ y.cls ≠ "java/lang/invoke/VarHandle")
    {W9 : Nat} {Pre : Pt → Array Value → Prop} {Post : Pt → Array Value → Option Value → Pt → Prop} {PostX : Pt → Array Value → Addr → Pt → Prop} (hK : vx_Back l R p e below s args y 3 W9 Pre Post PostX)
    {g : JFrame} (hg : g.method = m) (hsize : g.locals.size = c.maxLocals) {argsL rest : List Value} (hlen : ∀ sig, parseMethodDescriptor y.desc = some sig → argsL.length = sig.parameters.length)
    (hstack : g.stack = argsL.reverse ++ rest) (hW : 2 * g.monitorRoom + (rest.map fun v => v.category).sum ≤ W9) (hdg : decode c.code g.pc = .ok (.invokestatic index, 3))
    (hpre : ∀ vm₁, s.WarmedH vm₁ → Pre ⟨T.setVm vm₁, locs, cells, slots⟩ argsL.toArray) :
    (∃ (v : Option Value) (vm₁ : Vm) (B : Pt), s.WarmedH vm₁ ∧ Stand p l e R s m args below meth c B.U B.locs B.cells B.slots ∧ Post ⟨T.setVm vm₁, locs, cells, slots⟩ argsL.toArray v B ∧
      ∀ target, Steps p.tables e below (B.U.setTop { g with pc := g.pc + 3, stack := v.toList ++ rest }) target → Steps p.tables e below (T.setTop g) target) ∨
    (∃ (q : Addr) (vm₁ : Vm) (B : Pt), s.WarmedH vm₁ ∧ Stand p l e R s m args below meth c B.U B.locs B.cells B.slots ∧ PostX ⟨T.setVm vm₁, locs, cells, slots⟩ argsL.toArray q B ∧
      Steps p.tables e below (T.setTop g) ((B.U.setTop { g with stack := rest }).pushFrame (.throwing q))) := by
  obtain ⟨mk, methM, cM, hnamed, hmethM, -, -, -, -, -, -, hsigM⟩ := Cond.codeWith_spec hcode
  have hstatic : methM.isStatic = true := Cond.static_spec hnamed hmethM hstat
  obtain ⟨kP, hkP, -⟩ := className_of_methodNamed hnamed
  have hinitP : kP.init = .initialized := Cond.initialized_spec (findClass_of_methodNamed hnamed) hkP hinit
  obtain ⟨vm₁, X₁, hstep₁⟩ := X.invokestatic hexec hown hlink hnamed hmethM hstatic hkP hinitP hy (g := g) hg (argsL := argsL) (rest := rest) (hlen _ hsigM) hstack hdg
  rcases hK m meth c ⟨T.setVm vm₁, locs, cells, slots⟩ { g with stack := rest } (.invokestatic index) mk argsL.toArray X₁ hg hsize hdg hW (X₁.named hnamed) (hpre vm₁ X₁.warmed) with ⟨v, B, X', hpost, hsteps⟩ | ⟨q, B, X', hpost, hsteps⟩
  · exact Or.inl ⟨v, vm₁, B, X₁.warmed, X', hpost, fun target h => hstep₁ _ fun acts => by rw [doInvoke_state]; exact hsteps.trans h⟩
  · exact Or.inr ⟨q, vm₁, B, X₁.warmed, X', hpost, hstep₁ _ fun acts => by rw [doInvoke_state]; exact hsteps⟩
theorem vx_callVW (X : Stand p l e R s m args below meth c T locs cells slots) (hexec : p.tables.exec = Jvm.exec) {own C : String} {index : Nat} {y : MethodName} {bytes : ByteArray} {maxL : Nat} {ret : Option FieldType} {hh : List (Nat × Nat × Nat × Nat)}
    (hown : s.vm.findClass own = some m.cls) (hlink : (Cond.methodLink own index y).before args s = true) (hinst : (Cond.instanceMethod y).before args s = true) (hsel : (Cond.selects C y y).before args s = true)
    (hcode : (Cond.codeWith y bytes maxL ret hh).before args s = true) (hy : y.cls ≠ "java/lang/invoke/MethodHandle" ∧ y.cls ≠ "java/lang/invoke/VarHandle")
    {W9 : Nat} {Pre : Pt → Array Value → Prop} {Post : Pt → Array Value → Option Value → Pt → Prop} (hK : Back l R p e below s args y 3 W9 Pre Post)
    {b : Addr} {cellB : Cell} (hcell : T.heap[b]? = some cellB) (hobj : cellB.vm.isStatics = false) (hcls : s.vm.findClass C = some cellB.cls)
    {g : JFrame} (hg : g.method = m) (hsize : g.locals.size = c.maxLocals) {argsL rest : List Value} (hlen : ∀ sig, parseMethodDescriptor y.desc = some sig → argsL.length = sig.parameters.length)
    (hstack : g.stack = argsL.reverse ++ .ref b :: rest) (hW : 2 * g.monitorRoom + (rest.map fun v => v.category).sum ≤ W9) (hdg : decode c.code g.pc = .ok (.invokevirtual index, 3))
    (hpre : ∀ vm₁, s.WarmedH vm₁ → Pre ⟨T.setVm vm₁, locs, cells, slots⟩ (Value.ref b :: argsL).toArray) :
    ∃ (v : Option Value) (vm₁ : Vm) (B : Pt), s.WarmedH vm₁ ∧ Stand p l e R s m args below meth c B.U B.locs B.cells B.slots ∧ Post ⟨T.setVm vm₁, locs, cells, slots⟩ (Value.ref b :: argsL).toArray v B ∧
      ∀ target, Steps p.tables e below (B.U.setTop { g with pc := g.pc + 3, stack := v.toList ++ rest }) target → Steps p.tables e below (T.setTop g) target := by
  obtain ⟨mk, methM, hnamed, hmethM, hstM, habM⟩ := Cond.instanceMethod_spec hinst
  obtain ⟨m8, methM', cM, hn8, hmethM', -, -, -, -, -, -, hsigM⟩ := Cond.codeWith_spec hcode
  cases Option.some.inj (hn8.symm.trans hnamed)
  cases hmethM.symm.trans hmethM'
  obtain ⟨c2, r2, m2, q1, q2, q3, q4, kP, hkP, hkPi⟩ := Cond.selects_spec hsel
  cases hcls.symm.trans q1
  cases (State.methodFound?_of_named hnamed hy).symm.trans q2
  cases hnamed.symm.trans q3
  have hselP : selectMethod e.platform s.vm cellB.cls mk = .method mk := by rw [Launch.admits_selectMethod X.admits]; exact q4
  obtain ⟨vm₁, X₁, hstep₁⟩ := X.invokevirtual hexec hown hlink hnamed hmethM hstM hkP hkPi hy (a := b) (cell := cellB) hcell
    (fun z h => by rw [h] at hobj; cases hobj) hselP hmethM habM hkP hkPi (g := g) hg (argsL := argsL) (rest := rest) (hlen _ hsigM) hstack hdg
  obtain ⟨v, B, X', hpost, hsteps⟩ := hK m meth c ⟨T.setVm vm₁, locs, cells, slots⟩ { g with stack := rest } (.invokevirtual index) mk (Value.ref b :: argsL).toArray X₁ hg hsize hdg hW (X₁.named hnamed) (hpre vm₁ X₁.warmed)
  exact ⟨v, vm₁, B, X₁.warmed, X', hpost, fun target h => hstep₁ _ fun acts => by rw [doInvoke_state]; exact hsteps.trans h⟩
abbrev vx_CVW (R : Room) (s : State) (args : Array Value) (own C : String) (index : Nat) (y : MethodName) (bytes : ByteArray) (maxL : Nat) (ret : Option FieldType) (hh : List (Nat × Nat × Nat × Nat)) (ws : List Cond) (rm : Room) (mc ms n : Nat) : Prop :=
  (rm.cells = mc ∧ rm.slots = ms ∧ rm.frames + 1 ≤ R.frames ∧ 8 + (maxL + 11) + rm.locals ≤ R.locals ∧ (∀ w ∈ ws, ∀ (a' : Array Value) (U : State), s.WarmedH U.vm → w.before a' U = true) ∧ Cond.codeWith y bytes maxL ret hh ∈ ws) ∧
  (Cond.codeWith y bytes maxL ret hh).before args s = true ∧ (Cond.initialized y.cls).before args s = true ∧ (y.cls ≠ "java/lang/invoke/MethodHandle" ∧ y.cls ≠ "java/lang/invoke/VarHandle") ∧
  (∀ sig, parseMethodDescriptor y.desc = some sig → n = sig.parameters.length) ∧ (Cond.methodLink own index y).before args s = true ∧ (Cond.instanceMethod y).before args s = true ∧ (Cond.selects C y y).before args s = true
theorem vx_cwVW {own C : String} {index maxL mc ms : Nat} {y : MethodName} {bytes : ByteArray} {ret : Option FieldType} {hh : List (Nat × Nat × Nat × Nat)} {Ts ws ws' : List Cond} {rm : Room} (n : Nat) (ht : ∀ w ∈ Ts, w.before args s = true) (hT : GoodIn Ts (wsV own index C y ws)) (hw : ws = Cond.codeWith y bytes maxL ret hh :: ws') (hrc : rm.cells = mc) (hrs : rm.slots = ms)
    (hd : y.cls = C ∧ y.cls ≠ "java/lang/invoke/MethodHandle" ∧ y.cls ≠ "java/lang/invoke/VarHandle" ∧ (parseMethodDescriptor y.desc).map (fun d => d.parameters.length) = some n) (hR : rm.frames + 1 ≤ R.frames ∧ 8 + (maxL + 11) + rm.locals ≤ R.locals) :
    vx_CVW R s args own C index y bytes maxL ret hh ws rm mc ms n := by
  obtain ⟨hC, hd⟩ := hd
  subst hC
  have ok : ∀ w ∈ wsV own index y.cls y ws, w.before args s = true := fun w h => ht w (hT w h).1
  have hG : GoodIn Ts ws := fun w h => hT w (by unfold wsV; exact List.mem_append_right _ h)
  have hc : Cond.codeWith y bytes maxL ret hh ∈ ws := by rw [hw]; exact List.mem_cons_self
  refine ⟨⟨hrc, hrs, hR.1, hR.2, pay_in ht hG, hc⟩, ht _ (hG _ hc).1, ok _ (by simp [wsV]), ⟨hd.1, hd.2.1⟩, fun sig h => ?_, ok _ (by simp [wsV]), ok _ (by simp [wsV]), ok _ (by simp [wsV])⟩
  have h2 := hd.2.2
  rw [h] at h2
  exact (Option.some.inj h2).symm
theorem vx_runVW {y : MethodName} {bytes cc : ByteArray} {maxL nL mc ms n index : Nat} {ret : Option FieldType} {hh : List (Nat × Nat × Nat × Nat)} {ws : List Cond} {rm : Room} {Pc : Array Value → State → Prop} {Qc : Array Value → State → Outcome → State → Prop} {free : Addr → Prop} {Ts : List Cond} {own C : String} {b : Addr} {As rest : List Value} {g : JFrame}
    (S : CallFix p m c cc nL s args Ts own) (hM : Met l y ws rm Pc Qc mc ms free) (cw : vx_CVW R s args own C index y bytes maxL ret hh ws rm mc ms n) (hp : PreV s H C b Pc As)
    (hg : g.method = m) (hn : As.length = n) (hsize : g.locals.size = nL) (hstack : g.stack = As.reverse ++ .ref b :: rest) (hW : 2 * g.monitorRoom + (rest.map fun v => v.category).sum ≤ 8) (hdg : decode cc g.pc = .ok (.invokevirtual index, 3)) (hf : cells + mc ≤ R.cells ∧ slots + ms ≤ R.slots) :
    va_Run p l e R s m args below meth c H locs cells slots mc ms g rest (Qc (Value.ref b :: As).toArray) free := by
  obtain ⟨⟨hrc, hrs, hfr, hlo, hws, hcw⟩, hcode, hini, hy, hlen, hl, hin, hse⟩ := cw
  have hK : Back l R p e below s args y 3 8 (PreOf R mc ms Pc) (PostOf Qc mc ms free) := va_backW (hh := hh) (bytes := bytes) (maxL := maxL) (ret := ret) hM hp.1 hrc hrs hfr hlo hws hcw (fun a' U hW => word_at hW (Or.inl (by first | rfl | simp [Cond.onTables, Cond.keeps, Cond.steady])) hini)
  obtain ⟨hx, hb, hml, ho, -⟩ := S
  obtain ⟨-, ⟨cellB, hcB, hoB, hclB⟩, hPc⟩ := hp
  intro T hT X
  obtain ⟨v, vm₁, ⟨U', l2, c2, s2⟩, hW₁, X', ⟨g', mk, t, L, e1, e2, hq, h1, hL, h2, h3⟩, st⟩ := vx_callVW X hx (C := C) (hh := hh) (bytes := bytes) (maxL := maxL) (ret := ret) ho hl hin hse hcode hy hK (by rw [hT]; exact hcB) hoB hclB hg (hsize.trans hml.symm) (argsL := As) (rest := rest) (fun sig h => hn.trans (hlen sig h)) hstack hW (by rw [hb]; exact hdg)
    (fun vm₁ hW₁ => ⟨hf.1, hf.2, hPc (T.setVm vm₁) hT hW₁⟩)
  dsimp only [Pt.U, Pt.locs, Pt.cells, Pt.slots] at X' e1 e2 h1 h2 h3 st
  subst h1; subst h2; subst h3
  exact ⟨v, (T.setVm vm₁).calling g' mk (Value.ref b :: As).toArray, t, U', L, hT, X', hL, e1, e2, hq, st⟩
section
variable {y : MethodName} {bytes cc : ByteArray} {maxL nL mc ms n index : Nat} {ret : Option FieldType} {ws : List Cond} {rm : Room} {Pc : Array Value → State → Prop} {Qc : Array Value → State → Outcome → State → Prop} {XC : String → State → State → Prop} {free : Addr → Prop} {Ts : List Cond} {own C : String} {b : Addr} {As rest : List Value} {g : JFrame}
theorem vx_runVX {hh : List (Nat × Nat × Nat × Nat)} (S : CallFix p m c cc nL s args Ts own) (hM : vx_Met l y ws rm Pc Qc XC mc ms free) (cw : vx_CVW R s args own C index y bytes maxL ret hh ws rm mc ms n) (hp : PreV s H C b Pc As)
    (hg : g.method = m) (hn : As.length = n) (hsize : g.locals.size = nL) (hstack : g.stack = As.reverse ++ .ref b :: rest) (hW : 2 * g.monitorRoom + (rest.map fun v => v.category).sum ≤ 8) (hdg : decode cc g.pc = .ok (.invokevirtual index, 3)) (hf : cells + mc ≤ R.cells ∧ slots + ms ≤ R.slots) :
    vx_Run p l e R s m args below meth c H locs cells slots mc ms g rest (Qc (Value.ref b :: As).toArray) XC free := by
  obtain ⟨⟨hrc, hrs, hfr, hlo, hws, hcw⟩, hcode, hini, hy, hlen, hl, hin, hse⟩ := cw
  have hK : vx_Back l R p e below s args y 3 8 (PreOf R mc ms Pc) (PostOf Qc mc ms free) (vx_Post XC mc ms free) := vx_backW (hh := hh) (bytes := bytes) (maxL := maxL) (ret := ret) hM hp.1 hrc hrs hfr hlo hws hcw (fun a' U hW => word_at hW (Or.inl (by first | rfl | simp [Cond.onTables, Cond.keeps, Cond.steady])) hini)
  obtain ⟨hx, hb, hml, ho, -⟩ := S
  obtain ⟨-, ⟨cellB, hcB, hoB, hclB⟩, hPc⟩ := hp
  intro T hT X
  rcases vx_callVX X hx (C := C) (hh := hh) (bytes := bytes) (maxL := maxL) (ret := ret) ho hl hin hse hcode hy hK (by rw [hT]; exact hcB) hoB hclB hg (hsize.trans hml.symm) (argsL := As) (rest := rest) (fun sig h => hn.trans (hlen sig h)) hstack hW (by rw [hb]; exact hdg)
    (fun vm₁ hW₁ => ⟨hf.1, hf.2, hPc (T.setVm vm₁) hT hW₁⟩) with ⟨v, vm₁, ⟨U', l2, c2, s2⟩, hW₁, X', ⟨g', mk, t, L, e1, e2, hq, h1, hL, h2, h3⟩, st⟩ | ⟨q, vm₁, ⟨U', l2, c2, s2⟩, hW₁, X', ⟨g', mk, t, L, E, ce, e1, e2, hq, hce, hcv, hcl, h1, hL, h2, h3⟩, st⟩
  · dsimp only [Pt.U, Pt.locs, Pt.cells, Pt.slots] at X' e1 e2 h1 h2 h3 st
    subst h1; subst h2; subst h3
    exact Or.inl ⟨v, (T.setVm vm₁).calling g' mk (Value.ref b :: As).toArray, t, U', L, hT, X', hL, e1, e2, hq, st⟩
  · dsimp only [Pt.U, Pt.locs, Pt.cells, Pt.slots] at X' e1 e2 h1 h2 h3 st hcl
    subst h1; subst h2; subst h3
    exact Or.inr ⟨q, (T.setVm vm₁).calling g' mk (Value.ref b :: As).toArray, t, U', L, E, ce, hT, X', hL, e1, e2, hq, hce, hcv, vx_cls hW₁ hcl, st⟩
theorem vx_runSX {hh : List (Nat × Nat × Nat × Nat)} (S : CallFix p m c cc nL s args Ts own) (hM : vx_Met l y ws rm Pc Qc XC mc ms free) (cw : vx_CSW R s args own index y bytes maxL ret hh ws rm mc ms n) (hp : PreS s H Pc As)
    (hg : g.method = m) (hn : As.length = n) (hsize : g.locals.size = nL) (hstack : g.stack = As.reverse ++ rest) (hW : 2 * g.monitorRoom + (rest.map fun v => v.category).sum ≤ 8) (hdg : decode cc g.pc = .ok (.invokestatic index, 3)) (hf : cells + mc ≤ R.cells ∧ slots + ms ≤ R.slots) :
    vx_Run p l e R s m args below meth c H locs cells slots mc ms g rest (Qc As.toArray) XC free := by
  obtain ⟨⟨hrc, hrs, hfr, hlo, hws, hcw⟩, hcode, hini, hy, hlen, hl, hstt⟩ := cw
  have hK : vx_Back l R p e below s args y 3 8 (PreOf R mc ms Pc) (PostOf Qc mc ms free) (vx_Post XC mc ms free) := vx_backW (hh := hh) (bytes := bytes) (maxL := maxL) (ret := ret) hM hp.1 hrc hrs hfr hlo hws hcw (fun a' U hW => word_at hW (Or.inl (by first | rfl | simp [Cond.onTables, Cond.keeps, Cond.steady])) hini)
  obtain ⟨hx, hb, hml, ho, -⟩ := S
  intro T hT X
  rcases vx_callSX X hx (hh := hh) (bytes := bytes) (maxL := maxL) (ret := ret) ho hl hstt hini hcode hy hK hg (hsize.trans hml.symm) (argsL := As) (rest := rest) (fun sig h => hn.trans (hlen sig h)) hstack hW (by rw [hb]; exact hdg)
    (fun vm₁ hW₁ => ⟨hf.1, hf.2, hp.2 (T.setVm vm₁) hT hW₁⟩) with ⟨v, vm₁, ⟨U', l2, c2, s2⟩, hW₁, X', ⟨g', mk, t, L, e1, e2, hq, h1, hL, h2, h3⟩, st⟩ | ⟨q, vm₁, ⟨U', l2, c2, s2⟩, hW₁, X', ⟨g', mk, t, L, E, ce, e1, e2, hq, hce, hcv, hcl, h1, hL, h2, h3⟩, st⟩
  · dsimp only [Pt.U, Pt.locs, Pt.cells, Pt.slots] at X' e1 e2 h1 h2 h3 st
    subst h1; subst h2; subst h3
    exact Or.inl ⟨v, (T.setVm vm₁).calling g' mk As.toArray, t, U', L, hT, X', hL, e1, e2, hq, st⟩
  · dsimp only [Pt.U, Pt.locs, Pt.cells, Pt.slots] at X' e1 e2 h1 h2 h3 st hcl
    subst h1; subst h2; subst h3
    exact Or.inr ⟨q, (T.setVm vm₁).calling g' mk As.toArray, t, U', L, E, ce, hT, X', hL, e1, e2, hq, hce, hcv, vx_cls hW₁ hcl, st⟩
end
end VXH
theorem vx_ofWH {l : Launch} {y : MethodName} {ws ws' : List Cond} {rm : Room} {Pc : Array Value → State → Prop} {Qc : Array Value → State → Outcome → State → Prop} {XC : String → State → State → Prop} {mc ms : Nat} {free : Addr → Prop} {cc : ByteArray} {maxL : Nat} {ret : Option FieldType} {hh : List (Nat × Nat × Nat × Nat)}
    (hy : plainName y.cls = true) (hw : ws = Cond.codeWith y cc maxL ret hh :: ws')
    (body : ∀ p e s m args below meth c s₁, BodyLoose p l y (headSpec ws rm) cc maxL ret e s m args below meth c s₁ → c.maxLocals = maxL → Pc args s →
      W p l e (headSpec ws rm).room s m args below meth c s.heap [] 0 0 (vx_MQ below Qc XC args s mc ms free) (entryFrame m args maxL)) : vx_Met l y ws rm Pc Qc XC mc ms free := by
  refine MetFree.of_bodyS (code := cc) (maxLocals := maxL) (ret := ret) hy ?_ ?_
  · intro args s m h hn
    obtain ⟨m9, meth, c, hn9, h1, h2, h3, h4, -, h5, h6, -⟩ := Cond.codeWith_spec (atoms_spec (ws := ws) h _ (by rw [hw]; exact List.mem_cons_self))
    cases hn.symm.trans hn9
    exact ⟨meth, c, h1, h2, h3, h4, h5, h6⟩
  · intro p e s m args below meth c s₁ B hml hP _
    have hh0 : s₁.heap = s.heap := by rw [B.state]; rfl
    obtain ⟨t, a1, o, b1, b2, b3⟩ := body p e s m args below meth c s₁ B hml hP s₁ hh0 (Stand.of_body B)
    exact ⟨t, o, a1, b1, b2, b3⟩
/-! ===== END ===== -/
end
section
/-! ===== BEGIN printed: names, fields, word lists, decode rows ===== -/
def RX0 : String := "GoodsKeeper$Hunt"
def TX0 : u_T := fun k => match k with
  | 0 => ("GoodsKeeper$Hunt", "rows", "[[J", true)
  | 1 => ("GoodsKeeper$Hunt", "rowNames", "[I", true)
  | 2 => ("GoodsKeeper$Hunt", "columnNames", "[I", true)
  | 3 => ("GoodsKeeper$Hunt", "columns", "I", false)
  | _ => ("GoodsKeeper$Hunt", "scale", "J", false)
def tyX0 : Nat → FieldType := fun k => match k with
  | 0 => .array (.array .long)
  | 1 => .array .int
  | 2 => .array .int
  | 3 => .int
  | _ => .long
abbrev wsX00 : List Cond := u_ws RX0 TX0 5
theorem nmX0 : ∀ a, a < 5 → ∀ b, b < 5 → a ≠ b → (TX0 a).2.1 ≠ (TX0 b).2.1 := by decide +kernel
theorem tyX0_ok : ∀ k, k < 5 → parseFieldDescriptor (TX0 k).2.2.1 = some (tyX0 k) := by decide +kernel
abbrev cX0_init : ByteArray := prog_2_method_1_code
def yX0_init : MethodName := ⟨RX0, "<init>", "()V"⟩
abbrev cX0_begin : ByteArray := prog_2_method_2_code
def yX0_begin : MethodName := ⟨RX0, "begin", "()V"⟩
abbrev cX0_enter : ByteArray := prog_2_method_3_code
def yX0_enter : MethodName := ⟨RX0, "enter", "(LGoodsKeeper$Rule;)V"⟩
abbrev cX0_findsGain : ByteArray := prog_2_method_4_code
def yX0_findsGain : MethodName := ⟨RX0, "findsGain", "()Z"⟩
abbrev cX0_risingColumn : ByteArray := prog_2_method_5_code
def yX0_risingColumn : MethodName := ⟨RX0, "risingColumn", "()I"⟩
abbrev cX0_hinderingRow : ByteArray := prog_2_method_6_code
def yX0_hinderingRow : MethodName := ⟨RX0, "hinderingRow", "(I)I"⟩
abbrev cX0_exchange : ByteArray := prog_2_method_7_code
def yX0_exchange : MethodName := ⟨RX0, "exchange", "(II)V"⟩
abbrev cX0_replaceIn : ByteArray := prog_2_method_8_code
def yX0_replaceIn : MethodName := ⟨RX0, "replaceIn", "(IIIJ)V"⟩
def RX1 : String := "GoodsKeeper$Offer"
def TX1 : u_T := fun k => match k with
  | 0 => ("GoodsKeeper$Offer", "first", "LGoodsKeeper$Side;", true)
  | 1 => ("GoodsKeeper$Offer", "second", "LGoodsKeeper$Side;", true)
  | _ => ("GoodsKeeper$Offer", "open", "Z", false)
def tyX1 : Nat → FieldType := fun k => match k with
  | 0 => .object "GoodsKeeper$Side"
  | 1 => .object "GoodsKeeper$Side"
  | _ => .boolean
abbrev wsX10 : List Cond := u_ws RX1 TX1 3
theorem nmX1 : ∀ a, a < 3 → ∀ b, b < 3 → a ≠ b → (TX1 a).2.1 ≠ (TX1 b).2.1 := by decide +kernel
theorem tyX1_ok : ∀ k, k < 3 → parseFieldDescriptor (TX1 k).2.2.1 = some (tyX1 k) := by decide +kernel
abbrev cX1_init : ByteArray := prog_3_method_1_code
def yX1_init : MethodName := ⟨RX1, "<init>", "(LGoodsKeeper$Side;LGoodsKeeper$Side;)V"⟩
def RX2 : String := "GoodsKeeper$Player"
def TX2 : u_T := fun k => match k with
  | 0 => ("GoodsKeeper$Player", "number", "I", true)
  | 1 => ("GoodsKeeper$Player", "goods", "[I", true)
  | 2 => ("GoodsKeeper$Player", "latestDeed", "I", false)
  | _ => ("GoodsKeeper$Player", "latestAnswer", "I", false)
def tyX2 : Nat → FieldType := fun k => match k with
  | 0 => .int
  | 1 => .array .int
  | 2 => .int
  | _ => .int
abbrev wsX20 : List Cond := u_ws RX2 TX2 4
theorem nmX2 : ∀ a, a < 4 → ∀ b, b < 4 → a ≠ b → (TX2 a).2.1 ≠ (TX2 b).2.1 := by decide +kernel
theorem tyX2_ok : ∀ k, k < 4 → parseFieldDescriptor (TX2 k).2.2.1 = some (tyX2 k) := by decide +kernel
abbrev cX2_init : ByteArray := prog_4_method_1_code
def yX2_init : MethodName := ⟨RX2, "<init>", "(I)V"⟩
abbrev cX2_answerTo : ByteArray := prog_4_method_2_code
def yX2_answerTo : MethodName := ⟨RX2, "answerTo", "(LGoodsKeeper$Rule;I)I"⟩
def RX3 : String := "GoodsKeeper$Rule"
def TX3 : u_T := fun k => match k with
  | 0 => ("GoodsKeeper$Rule", "source", "Z", true)
  | 1 => ("GoodsKeeper$Rule", "in", "[I", true)
  | 2 => ("GoodsKeeper$Rule", "out", "[I", true)
  | _ => ("GoodsKeeper$Rule", "times", "I", false)
def tyX3 : Nat → FieldType := fun k => match k with
  | 0 => .boolean
  | 1 => .array .int
  | 2 => .array .int
  | _ => .int
abbrev wsX30 : List Cond := u_ws RX3 TX3 4
theorem nmX3 : ∀ a, a < 4 → ∀ b, b < 4 → a ≠ b → (TX3 a).2.1 ≠ (TX3 b).2.1 := by decide +kernel
theorem tyX3_ok : ∀ k, k < 4 → parseFieldDescriptor (TX3 k).2.2.1 = some (tyX3 k) := by decide +kernel
abbrev cX3_init : ByteArray := prog_5_method_1_code
def yX3_init : MethodName := ⟨RX3, "<init>", "(Z)V"⟩
abbrev cX3_won : ByteArray := prog_5_method_2_code
def yX3_won : MethodName := ⟨RX3, "won", "(I)I"⟩
def RX4 : String := "GoodsKeeper$Side"
def TX4 : u_T := fun k => match k with
  | 0 => ("GoodsKeeper$Side", "giver", "LGoodsKeeper$Player;", true)
  | 1 => ("GoodsKeeper$Side", "many", "I", true)
  | 2 => ("GoodsKeeper$Side", "kind", "I", true)
  | 3 => ("GoodsKeeper$Side", "thing", "LGoodsKeeper$Single;", true)
  | _ => ("GoodsKeeper$Side", "notedWear", "I", true)
def tyX4 : Nat → FieldType := fun k => match k with
  | 0 => .object "GoodsKeeper$Player"
  | 1 => .int
  | 2 => .int
  | 3 => .object "GoodsKeeper$Single"
  | _ => .int
abbrev wsX40 : List Cond := u_ws RX4 TX4 5
theorem nmX4 : ∀ a, a < 5 → ∀ b, b < 5 → a ≠ b → (TX4 a).2.1 ≠ (TX4 b).2.1 := by decide +kernel
theorem tyX4_ok : ∀ k, k < 5 → parseFieldDescriptor (TX4 k).2.2.1 = some (tyX4 k) := by decide +kernel
abbrev cX4_init : ByteArray := prog_6_method_1_code
def yX4_init : MethodName := ⟨RX4, "<init>", "(LGoodsKeeper$Player;IILGoodsKeeper$Single;)V"⟩
abbrev cX4_hasTooFew : ByteArray := prog_6_method_2_code
def yX4_hasTooFew : MethodName := ⟨RX4, "hasTooFew", "()Z"⟩
abbrev cX4_wouldHaveTooMany : ByteArray := prog_6_method_3_code
def yX4_wouldHaveTooMany : MethodName := ⟨RX4, "wouldHaveTooMany", "(LGoodsKeeper$Side;)Z"⟩
abbrev cX4_isWornSince : ByteArray := prog_6_method_4_code
def yX4_isWornSince : MethodName := ⟨RX4, "isWornSince", "()Z"⟩
def RX5 : String := "GoodsKeeper$Single"
def TX5 : u_T := fun k => match k with
  | 0 => ("GoodsKeeper$Single", "number", "I", true)
  | 1 => ("GoodsKeeper$Single", "bound", "Z", true)
  | 2 => ("GoodsKeeper$Single", "room", "I", true)
  | 3 => ("GoodsKeeper$Single", "linePlayers", "[I", true)
  | 4 => ("GoodsKeeper$Single", "lineDays", "[I", true)
  | 5 => ("GoodsKeeper$Single", "lineLength", "I", false)
  | 6 => ("GoodsKeeper$Single", "wear", "I", false)
  | 7 => ("GoodsKeeper$Single", "lentUntil", "I", false)
  | 8 => ("GoodsKeeper$Single", "lender", "LGoodsKeeper$Player;", false)
  | 9 => ("GoodsKeeper$Single", "owner", "LGoodsKeeper$Player;", false)
  | _ => ("GoodsKeeper$Single", "holder", "LGoodsKeeper$Single;", false)
def tyX5 : Nat → FieldType := fun k => match k with
  | 0 => .int
  | 1 => .boolean
  | 2 => .int
  | 3 => .array .int
  | 4 => .array .int
  | 5 => .int
  | 6 => .int
  | 7 => .int
  | 8 => .object "GoodsKeeper$Player"
  | 9 => .object "GoodsKeeper$Player"
  | _ => .object "GoodsKeeper$Single"
abbrev wsX50 : List Cond := u_ws RX5 TX5 11
theorem nmX5 : ∀ a, a < 11 → ∀ b, b < 11 → a ≠ b → (TX5 a).2.1 ≠ (TX5 b).2.1 := by decide +kernel
theorem tyX5_ok : ∀ k, k < 11 → parseFieldDescriptor (TX5 k).2.2.1 = some (tyX5 k) := by decide +kernel
abbrev cX5_init : ByteArray := prog_7_method_1_code
def yX5_init : MethodName := ⟨RX5, "<init>", "(IZI)V"⟩
abbrev cX5_isBroken : ByteArray := prog_7_method_2_code
def yX5_isBroken : MethodName := ⟨RX5, "isBroken", "()Z"⟩
abbrev cX5_isLent : ByteArray := prog_7_method_3_code
def yX5_isLent : MethodName := ⟨RX5, "isLent", "()Z"⟩
abbrev cX5_passTo : ByteArray := prog_7_method_4_code
def yX5_passTo : MethodName := ⟨RX5, "passTo", "(LGoodsKeeper$Player;I)V"⟩
abbrev cX5_endLoan : ByteArray := prog_7_method_5_code
def yX5_endLoan : MethodName := ⟨RX5, "endLoan", "()V"⟩
abbrev cX5_liesWithin : ByteArray := prog_7_method_6_code
def yX5_liesWithin : MethodName := ⟨RX5, "liesWithin", "(LGoodsKeeper$Single;)Z"⟩
def RX6 : String := "GoodsKeeper$Things"
def TX6 : u_T := fun k => match k with
  | _ => ("GoodsKeeper$Things", "singles", "Ljava/util/ArrayList;", true)
def tyX6 : Nat → FieldType := fun k => match k with
  | _ => .object "java/util/ArrayList"
abbrev wsX60 : List Cond := u_ws RX6 TX6 1
theorem nmX6 : ∀ a, a < 1 → ∀ b, b < 1 → a ≠ b → (TX6 a).2.1 ≠ (TX6 b).2.1 := by decide +kernel
theorem tyX6_ok : ∀ k, k < 1 → parseFieldDescriptor (TX6 k).2.2.1 = some (tyX6 k) := by decide +kernel
abbrev cX6_init : ByteArray := prog_8_method_1_code
def yX6_init : MethodName := ⟨RX6, "<init>", "()V"⟩
abbrev cX6_size : ByteArray := prog_8_method_2_code
def yX6_size : MethodName := ⟨RX6, "size", "()I"⟩
abbrev cX6_add : ByteArray := prog_8_method_3_code
def yX6_add : MethodName := ⟨RX6, "add", "(LGoodsKeeper$Single;)V"⟩
abbrev cX6_at : ByteArray := prog_8_method_4_code
def yX6_at : MethodName := ⟨RX6, "at", "(I)LGoodsKeeper$Single;"⟩
abbrev cX6_mayLieIn : ByteArray := prog_8_method_5_code
def yX6_mayLieIn : MethodName := ⟨RX6, "mayLieIn", "(LGoodsKeeper$Single;LGoodsKeeper$Single;)Z"⟩
abbrev cX6_mayLeave : ByteArray := prog_8_method_6_code
def yX6_mayLeave : MethodName := ⟨RX6, "mayLeave", "(LGoodsKeeper$Single;)Z"⟩
abbrev cX6_passOn : ByteArray := prog_8_method_7_code
def yX6_passOn : MethodName := ⟨RX6, "passOn", "(LGoodsKeeper$Single;LGoodsKeeper$Player;I)V"⟩
abbrev cX6_breakUp : ByteArray := prog_8_method_8_code
def yX6_breakUp : MethodName := ⟨RX6, "breakUp", "(LGoodsKeeper$Single;)V"⟩
abbrev cX6_bringBack : ByteArray := prog_8_method_9_code
def yX6_bringBack : MethodName := ⟨RX6, "bringBack", "(I)V"⟩
abbrev cX6_nextDue : ByteArray := prog_8_method_10_code
def yX6_nextDue : MethodName := ⟨RX6, "nextDue", "(I)LGoodsKeeper$Single;"⟩
abbrev cX6_rightWithin : ByteArray := prog_8_method_11_code
def yX6_rightWithin : MethodName := ⟨RX6, "rightWithin", "(LGoodsKeeper$Single;)I"⟩
abbrev cX6_allWithin : ByteArray := prog_8_method_12_code
def yX6_allWithin : MethodName := ⟨RX6, "allWithin", "(LGoodsKeeper$Single;)I"⟩
abbrev cX6_countBroken : ByteArray := prog_8_method_13_code
def yX6_countBroken : MethodName := ⟨RX6, "countBroken", "()I"⟩
abbrev cX6_countLent : ByteArray := prog_8_method_14_code
def yX6_countLent : MethodName := ⟨RX6, "countLent", "()I"⟩
abbrev cX6_goesWith : ByteArray := prog_8_method_15_code
def yX6_goesWith : MethodName := ⟨RX6, "goesWith", "(LGoodsKeeper$Single;LGoodsKeeper$Single;)Z"⟩
def RX7 : String := "GoodsKeeper"
def TX7 : u_T := fun k => match k with
  | 0 => ("GoodsKeeper", "players", "Ljava/util/ArrayList;", true)
  | 1 => ("GoodsKeeper", "rules", "Ljava/util/ArrayList;", true)
  | 2 => ("GoodsKeeper", "offers", "Ljava/util/ArrayList;", true)
  | 3 => ("GoodsKeeper", "things", "LGoodsKeeper$Things;", true)
  | 4 => ("GoodsKeeper", "hunt", "LGoodsKeeper$Hunt;", true)
  | 5 => ("GoodsKeeper", "weights", "[I", true)
  | 6 => ("GoodsKeeper", "allMade", "[J", true)
  | 7 => ("GoodsKeeper", "allBroken", "[J", true)
  | 8 => ("GoodsKeeper", "deedsDone", "I", false)
  | _ => ("GoodsKeeper", "today", "I", false)
def tyX7 : Nat → FieldType := fun k => match k with
  | 0 => .object "java/util/ArrayList"
  | 1 => .object "java/util/ArrayList"
  | 2 => .object "java/util/ArrayList"
  | 3 => .object "GoodsKeeper$Things"
  | 4 => .object "GoodsKeeper$Hunt"
  | 5 => .array .int
  | 6 => .array .long
  | 7 => .array .long
  | 8 => .int
  | _ => .int
abbrev wsX70 : List Cond := u_ws RX7 TX7 10
theorem nmX7 : ∀ a, a < 10 → ∀ b, b < 10 → a ≠ b → (TX7 a).2.1 ≠ (TX7 b).2.1 := by decide +kernel
theorem tyX7_ok : ∀ k, k < 10 → parseFieldDescriptor (TX7 k).2.2.1 = some (tyX7 k) := by decide +kernel
abbrev cX7_init : ByteArray := prog_1_method_1_code
def yX7_init : MethodName := ⟨RX7, "<init>", "()V"⟩
abbrev cX7_player : ByteArray := prog_1_method_2_code
def yX7_player : MethodName := ⟨RX7, "player", "()I"⟩
abbrev cX7_rule : ByteArray := prog_1_method_3_code
def yX7_rule : MethodName := ⟨RX7, "rule", "(Z)I"⟩
abbrev cX7_part : ByteArray := prog_1_method_4_code
def yX7_part : MethodName := ⟨RX7, "part", "(IIZI)V"⟩
abbrev cX7_deed : ByteArray := prog_1_method_5_code
def yX7_deed : MethodName := ⟨RX7, "deed", "(IIII)I"⟩
abbrev cX7_has : ByteArray := prog_1_method_6_code
def yX7_has : MethodName := ⟨RX7, "has", "(II)I"⟩
abbrev cX7_sum : ByteArray := prog_1_method_7_code
def yX7_sum : MethodName := ⟨RX7, "sum", "(IZ)J"⟩
abbrev cX7_carryOut : ByteArray := prog_1_method_8_code
def yX7_carryOut : MethodName := ⟨RX7, "carryOut", "(LGoodsKeeper$Player;LGoodsKeeper$Rule;I)V"⟩
abbrev cX7_single : ByteArray := prog_1_method_9_code
def yX7_single : MethodName := ⟨RX7, "single", "(IZI)I"⟩
abbrev cX7_put : ByteArray := prog_1_method_10_code
def yX7_put : MethodName := ⟨RX7, "put", "(II)Z"⟩
abbrev cX7_take : ByteArray := prog_1_method_11_code
def yX7_take : MethodName := ⟨RX7, "take", "(I)Z"⟩
abbrev cX7_give : ByteArray := prog_1_method_12_code
def yX7_give : MethodName := ⟨RX7, "give", "(II)Z"⟩
abbrev cX7_lend : ByteArray := prog_1_method_13_code
def yX7_lend : MethodName := ⟨RX7, "lend", "(III)Z"⟩
abbrev cX7_wear : ByteArray := prog_1_method_14_code
def yX7_wear : MethodName := ⟨RX7, "wear", "(II)I"⟩
abbrev cX7_days : ByteArray := prog_1_method_15_code
def yX7_days : MethodName := ⟨RX7, "days", "(I)I"⟩
abbrev cX7_look : ByteArray := prog_1_method_16_code
def yX7_look : MethodName := ⟨RX7, "look", "(II)I"⟩
abbrev cX7_line : ByteArray := prog_1_method_17_code
def yX7_line : MethodName := ⟨RX7, "line", "(IIZ)I"⟩
abbrev cX7_offer : ByteArray := prog_1_method_18_code
def yX7_offer : MethodName := ⟨RX7, "offer", "(IIIIIIII)I"⟩
abbrev cX7_agree : ByteArray := prog_1_method_19_code
def yX7_agree : MethodName := ⟨RX7, "agree", "(I)I"⟩
abbrev cX7_withdraw : ByteArray := prog_1_method_20_code
def yX7_withdraw : MethodName := ⟨RX7, "withdraw", "(I)Z"⟩
abbrev cX7_sideOf : ByteArray := prog_1_method_21_code
def yX7_sideOf : MethodName := ⟨RX7, "sideOf", "(IIII)LGoodsKeeper$Side;"⟩
abbrev cX7_answerTo : ByteArray := prog_1_method_22_code
def yX7_answerTo : MethodName := ⟨RX7, "answerTo", "(LGoodsKeeper$Offer;)I"⟩
abbrev cX7_mayHandOver : ByteArray := prog_1_method_23_code
def yX7_mayHandOver : MethodName := ⟨RX7, "mayHandOver", "(LGoodsKeeper$Side;)Z"⟩
abbrev cX7_trade : ByteArray := prog_1_method_24_code
def yX7_trade : MethodName := ⟨RX7, "trade", "(LGoodsKeeper$Side;LGoodsKeeper$Side;)V"⟩
abbrev cX7_gains : ByteArray := prog_1_method_25_code
def yX7_gains : MethodName := ⟨RX7, "gains", "()Z"⟩
abbrev cX7_times : ByteArray := prog_1_method_26_code
def yX7_times : MethodName := ⟨RX7, "times", "(II)V"⟩
abbrev cX7_earns : ByteArray := prog_1_method_27_code
def yX7_earns : MethodName := ⟨RX7, "earns", "()Z"⟩
abbrev cX7_weigh : ByteArray := prog_1_method_28_code
def yX7_weigh : MethodName := ⟨RX7, "weigh", "(II)V"⟩
abbrev cX7_bars : ByteArray := prog_1_method_29_code
def yX7_bars : MethodName := ⟨RX7, "bars", "()Z"⟩
abbrev cX7_wonByTimes : ByteArray := prog_1_method_30_code
def yX7_wonByTimes : MethodName := ⟨RX7, "wonByTimes", "(I)I"⟩
abbrev cX7_weightWonBy : ByteArray := prog_1_method_31_code
def yX7_weightWonBy : MethodName := ⟨RX7, "weightWonBy", "(LGoodsKeeper$Rule;)I"⟩
abbrev cX7_count : ByteArray := prog_1_method_32_code
def yX7_count : MethodName := ⟨RX7, "count", "(I)I"⟩
abbrev cX7_countOpen : ByteArray := prog_1_method_33_code
def yX7_countOpen : MethodName := ⟨RX7, "countOpen", "()I"⟩
abbrev cX7_playerAt : ByteArray := prog_1_method_34_code
def yX7_playerAt : MethodName := ⟨RX7, "playerAt", "(I)LGoodsKeeper$Player;"⟩
abbrev cX7_ruleAt : ByteArray := prog_1_method_35_code
def yX7_ruleAt : MethodName := ⟨RX7, "ruleAt", "(I)LGoodsKeeper$Rule;"⟩
abbrev cX7_offerAt : ByteArray := prog_1_method_36_code
def yX7_offerAt : MethodName := ⟨RX7, "offerAt", "(I)LGoodsKeeper$Offer;"⟩
abbrev cX7_checkKind : ByteArray := prog_1_method_37_code
def yX7_checkKind : MethodName := ⟨RX7, "checkKind", "(I)V"⟩
abbrev cX7_checkRange : ByteArray := prog_1_method_38_code
def yX7_checkRange : MethodName := ⟨RX7, "checkRange", "(III)V"⟩
abbrev cX7_numberOf : ByteArray := prog_1_method_39_code
def yX7_numberOf : MethodName := ⟨RX7, "numberOf", "(LGoodsKeeper$Player;)I"⟩
def RX8 : String := "GoodsKeeperModel"
def TX8 : u_T := fun k => match k with
  | 0 => ("GoodsKeeperModel", "thrown", "I", false)
  | 1 => ("GoodsKeeperModel", "today", "I", false)
  | 2 => ("GoodsKeeperModel", "goods", "[I", true)
  | 3 => ("GoodsKeeperModel", "latest", "[I", true)
  | 4 => ("GoodsKeeperModel", "answer", "[I", true)
  | 5 => ("GoodsKeeperModel", "players", "I", false)
  | 6 => ("GoodsKeeperModel", "done", "I", false)
  | 7 => ("GoodsKeeperModel", "takes", "[I", true)
  | 8 => ("GoodsKeeperModel", "gives", "[I", true)
  | 9 => ("GoodsKeeperModel", "isSource", "[Z", true)
  | 10 => ("GoodsKeeperModel", "times", "[I", true)
  | 11 => ("GoodsKeeperModel", "weight", "[I", true)
  | 12 => ("GoodsKeeperModel", "rules", "I", false)
  | 13 => ("GoodsKeeperModel", "made", "[J", true)
  | 14 => ("GoodsKeeperModel", "broke", "[J", true)
  | 15 => ("GoodsKeeperModel", "wear", "[I", true)
  | 16 => ("GoodsKeeperModel", "isBound", "[Z", true)
  | 17 => ("GoodsKeeperModel", "room", "[I", true)
  | 18 => ("GoodsKeeperModel", "holder", "[I", true)
  | 19 => ("GoodsKeeperModel", "owner", "[I", true)
  | 20 => ("GoodsKeeperModel", "until", "[I", true)
  | 21 => ("GoodsKeeperModel", "lender", "[I", true)
  | 22 => ("GoodsKeeperModel", "lineWho", "[I", true)
  | 23 => ("GoodsKeeperModel", "lineDay", "[I", true)
  | 24 => ("GoodsKeeperModel", "lineMany", "[I", true)
  | 25 => ("GoodsKeeperModel", "singles", "I", false)
  | 26 => ("GoodsKeeperModel", "offer", "[I", true)
  | 27 => ("GoodsKeeperModel", "isOpen", "[Z", true)
  | 28 => ("GoodsKeeperModel", "offers", "I", false)
  | 29 => ("GoodsKeeperModel", "some", "[I", true)
  | 30 => ("GoodsKeeperModel", "someMany", "I", false)
  | 31 => ("GoodsKeeperModel", "bound", "[I", true)
  | _ => ("GoodsKeeperModel", "ray", "[J", true)
def tyX8 : Nat → FieldType := fun k => match k with
  | 0 => .int
  | 1 => .int
  | 2 => .array .int
  | 3 => .array .int
  | 4 => .array .int
  | 5 => .int
  | 6 => .int
  | 7 => .array .int
  | 8 => .array .int
  | 9 => .array .boolean
  | 10 => .array .int
  | 11 => .array .int
  | 12 => .int
  | 13 => .array .long
  | 14 => .array .long
  | 15 => .array .int
  | 16 => .array .boolean
  | 17 => .array .int
  | 18 => .array .int
  | 19 => .array .int
  | 20 => .array .int
  | 21 => .array .int
  | 22 => .array .int
  | 23 => .array .int
  | 24 => .array .int
  | 25 => .int
  | 26 => .array .int
  | 27 => .array .boolean
  | 28 => .int
  | 29 => .array .int
  | 30 => .int
  | 31 => .array .int
  | _ => .array .long
abbrev wsX80 : List Cond := u_ws RX8 TX8 33
theorem nmX8 : ∀ a, a < 33 → ∀ b, b < 33 → a ≠ b → (TX8 a).2.1 ≠ (TX8 b).2.1 := by decide +kernel
theorem tyX8_ok : ∀ k, k < 33 → parseFieldDescriptor (TX8 k).2.2.1 = some (tyX8 k) := by decide +kernel
abbrev cX8_init : ByteArray := prog_10_method_1_code
def yX8_init : MethodName := ⟨RX8, "<init>", "()V"⟩
abbrev cX8_thrown : ByteArray := prog_10_method_2_code
def yX8_thrown : MethodName := ⟨RX8, "thrown", "()I"⟩
abbrev cX8_throwsIf : ByteArray := prog_10_method_3_code
def yX8_throwsIf : MethodName := ⟨RX8, "throwsIf", "(ZI)Z"⟩
abbrev cX8_in : ByteArray := prog_10_method_4_code
def yX8_in : MethodName := ⟨RX8, "in", "(JJJ)Z"⟩
abbrev cX8_noPlayer : ByteArray := prog_10_method_5_code
def yX8_noPlayer : MethodName := ⟨RX8, "noPlayer", "(I)Z"⟩
abbrev cX8_noRule : ByteArray := prog_10_method_6_code
def yX8_noRule : MethodName := ⟨RX8, "noRule", "(I)Z"⟩
abbrev cX8_noSingle : ByteArray := prog_10_method_7_code
def yX8_noSingle : MethodName := ⟨RX8, "noSingle", "(I)Z"⟩
abbrev cX8_noKind : ByteArray := prog_10_method_8_code
def yX8_noKind : MethodName := ⟨RX8, "noKind", "(I)Z"⟩
abbrev cX8_player : ByteArray := prog_10_method_9_code
def yX8_player : MethodName := ⟨RX8, "player", "()I"⟩
abbrev cX8_rule : ByteArray := prog_10_method_10_code
def yX8_rule : MethodName := ⟨RX8, "rule", "(Z)I"⟩
abbrev cX8_part : ByteArray := prog_10_method_11_code
def yX8_part : MethodName := ⟨RX8, "part", "(IIZI)V"⟩
abbrev cX8_does : ByteArray := prog_10_method_12_code
def yX8_does : MethodName := ⟨RX8, "does", "(III)I"⟩
abbrev cX8_deed : ByteArray := prog_10_method_13_code
def yX8_deed : MethodName := ⟨RX8, "deed", "(IIII)I"⟩
abbrev cX8_has : ByteArray := prog_10_method_14_code
def yX8_has : MethodName := ⟨RX8, "has", "(II)I"⟩
abbrev cX8_sum : ByteArray := prog_10_method_15_code
def yX8_sum : MethodName := ⟨RX8, "sum", "(IZ)J"⟩
abbrev cX8_isWithin : ByteArray := prog_10_method_16_code
def yX8_isWithin : MethodName := ⟨RX8, "isWithin", "(II)Z"⟩
abbrev cX8_right : ByteArray := prog_10_method_17_code
def yX8_right : MethodName := ⟨RX8, "right", "(I)I"⟩
abbrev cX8_isBroken : ByteArray := prog_10_method_18_code
def yX8_isBroken : MethodName := ⟨RX8, "isBroken", "(I)Z"⟩
abbrev cX8_isLent : ByteArray := prog_10_method_19_code
def yX8_isLent : MethodName := ⟨RX8, "isLent", "(I)Z"⟩
abbrev cX8_lines : ByteArray := prog_10_method_20_code
def yX8_lines : MethodName := ⟨RX8, "lines", "(II)V"⟩
abbrev cX8_single : ByteArray := prog_10_method_21_code
def yX8_single : MethodName := ⟨RX8, "single", "(IZI)I"⟩
abbrev cX8_put : ByteArray := prog_10_method_22_code
def yX8_put : MethodName := ⟨RX8, "put", "(II)Z"⟩
abbrev cX8_take : ByteArray := prog_10_method_23_code
def yX8_take : MethodName := ⟨RX8, "take", "(I)Z"⟩
abbrev cX8_mayGo : ByteArray := prog_10_method_24_code
def yX8_mayGo : MethodName := ⟨RX8, "mayGo", "(I)Z"⟩
abbrev cX8_goes : ByteArray := prog_10_method_25_code
def yX8_goes : MethodName := ⟨RX8, "goes", "(II)V"⟩
abbrev cX8_give : ByteArray := prog_10_method_26_code
def yX8_give : MethodName := ⟨RX8, "give", "(II)Z"⟩
abbrev cX8_lend : ByteArray := prog_10_method_27_code
def yX8_lend : MethodName := ⟨RX8, "lend", "(III)Z"⟩
abbrev cX8_wear : ByteArray := prog_10_method_28_code
def yX8_wear : MethodName := ⟨RX8, "wear", "(II)I"⟩
abbrev cX8_days : ByteArray := prog_10_method_29_code
def yX8_days : MethodName := ⟨RX8, "days", "(I)I"⟩
abbrev cX8_look : ByteArray := prog_10_method_30_code
def yX8_look : MethodName := ⟨RX8, "look", "(II)I"⟩
abbrev cX8_line : ByteArray := prog_10_method_31_code
def yX8_line : MethodName := ⟨RX8, "line", "(IIZ)I"⟩
abbrev cX8_offer : ByteArray := prog_10_method_32_code
def yX8_offer : MethodName := ⟨RX8, "offer", "(IIIIIIII)I"⟩
abbrev cX8_after : ByteArray := prog_10_method_33_code
def yX8_after : MethodName := ⟨RX8, "after", "(IIIII)I"⟩
abbrev cX8_against : ByteArray := prog_10_method_34_code
def yX8_against : MethodName := ⟨RX8, "against", "(I)I"⟩
abbrev cX8_agree : ByteArray := prog_10_method_35_code
def yX8_agree : MethodName := ⟨RX8, "agree", "(I)I"⟩
abbrev cX8_withdraw : ByteArray := prog_10_method_36_code
def yX8_withdraw : MethodName := ⟨RX8, "withdraw", "(I)Z"⟩
abbrev cX8_leaves : ByteArray := prog_10_method_37_code
def yX8_leaves : MethodName := ⟨RX8, "leaves", "(II)I"⟩
abbrev cX8_bounds : ByteArray := prog_10_method_38_code
def yX8_bounds : MethodName := ⟨RX8, "bounds", "()V"⟩
abbrev cX8_two : ByteArray := prog_10_method_39_code
def yX8_two : MethodName := ⟨RX8, "two", "(IIII)J"⟩
abbrev cX8_three : ByteArray := prog_10_method_40_code
def yX8_three : MethodName := ⟨RX8, "three", "(IIIIII)J"⟩
abbrev cX8_isGain : ByteArray := prog_10_method_41_code
def yX8_isGain : MethodName := ⟨RX8, "isGain", "()Z"⟩
abbrev cX8_isGain_ : ByteArray := prog_10_method_42_code
def yX8_isGain_ : MethodName := ⟨RX8, "isGain", "(J)Z"⟩
abbrev cX8_gainsWithSome : ByteArray := prog_10_method_43_code
def yX8_gainsWithSome : MethodName := ⟨RX8, "gainsWithSome", "()Z"⟩
abbrev cX8_tries : ByteArray := prog_10_method_44_code
def yX8_tries : MethodName := ⟨RX8, "tries", "(II)Z"⟩
abbrev cX8_gains : ByteArray := prog_10_method_45_code
def yX8_gains : MethodName := ⟨RX8, "gains", "()Z"⟩
abbrev cX8_times : ByteArray := prog_10_method_46_code
def yX8_times : MethodName := ⟨RX8, "times", "(II)V"⟩
abbrev cX8_earns : ByteArray := prog_10_method_47_code
def yX8_earns : MethodName := ⟨RX8, "earns", "()Z"⟩
abbrev cX8_weigh : ByteArray := prog_10_method_48_code
def yX8_weigh : MethodName := ⟨RX8, "weigh", "(II)V"⟩
abbrev cX8_bars : ByteArray := prog_10_method_49_code
def yX8_bars : MethodName := ⟨RX8, "bars", "()Z"⟩
abbrev cX8_count : ByteArray := prog_10_method_50_code
def yX8_count : MethodName := ⟨RX8, "count", "(I)I"⟩
def RJx145de : String := "java/io/Serializable"
def TJx145de : u_T := fun k => match k with
  | _ => ("", "", "", false)
def tyJx145de : Nat → FieldType := fun k => match k with
  | _ => .int
abbrev wsJx145de0 : List Cond := u_ws RJx145de TJx145de 0
theorem nmJx145de : ∀ a, a < 0 → ∀ b, b < 0 → a ≠ b → (TJx145de a).2.1 ≠ (TJx145de b).2.1 := by decide +kernel
theorem tyJx145de_ok : ∀ k, k < 0 → parseFieldDescriptor (TJx145de k).2.2.1 = some (tyJx145de k) := by decide +kernel
def RJx8e188 : String := "java/lang/Cloneable"
def TJx8e188 : u_T := fun k => match k with
  | _ => ("", "", "", false)
def tyJx8e188 : Nat → FieldType := fun k => match k with
  | _ => .int
abbrev wsJx8e1880 : List Cond := u_ws RJx8e188 TJx8e188 0
theorem nmJx8e188 : ∀ a, a < 0 → ∀ b, b < 0 → a ≠ b → (TJx8e188 a).2.1 ≠ (TJx8e188 b).2.1 := by decide +kernel
theorem tyJx8e188_ok : ∀ k, k < 0 → parseFieldDescriptor (TJx8e188 k).2.2.1 = some (tyJx8e188 k) := by decide +kernel
def RJxab1ab : String := "java/lang/Iterable"
def TJxab1ab : u_T := fun k => match k with
  | _ => ("", "", "", false)
def tyJxab1ab : Nat → FieldType := fun k => match k with
  | _ => .int
abbrev wsJxab1ab0 : List Cond := u_ws RJxab1ab TJxab1ab 0
theorem nmJxab1ab : ∀ a, a < 0 → ∀ b, b < 0 → a ≠ b → (TJxab1ab a).2.1 ≠ (TJxab1ab b).2.1 := by decide +kernel
theorem tyJxab1ab_ok : ∀ k, k < 0 → parseFieldDescriptor (TJxab1ab k).2.2.1 = some (tyJxab1ab k) := by decide +kernel
def RJ9 : String := "java/lang/Math"
def TJ9 : u_T := fun k => match k with
  | _ => ("", "", "", false)
def tyJ9 : Nat → FieldType := fun k => match k with
  | _ => .int
abbrev wsJ90 : List Cond := u_ws RJ9 TJ9 0
theorem nmJ9 : ∀ a, a < 0 → ∀ b, b < 0 → a ≠ b → (TJ9 a).2.1 ≠ (TJ9 b).2.1 := by decide +kernel
theorem tyJ9_ok : ∀ k, k < 0 → parseFieldDescriptor (TJ9 k).2.2.1 = some (tyJ9 k) := by decide +kernel
abbrev cJ9_max_7cf53 : ByteArray := prog_17_method_65_code
def yJ9_max_7cf53 : MethodName := ⟨RJ9, "max", "(II)I"⟩
abbrev cJ9_min_7cf53 : ByteArray := prog_17_method_69_code
def yJ9_min_7cf53 : MethodName := ⟨RJ9, "min", "(II)I"⟩
def RJ0 : String := "java/lang/String"
def TJ0 : u_T := fun k => match k with
  | _ => ("", "", "", false)
def tyJ0 : Nat → FieldType := fun k => match k with
  | _ => .int
abbrev wsJ00 : List Cond := u_ws RJ0 TJ0 0
theorem nmJ0 : ∀ a, a < 0 → ∀ b, b < 0 → a ≠ b → (TJ0 a).2.1 ≠ (TJ0 b).2.1 := by decide +kernel
theorem tyJ0_ok : ∀ k, k < 0 → parseFieldDescriptor (TJ0 k).2.2.1 = some (tyJ0 k) := by decide +kernel
def RJ10 : String := "java/lang/System"
def TJ10 : u_T := fun k => match k with
  | _ => ("", "", "", false)
def tyJ10 : Nat → FieldType := fun k => match k with
  | _ => .int
abbrev wsJ100 : List Cond := u_ws RJ10 TJ10 0
theorem nmJ10 : ∀ a, a < 0 → ∀ b, b < 0 → a ≠ b → (TJ10 a).2.1 ≠ (TJ10 b).2.1 := by decide +kernel
theorem tyJ10_ok : ∀ k, k < 0 → parseFieldDescriptor (TJ10 k).2.2.1 = some (tyJ10 k) := by decide +kernel
def RJxa1e45 : String := "java/util/AbstractCollection"
def TJxa1e45 : u_T := fun k => match k with
  | _ => ("", "", "", false)
def tyJxa1e45 : Nat → FieldType := fun k => match k with
  | _ => .int
abbrev wsJxa1e450 : List Cond := u_ws RJxa1e45 TJxa1e45 0
theorem nmJxa1e45 : ∀ a, a < 0 → ∀ b, b < 0 → a ≠ b → (TJxa1e45 a).2.1 ≠ (TJxa1e45 b).2.1 := by decide +kernel
theorem tyJxa1e45_ok : ∀ k, k < 0 → parseFieldDescriptor (TJxa1e45 k).2.2.1 = some (tyJxa1e45 k) := by decide +kernel
abbrev cJxa1e45_init_da8c8 : ByteArray := prog_23_method_1_code
def yJxa1e45_init_da8c8 : MethodName := ⟨RJxa1e45, "<init>", "()V"⟩
def RJxc12de : String := "java/util/AbstractList"
def TJxc12de : u_T := fun k => match k with
  | _ => ("", "", "", false)
def tyJxc12de : Nat → FieldType := fun k => match k with
  | _ => .int
abbrev wsJxc12de0 : List Cond := u_ws RJxc12de TJxc12de 0
theorem nmJxc12de : ∀ a, a < 0 → ∀ b, b < 0 → a ≠ b → (TJxc12de a).2.1 ≠ (TJxc12de b).2.1 := by decide +kernel
theorem tyJxc12de_ok : ∀ k, k < 0 → parseFieldDescriptor (TJxc12de k).2.2.1 = some (tyJxc12de k) := by decide +kernel
abbrev cJxc12de_init_da8c8 : ByteArray := prog_24_method_1_code
def yJxc12de_init_da8c8 : MethodName := ⟨RJxc12de, "<init>", "()V"⟩
def RJx4a65c : String := "java/util/ArrayList"
def TJx4a65c : u_T := fun k => match k with
  | 0 => ("java/util/AbstractList", "modCount", "I", false)
  | 1 => ("java/util/ArrayList", "elementData", "[Ljava/lang/Object;", false)
  | _ => ("java/util/ArrayList", "size", "I", false)
def tyJx4a65c : Nat → FieldType := fun k => match k with
  | 0 => .int
  | 1 => .array (.object "java/lang/Object")
  | _ => .int
abbrev wsJx4a65c0 : List Cond := u_ws RJx4a65c TJx4a65c 3
theorem nmJx4a65c : ∀ a, a < 3 → ∀ b, b < 3 → a ≠ b → (TJx4a65c a).2.1 ≠ (TJx4a65c b).2.1 := by decide +kernel
theorem tyJx4a65c_ok : ∀ k, k < 3 → parseFieldDescriptor (TJx4a65c k).2.2.1 = some (tyJx4a65c k) := by decide +kernel
abbrev cJx4a65c_init_da8c8 : ByteArray := prog_25_method_2_code
def yJx4a65c_init_da8c8 : MethodName := ⟨RJx4a65c, "<init>", "()V"⟩
abbrev cJx4a65c_grow_92f84 : ByteArray := prog_25_method_6_code
def yJx4a65c_grow_92f84 : MethodName := ⟨RJx4a65c, "grow", "(I)[Ljava/lang/Object;"⟩
abbrev cJx4a65c_grow_d5877 : ByteArray := prog_25_method_7_code
def yJx4a65c_grow_d5877 : MethodName := ⟨RJx4a65c, "grow", "()[Ljava/lang/Object;"⟩
abbrev cJx4a65c_size_8abf5 : ByteArray := prog_25_method_8_code
def yJx4a65c_size_8abf5 : MethodName := ⟨RJx4a65c, "size", "()I"⟩
abbrev cJx4a65c_elementData_915e3 : ByteArray := prog_25_method_18_code
def yJx4a65c_elementData_915e3 : MethodName := ⟨RJx4a65c, "elementData", "(I)Ljava/lang/Object;"⟩
abbrev cJx4a65c_get_915e3 : ByteArray := prog_25_method_20_code
def yJx4a65c_get_915e3 : MethodName := ⟨RJx4a65c, "get", "(I)Ljava/lang/Object;"⟩
abbrev cJx4a65c_add_72be8 : ByteArray := prog_25_method_24_code
def yJx4a65c_add_72be8 : MethodName := ⟨RJx4a65c, "add", "(Ljava/lang/Object;[Ljava/lang/Object;I)V"⟩
abbrev cJx4a65c_add_9ea2d : ByteArray := prog_25_method_25_code
def yJx4a65c_add_9ea2d : MethodName := ⟨RJx4a65c, "add", "(Ljava/lang/Object;)Z"⟩
def RJ7 : String := "java/util/Arrays"
def TJ7 : u_T := fun k => match k with
  | _ => ("", "", "", false)
def tyJ7 : Nat → FieldType := fun k => match k with
  | _ => .int
abbrev wsJ70 : List Cond := u_ws RJ7 TJ7 0
theorem nmJ7 : ∀ a, a < 0 → ∀ b, b < 0 → a ≠ b → (TJ7 a).2.1 ≠ (TJ7 b).2.1 := by decide +kernel
theorem tyJ7_ok : ∀ k, k < 0 → parseFieldDescriptor (TJ7 k).2.2.1 = some (tyJ7 k) := by decide +kernel
abbrev cJ7_copyOf_1904c : ByteArray := prog_26_method_119_code
def yJ7_copyOf_1904c : MethodName := ⟨RJ7, "copyOf", "([Ljava/lang/Object;I)[Ljava/lang/Object;"⟩
abbrev cJ7_copyOf_6403c : ByteArray := prog_26_method_120_code
def yJ7_copyOf_6403c : MethodName := ⟨RJ7, "copyOf", "([Ljava/lang/Object;ILjava/lang/Class;)[Ljava/lang/Object;"⟩
def RJx5ef63 : String := "java/util/Collection"
def TJx5ef63 : u_T := fun k => match k with
  | _ => ("", "", "", false)
def tyJx5ef63 : Nat → FieldType := fun k => match k with
  | _ => .int
abbrev wsJx5ef630 : List Cond := u_ws RJx5ef63 TJx5ef63 0
theorem nmJx5ef63 : ∀ a, a < 0 → ∀ b, b < 0 → a ≠ b → (TJx5ef63 a).2.1 ≠ (TJx5ef63 b).2.1 := by decide +kernel
theorem tyJx5ef63_ok : ∀ k, k < 0 → parseFieldDescriptor (TJx5ef63 k).2.2.1 = some (tyJx5ef63 k) := by decide +kernel
def RJxbd725 : String := "java/util/List"
def TJxbd725 : u_T := fun k => match k with
  | _ => ("", "", "", false)
def tyJxbd725 : Nat → FieldType := fun k => match k with
  | _ => .int
abbrev wsJxbd7250 : List Cond := u_ws RJxbd725 TJxbd725 0
theorem nmJxbd725 : ∀ a, a < 0 → ∀ b, b < 0 → a ≠ b → (TJxbd725 a).2.1 ≠ (TJxbd725 b).2.1 := by decide +kernel
theorem tyJxbd725_ok : ∀ k, k < 0 → parseFieldDescriptor (TJxbd725 k).2.2.1 = some (tyJxbd725 k) := by decide +kernel
def RJ15 : String := "java/util/Objects"
def TJ15 : u_T := fun k => match k with
  | _ => ("", "", "", false)
def tyJ15 : Nat → FieldType := fun k => match k with
  | _ => .int
abbrev wsJ150 : List Cond := u_ws RJ15 TJ15 0
theorem nmJ15 : ∀ a, a < 0 → ∀ b, b < 0 → a ≠ b → (TJ15 a).2.1 ≠ (TJ15 b).2.1 := by decide +kernel
theorem tyJ15_ok : ∀ k, k < 0 → parseFieldDescriptor (TJ15 k).2.2.1 = some (tyJ15 k) := by decide +kernel
abbrev cJ15_checkIndex_7cf53 : ByteArray := prog_30_method_17_code
def yJ15_checkIndex_7cf53 : MethodName := ⟨RJ15, "checkIndex", "(II)I"⟩
def RJxf0a74 : String := "java/util/RandomAccess"
def TJxf0a74 : u_T := fun k => match k with
  | _ => ("", "", "", false)
def tyJxf0a74 : Nat → FieldType := fun k => match k with
  | _ => .int
abbrev wsJxf0a740 : List Cond := u_ws RJxf0a74 TJxf0a74 0
theorem nmJxf0a74 : ∀ a, a < 0 → ∀ b, b < 0 → a ≠ b → (TJxf0a74 a).2.1 ≠ (TJxf0a74 b).2.1 := by decide +kernel
theorem tyJxf0a74_ok : ∀ k, k < 0 → parseFieldDescriptor (TJxf0a74 k).2.2.1 = some (tyJxf0a74 k) := by decide +kernel
def RJxa66e6 : String := "java/util/SequencedCollection"
def TJxa66e6 : u_T := fun k => match k with
  | _ => ("", "", "", false)
def tyJxa66e6 : Nat → FieldType := fun k => match k with
  | _ => .int
abbrev wsJxa66e60 : List Cond := u_ws RJxa66e6 TJxa66e6 0
theorem nmJxa66e6 : ∀ a, a < 0 → ∀ b, b < 0 → a ≠ b → (TJxa66e6 a).2.1 ≠ (TJxa66e6 b).2.1 := by decide +kernel
theorem tyJxa66e6_ok : ∀ k, k < 0 → parseFieldDescriptor (TJxa66e6 k).2.2.1 = some (tyJxa66e6 k) := by decide +kernel
def RJ8 : String := "jdk/internal/util/ArraysSupport"
def TJ8 : u_T := fun k => match k with
  | _ => ("", "", "", false)
def tyJ8 : Nat → FieldType := fun k => match k with
  | _ => .int
abbrev wsJ80 : List Cond := u_ws RJ8 TJ8 0
theorem nmJ8 : ∀ a, a < 0 → ∀ b, b < 0 → a ≠ b → (TJ8 a).2.1 ≠ (TJ8 b).2.1 := by decide +kernel
theorem tyJ8_ok : ∀ k, k < 0 → parseFieldDescriptor (TJ8 k).2.2.1 = some (tyJ8 k) := by decide +kernel
abbrev cJ8_newLength_cabcc : ByteArray := prog_33_method_27_code
def yJ8_newLength_cabcc : MethodName := ⟨RJ8, "newLength", "(III)I"⟩
abbrev cJ8_hugeLength_7cf53 : ByteArray := prog_33_method_28_code
def yJ8_hugeLength_7cf53 : MethodName := ⟨RJ8, "hugeLength", "(II)I"⟩
def RJ3 : String := "jdk/internal/util/Preconditions"
def TJ3 : u_T := fun k => match k with
  | _ => ("", "", "", false)
def tyJ3 : Nat → FieldType := fun k => match k with
  | _ => .int
abbrev wsJ30 : List Cond := u_ws RJ3 TJ3 0
theorem nmJ3 : ∀ a, a < 0 → ∀ b, b < 0 → a ≠ b → (TJ3 a).2.1 ≠ (TJ3 b).2.1 := by decide +kernel
theorem tyJ3_ok : ∀ k, k < 0 → parseFieldDescriptor (TJ3 k).2.2.1 = some (tyJ3 k) := by decide +kernel
abbrev cJ3_checkIndex_8e157 : ByteArray := prog_34_method_11_code
def yJ3_checkIndex_8e157 : MethodName := ⟨RJ3, "checkIndex", "(IILjava/util/function/BiFunction;)I"⟩
def RL : String := "GoodsKeeperLaw"
abbrev cL_player : ByteArray := method_3_code
def yL_player : MethodName := ⟨RL, "player", "(LGoodsKeeper;[J)I"⟩
abbrev cL_rule : ByteArray := method_4_code
def yL_rule : MethodName := ⟨RL, "rule", "(LGoodsKeeper;Z[J)I"⟩
abbrev cL_part : ByteArray := method_5_code
def yL_part : MethodName := ⟨RL, "part", "(LGoodsKeeper;IIZI)I"⟩
abbrev cL_deed : ByteArray := method_6_code
def yL_deed : MethodName := ⟨RL, "deed", "(LGoodsKeeper;IIII[J)I"⟩
abbrev cL_has : ByteArray := method_7_code
def yL_has : MethodName := ⟨RL, "has", "(LGoodsKeeper;II[J)I"⟩
abbrev cL_sum : ByteArray := method_8_code
def yL_sum : MethodName := ⟨RL, "sum", "(LGoodsKeeper;IZ[J)I"⟩
abbrev cL_single : ByteArray := method_9_code
def yL_single : MethodName := ⟨RL, "single", "(LGoodsKeeper;IZI[J)I"⟩
abbrev cL_put : ByteArray := method_10_code
def yL_put : MethodName := ⟨RL, "put", "(LGoodsKeeper;II[J)I"⟩
abbrev cL_take : ByteArray := method_11_code
def yL_take : MethodName := ⟨RL, "take", "(LGoodsKeeper;I[J)I"⟩
abbrev cL_give : ByteArray := method_12_code
def yL_give : MethodName := ⟨RL, "give", "(LGoodsKeeper;II[J)I"⟩
abbrev cL_lend : ByteArray := method_13_code
def yL_lend : MethodName := ⟨RL, "lend", "(LGoodsKeeper;III[J)I"⟩
abbrev cL_wear : ByteArray := method_14_code
def yL_wear : MethodName := ⟨RL, "wear", "(LGoodsKeeper;II[J)I"⟩
abbrev cL_days : ByteArray := method_15_code
def yL_days : MethodName := ⟨RL, "days", "(LGoodsKeeper;I[J)I"⟩
abbrev cL_look : ByteArray := method_16_code
def yL_look : MethodName := ⟨RL, "look", "(LGoodsKeeper;II[J)I"⟩
abbrev cL_line : ByteArray := method_17_code
def yL_line : MethodName := ⟨RL, "line", "(LGoodsKeeper;IIZ[J)I"⟩
abbrev cL_offer : ByteArray := method_18_code
def yL_offer : MethodName := ⟨RL, "offer", "(LGoodsKeeper;IIIIIIII[J)I"⟩
abbrev cL_agree : ByteArray := method_19_code
def yL_agree : MethodName := ⟨RL, "agree", "(LGoodsKeeper;I[J)I"⟩
abbrev cL_withdraw : ByteArray := method_20_code
def yL_withdraw : MethodName := ⟨RL, "withdraw", "(LGoodsKeeper;I[J)I"⟩
abbrev cL_times : ByteArray := method_21_code
def yL_times : MethodName := ⟨RL, "times", "(LGoodsKeeper;II)I"⟩
abbrev cL_weigh : ByteArray := method_22_code
def yL_weigh : MethodName := ⟨RL, "weigh", "(LGoodsKeeper;II)I"⟩
abbrev cL_law : ByteArray := code
def yL_law : MethodName := ⟨RL, "law", "([I)Z"⟩
abbrev vwCl : List vw_C := [(RJx4a65c, TJx4a65c, 3), (RX0, TX0, 5), (RX1, TX1, 3), (RX2, TX2, 4), (RX3, TX3, 4), (RX4, TX4, 5), (RX5, TX5, 11), (RX6, TX6, 1), (RX7, TX7, 10), (RX8, TX8, 33)]
end
section
theorem dX0_init_0 : decode cX0_init 0 = .ok (.aload_n 0, 1) := by decide +kernel
theorem dX0_init_1 : decode cX0_init 1 = .ok (.invokespecial 3, 3) := by decide +kernel
theorem dX0_init_4 : decode cX0_init 4 = .ok (.aload_n 0, 1) := by decide +kernel
theorem dX0_init_5 : decode cX0_init 5 = .ok (.iconst 5, 1) := by decide +kernel
theorem dX0_init_6 : decode cX0_init 6 = .ok (.bipush 10, 2) := by decide +kernel
theorem dX0_init_8 : decode cX0_init 8 = .ok (.multianewarray 9 2, 4) := by decide +kernel
theorem dX0_init_12 : decode cX0_init 12 = .ok (.putfield 11, 3) := by decide +kernel
theorem dX0_init_15 : decode cX0_init 15 = .ok (.aload_n 0, 1) := by decide +kernel
theorem dX0_init_16 : decode cX0_init 16 = .ok (.iconst 4, 1) := by decide +kernel
theorem dX0_init_17 : decode cX0_init 17 = .ok (.newarray .int, 2) := by decide +kernel
theorem dX0_init_19 : decode cX0_init 19 = .ok (.putfield 16, 3) := by decide +kernel
theorem dX0_init_22 : decode cX0_init 22 = .ok (.aload_n 0, 1) := by decide +kernel
theorem dX0_init_23 : decode cX0_init 23 = .ok (.bipush 10, 2) := by decide +kernel
theorem dX0_init_25 : decode cX0_init 25 = .ok (.newarray .int, 2) := by decide +kernel
theorem dX0_init_27 : decode cX0_init 27 = .ok (.putfield 20, 3) := by decide +kernel
theorem dX0_init_30 : decode cX0_init 30 = .ok (.return_, 1) := by decide +kernel
theorem dX0_begin_0 : decode cX0_begin 0 = .ok (.aload_n 0, 1) := by decide +kernel
theorem dX0_begin_1 : decode cX0_begin 1 = .ok (.iconst 0, 1) := by decide +kernel
theorem dX0_begin_2 : decode cX0_begin 2 = .ok (.putfield 23, 3) := by decide +kernel
theorem dX0_begin_5 : decode cX0_begin 5 = .ok (.aload_n 0, 1) := by decide +kernel
theorem dX0_begin_6 : decode cX0_begin 6 = .ok (.lconst 1, 1) := by decide +kernel
theorem dX0_begin_7 : decode cX0_begin 7 = .ok (.putfield 27, 3) := by decide +kernel
theorem dX0_begin_10 : decode cX0_begin 10 = .ok (.iconst 0, 1) := by decide +kernel
theorem dX0_begin_11 : decode cX0_begin 11 = .ok (.istore_n 1, 1) := by decide +kernel
theorem dX0_begin_12 : decode cX0_begin 12 = .ok (.iload_n 1, 1) := by decide +kernel
theorem dX0_begin_13 : decode cX0_begin 13 = .ok (.iconst 4, 1) := by decide +kernel
theorem dX0_begin_14 : decode cX0_begin 14 = .ok (.if_icmp .ge 19, 3) := by decide +kernel
theorem dX0_begin_17 : decode cX0_begin 17 = .ok (.aload_n 0, 1) := by decide +kernel
theorem dX0_begin_18 : decode cX0_begin 18 = .ok (.getfield 16, 3) := by decide +kernel
theorem dX0_begin_21 : decode cX0_begin 21 = .ok (.iload_n 1, 1) := by decide +kernel
theorem dX0_begin_22 : decode cX0_begin 22 = .ok (.bipush 10, 2) := by decide +kernel
theorem dX0_begin_24 : decode cX0_begin 24 = .ok (.iload_n 1, 1) := by decide +kernel
theorem dX0_begin_25 : decode cX0_begin 25 = .ok (.iadd, 1) := by decide +kernel
theorem dX0_begin_26 : decode cX0_begin 26 = .ok (.iastore, 1) := by decide +kernel
theorem dX0_begin_27 : decode cX0_begin 27 = .ok (.iinc 1 1, 3) := by decide +kernel
theorem dX0_begin_30 : decode cX0_begin 30 = .ok (.goto (-18), 3) := by decide +kernel
theorem dX0_begin_33 : decode cX0_begin 33 = .ok (.return_, 1) := by decide +kernel
theorem dX0_enter_0 : decode cX0_enter 0 = .ok (.aload_n 0, 1) := by decide +kernel
theorem dX0_enter_1 : decode cX0_enter 1 = .ok (.getfield 23, 3) := by decide +kernel
theorem dX0_enter_4 : decode cX0_enter 4 = .ok (.bipush 10, 2) := by decide +kernel
theorem dX0_enter_6 : decode cX0_enter 6 = .ok (.if_icmp .lt 4, 3) := by decide +kernel
theorem dX0_enter_9 : decode cX0_enter 9 = .ok (.return_, 1) := by decide +kernel
theorem dX0_enter_10 : decode cX0_enter 10 = .ok (.lconst 0, 1) := by decide +kernel
theorem dX0_enter_11 : decode cX0_enter 11 = .ok (.lstore_n 2, 1) := by decide +kernel
theorem dX0_enter_12 : decode cX0_enter 12 = .ok (.iconst 0, 1) := by decide +kernel
theorem dX0_enter_13 : decode cX0_enter 13 = .ok (.istore 4, 2) := by decide +kernel
theorem dX0_enter_15 : decode cX0_enter 15 = .ok (.iload 4, 2) := by decide +kernel
theorem dX0_enter_17 : decode cX0_enter 17 = .ok (.iconst 4, 1) := by decide +kernel
theorem dX0_enter_18 : decode cX0_enter 18 = .ok (.if_icmp .ge 38, 3) := by decide +kernel
theorem dX0_enter_21 : decode cX0_enter 21 = .ok (.aload_n 1, 1) := by decide +kernel
theorem dX0_enter_22 : decode cX0_enter 22 = .ok (.iload 4, 2) := by decide +kernel
theorem dX0_enter_24 : decode cX0_enter 24 = .ok (.invokevirtual 31, 3) := by decide +kernel
theorem dX0_enter_27 : decode cX0_enter 27 = .ok (.istore 5, 2) := by decide +kernel
theorem dX0_enter_29 : decode cX0_enter 29 = .ok (.aload_n 0, 1) := by decide +kernel
theorem dX0_enter_30 : decode cX0_enter 30 = .ok (.getfield 11, 3) := by decide +kernel
theorem dX0_enter_33 : decode cX0_enter 33 = .ok (.iload 4, 2) := by decide +kernel
theorem dX0_enter_35 : decode cX0_enter 35 = .ok (.aaload, 1) := by decide +kernel
theorem dX0_enter_36 : decode cX0_enter 36 = .ok (.aload_n 0, 1) := by decide +kernel
theorem dX0_enter_37 : decode cX0_enter 37 = .ok (.getfield 23, 3) := by decide +kernel
theorem dX0_enter_40 : decode cX0_enter 40 = .ok (.iload 5, 2) := by decide +kernel
theorem dX0_enter_42 : decode cX0_enter 42 = .ok (.i2l, 1) := by decide +kernel
theorem dX0_enter_43 : decode cX0_enter 43 = .ok (.lastore, 1) := by decide +kernel
theorem dX0_enter_44 : decode cX0_enter 44 = .ok (.lload_n 2, 1) := by decide +kernel
theorem dX0_enter_45 : decode cX0_enter 45 = .ok (.iload 5, 2) := by decide +kernel
theorem dX0_enter_47 : decode cX0_enter 47 = .ok (.i2l, 1) := by decide +kernel
theorem dX0_enter_48 : decode cX0_enter 48 = .ok (.ladd, 1) := by decide +kernel
theorem dX0_enter_49 : decode cX0_enter 49 = .ok (.lstore_n 2, 1) := by decide +kernel
theorem dX0_enter_50 : decode cX0_enter 50 = .ok (.iinc 4 1, 3) := by decide +kernel
theorem dX0_enter_53 : decode cX0_enter 53 = .ok (.goto (-38), 3) := by decide +kernel
theorem dX0_enter_56 : decode cX0_enter 56 = .ok (.aload_n 0, 1) := by decide +kernel
theorem dX0_enter_57 : decode cX0_enter 57 = .ok (.getfield 11, 3) := by decide +kernel
theorem dX0_enter_60 : decode cX0_enter 60 = .ok (.iconst 4, 1) := by decide +kernel
theorem dX0_enter_61 : decode cX0_enter 61 = .ok (.aaload, 1) := by decide +kernel
theorem dX0_enter_62 : decode cX0_enter 62 = .ok (.aload_n 0, 1) := by decide +kernel
theorem dX0_enter_63 : decode cX0_enter 63 = .ok (.getfield 23, 3) := by decide +kernel
theorem dX0_enter_66 : decode cX0_enter 66 = .ok (.lload_n 2, 1) := by decide +kernel
theorem dX0_enter_67 : decode cX0_enter 67 = .ok (.lastore, 1) := by decide +kernel
theorem dX0_enter_68 : decode cX0_enter 68 = .ok (.aload_n 0, 1) := by decide +kernel
theorem dX0_enter_69 : decode cX0_enter 69 = .ok (.getfield 20, 3) := by decide +kernel
theorem dX0_enter_72 : decode cX0_enter 72 = .ok (.aload_n 0, 1) := by decide +kernel
theorem dX0_enter_73 : decode cX0_enter 73 = .ok (.getfield 23, 3) := by decide +kernel
theorem dX0_enter_76 : decode cX0_enter 76 = .ok (.aload_n 0, 1) := by decide +kernel
theorem dX0_enter_77 : decode cX0_enter 77 = .ok (.getfield 23, 3) := by decide +kernel
theorem dX0_enter_80 : decode cX0_enter 80 = .ok (.iastore, 1) := by decide +kernel
theorem dX0_enter_81 : decode cX0_enter 81 = .ok (.aload_n 0, 1) := by decide +kernel
theorem dX0_enter_82 : decode cX0_enter 82 = .ok (.dup, 1) := by decide +kernel
theorem dX0_enter_83 : decode cX0_enter 83 = .ok (.getfield 23, 3) := by decide +kernel
theorem dX0_enter_86 : decode cX0_enter 86 = .ok (.iconst 1, 1) := by decide +kernel
theorem dX0_enter_87 : decode cX0_enter 87 = .ok (.iadd, 1) := by decide +kernel
theorem dX0_enter_88 : decode cX0_enter 88 = .ok (.putfield 23, 3) := by decide +kernel
theorem dX0_enter_91 : decode cX0_enter 91 = .ok (.return_, 1) := by decide +kernel
theorem dX0_findsGain_0 : decode cX0_findsGain 0 = .ok (.iconst 0, 1) := by decide +kernel
theorem dX0_findsGain_1 : decode cX0_findsGain 1 = .ok (.istore_n 1, 1) := by decide +kernel
theorem dX0_findsGain_2 : decode cX0_findsGain 2 = .ok (.iload_n 1, 1) := by decide +kernel
theorem dX0_findsGain_3 : decode cX0_findsGain 3 = .ok (.sipush 1001, 3) := by decide +kernel
theorem dX0_findsGain_6 : decode cX0_findsGain 6 = .ok (.if_icmp .ge 40, 3) := by decide +kernel
theorem dX0_findsGain_9 : decode cX0_findsGain 9 = .ok (.aload_n 0, 1) := by decide +kernel
theorem dX0_findsGain_10 : decode cX0_findsGain 10 = .ok (.invokevirtual 37, 3) := by decide +kernel
theorem dX0_findsGain_13 : decode cX0_findsGain 13 = .ok (.istore_n 2, 1) := by decide +kernel
theorem dX0_findsGain_14 : decode cX0_findsGain 14 = .ok (.iload_n 2, 1) := by decide +kernel
theorem dX0_findsGain_15 : decode cX0_findsGain 15 = .ok (.iconst (-1), 1) := by decide +kernel
theorem dX0_findsGain_16 : decode cX0_findsGain 16 = .ok (.if_icmp .ne 5, 3) := by decide +kernel
theorem dX0_findsGain_19 : decode cX0_findsGain 19 = .ok (.iconst 0, 1) := by decide +kernel
theorem dX0_findsGain_20 : decode cX0_findsGain 20 = .ok (.ireturn, 1) := by decide +kernel
theorem dX0_findsGain_21 : decode cX0_findsGain 21 = .ok (.aload_n 0, 1) := by decide +kernel
theorem dX0_findsGain_22 : decode cX0_findsGain 22 = .ok (.iload_n 2, 1) := by decide +kernel
theorem dX0_findsGain_23 : decode cX0_findsGain 23 = .ok (.invokevirtual 41, 3) := by decide +kernel
theorem dX0_findsGain_26 : decode cX0_findsGain 26 = .ok (.istore_n 3, 1) := by decide +kernel
theorem dX0_findsGain_27 : decode cX0_findsGain 27 = .ok (.iload_n 3, 1) := by decide +kernel
theorem dX0_findsGain_28 : decode cX0_findsGain 28 = .ok (.iconst (-1), 1) := by decide +kernel
theorem dX0_findsGain_29 : decode cX0_findsGain 29 = .ok (.if_icmp .ne 5, 3) := by decide +kernel
theorem dX0_findsGain_32 : decode cX0_findsGain 32 = .ok (.iconst 1, 1) := by decide +kernel
theorem dX0_findsGain_33 : decode cX0_findsGain 33 = .ok (.ireturn, 1) := by decide +kernel
theorem dX0_findsGain_34 : decode cX0_findsGain 34 = .ok (.aload_n 0, 1) := by decide +kernel
theorem dX0_findsGain_35 : decode cX0_findsGain 35 = .ok (.iload_n 3, 1) := by decide +kernel
theorem dX0_findsGain_36 : decode cX0_findsGain 36 = .ok (.iload_n 2, 1) := by decide +kernel
theorem dX0_findsGain_37 : decode cX0_findsGain 37 = .ok (.invokevirtual 44, 3) := by decide +kernel
theorem dX0_findsGain_40 : decode cX0_findsGain 40 = .ok (.iinc 1 1, 3) := by decide +kernel
theorem dX0_findsGain_43 : decode cX0_findsGain 43 = .ok (.goto (-41), 3) := by decide +kernel
theorem dX0_findsGain_46 : decode cX0_findsGain 46 = .ok (.iconst 0, 1) := by decide +kernel
theorem dX0_findsGain_47 : decode cX0_findsGain 47 = .ok (.ireturn, 1) := by decide +kernel
theorem dX0_risingColumn_0 : decode cX0_risingColumn 0 = .ok (.iconst (-1), 1) := by decide +kernel
theorem dX0_risingColumn_1 : decode cX0_risingColumn 1 = .ok (.istore_n 1, 1) := by decide +kernel
theorem dX0_risingColumn_2 : decode cX0_risingColumn 2 = .ok (.iconst 0, 1) := by decide +kernel
theorem dX0_risingColumn_3 : decode cX0_risingColumn 3 = .ok (.istore_n 2, 1) := by decide +kernel
theorem dX0_risingColumn_4 : decode cX0_risingColumn 4 = .ok (.iload_n 2, 1) := by decide +kernel
theorem dX0_risingColumn_5 : decode cX0_risingColumn 5 = .ok (.aload_n 0, 1) := by decide +kernel
theorem dX0_risingColumn_6 : decode cX0_risingColumn 6 = .ok (.getfield 23, 3) := by decide +kernel
theorem dX0_risingColumn_9 : decode cX0_risingColumn 9 = .ok (.if_icmp .ge 44, 3) := by decide +kernel
theorem dX0_risingColumn_12 : decode cX0_risingColumn 12 = .ok (.aload_n 0, 1) := by decide +kernel
theorem dX0_risingColumn_13 : decode cX0_risingColumn 13 = .ok (.getfield 11, 3) := by decide +kernel
theorem dX0_risingColumn_16 : decode cX0_risingColumn 16 = .ok (.iconst 4, 1) := by decide +kernel
theorem dX0_risingColumn_17 : decode cX0_risingColumn 17 = .ok (.aaload, 1) := by decide +kernel
theorem dX0_risingColumn_18 : decode cX0_risingColumn 18 = .ok (.iload_n 2, 1) := by decide +kernel
theorem dX0_risingColumn_19 : decode cX0_risingColumn 19 = .ok (.laload, 1) := by decide +kernel
theorem dX0_risingColumn_20 : decode cX0_risingColumn 20 = .ok (.lconst 0, 1) := by decide +kernel
theorem dX0_risingColumn_21 : decode cX0_risingColumn 21 = .ok (.lcmp, 1) := by decide +kernel
theorem dX0_risingColumn_22 : decode cX0_risingColumn 22 = .ok (.ifCond .le 25, 3) := by decide +kernel
theorem dX0_risingColumn_25 : decode cX0_risingColumn 25 = .ok (.iload_n 1, 1) := by decide +kernel
theorem dX0_risingColumn_26 : decode cX0_risingColumn 26 = .ok (.iconst (-1), 1) := by decide +kernel
theorem dX0_risingColumn_27 : decode cX0_risingColumn 27 = .ok (.if_icmp .eq 18, 3) := by decide +kernel
theorem dX0_risingColumn_30 : decode cX0_risingColumn 30 = .ok (.aload_n 0, 1) := by decide +kernel
theorem dX0_risingColumn_31 : decode cX0_risingColumn 31 = .ok (.getfield 20, 3) := by decide +kernel
theorem dX0_risingColumn_34 : decode cX0_risingColumn 34 = .ok (.iload_n 2, 1) := by decide +kernel
theorem dX0_risingColumn_35 : decode cX0_risingColumn 35 = .ok (.iaload, 1) := by decide +kernel
theorem dX0_risingColumn_36 : decode cX0_risingColumn 36 = .ok (.aload_n 0, 1) := by decide +kernel
theorem dX0_risingColumn_37 : decode cX0_risingColumn 37 = .ok (.getfield 20, 3) := by decide +kernel
theorem dX0_risingColumn_40 : decode cX0_risingColumn 40 = .ok (.iload_n 1, 1) := by decide +kernel
theorem dX0_risingColumn_41 : decode cX0_risingColumn 41 = .ok (.iaload, 1) := by decide +kernel
theorem dX0_risingColumn_42 : decode cX0_risingColumn 42 = .ok (.if_icmp .ge 5, 3) := by decide +kernel
theorem dX0_risingColumn_45 : decode cX0_risingColumn 45 = .ok (.iload_n 2, 1) := by decide +kernel
theorem dX0_risingColumn_46 : decode cX0_risingColumn 46 = .ok (.istore_n 1, 1) := by decide +kernel
theorem dX0_risingColumn_47 : decode cX0_risingColumn 47 = .ok (.iinc 2 1, 3) := by decide +kernel
theorem dX0_risingColumn_50 : decode cX0_risingColumn 50 = .ok (.goto (-46), 3) := by decide +kernel
theorem dX0_risingColumn_53 : decode cX0_risingColumn 53 = .ok (.iload_n 1, 1) := by decide +kernel
theorem dX0_risingColumn_54 : decode cX0_risingColumn 54 = .ok (.ireturn, 1) := by decide +kernel
theorem dX0_hinderingRow_0 : decode cX0_hinderingRow 0 = .ok (.iconst (-1), 1) := by decide +kernel
theorem dX0_hinderingRow_1 : decode cX0_hinderingRow 1 = .ok (.istore_n 2, 1) := by decide +kernel
theorem dX0_hinderingRow_2 : decode cX0_hinderingRow 2 = .ok (.iconst 0, 1) := by decide +kernel
theorem dX0_hinderingRow_3 : decode cX0_hinderingRow 3 = .ok (.istore_n 3, 1) := by decide +kernel
theorem dX0_hinderingRow_4 : decode cX0_hinderingRow 4 = .ok (.iload_n 3, 1) := by decide +kernel
theorem dX0_hinderingRow_5 : decode cX0_hinderingRow 5 = .ok (.iconst 4, 1) := by decide +kernel
theorem dX0_hinderingRow_6 : decode cX0_hinderingRow 6 = .ok (.if_icmp .ge 44, 3) := by decide +kernel
theorem dX0_hinderingRow_9 : decode cX0_hinderingRow 9 = .ok (.aload_n 0, 1) := by decide +kernel
theorem dX0_hinderingRow_10 : decode cX0_hinderingRow 10 = .ok (.getfield 11, 3) := by decide +kernel
theorem dX0_hinderingRow_13 : decode cX0_hinderingRow 13 = .ok (.iload_n 3, 1) := by decide +kernel
theorem dX0_hinderingRow_14 : decode cX0_hinderingRow 14 = .ok (.aaload, 1) := by decide +kernel
theorem dX0_hinderingRow_15 : decode cX0_hinderingRow 15 = .ok (.iload_n 1, 1) := by decide +kernel
theorem dX0_hinderingRow_16 : decode cX0_hinderingRow 16 = .ok (.laload, 1) := by decide +kernel
theorem dX0_hinderingRow_17 : decode cX0_hinderingRow 17 = .ok (.lconst 0, 1) := by decide +kernel
theorem dX0_hinderingRow_18 : decode cX0_hinderingRow 18 = .ok (.lcmp, 1) := by decide +kernel
theorem dX0_hinderingRow_19 : decode cX0_hinderingRow 19 = .ok (.ifCond .ge 25, 3) := by decide +kernel
theorem dX0_hinderingRow_22 : decode cX0_hinderingRow 22 = .ok (.iload_n 2, 1) := by decide +kernel
theorem dX0_hinderingRow_23 : decode cX0_hinderingRow 23 = .ok (.iconst (-1), 1) := by decide +kernel
theorem dX0_hinderingRow_24 : decode cX0_hinderingRow 24 = .ok (.if_icmp .eq 18, 3) := by decide +kernel
theorem dX0_hinderingRow_27 : decode cX0_hinderingRow 27 = .ok (.aload_n 0, 1) := by decide +kernel
theorem dX0_hinderingRow_28 : decode cX0_hinderingRow 28 = .ok (.getfield 16, 3) := by decide +kernel
theorem dX0_hinderingRow_31 : decode cX0_hinderingRow 31 = .ok (.iload_n 3, 1) := by decide +kernel
theorem dX0_hinderingRow_32 : decode cX0_hinderingRow 32 = .ok (.iaload, 1) := by decide +kernel
theorem dX0_hinderingRow_33 : decode cX0_hinderingRow 33 = .ok (.aload_n 0, 1) := by decide +kernel
theorem dX0_hinderingRow_34 : decode cX0_hinderingRow 34 = .ok (.getfield 16, 3) := by decide +kernel
theorem dX0_hinderingRow_37 : decode cX0_hinderingRow 37 = .ok (.iload_n 2, 1) := by decide +kernel
theorem dX0_hinderingRow_38 : decode cX0_hinderingRow 38 = .ok (.iaload, 1) := by decide +kernel
theorem dX0_hinderingRow_39 : decode cX0_hinderingRow 39 = .ok (.if_icmp .ge 5, 3) := by decide +kernel
theorem dX0_hinderingRow_42 : decode cX0_hinderingRow 42 = .ok (.iload_n 3, 1) := by decide +kernel
theorem dX0_hinderingRow_43 : decode cX0_hinderingRow 43 = .ok (.istore_n 2, 1) := by decide +kernel
theorem dX0_hinderingRow_44 : decode cX0_hinderingRow 44 = .ok (.iinc 3 1, 3) := by decide +kernel
theorem dX0_hinderingRow_47 : decode cX0_hinderingRow 47 = .ok (.goto (-43), 3) := by decide +kernel
theorem dX0_hinderingRow_50 : decode cX0_hinderingRow 50 = .ok (.iload_n 2, 1) := by decide +kernel
theorem dX0_hinderingRow_51 : decode cX0_hinderingRow 51 = .ok (.ireturn, 1) := by decide +kernel
theorem dX0_exchange_0 : decode cX0_exchange 0 = .ok (.aload_n 0, 1) := by decide +kernel
theorem dX0_exchange_1 : decode cX0_exchange 1 = .ok (.getfield 11, 3) := by decide +kernel
theorem dX0_exchange_4 : decode cX0_exchange 4 = .ok (.iload_n 1, 1) := by decide +kernel
theorem dX0_exchange_5 : decode cX0_exchange 5 = .ok (.aaload, 1) := by decide +kernel
theorem dX0_exchange_6 : decode cX0_exchange 6 = .ok (.iload_n 2, 1) := by decide +kernel
theorem dX0_exchange_7 : decode cX0_exchange 7 = .ok (.laload, 1) := by decide +kernel
theorem dX0_exchange_8 : decode cX0_exchange 8 = .ok (.lneg, 1) := by decide +kernel
theorem dX0_exchange_9 : decode cX0_exchange 9 = .ok (.lstore_n 3, 1) := by decide +kernel
theorem dX0_exchange_10 : decode cX0_exchange 10 = .ok (.iconst 0, 1) := by decide +kernel
theorem dX0_exchange_11 : decode cX0_exchange 11 = .ok (.istore 5, 2) := by decide +kernel
theorem dX0_exchange_13 : decode cX0_exchange 13 = .ok (.iload 5, 2) := by decide +kernel
theorem dX0_exchange_15 : decode cX0_exchange 15 = .ok (.iconst 4, 1) := by decide +kernel
theorem dX0_exchange_16 : decode cX0_exchange 16 = .ok (.if_icmp .gt 24, 3) := by decide +kernel
theorem dX0_exchange_19 : decode cX0_exchange 19 = .ok (.iload 5, 2) := by decide +kernel
theorem dX0_exchange_21 : decode cX0_exchange 21 = .ok (.iload_n 1, 1) := by decide +kernel
theorem dX0_exchange_22 : decode cX0_exchange 22 = .ok (.if_icmp .eq 12, 3) := by decide +kernel
theorem dX0_exchange_25 : decode cX0_exchange 25 = .ok (.aload_n 0, 1) := by decide +kernel
theorem dX0_exchange_26 : decode cX0_exchange 26 = .ok (.iload 5, 2) := by decide +kernel
theorem dX0_exchange_28 : decode cX0_exchange 28 = .ok (.iload_n 1, 1) := by decide +kernel
theorem dX0_exchange_29 : decode cX0_exchange 29 = .ok (.iload_n 2, 1) := by decide +kernel
theorem dX0_exchange_30 : decode cX0_exchange 30 = .ok (.lload_n 3, 1) := by decide +kernel
theorem dX0_exchange_31 : decode cX0_exchange 31 = .ok (.invokevirtual 48, 3) := by decide +kernel
theorem dX0_exchange_34 : decode cX0_exchange 34 = .ok (.iinc 5 1, 3) := by decide +kernel
theorem dX0_exchange_37 : decode cX0_exchange 37 = .ok (.goto (-24), 3) := by decide +kernel
theorem dX0_exchange_40 : decode cX0_exchange 40 = .ok (.aload_n 0, 1) := by decide +kernel
theorem dX0_exchange_41 : decode cX0_exchange 41 = .ok (.getfield 11, 3) := by decide +kernel
theorem dX0_exchange_44 : decode cX0_exchange 44 = .ok (.iload_n 1, 1) := by decide +kernel
theorem dX0_exchange_45 : decode cX0_exchange 45 = .ok (.aaload, 1) := by decide +kernel
theorem dX0_exchange_46 : decode cX0_exchange 46 = .ok (.iload_n 2, 1) := by decide +kernel
theorem dX0_exchange_47 : decode cX0_exchange 47 = .ok (.aload_n 0, 1) := by decide +kernel
theorem dX0_exchange_48 : decode cX0_exchange 48 = .ok (.getfield 27, 3) := by decide +kernel
theorem dX0_exchange_51 : decode cX0_exchange 51 = .ok (.lneg, 1) := by decide +kernel
theorem dX0_exchange_52 : decode cX0_exchange 52 = .ok (.lastore, 1) := by decide +kernel
theorem dX0_exchange_53 : decode cX0_exchange 53 = .ok (.aload_n 0, 1) := by decide +kernel
theorem dX0_exchange_54 : decode cX0_exchange 54 = .ok (.lload_n 3, 1) := by decide +kernel
theorem dX0_exchange_55 : decode cX0_exchange 55 = .ok (.putfield 27, 3) := by decide +kernel
theorem dX0_exchange_58 : decode cX0_exchange 58 = .ok (.aload_n 0, 1) := by decide +kernel
theorem dX0_exchange_59 : decode cX0_exchange 59 = .ok (.getfield 16, 3) := by decide +kernel
theorem dX0_exchange_62 : decode cX0_exchange 62 = .ok (.iload_n 1, 1) := by decide +kernel
theorem dX0_exchange_63 : decode cX0_exchange 63 = .ok (.iaload, 1) := by decide +kernel
theorem dX0_exchange_64 : decode cX0_exchange 64 = .ok (.istore 5, 2) := by decide +kernel
theorem dX0_exchange_66 : decode cX0_exchange 66 = .ok (.aload_n 0, 1) := by decide +kernel
theorem dX0_exchange_67 : decode cX0_exchange 67 = .ok (.getfield 16, 3) := by decide +kernel
theorem dX0_exchange_70 : decode cX0_exchange 70 = .ok (.iload_n 1, 1) := by decide +kernel
theorem dX0_exchange_71 : decode cX0_exchange 71 = .ok (.aload_n 0, 1) := by decide +kernel
theorem dX0_exchange_72 : decode cX0_exchange 72 = .ok (.getfield 20, 3) := by decide +kernel
theorem dX0_exchange_75 : decode cX0_exchange 75 = .ok (.iload_n 2, 1) := by decide +kernel
theorem dX0_exchange_76 : decode cX0_exchange 76 = .ok (.iaload, 1) := by decide +kernel
theorem dX0_exchange_77 : decode cX0_exchange 77 = .ok (.iastore, 1) := by decide +kernel
theorem dX0_exchange_78 : decode cX0_exchange 78 = .ok (.aload_n 0, 1) := by decide +kernel
theorem dX0_exchange_79 : decode cX0_exchange 79 = .ok (.getfield 20, 3) := by decide +kernel
theorem dX0_exchange_82 : decode cX0_exchange 82 = .ok (.iload_n 2, 1) := by decide +kernel
theorem dX0_exchange_83 : decode cX0_exchange 83 = .ok (.iload 5, 2) := by decide +kernel
theorem dX0_exchange_85 : decode cX0_exchange 85 = .ok (.iastore, 1) := by decide +kernel
theorem dX0_exchange_86 : decode cX0_exchange 86 = .ok (.return_, 1) := by decide +kernel
theorem dX0_replaceIn_0 : decode cX0_replaceIn 0 = .ok (.aload_n 0, 1) := by decide +kernel
theorem dX0_replaceIn_1 : decode cX0_replaceIn 1 = .ok (.getfield 27, 3) := by decide +kernel
theorem dX0_replaceIn_4 : decode cX0_replaceIn 4 = .ok (.lconst 0, 1) := by decide +kernel
theorem dX0_replaceIn_5 : decode cX0_replaceIn 5 = .ok (.lcmp, 1) := by decide +kernel
theorem dX0_replaceIn_6 : decode cX0_replaceIn 6 = .ok (.ifCond .ne 4, 3) := by decide +kernel
theorem dX0_replaceIn_9 : decode cX0_replaceIn 9 = .ok (.return_, 1) := by decide +kernel
theorem dX0_replaceIn_10 : decode cX0_replaceIn 10 = .ok (.aload_n 0, 1) := by decide +kernel
theorem dX0_replaceIn_11 : decode cX0_replaceIn 11 = .ok (.getfield 11, 3) := by decide +kernel
theorem dX0_replaceIn_14 : decode cX0_replaceIn 14 = .ok (.iload_n 1, 1) := by decide +kernel
theorem dX0_replaceIn_15 : decode cX0_replaceIn 15 = .ok (.aaload, 1) := by decide +kernel
theorem dX0_replaceIn_16 : decode cX0_replaceIn 16 = .ok (.iload_n 3, 1) := by decide +kernel
theorem dX0_replaceIn_17 : decode cX0_replaceIn 17 = .ok (.laload, 1) := by decide +kernel
theorem dX0_replaceIn_18 : decode cX0_replaceIn 18 = .ok (.lstore 6, 2) := by decide +kernel
theorem dX0_replaceIn_20 : decode cX0_replaceIn 20 = .ok (.iconst 0, 1) := by decide +kernel
theorem dX0_replaceIn_21 : decode cX0_replaceIn 21 = .ok (.istore 8, 2) := by decide +kernel
theorem dX0_replaceIn_23 : decode cX0_replaceIn 23 = .ok (.iload 8, 2) := by decide +kernel
theorem dX0_replaceIn_25 : decode cX0_replaceIn 25 = .ok (.aload_n 0, 1) := by decide +kernel
theorem dX0_replaceIn_26 : decode cX0_replaceIn 26 = .ok (.getfield 23, 3) := by decide +kernel
theorem dX0_replaceIn_29 : decode cX0_replaceIn 29 = .ok (.if_icmp .ge 54, 3) := by decide +kernel
theorem dX0_replaceIn_32 : decode cX0_replaceIn 32 = .ok (.iload 8, 2) := by decide +kernel
theorem dX0_replaceIn_34 : decode cX0_replaceIn 34 = .ok (.iload_n 3, 1) := by decide +kernel
theorem dX0_replaceIn_35 : decode cX0_replaceIn 35 = .ok (.if_icmp .eq 42, 3) := by decide +kernel
theorem dX0_replaceIn_38 : decode cX0_replaceIn 38 = .ok (.aload_n 0, 1) := by decide +kernel
theorem dX0_replaceIn_39 : decode cX0_replaceIn 39 = .ok (.getfield 11, 3) := by decide +kernel
theorem dX0_replaceIn_42 : decode cX0_replaceIn 42 = .ok (.iload_n 1, 1) := by decide +kernel
theorem dX0_replaceIn_43 : decode cX0_replaceIn 43 = .ok (.aaload, 1) := by decide +kernel
theorem dX0_replaceIn_44 : decode cX0_replaceIn 44 = .ok (.iload 8, 2) := by decide +kernel
theorem dX0_replaceIn_46 : decode cX0_replaceIn 46 = .ok (.lload 6, 2) := by decide +kernel
theorem dX0_replaceIn_48 : decode cX0_replaceIn 48 = .ok (.aload_n 0, 1) := by decide +kernel
theorem dX0_replaceIn_49 : decode cX0_replaceIn 49 = .ok (.getfield 11, 3) := by decide +kernel
theorem dX0_replaceIn_52 : decode cX0_replaceIn 52 = .ok (.iload_n 2, 1) := by decide +kernel
theorem dX0_replaceIn_53 : decode cX0_replaceIn 53 = .ok (.aaload, 1) := by decide +kernel
theorem dX0_replaceIn_54 : decode cX0_replaceIn 54 = .ok (.iload 8, 2) := by decide +kernel
theorem dX0_replaceIn_56 : decode cX0_replaceIn 56 = .ok (.laload, 1) := by decide +kernel
theorem dX0_replaceIn_57 : decode cX0_replaceIn 57 = .ok (.lmul, 1) := by decide +kernel
theorem dX0_replaceIn_58 : decode cX0_replaceIn 58 = .ok (.lload 4, 2) := by decide +kernel
theorem dX0_replaceIn_60 : decode cX0_replaceIn 60 = .ok (.aload_n 0, 1) := by decide +kernel
theorem dX0_replaceIn_61 : decode cX0_replaceIn 61 = .ok (.getfield 11, 3) := by decide +kernel
theorem dX0_replaceIn_64 : decode cX0_replaceIn 64 = .ok (.iload_n 1, 1) := by decide +kernel
theorem dX0_replaceIn_65 : decode cX0_replaceIn 65 = .ok (.aaload, 1) := by decide +kernel
theorem dX0_replaceIn_66 : decode cX0_replaceIn 66 = .ok (.iload 8, 2) := by decide +kernel
theorem dX0_replaceIn_68 : decode cX0_replaceIn 68 = .ok (.laload, 1) := by decide +kernel
theorem dX0_replaceIn_69 : decode cX0_replaceIn 69 = .ok (.lmul, 1) := by decide +kernel
theorem dX0_replaceIn_70 : decode cX0_replaceIn 70 = .ok (.ladd, 1) := by decide +kernel
theorem dX0_replaceIn_71 : decode cX0_replaceIn 71 = .ok (.aload_n 0, 1) := by decide +kernel
theorem dX0_replaceIn_72 : decode cX0_replaceIn 72 = .ok (.getfield 27, 3) := by decide +kernel
theorem dX0_replaceIn_75 : decode cX0_replaceIn 75 = .ok (.ldiv, 1) := by decide +kernel
theorem dX0_replaceIn_76 : decode cX0_replaceIn 76 = .ok (.lastore, 1) := by decide +kernel
theorem dX0_replaceIn_77 : decode cX0_replaceIn 77 = .ok (.iinc 8 1, 3) := by decide +kernel
theorem dX0_replaceIn_80 : decode cX0_replaceIn 80 = .ok (.goto (-57), 3) := by decide +kernel
theorem dX0_replaceIn_83 : decode cX0_replaceIn 83 = .ok (.aload_n 0, 1) := by decide +kernel
theorem dX0_replaceIn_84 : decode cX0_replaceIn 84 = .ok (.getfield 11, 3) := by decide +kernel
theorem dX0_replaceIn_87 : decode cX0_replaceIn 87 = .ok (.iload_n 1, 1) := by decide +kernel
theorem dX0_replaceIn_88 : decode cX0_replaceIn 88 = .ok (.aaload, 1) := by decide +kernel
theorem dX0_replaceIn_89 : decode cX0_replaceIn 89 = .ok (.iload_n 3, 1) := by decide +kernel
theorem dX0_replaceIn_90 : decode cX0_replaceIn 90 = .ok (.lload 6, 2) := by decide +kernel
theorem dX0_replaceIn_92 : decode cX0_replaceIn 92 = .ok (.lneg, 1) := by decide +kernel
theorem dX0_replaceIn_93 : decode cX0_replaceIn 93 = .ok (.lastore, 1) := by decide +kernel
theorem dX0_replaceIn_94 : decode cX0_replaceIn 94 = .ok (.return_, 1) := by decide +kernel
theorem dX1_init_0 : decode cX1_init 0 = .ok (.aload_n 0, 1) := by decide +kernel
theorem dX1_init_1 : decode cX1_init 1 = .ok (.invokespecial 1, 3) := by decide +kernel
theorem dX1_init_4 : decode cX1_init 4 = .ok (.aload_n 0, 1) := by decide +kernel
theorem dX1_init_5 : decode cX1_init 5 = .ok (.iconst 1, 1) := by decide +kernel
theorem dX1_init_6 : decode cX1_init 6 = .ok (.putfield 7, 3) := by decide +kernel
theorem dX1_init_9 : decode cX1_init 9 = .ok (.aload_n 0, 1) := by decide +kernel
theorem dX1_init_10 : decode cX1_init 10 = .ok (.aload_n 1, 1) := by decide +kernel
theorem dX1_init_11 : decode cX1_init 11 = .ok (.putfield 13, 3) := by decide +kernel
theorem dX1_init_14 : decode cX1_init 14 = .ok (.aload_n 0, 1) := by decide +kernel
theorem dX1_init_15 : decode cX1_init 15 = .ok (.aload_n 2, 1) := by decide +kernel
theorem dX1_init_16 : decode cX1_init 16 = .ok (.putfield 17, 3) := by decide +kernel
theorem dX1_init_19 : decode cX1_init 19 = .ok (.return_, 1) := by decide +kernel
theorem dX2_init_0 : decode cX2_init 0 = .ok (.aload_n 0, 1) := by decide +kernel
theorem dX2_init_1 : decode cX2_init 1 = .ok (.invokespecial 3, 3) := by decide +kernel
theorem dX2_init_4 : decode cX2_init 4 = .ok (.aload_n 0, 1) := by decide +kernel
theorem dX2_init_5 : decode cX2_init 5 = .ok (.iconst 4, 1) := by decide +kernel
theorem dX2_init_6 : decode cX2_init 6 = .ok (.newarray .int, 2) := by decide +kernel
theorem dX2_init_8 : decode cX2_init 8 = .ok (.putfield 9, 3) := by decide +kernel
theorem dX2_init_11 : decode cX2_init 11 = .ok (.aload_n 0, 1) := by decide +kernel
theorem dX2_init_12 : decode cX2_init 12 = .ok (.iload_n 1, 1) := by decide +kernel
theorem dX2_init_13 : decode cX2_init 13 = .ok (.putfield 15, 3) := by decide +kernel
theorem dX2_init_16 : decode cX2_init 16 = .ok (.return_, 1) := by decide +kernel
theorem dX2_answerTo_0 : decode cX2_answerTo 0 = .ok (.iconst 0, 1) := by decide +kernel
theorem dX2_answerTo_1 : decode cX2_answerTo 1 = .ok (.istore_n 3, 1) := by decide +kernel
theorem dX2_answerTo_2 : decode cX2_answerTo 2 = .ok (.iload_n 3, 1) := by decide +kernel
theorem dX2_answerTo_3 : decode cX2_answerTo 3 = .ok (.iconst 4, 1) := by decide +kernel
theorem dX2_answerTo_4 : decode cX2_answerTo 4 = .ok (.if_icmp .ge 28, 3) := by decide +kernel
theorem dX2_answerTo_7 : decode cX2_answerTo 7 = .ok (.aload_n 0, 1) := by decide +kernel
theorem dX2_answerTo_8 : decode cX2_answerTo 8 = .ok (.getfield 9, 3) := by decide +kernel
theorem dX2_answerTo_11 : decode cX2_answerTo 11 = .ok (.iload_n 3, 1) := by decide +kernel
theorem dX2_answerTo_12 : decode cX2_answerTo 12 = .ok (.iaload, 1) := by decide +kernel
theorem dX2_answerTo_13 : decode cX2_answerTo 13 = .ok (.aload_n 1, 1) := by decide +kernel
theorem dX2_answerTo_14 : decode cX2_answerTo 14 = .ok (.getfield 19, 3) := by decide +kernel
theorem dX2_answerTo_17 : decode cX2_answerTo 17 = .ok (.iload_n 3, 1) := by decide +kernel
theorem dX2_answerTo_18 : decode cX2_answerTo 18 = .ok (.iaload, 1) := by decide +kernel
theorem dX2_answerTo_19 : decode cX2_answerTo 19 = .ok (.iload_n 2, 1) := by decide +kernel
theorem dX2_answerTo_20 : decode cX2_answerTo 20 = .ok (.imul, 1) := by decide +kernel
theorem dX2_answerTo_21 : decode cX2_answerTo 21 = .ok (.if_icmp .ge 5, 3) := by decide +kernel
theorem dX2_answerTo_24 : decode cX2_answerTo 24 = .ok (.iconst 1, 1) := by decide +kernel
theorem dX2_answerTo_25 : decode cX2_answerTo 25 = .ok (.ireturn, 1) := by decide +kernel
theorem dX2_answerTo_26 : decode cX2_answerTo 26 = .ok (.iinc 3 1, 3) := by decide +kernel
theorem dX2_answerTo_29 : decode cX2_answerTo 29 = .ok (.goto (-27), 3) := by decide +kernel
theorem dX2_answerTo_32 : decode cX2_answerTo 32 = .ok (.iconst 0, 1) := by decide +kernel
theorem dX2_answerTo_33 : decode cX2_answerTo 33 = .ok (.istore_n 3, 1) := by decide +kernel
theorem dX2_answerTo_34 : decode cX2_answerTo 34 = .ok (.iload_n 3, 1) := by decide +kernel
theorem dX2_answerTo_35 : decode cX2_answerTo 35 = .ok (.iconst 4, 1) := by decide +kernel
theorem dX2_answerTo_36 : decode cX2_answerTo 36 = .ok (.if_icmp .ge 30, 3) := by decide +kernel
theorem dX2_answerTo_39 : decode cX2_answerTo 39 = .ok (.aload_n 0, 1) := by decide +kernel
theorem dX2_answerTo_40 : decode cX2_answerTo 40 = .ok (.getfield 9, 3) := by decide +kernel
theorem dX2_answerTo_43 : decode cX2_answerTo 43 = .ok (.iload_n 3, 1) := by decide +kernel
theorem dX2_answerTo_44 : decode cX2_answerTo 44 = .ok (.iaload, 1) := by decide +kernel
theorem dX2_answerTo_45 : decode cX2_answerTo 45 = .ok (.aload_n 1, 1) := by decide +kernel
theorem dX2_answerTo_46 : decode cX2_answerTo 46 = .ok (.iload_n 3, 1) := by decide +kernel
theorem dX2_answerTo_47 : decode cX2_answerTo 47 = .ok (.invokevirtual 24, 3) := by decide +kernel
theorem dX2_answerTo_50 : decode cX2_answerTo 50 = .ok (.iload_n 2, 1) := by decide +kernel
theorem dX2_answerTo_51 : decode cX2_answerTo 51 = .ok (.imul, 1) := by decide +kernel
theorem dX2_answerTo_52 : decode cX2_answerTo 52 = .ok (.iadd, 1) := by decide +kernel
theorem dX2_answerTo_53 : decode cX2_answerTo 53 = .ok (.ldc 28, 2) := by decide +kernel
theorem dX2_answerTo_55 : decode cX2_answerTo 55 = .ok (.if_icmp .le 5, 3) := by decide +kernel
theorem dX2_answerTo_58 : decode cX2_answerTo 58 = .ok (.iconst 2, 1) := by decide +kernel
theorem dX2_answerTo_59 : decode cX2_answerTo 59 = .ok (.ireturn, 1) := by decide +kernel
theorem dX2_answerTo_60 : decode cX2_answerTo 60 = .ok (.iinc 3 1, 3) := by decide +kernel
theorem dX2_answerTo_63 : decode cX2_answerTo 63 = .ok (.goto (-29), 3) := by decide +kernel
theorem dX2_answerTo_66 : decode cX2_answerTo 66 = .ok (.iconst 0, 1) := by decide +kernel
theorem dX2_answerTo_67 : decode cX2_answerTo 67 = .ok (.ireturn, 1) := by decide +kernel
theorem dX3_init_0 : decode cX3_init 0 = .ok (.aload_n 0, 1) := by decide +kernel
theorem dX3_init_1 : decode cX3_init 1 = .ok (.invokespecial 3, 3) := by decide +kernel
theorem dX3_init_4 : decode cX3_init 4 = .ok (.aload_n 0, 1) := by decide +kernel
theorem dX3_init_5 : decode cX3_init 5 = .ok (.iconst 4, 1) := by decide +kernel
theorem dX3_init_6 : decode cX3_init 6 = .ok (.newarray .int, 2) := by decide +kernel
theorem dX3_init_8 : decode cX3_init 8 = .ok (.putfield 9, 3) := by decide +kernel
theorem dX3_init_11 : decode cX3_init 11 = .ok (.aload_n 0, 1) := by decide +kernel
theorem dX3_init_12 : decode cX3_init 12 = .ok (.iconst 4, 1) := by decide +kernel
theorem dX3_init_13 : decode cX3_init 13 = .ok (.newarray .int, 2) := by decide +kernel
theorem dX3_init_15 : decode cX3_init 15 = .ok (.putfield 15, 3) := by decide +kernel
theorem dX3_init_18 : decode cX3_init 18 = .ok (.aload_n 0, 1) := by decide +kernel
theorem dX3_init_19 : decode cX3_init 19 = .ok (.iload_n 1, 1) := by decide +kernel
theorem dX3_init_20 : decode cX3_init 20 = .ok (.putfield 18, 3) := by decide +kernel
theorem dX3_init_23 : decode cX3_init 23 = .ok (.return_, 1) := by decide +kernel
theorem dX3_won_0 : decode cX3_won 0 = .ok (.aload_n 0, 1) := by decide +kernel
theorem dX3_won_1 : decode cX3_won 1 = .ok (.getfield 15, 3) := by decide +kernel
theorem dX3_won_4 : decode cX3_won 4 = .ok (.iload_n 1, 1) := by decide +kernel
theorem dX3_won_5 : decode cX3_won 5 = .ok (.iaload, 1) := by decide +kernel
theorem dX3_won_6 : decode cX3_won 6 = .ok (.aload_n 0, 1) := by decide +kernel
theorem dX3_won_7 : decode cX3_won 7 = .ok (.getfield 9, 3) := by decide +kernel
theorem dX3_won_10 : decode cX3_won 10 = .ok (.iload_n 1, 1) := by decide +kernel
theorem dX3_won_11 : decode cX3_won 11 = .ok (.iaload, 1) := by decide +kernel
theorem dX3_won_12 : decode cX3_won 12 = .ok (.isub, 1) := by decide +kernel
theorem dX3_won_13 : decode cX3_won 13 = .ok (.ireturn, 1) := by decide +kernel
theorem dX4_init_0 : decode cX4_init 0 = .ok (.aload_n 0, 1) := by decide +kernel
theorem dX4_init_1 : decode cX4_init 1 = .ok (.invokespecial 3, 3) := by decide +kernel
theorem dX4_init_4 : decode cX4_init 4 = .ok (.aload_n 0, 1) := by decide +kernel
theorem dX4_init_5 : decode cX4_init 5 = .ok (.aload_n 1, 1) := by decide +kernel
theorem dX4_init_6 : decode cX4_init 6 = .ok (.putfield 9, 3) := by decide +kernel
theorem dX4_init_9 : decode cX4_init 9 = .ok (.aload_n 0, 1) := by decide +kernel
theorem dX4_init_10 : decode cX4_init 10 = .ok (.iload_n 2, 1) := by decide +kernel
theorem dX4_init_11 : decode cX4_init 11 = .ok (.putfield 15, 3) := by decide +kernel
theorem dX4_init_14 : decode cX4_init 14 = .ok (.aload_n 0, 1) := by decide +kernel
theorem dX4_init_15 : decode cX4_init 15 = .ok (.iload_n 3, 1) := by decide +kernel
theorem dX4_init_16 : decode cX4_init 16 = .ok (.putfield 19, 3) := by decide +kernel
theorem dX4_init_19 : decode cX4_init 19 = .ok (.aload_n 0, 1) := by decide +kernel
theorem dX4_init_20 : decode cX4_init 20 = .ok (.aload 4, 2) := by decide +kernel
theorem dX4_init_22 : decode cX4_init 22 = .ok (.putfield 22, 3) := by decide +kernel
theorem dX4_init_25 : decode cX4_init 25 = .ok (.aload_n 0, 1) := by decide +kernel
theorem dX4_init_26 : decode cX4_init 26 = .ok (.aload 4, 2) := by decide +kernel
theorem dX4_init_28 : decode cX4_init 28 = .ok (.ifnonnull 7, 3) := by decide +kernel
theorem dX4_init_31 : decode cX4_init 31 = .ok (.iconst 0, 1) := by decide +kernel
theorem dX4_init_32 : decode cX4_init 32 = .ok (.goto 8, 3) := by decide +kernel
theorem dX4_init_35 : decode cX4_init 35 = .ok (.aload 4, 2) := by decide +kernel
theorem dX4_init_37 : decode cX4_init 37 = .ok (.getfield 26, 3) := by decide +kernel
theorem dX4_init_40 : decode cX4_init 40 = .ok (.putfield 31, 3) := by decide +kernel
theorem dX4_init_43 : decode cX4_init 43 = .ok (.return_, 1) := by decide +kernel
theorem dX4_hasTooFew_0 : decode cX4_hasTooFew 0 = .ok (.aload_n 0, 1) := by decide +kernel
theorem dX4_hasTooFew_1 : decode cX4_hasTooFew 1 = .ok (.getfield 9, 3) := by decide +kernel
theorem dX4_hasTooFew_4 : decode cX4_hasTooFew 4 = .ok (.getfield 34, 3) := by decide +kernel
theorem dX4_hasTooFew_7 : decode cX4_hasTooFew 7 = .ok (.aload_n 0, 1) := by decide +kernel
theorem dX4_hasTooFew_8 : decode cX4_hasTooFew 8 = .ok (.getfield 19, 3) := by decide +kernel
theorem dX4_hasTooFew_11 : decode cX4_hasTooFew 11 = .ok (.iaload, 1) := by decide +kernel
theorem dX4_hasTooFew_12 : decode cX4_hasTooFew 12 = .ok (.aload_n 0, 1) := by decide +kernel
theorem dX4_hasTooFew_13 : decode cX4_hasTooFew 13 = .ok (.getfield 15, 3) := by decide +kernel
theorem dX4_hasTooFew_16 : decode cX4_hasTooFew 16 = .ok (.if_icmp .ge 7, 3) := by decide +kernel
theorem dX4_hasTooFew_19 : decode cX4_hasTooFew 19 = .ok (.iconst 1, 1) := by decide +kernel
theorem dX4_hasTooFew_20 : decode cX4_hasTooFew 20 = .ok (.goto 4, 3) := by decide +kernel
theorem dX4_hasTooFew_23 : decode cX4_hasTooFew 23 = .ok (.iconst 0, 1) := by decide +kernel
theorem dX4_hasTooFew_24 : decode cX4_hasTooFew 24 = .ok (.ireturn, 1) := by decide +kernel
theorem dX4_wouldHaveTooMany_0 : decode cX4_wouldHaveTooMany 0 = .ok (.aload_n 0, 1) := by decide +kernel
theorem dX4_wouldHaveTooMany_1 : decode cX4_wouldHaveTooMany 1 = .ok (.getfield 9, 3) := by decide +kernel
theorem dX4_wouldHaveTooMany_4 : decode cX4_wouldHaveTooMany 4 = .ok (.getfield 34, 3) := by decide +kernel
theorem dX4_wouldHaveTooMany_7 : decode cX4_wouldHaveTooMany 7 = .ok (.aload_n 1, 1) := by decide +kernel
theorem dX4_wouldHaveTooMany_8 : decode cX4_wouldHaveTooMany 8 = .ok (.getfield 19, 3) := by decide +kernel
theorem dX4_wouldHaveTooMany_11 : decode cX4_wouldHaveTooMany 11 = .ok (.iaload, 1) := by decide +kernel
theorem dX4_wouldHaveTooMany_12 : decode cX4_wouldHaveTooMany 12 = .ok (.aload_n 0, 1) := by decide +kernel
theorem dX4_wouldHaveTooMany_13 : decode cX4_wouldHaveTooMany 13 = .ok (.getfield 19, 3) := by decide +kernel
theorem dX4_wouldHaveTooMany_16 : decode cX4_wouldHaveTooMany 16 = .ok (.aload_n 1, 1) := by decide +kernel
theorem dX4_wouldHaveTooMany_17 : decode cX4_wouldHaveTooMany 17 = .ok (.getfield 19, 3) := by decide +kernel
theorem dX4_wouldHaveTooMany_20 : decode cX4_wouldHaveTooMany 20 = .ok (.if_icmp .ne 10, 3) := by decide +kernel
theorem dX4_wouldHaveTooMany_23 : decode cX4_wouldHaveTooMany 23 = .ok (.aload_n 0, 1) := by decide +kernel
theorem dX4_wouldHaveTooMany_24 : decode cX4_wouldHaveTooMany 24 = .ok (.getfield 15, 3) := by decide +kernel
theorem dX4_wouldHaveTooMany_27 : decode cX4_wouldHaveTooMany 27 = .ok (.goto 4, 3) := by decide +kernel
theorem dX4_wouldHaveTooMany_30 : decode cX4_wouldHaveTooMany 30 = .ok (.iconst 0, 1) := by decide +kernel
theorem dX4_wouldHaveTooMany_31 : decode cX4_wouldHaveTooMany 31 = .ok (.isub, 1) := by decide +kernel
theorem dX4_wouldHaveTooMany_32 : decode cX4_wouldHaveTooMany 32 = .ok (.istore_n 2, 1) := by decide +kernel
theorem dX4_wouldHaveTooMany_33 : decode cX4_wouldHaveTooMany 33 = .ok (.iload_n 2, 1) := by decide +kernel
theorem dX4_wouldHaveTooMany_34 : decode cX4_wouldHaveTooMany 34 = .ok (.aload_n 1, 1) := by decide +kernel
theorem dX4_wouldHaveTooMany_35 : decode cX4_wouldHaveTooMany 35 = .ok (.getfield 15, 3) := by decide +kernel
theorem dX4_wouldHaveTooMany_38 : decode cX4_wouldHaveTooMany 38 = .ok (.iadd, 1) := by decide +kernel
theorem dX4_wouldHaveTooMany_39 : decode cX4_wouldHaveTooMany 39 = .ok (.ldc 40, 2) := by decide +kernel
theorem dX4_wouldHaveTooMany_41 : decode cX4_wouldHaveTooMany 41 = .ok (.if_icmp .le 7, 3) := by decide +kernel
theorem dX4_wouldHaveTooMany_44 : decode cX4_wouldHaveTooMany 44 = .ok (.iconst 1, 1) := by decide +kernel
theorem dX4_wouldHaveTooMany_45 : decode cX4_wouldHaveTooMany 45 = .ok (.goto 4, 3) := by decide +kernel
theorem dX4_wouldHaveTooMany_48 : decode cX4_wouldHaveTooMany 48 = .ok (.iconst 0, 1) := by decide +kernel
theorem dX4_wouldHaveTooMany_49 : decode cX4_wouldHaveTooMany 49 = .ok (.ireturn, 1) := by decide +kernel
theorem dX4_isWornSince_0 : decode cX4_isWornSince 0 = .ok (.aload_n 0, 1) := by decide +kernel
theorem dX4_isWornSince_1 : decode cX4_isWornSince 1 = .ok (.getfield 22, 3) := by decide +kernel
theorem dX4_isWornSince_4 : decode cX4_isWornSince 4 = .ok (.ifnull 21, 3) := by decide +kernel
theorem dX4_isWornSince_7 : decode cX4_isWornSince 7 = .ok (.aload_n 0, 1) := by decide +kernel
theorem dX4_isWornSince_8 : decode cX4_isWornSince 8 = .ok (.getfield 22, 3) := by decide +kernel
theorem dX4_isWornSince_11 : decode cX4_isWornSince 11 = .ok (.getfield 26, 3) := by decide +kernel
theorem dX4_isWornSince_14 : decode cX4_isWornSince 14 = .ok (.aload_n 0, 1) := by decide +kernel
theorem dX4_isWornSince_15 : decode cX4_isWornSince 15 = .ok (.getfield 31, 3) := by decide +kernel
theorem dX4_isWornSince_18 : decode cX4_isWornSince 18 = .ok (.if_icmp .eq 7, 3) := by decide +kernel
theorem dX4_isWornSince_21 : decode cX4_isWornSince 21 = .ok (.iconst 1, 1) := by decide +kernel
theorem dX4_isWornSince_22 : decode cX4_isWornSince 22 = .ok (.goto 4, 3) := by decide +kernel
theorem dX4_isWornSince_25 : decode cX4_isWornSince 25 = .ok (.iconst 0, 1) := by decide +kernel
theorem dX4_isWornSince_26 : decode cX4_isWornSince 26 = .ok (.ireturn, 1) := by decide +kernel
theorem dX5_init_0 : decode cX5_init 0 = .ok (.aload_n 0, 1) := by decide +kernel
theorem dX5_init_1 : decode cX5_init 1 = .ok (.invokespecial 3, 3) := by decide +kernel
theorem dX5_init_4 : decode cX5_init 4 = .ok (.aload_n 0, 1) := by decide +kernel
theorem dX5_init_5 : decode cX5_init 5 = .ok (.bipush 30, 2) := by decide +kernel
theorem dX5_init_7 : decode cX5_init 7 = .ok (.newarray .int, 2) := by decide +kernel
theorem dX5_init_9 : decode cX5_init 9 = .ok (.putfield 9, 3) := by decide +kernel
theorem dX5_init_12 : decode cX5_init 12 = .ok (.aload_n 0, 1) := by decide +kernel
theorem dX5_init_13 : decode cX5_init 13 = .ok (.bipush 30, 2) := by decide +kernel
theorem dX5_init_15 : decode cX5_init 15 = .ok (.newarray .int, 2) := by decide +kernel
theorem dX5_init_17 : decode cX5_init 17 = .ok (.putfield 15, 3) := by decide +kernel
theorem dX5_init_20 : decode cX5_init 20 = .ok (.aload_n 0, 1) := by decide +kernel
theorem dX5_init_21 : decode cX5_init 21 = .ok (.iconst (-1), 1) := by decide +kernel
theorem dX5_init_22 : decode cX5_init 22 = .ok (.putfield 18, 3) := by decide +kernel
theorem dX5_init_25 : decode cX5_init 25 = .ok (.aload_n 0, 1) := by decide +kernel
theorem dX5_init_26 : decode cX5_init 26 = .ok (.iload_n 1, 1) := by decide +kernel
theorem dX5_init_27 : decode cX5_init 27 = .ok (.putfield 22, 3) := by decide +kernel
theorem dX5_init_30 : decode cX5_init 30 = .ok (.aload_n 0, 1) := by decide +kernel
theorem dX5_init_31 : decode cX5_init 31 = .ok (.iload_n 2, 1) := by decide +kernel
theorem dX5_init_32 : decode cX5_init 32 = .ok (.putfield 25, 3) := by decide +kernel
theorem dX5_init_35 : decode cX5_init 35 = .ok (.aload_n 0, 1) := by decide +kernel
theorem dX5_init_36 : decode cX5_init 36 = .ok (.iload_n 3, 1) := by decide +kernel
theorem dX5_init_37 : decode cX5_init 37 = .ok (.putfield 29, 3) := by decide +kernel
theorem dX5_init_40 : decode cX5_init 40 = .ok (.return_, 1) := by decide +kernel
theorem dX5_isBroken_0 : decode cX5_isBroken 0 = .ok (.aload_n 0, 1) := by decide +kernel
theorem dX5_isBroken_1 : decode cX5_isBroken 1 = .ok (.getfield 32, 3) := by decide +kernel
theorem dX5_isBroken_4 : decode cX5_isBroken 4 = .ok (.ifnonnull 7, 3) := by decide +kernel
theorem dX5_isBroken_7 : decode cX5_isBroken 7 = .ok (.iconst 1, 1) := by decide +kernel
theorem dX5_isBroken_8 : decode cX5_isBroken 8 = .ok (.goto 4, 3) := by decide +kernel
theorem dX5_isBroken_11 : decode cX5_isBroken 11 = .ok (.iconst 0, 1) := by decide +kernel
theorem dX5_isBroken_12 : decode cX5_isBroken 12 = .ok (.ireturn, 1) := by decide +kernel
theorem dX5_isLent_0 : decode cX5_isLent 0 = .ok (.aload_n 0, 1) := by decide +kernel
theorem dX5_isLent_1 : decode cX5_isLent 1 = .ok (.getfield 36, 3) := by decide +kernel
theorem dX5_isLent_4 : decode cX5_isLent 4 = .ok (.ifnull 7, 3) := by decide +kernel
theorem dX5_isLent_7 : decode cX5_isLent 7 = .ok (.iconst 1, 1) := by decide +kernel
theorem dX5_isLent_8 : decode cX5_isLent 8 = .ok (.goto 4, 3) := by decide +kernel
theorem dX5_isLent_11 : decode cX5_isLent 11 = .ok (.iconst 0, 1) := by decide +kernel
theorem dX5_isLent_12 : decode cX5_isLent 12 = .ok (.ireturn, 1) := by decide +kernel
theorem dX5_passTo_0 : decode cX5_passTo 0 = .ok (.aload_n 0, 1) := by decide +kernel
theorem dX5_passTo_1 : decode cX5_passTo 1 = .ok (.aload_n 1, 1) := by decide +kernel
theorem dX5_passTo_2 : decode cX5_passTo 2 = .ok (.putfield 32, 3) := by decide +kernel
theorem dX5_passTo_5 : decode cX5_passTo 5 = .ok (.aload_n 0, 1) := by decide +kernel
theorem dX5_passTo_6 : decode cX5_passTo 6 = .ok (.getfield 39, 3) := by decide +kernel
theorem dX5_passTo_9 : decode cX5_passTo 9 = .ok (.bipush 30, 2) := by decide +kernel
theorem dX5_passTo_11 : decode cX5_passTo 11 = .ok (.if_icmp .ge 26, 3) := by decide +kernel
theorem dX5_passTo_14 : decode cX5_passTo 14 = .ok (.aload_n 0, 1) := by decide +kernel
theorem dX5_passTo_15 : decode cX5_passTo 15 = .ok (.getfield 9, 3) := by decide +kernel
theorem dX5_passTo_18 : decode cX5_passTo 18 = .ok (.aload_n 0, 1) := by decide +kernel
theorem dX5_passTo_19 : decode cX5_passTo 19 = .ok (.getfield 39, 3) := by decide +kernel
theorem dX5_passTo_22 : decode cX5_passTo 22 = .ok (.aload_n 1, 1) := by decide +kernel
theorem dX5_passTo_23 : decode cX5_passTo 23 = .ok (.getfield 42, 3) := by decide +kernel
theorem dX5_passTo_26 : decode cX5_passTo 26 = .ok (.iastore, 1) := by decide +kernel
theorem dX5_passTo_27 : decode cX5_passTo 27 = .ok (.aload_n 0, 1) := by decide +kernel
theorem dX5_passTo_28 : decode cX5_passTo 28 = .ok (.getfield 15, 3) := by decide +kernel
theorem dX5_passTo_31 : decode cX5_passTo 31 = .ok (.aload_n 0, 1) := by decide +kernel
theorem dX5_passTo_32 : decode cX5_passTo 32 = .ok (.getfield 39, 3) := by decide +kernel
theorem dX5_passTo_35 : decode cX5_passTo 35 = .ok (.iload_n 2, 1) := by decide +kernel
theorem dX5_passTo_36 : decode cX5_passTo 36 = .ok (.iastore, 1) := by decide +kernel
theorem dX5_passTo_37 : decode cX5_passTo 37 = .ok (.aload_n 0, 1) := by decide +kernel
theorem dX5_passTo_38 : decode cX5_passTo 38 = .ok (.dup, 1) := by decide +kernel
theorem dX5_passTo_39 : decode cX5_passTo 39 = .ok (.getfield 39, 3) := by decide +kernel
theorem dX5_passTo_42 : decode cX5_passTo 42 = .ok (.iconst 1, 1) := by decide +kernel
theorem dX5_passTo_43 : decode cX5_passTo 43 = .ok (.iadd, 1) := by decide +kernel
theorem dX5_passTo_44 : decode cX5_passTo 44 = .ok (.putfield 39, 3) := by decide +kernel
theorem dX5_passTo_47 : decode cX5_passTo 47 = .ok (.return_, 1) := by decide +kernel
theorem dX5_endLoan_0 : decode cX5_endLoan 0 = .ok (.aload_n 0, 1) := by decide +kernel
theorem dX5_endLoan_1 : decode cX5_endLoan 1 = .ok (.aconst_null, 1) := by decide +kernel
theorem dX5_endLoan_2 : decode cX5_endLoan 2 = .ok (.putfield 36, 3) := by decide +kernel
theorem dX5_endLoan_5 : decode cX5_endLoan 5 = .ok (.aload_n 0, 1) := by decide +kernel
theorem dX5_endLoan_6 : decode cX5_endLoan 6 = .ok (.iconst (-1), 1) := by decide +kernel
theorem dX5_endLoan_7 : decode cX5_endLoan 7 = .ok (.putfield 18, 3) := by decide +kernel
theorem dX5_endLoan_10 : decode cX5_endLoan 10 = .ok (.return_, 1) := by decide +kernel
theorem dX5_liesWithin_0 : decode cX5_liesWithin 0 = .ok (.aload_n 0, 1) := by decide +kernel
theorem dX5_liesWithin_1 : decode cX5_liesWithin 1 = .ok (.getfield 45, 3) := by decide +kernel
theorem dX5_liesWithin_4 : decode cX5_liesWithin 4 = .ok (.astore_n 2, 1) := by decide +kernel
theorem dX5_liesWithin_5 : decode cX5_liesWithin 5 = .ok (.aload_n 2, 1) := by decide +kernel
theorem dX5_liesWithin_6 : decode cX5_liesWithin 6 = .ok (.ifnull 18, 3) := by decide +kernel
theorem dX5_liesWithin_9 : decode cX5_liesWithin 9 = .ok (.aload_n 2, 1) := by decide +kernel
theorem dX5_liesWithin_10 : decode cX5_liesWithin 10 = .ok (.aload_n 1, 1) := by decide +kernel
theorem dX5_liesWithin_11 : decode cX5_liesWithin 11 = .ok (.if_acmp .ne 5, 3) := by decide +kernel
theorem dX5_liesWithin_14 : decode cX5_liesWithin 14 = .ok (.iconst 1, 1) := by decide +kernel
theorem dX5_liesWithin_15 : decode cX5_liesWithin 15 = .ok (.ireturn, 1) := by decide +kernel
theorem dX5_liesWithin_16 : decode cX5_liesWithin 16 = .ok (.aload_n 2, 1) := by decide +kernel
theorem dX5_liesWithin_17 : decode cX5_liesWithin 17 = .ok (.getfield 45, 3) := by decide +kernel
theorem dX5_liesWithin_20 : decode cX5_liesWithin 20 = .ok (.astore_n 2, 1) := by decide +kernel
theorem dX5_liesWithin_21 : decode cX5_liesWithin 21 = .ok (.goto (-16), 3) := by decide +kernel
theorem dX5_liesWithin_24 : decode cX5_liesWithin 24 = .ok (.iconst 0, 1) := by decide +kernel
theorem dX5_liesWithin_25 : decode cX5_liesWithin 25 = .ok (.ireturn, 1) := by decide +kernel
theorem dX6_init_0 : decode cX6_init 0 = .ok (.aload_n 0, 1) := by decide +kernel
theorem dX6_init_1 : decode cX6_init 1 = .ok (.invokespecial 1, 3) := by decide +kernel
theorem dX6_init_4 : decode cX6_init 4 = .ok (.aload_n 0, 1) := by decide +kernel
theorem dX6_init_5 : decode cX6_init 5 = .ok (.new 7, 3) := by decide +kernel
theorem dX6_init_8 : decode cX6_init 8 = .ok (.dup, 1) := by decide +kernel
theorem dX6_init_9 : decode cX6_init 9 = .ok (.invokespecial 9, 3) := by decide +kernel
theorem dX6_init_12 : decode cX6_init 12 = .ok (.putfield 10, 3) := by decide +kernel
theorem dX6_init_15 : decode cX6_init 15 = .ok (.return_, 1) := by decide +kernel
theorem dX6_size_0 : decode cX6_size 0 = .ok (.aload_n 0, 1) := by decide +kernel
theorem dX6_size_1 : decode cX6_size 1 = .ok (.getfield 10, 3) := by decide +kernel
theorem dX6_size_4 : decode cX6_size 4 = .ok (.invokevirtual 16, 3) := by decide +kernel
theorem dX6_size_7 : decode cX6_size 7 = .ok (.ireturn, 1) := by decide +kernel
theorem dX6_add_0 : decode cX6_add 0 = .ok (.aload_n 0, 1) := by decide +kernel
theorem dX6_add_1 : decode cX6_add 1 = .ok (.getfield 10, 3) := by decide +kernel
theorem dX6_add_4 : decode cX6_add 4 = .ok (.aload_n 1, 1) := by decide +kernel
theorem dX6_add_5 : decode cX6_add 5 = .ok (.invokevirtual 20, 3) := by decide +kernel
theorem dX6_add_8 : decode cX6_add 8 = .ok (.pop, 1) := by decide +kernel
theorem dX6_add_9 : decode cX6_add 9 = .ok (.return_, 1) := by decide +kernel
theorem dX6_at_0 : decode cX6_at 0 = .ok (.iload_n 1, 1) := by decide +kernel
theorem dX6_at_1 : decode cX6_at 1 = .ok (.ifCond .lt 14, 3) := by decide +kernel
theorem dX6_at_4 : decode cX6_at 4 = .ok (.iload_n 1, 1) := by decide +kernel
theorem dX6_at_5 : decode cX6_at 5 = .ok (.aload_n 0, 1) := by decide +kernel
theorem dX6_at_6 : decode cX6_at 6 = .ok (.getfield 10, 3) := by decide +kernel
theorem dX6_at_9 : decode cX6_at 9 = .ok (.invokevirtual 16, 3) := by decide +kernel
theorem dX6_at_12 : decode cX6_at 12 = .ok (.if_icmp .lt 13, 3) := by decide +kernel
theorem dX6_at_15 : decode cX6_at 15 = .ok (.new 24, 3) := by decide +kernel
theorem dX6_at_18 : decode cX6_at 18 = .ok (.dup, 1) := by decide +kernel
theorem dX6_at_19 : decode cX6_at 19 = .ok (.ldc 26, 2) := by decide +kernel
theorem dX6_at_21 : decode cX6_at 21 = .ok (.invokespecial 28, 3) := by decide +kernel
theorem dX6_at_24 : decode cX6_at 24 = .ok (.athrow, 1) := by decide +kernel
theorem dX6_at_25 : decode cX6_at 25 = .ok (.aload_n 0, 1) := by decide +kernel
theorem dX6_at_26 : decode cX6_at 26 = .ok (.getfield 10, 3) := by decide +kernel
theorem dX6_at_29 : decode cX6_at 29 = .ok (.iload_n 1, 1) := by decide +kernel
theorem dX6_at_30 : decode cX6_at 30 = .ok (.invokevirtual 31, 3) := by decide +kernel
theorem dX6_at_33 : decode cX6_at 33 = .ok (.checkcast 35, 3) := by decide +kernel
theorem dX6_at_36 : decode cX6_at 36 = .ok (.areturn, 1) := by decide +kernel
theorem dX6_mayLieIn_0 : decode cX6_mayLieIn 0 = .ok (.aload_n 1, 1) := by decide +kernel
theorem dX6_mayLieIn_1 : decode cX6_mayLieIn 1 = .ok (.invokevirtual 37, 3) := by decide +kernel
theorem dX6_mayLieIn_4 : decode cX6_mayLieIn 4 = .ok (.ifCond .ne 50, 3) := by decide +kernel
theorem dX6_mayLieIn_7 : decode cX6_mayLieIn 7 = .ok (.aload_n 1, 1) := by decide +kernel
theorem dX6_mayLieIn_8 : decode cX6_mayLieIn 8 = .ok (.getfield 41, 3) := by decide +kernel
theorem dX6_mayLieIn_11 : decode cX6_mayLieIn 11 = .ok (.aload_n 2, 1) := by decide +kernel
theorem dX6_mayLieIn_12 : decode cX6_mayLieIn 12 = .ok (.getfield 41, 3) := by decide +kernel
theorem dX6_mayLieIn_15 : decode cX6_mayLieIn 15 = .ok (.if_acmp .ne 39, 3) := by decide +kernel
theorem dX6_mayLieIn_18 : decode cX6_mayLieIn 18 = .ok (.aload_n 1, 1) := by decide +kernel
theorem dX6_mayLieIn_19 : decode cX6_mayLieIn 19 = .ok (.getfield 45, 3) := by decide +kernel
theorem dX6_mayLieIn_22 : decode cX6_mayLieIn 22 = .ok (.ifnonnull 32, 3) := by decide +kernel
theorem dX6_mayLieIn_25 : decode cX6_mayLieIn 25 = .ok (.aload_n 1, 1) := by decide +kernel
theorem dX6_mayLieIn_26 : decode cX6_mayLieIn 26 = .ok (.aload_n 2, 1) := by decide +kernel
theorem dX6_mayLieIn_27 : decode cX6_mayLieIn 27 = .ok (.if_acmp .eq 27, 3) := by decide +kernel
theorem dX6_mayLieIn_30 : decode cX6_mayLieIn 30 = .ok (.aload_n 2, 1) := by decide +kernel
theorem dX6_mayLieIn_31 : decode cX6_mayLieIn 31 = .ok (.aload_n 1, 1) := by decide +kernel
theorem dX6_mayLieIn_32 : decode cX6_mayLieIn 32 = .ok (.invokevirtual 49, 3) := by decide +kernel
theorem dX6_mayLieIn_35 : decode cX6_mayLieIn 35 = .ok (.ifCond .ne 19, 3) := by decide +kernel
theorem dX6_mayLieIn_38 : decode cX6_mayLieIn 38 = .ok (.aload_n 0, 1) := by decide +kernel
theorem dX6_mayLieIn_39 : decode cX6_mayLieIn 39 = .ok (.aload_n 2, 1) := by decide +kernel
theorem dX6_mayLieIn_40 : decode cX6_mayLieIn 40 = .ok (.invokevirtual 53, 3) := by decide +kernel
theorem dX6_mayLieIn_43 : decode cX6_mayLieIn 43 = .ok (.aload_n 2, 1) := by decide +kernel
theorem dX6_mayLieIn_44 : decode cX6_mayLieIn 44 = .ok (.getfield 57, 3) := by decide +kernel
theorem dX6_mayLieIn_47 : decode cX6_mayLieIn 47 = .ok (.if_icmp .ge 7, 3) := by decide +kernel
theorem dX6_mayLieIn_50 : decode cX6_mayLieIn 50 = .ok (.iconst 1, 1) := by decide +kernel
theorem dX6_mayLieIn_51 : decode cX6_mayLieIn 51 = .ok (.goto 4, 3) := by decide +kernel
theorem dX6_mayLieIn_54 : decode cX6_mayLieIn 54 = .ok (.iconst 0, 1) := by decide +kernel
theorem dX6_mayLieIn_55 : decode cX6_mayLieIn 55 = .ok (.ireturn, 1) := by decide +kernel
theorem dX6_mayLeave_0 : decode cX6_mayLeave 0 = .ok (.aload_n 1, 1) := by decide +kernel
theorem dX6_mayLeave_1 : decode cX6_mayLeave 1 = .ok (.invokevirtual 37, 3) := by decide +kernel
theorem dX6_mayLeave_4 : decode cX6_mayLeave 4 = .ok (.ifCond .ne 10, 3) := by decide +kernel
theorem dX6_mayLeave_7 : decode cX6_mayLeave 7 = .ok (.aload_n 1, 1) := by decide +kernel
theorem dX6_mayLeave_8 : decode cX6_mayLeave 8 = .ok (.getfield 45, 3) := by decide +kernel
theorem dX6_mayLeave_11 : decode cX6_mayLeave 11 = .ok (.ifnull 5, 3) := by decide +kernel
theorem dX6_mayLeave_14 : decode cX6_mayLeave 14 = .ok (.iconst 0, 1) := by decide +kernel
theorem dX6_mayLeave_15 : decode cX6_mayLeave 15 = .ok (.ireturn, 1) := by decide +kernel
theorem dX6_mayLeave_16 : decode cX6_mayLeave 16 = .ok (.iconst 0, 1) := by decide +kernel
theorem dX6_mayLeave_17 : decode cX6_mayLeave 17 = .ok (.istore_n 2, 1) := by decide +kernel
theorem dX6_mayLeave_18 : decode cX6_mayLeave 18 = .ok (.iload_n 2, 1) := by decide +kernel
theorem dX6_mayLeave_19 : decode cX6_mayLeave 19 = .ok (.aload_n 0, 1) := by decide +kernel
theorem dX6_mayLeave_20 : decode cX6_mayLeave 20 = .ok (.getfield 10, 3) := by decide +kernel
theorem dX6_mayLeave_23 : decode cX6_mayLeave 23 = .ok (.invokevirtual 16, 3) := by decide +kernel
theorem dX6_mayLeave_26 : decode cX6_mayLeave 26 = .ok (.if_icmp .ge 45, 3) := by decide +kernel
theorem dX6_mayLeave_29 : decode cX6_mayLeave 29 = .ok (.aload_n 0, 1) := by decide +kernel
theorem dX6_mayLeave_30 : decode cX6_mayLeave 30 = .ok (.getfield 10, 3) := by decide +kernel
theorem dX6_mayLeave_33 : decode cX6_mayLeave 33 = .ok (.iload_n 2, 1) := by decide +kernel
theorem dX6_mayLeave_34 : decode cX6_mayLeave 34 = .ok (.invokevirtual 31, 3) := by decide +kernel
theorem dX6_mayLeave_37 : decode cX6_mayLeave 37 = .ok (.checkcast 35, 3) := by decide +kernel
theorem dX6_mayLeave_40 : decode cX6_mayLeave 40 = .ok (.astore_n 3, 1) := by decide +kernel
theorem dX6_mayLeave_41 : decode cX6_mayLeave 41 = .ok (.aload_n 3, 1) := by decide +kernel
theorem dX6_mayLeave_42 : decode cX6_mayLeave 42 = .ok (.getfield 61, 3) := by decide +kernel
theorem dX6_mayLeave_45 : decode cX6_mayLeave 45 = .ok (.ifCond .ne 10, 3) := by decide +kernel
theorem dX6_mayLeave_48 : decode cX6_mayLeave 48 = .ok (.aload_n 3, 1) := by decide +kernel
theorem dX6_mayLeave_49 : decode cX6_mayLeave 49 = .ok (.invokevirtual 65, 3) := by decide +kernel
theorem dX6_mayLeave_52 : decode cX6_mayLeave 52 = .ok (.ifCond .eq 13, 3) := by decide +kernel
theorem dX6_mayLeave_55 : decode cX6_mayLeave 55 = .ok (.aload_n 3, 1) := by decide +kernel
theorem dX6_mayLeave_56 : decode cX6_mayLeave 56 = .ok (.aload_n 1, 1) := by decide +kernel
theorem dX6_mayLeave_57 : decode cX6_mayLeave 57 = .ok (.invokestatic 68, 3) := by decide +kernel
theorem dX6_mayLeave_60 : decode cX6_mayLeave 60 = .ok (.ifCond .eq 5, 3) := by decide +kernel
theorem dX6_mayLeave_63 : decode cX6_mayLeave 63 = .ok (.iconst 0, 1) := by decide +kernel
theorem dX6_mayLeave_64 : decode cX6_mayLeave 64 = .ok (.ireturn, 1) := by decide +kernel
theorem dX6_mayLeave_65 : decode cX6_mayLeave 65 = .ok (.iinc 2 1, 3) := by decide +kernel
theorem dX6_mayLeave_68 : decode cX6_mayLeave 68 = .ok (.goto (-50), 3) := by decide +kernel
theorem dX6_mayLeave_71 : decode cX6_mayLeave 71 = .ok (.iconst 1, 1) := by decide +kernel
theorem dX6_mayLeave_72 : decode cX6_mayLeave 72 = .ok (.ireturn, 1) := by decide +kernel
theorem dX6_passOn_0 : decode cX6_passOn 0 = .ok (.iconst 0, 1) := by decide +kernel
theorem dX6_passOn_1 : decode cX6_passOn 1 = .ok (.istore 4, 2) := by decide +kernel
theorem dX6_passOn_3 : decode cX6_passOn 3 = .ok (.iload 4, 2) := by decide +kernel
theorem dX6_passOn_5 : decode cX6_passOn 5 = .ok (.aload_n 0, 1) := by decide +kernel
theorem dX6_passOn_6 : decode cX6_passOn 6 = .ok (.getfield 10, 3) := by decide +kernel
theorem dX6_passOn_9 : decode cX6_passOn 9 = .ok (.invokevirtual 16, 3) := by decide +kernel
theorem dX6_passOn_12 : decode cX6_passOn 12 = .ok (.if_icmp .ge 39, 3) := by decide +kernel
theorem dX6_passOn_15 : decode cX6_passOn 15 = .ok (.aload_n 0, 1) := by decide +kernel
theorem dX6_passOn_16 : decode cX6_passOn 16 = .ok (.getfield 10, 3) := by decide +kernel
theorem dX6_passOn_19 : decode cX6_passOn 19 = .ok (.iload 4, 2) := by decide +kernel
theorem dX6_passOn_21 : decode cX6_passOn 21 = .ok (.invokevirtual 31, 3) := by decide +kernel
theorem dX6_passOn_24 : decode cX6_passOn 24 = .ok (.checkcast 35, 3) := by decide +kernel
theorem dX6_passOn_27 : decode cX6_passOn 27 = .ok (.astore 5, 2) := by decide +kernel
theorem dX6_passOn_29 : decode cX6_passOn 29 = .ok (.aload 5, 2) := by decide +kernel
theorem dX6_passOn_31 : decode cX6_passOn 31 = .ok (.aload_n 1, 1) := by decide +kernel
theorem dX6_passOn_32 : decode cX6_passOn 32 = .ok (.invokestatic 68, 3) := by decide +kernel
theorem dX6_passOn_35 : decode cX6_passOn 35 = .ok (.ifCond .eq 10, 3) := by decide +kernel
theorem dX6_passOn_38 : decode cX6_passOn 38 = .ok (.aload 5, 2) := by decide +kernel
theorem dX6_passOn_40 : decode cX6_passOn 40 = .ok (.aload_n 2, 1) := by decide +kernel
theorem dX6_passOn_41 : decode cX6_passOn 41 = .ok (.iload_n 3, 1) := by decide +kernel
theorem dX6_passOn_42 : decode cX6_passOn 42 = .ok (.invokevirtual 72, 3) := by decide +kernel
theorem dX6_passOn_45 : decode cX6_passOn 45 = .ok (.iinc 4 1, 3) := by decide +kernel
theorem dX6_passOn_48 : decode cX6_passOn 48 = .ok (.goto (-45), 3) := by decide +kernel
theorem dX6_passOn_51 : decode cX6_passOn 51 = .ok (.return_, 1) := by decide +kernel
theorem dX6_breakUp_0 : decode cX6_breakUp 0 = .ok (.aload_n 1, 1) := by decide +kernel
theorem dX6_breakUp_1 : decode cX6_breakUp 1 = .ok (.aconst_null, 1) := by decide +kernel
theorem dX6_breakUp_2 : decode cX6_breakUp 2 = .ok (.putfield 45, 3) := by decide +kernel
theorem dX6_breakUp_5 : decode cX6_breakUp 5 = .ok (.aload_n 1, 1) := by decide +kernel
theorem dX6_breakUp_6 : decode cX6_breakUp 6 = .ok (.aconst_null, 1) := by decide +kernel
theorem dX6_breakUp_7 : decode cX6_breakUp 7 = .ok (.putfield 41, 3) := by decide +kernel
theorem dX6_breakUp_10 : decode cX6_breakUp 10 = .ok (.aload_n 1, 1) := by decide +kernel
theorem dX6_breakUp_11 : decode cX6_breakUp 11 = .ok (.invokevirtual 76, 3) := by decide +kernel
theorem dX6_breakUp_14 : decode cX6_breakUp 14 = .ok (.iconst 0, 1) := by decide +kernel
theorem dX6_breakUp_15 : decode cX6_breakUp 15 = .ok (.istore_n 2, 1) := by decide +kernel
theorem dX6_breakUp_16 : decode cX6_breakUp 16 = .ok (.iload_n 2, 1) := by decide +kernel
theorem dX6_breakUp_17 : decode cX6_breakUp 17 = .ok (.aload_n 0, 1) := by decide +kernel
theorem dX6_breakUp_18 : decode cX6_breakUp 18 = .ok (.getfield 10, 3) := by decide +kernel
theorem dX6_breakUp_21 : decode cX6_breakUp 21 = .ok (.invokevirtual 16, 3) := by decide +kernel
theorem dX6_breakUp_24 : decode cX6_breakUp 24 = .ok (.if_icmp .ge 34, 3) := by decide +kernel
theorem dX6_breakUp_27 : decode cX6_breakUp 27 = .ok (.aload_n 0, 1) := by decide +kernel
theorem dX6_breakUp_28 : decode cX6_breakUp 28 = .ok (.getfield 10, 3) := by decide +kernel
theorem dX6_breakUp_31 : decode cX6_breakUp 31 = .ok (.iload_n 2, 1) := by decide +kernel
theorem dX6_breakUp_32 : decode cX6_breakUp 32 = .ok (.invokevirtual 31, 3) := by decide +kernel
theorem dX6_breakUp_35 : decode cX6_breakUp 35 = .ok (.checkcast 35, 3) := by decide +kernel
theorem dX6_breakUp_38 : decode cX6_breakUp 38 = .ok (.astore_n 3, 1) := by decide +kernel
theorem dX6_breakUp_39 : decode cX6_breakUp 39 = .ok (.aload_n 3, 1) := by decide +kernel
theorem dX6_breakUp_40 : decode cX6_breakUp 40 = .ok (.getfield 45, 3) := by decide +kernel
theorem dX6_breakUp_43 : decode cX6_breakUp 43 = .ok (.aload_n 1, 1) := by decide +kernel
theorem dX6_breakUp_44 : decode cX6_breakUp 44 = .ok (.if_acmp .ne 8, 3) := by decide +kernel
theorem dX6_breakUp_47 : decode cX6_breakUp 47 = .ok (.aload_n 3, 1) := by decide +kernel
theorem dX6_breakUp_48 : decode cX6_breakUp 48 = .ok (.aconst_null, 1) := by decide +kernel
theorem dX6_breakUp_49 : decode cX6_breakUp 49 = .ok (.putfield 45, 3) := by decide +kernel
theorem dX6_breakUp_52 : decode cX6_breakUp 52 = .ok (.iinc 2 1, 3) := by decide +kernel
theorem dX6_breakUp_55 : decode cX6_breakUp 55 = .ok (.goto (-39), 3) := by decide +kernel
theorem dX6_breakUp_58 : decode cX6_breakUp 58 = .ok (.return_, 1) := by decide +kernel
theorem dX6_bringBack_0 : decode cX6_bringBack 0 = .ok (.iconst 0, 1) := by decide +kernel
theorem dX6_bringBack_1 : decode cX6_bringBack 1 = .ok (.istore_n 2, 1) := by decide +kernel
theorem dX6_bringBack_2 : decode cX6_bringBack 2 = .ok (.iload_n 2, 1) := by decide +kernel
theorem dX6_bringBack_3 : decode cX6_bringBack 3 = .ok (.aload_n 0, 1) := by decide +kernel
theorem dX6_bringBack_4 : decode cX6_bringBack 4 = .ok (.getfield 10, 3) := by decide +kernel
theorem dX6_bringBack_7 : decode cX6_bringBack 7 = .ok (.invokevirtual 16, 3) := by decide +kernel
theorem dX6_bringBack_10 : decode cX6_bringBack 10 = .ok (.if_icmp .ge 50, 3) := by decide +kernel
theorem dX6_bringBack_13 : decode cX6_bringBack 13 = .ok (.aload_n 0, 1) := by decide +kernel
theorem dX6_bringBack_14 : decode cX6_bringBack 14 = .ok (.iload_n 1, 1) := by decide +kernel
theorem dX6_bringBack_15 : decode cX6_bringBack 15 = .ok (.invokevirtual 79, 3) := by decide +kernel
theorem dX6_bringBack_18 : decode cX6_bringBack 18 = .ok (.astore_n 3, 1) := by decide +kernel
theorem dX6_bringBack_19 : decode cX6_bringBack 19 = .ok (.aload_n 3, 1) := by decide +kernel
theorem dX6_bringBack_20 : decode cX6_bringBack 20 = .ok (.ifnonnull 4, 3) := by decide +kernel
theorem dX6_bringBack_23 : decode cX6_bringBack 23 = .ok (.return_, 1) := by decide +kernel
theorem dX6_bringBack_24 : decode cX6_bringBack 24 = .ok (.aload_n 3, 1) := by decide +kernel
theorem dX6_bringBack_25 : decode cX6_bringBack 25 = .ok (.getfield 83, 3) := by decide +kernel
theorem dX6_bringBack_28 : decode cX6_bringBack 28 = .ok (.astore 4, 2) := by decide +kernel
theorem dX6_bringBack_30 : decode cX6_bringBack 30 = .ok (.aload_n 3, 1) := by decide +kernel
theorem dX6_bringBack_31 : decode cX6_bringBack 31 = .ok (.getfield 86, 3) := by decide +kernel
theorem dX6_bringBack_34 : decode cX6_bringBack 34 = .ok (.istore 5, 2) := by decide +kernel
theorem dX6_bringBack_36 : decode cX6_bringBack 36 = .ok (.aload_n 3, 1) := by decide +kernel
theorem dX6_bringBack_37 : decode cX6_bringBack 37 = .ok (.aconst_null, 1) := by decide +kernel
theorem dX6_bringBack_38 : decode cX6_bringBack 38 = .ok (.putfield 45, 3) := by decide +kernel
theorem dX6_bringBack_41 : decode cX6_bringBack 41 = .ok (.aload_n 3, 1) := by decide +kernel
theorem dX6_bringBack_42 : decode cX6_bringBack 42 = .ok (.invokevirtual 76, 3) := by decide +kernel
theorem dX6_bringBack_45 : decode cX6_bringBack 45 = .ok (.aload_n 0, 1) := by decide +kernel
theorem dX6_bringBack_46 : decode cX6_bringBack 46 = .ok (.aload_n 3, 1) := by decide +kernel
theorem dX6_bringBack_47 : decode cX6_bringBack 47 = .ok (.aload 4, 2) := by decide +kernel
theorem dX6_bringBack_49 : decode cX6_bringBack 49 = .ok (.iload 5, 2) := by decide +kernel
theorem dX6_bringBack_51 : decode cX6_bringBack 51 = .ok (.invokevirtual 89, 3) := by decide +kernel
theorem dX6_bringBack_54 : decode cX6_bringBack 54 = .ok (.iinc 2 1, 3) := by decide +kernel
theorem dX6_bringBack_57 : decode cX6_bringBack 57 = .ok (.goto (-55), 3) := by decide +kernel
theorem dX6_bringBack_60 : decode cX6_bringBack 60 = .ok (.return_, 1) := by decide +kernel
theorem dX6_nextDue_0 : decode cX6_nextDue 0 = .ok (.aconst_null, 1) := by decide +kernel
theorem dX6_nextDue_1 : decode cX6_nextDue 1 = .ok (.astore_n 2, 1) := by decide +kernel
theorem dX6_nextDue_2 : decode cX6_nextDue 2 = .ok (.iconst 0, 1) := by decide +kernel
theorem dX6_nextDue_3 : decode cX6_nextDue 3 = .ok (.istore_n 3, 1) := by decide +kernel
theorem dX6_nextDue_4 : decode cX6_nextDue 4 = .ok (.iload_n 3, 1) := by decide +kernel
theorem dX6_nextDue_5 : decode cX6_nextDue 5 = .ok (.aload_n 0, 1) := by decide +kernel
theorem dX6_nextDue_6 : decode cX6_nextDue 6 = .ok (.getfield 10, 3) := by decide +kernel
theorem dX6_nextDue_9 : decode cX6_nextDue 9 = .ok (.invokevirtual 16, 3) := by decide +kernel
theorem dX6_nextDue_12 : decode cX6_nextDue 12 = .ok (.if_icmp .ge 58, 3) := by decide +kernel
theorem dX6_nextDue_15 : decode cX6_nextDue 15 = .ok (.aload_n 0, 1) := by decide +kernel
theorem dX6_nextDue_16 : decode cX6_nextDue 16 = .ok (.getfield 10, 3) := by decide +kernel
theorem dX6_nextDue_19 : decode cX6_nextDue 19 = .ok (.iload_n 3, 1) := by decide +kernel
theorem dX6_nextDue_20 : decode cX6_nextDue 20 = .ok (.invokevirtual 31, 3) := by decide +kernel
theorem dX6_nextDue_23 : decode cX6_nextDue 23 = .ok (.checkcast 35, 3) := by decide +kernel
theorem dX6_nextDue_26 : decode cX6_nextDue 26 = .ok (.astore 4, 2) := by decide +kernel
theorem dX6_nextDue_28 : decode cX6_nextDue 28 = .ok (.aload 4, 2) := by decide +kernel
theorem dX6_nextDue_30 : decode cX6_nextDue 30 = .ok (.invokevirtual 65, 3) := by decide +kernel
theorem dX6_nextDue_33 : decode cX6_nextDue 33 = .ok (.ifCond .eq 31, 3) := by decide +kernel
theorem dX6_nextDue_36 : decode cX6_nextDue 36 = .ok (.aload 4, 2) := by decide +kernel
theorem dX6_nextDue_38 : decode cX6_nextDue 38 = .ok (.getfield 86, 3) := by decide +kernel
theorem dX6_nextDue_41 : decode cX6_nextDue 41 = .ok (.iload_n 1, 1) := by decide +kernel
theorem dX6_nextDue_42 : decode cX6_nextDue 42 = .ok (.if_icmp .gt 22, 3) := by decide +kernel
theorem dX6_nextDue_45 : decode cX6_nextDue 45 = .ok (.aload_n 2, 1) := by decide +kernel
theorem dX6_nextDue_46 : decode cX6_nextDue 46 = .ok (.ifnull 15, 3) := by decide +kernel
theorem dX6_nextDue_49 : decode cX6_nextDue 49 = .ok (.aload 4, 2) := by decide +kernel
theorem dX6_nextDue_51 : decode cX6_nextDue 51 = .ok (.getfield 86, 3) := by decide +kernel
theorem dX6_nextDue_54 : decode cX6_nextDue 54 = .ok (.aload_n 2, 1) := by decide +kernel
theorem dX6_nextDue_55 : decode cX6_nextDue 55 = .ok (.getfield 86, 3) := by decide +kernel
theorem dX6_nextDue_58 : decode cX6_nextDue 58 = .ok (.if_icmp .ge 6, 3) := by decide +kernel
theorem dX6_nextDue_61 : decode cX6_nextDue 61 = .ok (.aload 4, 2) := by decide +kernel
theorem dX6_nextDue_63 : decode cX6_nextDue 63 = .ok (.astore_n 2, 1) := by decide +kernel
theorem dX6_nextDue_64 : decode cX6_nextDue 64 = .ok (.iinc 3 1, 3) := by decide +kernel
theorem dX6_nextDue_67 : decode cX6_nextDue 67 = .ok (.goto (-63), 3) := by decide +kernel
theorem dX6_nextDue_70 : decode cX6_nextDue 70 = .ok (.aload_n 2, 1) := by decide +kernel
theorem dX6_nextDue_71 : decode cX6_nextDue 71 = .ok (.areturn, 1) := by decide +kernel
theorem dX6_rightWithin_0 : decode cX6_rightWithin 0 = .ok (.iconst 0, 1) := by decide +kernel
theorem dX6_rightWithin_1 : decode cX6_rightWithin 1 = .ok (.istore_n 2, 1) := by decide +kernel
theorem dX6_rightWithin_2 : decode cX6_rightWithin 2 = .ok (.iconst 0, 1) := by decide +kernel
theorem dX6_rightWithin_3 : decode cX6_rightWithin 3 = .ok (.istore_n 3, 1) := by decide +kernel
theorem dX6_rightWithin_4 : decode cX6_rightWithin 4 = .ok (.iload_n 3, 1) := by decide +kernel
theorem dX6_rightWithin_5 : decode cX6_rightWithin 5 = .ok (.aload_n 0, 1) := by decide +kernel
theorem dX6_rightWithin_6 : decode cX6_rightWithin 6 = .ok (.getfield 10, 3) := by decide +kernel
theorem dX6_rightWithin_9 : decode cX6_rightWithin 9 = .ok (.invokevirtual 16, 3) := by decide +kernel
theorem dX6_rightWithin_12 : decode cX6_rightWithin 12 = .ok (.if_icmp .ge 30, 3) := by decide +kernel
theorem dX6_rightWithin_15 : decode cX6_rightWithin 15 = .ok (.aload_n 0, 1) := by decide +kernel
theorem dX6_rightWithin_16 : decode cX6_rightWithin 16 = .ok (.getfield 10, 3) := by decide +kernel
theorem dX6_rightWithin_19 : decode cX6_rightWithin 19 = .ok (.iload_n 3, 1) := by decide +kernel
theorem dX6_rightWithin_20 : decode cX6_rightWithin 20 = .ok (.invokevirtual 31, 3) := by decide +kernel
theorem dX6_rightWithin_23 : decode cX6_rightWithin 23 = .ok (.checkcast 35, 3) := by decide +kernel
theorem dX6_rightWithin_26 : decode cX6_rightWithin 26 = .ok (.getfield 45, 3) := by decide +kernel
theorem dX6_rightWithin_29 : decode cX6_rightWithin 29 = .ok (.aload_n 1, 1) := by decide +kernel
theorem dX6_rightWithin_30 : decode cX6_rightWithin 30 = .ok (.if_acmp .ne 6, 3) := by decide +kernel
theorem dX6_rightWithin_33 : decode cX6_rightWithin 33 = .ok (.iinc 2 1, 3) := by decide +kernel
theorem dX6_rightWithin_36 : decode cX6_rightWithin 36 = .ok (.iinc 3 1, 3) := by decide +kernel
theorem dX6_rightWithin_39 : decode cX6_rightWithin 39 = .ok (.goto (-35), 3) := by decide +kernel
theorem dX6_rightWithin_42 : decode cX6_rightWithin 42 = .ok (.iload_n 2, 1) := by decide +kernel
theorem dX6_rightWithin_43 : decode cX6_rightWithin 43 = .ok (.ireturn, 1) := by decide +kernel
theorem dX6_allWithin_0 : decode cX6_allWithin 0 = .ok (.iconst 0, 1) := by decide +kernel
theorem dX6_allWithin_1 : decode cX6_allWithin 1 = .ok (.istore_n 2, 1) := by decide +kernel
theorem dX6_allWithin_2 : decode cX6_allWithin 2 = .ok (.iconst 0, 1) := by decide +kernel
theorem dX6_allWithin_3 : decode cX6_allWithin 3 = .ok (.istore_n 3, 1) := by decide +kernel
theorem dX6_allWithin_4 : decode cX6_allWithin 4 = .ok (.iload_n 3, 1) := by decide +kernel
theorem dX6_allWithin_5 : decode cX6_allWithin 5 = .ok (.aload_n 0, 1) := by decide +kernel
theorem dX6_allWithin_6 : decode cX6_allWithin 6 = .ok (.getfield 10, 3) := by decide +kernel
theorem dX6_allWithin_9 : decode cX6_allWithin 9 = .ok (.invokevirtual 16, 3) := by decide +kernel
theorem dX6_allWithin_12 : decode cX6_allWithin 12 = .ok (.if_icmp .ge 30, 3) := by decide +kernel
theorem dX6_allWithin_15 : decode cX6_allWithin 15 = .ok (.aload_n 0, 1) := by decide +kernel
theorem dX6_allWithin_16 : decode cX6_allWithin 16 = .ok (.getfield 10, 3) := by decide +kernel
theorem dX6_allWithin_19 : decode cX6_allWithin 19 = .ok (.iload_n 3, 1) := by decide +kernel
theorem dX6_allWithin_20 : decode cX6_allWithin 20 = .ok (.invokevirtual 31, 3) := by decide +kernel
theorem dX6_allWithin_23 : decode cX6_allWithin 23 = .ok (.checkcast 35, 3) := by decide +kernel
theorem dX6_allWithin_26 : decode cX6_allWithin 26 = .ok (.aload_n 1, 1) := by decide +kernel
theorem dX6_allWithin_27 : decode cX6_allWithin 27 = .ok (.invokevirtual 49, 3) := by decide +kernel
theorem dX6_allWithin_30 : decode cX6_allWithin 30 = .ok (.ifCond .eq 6, 3) := by decide +kernel
theorem dX6_allWithin_33 : decode cX6_allWithin 33 = .ok (.iinc 2 1, 3) := by decide +kernel
theorem dX6_allWithin_36 : decode cX6_allWithin 36 = .ok (.iinc 3 1, 3) := by decide +kernel
theorem dX6_allWithin_39 : decode cX6_allWithin 39 = .ok (.goto (-35), 3) := by decide +kernel
theorem dX6_allWithin_42 : decode cX6_allWithin 42 = .ok (.iload_n 2, 1) := by decide +kernel
theorem dX6_allWithin_43 : decode cX6_allWithin 43 = .ok (.ireturn, 1) := by decide +kernel
theorem dX6_countBroken_0 : decode cX6_countBroken 0 = .ok (.iconst 0, 1) := by decide +kernel
theorem dX6_countBroken_1 : decode cX6_countBroken 1 = .ok (.istore_n 1, 1) := by decide +kernel
theorem dX6_countBroken_2 : decode cX6_countBroken 2 = .ok (.iconst 0, 1) := by decide +kernel
theorem dX6_countBroken_3 : decode cX6_countBroken 3 = .ok (.istore_n 2, 1) := by decide +kernel
theorem dX6_countBroken_4 : decode cX6_countBroken 4 = .ok (.iload_n 2, 1) := by decide +kernel
theorem dX6_countBroken_5 : decode cX6_countBroken 5 = .ok (.aload_n 0, 1) := by decide +kernel
theorem dX6_countBroken_6 : decode cX6_countBroken 6 = .ok (.getfield 10, 3) := by decide +kernel
theorem dX6_countBroken_9 : decode cX6_countBroken 9 = .ok (.invokevirtual 16, 3) := by decide +kernel
theorem dX6_countBroken_12 : decode cX6_countBroken 12 = .ok (.if_icmp .ge 29, 3) := by decide +kernel
theorem dX6_countBroken_15 : decode cX6_countBroken 15 = .ok (.aload_n 0, 1) := by decide +kernel
theorem dX6_countBroken_16 : decode cX6_countBroken 16 = .ok (.getfield 10, 3) := by decide +kernel
theorem dX6_countBroken_19 : decode cX6_countBroken 19 = .ok (.iload_n 2, 1) := by decide +kernel
theorem dX6_countBroken_20 : decode cX6_countBroken 20 = .ok (.invokevirtual 31, 3) := by decide +kernel
theorem dX6_countBroken_23 : decode cX6_countBroken 23 = .ok (.checkcast 35, 3) := by decide +kernel
theorem dX6_countBroken_26 : decode cX6_countBroken 26 = .ok (.invokevirtual 37, 3) := by decide +kernel
theorem dX6_countBroken_29 : decode cX6_countBroken 29 = .ok (.ifCond .eq 6, 3) := by decide +kernel
theorem dX6_countBroken_32 : decode cX6_countBroken 32 = .ok (.iinc 1 1, 3) := by decide +kernel
theorem dX6_countBroken_35 : decode cX6_countBroken 35 = .ok (.iinc 2 1, 3) := by decide +kernel
theorem dX6_countBroken_38 : decode cX6_countBroken 38 = .ok (.goto (-34), 3) := by decide +kernel
theorem dX6_countBroken_41 : decode cX6_countBroken 41 = .ok (.iload_n 1, 1) := by decide +kernel
theorem dX6_countBroken_42 : decode cX6_countBroken 42 = .ok (.ireturn, 1) := by decide +kernel
theorem dX6_countLent_0 : decode cX6_countLent 0 = .ok (.iconst 0, 1) := by decide +kernel
theorem dX6_countLent_1 : decode cX6_countLent 1 = .ok (.istore_n 1, 1) := by decide +kernel
theorem dX6_countLent_2 : decode cX6_countLent 2 = .ok (.iconst 0, 1) := by decide +kernel
theorem dX6_countLent_3 : decode cX6_countLent 3 = .ok (.istore_n 2, 1) := by decide +kernel
theorem dX6_countLent_4 : decode cX6_countLent 4 = .ok (.iload_n 2, 1) := by decide +kernel
theorem dX6_countLent_5 : decode cX6_countLent 5 = .ok (.aload_n 0, 1) := by decide +kernel
theorem dX6_countLent_6 : decode cX6_countLent 6 = .ok (.getfield 10, 3) := by decide +kernel
theorem dX6_countLent_9 : decode cX6_countLent 9 = .ok (.invokevirtual 16, 3) := by decide +kernel
theorem dX6_countLent_12 : decode cX6_countLent 12 = .ok (.if_icmp .ge 29, 3) := by decide +kernel
theorem dX6_countLent_15 : decode cX6_countLent 15 = .ok (.aload_n 0, 1) := by decide +kernel
theorem dX6_countLent_16 : decode cX6_countLent 16 = .ok (.getfield 10, 3) := by decide +kernel
theorem dX6_countLent_19 : decode cX6_countLent 19 = .ok (.iload_n 2, 1) := by decide +kernel
theorem dX6_countLent_20 : decode cX6_countLent 20 = .ok (.invokevirtual 31, 3) := by decide +kernel
theorem dX6_countLent_23 : decode cX6_countLent 23 = .ok (.checkcast 35, 3) := by decide +kernel
theorem dX6_countLent_26 : decode cX6_countLent 26 = .ok (.invokevirtual 65, 3) := by decide +kernel
theorem dX6_countLent_29 : decode cX6_countLent 29 = .ok (.ifCond .eq 6, 3) := by decide +kernel
theorem dX6_countLent_32 : decode cX6_countLent 32 = .ok (.iinc 1 1, 3) := by decide +kernel
theorem dX6_countLent_35 : decode cX6_countLent 35 = .ok (.iinc 2 1, 3) := by decide +kernel
theorem dX6_countLent_38 : decode cX6_countLent 38 = .ok (.goto (-34), 3) := by decide +kernel
theorem dX6_countLent_41 : decode cX6_countLent 41 = .ok (.iload_n 1, 1) := by decide +kernel
theorem dX6_countLent_42 : decode cX6_countLent 42 = .ok (.ireturn, 1) := by decide +kernel
theorem dX6_goesWith_0 : decode cX6_goesWith 0 = .ok (.aload_n 0, 1) := by decide +kernel
theorem dX6_goesWith_1 : decode cX6_goesWith 1 = .ok (.aload_n 1, 1) := by decide +kernel
theorem dX6_goesWith_2 : decode cX6_goesWith 2 = .ok (.if_acmp .eq 11, 3) := by decide +kernel
theorem dX6_goesWith_5 : decode cX6_goesWith 5 = .ok (.aload_n 0, 1) := by decide +kernel
theorem dX6_goesWith_6 : decode cX6_goesWith 6 = .ok (.aload_n 1, 1) := by decide +kernel
theorem dX6_goesWith_7 : decode cX6_goesWith 7 = .ok (.invokevirtual 49, 3) := by decide +kernel
theorem dX6_goesWith_10 : decode cX6_goesWith 10 = .ok (.ifCond .eq 7, 3) := by decide +kernel
theorem dX6_goesWith_13 : decode cX6_goesWith 13 = .ok (.iconst 1, 1) := by decide +kernel
theorem dX6_goesWith_14 : decode cX6_goesWith 14 = .ok (.goto 4, 3) := by decide +kernel
theorem dX6_goesWith_17 : decode cX6_goesWith 17 = .ok (.iconst 0, 1) := by decide +kernel
theorem dX6_goesWith_18 : decode cX6_goesWith 18 = .ok (.ireturn, 1) := by decide +kernel
theorem dX7_init_0 : decode cX7_init 0 = .ok (.aload_n 0, 1) := by decide +kernel
theorem dX7_init_1 : decode cX7_init 1 = .ok (.invokespecial 1, 3) := by decide +kernel
theorem dX7_init_4 : decode cX7_init 4 = .ok (.aload_n 0, 1) := by decide +kernel
theorem dX7_init_5 : decode cX7_init 5 = .ok (.new 7, 3) := by decide +kernel
theorem dX7_init_8 : decode cX7_init 8 = .ok (.dup, 1) := by decide +kernel
theorem dX7_init_9 : decode cX7_init 9 = .ok (.invokespecial 9, 3) := by decide +kernel
theorem dX7_init_12 : decode cX7_init 12 = .ok (.putfield 10, 3) := by decide +kernel
theorem dX7_init_15 : decode cX7_init 15 = .ok (.aload_n 0, 1) := by decide +kernel
theorem dX7_init_16 : decode cX7_init 16 = .ok (.new 7, 3) := by decide +kernel
theorem dX7_init_19 : decode cX7_init 19 = .ok (.dup, 1) := by decide +kernel
theorem dX7_init_20 : decode cX7_init 20 = .ok (.invokespecial 9, 3) := by decide +kernel
theorem dX7_init_23 : decode cX7_init 23 = .ok (.putfield 16, 3) := by decide +kernel
theorem dX7_init_26 : decode cX7_init 26 = .ok (.aload_n 0, 1) := by decide +kernel
theorem dX7_init_27 : decode cX7_init 27 = .ok (.new 7, 3) := by decide +kernel
theorem dX7_init_30 : decode cX7_init 30 = .ok (.dup, 1) := by decide +kernel
theorem dX7_init_31 : decode cX7_init 31 = .ok (.invokespecial 9, 3) := by decide +kernel
theorem dX7_init_34 : decode cX7_init 34 = .ok (.putfield 19, 3) := by decide +kernel
theorem dX7_init_37 : decode cX7_init 37 = .ok (.aload_n 0, 1) := by decide +kernel
theorem dX7_init_38 : decode cX7_init 38 = .ok (.new 22, 3) := by decide +kernel
theorem dX7_init_41 : decode cX7_init 41 = .ok (.dup, 1) := by decide +kernel
theorem dX7_init_42 : decode cX7_init 42 = .ok (.invokespecial 24, 3) := by decide +kernel
theorem dX7_init_45 : decode cX7_init 45 = .ok (.putfield 25, 3) := by decide +kernel
theorem dX7_init_48 : decode cX7_init 48 = .ok (.aload_n 0, 1) := by decide +kernel
theorem dX7_init_49 : decode cX7_init 49 = .ok (.new 29, 3) := by decide +kernel
theorem dX7_init_52 : decode cX7_init 52 = .ok (.dup, 1) := by decide +kernel
theorem dX7_init_53 : decode cX7_init 53 = .ok (.invokespecial 31, 3) := by decide +kernel
theorem dX7_init_56 : decode cX7_init 56 = .ok (.putfield 32, 3) := by decide +kernel
theorem dX7_init_59 : decode cX7_init 59 = .ok (.aload_n 0, 1) := by decide +kernel
theorem dX7_init_60 : decode cX7_init 60 = .ok (.iconst 4, 1) := by decide +kernel
theorem dX7_init_61 : decode cX7_init 61 = .ok (.newarray .int, 2) := by decide +kernel
theorem dX7_init_63 : decode cX7_init 63 = .ok (.putfield 36, 3) := by decide +kernel
theorem dX7_init_66 : decode cX7_init 66 = .ok (.aload_n 0, 1) := by decide +kernel
theorem dX7_init_67 : decode cX7_init 67 = .ok (.iconst 4, 1) := by decide +kernel
theorem dX7_init_68 : decode cX7_init 68 = .ok (.newarray .long, 2) := by decide +kernel
theorem dX7_init_70 : decode cX7_init 70 = .ok (.putfield 40, 3) := by decide +kernel
theorem dX7_init_73 : decode cX7_init 73 = .ok (.aload_n 0, 1) := by decide +kernel
theorem dX7_init_74 : decode cX7_init 74 = .ok (.iconst 4, 1) := by decide +kernel
theorem dX7_init_75 : decode cX7_init 75 = .ok (.newarray .long, 2) := by decide +kernel
theorem dX7_init_77 : decode cX7_init 77 = .ok (.putfield 44, 3) := by decide +kernel
theorem dX7_init_80 : decode cX7_init 80 = .ok (.return_, 1) := by decide +kernel
theorem dX7_player_0 : decode cX7_player 0 = .ok (.aload_n 0, 1) := by decide +kernel
theorem dX7_player_1 : decode cX7_player 1 = .ok (.getfield 10, 3) := by decide +kernel
theorem dX7_player_4 : decode cX7_player 4 = .ok (.invokevirtual 47, 3) := by decide +kernel
theorem dX7_player_7 : decode cX7_player 7 = .ok (.istore_n 1, 1) := by decide +kernel
theorem dX7_player_8 : decode cX7_player 8 = .ok (.iload_n 1, 1) := by decide +kernel
theorem dX7_player_9 : decode cX7_player 9 = .ok (.bipush 10, 2) := by decide +kernel
theorem dX7_player_11 : decode cX7_player 11 = .ok (.if_icmp .lt 13, 3) := by decide +kernel
theorem dX7_player_14 : decode cX7_player 14 = .ok (.new 51, 3) := by decide +kernel
theorem dX7_player_17 : decode cX7_player 17 = .ok (.dup, 1) := by decide +kernel
theorem dX7_player_18 : decode cX7_player 18 = .ok (.ldc 53, 2) := by decide +kernel
theorem dX7_player_20 : decode cX7_player 20 = .ok (.invokespecial 55, 3) := by decide +kernel
theorem dX7_player_23 : decode cX7_player 23 = .ok (.athrow, 1) := by decide +kernel
theorem dX7_player_24 : decode cX7_player 24 = .ok (.aload_n 0, 1) := by decide +kernel
theorem dX7_player_25 : decode cX7_player 25 = .ok (.getfield 10, 3) := by decide +kernel
theorem dX7_player_28 : decode cX7_player 28 = .ok (.new 58, 3) := by decide +kernel
theorem dX7_player_31 : decode cX7_player 31 = .ok (.dup, 1) := by decide +kernel
theorem dX7_player_32 : decode cX7_player 32 = .ok (.iload_n 1, 1) := by decide +kernel
theorem dX7_player_33 : decode cX7_player 33 = .ok (.invokespecial 60, 3) := by decide +kernel
theorem dX7_player_36 : decode cX7_player 36 = .ok (.invokevirtual 63, 3) := by decide +kernel
theorem dX7_player_39 : decode cX7_player 39 = .ok (.pop, 1) := by decide +kernel
theorem dX7_player_40 : decode cX7_player 40 = .ok (.iload_n 1, 1) := by decide +kernel
theorem dX7_player_41 : decode cX7_player 41 = .ok (.ireturn, 1) := by decide +kernel
theorem dX7_rule_0 : decode cX7_rule 0 = .ok (.aload_n 0, 1) := by decide +kernel
theorem dX7_rule_1 : decode cX7_rule 1 = .ok (.getfield 16, 3) := by decide +kernel
theorem dX7_rule_4 : decode cX7_rule 4 = .ok (.invokevirtual 47, 3) := by decide +kernel
theorem dX7_rule_7 : decode cX7_rule 7 = .ok (.istore_n 2, 1) := by decide +kernel
theorem dX7_rule_8 : decode cX7_rule 8 = .ok (.iload_n 2, 1) := by decide +kernel
theorem dX7_rule_9 : decode cX7_rule 9 = .ok (.bipush 10, 2) := by decide +kernel
theorem dX7_rule_11 : decode cX7_rule 11 = .ok (.if_icmp .lt 13, 3) := by decide +kernel
theorem dX7_rule_14 : decode cX7_rule 14 = .ok (.new 51, 3) := by decide +kernel
theorem dX7_rule_17 : decode cX7_rule 17 = .ok (.dup, 1) := by decide +kernel
theorem dX7_rule_18 : decode cX7_rule 18 = .ok (.ldc 67, 2) := by decide +kernel
theorem dX7_rule_20 : decode cX7_rule 20 = .ok (.invokespecial 55, 3) := by decide +kernel
theorem dX7_rule_23 : decode cX7_rule 23 = .ok (.athrow, 1) := by decide +kernel
theorem dX7_rule_24 : decode cX7_rule 24 = .ok (.aload_n 0, 1) := by decide +kernel
theorem dX7_rule_25 : decode cX7_rule 25 = .ok (.getfield 16, 3) := by decide +kernel
theorem dX7_rule_28 : decode cX7_rule 28 = .ok (.new 69, 3) := by decide +kernel
theorem dX7_rule_31 : decode cX7_rule 31 = .ok (.dup, 1) := by decide +kernel
theorem dX7_rule_32 : decode cX7_rule 32 = .ok (.iload_n 1, 1) := by decide +kernel
theorem dX7_rule_33 : decode cX7_rule 33 = .ok (.invokespecial 71, 3) := by decide +kernel
theorem dX7_rule_36 : decode cX7_rule 36 = .ok (.invokevirtual 63, 3) := by decide +kernel
theorem dX7_rule_39 : decode cX7_rule 39 = .ok (.pop, 1) := by decide +kernel
theorem dX7_rule_40 : decode cX7_rule 40 = .ok (.iload_n 2, 1) := by decide +kernel
theorem dX7_rule_41 : decode cX7_rule 41 = .ok (.ireturn, 1) := by decide +kernel
theorem dX7_part_0 : decode cX7_part 0 = .ok (.aload_n 0, 1) := by decide +kernel
theorem dX7_part_1 : decode cX7_part 1 = .ok (.iload_n 1, 1) := by decide +kernel
theorem dX7_part_2 : decode cX7_part 2 = .ok (.invokevirtual 74, 3) := by decide +kernel
theorem dX7_part_5 : decode cX7_part 5 = .ok (.astore 5, 2) := by decide +kernel
theorem dX7_part_7 : decode cX7_part 7 = .ok (.iload_n 2, 1) := by decide +kernel
theorem dX7_part_8 : decode cX7_part 8 = .ok (.invokestatic 78, 3) := by decide +kernel
theorem dX7_part_11 : decode cX7_part 11 = .ok (.iload 4, 2) := by decide +kernel
theorem dX7_part_13 : decode cX7_part 13 = .ok (.iconst 0, 1) := by decide +kernel
theorem dX7_part_14 : decode cX7_part 14 = .ok (.bipush 9, 2) := by decide +kernel
theorem dX7_part_16 : decode cX7_part 16 = .ok (.invokestatic 81, 3) := by decide +kernel
theorem dX7_part_19 : decode cX7_part 19 = .ok (.iload_n 3, 1) := by decide +kernel
theorem dX7_part_20 : decode cX7_part 20 = .ok (.ifCond .eq 15, 3) := by decide +kernel
theorem dX7_part_23 : decode cX7_part 23 = .ok (.aload 5, 2) := by decide +kernel
theorem dX7_part_25 : decode cX7_part 25 = .ok (.getfield 85, 3) := by decide +kernel
theorem dX7_part_28 : decode cX7_part 28 = .ok (.iload_n 2, 1) := by decide +kernel
theorem dX7_part_29 : decode cX7_part 29 = .ok (.iload 4, 2) := by decide +kernel
theorem dX7_part_31 : decode cX7_part 31 = .ok (.iastore, 1) := by decide +kernel
theorem dX7_part_32 : decode cX7_part 32 = .ok (.goto 12, 3) := by decide +kernel
theorem dX7_part_35 : decode cX7_part 35 = .ok (.aload 5, 2) := by decide +kernel
theorem dX7_part_37 : decode cX7_part 37 = .ok (.getfield 88, 3) := by decide +kernel
theorem dX7_part_40 : decode cX7_part 40 = .ok (.iload_n 2, 1) := by decide +kernel
theorem dX7_part_41 : decode cX7_part 41 = .ok (.iload 4, 2) := by decide +kernel
theorem dX7_part_43 : decode cX7_part 43 = .ok (.iastore, 1) := by decide +kernel
theorem dX7_part_44 : decode cX7_part 44 = .ok (.return_, 1) := by decide +kernel
theorem dX7_deed_0 : decode cX7_deed 0 = .ok (.aload_n 0, 1) := by decide +kernel
theorem dX7_deed_1 : decode cX7_deed 1 = .ok (.iload_n 1, 1) := by decide +kernel
theorem dX7_deed_2 : decode cX7_deed 2 = .ok (.invokevirtual 91, 3) := by decide +kernel
theorem dX7_deed_5 : decode cX7_deed 5 = .ok (.astore 5, 2) := by decide +kernel
theorem dX7_deed_7 : decode cX7_deed 7 = .ok (.aload_n 0, 1) := by decide +kernel
theorem dX7_deed_8 : decode cX7_deed 8 = .ok (.iload_n 3, 1) := by decide +kernel
theorem dX7_deed_9 : decode cX7_deed 9 = .ok (.invokevirtual 74, 3) := by decide +kernel
theorem dX7_deed_12 : decode cX7_deed 12 = .ok (.astore 6, 2) := by decide +kernel
theorem dX7_deed_14 : decode cX7_deed 14 = .ok (.iload 4, 2) := by decide +kernel
theorem dX7_deed_16 : decode cX7_deed 16 = .ok (.iconst 1, 1) := by decide +kernel
theorem dX7_deed_17 : decode cX7_deed 17 = .ok (.sipush 1000, 3) := by decide +kernel
theorem dX7_deed_20 : decode cX7_deed 20 = .ok (.invokestatic 81, 3) := by decide +kernel
theorem dX7_deed_23 : decode cX7_deed 23 = .ok (.aload 5, 2) := by decide +kernel
theorem dX7_deed_25 : decode cX7_deed 25 = .ok (.getfield 95, 3) := by decide +kernel
theorem dX7_deed_28 : decode cX7_deed 28 = .ok (.ifCond .le 18, 3) := by decide +kernel
theorem dX7_deed_31 : decode cX7_deed 31 = .ok (.iload_n 2, 1) := by decide +kernel
theorem dX7_deed_32 : decode cX7_deed 32 = .ok (.aload 5, 2) := by decide +kernel
theorem dX7_deed_34 : decode cX7_deed 34 = .ok (.getfield 95, 3) := by decide +kernel
theorem dX7_deed_37 : decode cX7_deed 37 = .ok (.if_icmp .ne 9, 3) := by decide +kernel
theorem dX7_deed_40 : decode cX7_deed 40 = .ok (.aload 5, 2) := by decide +kernel
theorem dX7_deed_42 : decode cX7_deed 42 = .ok (.getfield 99, 3) := by decide +kernel
theorem dX7_deed_45 : decode cX7_deed 45 = .ok (.ireturn, 1) := by decide +kernel
theorem dX7_deed_46 : decode cX7_deed 46 = .ok (.iload_n 2, 1) := by decide +kernel
theorem dX7_deed_47 : decode cX7_deed 47 = .ok (.aload 5, 2) := by decide +kernel
theorem dX7_deed_49 : decode cX7_deed 49 = .ok (.getfield 95, 3) := by decide +kernel
theorem dX7_deed_52 : decode cX7_deed 52 = .ok (.iconst 1, 1) := by decide +kernel
theorem dX7_deed_53 : decode cX7_deed 53 = .ok (.iadd, 1) := by decide +kernel
theorem dX7_deed_54 : decode cX7_deed 54 = .ok (.if_icmp .eq 5, 3) := by decide +kernel
theorem dX7_deed_57 : decode cX7_deed 57 = .ok (.iconst 3, 1) := by decide +kernel
theorem dX7_deed_58 : decode cX7_deed 58 = .ok (.ireturn, 1) := by decide +kernel
theorem dX7_deed_59 : decode cX7_deed 59 = .ok (.aload 5, 2) := by decide +kernel
theorem dX7_deed_61 : decode cX7_deed 61 = .ok (.aload 6, 2) := by decide +kernel
theorem dX7_deed_63 : decode cX7_deed 63 = .ok (.iload 4, 2) := by decide +kernel
theorem dX7_deed_65 : decode cX7_deed 65 = .ok (.invokevirtual 102, 3) := by decide +kernel
theorem dX7_deed_68 : decode cX7_deed 68 = .ok (.istore 7, 2) := by decide +kernel
theorem dX7_deed_70 : decode cX7_deed 70 = .ok (.aload 5, 2) := by decide +kernel
theorem dX7_deed_72 : decode cX7_deed 72 = .ok (.iload_n 2, 1) := by decide +kernel
theorem dX7_deed_73 : decode cX7_deed 73 = .ok (.putfield 95, 3) := by decide +kernel
theorem dX7_deed_76 : decode cX7_deed 76 = .ok (.aload 5, 2) := by decide +kernel
theorem dX7_deed_78 : decode cX7_deed 78 = .ok (.iload 7, 2) := by decide +kernel
theorem dX7_deed_80 : decode cX7_deed 80 = .ok (.putfield 99, 3) := by decide +kernel
theorem dX7_deed_83 : decode cX7_deed 83 = .ok (.iload 7, 2) := by decide +kernel
theorem dX7_deed_85 : decode cX7_deed 85 = .ok (.ifCond .ne 13, 3) := by decide +kernel
theorem dX7_deed_88 : decode cX7_deed 88 = .ok (.aload_n 0, 1) := by decide +kernel
theorem dX7_deed_89 : decode cX7_deed 89 = .ok (.aload 5, 2) := by decide +kernel
theorem dX7_deed_91 : decode cX7_deed 91 = .ok (.aload 6, 2) := by decide +kernel
theorem dX7_deed_93 : decode cX7_deed 93 = .ok (.iload 4, 2) := by decide +kernel
theorem dX7_deed_95 : decode cX7_deed 95 = .ok (.invokevirtual 106, 3) := by decide +kernel
theorem dX7_deed_98 : decode cX7_deed 98 = .ok (.iload 7, 2) := by decide +kernel
theorem dX7_deed_100 : decode cX7_deed 100 = .ok (.ireturn, 1) := by decide +kernel
theorem dX7_has_0 : decode cX7_has 0 = .ok (.aload_n 0, 1) := by decide +kernel
theorem dX7_has_1 : decode cX7_has 1 = .ok (.iload_n 1, 1) := by decide +kernel
theorem dX7_has_2 : decode cX7_has 2 = .ok (.invokevirtual 91, 3) := by decide +kernel
theorem dX7_has_5 : decode cX7_has 5 = .ok (.astore_n 3, 1) := by decide +kernel
theorem dX7_has_6 : decode cX7_has 6 = .ok (.iload_n 2, 1) := by decide +kernel
theorem dX7_has_7 : decode cX7_has 7 = .ok (.invokestatic 78, 3) := by decide +kernel
theorem dX7_has_10 : decode cX7_has 10 = .ok (.aload_n 3, 1) := by decide +kernel
theorem dX7_has_11 : decode cX7_has 11 = .ok (.getfield 110, 3) := by decide +kernel
theorem dX7_has_14 : decode cX7_has 14 = .ok (.iload_n 2, 1) := by decide +kernel
theorem dX7_has_15 : decode cX7_has 15 = .ok (.iaload, 1) := by decide +kernel
theorem dX7_has_16 : decode cX7_has 16 = .ok (.ireturn, 1) := by decide +kernel
theorem dX7_sum_0 : decode cX7_sum 0 = .ok (.iload_n 1, 1) := by decide +kernel
theorem dX7_sum_1 : decode cX7_sum 1 = .ok (.invokestatic 78, 3) := by decide +kernel
theorem dX7_sum_4 : decode cX7_sum 4 = .ok (.iload_n 2, 1) := by decide +kernel
theorem dX7_sum_5 : decode cX7_sum 5 = .ok (.ifCond .eq 12, 3) := by decide +kernel
theorem dX7_sum_8 : decode cX7_sum 8 = .ok (.aload_n 0, 1) := by decide +kernel
theorem dX7_sum_9 : decode cX7_sum 9 = .ok (.getfield 44, 3) := by decide +kernel
theorem dX7_sum_12 : decode cX7_sum 12 = .ok (.iload_n 1, 1) := by decide +kernel
theorem dX7_sum_13 : decode cX7_sum 13 = .ok (.laload, 1) := by decide +kernel
theorem dX7_sum_14 : decode cX7_sum 14 = .ok (.goto 9, 3) := by decide +kernel
theorem dX7_sum_17 : decode cX7_sum 17 = .ok (.aload_n 0, 1) := by decide +kernel
theorem dX7_sum_18 : decode cX7_sum 18 = .ok (.getfield 40, 3) := by decide +kernel
theorem dX7_sum_21 : decode cX7_sum 21 = .ok (.iload_n 1, 1) := by decide +kernel
theorem dX7_sum_22 : decode cX7_sum 22 = .ok (.laload, 1) := by decide +kernel
theorem dX7_sum_23 : decode cX7_sum 23 = .ok (.lreturn, 1) := by decide +kernel
theorem dX7_carryOut_0 : decode cX7_carryOut 0 = .ok (.iconst 0, 1) := by decide +kernel
theorem dX7_carryOut_1 : decode cX7_carryOut 1 = .ok (.istore 4, 2) := by decide +kernel
theorem dX7_carryOut_3 : decode cX7_carryOut 3 = .ok (.iload 4, 2) := by decide +kernel
theorem dX7_carryOut_5 : decode cX7_carryOut 5 = .ok (.iconst 4, 1) := by decide +kernel
theorem dX7_carryOut_6 : decode cX7_carryOut 6 = .ok (.if_icmp .ge 72, 3) := by decide +kernel
theorem dX7_carryOut_9 : decode cX7_carryOut 9 = .ok (.aload_n 2, 1) := by decide +kernel
theorem dX7_carryOut_10 : decode cX7_carryOut 10 = .ok (.getfield 88, 3) := by decide +kernel
theorem dX7_carryOut_13 : decode cX7_carryOut 13 = .ok (.iload 4, 2) := by decide +kernel
theorem dX7_carryOut_15 : decode cX7_carryOut 15 = .ok (.iaload, 1) := by decide +kernel
theorem dX7_carryOut_16 : decode cX7_carryOut 16 = .ok (.iload_n 3, 1) := by decide +kernel
theorem dX7_carryOut_17 : decode cX7_carryOut 17 = .ok (.imul, 1) := by decide +kernel
theorem dX7_carryOut_18 : decode cX7_carryOut 18 = .ok (.istore 5, 2) := by decide +kernel
theorem dX7_carryOut_20 : decode cX7_carryOut 20 = .ok (.aload_n 2, 1) := by decide +kernel
theorem dX7_carryOut_21 : decode cX7_carryOut 21 = .ok (.getfield 85, 3) := by decide +kernel
theorem dX7_carryOut_24 : decode cX7_carryOut 24 = .ok (.iload 4, 2) := by decide +kernel
theorem dX7_carryOut_26 : decode cX7_carryOut 26 = .ok (.iaload, 1) := by decide +kernel
theorem dX7_carryOut_27 : decode cX7_carryOut 27 = .ok (.iload_n 3, 1) := by decide +kernel
theorem dX7_carryOut_28 : decode cX7_carryOut 28 = .ok (.imul, 1) := by decide +kernel
theorem dX7_carryOut_29 : decode cX7_carryOut 29 = .ok (.istore 6, 2) := by decide +kernel
theorem dX7_carryOut_31 : decode cX7_carryOut 31 = .ok (.aload_n 1, 1) := by decide +kernel
theorem dX7_carryOut_32 : decode cX7_carryOut 32 = .ok (.getfield 110, 3) := by decide +kernel
theorem dX7_carryOut_35 : decode cX7_carryOut 35 = .ok (.iload 4, 2) := by decide +kernel
theorem dX7_carryOut_37 : decode cX7_carryOut 37 = .ok (.dup2, 1) := by decide +kernel
theorem dX7_carryOut_38 : decode cX7_carryOut 38 = .ok (.iaload, 1) := by decide +kernel
theorem dX7_carryOut_39 : decode cX7_carryOut 39 = .ok (.iload 6, 2) := by decide +kernel
theorem dX7_carryOut_41 : decode cX7_carryOut 41 = .ok (.iload 5, 2) := by decide +kernel
theorem dX7_carryOut_43 : decode cX7_carryOut 43 = .ok (.isub, 1) := by decide +kernel
theorem dX7_carryOut_44 : decode cX7_carryOut 44 = .ok (.iadd, 1) := by decide +kernel
theorem dX7_carryOut_45 : decode cX7_carryOut 45 = .ok (.iastore, 1) := by decide +kernel
theorem dX7_carryOut_46 : decode cX7_carryOut 46 = .ok (.aload_n 0, 1) := by decide +kernel
theorem dX7_carryOut_47 : decode cX7_carryOut 47 = .ok (.getfield 44, 3) := by decide +kernel
theorem dX7_carryOut_50 : decode cX7_carryOut 50 = .ok (.iload 4, 2) := by decide +kernel
theorem dX7_carryOut_52 : decode cX7_carryOut 52 = .ok (.dup2, 1) := by decide +kernel
theorem dX7_carryOut_53 : decode cX7_carryOut 53 = .ok (.laload, 1) := by decide +kernel
theorem dX7_carryOut_54 : decode cX7_carryOut 54 = .ok (.iload 5, 2) := by decide +kernel
theorem dX7_carryOut_56 : decode cX7_carryOut 56 = .ok (.i2l, 1) := by decide +kernel
theorem dX7_carryOut_57 : decode cX7_carryOut 57 = .ok (.ladd, 1) := by decide +kernel
theorem dX7_carryOut_58 : decode cX7_carryOut 58 = .ok (.lastore, 1) := by decide +kernel
theorem dX7_carryOut_59 : decode cX7_carryOut 59 = .ok (.aload_n 0, 1) := by decide +kernel
theorem dX7_carryOut_60 : decode cX7_carryOut 60 = .ok (.getfield 40, 3) := by decide +kernel
theorem dX7_carryOut_63 : decode cX7_carryOut 63 = .ok (.iload 4, 2) := by decide +kernel
theorem dX7_carryOut_65 : decode cX7_carryOut 65 = .ok (.dup2, 1) := by decide +kernel
theorem dX7_carryOut_66 : decode cX7_carryOut 66 = .ok (.laload, 1) := by decide +kernel
theorem dX7_carryOut_67 : decode cX7_carryOut 67 = .ok (.iload 6, 2) := by decide +kernel
theorem dX7_carryOut_69 : decode cX7_carryOut 69 = .ok (.i2l, 1) := by decide +kernel
theorem dX7_carryOut_70 : decode cX7_carryOut 70 = .ok (.ladd, 1) := by decide +kernel
theorem dX7_carryOut_71 : decode cX7_carryOut 71 = .ok (.lastore, 1) := by decide +kernel
theorem dX7_carryOut_72 : decode cX7_carryOut 72 = .ok (.iinc 4 1, 3) := by decide +kernel
theorem dX7_carryOut_75 : decode cX7_carryOut 75 = .ok (.goto (-72), 3) := by decide +kernel
theorem dX7_carryOut_78 : decode cX7_carryOut 78 = .ok (.aload_n 0, 1) := by decide +kernel
theorem dX7_carryOut_79 : decode cX7_carryOut 79 = .ok (.dup, 1) := by decide +kernel
theorem dX7_carryOut_80 : decode cX7_carryOut 80 = .ok (.getfield 113, 3) := by decide +kernel
theorem dX7_carryOut_83 : decode cX7_carryOut 83 = .ok (.iconst 1, 1) := by decide +kernel
theorem dX7_carryOut_84 : decode cX7_carryOut 84 = .ok (.iadd, 1) := by decide +kernel
theorem dX7_carryOut_85 : decode cX7_carryOut 85 = .ok (.putfield 113, 3) := by decide +kernel
theorem dX7_carryOut_88 : decode cX7_carryOut 88 = .ok (.return_, 1) := by decide +kernel
theorem dX7_single_0 : decode cX7_single 0 = .ok (.aload_n 0, 1) := by decide +kernel
theorem dX7_single_1 : decode cX7_single 1 = .ok (.iload_n 1, 1) := by decide +kernel
theorem dX7_single_2 : decode cX7_single 2 = .ok (.invokevirtual 91, 3) := by decide +kernel
theorem dX7_single_5 : decode cX7_single 5 = .ok (.astore 4, 2) := by decide +kernel
theorem dX7_single_7 : decode cX7_single 7 = .ok (.iload_n 3, 1) := by decide +kernel
theorem dX7_single_8 : decode cX7_single 8 = .ok (.iconst 0, 1) := by decide +kernel
theorem dX7_single_9 : decode cX7_single 9 = .ok (.bipush 8, 2) := by decide +kernel
theorem dX7_single_11 : decode cX7_single 11 = .ok (.invokestatic 81, 3) := by decide +kernel
theorem dX7_single_14 : decode cX7_single 14 = .ok (.aload_n 0, 1) := by decide +kernel
theorem dX7_single_15 : decode cX7_single 15 = .ok (.getfield 25, 3) := by decide +kernel
theorem dX7_single_18 : decode cX7_single 18 = .ok (.invokevirtual 116, 3) := by decide +kernel
theorem dX7_single_21 : decode cX7_single 21 = .ok (.istore 5, 2) := by decide +kernel
theorem dX7_single_23 : decode cX7_single 23 = .ok (.iload 5, 2) := by decide +kernel
theorem dX7_single_25 : decode cX7_single 25 = .ok (.bipush 40, 2) := by decide +kernel
theorem dX7_single_27 : decode cX7_single 27 = .ok (.if_icmp .lt 13, 3) := by decide +kernel
theorem dX7_single_30 : decode cX7_single 30 = .ok (.new 51, 3) := by decide +kernel
theorem dX7_single_33 : decode cX7_single 33 = .ok (.dup, 1) := by decide +kernel
theorem dX7_single_34 : decode cX7_single 34 = .ok (.ldc 117, 2) := by decide +kernel
theorem dX7_single_36 : decode cX7_single 36 = .ok (.invokespecial 55, 3) := by decide +kernel
theorem dX7_single_39 : decode cX7_single 39 = .ok (.athrow, 1) := by decide +kernel
theorem dX7_single_40 : decode cX7_single 40 = .ok (.new 119, 3) := by decide +kernel
theorem dX7_single_43 : decode cX7_single 43 = .ok (.dup, 1) := by decide +kernel
theorem dX7_single_44 : decode cX7_single 44 = .ok (.iload 5, 2) := by decide +kernel
theorem dX7_single_46 : decode cX7_single 46 = .ok (.iload_n 2, 1) := by decide +kernel
theorem dX7_single_47 : decode cX7_single 47 = .ok (.iload_n 3, 1) := by decide +kernel
theorem dX7_single_48 : decode cX7_single 48 = .ok (.invokespecial 121, 3) := by decide +kernel
theorem dX7_single_51 : decode cX7_single 51 = .ok (.astore 6, 2) := by decide +kernel
theorem dX7_single_53 : decode cX7_single 53 = .ok (.aload 6, 2) := by decide +kernel
theorem dX7_single_55 : decode cX7_single 55 = .ok (.aload 4, 2) := by decide +kernel
theorem dX7_single_57 : decode cX7_single 57 = .ok (.aload_n 0, 1) := by decide +kernel
theorem dX7_single_58 : decode cX7_single 58 = .ok (.getfield 124, 3) := by decide +kernel
theorem dX7_single_61 : decode cX7_single 61 = .ok (.invokevirtual 127, 3) := by decide +kernel
theorem dX7_single_64 : decode cX7_single 64 = .ok (.aload_n 0, 1) := by decide +kernel
theorem dX7_single_65 : decode cX7_single 65 = .ok (.getfield 25, 3) := by decide +kernel
theorem dX7_single_68 : decode cX7_single 68 = .ok (.aload 6, 2) := by decide +kernel
theorem dX7_single_70 : decode cX7_single 70 = .ok (.invokevirtual 131, 3) := by decide +kernel
theorem dX7_single_73 : decode cX7_single 73 = .ok (.iload 5, 2) := by decide +kernel
theorem dX7_single_75 : decode cX7_single 75 = .ok (.ireturn, 1) := by decide +kernel
theorem dX7_put_0 : decode cX7_put 0 = .ok (.aload_n 0, 1) := by decide +kernel
theorem dX7_put_1 : decode cX7_put 1 = .ok (.getfield 25, 3) := by decide +kernel
theorem dX7_put_4 : decode cX7_put 4 = .ok (.iload_n 1, 1) := by decide +kernel
theorem dX7_put_5 : decode cX7_put 5 = .ok (.invokevirtual 134, 3) := by decide +kernel
theorem dX7_put_8 : decode cX7_put 8 = .ok (.astore_n 3, 1) := by decide +kernel
theorem dX7_put_9 : decode cX7_put 9 = .ok (.aload_n 0, 1) := by decide +kernel
theorem dX7_put_10 : decode cX7_put 10 = .ok (.getfield 25, 3) := by decide +kernel
theorem dX7_put_13 : decode cX7_put 13 = .ok (.iload_n 2, 1) := by decide +kernel
theorem dX7_put_14 : decode cX7_put 14 = .ok (.invokevirtual 134, 3) := by decide +kernel
theorem dX7_put_17 : decode cX7_put 17 = .ok (.astore 4, 2) := by decide +kernel
theorem dX7_put_19 : decode cX7_put 19 = .ok (.aload_n 0, 1) := by decide +kernel
theorem dX7_put_20 : decode cX7_put 20 = .ok (.getfield 25, 3) := by decide +kernel
theorem dX7_put_23 : decode cX7_put 23 = .ok (.aload_n 3, 1) := by decide +kernel
theorem dX7_put_24 : decode cX7_put 24 = .ok (.aload 4, 2) := by decide +kernel
theorem dX7_put_26 : decode cX7_put 26 = .ok (.invokevirtual 138, 3) := by decide +kernel
theorem dX7_put_29 : decode cX7_put 29 = .ok (.ifCond .ne 5, 3) := by decide +kernel
theorem dX7_put_32 : decode cX7_put 32 = .ok (.iconst 0, 1) := by decide +kernel
theorem dX7_put_33 : decode cX7_put 33 = .ok (.ireturn, 1) := by decide +kernel
theorem dX7_put_34 : decode cX7_put 34 = .ok (.aload_n 3, 1) := by decide +kernel
theorem dX7_put_35 : decode cX7_put 35 = .ok (.aload 4, 2) := by decide +kernel
theorem dX7_put_37 : decode cX7_put 37 = .ok (.putfield 142, 3) := by decide +kernel
theorem dX7_put_40 : decode cX7_put 40 = .ok (.iconst 1, 1) := by decide +kernel
theorem dX7_put_41 : decode cX7_put 41 = .ok (.ireturn, 1) := by decide +kernel
theorem dX7_take_0 : decode cX7_take 0 = .ok (.aload_n 0, 1) := by decide +kernel
theorem dX7_take_1 : decode cX7_take 1 = .ok (.getfield 25, 3) := by decide +kernel
theorem dX7_take_4 : decode cX7_take 4 = .ok (.iload_n 1, 1) := by decide +kernel
theorem dX7_take_5 : decode cX7_take 5 = .ok (.invokevirtual 134, 3) := by decide +kernel
theorem dX7_take_8 : decode cX7_take 8 = .ok (.astore_n 2, 1) := by decide +kernel
theorem dX7_take_9 : decode cX7_take 9 = .ok (.aload_n 2, 1) := by decide +kernel
theorem dX7_take_10 : decode cX7_take 10 = .ok (.getfield 142, 3) := by decide +kernel
theorem dX7_take_13 : decode cX7_take 13 = .ok (.ifnonnull 5, 3) := by decide +kernel
theorem dX7_take_16 : decode cX7_take 16 = .ok (.iconst 0, 1) := by decide +kernel
theorem dX7_take_17 : decode cX7_take 17 = .ok (.ireturn, 1) := by decide +kernel
theorem dX7_take_18 : decode cX7_take 18 = .ok (.aload_n 2, 1) := by decide +kernel
theorem dX7_take_19 : decode cX7_take 19 = .ok (.aconst_null, 1) := by decide +kernel
theorem dX7_take_20 : decode cX7_take 20 = .ok (.putfield 142, 3) := by decide +kernel
theorem dX7_take_23 : decode cX7_take 23 = .ok (.iconst 1, 1) := by decide +kernel
theorem dX7_take_24 : decode cX7_take 24 = .ok (.ireturn, 1) := by decide +kernel
theorem dX7_give_0 : decode cX7_give 0 = .ok (.aload_n 0, 1) := by decide +kernel
theorem dX7_give_1 : decode cX7_give 1 = .ok (.getfield 25, 3) := by decide +kernel
theorem dX7_give_4 : decode cX7_give 4 = .ok (.iload_n 1, 1) := by decide +kernel
theorem dX7_give_5 : decode cX7_give 5 = .ok (.invokevirtual 134, 3) := by decide +kernel
theorem dX7_give_8 : decode cX7_give 8 = .ok (.astore_n 3, 1) := by decide +kernel
theorem dX7_give_9 : decode cX7_give 9 = .ok (.aload_n 0, 1) := by decide +kernel
theorem dX7_give_10 : decode cX7_give 10 = .ok (.iload_n 2, 1) := by decide +kernel
theorem dX7_give_11 : decode cX7_give 11 = .ok (.invokevirtual 91, 3) := by decide +kernel
theorem dX7_give_14 : decode cX7_give 14 = .ok (.astore 4, 2) := by decide +kernel
theorem dX7_give_16 : decode cX7_give 16 = .ok (.aload_n 3, 1) := by decide +kernel
theorem dX7_give_17 : decode cX7_give 17 = .ok (.getfield 146, 3) := by decide +kernel
theorem dX7_give_20 : decode cX7_give 20 = .ok (.aload 4, 2) := by decide +kernel
theorem dX7_give_22 : decode cX7_give 22 = .ok (.if_acmp .eq 14, 3) := by decide +kernel
theorem dX7_give_25 : decode cX7_give 25 = .ok (.aload_n 0, 1) := by decide +kernel
theorem dX7_give_26 : decode cX7_give 26 = .ok (.getfield 25, 3) := by decide +kernel
theorem dX7_give_29 : decode cX7_give 29 = .ok (.aload_n 3, 1) := by decide +kernel
theorem dX7_give_30 : decode cX7_give 30 = .ok (.invokevirtual 150, 3) := by decide +kernel
theorem dX7_give_33 : decode cX7_give 33 = .ok (.ifCond .ne 5, 3) := by decide +kernel
theorem dX7_give_36 : decode cX7_give 36 = .ok (.iconst 0, 1) := by decide +kernel
theorem dX7_give_37 : decode cX7_give 37 = .ok (.ireturn, 1) := by decide +kernel
theorem dX7_give_38 : decode cX7_give 38 = .ok (.aload_n 0, 1) := by decide +kernel
theorem dX7_give_39 : decode cX7_give 39 = .ok (.getfield 25, 3) := by decide +kernel
theorem dX7_give_42 : decode cX7_give 42 = .ok (.aload_n 3, 1) := by decide +kernel
theorem dX7_give_43 : decode cX7_give 43 = .ok (.aload 4, 2) := by decide +kernel
theorem dX7_give_45 : decode cX7_give 45 = .ok (.aload_n 0, 1) := by decide +kernel
theorem dX7_give_46 : decode cX7_give 46 = .ok (.getfield 124, 3) := by decide +kernel
theorem dX7_give_49 : decode cX7_give 49 = .ok (.invokevirtual 154, 3) := by decide +kernel
theorem dX7_give_52 : decode cX7_give 52 = .ok (.iconst 1, 1) := by decide +kernel
theorem dX7_give_53 : decode cX7_give 53 = .ok (.ireturn, 1) := by decide +kernel
theorem dX7_lend_0 : decode cX7_lend 0 = .ok (.aload_n 0, 1) := by decide +kernel
theorem dX7_lend_1 : decode cX7_lend 1 = .ok (.getfield 25, 3) := by decide +kernel
theorem dX7_lend_4 : decode cX7_lend 4 = .ok (.iload_n 1, 1) := by decide +kernel
theorem dX7_lend_5 : decode cX7_lend 5 = .ok (.invokevirtual 134, 3) := by decide +kernel
theorem dX7_lend_8 : decode cX7_lend 8 = .ok (.astore 4, 2) := by decide +kernel
theorem dX7_lend_10 : decode cX7_lend 10 = .ok (.aload_n 0, 1) := by decide +kernel
theorem dX7_lend_11 : decode cX7_lend 11 = .ok (.iload_n 2, 1) := by decide +kernel
theorem dX7_lend_12 : decode cX7_lend 12 = .ok (.invokevirtual 91, 3) := by decide +kernel
theorem dX7_lend_15 : decode cX7_lend 15 = .ok (.astore 5, 2) := by decide +kernel
theorem dX7_lend_17 : decode cX7_lend 17 = .ok (.iload_n 3, 1) := by decide +kernel
theorem dX7_lend_18 : decode cX7_lend 18 = .ok (.aload_n 0, 1) := by decide +kernel
theorem dX7_lend_19 : decode cX7_lend 19 = .ok (.getfield 124, 3) := by decide +kernel
theorem dX7_lend_22 : decode cX7_lend 22 = .ok (.if_icmp .le 25, 3) := by decide +kernel
theorem dX7_lend_25 : decode cX7_lend 25 = .ok (.aload 4, 2) := by decide +kernel
theorem dX7_lend_27 : decode cX7_lend 27 = .ok (.getfield 146, 3) := by decide +kernel
theorem dX7_lend_30 : decode cX7_lend 30 = .ok (.aload 5, 2) := by decide +kernel
theorem dX7_lend_32 : decode cX7_lend 32 = .ok (.if_acmp .eq 15, 3) := by decide +kernel
theorem dX7_lend_35 : decode cX7_lend 35 = .ok (.aload_n 0, 1) := by decide +kernel
theorem dX7_lend_36 : decode cX7_lend 36 = .ok (.getfield 25, 3) := by decide +kernel
theorem dX7_lend_39 : decode cX7_lend 39 = .ok (.aload 4, 2) := by decide +kernel
theorem dX7_lend_41 : decode cX7_lend 41 = .ok (.invokevirtual 150, 3) := by decide +kernel
theorem dX7_lend_44 : decode cX7_lend 44 = .ok (.ifCond .ne 5, 3) := by decide +kernel
theorem dX7_lend_47 : decode cX7_lend 47 = .ok (.iconst 0, 1) := by decide +kernel
theorem dX7_lend_48 : decode cX7_lend 48 = .ok (.ireturn, 1) := by decide +kernel
theorem dX7_lend_49 : decode cX7_lend 49 = .ok (.aload 4, 2) := by decide +kernel
theorem dX7_lend_51 : decode cX7_lend 51 = .ok (.aload 4, 2) := by decide +kernel
theorem dX7_lend_53 : decode cX7_lend 53 = .ok (.getfield 146, 3) := by decide +kernel
theorem dX7_lend_56 : decode cX7_lend 56 = .ok (.putfield 158, 3) := by decide +kernel
theorem dX7_lend_59 : decode cX7_lend 59 = .ok (.aload 4, 2) := by decide +kernel
theorem dX7_lend_61 : decode cX7_lend 61 = .ok (.iload_n 3, 1) := by decide +kernel
theorem dX7_lend_62 : decode cX7_lend 62 = .ok (.putfield 161, 3) := by decide +kernel
theorem dX7_lend_65 : decode cX7_lend 65 = .ok (.aload_n 0, 1) := by decide +kernel
theorem dX7_lend_66 : decode cX7_lend 66 = .ok (.getfield 25, 3) := by decide +kernel
theorem dX7_lend_69 : decode cX7_lend 69 = .ok (.aload 4, 2) := by decide +kernel
theorem dX7_lend_71 : decode cX7_lend 71 = .ok (.aload 5, 2) := by decide +kernel
theorem dX7_lend_73 : decode cX7_lend 73 = .ok (.aload_n 0, 1) := by decide +kernel
theorem dX7_lend_74 : decode cX7_lend 74 = .ok (.getfield 124, 3) := by decide +kernel
theorem dX7_lend_77 : decode cX7_lend 77 = .ok (.invokevirtual 154, 3) := by decide +kernel
theorem dX7_lend_80 : decode cX7_lend 80 = .ok (.iconst 1, 1) := by decide +kernel
theorem dX7_lend_81 : decode cX7_lend 81 = .ok (.ireturn, 1) := by decide +kernel
theorem dX7_wear_0 : decode cX7_wear 0 = .ok (.aload_n 0, 1) := by decide +kernel
theorem dX7_wear_1 : decode cX7_wear 1 = .ok (.getfield 25, 3) := by decide +kernel
theorem dX7_wear_4 : decode cX7_wear 4 = .ok (.iload_n 1, 1) := by decide +kernel
theorem dX7_wear_5 : decode cX7_wear 5 = .ok (.invokevirtual 134, 3) := by decide +kernel
theorem dX7_wear_8 : decode cX7_wear 8 = .ok (.astore_n 3, 1) := by decide +kernel
theorem dX7_wear_9 : decode cX7_wear 9 = .ok (.iload_n 2, 1) := by decide +kernel
theorem dX7_wear_10 : decode cX7_wear 10 = .ok (.iconst 1, 1) := by decide +kernel
theorem dX7_wear_11 : decode cX7_wear 11 = .ok (.bipush 100, 2) := by decide +kernel
theorem dX7_wear_13 : decode cX7_wear 13 = .ok (.invokestatic 81, 3) := by decide +kernel
theorem dX7_wear_16 : decode cX7_wear 16 = .ok (.aload_n 3, 1) := by decide +kernel
theorem dX7_wear_17 : decode cX7_wear 17 = .ok (.invokevirtual 164, 3) := by decide +kernel
theorem dX7_wear_20 : decode cX7_wear 20 = .ok (.ifCond .eq 5, 3) := by decide +kernel
theorem dX7_wear_23 : decode cX7_wear 23 = .ok (.iconst (-1), 1) := by decide +kernel
theorem dX7_wear_24 : decode cX7_wear 24 = .ok (.ireturn, 1) := by decide +kernel
theorem dX7_wear_25 : decode cX7_wear 25 = .ok (.aload_n 3, 1) := by decide +kernel
theorem dX7_wear_26 : decode cX7_wear 26 = .ok (.aload_n 3, 1) := by decide +kernel
theorem dX7_wear_27 : decode cX7_wear 27 = .ok (.getfield 168, 3) := by decide +kernel
theorem dX7_wear_30 : decode cX7_wear 30 = .ok (.iload_n 2, 1) := by decide +kernel
theorem dX7_wear_31 : decode cX7_wear 31 = .ok (.iadd, 1) := by decide +kernel
theorem dX7_wear_32 : decode cX7_wear 32 = .ok (.bipush 100, 2) := by decide +kernel
theorem dX7_wear_34 : decode cX7_wear 34 = .ok (.invokestatic 171, 3) := by decide +kernel
theorem dX7_wear_37 : decode cX7_wear 37 = .ok (.putfield 168, 3) := by decide +kernel
theorem dX7_wear_40 : decode cX7_wear 40 = .ok (.aload_n 3, 1) := by decide +kernel
theorem dX7_wear_41 : decode cX7_wear 41 = .ok (.getfield 168, 3) := by decide +kernel
theorem dX7_wear_44 : decode cX7_wear 44 = .ok (.bipush 100, 2) := by decide +kernel
theorem dX7_wear_46 : decode cX7_wear 46 = .ok (.if_icmp .ne 11, 3) := by decide +kernel
theorem dX7_wear_49 : decode cX7_wear 49 = .ok (.aload_n 0, 1) := by decide +kernel
theorem dX7_wear_50 : decode cX7_wear 50 = .ok (.getfield 25, 3) := by decide +kernel
theorem dX7_wear_53 : decode cX7_wear 53 = .ok (.aload_n 3, 1) := by decide +kernel
theorem dX7_wear_54 : decode cX7_wear 54 = .ok (.invokevirtual 177, 3) := by decide +kernel
theorem dX7_wear_57 : decode cX7_wear 57 = .ok (.aload_n 3, 1) := by decide +kernel
theorem dX7_wear_58 : decode cX7_wear 58 = .ok (.getfield 168, 3) := by decide +kernel
theorem dX7_wear_61 : decode cX7_wear 61 = .ok (.ireturn, 1) := by decide +kernel
theorem dX7_days_0 : decode cX7_days 0 = .ok (.iload_n 1, 1) := by decide +kernel
theorem dX7_days_1 : decode cX7_days 1 = .ok (.iconst 0, 1) := by decide +kernel
theorem dX7_days_2 : decode cX7_days 2 = .ok (.sipush 1000, 3) := by decide +kernel
theorem dX7_days_5 : decode cX7_days 5 = .ok (.invokestatic 81, 3) := by decide +kernel
theorem dX7_days_8 : decode cX7_days 8 = .ok (.aload_n 0, 1) := by decide +kernel
theorem dX7_days_9 : decode cX7_days 9 = .ok (.dup, 1) := by decide +kernel
theorem dX7_days_10 : decode cX7_days 10 = .ok (.getfield 124, 3) := by decide +kernel
theorem dX7_days_13 : decode cX7_days 13 = .ok (.iload_n 1, 1) := by decide +kernel
theorem dX7_days_14 : decode cX7_days 14 = .ok (.iadd, 1) := by decide +kernel
theorem dX7_days_15 : decode cX7_days 15 = .ok (.putfield 124, 3) := by decide +kernel
theorem dX7_days_18 : decode cX7_days 18 = .ok (.aload_n 0, 1) := by decide +kernel
theorem dX7_days_19 : decode cX7_days 19 = .ok (.getfield 25, 3) := by decide +kernel
theorem dX7_days_22 : decode cX7_days 22 = .ok (.aload_n 0, 1) := by decide +kernel
theorem dX7_days_23 : decode cX7_days 23 = .ok (.getfield 124, 3) := by decide +kernel
theorem dX7_days_26 : decode cX7_days 26 = .ok (.invokevirtual 180, 3) := by decide +kernel
theorem dX7_days_29 : decode cX7_days 29 = .ok (.aload_n 0, 1) := by decide +kernel
theorem dX7_days_30 : decode cX7_days 30 = .ok (.getfield 124, 3) := by decide +kernel
theorem dX7_days_33 : decode cX7_days 33 = .ok (.ireturn, 1) := by decide +kernel
theorem dX7_look_0 : decode cX7_look 0 = .ok (.aload_n 0, 1) := by decide +kernel
theorem dX7_look_1 : decode cX7_look 1 = .ok (.getfield 25, 3) := by decide +kernel
theorem dX7_look_4 : decode cX7_look 4 = .ok (.iload_n 1, 1) := by decide +kernel
theorem dX7_look_5 : decode cX7_look 5 = .ok (.invokevirtual 134, 3) := by decide +kernel
theorem dX7_look_8 : decode cX7_look 8 = .ok (.astore_n 3, 1) := by decide +kernel
theorem dX7_look_9 : decode cX7_look 9 = .ok (.iload_n 2, 1) := by decide +kernel
theorem dX7_look_10 : decode cX7_look 10 = .ok (.tableswitch 131 0 8 #[50, 58, 77, 82, 91, 100, 113, 118, 126], 50) := by decide +kernel
theorem dX7_look_60 : decode cX7_look 60 = .ok (.aload_n 3, 1) := by decide +kernel
theorem dX7_look_61 : decode cX7_look 61 = .ok (.getfield 146, 3) := by decide +kernel
theorem dX7_look_64 : decode cX7_look 64 = .ok (.invokestatic 183, 3) := by decide +kernel
theorem dX7_look_67 : decode cX7_look 67 = .ok (.ireturn, 1) := by decide +kernel
theorem dX7_look_68 : decode cX7_look 68 = .ok (.aload_n 3, 1) := by decide +kernel
theorem dX7_look_69 : decode cX7_look 69 = .ok (.getfield 142, 3) := by decide +kernel
theorem dX7_look_72 : decode cX7_look 72 = .ok (.ifnonnull 7, 3) := by decide +kernel
theorem dX7_look_75 : decode cX7_look 75 = .ok (.iconst (-1), 1) := by decide +kernel
theorem dX7_look_76 : decode cX7_look 76 = .ok (.goto 10, 3) := by decide +kernel
theorem dX7_look_79 : decode cX7_look 79 = .ok (.aload_n 3, 1) := by decide +kernel
theorem dX7_look_80 : decode cX7_look 80 = .ok (.getfield 142, 3) := by decide +kernel
theorem dX7_look_83 : decode cX7_look 83 = .ok (.getfield 187, 3) := by decide +kernel
theorem dX7_look_86 : decode cX7_look 86 = .ok (.ireturn, 1) := by decide +kernel
theorem dX7_look_87 : decode cX7_look 87 = .ok (.aload_n 3, 1) := by decide +kernel
theorem dX7_look_88 : decode cX7_look 88 = .ok (.getfield 168, 3) := by decide +kernel
theorem dX7_look_91 : decode cX7_look 91 = .ok (.ireturn, 1) := by decide +kernel
theorem dX7_look_92 : decode cX7_look 92 = .ok (.aload_n 0, 1) := by decide +kernel
theorem dX7_look_93 : decode cX7_look 93 = .ok (.getfield 25, 3) := by decide +kernel
theorem dX7_look_96 : decode cX7_look 96 = .ok (.aload_n 3, 1) := by decide +kernel
theorem dX7_look_97 : decode cX7_look 97 = .ok (.invokevirtual 190, 3) := by decide +kernel
theorem dX7_look_100 : decode cX7_look 100 = .ok (.ireturn, 1) := by decide +kernel
theorem dX7_look_101 : decode cX7_look 101 = .ok (.aload_n 0, 1) := by decide +kernel
theorem dX7_look_102 : decode cX7_look 102 = .ok (.getfield 25, 3) := by decide +kernel
theorem dX7_look_105 : decode cX7_look 105 = .ok (.aload_n 3, 1) := by decide +kernel
theorem dX7_look_106 : decode cX7_look 106 = .ok (.invokevirtual 194, 3) := by decide +kernel
theorem dX7_look_109 : decode cX7_look 109 = .ok (.ireturn, 1) := by decide +kernel
theorem dX7_look_110 : decode cX7_look 110 = .ok (.aload_n 3, 1) := by decide +kernel
theorem dX7_look_111 : decode cX7_look 111 = .ok (.invokevirtual 197, 3) := by decide +kernel
theorem dX7_look_114 : decode cX7_look 114 = .ok (.ifCond .eq 7, 3) := by decide +kernel
theorem dX7_look_117 : decode cX7_look 117 = .ok (.iconst 1, 1) := by decide +kernel
theorem dX7_look_118 : decode cX7_look 118 = .ok (.goto 4, 3) := by decide +kernel
theorem dX7_look_121 : decode cX7_look 121 = .ok (.iconst 0, 1) := by decide +kernel
theorem dX7_look_122 : decode cX7_look 122 = .ok (.ireturn, 1) := by decide +kernel
theorem dX7_look_123 : decode cX7_look 123 = .ok (.aload_n 3, 1) := by decide +kernel
theorem dX7_look_124 : decode cX7_look 124 = .ok (.getfield 161, 3) := by decide +kernel
theorem dX7_look_127 : decode cX7_look 127 = .ok (.ireturn, 1) := by decide +kernel
theorem dX7_look_128 : decode cX7_look 128 = .ok (.aload_n 3, 1) := by decide +kernel
theorem dX7_look_129 : decode cX7_look 129 = .ok (.getfield 158, 3) := by decide +kernel
theorem dX7_look_132 : decode cX7_look 132 = .ok (.invokestatic 183, 3) := by decide +kernel
theorem dX7_look_135 : decode cX7_look 135 = .ok (.ireturn, 1) := by decide +kernel
theorem dX7_look_136 : decode cX7_look 136 = .ok (.aload_n 3, 1) := by decide +kernel
theorem dX7_look_137 : decode cX7_look 137 = .ok (.getfield 200, 3) := by decide +kernel
theorem dX7_look_140 : decode cX7_look 140 = .ok (.ireturn, 1) := by decide +kernel
theorem dX7_look_141 : decode cX7_look 141 = .ok (.new 203, 3) := by decide +kernel
theorem dX7_look_144 : decode cX7_look 144 = .ok (.dup, 1) := by decide +kernel
theorem dX7_look_145 : decode cX7_look 145 = .ok (.ldc 205, 2) := by decide +kernel
theorem dX7_look_147 : decode cX7_look 147 = .ok (.invokespecial 207, 3) := by decide +kernel
theorem dX7_look_150 : decode cX7_look 150 = .ok (.athrow, 1) := by decide +kernel
theorem dX7_line_0 : decode cX7_line 0 = .ok (.aload_n 0, 1) := by decide +kernel
theorem dX7_line_1 : decode cX7_line 1 = .ok (.getfield 25, 3) := by decide +kernel
theorem dX7_line_4 : decode cX7_line 4 = .ok (.iload_n 1, 1) := by decide +kernel
theorem dX7_line_5 : decode cX7_line 5 = .ok (.invokevirtual 134, 3) := by decide +kernel
theorem dX7_line_8 : decode cX7_line 8 = .ok (.astore 4, 2) := by decide +kernel
theorem dX7_line_10 : decode cX7_line 10 = .ok (.iload_n 2, 1) := by decide +kernel
theorem dX7_line_11 : decode cX7_line 11 = .ok (.ifCond .lt 18, 3) := by decide +kernel
theorem dX7_line_14 : decode cX7_line 14 = .ok (.iload_n 2, 1) := by decide +kernel
theorem dX7_line_15 : decode cX7_line 15 = .ok (.aload 4, 2) := by decide +kernel
theorem dX7_line_17 : decode cX7_line 17 = .ok (.getfield 200, 3) := by decide +kernel
theorem dX7_line_20 : decode cX7_line 20 = .ok (.if_icmp .ge 9, 3) := by decide +kernel
theorem dX7_line_23 : decode cX7_line 23 = .ok (.iload_n 2, 1) := by decide +kernel
theorem dX7_line_24 : decode cX7_line 24 = .ok (.bipush 30, 2) := by decide +kernel
theorem dX7_line_26 : decode cX7_line 26 = .ok (.if_icmp .lt 5, 3) := by decide +kernel
theorem dX7_line_29 : decode cX7_line 29 = .ok (.iconst (-1), 1) := by decide +kernel
theorem dX7_line_30 : decode cX7_line 30 = .ok (.ireturn, 1) := by decide +kernel
theorem dX7_line_31 : decode cX7_line 31 = .ok (.iload_n 3, 1) := by decide +kernel
theorem dX7_line_32 : decode cX7_line 32 = .ok (.ifCond .eq 13, 3) := by decide +kernel
theorem dX7_line_35 : decode cX7_line 35 = .ok (.aload 4, 2) := by decide +kernel
theorem dX7_line_37 : decode cX7_line 37 = .ok (.getfield 208, 3) := by decide +kernel
theorem dX7_line_40 : decode cX7_line 40 = .ok (.iload_n 2, 1) := by decide +kernel
theorem dX7_line_41 : decode cX7_line 41 = .ok (.iaload, 1) := by decide +kernel
theorem dX7_line_42 : decode cX7_line 42 = .ok (.goto 10, 3) := by decide +kernel
theorem dX7_line_45 : decode cX7_line 45 = .ok (.aload 4, 2) := by decide +kernel
theorem dX7_line_47 : decode cX7_line 47 = .ok (.getfield 211, 3) := by decide +kernel
theorem dX7_line_50 : decode cX7_line 50 = .ok (.iload_n 2, 1) := by decide +kernel
theorem dX7_line_51 : decode cX7_line 51 = .ok (.iaload, 1) := by decide +kernel
theorem dX7_line_52 : decode cX7_line 52 = .ok (.ireturn, 1) := by decide +kernel
theorem dX7_offer_0 : decode cX7_offer 0 = .ok (.aload_n 0, 1) := by decide +kernel
theorem dX7_offer_1 : decode cX7_offer 1 = .ok (.iload_n 1, 1) := by decide +kernel
theorem dX7_offer_2 : decode cX7_offer 2 = .ok (.iload_n 3, 1) := by decide +kernel
theorem dX7_offer_3 : decode cX7_offer 3 = .ok (.iload 4, 2) := by decide +kernel
theorem dX7_offer_5 : decode cX7_offer 5 = .ok (.iload 5, 2) := by decide +kernel
theorem dX7_offer_7 : decode cX7_offer 7 = .ok (.invokevirtual 214, 3) := by decide +kernel
theorem dX7_offer_10 : decode cX7_offer 10 = .ok (.astore 9, 2) := by decide +kernel
theorem dX7_offer_12 : decode cX7_offer 12 = .ok (.aload_n 0, 1) := by decide +kernel
theorem dX7_offer_13 : decode cX7_offer 13 = .ok (.iload_n 2, 1) := by decide +kernel
theorem dX7_offer_14 : decode cX7_offer 14 = .ok (.iload 6, 2) := by decide +kernel
theorem dX7_offer_16 : decode cX7_offer 16 = .ok (.iload 7, 2) := by decide +kernel
theorem dX7_offer_18 : decode cX7_offer 18 = .ok (.iload 8, 2) := by decide +kernel
theorem dX7_offer_20 : decode cX7_offer 20 = .ok (.invokevirtual 214, 3) := by decide +kernel
theorem dX7_offer_23 : decode cX7_offer 23 = .ok (.astore 10, 2) := by decide +kernel
theorem dX7_offer_25 : decode cX7_offer 25 = .ok (.iload_n 1, 1) := by decide +kernel
theorem dX7_offer_26 : decode cX7_offer 26 = .ok (.iload_n 2, 1) := by decide +kernel
theorem dX7_offer_27 : decode cX7_offer 27 = .ok (.if_icmp .ne 13, 3) := by decide +kernel
theorem dX7_offer_30 : decode cX7_offer 30 = .ok (.new 218, 3) := by decide +kernel
theorem dX7_offer_33 : decode cX7_offer 33 = .ok (.dup, 1) := by decide +kernel
theorem dX7_offer_34 : decode cX7_offer 34 = .ok (.ldc 220, 2) := by decide +kernel
theorem dX7_offer_36 : decode cX7_offer 36 = .ok (.invokespecial 222, 3) := by decide +kernel
theorem dX7_offer_39 : decode cX7_offer 39 = .ok (.athrow, 1) := by decide +kernel
theorem dX7_offer_40 : decode cX7_offer 40 = .ok (.iload_n 3, 1) := by decide +kernel
theorem dX7_offer_41 : decode cX7_offer 41 = .ok (.iconst 0, 1) := by decide +kernel
theorem dX7_offer_42 : decode cX7_offer 42 = .ok (.ldc 223, 2) := by decide +kernel
theorem dX7_offer_44 : decode cX7_offer 44 = .ok (.invokestatic 81, 3) := by decide +kernel
theorem dX7_offer_47 : decode cX7_offer 47 = .ok (.iload 6, 2) := by decide +kernel
theorem dX7_offer_49 : decode cX7_offer 49 = .ok (.iconst 0, 1) := by decide +kernel
theorem dX7_offer_50 : decode cX7_offer 50 = .ok (.ldc 223, 2) := by decide +kernel
theorem dX7_offer_52 : decode cX7_offer 52 = .ok (.invokestatic 81, 3) := by decide +kernel
theorem dX7_offer_55 : decode cX7_offer 55 = .ok (.aload_n 0, 1) := by decide +kernel
theorem dX7_offer_56 : decode cX7_offer 56 = .ok (.getfield 19, 3) := by decide +kernel
theorem dX7_offer_59 : decode cX7_offer 59 = .ok (.invokevirtual 47, 3) := by decide +kernel
theorem dX7_offer_62 : decode cX7_offer 62 = .ok (.istore 11, 2) := by decide +kernel
theorem dX7_offer_64 : decode cX7_offer 64 = .ok (.iload 11, 2) := by decide +kernel
theorem dX7_offer_66 : decode cX7_offer 66 = .ok (.bipush 60, 2) := by decide +kernel
theorem dX7_offer_68 : decode cX7_offer 68 = .ok (.if_icmp .lt 13, 3) := by decide +kernel
theorem dX7_offer_71 : decode cX7_offer 71 = .ok (.new 51, 3) := by decide +kernel
theorem dX7_offer_74 : decode cX7_offer 74 = .ok (.dup, 1) := by decide +kernel
theorem dX7_offer_75 : decode cX7_offer 75 = .ok (.ldc 224, 2) := by decide +kernel
theorem dX7_offer_77 : decode cX7_offer 77 = .ok (.invokespecial 55, 3) := by decide +kernel
theorem dX7_offer_80 : decode cX7_offer 80 = .ok (.athrow, 1) := by decide +kernel
theorem dX7_offer_81 : decode cX7_offer 81 = .ok (.aload_n 0, 1) := by decide +kernel
theorem dX7_offer_82 : decode cX7_offer 82 = .ok (.getfield 19, 3) := by decide +kernel
theorem dX7_offer_85 : decode cX7_offer 85 = .ok (.new 226, 3) := by decide +kernel
theorem dX7_offer_88 : decode cX7_offer 88 = .ok (.dup, 1) := by decide +kernel
theorem dX7_offer_89 : decode cX7_offer 89 = .ok (.aload 9, 2) := by decide +kernel
theorem dX7_offer_91 : decode cX7_offer 91 = .ok (.aload 10, 2) := by decide +kernel
theorem dX7_offer_93 : decode cX7_offer 93 = .ok (.invokespecial 228, 3) := by decide +kernel
theorem dX7_offer_96 : decode cX7_offer 96 = .ok (.invokevirtual 63, 3) := by decide +kernel
theorem dX7_offer_99 : decode cX7_offer 99 = .ok (.pop, 1) := by decide +kernel
theorem dX7_offer_100 : decode cX7_offer 100 = .ok (.iload 11, 2) := by decide +kernel
theorem dX7_offer_102 : decode cX7_offer 102 = .ok (.ireturn, 1) := by decide +kernel
theorem dX7_agree_0 : decode cX7_agree 0 = .ok (.aload_n 0, 1) := by decide +kernel
theorem dX7_agree_1 : decode cX7_agree 1 = .ok (.iload_n 1, 1) := by decide +kernel
theorem dX7_agree_2 : decode cX7_agree 2 = .ok (.invokevirtual 231, 3) := by decide +kernel
theorem dX7_agree_5 : decode cX7_agree 5 = .ok (.astore_n 2, 1) := by decide +kernel
theorem dX7_agree_6 : decode cX7_agree 6 = .ok (.aload_n 0, 1) := by decide +kernel
theorem dX7_agree_7 : decode cX7_agree 7 = .ok (.aload_n 2, 1) := by decide +kernel
theorem dX7_agree_8 : decode cX7_agree 8 = .ok (.invokevirtual 235, 3) := by decide +kernel
theorem dX7_agree_11 : decode cX7_agree 11 = .ok (.istore_n 3, 1) := by decide +kernel
theorem dX7_agree_12 : decode cX7_agree 12 = .ok (.iload_n 3, 1) := by decide +kernel
theorem dX7_agree_13 : decode cX7_agree 13 = .ok (.ifCond .ne 20, 3) := by decide +kernel
theorem dX7_agree_16 : decode cX7_agree 16 = .ok (.aload_n 0, 1) := by decide +kernel
theorem dX7_agree_17 : decode cX7_agree 17 = .ok (.aload_n 2, 1) := by decide +kernel
theorem dX7_agree_18 : decode cX7_agree 18 = .ok (.getfield 238, 3) := by decide +kernel
theorem dX7_agree_21 : decode cX7_agree 21 = .ok (.aload_n 2, 1) := by decide +kernel
theorem dX7_agree_22 : decode cX7_agree 22 = .ok (.getfield 242, 3) := by decide +kernel
theorem dX7_agree_25 : decode cX7_agree 25 = .ok (.invokevirtual 245, 3) := by decide +kernel
theorem dX7_agree_28 : decode cX7_agree 28 = .ok (.aload_n 2, 1) := by decide +kernel
theorem dX7_agree_29 : decode cX7_agree 29 = .ok (.iconst 0, 1) := by decide +kernel
theorem dX7_agree_30 : decode cX7_agree 30 = .ok (.putfield 248, 3) := by decide +kernel
theorem dX7_agree_33 : decode cX7_agree 33 = .ok (.iload_n 3, 1) := by decide +kernel
theorem dX7_agree_34 : decode cX7_agree 34 = .ok (.ireturn, 1) := by decide +kernel
theorem dX7_withdraw_0 : decode cX7_withdraw 0 = .ok (.aload_n 0, 1) := by decide +kernel
theorem dX7_withdraw_1 : decode cX7_withdraw 1 = .ok (.iload_n 1, 1) := by decide +kernel
theorem dX7_withdraw_2 : decode cX7_withdraw 2 = .ok (.invokevirtual 231, 3) := by decide +kernel
theorem dX7_withdraw_5 : decode cX7_withdraw 5 = .ok (.astore_n 2, 1) := by decide +kernel
theorem dX7_withdraw_6 : decode cX7_withdraw 6 = .ok (.aload_n 2, 1) := by decide +kernel
theorem dX7_withdraw_7 : decode cX7_withdraw 7 = .ok (.getfield 248, 3) := by decide +kernel
theorem dX7_withdraw_10 : decode cX7_withdraw 10 = .ok (.istore_n 3, 1) := by decide +kernel
theorem dX7_withdraw_11 : decode cX7_withdraw 11 = .ok (.aload_n 2, 1) := by decide +kernel
theorem dX7_withdraw_12 : decode cX7_withdraw 12 = .ok (.iconst 0, 1) := by decide +kernel
theorem dX7_withdraw_13 : decode cX7_withdraw 13 = .ok (.putfield 248, 3) := by decide +kernel
theorem dX7_withdraw_16 : decode cX7_withdraw 16 = .ok (.iload_n 3, 1) := by decide +kernel
theorem dX7_withdraw_17 : decode cX7_withdraw 17 = .ok (.ireturn, 1) := by decide +kernel
theorem dX7_sideOf_0 : decode cX7_sideOf 0 = .ok (.aload_n 0, 1) := by decide +kernel
theorem dX7_sideOf_1 : decode cX7_sideOf 1 = .ok (.iload_n 1, 1) := by decide +kernel
theorem dX7_sideOf_2 : decode cX7_sideOf 2 = .ok (.invokevirtual 91, 3) := by decide +kernel
theorem dX7_sideOf_5 : decode cX7_sideOf 5 = .ok (.astore 5, 2) := by decide +kernel
theorem dX7_sideOf_7 : decode cX7_sideOf 7 = .ok (.iload_n 3, 1) := by decide +kernel
theorem dX7_sideOf_8 : decode cX7_sideOf 8 = .ok (.invokestatic 78, 3) := by decide +kernel
theorem dX7_sideOf_11 : decode cX7_sideOf 11 = .ok (.iload 4, 2) := by decide +kernel
theorem dX7_sideOf_13 : decode cX7_sideOf 13 = .ok (.iconst (-1), 1) := by decide +kernel
theorem dX7_sideOf_14 : decode cX7_sideOf 14 = .ok (.if_icmp .ne 7, 3) := by decide +kernel
theorem dX7_sideOf_17 : decode cX7_sideOf 17 = .ok (.aconst_null, 1) := by decide +kernel
theorem dX7_sideOf_18 : decode cX7_sideOf 18 = .ok (.goto 12, 3) := by decide +kernel
theorem dX7_sideOf_21 : decode cX7_sideOf 21 = .ok (.aload_n 0, 1) := by decide +kernel
theorem dX7_sideOf_22 : decode cX7_sideOf 22 = .ok (.getfield 25, 3) := by decide +kernel
theorem dX7_sideOf_25 : decode cX7_sideOf 25 = .ok (.iload 4, 2) := by decide +kernel
theorem dX7_sideOf_27 : decode cX7_sideOf 27 = .ok (.invokevirtual 134, 3) := by decide +kernel
theorem dX7_sideOf_30 : decode cX7_sideOf 30 = .ok (.astore 6, 2) := by decide +kernel
theorem dX7_sideOf_32 : decode cX7_sideOf 32 = .ok (.new 252, 3) := by decide +kernel
theorem dX7_sideOf_35 : decode cX7_sideOf 35 = .ok (.dup, 1) := by decide +kernel
theorem dX7_sideOf_36 : decode cX7_sideOf 36 = .ok (.aload 5, 2) := by decide +kernel
theorem dX7_sideOf_38 : decode cX7_sideOf 38 = .ok (.iload_n 2, 1) := by decide +kernel
theorem dX7_sideOf_39 : decode cX7_sideOf 39 = .ok (.iload_n 3, 1) := by decide +kernel
theorem dX7_sideOf_40 : decode cX7_sideOf 40 = .ok (.aload 6, 2) := by decide +kernel
theorem dX7_sideOf_42 : decode cX7_sideOf 42 = .ok (.invokespecial 254, 3) := by decide +kernel
theorem dX7_sideOf_45 : decode cX7_sideOf 45 = .ok (.areturn, 1) := by decide +kernel
theorem dX7_answerTo_0 : decode cX7_answerTo 0 = .ok (.aload_n 1, 1) := by decide +kernel
theorem dX7_answerTo_1 : decode cX7_answerTo 1 = .ok (.getfield 238, 3) := by decide +kernel
theorem dX7_answerTo_4 : decode cX7_answerTo 4 = .ok (.astore_n 2, 1) := by decide +kernel
theorem dX7_answerTo_5 : decode cX7_answerTo 5 = .ok (.aload_n 1, 1) := by decide +kernel
theorem dX7_answerTo_6 : decode cX7_answerTo 6 = .ok (.getfield 242, 3) := by decide +kernel
theorem dX7_answerTo_9 : decode cX7_answerTo 9 = .ok (.astore_n 3, 1) := by decide +kernel
theorem dX7_answerTo_10 : decode cX7_answerTo 10 = .ok (.aload_n 1, 1) := by decide +kernel
theorem dX7_answerTo_11 : decode cX7_answerTo 11 = .ok (.getfield 248, 3) := by decide +kernel
theorem dX7_answerTo_14 : decode cX7_answerTo 14 = .ok (.ifCond .ne 5, 3) := by decide +kernel
theorem dX7_answerTo_17 : decode cX7_answerTo 17 = .ok (.iconst 1, 1) := by decide +kernel
theorem dX7_answerTo_18 : decode cX7_answerTo 18 = .ok (.ireturn, 1) := by decide +kernel
theorem dX7_answerTo_19 : decode cX7_answerTo 19 = .ok (.aload_n 2, 1) := by decide +kernel
theorem dX7_answerTo_20 : decode cX7_answerTo 20 = .ok (.invokevirtual 257, 3) := by decide +kernel
theorem dX7_answerTo_23 : decode cX7_answerTo 23 = .ok (.ifCond .eq 5, 3) := by decide +kernel
theorem dX7_answerTo_26 : decode cX7_answerTo 26 = .ok (.iconst 2, 1) := by decide +kernel
theorem dX7_answerTo_27 : decode cX7_answerTo 27 = .ok (.ireturn, 1) := by decide +kernel
theorem dX7_answerTo_28 : decode cX7_answerTo 28 = .ok (.aload_n 3, 1) := by decide +kernel
theorem dX7_answerTo_29 : decode cX7_answerTo 29 = .ok (.invokevirtual 257, 3) := by decide +kernel
theorem dX7_answerTo_32 : decode cX7_answerTo 32 = .ok (.ifCond .eq 5, 3) := by decide +kernel
theorem dX7_answerTo_35 : decode cX7_answerTo 35 = .ok (.iconst 3, 1) := by decide +kernel
theorem dX7_answerTo_36 : decode cX7_answerTo 36 = .ok (.ireturn, 1) := by decide +kernel
theorem dX7_answerTo_37 : decode cX7_answerTo 37 = .ok (.aload_n 2, 1) := by decide +kernel
theorem dX7_answerTo_38 : decode cX7_answerTo 38 = .ok (.aload_n 3, 1) := by decide +kernel
theorem dX7_answerTo_39 : decode cX7_answerTo 39 = .ok (.invokevirtual 260, 3) := by decide +kernel
theorem dX7_answerTo_42 : decode cX7_answerTo 42 = .ok (.ifCond .eq 5, 3) := by decide +kernel
theorem dX7_answerTo_45 : decode cX7_answerTo 45 = .ok (.iconst 4, 1) := by decide +kernel
theorem dX7_answerTo_46 : decode cX7_answerTo 46 = .ok (.ireturn, 1) := by decide +kernel
theorem dX7_answerTo_47 : decode cX7_answerTo 47 = .ok (.aload_n 3, 1) := by decide +kernel
theorem dX7_answerTo_48 : decode cX7_answerTo 48 = .ok (.aload_n 2, 1) := by decide +kernel
theorem dX7_answerTo_49 : decode cX7_answerTo 49 = .ok (.invokevirtual 260, 3) := by decide +kernel
theorem dX7_answerTo_52 : decode cX7_answerTo 52 = .ok (.ifCond .eq 5, 3) := by decide +kernel
theorem dX7_answerTo_55 : decode cX7_answerTo 55 = .ok (.iconst 5, 1) := by decide +kernel
theorem dX7_answerTo_56 : decode cX7_answerTo 56 = .ok (.ireturn, 1) := by decide +kernel
theorem dX7_answerTo_57 : decode cX7_answerTo 57 = .ok (.aload_n 0, 1) := by decide +kernel
theorem dX7_answerTo_58 : decode cX7_answerTo 58 = .ok (.aload_n 2, 1) := by decide +kernel
theorem dX7_answerTo_59 : decode cX7_answerTo 59 = .ok (.invokevirtual 264, 3) := by decide +kernel
theorem dX7_answerTo_62 : decode cX7_answerTo 62 = .ok (.ifCond .ne 6, 3) := by decide +kernel
theorem dX7_answerTo_65 : decode cX7_answerTo 65 = .ok (.bipush 6, 2) := by decide +kernel
theorem dX7_answerTo_67 : decode cX7_answerTo 67 = .ok (.ireturn, 1) := by decide +kernel
theorem dX7_answerTo_68 : decode cX7_answerTo 68 = .ok (.aload_n 0, 1) := by decide +kernel
theorem dX7_answerTo_69 : decode cX7_answerTo 69 = .ok (.aload_n 3, 1) := by decide +kernel
theorem dX7_answerTo_70 : decode cX7_answerTo 70 = .ok (.invokevirtual 264, 3) := by decide +kernel
theorem dX7_answerTo_73 : decode cX7_answerTo 73 = .ok (.ifCond .ne 6, 3) := by decide +kernel
theorem dX7_answerTo_76 : decode cX7_answerTo 76 = .ok (.bipush 7, 2) := by decide +kernel
theorem dX7_answerTo_78 : decode cX7_answerTo 78 = .ok (.ireturn, 1) := by decide +kernel
theorem dX7_answerTo_79 : decode cX7_answerTo 79 = .ok (.aload_n 2, 1) := by decide +kernel
theorem dX7_answerTo_80 : decode cX7_answerTo 80 = .ok (.invokevirtual 267, 3) := by decide +kernel
theorem dX7_answerTo_83 : decode cX7_answerTo 83 = .ok (.ifCond .ne 10, 3) := by decide +kernel
theorem dX7_answerTo_86 : decode cX7_answerTo 86 = .ok (.aload_n 3, 1) := by decide +kernel
theorem dX7_answerTo_87 : decode cX7_answerTo 87 = .ok (.invokevirtual 267, 3) := by decide +kernel
theorem dX7_answerTo_90 : decode cX7_answerTo 90 = .ok (.ifCond .eq 8, 3) := by decide +kernel
theorem dX7_answerTo_93 : decode cX7_answerTo 93 = .ok (.bipush 8, 2) := by decide +kernel
theorem dX7_answerTo_95 : decode cX7_answerTo 95 = .ok (.goto 4, 3) := by decide +kernel
theorem dX7_answerTo_98 : decode cX7_answerTo 98 = .ok (.iconst 0, 1) := by decide +kernel
theorem dX7_answerTo_99 : decode cX7_answerTo 99 = .ok (.ireturn, 1) := by decide +kernel
theorem dX7_mayHandOver_0 : decode cX7_mayHandOver 0 = .ok (.aload_n 1, 1) := by decide +kernel
theorem dX7_mayHandOver_1 : decode cX7_mayHandOver 1 = .ok (.getfield 270, 3) := by decide +kernel
theorem dX7_mayHandOver_4 : decode cX7_mayHandOver 4 = .ok (.ifnull 31, 3) := by decide +kernel
theorem dX7_mayHandOver_7 : decode cX7_mayHandOver 7 = .ok (.aload_n 1, 1) := by decide +kernel
theorem dX7_mayHandOver_8 : decode cX7_mayHandOver 8 = .ok (.getfield 270, 3) := by decide +kernel
theorem dX7_mayHandOver_11 : decode cX7_mayHandOver 11 = .ok (.getfield 146, 3) := by decide +kernel
theorem dX7_mayHandOver_14 : decode cX7_mayHandOver 14 = .ok (.aload_n 1, 1) := by decide +kernel
theorem dX7_mayHandOver_15 : decode cX7_mayHandOver 15 = .ok (.getfield 273, 3) := by decide +kernel
theorem dX7_mayHandOver_18 : decode cX7_mayHandOver 18 = .ok (.if_acmp .ne 21, 3) := by decide +kernel
theorem dX7_mayHandOver_21 : decode cX7_mayHandOver 21 = .ok (.aload_n 0, 1) := by decide +kernel
theorem dX7_mayHandOver_22 : decode cX7_mayHandOver 22 = .ok (.getfield 25, 3) := by decide +kernel
theorem dX7_mayHandOver_25 : decode cX7_mayHandOver 25 = .ok (.aload_n 1, 1) := by decide +kernel
theorem dX7_mayHandOver_26 : decode cX7_mayHandOver 26 = .ok (.getfield 270, 3) := by decide +kernel
theorem dX7_mayHandOver_29 : decode cX7_mayHandOver 29 = .ok (.invokevirtual 150, 3) := by decide +kernel
theorem dX7_mayHandOver_32 : decode cX7_mayHandOver 32 = .ok (.ifCond .eq 7, 3) := by decide +kernel
theorem dX7_mayHandOver_35 : decode cX7_mayHandOver 35 = .ok (.iconst 1, 1) := by decide +kernel
theorem dX7_mayHandOver_36 : decode cX7_mayHandOver 36 = .ok (.goto 4, 3) := by decide +kernel
theorem dX7_mayHandOver_39 : decode cX7_mayHandOver 39 = .ok (.iconst 0, 1) := by decide +kernel
theorem dX7_mayHandOver_40 : decode cX7_mayHandOver 40 = .ok (.ireturn, 1) := by decide +kernel
theorem dX7_trade_0 : decode cX7_trade 0 = .ok (.aload_n 1, 1) := by decide +kernel
theorem dX7_trade_1 : decode cX7_trade 1 = .ok (.getfield 273, 3) := by decide +kernel
theorem dX7_trade_4 : decode cX7_trade 4 = .ok (.getfield 110, 3) := by decide +kernel
theorem dX7_trade_7 : decode cX7_trade 7 = .ok (.aload_n 1, 1) := by decide +kernel
theorem dX7_trade_8 : decode cX7_trade 8 = .ok (.getfield 276, 3) := by decide +kernel
theorem dX7_trade_11 : decode cX7_trade 11 = .ok (.dup2, 1) := by decide +kernel
theorem dX7_trade_12 : decode cX7_trade 12 = .ok (.iaload, 1) := by decide +kernel
theorem dX7_trade_13 : decode cX7_trade 13 = .ok (.aload_n 1, 1) := by decide +kernel
theorem dX7_trade_14 : decode cX7_trade 14 = .ok (.getfield 279, 3) := by decide +kernel
theorem dX7_trade_17 : decode cX7_trade 17 = .ok (.isub, 1) := by decide +kernel
theorem dX7_trade_18 : decode cX7_trade 18 = .ok (.iastore, 1) := by decide +kernel
theorem dX7_trade_19 : decode cX7_trade 19 = .ok (.aload_n 2, 1) := by decide +kernel
theorem dX7_trade_20 : decode cX7_trade 20 = .ok (.getfield 273, 3) := by decide +kernel
theorem dX7_trade_23 : decode cX7_trade 23 = .ok (.getfield 110, 3) := by decide +kernel
theorem dX7_trade_26 : decode cX7_trade 26 = .ok (.aload_n 2, 1) := by decide +kernel
theorem dX7_trade_27 : decode cX7_trade 27 = .ok (.getfield 276, 3) := by decide +kernel
theorem dX7_trade_30 : decode cX7_trade 30 = .ok (.dup2, 1) := by decide +kernel
theorem dX7_trade_31 : decode cX7_trade 31 = .ok (.iaload, 1) := by decide +kernel
theorem dX7_trade_32 : decode cX7_trade 32 = .ok (.aload_n 2, 1) := by decide +kernel
theorem dX7_trade_33 : decode cX7_trade 33 = .ok (.getfield 279, 3) := by decide +kernel
theorem dX7_trade_36 : decode cX7_trade 36 = .ok (.isub, 1) := by decide +kernel
end
section
theorem dX7_trade_37 : decode cX7_trade 37 = .ok (.iastore, 1) := by decide +kernel
theorem dX7_trade_38 : decode cX7_trade 38 = .ok (.aload_n 1, 1) := by decide +kernel
theorem dX7_trade_39 : decode cX7_trade 39 = .ok (.getfield 273, 3) := by decide +kernel
theorem dX7_trade_42 : decode cX7_trade 42 = .ok (.getfield 110, 3) := by decide +kernel
theorem dX7_trade_45 : decode cX7_trade 45 = .ok (.aload_n 2, 1) := by decide +kernel
theorem dX7_trade_46 : decode cX7_trade 46 = .ok (.getfield 276, 3) := by decide +kernel
theorem dX7_trade_49 : decode cX7_trade 49 = .ok (.dup2, 1) := by decide +kernel
theorem dX7_trade_50 : decode cX7_trade 50 = .ok (.iaload, 1) := by decide +kernel
theorem dX7_trade_51 : decode cX7_trade 51 = .ok (.aload_n 2, 1) := by decide +kernel
theorem dX7_trade_52 : decode cX7_trade 52 = .ok (.getfield 279, 3) := by decide +kernel
theorem dX7_trade_55 : decode cX7_trade 55 = .ok (.iadd, 1) := by decide +kernel
theorem dX7_trade_56 : decode cX7_trade 56 = .ok (.iastore, 1) := by decide +kernel
theorem dX7_trade_57 : decode cX7_trade 57 = .ok (.aload_n 2, 1) := by decide +kernel
theorem dX7_trade_58 : decode cX7_trade 58 = .ok (.getfield 273, 3) := by decide +kernel
theorem dX7_trade_61 : decode cX7_trade 61 = .ok (.getfield 110, 3) := by decide +kernel
theorem dX7_trade_64 : decode cX7_trade 64 = .ok (.aload_n 1, 1) := by decide +kernel
theorem dX7_trade_65 : decode cX7_trade 65 = .ok (.getfield 276, 3) := by decide +kernel
theorem dX7_trade_68 : decode cX7_trade 68 = .ok (.dup2, 1) := by decide +kernel
theorem dX7_trade_69 : decode cX7_trade 69 = .ok (.iaload, 1) := by decide +kernel
theorem dX7_trade_70 : decode cX7_trade 70 = .ok (.aload_n 1, 1) := by decide +kernel
theorem dX7_trade_71 : decode cX7_trade 71 = .ok (.getfield 279, 3) := by decide +kernel
theorem dX7_trade_74 : decode cX7_trade 74 = .ok (.iadd, 1) := by decide +kernel
theorem dX7_trade_75 : decode cX7_trade 75 = .ok (.iastore, 1) := by decide +kernel
theorem dX7_trade_76 : decode cX7_trade 76 = .ok (.aload_n 1, 1) := by decide +kernel
theorem dX7_trade_77 : decode cX7_trade 77 = .ok (.getfield 270, 3) := by decide +kernel
theorem dX7_trade_80 : decode cX7_trade 80 = .ok (.ifnull 22, 3) := by decide +kernel
theorem dX7_trade_83 : decode cX7_trade 83 = .ok (.aload_n 0, 1) := by decide +kernel
theorem dX7_trade_84 : decode cX7_trade 84 = .ok (.getfield 25, 3) := by decide +kernel
theorem dX7_trade_87 : decode cX7_trade 87 = .ok (.aload_n 1, 1) := by decide +kernel
theorem dX7_trade_88 : decode cX7_trade 88 = .ok (.getfield 270, 3) := by decide +kernel
theorem dX7_trade_91 : decode cX7_trade 91 = .ok (.aload_n 2, 1) := by decide +kernel
theorem dX7_trade_92 : decode cX7_trade 92 = .ok (.getfield 273, 3) := by decide +kernel
theorem dX7_trade_95 : decode cX7_trade 95 = .ok (.aload_n 0, 1) := by decide +kernel
theorem dX7_trade_96 : decode cX7_trade 96 = .ok (.getfield 124, 3) := by decide +kernel
theorem dX7_trade_99 : decode cX7_trade 99 = .ok (.invokevirtual 154, 3) := by decide +kernel
theorem dX7_trade_102 : decode cX7_trade 102 = .ok (.aload_n 2, 1) := by decide +kernel
theorem dX7_trade_103 : decode cX7_trade 103 = .ok (.getfield 270, 3) := by decide +kernel
theorem dX7_trade_106 : decode cX7_trade 106 = .ok (.ifnull 22, 3) := by decide +kernel
theorem dX7_trade_109 : decode cX7_trade 109 = .ok (.aload_n 0, 1) := by decide +kernel
theorem dX7_trade_110 : decode cX7_trade 110 = .ok (.getfield 25, 3) := by decide +kernel
theorem dX7_trade_113 : decode cX7_trade 113 = .ok (.aload_n 2, 1) := by decide +kernel
theorem dX7_trade_114 : decode cX7_trade 114 = .ok (.getfield 270, 3) := by decide +kernel
theorem dX7_trade_117 : decode cX7_trade 117 = .ok (.aload_n 1, 1) := by decide +kernel
theorem dX7_trade_118 : decode cX7_trade 118 = .ok (.getfield 273, 3) := by decide +kernel
theorem dX7_trade_121 : decode cX7_trade 121 = .ok (.aload_n 0, 1) := by decide +kernel
theorem dX7_trade_122 : decode cX7_trade 122 = .ok (.getfield 124, 3) := by decide +kernel
theorem dX7_trade_125 : decode cX7_trade 125 = .ok (.invokevirtual 154, 3) := by decide +kernel
theorem dX7_trade_128 : decode cX7_trade 128 = .ok (.return_, 1) := by decide +kernel
theorem dX7_gains_0 : decode cX7_gains 0 = .ok (.aload_n 0, 1) := by decide +kernel
theorem dX7_gains_1 : decode cX7_gains 1 = .ok (.getfield 32, 3) := by decide +kernel
theorem dX7_gains_4 : decode cX7_gains 4 = .ok (.invokevirtual 282, 3) := by decide +kernel
theorem dX7_gains_7 : decode cX7_gains 7 = .ok (.iconst 0, 1) := by decide +kernel
theorem dX7_gains_8 : decode cX7_gains 8 = .ok (.istore_n 1, 1) := by decide +kernel
theorem dX7_gains_9 : decode cX7_gains 9 = .ok (.iload_n 1, 1) := by decide +kernel
theorem dX7_gains_10 : decode cX7_gains 10 = .ok (.aload_n 0, 1) := by decide +kernel
theorem dX7_gains_11 : decode cX7_gains 11 = .ok (.getfield 16, 3) := by decide +kernel
theorem dX7_gains_14 : decode cX7_gains 14 = .ok (.invokevirtual 47, 3) := by decide +kernel
theorem dX7_gains_17 : decode cX7_gains 17 = .ok (.if_icmp .ge 36, 3) := by decide +kernel
theorem dX7_gains_20 : decode cX7_gains 20 = .ok (.aload_n 0, 1) := by decide +kernel
theorem dX7_gains_21 : decode cX7_gains 21 = .ok (.getfield 16, 3) := by decide +kernel
theorem dX7_gains_24 : decode cX7_gains 24 = .ok (.iload_n 1, 1) := by decide +kernel
theorem dX7_gains_25 : decode cX7_gains 25 = .ok (.invokevirtual 285, 3) := by decide +kernel
theorem dX7_gains_28 : decode cX7_gains 28 = .ok (.checkcast 69, 3) := by decide +kernel
theorem dX7_gains_31 : decode cX7_gains 31 = .ok (.astore_n 2, 1) := by decide +kernel
theorem dX7_gains_32 : decode cX7_gains 32 = .ok (.aload_n 2, 1) := by decide +kernel
theorem dX7_gains_33 : decode cX7_gains 33 = .ok (.getfield 289, 3) := by decide +kernel
theorem dX7_gains_36 : decode cX7_gains 36 = .ok (.ifCond .ne 11, 3) := by decide +kernel
theorem dX7_gains_39 : decode cX7_gains 39 = .ok (.aload_n 0, 1) := by decide +kernel
theorem dX7_gains_40 : decode cX7_gains 40 = .ok (.getfield 32, 3) := by decide +kernel
theorem dX7_gains_43 : decode cX7_gains 43 = .ok (.aload_n 2, 1) := by decide +kernel
theorem dX7_gains_44 : decode cX7_gains 44 = .ok (.invokevirtual 292, 3) := by decide +kernel
theorem dX7_gains_47 : decode cX7_gains 47 = .ok (.iinc 1 1, 3) := by decide +kernel
theorem dX7_gains_50 : decode cX7_gains 50 = .ok (.goto (-41), 3) := by decide +kernel
theorem dX7_gains_53 : decode cX7_gains 53 = .ok (.aload_n 0, 1) := by decide +kernel
theorem dX7_gains_54 : decode cX7_gains 54 = .ok (.getfield 32, 3) := by decide +kernel
theorem dX7_gains_57 : decode cX7_gains 57 = .ok (.invokevirtual 296, 3) := by decide +kernel
theorem dX7_gains_60 : decode cX7_gains 60 = .ok (.ireturn, 1) := by decide +kernel
theorem dX7_times_0 : decode cX7_times 0 = .ok (.aload_n 0, 1) := by decide +kernel
theorem dX7_times_1 : decode cX7_times 1 = .ok (.iload_n 1, 1) := by decide +kernel
theorem dX7_times_2 : decode cX7_times 2 = .ok (.invokevirtual 74, 3) := by decide +kernel
theorem dX7_times_5 : decode cX7_times 5 = .ok (.astore_n 3, 1) := by decide +kernel
theorem dX7_times_6 : decode cX7_times 6 = .ok (.iload_n 2, 1) := by decide +kernel
theorem dX7_times_7 : decode cX7_times 7 = .ok (.iconst 0, 1) := by decide +kernel
theorem dX7_times_8 : decode cX7_times 8 = .ok (.sipush 1000, 3) := by decide +kernel
theorem dX7_times_11 : decode cX7_times 11 = .ok (.invokestatic 81, 3) := by decide +kernel
theorem dX7_times_14 : decode cX7_times 14 = .ok (.aload_n 3, 1) := by decide +kernel
theorem dX7_times_15 : decode cX7_times 15 = .ok (.iload_n 2, 1) := by decide +kernel
theorem dX7_times_16 : decode cX7_times 16 = .ok (.putfield 299, 3) := by decide +kernel
theorem dX7_times_19 : decode cX7_times 19 = .ok (.return_, 1) := by decide +kernel
theorem dX7_earns_0 : decode cX7_earns 0 = .ok (.iconst 0, 1) := by decide +kernel
theorem dX7_earns_1 : decode cX7_earns 1 = .ok (.istore_n 1, 1) := by decide +kernel
theorem dX7_earns_2 : decode cX7_earns 2 = .ok (.iconst 0, 1) := by decide +kernel
theorem dX7_earns_3 : decode cX7_earns 3 = .ok (.istore_n 2, 1) := by decide +kernel
theorem dX7_earns_4 : decode cX7_earns 4 = .ok (.iload_n 2, 1) := by decide +kernel
theorem dX7_earns_5 : decode cX7_earns 5 = .ok (.iconst 4, 1) := by decide +kernel
theorem dX7_earns_6 : decode cX7_earns 6 = .ok (.if_icmp .ge 35, 3) := by decide +kernel
theorem dX7_earns_9 : decode cX7_earns 9 = .ok (.aload_n 0, 1) := by decide +kernel
theorem dX7_earns_10 : decode cX7_earns 10 = .ok (.iload_n 2, 1) := by decide +kernel
theorem dX7_earns_11 : decode cX7_earns 11 = .ok (.invokevirtual 302, 3) := by decide +kernel
theorem dX7_earns_14 : decode cX7_earns 14 = .ok (.istore_n 3, 1) := by decide +kernel
theorem dX7_earns_15 : decode cX7_earns 15 = .ok (.iload_n 3, 1) := by decide +kernel
theorem dX7_earns_16 : decode cX7_earns 16 = .ok (.ifCond .ge 5, 3) := by decide +kernel
theorem dX7_earns_19 : decode cX7_earns 19 = .ok (.iconst 0, 1) := by decide +kernel
theorem dX7_earns_20 : decode cX7_earns 20 = .ok (.ireturn, 1) := by decide +kernel
theorem dX7_earns_21 : decode cX7_earns 21 = .ok (.iload_n 1, 1) := by decide +kernel
theorem dX7_earns_22 : decode cX7_earns 22 = .ok (.ifCond .ne 7, 3) := by decide +kernel
theorem dX7_earns_25 : decode cX7_earns 25 = .ok (.iload_n 3, 1) := by decide +kernel
theorem dX7_earns_26 : decode cX7_earns 26 = .ok (.ifCond .le 7, 3) := by decide +kernel
theorem dX7_earns_29 : decode cX7_earns 29 = .ok (.iconst 1, 1) := by decide +kernel
theorem dX7_earns_30 : decode cX7_earns 30 = .ok (.goto 4, 3) := by decide +kernel
theorem dX7_earns_33 : decode cX7_earns 33 = .ok (.iconst 0, 1) := by decide +kernel
theorem dX7_earns_34 : decode cX7_earns 34 = .ok (.istore_n 1, 1) := by decide +kernel
theorem dX7_earns_35 : decode cX7_earns 35 = .ok (.iinc 2 1, 3) := by decide +kernel
theorem dX7_earns_38 : decode cX7_earns 38 = .ok (.goto (-34), 3) := by decide +kernel
theorem dX7_earns_41 : decode cX7_earns 41 = .ok (.iload_n 1, 1) := by decide +kernel
theorem dX7_earns_42 : decode cX7_earns 42 = .ok (.ireturn, 1) := by decide +kernel
theorem dX7_weigh_0 : decode cX7_weigh 0 = .ok (.iload_n 1, 1) := by decide +kernel
theorem dX7_weigh_1 : decode cX7_weigh 1 = .ok (.invokestatic 78, 3) := by decide +kernel
theorem dX7_weigh_4 : decode cX7_weigh 4 = .ok (.iload_n 2, 1) := by decide +kernel
theorem dX7_weigh_5 : decode cX7_weigh 5 = .ok (.iconst 0, 1) := by decide +kernel
theorem dX7_weigh_6 : decode cX7_weigh 6 = .ok (.sipush 1000, 3) := by decide +kernel
theorem dX7_weigh_9 : decode cX7_weigh 9 = .ok (.invokestatic 81, 3) := by decide +kernel
theorem dX7_weigh_12 : decode cX7_weigh 12 = .ok (.aload_n 0, 1) := by decide +kernel
theorem dX7_weigh_13 : decode cX7_weigh 13 = .ok (.getfield 36, 3) := by decide +kernel
theorem dX7_weigh_16 : decode cX7_weigh 16 = .ok (.iload_n 1, 1) := by decide +kernel
theorem dX7_weigh_17 : decode cX7_weigh 17 = .ok (.iload_n 2, 1) := by decide +kernel
theorem dX7_weigh_18 : decode cX7_weigh 18 = .ok (.iastore, 1) := by decide +kernel
theorem dX7_weigh_19 : decode cX7_weigh 19 = .ok (.return_, 1) := by decide +kernel
theorem dX7_bars_0 : decode cX7_bars 0 = .ok (.iconst 0, 1) := by decide +kernel
theorem dX7_bars_1 : decode cX7_bars 1 = .ok (.istore_n 1, 1) := by decide +kernel
theorem dX7_bars_2 : decode cX7_bars 2 = .ok (.iload_n 1, 1) := by decide +kernel
theorem dX7_bars_3 : decode cX7_bars 3 = .ok (.iconst 4, 1) := by decide +kernel
theorem dX7_bars_4 : decode cX7_bars 4 = .ok (.if_icmp .ge 20, 3) := by decide +kernel
theorem dX7_bars_7 : decode cX7_bars 7 = .ok (.aload_n 0, 1) := by decide +kernel
theorem dX7_bars_8 : decode cX7_bars 8 = .ok (.getfield 36, 3) := by decide +kernel
theorem dX7_bars_11 : decode cX7_bars 11 = .ok (.iload_n 1, 1) := by decide +kernel
theorem dX7_bars_12 : decode cX7_bars 12 = .ok (.iaload, 1) := by decide +kernel
theorem dX7_bars_13 : decode cX7_bars 13 = .ok (.ifCond .ne 5, 3) := by decide +kernel
theorem dX7_bars_16 : decode cX7_bars 16 = .ok (.iconst 0, 1) := by decide +kernel
theorem dX7_bars_17 : decode cX7_bars 17 = .ok (.ireturn, 1) := by decide +kernel
theorem dX7_bars_18 : decode cX7_bars 18 = .ok (.iinc 1 1, 3) := by decide +kernel
theorem dX7_bars_21 : decode cX7_bars 21 = .ok (.goto (-19), 3) := by decide +kernel
theorem dX7_bars_24 : decode cX7_bars 24 = .ok (.iconst 0, 1) := by decide +kernel
theorem dX7_bars_25 : decode cX7_bars 25 = .ok (.istore_n 1, 1) := by decide +kernel
theorem dX7_bars_26 : decode cX7_bars 26 = .ok (.iload_n 1, 1) := by decide +kernel
theorem dX7_bars_27 : decode cX7_bars 27 = .ok (.aload_n 0, 1) := by decide +kernel
theorem dX7_bars_28 : decode cX7_bars 28 = .ok (.getfield 16, 3) := by decide +kernel
theorem dX7_bars_31 : decode cX7_bars 31 = .ok (.invokevirtual 47, 3) := by decide +kernel
theorem dX7_bars_34 : decode cX7_bars 34 = .ok (.if_icmp .ge 38, 3) := by decide +kernel
theorem dX7_bars_37 : decode cX7_bars 37 = .ok (.aload_n 0, 1) := by decide +kernel
theorem dX7_bars_38 : decode cX7_bars 38 = .ok (.getfield 16, 3) := by decide +kernel
theorem dX7_bars_41 : decode cX7_bars 41 = .ok (.iload_n 1, 1) := by decide +kernel
theorem dX7_bars_42 : decode cX7_bars 42 = .ok (.invokevirtual 285, 3) := by decide +kernel
theorem dX7_bars_45 : decode cX7_bars 45 = .ok (.checkcast 69, 3) := by decide +kernel
theorem dX7_bars_48 : decode cX7_bars 48 = .ok (.astore_n 2, 1) := by decide +kernel
theorem dX7_bars_49 : decode cX7_bars 49 = .ok (.aload_n 2, 1) := by decide +kernel
theorem dX7_bars_50 : decode cX7_bars 50 = .ok (.getfield 289, 3) := by decide +kernel
theorem dX7_bars_53 : decode cX7_bars 53 = .ok (.ifCond .ne 13, 3) := by decide +kernel
theorem dX7_bars_56 : decode cX7_bars 56 = .ok (.aload_n 0, 1) := by decide +kernel
theorem dX7_bars_57 : decode cX7_bars 57 = .ok (.aload_n 2, 1) := by decide +kernel
theorem dX7_bars_58 : decode cX7_bars 58 = .ok (.invokevirtual 306, 3) := by decide +kernel
theorem dX7_bars_61 : decode cX7_bars 61 = .ok (.ifCond .le 5, 3) := by decide +kernel
theorem dX7_bars_64 : decode cX7_bars 64 = .ok (.iconst 0, 1) := by decide +kernel
theorem dX7_bars_65 : decode cX7_bars 65 = .ok (.ireturn, 1) := by decide +kernel
theorem dX7_bars_66 : decode cX7_bars 66 = .ok (.iinc 1 1, 3) := by decide +kernel
theorem dX7_bars_69 : decode cX7_bars 69 = .ok (.goto (-43), 3) := by decide +kernel
theorem dX7_bars_72 : decode cX7_bars 72 = .ok (.iconst 1, 1) := by decide +kernel
theorem dX7_bars_73 : decode cX7_bars 73 = .ok (.ireturn, 1) := by decide +kernel
theorem dX7_wonByTimes_0 : decode cX7_wonByTimes 0 = .ok (.iconst 0, 1) := by decide +kernel
theorem dX7_wonByTimes_1 : decode cX7_wonByTimes 1 = .ok (.istore_n 2, 1) := by decide +kernel
theorem dX7_wonByTimes_2 : decode cX7_wonByTimes 2 = .ok (.iconst 0, 1) := by decide +kernel
theorem dX7_wonByTimes_3 : decode cX7_wonByTimes 3 = .ok (.istore_n 3, 1) := by decide +kernel
theorem dX7_wonByTimes_4 : decode cX7_wonByTimes 4 = .ok (.iload_n 3, 1) := by decide +kernel
theorem dX7_wonByTimes_5 : decode cX7_wonByTimes 5 = .ok (.aload_n 0, 1) := by decide +kernel
theorem dX7_wonByTimes_6 : decode cX7_wonByTimes 6 = .ok (.getfield 16, 3) := by decide +kernel
theorem dX7_wonByTimes_9 : decode cX7_wonByTimes 9 = .ok (.invokevirtual 47, 3) := by decide +kernel
theorem dX7_wonByTimes_12 : decode cX7_wonByTimes 12 = .ok (.if_icmp .ge 45, 3) := by decide +kernel
theorem dX7_wonByTimes_15 : decode cX7_wonByTimes 15 = .ok (.aload_n 0, 1) := by decide +kernel
theorem dX7_wonByTimes_16 : decode cX7_wonByTimes 16 = .ok (.getfield 16, 3) := by decide +kernel
theorem dX7_wonByTimes_19 : decode cX7_wonByTimes 19 = .ok (.iload_n 3, 1) := by decide +kernel
theorem dX7_wonByTimes_20 : decode cX7_wonByTimes 20 = .ok (.invokevirtual 285, 3) := by decide +kernel
theorem dX7_wonByTimes_23 : decode cX7_wonByTimes 23 = .ok (.checkcast 69, 3) := by decide +kernel
theorem dX7_wonByTimes_26 : decode cX7_wonByTimes 26 = .ok (.astore 4, 2) := by decide +kernel
theorem dX7_wonByTimes_28 : decode cX7_wonByTimes 28 = .ok (.aload 4, 2) := by decide +kernel
theorem dX7_wonByTimes_30 : decode cX7_wonByTimes 30 = .ok (.getfield 289, 3) := by decide +kernel
theorem dX7_wonByTimes_33 : decode cX7_wonByTimes 33 = .ok (.ifCond .ne 18, 3) := by decide +kernel
theorem dX7_wonByTimes_36 : decode cX7_wonByTimes 36 = .ok (.iload_n 2, 1) := by decide +kernel
theorem dX7_wonByTimes_37 : decode cX7_wonByTimes 37 = .ok (.aload 4, 2) := by decide +kernel
theorem dX7_wonByTimes_39 : decode cX7_wonByTimes 39 = .ok (.getfield 299, 3) := by decide +kernel
theorem dX7_wonByTimes_42 : decode cX7_wonByTimes 42 = .ok (.aload 4, 2) := by decide +kernel
theorem dX7_wonByTimes_44 : decode cX7_wonByTimes 44 = .ok (.iload_n 1, 1) := by decide +kernel
theorem dX7_wonByTimes_45 : decode cX7_wonByTimes 45 = .ok (.invokevirtual 310, 3) := by decide +kernel
theorem dX7_wonByTimes_48 : decode cX7_wonByTimes 48 = .ok (.imul, 1) := by decide +kernel
theorem dX7_wonByTimes_49 : decode cX7_wonByTimes 49 = .ok (.iadd, 1) := by decide +kernel
theorem dX7_wonByTimes_50 : decode cX7_wonByTimes 50 = .ok (.istore_n 2, 1) := by decide +kernel
theorem dX7_wonByTimes_51 : decode cX7_wonByTimes 51 = .ok (.iinc 3 1, 3) := by decide +kernel
theorem dX7_wonByTimes_54 : decode cX7_wonByTimes 54 = .ok (.goto (-50), 3) := by decide +kernel
theorem dX7_wonByTimes_57 : decode cX7_wonByTimes 57 = .ok (.iload_n 2, 1) := by decide +kernel
theorem dX7_wonByTimes_58 : decode cX7_wonByTimes 58 = .ok (.ireturn, 1) := by decide +kernel
theorem dX7_weightWonBy_0 : decode cX7_weightWonBy 0 = .ok (.iconst 0, 1) := by decide +kernel
theorem dX7_weightWonBy_1 : decode cX7_weightWonBy 1 = .ok (.istore_n 2, 1) := by decide +kernel
theorem dX7_weightWonBy_2 : decode cX7_weightWonBy 2 = .ok (.iconst 0, 1) := by decide +kernel
theorem dX7_weightWonBy_3 : decode cX7_weightWonBy 3 = .ok (.istore_n 3, 1) := by decide +kernel
theorem dX7_weightWonBy_4 : decode cX7_weightWonBy 4 = .ok (.iload_n 3, 1) := by decide +kernel
theorem dX7_weightWonBy_5 : decode cX7_weightWonBy 5 = .ok (.iconst 4, 1) := by decide +kernel
theorem dX7_weightWonBy_6 : decode cX7_weightWonBy 6 = .ok (.if_icmp .ge 24, 3) := by decide +kernel
theorem dX7_weightWonBy_9 : decode cX7_weightWonBy 9 = .ok (.iload_n 2, 1) := by decide +kernel
theorem dX7_weightWonBy_10 : decode cX7_weightWonBy 10 = .ok (.aload_n 0, 1) := by decide +kernel
theorem dX7_weightWonBy_11 : decode cX7_weightWonBy 11 = .ok (.getfield 36, 3) := by decide +kernel
theorem dX7_weightWonBy_14 : decode cX7_weightWonBy 14 = .ok (.iload_n 3, 1) := by decide +kernel
theorem dX7_weightWonBy_15 : decode cX7_weightWonBy 15 = .ok (.iaload, 1) := by decide +kernel
theorem dX7_weightWonBy_16 : decode cX7_weightWonBy 16 = .ok (.aload_n 1, 1) := by decide +kernel
theorem dX7_weightWonBy_17 : decode cX7_weightWonBy 17 = .ok (.iload_n 3, 1) := by decide +kernel
theorem dX7_weightWonBy_18 : decode cX7_weightWonBy 18 = .ok (.invokevirtual 310, 3) := by decide +kernel
theorem dX7_weightWonBy_21 : decode cX7_weightWonBy 21 = .ok (.imul, 1) := by decide +kernel
theorem dX7_weightWonBy_22 : decode cX7_weightWonBy 22 = .ok (.iadd, 1) := by decide +kernel
theorem dX7_weightWonBy_23 : decode cX7_weightWonBy 23 = .ok (.istore_n 2, 1) := by decide +kernel
theorem dX7_weightWonBy_24 : decode cX7_weightWonBy 24 = .ok (.iinc 3 1, 3) := by decide +kernel
theorem dX7_weightWonBy_27 : decode cX7_weightWonBy 27 = .ok (.goto (-23), 3) := by decide +kernel
theorem dX7_weightWonBy_30 : decode cX7_weightWonBy 30 = .ok (.iload_n 2, 1) := by decide +kernel
theorem dX7_weightWonBy_31 : decode cX7_weightWonBy 31 = .ok (.ireturn, 1) := by decide +kernel
theorem dX7_count_0 : decode cX7_count 0 = .ok (.iload_n 1, 1) := by decide +kernel
theorem dX7_count_1 : decode cX7_count 1 = .ok (.tableswitch 114 0 8 #[51, 56, 64, 72, 80, 88, 96, 104, 109], 51) := by decide +kernel
theorem dX7_count_52 : decode cX7_count 52 = .ok (.aload_n 0, 1) := by decide +kernel
theorem dX7_count_53 : decode cX7_count 53 = .ok (.getfield 124, 3) := by decide +kernel
theorem dX7_count_56 : decode cX7_count 56 = .ok (.ireturn, 1) := by decide +kernel
theorem dX7_count_57 : decode cX7_count 57 = .ok (.aload_n 0, 1) := by decide +kernel
theorem dX7_count_58 : decode cX7_count 58 = .ok (.getfield 10, 3) := by decide +kernel
theorem dX7_count_61 : decode cX7_count 61 = .ok (.invokevirtual 47, 3) := by decide +kernel
theorem dX7_count_64 : decode cX7_count 64 = .ok (.ireturn, 1) := by decide +kernel
theorem dX7_count_65 : decode cX7_count 65 = .ok (.aload_n 0, 1) := by decide +kernel
theorem dX7_count_66 : decode cX7_count 66 = .ok (.getfield 16, 3) := by decide +kernel
theorem dX7_count_69 : decode cX7_count 69 = .ok (.invokevirtual 47, 3) := by decide +kernel
theorem dX7_count_72 : decode cX7_count 72 = .ok (.ireturn, 1) := by decide +kernel
theorem dX7_count_73 : decode cX7_count 73 = .ok (.aload_n 0, 1) := by decide +kernel
theorem dX7_count_74 : decode cX7_count 74 = .ok (.getfield 25, 3) := by decide +kernel
theorem dX7_count_77 : decode cX7_count 77 = .ok (.invokevirtual 116, 3) := by decide +kernel
theorem dX7_count_80 : decode cX7_count 80 = .ok (.ireturn, 1) := by decide +kernel
theorem dX7_count_81 : decode cX7_count 81 = .ok (.aload_n 0, 1) := by decide +kernel
theorem dX7_count_82 : decode cX7_count 82 = .ok (.getfield 25, 3) := by decide +kernel
theorem dX7_count_85 : decode cX7_count 85 = .ok (.invokevirtual 313, 3) := by decide +kernel
theorem dX7_count_88 : decode cX7_count 88 = .ok (.ireturn, 1) := by decide +kernel
theorem dX7_count_89 : decode cX7_count 89 = .ok (.aload_n 0, 1) := by decide +kernel
theorem dX7_count_90 : decode cX7_count 90 = .ok (.getfield 25, 3) := by decide +kernel
theorem dX7_count_93 : decode cX7_count 93 = .ok (.invokevirtual 316, 3) := by decide +kernel
theorem dX7_count_96 : decode cX7_count 96 = .ok (.ireturn, 1) := by decide +kernel
theorem dX7_count_97 : decode cX7_count 97 = .ok (.aload_n 0, 1) := by decide +kernel
theorem dX7_count_98 : decode cX7_count 98 = .ok (.getfield 19, 3) := by decide +kernel
theorem dX7_count_101 : decode cX7_count 101 = .ok (.invokevirtual 47, 3) := by decide +kernel
theorem dX7_count_104 : decode cX7_count 104 = .ok (.ireturn, 1) := by decide +kernel
theorem dX7_count_105 : decode cX7_count 105 = .ok (.aload_n 0, 1) := by decide +kernel
theorem dX7_count_106 : decode cX7_count 106 = .ok (.invokevirtual 319, 3) := by decide +kernel
theorem dX7_count_109 : decode cX7_count 109 = .ok (.ireturn, 1) := by decide +kernel
theorem dX7_count_110 : decode cX7_count 110 = .ok (.aload_n 0, 1) := by decide +kernel
theorem dX7_count_111 : decode cX7_count 111 = .ok (.getfield 113, 3) := by decide +kernel
theorem dX7_count_114 : decode cX7_count 114 = .ok (.ireturn, 1) := by decide +kernel
theorem dX7_count_115 : decode cX7_count 115 = .ok (.iconst (-1), 1) := by decide +kernel
theorem dX7_count_116 : decode cX7_count 116 = .ok (.ireturn, 1) := by decide +kernel
theorem dX7_countOpen_0 : decode cX7_countOpen 0 = .ok (.iconst 0, 1) := by decide +kernel
theorem dX7_countOpen_1 : decode cX7_countOpen 1 = .ok (.istore_n 1, 1) := by decide +kernel
theorem dX7_countOpen_2 : decode cX7_countOpen 2 = .ok (.iconst 0, 1) := by decide +kernel
theorem dX7_countOpen_3 : decode cX7_countOpen 3 = .ok (.istore_n 2, 1) := by decide +kernel
theorem dX7_countOpen_4 : decode cX7_countOpen 4 = .ok (.iload_n 2, 1) := by decide +kernel
theorem dX7_countOpen_5 : decode cX7_countOpen 5 = .ok (.aload_n 0, 1) := by decide +kernel
theorem dX7_countOpen_6 : decode cX7_countOpen 6 = .ok (.getfield 19, 3) := by decide +kernel
theorem dX7_countOpen_9 : decode cX7_countOpen 9 = .ok (.invokevirtual 47, 3) := by decide +kernel
theorem dX7_countOpen_12 : decode cX7_countOpen 12 = .ok (.if_icmp .ge 29, 3) := by decide +kernel
theorem dX7_countOpen_15 : decode cX7_countOpen 15 = .ok (.aload_n 0, 1) := by decide +kernel
theorem dX7_countOpen_16 : decode cX7_countOpen 16 = .ok (.getfield 19, 3) := by decide +kernel
theorem dX7_countOpen_19 : decode cX7_countOpen 19 = .ok (.iload_n 2, 1) := by decide +kernel
theorem dX7_countOpen_20 : decode cX7_countOpen 20 = .ok (.invokevirtual 285, 3) := by decide +kernel
theorem dX7_countOpen_23 : decode cX7_countOpen 23 = .ok (.checkcast 226, 3) := by decide +kernel
theorem dX7_countOpen_26 : decode cX7_countOpen 26 = .ok (.getfield 248, 3) := by decide +kernel
theorem dX7_countOpen_29 : decode cX7_countOpen 29 = .ok (.ifCond .eq 6, 3) := by decide +kernel
theorem dX7_countOpen_32 : decode cX7_countOpen 32 = .ok (.iinc 1 1, 3) := by decide +kernel
theorem dX7_countOpen_35 : decode cX7_countOpen 35 = .ok (.iinc 2 1, 3) := by decide +kernel
theorem dX7_countOpen_38 : decode cX7_countOpen 38 = .ok (.goto (-34), 3) := by decide +kernel
theorem dX7_countOpen_41 : decode cX7_countOpen 41 = .ok (.iload_n 1, 1) := by decide +kernel
theorem dX7_countOpen_42 : decode cX7_countOpen 42 = .ok (.ireturn, 1) := by decide +kernel
theorem dX7_playerAt_0 : decode cX7_playerAt 0 = .ok (.iload_n 1, 1) := by decide +kernel
theorem dX7_playerAt_1 : decode cX7_playerAt 1 = .ok (.ifCond .lt 14, 3) := by decide +kernel
theorem dX7_playerAt_4 : decode cX7_playerAt 4 = .ok (.iload_n 1, 1) := by decide +kernel
theorem dX7_playerAt_5 : decode cX7_playerAt 5 = .ok (.aload_n 0, 1) := by decide +kernel
theorem dX7_playerAt_6 : decode cX7_playerAt 6 = .ok (.getfield 10, 3) := by decide +kernel
theorem dX7_playerAt_9 : decode cX7_playerAt 9 = .ok (.invokevirtual 47, 3) := by decide +kernel
theorem dX7_playerAt_12 : decode cX7_playerAt 12 = .ok (.if_icmp .lt 14, 3) := by decide +kernel
theorem dX7_playerAt_15 : decode cX7_playerAt 15 = .ok (.new 322, 3) := by decide +kernel
theorem dX7_playerAt_18 : decode cX7_playerAt 18 = .ok (.dup, 1) := by decide +kernel
theorem dX7_playerAt_19 : decode cX7_playerAt 19 = .ok (.ldc_w 324, 3) := by decide +kernel
theorem dX7_playerAt_22 : decode cX7_playerAt 22 = .ok (.invokespecial 326, 3) := by decide +kernel
theorem dX7_playerAt_25 : decode cX7_playerAt 25 = .ok (.athrow, 1) := by decide +kernel
theorem dX7_playerAt_26 : decode cX7_playerAt 26 = .ok (.aload_n 0, 1) := by decide +kernel
theorem dX7_playerAt_27 : decode cX7_playerAt 27 = .ok (.getfield 10, 3) := by decide +kernel
theorem dX7_playerAt_30 : decode cX7_playerAt 30 = .ok (.iload_n 1, 1) := by decide +kernel
theorem dX7_playerAt_31 : decode cX7_playerAt 31 = .ok (.invokevirtual 285, 3) := by decide +kernel
theorem dX7_playerAt_34 : decode cX7_playerAt 34 = .ok (.checkcast 58, 3) := by decide +kernel
theorem dX7_playerAt_37 : decode cX7_playerAt 37 = .ok (.areturn, 1) := by decide +kernel
theorem dX7_ruleAt_0 : decode cX7_ruleAt 0 = .ok (.iload_n 1, 1) := by decide +kernel
theorem dX7_ruleAt_1 : decode cX7_ruleAt 1 = .ok (.ifCond .lt 14, 3) := by decide +kernel
theorem dX7_ruleAt_4 : decode cX7_ruleAt 4 = .ok (.iload_n 1, 1) := by decide +kernel
theorem dX7_ruleAt_5 : decode cX7_ruleAt 5 = .ok (.aload_n 0, 1) := by decide +kernel
theorem dX7_ruleAt_6 : decode cX7_ruleAt 6 = .ok (.getfield 16, 3) := by decide +kernel
theorem dX7_ruleAt_9 : decode cX7_ruleAt 9 = .ok (.invokevirtual 47, 3) := by decide +kernel
theorem dX7_ruleAt_12 : decode cX7_ruleAt 12 = .ok (.if_icmp .lt 14, 3) := by decide +kernel
theorem dX7_ruleAt_15 : decode cX7_ruleAt 15 = .ok (.new 322, 3) := by decide +kernel
theorem dX7_ruleAt_18 : decode cX7_ruleAt 18 = .ok (.dup, 1) := by decide +kernel
theorem dX7_ruleAt_19 : decode cX7_ruleAt 19 = .ok (.ldc_w 327, 3) := by decide +kernel
theorem dX7_ruleAt_22 : decode cX7_ruleAt 22 = .ok (.invokespecial 326, 3) := by decide +kernel
theorem dX7_ruleAt_25 : decode cX7_ruleAt 25 = .ok (.athrow, 1) := by decide +kernel
theorem dX7_ruleAt_26 : decode cX7_ruleAt 26 = .ok (.aload_n 0, 1) := by decide +kernel
theorem dX7_ruleAt_27 : decode cX7_ruleAt 27 = .ok (.getfield 16, 3) := by decide +kernel
theorem dX7_ruleAt_30 : decode cX7_ruleAt 30 = .ok (.iload_n 1, 1) := by decide +kernel
theorem dX7_ruleAt_31 : decode cX7_ruleAt 31 = .ok (.invokevirtual 285, 3) := by decide +kernel
theorem dX7_ruleAt_34 : decode cX7_ruleAt 34 = .ok (.checkcast 69, 3) := by decide +kernel
theorem dX7_ruleAt_37 : decode cX7_ruleAt 37 = .ok (.areturn, 1) := by decide +kernel
theorem dX7_offerAt_0 : decode cX7_offerAt 0 = .ok (.iload_n 1, 1) := by decide +kernel
theorem dX7_offerAt_1 : decode cX7_offerAt 1 = .ok (.ifCond .lt 14, 3) := by decide +kernel
theorem dX7_offerAt_4 : decode cX7_offerAt 4 = .ok (.iload_n 1, 1) := by decide +kernel
theorem dX7_offerAt_5 : decode cX7_offerAt 5 = .ok (.aload_n 0, 1) := by decide +kernel
theorem dX7_offerAt_6 : decode cX7_offerAt 6 = .ok (.getfield 19, 3) := by decide +kernel
theorem dX7_offerAt_9 : decode cX7_offerAt 9 = .ok (.invokevirtual 47, 3) := by decide +kernel
theorem dX7_offerAt_12 : decode cX7_offerAt 12 = .ok (.if_icmp .lt 14, 3) := by decide +kernel
theorem dX7_offerAt_15 : decode cX7_offerAt 15 = .ok (.new 322, 3) := by decide +kernel
theorem dX7_offerAt_18 : decode cX7_offerAt 18 = .ok (.dup, 1) := by decide +kernel
theorem dX7_offerAt_19 : decode cX7_offerAt 19 = .ok (.ldc_w 329, 3) := by decide +kernel
theorem dX7_offerAt_22 : decode cX7_offerAt 22 = .ok (.invokespecial 326, 3) := by decide +kernel
theorem dX7_offerAt_25 : decode cX7_offerAt 25 = .ok (.athrow, 1) := by decide +kernel
theorem dX7_offerAt_26 : decode cX7_offerAt 26 = .ok (.aload_n 0, 1) := by decide +kernel
theorem dX7_offerAt_27 : decode cX7_offerAt 27 = .ok (.getfield 19, 3) := by decide +kernel
theorem dX7_offerAt_30 : decode cX7_offerAt 30 = .ok (.iload_n 1, 1) := by decide +kernel
theorem dX7_offerAt_31 : decode cX7_offerAt 31 = .ok (.invokevirtual 285, 3) := by decide +kernel
theorem dX7_offerAt_34 : decode cX7_offerAt 34 = .ok (.checkcast 226, 3) := by decide +kernel
theorem dX7_offerAt_37 : decode cX7_offerAt 37 = .ok (.areturn, 1) := by decide +kernel
theorem dX7_checkKind_0 : decode cX7_checkKind 0 = .ok (.iload_n 0, 1) := by decide +kernel
theorem dX7_checkKind_1 : decode cX7_checkKind 1 = .ok (.ifCond .lt 8, 3) := by decide +kernel
theorem dX7_checkKind_4 : decode cX7_checkKind 4 = .ok (.iload_n 0, 1) := by decide +kernel
theorem dX7_checkKind_5 : decode cX7_checkKind 5 = .ok (.iconst 4, 1) := by decide +kernel
theorem dX7_checkKind_6 : decode cX7_checkKind 6 = .ok (.if_icmp .lt 14, 3) := by decide +kernel
theorem dX7_checkKind_9 : decode cX7_checkKind 9 = .ok (.new 322, 3) := by decide +kernel
theorem dX7_checkKind_12 : decode cX7_checkKind 12 = .ok (.dup, 1) := by decide +kernel
theorem dX7_checkKind_13 : decode cX7_checkKind 13 = .ok (.ldc_w 331, 3) := by decide +kernel
theorem dX7_checkKind_16 : decode cX7_checkKind 16 = .ok (.invokespecial 326, 3) := by decide +kernel
theorem dX7_checkKind_19 : decode cX7_checkKind 19 = .ok (.athrow, 1) := by decide +kernel
theorem dX7_checkKind_20 : decode cX7_checkKind 20 = .ok (.return_, 1) := by decide +kernel
theorem dX7_checkRange_0 : decode cX7_checkRange 0 = .ok (.iload_n 0, 1) := by decide +kernel
theorem dX7_checkRange_1 : decode cX7_checkRange 1 = .ok (.iload_n 1, 1) := by decide +kernel
theorem dX7_checkRange_2 : decode cX7_checkRange 2 = .ok (.if_icmp .lt 8, 3) := by decide +kernel
theorem dX7_checkRange_5 : decode cX7_checkRange 5 = .ok (.iload_n 0, 1) := by decide +kernel
theorem dX7_checkRange_6 : decode cX7_checkRange 6 = .ok (.iload_n 2, 1) := by decide +kernel
theorem dX7_checkRange_7 : decode cX7_checkRange 7 = .ok (.if_icmp .le 14, 3) := by decide +kernel
theorem dX7_checkRange_10 : decode cX7_checkRange 10 = .ok (.new 218, 3) := by decide +kernel
theorem dX7_checkRange_13 : decode cX7_checkRange 13 = .ok (.dup, 1) := by decide +kernel
theorem dX7_checkRange_14 : decode cX7_checkRange 14 = .ok (.ldc_w 333, 3) := by decide +kernel
theorem dX7_checkRange_17 : decode cX7_checkRange 17 = .ok (.invokespecial 222, 3) := by decide +kernel
theorem dX7_checkRange_20 : decode cX7_checkRange 20 = .ok (.athrow, 1) := by decide +kernel
theorem dX7_checkRange_21 : decode cX7_checkRange 21 = .ok (.return_, 1) := by decide +kernel
theorem dX7_numberOf_0 : decode cX7_numberOf 0 = .ok (.aload_n 0, 1) := by decide +kernel
theorem dX7_numberOf_1 : decode cX7_numberOf 1 = .ok (.ifnonnull 7, 3) := by decide +kernel
theorem dX7_numberOf_4 : decode cX7_numberOf 4 = .ok (.iconst (-1), 1) := by decide +kernel
theorem dX7_numberOf_5 : decode cX7_numberOf 5 = .ok (.goto 7, 3) := by decide +kernel
theorem dX7_numberOf_8 : decode cX7_numberOf 8 = .ok (.aload_n 0, 1) := by decide +kernel
theorem dX7_numberOf_9 : decode cX7_numberOf 9 = .ok (.getfield 335, 3) := by decide +kernel
theorem dX7_numberOf_12 : decode cX7_numberOf 12 = .ok (.ireturn, 1) := by decide +kernel
theorem dX8_init_0 : decode cX8_init 0 = .ok (.aload_n 0, 1) := by decide +kernel
theorem dX8_init_1 : decode cX8_init 1 = .ok (.invokespecial 1, 3) := by decide +kernel
theorem dX8_init_4 : decode cX8_init 4 = .ok (.aload_n 0, 1) := by decide +kernel
theorem dX8_init_5 : decode cX8_init 5 = .ok (.bipush 40, 2) := by decide +kernel
theorem dX8_init_7 : decode cX8_init 7 = .ok (.newarray .int, 2) := by decide +kernel
theorem dX8_init_9 : decode cX8_init 9 = .ok (.putfield 9, 3) := by decide +kernel
theorem dX8_init_12 : decode cX8_init 12 = .ok (.aload_n 0, 1) := by decide +kernel
theorem dX8_init_13 : decode cX8_init 13 = .ok (.bipush 10, 2) := by decide +kernel
theorem dX8_init_15 : decode cX8_init 15 = .ok (.newarray .int, 2) := by decide +kernel
theorem dX8_init_17 : decode cX8_init 17 = .ok (.putfield 13, 3) := by decide +kernel
theorem dX8_init_20 : decode cX8_init 20 = .ok (.aload_n 0, 1) := by decide +kernel
theorem dX8_init_21 : decode cX8_init 21 = .ok (.bipush 10, 2) := by decide +kernel
theorem dX8_init_23 : decode cX8_init 23 = .ok (.newarray .int, 2) := by decide +kernel
theorem dX8_init_25 : decode cX8_init 25 = .ok (.putfield 16, 3) := by decide +kernel
theorem dX8_init_28 : decode cX8_init 28 = .ok (.aload_n 0, 1) := by decide +kernel
theorem dX8_init_29 : decode cX8_init 29 = .ok (.bipush 40, 2) := by decide +kernel
theorem dX8_init_31 : decode cX8_init 31 = .ok (.newarray .int, 2) := by decide +kernel
theorem dX8_init_33 : decode cX8_init 33 = .ok (.putfield 19, 3) := by decide +kernel
theorem dX8_init_36 : decode cX8_init 36 = .ok (.aload_n 0, 1) := by decide +kernel
theorem dX8_init_37 : decode cX8_init 37 = .ok (.bipush 40, 2) := by decide +kernel
theorem dX8_init_39 : decode cX8_init 39 = .ok (.newarray .int, 2) := by decide +kernel
theorem dX8_init_41 : decode cX8_init 41 = .ok (.putfield 22, 3) := by decide +kernel
theorem dX8_init_44 : decode cX8_init 44 = .ok (.aload_n 0, 1) := by decide +kernel
theorem dX8_init_45 : decode cX8_init 45 = .ok (.bipush 10, 2) := by decide +kernel
theorem dX8_init_47 : decode cX8_init 47 = .ok (.newarray .boolean, 2) := by decide +kernel
theorem dX8_init_49 : decode cX8_init 49 = .ok (.putfield 25, 3) := by decide +kernel
theorem dX8_init_52 : decode cX8_init 52 = .ok (.aload_n 0, 1) := by decide +kernel
theorem dX8_init_53 : decode cX8_init 53 = .ok (.bipush 10, 2) := by decide +kernel
theorem dX8_init_55 : decode cX8_init 55 = .ok (.newarray .int, 2) := by decide +kernel
theorem dX8_init_57 : decode cX8_init 57 = .ok (.putfield 29, 3) := by decide +kernel
theorem dX8_init_60 : decode cX8_init 60 = .ok (.aload_n 0, 1) := by decide +kernel
theorem dX8_init_61 : decode cX8_init 61 = .ok (.iconst 4, 1) := by decide +kernel
theorem dX8_init_62 : decode cX8_init 62 = .ok (.newarray .int, 2) := by decide +kernel
theorem dX8_init_64 : decode cX8_init 64 = .ok (.putfield 32, 3) := by decide +kernel
theorem dX8_init_67 : decode cX8_init 67 = .ok (.aload_n 0, 1) := by decide +kernel
theorem dX8_init_68 : decode cX8_init 68 = .ok (.iconst 4, 1) := by decide +kernel
theorem dX8_init_69 : decode cX8_init 69 = .ok (.newarray .long, 2) := by decide +kernel
theorem dX8_init_71 : decode cX8_init 71 = .ok (.putfield 35, 3) := by decide +kernel
theorem dX8_init_74 : decode cX8_init 74 = .ok (.aload_n 0, 1) := by decide +kernel
theorem dX8_init_75 : decode cX8_init 75 = .ok (.iconst 4, 1) := by decide +kernel
theorem dX8_init_76 : decode cX8_init 76 = .ok (.newarray .long, 2) := by decide +kernel
theorem dX8_init_78 : decode cX8_init 78 = .ok (.putfield 39, 3) := by decide +kernel
theorem dX8_init_81 : decode cX8_init 81 = .ok (.aload_n 0, 1) := by decide +kernel
theorem dX8_init_82 : decode cX8_init 82 = .ok (.bipush 40, 2) := by decide +kernel
theorem dX8_init_84 : decode cX8_init 84 = .ok (.newarray .int, 2) := by decide +kernel
theorem dX8_init_86 : decode cX8_init 86 = .ok (.putfield 42, 3) := by decide +kernel
theorem dX8_init_89 : decode cX8_init 89 = .ok (.aload_n 0, 1) := by decide +kernel
theorem dX8_init_90 : decode cX8_init 90 = .ok (.bipush 40, 2) := by decide +kernel
theorem dX8_init_92 : decode cX8_init 92 = .ok (.newarray .boolean, 2) := by decide +kernel
theorem dX8_init_94 : decode cX8_init 94 = .ok (.putfield 45, 3) := by decide +kernel
theorem dX8_init_97 : decode cX8_init 97 = .ok (.aload_n 0, 1) := by decide +kernel
theorem dX8_init_98 : decode cX8_init 98 = .ok (.bipush 40, 2) := by decide +kernel
theorem dX8_init_100 : decode cX8_init 100 = .ok (.newarray .int, 2) := by decide +kernel
theorem dX8_init_102 : decode cX8_init 102 = .ok (.putfield 48, 3) := by decide +kernel
theorem dX8_init_105 : decode cX8_init 105 = .ok (.aload_n 0, 1) := by decide +kernel
theorem dX8_init_106 : decode cX8_init 106 = .ok (.bipush 40, 2) := by decide +kernel
theorem dX8_init_108 : decode cX8_init 108 = .ok (.newarray .int, 2) := by decide +kernel
theorem dX8_init_110 : decode cX8_init 110 = .ok (.putfield 51, 3) := by decide +kernel
theorem dX8_init_113 : decode cX8_init 113 = .ok (.aload_n 0, 1) := by decide +kernel
theorem dX8_init_114 : decode cX8_init 114 = .ok (.bipush 40, 2) := by decide +kernel
theorem dX8_init_116 : decode cX8_init 116 = .ok (.newarray .int, 2) := by decide +kernel
theorem dX8_init_118 : decode cX8_init 118 = .ok (.putfield 54, 3) := by decide +kernel
theorem dX8_init_121 : decode cX8_init 121 = .ok (.aload_n 0, 1) := by decide +kernel
theorem dX8_init_122 : decode cX8_init 122 = .ok (.bipush 40, 2) := by decide +kernel
theorem dX8_init_124 : decode cX8_init 124 = .ok (.newarray .int, 2) := by decide +kernel
theorem dX8_init_126 : decode cX8_init 126 = .ok (.putfield 57, 3) := by decide +kernel
theorem dX8_init_129 : decode cX8_init 129 = .ok (.aload_n 0, 1) := by decide +kernel
theorem dX8_init_130 : decode cX8_init 130 = .ok (.bipush 40, 2) := by decide +kernel
theorem dX8_init_132 : decode cX8_init 132 = .ok (.newarray .int, 2) := by decide +kernel
theorem dX8_init_134 : decode cX8_init 134 = .ok (.putfield 60, 3) := by decide +kernel
theorem dX8_init_137 : decode cX8_init 137 = .ok (.aload_n 0, 1) := by decide +kernel
theorem dX8_init_138 : decode cX8_init 138 = .ok (.sipush 1200, 3) := by decide +kernel
theorem dX8_init_141 : decode cX8_init 141 = .ok (.newarray .int, 2) := by decide +kernel
theorem dX8_init_143 : decode cX8_init 143 = .ok (.putfield 63, 3) := by decide +kernel
theorem dX8_init_146 : decode cX8_init 146 = .ok (.aload_n 0, 1) := by decide +kernel
theorem dX8_init_147 : decode cX8_init 147 = .ok (.sipush 1200, 3) := by decide +kernel
theorem dX8_init_150 : decode cX8_init 150 = .ok (.newarray .int, 2) := by decide +kernel
theorem dX8_init_152 : decode cX8_init 152 = .ok (.putfield 66, 3) := by decide +kernel
theorem dX8_init_155 : decode cX8_init 155 = .ok (.aload_n 0, 1) := by decide +kernel
theorem dX8_init_156 : decode cX8_init 156 = .ok (.bipush 40, 2) := by decide +kernel
theorem dX8_init_158 : decode cX8_init 158 = .ok (.newarray .int, 2) := by decide +kernel
theorem dX8_init_160 : decode cX8_init 160 = .ok (.putfield 69, 3) := by decide +kernel
theorem dX8_init_163 : decode cX8_init 163 = .ok (.aload_n 0, 1) := by decide +kernel
theorem dX8_init_164 : decode cX8_init 164 = .ok (.sipush 600, 3) := by decide +kernel
theorem dX8_init_167 : decode cX8_init 167 = .ok (.newarray .int, 2) := by decide +kernel
theorem dX8_init_169 : decode cX8_init 169 = .ok (.putfield 72, 3) := by decide +kernel
theorem dX8_init_172 : decode cX8_init 172 = .ok (.aload_n 0, 1) := by decide +kernel
theorem dX8_init_173 : decode cX8_init 173 = .ok (.bipush 60, 2) := by decide +kernel
theorem dX8_init_175 : decode cX8_init 175 = .ok (.newarray .boolean, 2) := by decide +kernel
theorem dX8_init_177 : decode cX8_init 177 = .ok (.putfield 75, 3) := by decide +kernel
theorem dX8_init_180 : decode cX8_init 180 = .ok (.aload_n 0, 1) := by decide +kernel
theorem dX8_init_181 : decode cX8_init 181 = .ok (.iconst 4, 1) := by decide +kernel
theorem dX8_init_182 : decode cX8_init 182 = .ok (.newarray .int, 2) := by decide +kernel
theorem dX8_init_184 : decode cX8_init 184 = .ok (.putfield 78, 3) := by decide +kernel
theorem dX8_init_187 : decode cX8_init 187 = .ok (.aload_n 0, 1) := by decide +kernel
theorem dX8_init_188 : decode cX8_init 188 = .ok (.bipush 32, 2) := by decide +kernel
theorem dX8_init_190 : decode cX8_init 190 = .ok (.newarray .int, 2) := by decide +kernel
theorem dX8_init_192 : decode cX8_init 192 = .ok (.putfield 81, 3) := by decide +kernel
theorem dX8_init_195 : decode cX8_init 195 = .ok (.aload_n 0, 1) := by decide +kernel
theorem dX8_init_196 : decode cX8_init 196 = .ok (.iconst 4, 1) := by decide +kernel
theorem dX8_init_197 : decode cX8_init 197 = .ok (.newarray .long, 2) := by decide +kernel
theorem dX8_init_199 : decode cX8_init 199 = .ok (.putfield 84, 3) := by decide +kernel
theorem dX8_init_202 : decode cX8_init 202 = .ok (.return_, 1) := by decide +kernel
theorem dX8_thrown_0 : decode cX8_thrown 0 = .ok (.aload_n 0, 1) := by decide +kernel
theorem dX8_thrown_1 : decode cX8_thrown 1 = .ok (.getfield 87, 3) := by decide +kernel
theorem dX8_thrown_4 : decode cX8_thrown 4 = .ok (.ireturn, 1) := by decide +kernel
theorem dX8_throwsIf_0 : decode cX8_throwsIf 0 = .ok (.iload_n 1, 1) := by decide +kernel
theorem dX8_throwsIf_1 : decode cX8_throwsIf 1 = .ok (.ifCond .eq 8, 3) := by decide +kernel
theorem dX8_throwsIf_4 : decode cX8_throwsIf 4 = .ok (.aload_n 0, 1) := by decide +kernel
theorem dX8_throwsIf_5 : decode cX8_throwsIf 5 = .ok (.iload_n 2, 1) := by decide +kernel
theorem dX8_throwsIf_6 : decode cX8_throwsIf 6 = .ok (.putfield 87, 3) := by decide +kernel
theorem dX8_throwsIf_9 : decode cX8_throwsIf 9 = .ok (.iload_n 1, 1) := by decide +kernel
theorem dX8_throwsIf_10 : decode cX8_throwsIf 10 = .ok (.ireturn, 1) := by decide +kernel
theorem dX8_in_0 : decode cX8_in 0 = .ok (.lload_n 0, 1) := by decide +kernel
theorem dX8_in_1 : decode cX8_in 1 = .ok (.lload_n 2, 1) := by decide +kernel
theorem dX8_in_2 : decode cX8_in 2 = .ok (.lcmp, 1) := by decide +kernel
theorem dX8_in_3 : decode cX8_in 3 = .ok (.ifCond .lt 14, 3) := by decide +kernel
theorem dX8_in_6 : decode cX8_in 6 = .ok (.lload_n 0, 1) := by decide +kernel
theorem dX8_in_7 : decode cX8_in 7 = .ok (.lload 4, 2) := by decide +kernel
theorem dX8_in_9 : decode cX8_in 9 = .ok (.lcmp, 1) := by decide +kernel
theorem dX8_in_10 : decode cX8_in 10 = .ok (.ifCond .gt 7, 3) := by decide +kernel
theorem dX8_in_13 : decode cX8_in 13 = .ok (.iconst 1, 1) := by decide +kernel
theorem dX8_in_14 : decode cX8_in 14 = .ok (.goto 4, 3) := by decide +kernel
theorem dX8_in_17 : decode cX8_in 17 = .ok (.iconst 0, 1) := by decide +kernel
theorem dX8_in_18 : decode cX8_in 18 = .ok (.ireturn, 1) := by decide +kernel
theorem dX8_noPlayer_0 : decode cX8_noPlayer 0 = .ok (.iload_n 1, 1) := by decide +kernel
theorem dX8_noPlayer_1 : decode cX8_noPlayer 1 = .ok (.i2l, 1) := by decide +kernel
theorem dX8_noPlayer_2 : decode cX8_noPlayer 2 = .ok (.lconst 0, 1) := by decide +kernel
theorem dX8_noPlayer_3 : decode cX8_noPlayer 3 = .ok (.aload_n 0, 1) := by decide +kernel
theorem dX8_noPlayer_4 : decode cX8_noPlayer 4 = .ok (.getfield 91, 3) := by decide +kernel
theorem dX8_noPlayer_7 : decode cX8_noPlayer 7 = .ok (.iconst 1, 1) := by decide +kernel
theorem dX8_noPlayer_8 : decode cX8_noPlayer 8 = .ok (.isub, 1) := by decide +kernel
theorem dX8_noPlayer_9 : decode cX8_noPlayer 9 = .ok (.i2l, 1) := by decide +kernel
theorem dX8_noPlayer_10 : decode cX8_noPlayer 10 = .ok (.invokestatic 94, 3) := by decide +kernel
theorem dX8_noPlayer_13 : decode cX8_noPlayer 13 = .ok (.ifCond .ne 7, 3) := by decide +kernel
theorem dX8_noPlayer_16 : decode cX8_noPlayer 16 = .ok (.iconst 1, 1) := by decide +kernel
theorem dX8_noPlayer_17 : decode cX8_noPlayer 17 = .ok (.goto 4, 3) := by decide +kernel
theorem dX8_noPlayer_20 : decode cX8_noPlayer 20 = .ok (.iconst 0, 1) := by decide +kernel
theorem dX8_noPlayer_21 : decode cX8_noPlayer 21 = .ok (.ireturn, 1) := by decide +kernel
theorem dX8_noRule_0 : decode cX8_noRule 0 = .ok (.iload_n 1, 1) := by decide +kernel
theorem dX8_noRule_1 : decode cX8_noRule 1 = .ok (.i2l, 1) := by decide +kernel
theorem dX8_noRule_2 : decode cX8_noRule 2 = .ok (.lconst 0, 1) := by decide +kernel
theorem dX8_noRule_3 : decode cX8_noRule 3 = .ok (.aload_n 0, 1) := by decide +kernel
theorem dX8_noRule_4 : decode cX8_noRule 4 = .ok (.getfield 98, 3) := by decide +kernel
theorem dX8_noRule_7 : decode cX8_noRule 7 = .ok (.iconst 1, 1) := by decide +kernel
theorem dX8_noRule_8 : decode cX8_noRule 8 = .ok (.isub, 1) := by decide +kernel
theorem dX8_noRule_9 : decode cX8_noRule 9 = .ok (.i2l, 1) := by decide +kernel
theorem dX8_noRule_10 : decode cX8_noRule 10 = .ok (.invokestatic 94, 3) := by decide +kernel
theorem dX8_noRule_13 : decode cX8_noRule 13 = .ok (.ifCond .ne 7, 3) := by decide +kernel
theorem dX8_noRule_16 : decode cX8_noRule 16 = .ok (.iconst 1, 1) := by decide +kernel
theorem dX8_noRule_17 : decode cX8_noRule 17 = .ok (.goto 4, 3) := by decide +kernel
theorem dX8_noRule_20 : decode cX8_noRule 20 = .ok (.iconst 0, 1) := by decide +kernel
theorem dX8_noRule_21 : decode cX8_noRule 21 = .ok (.ireturn, 1) := by decide +kernel
theorem dX8_noSingle_0 : decode cX8_noSingle 0 = .ok (.iload_n 1, 1) := by decide +kernel
theorem dX8_noSingle_1 : decode cX8_noSingle 1 = .ok (.i2l, 1) := by decide +kernel
theorem dX8_noSingle_2 : decode cX8_noSingle 2 = .ok (.lconst 0, 1) := by decide +kernel
theorem dX8_noSingle_3 : decode cX8_noSingle 3 = .ok (.aload_n 0, 1) := by decide +kernel
theorem dX8_noSingle_4 : decode cX8_noSingle 4 = .ok (.getfield 101, 3) := by decide +kernel
theorem dX8_noSingle_7 : decode cX8_noSingle 7 = .ok (.iconst 1, 1) := by decide +kernel
theorem dX8_noSingle_8 : decode cX8_noSingle 8 = .ok (.isub, 1) := by decide +kernel
theorem dX8_noSingle_9 : decode cX8_noSingle 9 = .ok (.i2l, 1) := by decide +kernel
theorem dX8_noSingle_10 : decode cX8_noSingle 10 = .ok (.invokestatic 94, 3) := by decide +kernel
theorem dX8_noSingle_13 : decode cX8_noSingle 13 = .ok (.ifCond .ne 7, 3) := by decide +kernel
theorem dX8_noSingle_16 : decode cX8_noSingle 16 = .ok (.iconst 1, 1) := by decide +kernel
theorem dX8_noSingle_17 : decode cX8_noSingle 17 = .ok (.goto 4, 3) := by decide +kernel
theorem dX8_noSingle_20 : decode cX8_noSingle 20 = .ok (.iconst 0, 1) := by decide +kernel
theorem dX8_noSingle_21 : decode cX8_noSingle 21 = .ok (.ireturn, 1) := by decide +kernel
theorem dX8_noKind_0 : decode cX8_noKind 0 = .ok (.iload_n 0, 1) := by decide +kernel
theorem dX8_noKind_1 : decode cX8_noKind 1 = .ok (.i2l, 1) := by decide +kernel
theorem dX8_noKind_2 : decode cX8_noKind 2 = .ok (.lconst 0, 1) := by decide +kernel
theorem dX8_noKind_3 : decode cX8_noKind 3 = .ok (.ldc2_w 104, 3) := by decide +kernel
theorem dX8_noKind_6 : decode cX8_noKind 6 = .ok (.invokestatic 94, 3) := by decide +kernel
theorem dX8_noKind_9 : decode cX8_noKind 9 = .ok (.ifCond .ne 7, 3) := by decide +kernel
theorem dX8_noKind_12 : decode cX8_noKind 12 = .ok (.iconst 1, 1) := by decide +kernel
theorem dX8_noKind_13 : decode cX8_noKind 13 = .ok (.goto 4, 3) := by decide +kernel
theorem dX8_noKind_16 : decode cX8_noKind 16 = .ok (.iconst 0, 1) := by decide +kernel
theorem dX8_noKind_17 : decode cX8_noKind 17 = .ok (.ireturn, 1) := by decide +kernel
theorem dX8_player_0 : decode cX8_player 0 = .ok (.aload_n 0, 1) := by decide +kernel
theorem dX8_player_1 : decode cX8_player 1 = .ok (.iconst 0, 1) := by decide +kernel
theorem dX8_player_2 : decode cX8_player 2 = .ok (.putfield 87, 3) := by decide +kernel
theorem dX8_player_5 : decode cX8_player 5 = .ok (.aload_n 0, 1) := by decide +kernel
theorem dX8_player_6 : decode cX8_player 6 = .ok (.aload_n 0, 1) := by decide +kernel
theorem dX8_player_7 : decode cX8_player 7 = .ok (.getfield 91, 3) := by decide +kernel
theorem dX8_player_10 : decode cX8_player 10 = .ok (.bipush 10, 2) := by decide +kernel
theorem dX8_player_12 : decode cX8_player 12 = .ok (.if_icmp .ne 7, 3) := by decide +kernel
theorem dX8_player_15 : decode cX8_player 15 = .ok (.iconst 1, 1) := by decide +kernel
theorem dX8_player_16 : decode cX8_player 16 = .ok (.goto 4, 3) := by decide +kernel
theorem dX8_player_19 : decode cX8_player 19 = .ok (.iconst 0, 1) := by decide +kernel
theorem dX8_player_20 : decode cX8_player 20 = .ok (.iconst 1, 1) := by decide +kernel
theorem dX8_player_21 : decode cX8_player 21 = .ok (.invokevirtual 106, 3) := by decide +kernel
theorem dX8_player_24 : decode cX8_player 24 = .ok (.ifCond .eq 5, 3) := by decide +kernel
theorem dX8_player_27 : decode cX8_player 27 = .ok (.iconst 0, 1) := by decide +kernel
theorem dX8_player_28 : decode cX8_player 28 = .ok (.ireturn, 1) := by decide +kernel
theorem dX8_player_29 : decode cX8_player 29 = .ok (.aload_n 0, 1) := by decide +kernel
theorem dX8_player_30 : decode cX8_player 30 = .ok (.dup, 1) := by decide +kernel
theorem dX8_player_31 : decode cX8_player 31 = .ok (.getfield 91, 3) := by decide +kernel
theorem dX8_player_34 : decode cX8_player 34 = .ok (.iconst 1, 1) := by decide +kernel
theorem dX8_player_35 : decode cX8_player 35 = .ok (.iadd, 1) := by decide +kernel
theorem dX8_player_36 : decode cX8_player 36 = .ok (.putfield 91, 3) := by decide +kernel
theorem dX8_player_39 : decode cX8_player 39 = .ok (.aload_n 0, 1) := by decide +kernel
theorem dX8_player_40 : decode cX8_player 40 = .ok (.getfield 91, 3) := by decide +kernel
theorem dX8_player_43 : decode cX8_player 43 = .ok (.iconst 1, 1) := by decide +kernel
theorem dX8_player_44 : decode cX8_player 44 = .ok (.isub, 1) := by decide +kernel
theorem dX8_player_45 : decode cX8_player 45 = .ok (.ireturn, 1) := by decide +kernel
theorem dX8_rule_0 : decode cX8_rule 0 = .ok (.aload_n 0, 1) := by decide +kernel
theorem dX8_rule_1 : decode cX8_rule 1 = .ok (.iconst 0, 1) := by decide +kernel
theorem dX8_rule_2 : decode cX8_rule 2 = .ok (.putfield 87, 3) := by decide +kernel
theorem dX8_rule_5 : decode cX8_rule 5 = .ok (.aload_n 0, 1) := by decide +kernel
theorem dX8_rule_6 : decode cX8_rule 6 = .ok (.aload_n 0, 1) := by decide +kernel
theorem dX8_rule_7 : decode cX8_rule 7 = .ok (.getfield 98, 3) := by decide +kernel
theorem dX8_rule_10 : decode cX8_rule 10 = .ok (.bipush 10, 2) := by decide +kernel
theorem dX8_rule_12 : decode cX8_rule 12 = .ok (.if_icmp .ne 7, 3) := by decide +kernel
theorem dX8_rule_15 : decode cX8_rule 15 = .ok (.iconst 1, 1) := by decide +kernel
theorem dX8_rule_16 : decode cX8_rule 16 = .ok (.goto 4, 3) := by decide +kernel
theorem dX8_rule_19 : decode cX8_rule 19 = .ok (.iconst 0, 1) := by decide +kernel
theorem dX8_rule_20 : decode cX8_rule 20 = .ok (.iconst 1, 1) := by decide +kernel
theorem dX8_rule_21 : decode cX8_rule 21 = .ok (.invokevirtual 106, 3) := by decide +kernel
theorem dX8_rule_24 : decode cX8_rule 24 = .ok (.ifCond .eq 5, 3) := by decide +kernel
theorem dX8_rule_27 : decode cX8_rule 27 = .ok (.iconst 0, 1) := by decide +kernel
theorem dX8_rule_28 : decode cX8_rule 28 = .ok (.ireturn, 1) := by decide +kernel
theorem dX8_rule_29 : decode cX8_rule 29 = .ok (.aload_n 0, 1) := by decide +kernel
theorem dX8_rule_30 : decode cX8_rule 30 = .ok (.getfield 25, 3) := by decide +kernel
theorem dX8_rule_33 : decode cX8_rule 33 = .ok (.aload_n 0, 1) := by decide +kernel
theorem dX8_rule_34 : decode cX8_rule 34 = .ok (.getfield 98, 3) := by decide +kernel
theorem dX8_rule_37 : decode cX8_rule 37 = .ok (.iload_n 1, 1) := by decide +kernel
theorem dX8_rule_38 : decode cX8_rule 38 = .ok (.bastore, 1) := by decide +kernel
theorem dX8_rule_39 : decode cX8_rule 39 = .ok (.aload_n 0, 1) := by decide +kernel
theorem dX8_rule_40 : decode cX8_rule 40 = .ok (.dup, 1) := by decide +kernel
theorem dX8_rule_41 : decode cX8_rule 41 = .ok (.getfield 98, 3) := by decide +kernel
theorem dX8_rule_44 : decode cX8_rule 44 = .ok (.iconst 1, 1) := by decide +kernel
theorem dX8_rule_45 : decode cX8_rule 45 = .ok (.iadd, 1) := by decide +kernel
theorem dX8_rule_46 : decode cX8_rule 46 = .ok (.putfield 98, 3) := by decide +kernel
theorem dX8_rule_49 : decode cX8_rule 49 = .ok (.aload_n 0, 1) := by decide +kernel
theorem dX8_rule_50 : decode cX8_rule 50 = .ok (.getfield 98, 3) := by decide +kernel
theorem dX8_rule_53 : decode cX8_rule 53 = .ok (.iconst 1, 1) := by decide +kernel
theorem dX8_rule_54 : decode cX8_rule 54 = .ok (.isub, 1) := by decide +kernel
theorem dX8_rule_55 : decode cX8_rule 55 = .ok (.ireturn, 1) := by decide +kernel
theorem dX8_part_0 : decode cX8_part 0 = .ok (.aload_n 0, 1) := by decide +kernel
theorem dX8_part_1 : decode cX8_part 1 = .ok (.iconst 0, 1) := by decide +kernel
theorem dX8_part_2 : decode cX8_part 2 = .ok (.putfield 87, 3) := by decide +kernel
theorem dX8_part_5 : decode cX8_part 5 = .ok (.aload_n 0, 1) := by decide +kernel
theorem dX8_part_6 : decode cX8_part 6 = .ok (.aload_n 0, 1) := by decide +kernel
theorem dX8_part_7 : decode cX8_part 7 = .ok (.iload_n 1, 1) := by decide +kernel
theorem dX8_part_8 : decode cX8_part 8 = .ok (.invokevirtual 110, 3) := by decide +kernel
theorem dX8_part_11 : decode cX8_part 11 = .ok (.ifCond .ne 10, 3) := by decide +kernel
theorem dX8_part_14 : decode cX8_part 14 = .ok (.iload_n 2, 1) := by decide +kernel
theorem dX8_part_15 : decode cX8_part 15 = .ok (.invokestatic 114, 3) := by decide +kernel
theorem dX8_part_18 : decode cX8_part 18 = .ok (.ifCond .eq 7, 3) := by decide +kernel
theorem dX8_part_21 : decode cX8_part 21 = .ok (.iconst 1, 1) := by decide +kernel
theorem dX8_part_22 : decode cX8_part 22 = .ok (.goto 4, 3) := by decide +kernel
theorem dX8_part_25 : decode cX8_part 25 = .ok (.iconst 0, 1) := by decide +kernel
theorem dX8_part_26 : decode cX8_part 26 = .ok (.iconst 1, 1) := by decide +kernel
theorem dX8_part_27 : decode cX8_part 27 = .ok (.invokevirtual 106, 3) := by decide +kernel
theorem dX8_part_30 : decode cX8_part 30 = .ok (.ifCond .ne 29, 3) := by decide +kernel
theorem dX8_part_33 : decode cX8_part 33 = .ok (.aload_n 0, 1) := by decide +kernel
theorem dX8_part_34 : decode cX8_part 34 = .ok (.iload 4, 2) := by decide +kernel
theorem dX8_part_36 : decode cX8_part 36 = .ok (.i2l, 1) := by decide +kernel
theorem dX8_part_37 : decode cX8_part 37 = .ok (.lconst 0, 1) := by decide +kernel
theorem dX8_part_38 : decode cX8_part 38 = .ok (.ldc2_w 117, 3) := by decide +kernel
theorem dX8_part_41 : decode cX8_part 41 = .ok (.invokestatic 94, 3) := by decide +kernel
theorem dX8_part_44 : decode cX8_part 44 = .ok (.ifCond .ne 7, 3) := by decide +kernel
theorem dX8_part_47 : decode cX8_part 47 = .ok (.iconst 1, 1) := by decide +kernel
theorem dX8_part_48 : decode cX8_part 48 = .ok (.goto 4, 3) := by decide +kernel
theorem dX8_part_51 : decode cX8_part 51 = .ok (.iconst 0, 1) := by decide +kernel
theorem dX8_part_52 : decode cX8_part 52 = .ok (.iconst 2, 1) := by decide +kernel
theorem dX8_part_53 : decode cX8_part 53 = .ok (.invokevirtual 106, 3) := by decide +kernel
theorem dX8_part_56 : decode cX8_part 56 = .ok (.ifCond .eq 4, 3) := by decide +kernel
theorem dX8_part_59 : decode cX8_part 59 = .ok (.return_, 1) := by decide +kernel
theorem dX8_part_60 : decode cX8_part 60 = .ok (.iload_n 3, 1) := by decide +kernel
theorem dX8_part_61 : decode cX8_part 61 = .ok (.ifCond .eq 18, 3) := by decide +kernel
theorem dX8_part_64 : decode cX8_part 64 = .ok (.aload_n 0, 1) := by decide +kernel
theorem dX8_part_65 : decode cX8_part 65 = .ok (.getfield 22, 3) := by decide +kernel
theorem dX8_part_68 : decode cX8_part 68 = .ok (.iconst 4, 1) := by decide +kernel
theorem dX8_part_69 : decode cX8_part 69 = .ok (.iload_n 1, 1) := by decide +kernel
theorem dX8_part_70 : decode cX8_part 70 = .ok (.imul, 1) := by decide +kernel
theorem dX8_part_71 : decode cX8_part 71 = .ok (.iload_n 2, 1) := by decide +kernel
theorem dX8_part_72 : decode cX8_part 72 = .ok (.iadd, 1) := by decide +kernel
theorem dX8_part_73 : decode cX8_part 73 = .ok (.iload 4, 2) := by decide +kernel
theorem dX8_part_75 : decode cX8_part 75 = .ok (.iastore, 1) := by decide +kernel
theorem dX8_part_76 : decode cX8_part 76 = .ok (.goto 15, 3) := by decide +kernel
theorem dX8_part_79 : decode cX8_part 79 = .ok (.aload_n 0, 1) := by decide +kernel
theorem dX8_part_80 : decode cX8_part 80 = .ok (.getfield 19, 3) := by decide +kernel
theorem dX8_part_83 : decode cX8_part 83 = .ok (.iconst 4, 1) := by decide +kernel
theorem dX8_part_84 : decode cX8_part 84 = .ok (.iload_n 1, 1) := by decide +kernel
theorem dX8_part_85 : decode cX8_part 85 = .ok (.imul, 1) := by decide +kernel
theorem dX8_part_86 : decode cX8_part 86 = .ok (.iload_n 2, 1) := by decide +kernel
theorem dX8_part_87 : decode cX8_part 87 = .ok (.iadd, 1) := by decide +kernel
theorem dX8_part_88 : decode cX8_part 88 = .ok (.iload 4, 2) := by decide +kernel
theorem dX8_part_90 : decode cX8_part 90 = .ok (.iastore, 1) := by decide +kernel
theorem dX8_part_91 : decode cX8_part 91 = .ok (.return_, 1) := by decide +kernel
theorem dX8_does_0 : decode cX8_does 0 = .ok (.iconst 0, 1) := by decide +kernel
theorem dX8_does_1 : decode cX8_does 1 = .ok (.istore 4, 2) := by decide +kernel
theorem dX8_does_3 : decode cX8_does 3 = .ok (.iconst 0, 1) := by decide +kernel
theorem dX8_does_4 : decode cX8_does 4 = .ok (.istore 5, 2) := by decide +kernel
theorem dX8_does_6 : decode cX8_does 6 = .ok (.iconst 0, 1) := by decide +kernel
theorem dX8_does_7 : decode cX8_does 7 = .ok (.istore 6, 2) := by decide +kernel
theorem dX8_does_9 : decode cX8_does 9 = .ok (.iload 6, 2) := by decide +kernel
theorem dX8_does_11 : decode cX8_does 11 = .ok (.iconst 4, 1) := by decide +kernel
theorem dX8_does_12 : decode cX8_does 12 = .ok (.if_icmp .ge 100, 3) := by decide +kernel
theorem dX8_does_15 : decode cX8_does 15 = .ok (.aload_n 0, 1) := by decide +kernel
theorem dX8_does_16 : decode cX8_does 16 = .ok (.getfield 9, 3) := by decide +kernel
theorem dX8_does_19 : decode cX8_does 19 = .ok (.iconst 4, 1) := by decide +kernel
theorem dX8_does_20 : decode cX8_does 20 = .ok (.iload_n 1, 1) := by decide +kernel
theorem dX8_does_21 : decode cX8_does 21 = .ok (.imul, 1) := by decide +kernel
theorem dX8_does_22 : decode cX8_does 22 = .ok (.iload 6, 2) := by decide +kernel
theorem dX8_does_24 : decode cX8_does 24 = .ok (.iadd, 1) := by decide +kernel
theorem dX8_does_25 : decode cX8_does 25 = .ok (.iaload, 1) := by decide +kernel
theorem dX8_does_26 : decode cX8_does 26 = .ok (.i2l, 1) := by decide +kernel
theorem dX8_does_27 : decode cX8_does 27 = .ok (.lstore 7, 2) := by decide +kernel
theorem dX8_does_29 : decode cX8_does 29 = .ok (.aload_n 0, 1) := by decide +kernel
theorem dX8_does_30 : decode cX8_does 30 = .ok (.getfield 19, 3) := by decide +kernel
theorem dX8_does_33 : decode cX8_does 33 = .ok (.iconst 4, 1) := by decide +kernel
theorem dX8_does_34 : decode cX8_does 34 = .ok (.iload_n 2, 1) := by decide +kernel
theorem dX8_does_35 : decode cX8_does 35 = .ok (.imul, 1) := by decide +kernel
theorem dX8_does_36 : decode cX8_does 36 = .ok (.iload 6, 2) := by decide +kernel
theorem dX8_does_38 : decode cX8_does 38 = .ok (.iadd, 1) := by decide +kernel
theorem dX8_does_39 : decode cX8_does 39 = .ok (.iaload, 1) := by decide +kernel
theorem dX8_does_40 : decode cX8_does 40 = .ok (.i2l, 1) := by decide +kernel
theorem dX8_does_41 : decode cX8_does 41 = .ok (.iload_n 3, 1) := by decide +kernel
theorem dX8_does_42 : decode cX8_does 42 = .ok (.i2l, 1) := by decide +kernel
theorem dX8_does_43 : decode cX8_does 43 = .ok (.lmul, 1) := by decide +kernel
theorem dX8_does_44 : decode cX8_does 44 = .ok (.lstore 9, 2) := by decide +kernel
theorem dX8_does_46 : decode cX8_does 46 = .ok (.iload 4, 2) := by decide +kernel
theorem dX8_does_48 : decode cX8_does 48 = .ok (.ifCond .ne 11, 3) := by decide +kernel
theorem dX8_does_51 : decode cX8_does 51 = .ok (.lload 7, 2) := by decide +kernel
theorem dX8_does_53 : decode cX8_does 53 = .ok (.lload 9, 2) := by decide +kernel
theorem dX8_does_55 : decode cX8_does 55 = .ok (.lcmp, 1) := by decide +kernel
theorem dX8_does_56 : decode cX8_does 56 = .ok (.ifCond .ge 7, 3) := by decide +kernel
theorem dX8_does_59 : decode cX8_does 59 = .ok (.iconst 1, 1) := by decide +kernel
theorem dX8_does_60 : decode cX8_does 60 = .ok (.goto 4, 3) := by decide +kernel
theorem dX8_does_63 : decode cX8_does 63 = .ok (.iconst 0, 1) := by decide +kernel
theorem dX8_does_64 : decode cX8_does 64 = .ok (.istore 4, 2) := by decide +kernel
theorem dX8_does_66 : decode cX8_does 66 = .ok (.iload 5, 2) := by decide +kernel
theorem dX8_does_68 : decode cX8_does 68 = .ok (.ifCond .ne 31, 3) := by decide +kernel
theorem dX8_does_71 : decode cX8_does 71 = .ok (.lload 7, 2) := by decide +kernel
theorem dX8_does_73 : decode cX8_does 73 = .ok (.lload 9, 2) := by decide +kernel
theorem dX8_does_75 : decode cX8_does 75 = .ok (.lsub, 1) := by decide +kernel
theorem dX8_does_76 : decode cX8_does 76 = .ok (.aload_n 0, 1) := by decide +kernel
theorem dX8_does_77 : decode cX8_does 77 = .ok (.getfield 22, 3) := by decide +kernel
theorem dX8_does_80 : decode cX8_does 80 = .ok (.iconst 4, 1) := by decide +kernel
theorem dX8_does_81 : decode cX8_does 81 = .ok (.iload_n 2, 1) := by decide +kernel
theorem dX8_does_82 : decode cX8_does 82 = .ok (.imul, 1) := by decide +kernel
theorem dX8_does_83 : decode cX8_does 83 = .ok (.iload 6, 2) := by decide +kernel
theorem dX8_does_85 : decode cX8_does 85 = .ok (.iadd, 1) := by decide +kernel
theorem dX8_does_86 : decode cX8_does 86 = .ok (.iaload, 1) := by decide +kernel
theorem dX8_does_87 : decode cX8_does 87 = .ok (.i2l, 1) := by decide +kernel
theorem dX8_does_88 : decode cX8_does 88 = .ok (.iload_n 3, 1) := by decide +kernel
theorem dX8_does_89 : decode cX8_does 89 = .ok (.i2l, 1) := by decide +kernel
theorem dX8_does_90 : decode cX8_does 90 = .ok (.lmul, 1) := by decide +kernel
theorem dX8_does_91 : decode cX8_does 91 = .ok (.ladd, 1) := by decide +kernel
theorem dX8_does_92 : decode cX8_does 92 = .ok (.ldc2_w 119, 3) := by decide +kernel
theorem dX8_does_95 : decode cX8_does 95 = .ok (.lcmp, 1) := by decide +kernel
theorem dX8_does_96 : decode cX8_does 96 = .ok (.ifCond .le 7, 3) := by decide +kernel
theorem dX8_does_99 : decode cX8_does 99 = .ok (.iconst 1, 1) := by decide +kernel
theorem dX8_does_100 : decode cX8_does 100 = .ok (.goto 4, 3) := by decide +kernel
theorem dX8_does_103 : decode cX8_does 103 = .ok (.iconst 0, 1) := by decide +kernel
theorem dX8_does_104 : decode cX8_does 104 = .ok (.istore 5, 2) := by decide +kernel
theorem dX8_does_106 : decode cX8_does 106 = .ok (.iinc 6 1, 3) := by decide +kernel
theorem dX8_does_109 : decode cX8_does 109 = .ok (.goto (-100), 3) := by decide +kernel
theorem dX8_does_112 : decode cX8_does 112 = .ok (.iload 4, 2) := by decide +kernel
theorem dX8_does_114 : decode cX8_does 114 = .ok (.ifCond .eq 5, 3) := by decide +kernel
theorem dX8_does_117 : decode cX8_does 117 = .ok (.iconst 1, 1) := by decide +kernel
theorem dX8_does_118 : decode cX8_does 118 = .ok (.ireturn, 1) := by decide +kernel
theorem dX8_does_119 : decode cX8_does 119 = .ok (.iload 5, 2) := by decide +kernel
theorem dX8_does_121 : decode cX8_does 121 = .ok (.ifCond .eq 5, 3) := by decide +kernel
theorem dX8_does_124 : decode cX8_does 124 = .ok (.iconst 2, 1) := by decide +kernel
theorem dX8_does_125 : decode cX8_does 125 = .ok (.ireturn, 1) := by decide +kernel
theorem dX8_does_126 : decode cX8_does 126 = .ok (.iconst 0, 1) := by decide +kernel
theorem dX8_does_127 : decode cX8_does 127 = .ok (.istore 6, 2) := by decide +kernel
theorem dX8_does_129 : decode cX8_does 129 = .ok (.iload 6, 2) := by decide +kernel
theorem dX8_does_131 : decode cX8_does 131 = .ok (.iconst 4, 1) := by decide +kernel
theorem dX8_does_132 : decode cX8_does 132 = .ok (.if_icmp .ge 98, 3) := by decide +kernel
theorem dX8_does_135 : decode cX8_does 135 = .ok (.aload_n 0, 1) := by decide +kernel
theorem dX8_does_136 : decode cX8_does 136 = .ok (.getfield 9, 3) := by decide +kernel
theorem dX8_does_139 : decode cX8_does 139 = .ok (.iconst 4, 1) := by decide +kernel
theorem dX8_does_140 : decode cX8_does 140 = .ok (.iload_n 1, 1) := by decide +kernel
theorem dX8_does_141 : decode cX8_does 141 = .ok (.imul, 1) := by decide +kernel
theorem dX8_does_142 : decode cX8_does 142 = .ok (.iload 6, 2) := by decide +kernel
theorem dX8_does_144 : decode cX8_does 144 = .ok (.iadd, 1) := by decide +kernel
theorem dX8_does_145 : decode cX8_does 145 = .ok (.dup2, 1) := by decide +kernel
theorem dX8_does_146 : decode cX8_does 146 = .ok (.iaload, 1) := by decide +kernel
theorem dX8_does_147 : decode cX8_does 147 = .ok (.aload_n 0, 1) := by decide +kernel
theorem dX8_does_148 : decode cX8_does 148 = .ok (.getfield 22, 3) := by decide +kernel
theorem dX8_does_151 : decode cX8_does 151 = .ok (.iconst 4, 1) := by decide +kernel
theorem dX8_does_152 : decode cX8_does 152 = .ok (.iload_n 2, 1) := by decide +kernel
theorem dX8_does_153 : decode cX8_does 153 = .ok (.imul, 1) := by decide +kernel
theorem dX8_does_154 : decode cX8_does 154 = .ok (.iload 6, 2) := by decide +kernel
theorem dX8_does_156 : decode cX8_does 156 = .ok (.iadd, 1) := by decide +kernel
theorem dX8_does_157 : decode cX8_does 157 = .ok (.iaload, 1) := by decide +kernel
theorem dX8_does_158 : decode cX8_does 158 = .ok (.aload_n 0, 1) := by decide +kernel
theorem dX8_does_159 : decode cX8_does 159 = .ok (.getfield 19, 3) := by decide +kernel
theorem dX8_does_162 : decode cX8_does 162 = .ok (.iconst 4, 1) := by decide +kernel
theorem dX8_does_163 : decode cX8_does 163 = .ok (.iload_n 2, 1) := by decide +kernel
theorem dX8_does_164 : decode cX8_does 164 = .ok (.imul, 1) := by decide +kernel
theorem dX8_does_165 : decode cX8_does 165 = .ok (.iload 6, 2) := by decide +kernel
theorem dX8_does_167 : decode cX8_does 167 = .ok (.iadd, 1) := by decide +kernel
theorem dX8_does_168 : decode cX8_does 168 = .ok (.iaload, 1) := by decide +kernel
theorem dX8_does_169 : decode cX8_does 169 = .ok (.isub, 1) := by decide +kernel
theorem dX8_does_170 : decode cX8_does 170 = .ok (.iload_n 3, 1) := by decide +kernel
theorem dX8_does_171 : decode cX8_does 171 = .ok (.imul, 1) := by decide +kernel
theorem dX8_does_172 : decode cX8_does 172 = .ok (.iadd, 1) := by decide +kernel
theorem dX8_does_173 : decode cX8_does 173 = .ok (.iastore, 1) := by decide +kernel
theorem dX8_does_174 : decode cX8_does 174 = .ok (.aload_n 0, 1) := by decide +kernel
theorem dX8_does_175 : decode cX8_does 175 = .ok (.getfield 35, 3) := by decide +kernel
theorem dX8_does_178 : decode cX8_does 178 = .ok (.iload 6, 2) := by decide +kernel
theorem dX8_does_180 : decode cX8_does 180 = .ok (.dup2, 1) := by decide +kernel
theorem dX8_does_181 : decode cX8_does 181 = .ok (.laload, 1) := by decide +kernel
theorem dX8_does_182 : decode cX8_does 182 = .ok (.aload_n 0, 1) := by decide +kernel
theorem dX8_does_183 : decode cX8_does 183 = .ok (.getfield 22, 3) := by decide +kernel
theorem dX8_does_186 : decode cX8_does 186 = .ok (.iconst 4, 1) := by decide +kernel
theorem dX8_does_187 : decode cX8_does 187 = .ok (.iload_n 2, 1) := by decide +kernel
theorem dX8_does_188 : decode cX8_does 188 = .ok (.imul, 1) := by decide +kernel
theorem dX8_does_189 : decode cX8_does 189 = .ok (.iload 6, 2) := by decide +kernel
theorem dX8_does_191 : decode cX8_does 191 = .ok (.iadd, 1) := by decide +kernel
theorem dX8_does_192 : decode cX8_does 192 = .ok (.iaload, 1) := by decide +kernel
theorem dX8_does_193 : decode cX8_does 193 = .ok (.i2l, 1) := by decide +kernel
theorem dX8_does_194 : decode cX8_does 194 = .ok (.iload_n 3, 1) := by decide +kernel
theorem dX8_does_195 : decode cX8_does 195 = .ok (.i2l, 1) := by decide +kernel
theorem dX8_does_196 : decode cX8_does 196 = .ok (.lmul, 1) := by decide +kernel
theorem dX8_does_197 : decode cX8_does 197 = .ok (.ladd, 1) := by decide +kernel
theorem dX8_does_198 : decode cX8_does 198 = .ok (.lastore, 1) := by decide +kernel
theorem dX8_does_199 : decode cX8_does 199 = .ok (.aload_n 0, 1) := by decide +kernel
theorem dX8_does_200 : decode cX8_does 200 = .ok (.getfield 39, 3) := by decide +kernel
theorem dX8_does_203 : decode cX8_does 203 = .ok (.iload 6, 2) := by decide +kernel
theorem dX8_does_205 : decode cX8_does 205 = .ok (.dup2, 1) := by decide +kernel
theorem dX8_does_206 : decode cX8_does 206 = .ok (.laload, 1) := by decide +kernel
theorem dX8_does_207 : decode cX8_does 207 = .ok (.aload_n 0, 1) := by decide +kernel
theorem dX8_does_208 : decode cX8_does 208 = .ok (.getfield 19, 3) := by decide +kernel
theorem dX8_does_211 : decode cX8_does 211 = .ok (.iconst 4, 1) := by decide +kernel
theorem dX8_does_212 : decode cX8_does 212 = .ok (.iload_n 2, 1) := by decide +kernel
theorem dX8_does_213 : decode cX8_does 213 = .ok (.imul, 1) := by decide +kernel
theorem dX8_does_214 : decode cX8_does 214 = .ok (.iload 6, 2) := by decide +kernel
theorem dX8_does_216 : decode cX8_does 216 = .ok (.iadd, 1) := by decide +kernel
theorem dX8_does_217 : decode cX8_does 217 = .ok (.iaload, 1) := by decide +kernel
theorem dX8_does_218 : decode cX8_does 218 = .ok (.i2l, 1) := by decide +kernel
theorem dX8_does_219 : decode cX8_does 219 = .ok (.iload_n 3, 1) := by decide +kernel
theorem dX8_does_220 : decode cX8_does 220 = .ok (.i2l, 1) := by decide +kernel
theorem dX8_does_221 : decode cX8_does 221 = .ok (.lmul, 1) := by decide +kernel
theorem dX8_does_222 : decode cX8_does 222 = .ok (.ladd, 1) := by decide +kernel
theorem dX8_does_223 : decode cX8_does 223 = .ok (.lastore, 1) := by decide +kernel
theorem dX8_does_224 : decode cX8_does 224 = .ok (.iinc 6 1, 3) := by decide +kernel
theorem dX8_does_227 : decode cX8_does 227 = .ok (.goto (-98), 3) := by decide +kernel
theorem dX8_does_230 : decode cX8_does 230 = .ok (.aload_n 0, 1) := by decide +kernel
theorem dX8_does_231 : decode cX8_does 231 = .ok (.dup, 1) := by decide +kernel
theorem dX8_does_232 : decode cX8_does 232 = .ok (.getfield 121, 3) := by decide +kernel
theorem dX8_does_235 : decode cX8_does 235 = .ok (.iconst 1, 1) := by decide +kernel
theorem dX8_does_236 : decode cX8_does 236 = .ok (.iadd, 1) := by decide +kernel
theorem dX8_does_237 : decode cX8_does 237 = .ok (.putfield 121, 3) := by decide +kernel
theorem dX8_does_240 : decode cX8_does 240 = .ok (.iconst 0, 1) := by decide +kernel
theorem dX8_does_241 : decode cX8_does 241 = .ok (.ireturn, 1) := by decide +kernel
theorem dX8_deed_0 : decode cX8_deed 0 = .ok (.aload_n 0, 1) := by decide +kernel
theorem dX8_deed_1 : decode cX8_deed 1 = .ok (.iconst 0, 1) := by decide +kernel
theorem dX8_deed_2 : decode cX8_deed 2 = .ok (.putfield 87, 3) := by decide +kernel
theorem dX8_deed_5 : decode cX8_deed 5 = .ok (.aload_n 0, 1) := by decide +kernel
theorem dX8_deed_6 : decode cX8_deed 6 = .ok (.aload_n 0, 1) := by decide +kernel
theorem dX8_deed_7 : decode cX8_deed 7 = .ok (.iload_n 1, 1) := by decide +kernel
theorem dX8_deed_8 : decode cX8_deed 8 = .ok (.invokevirtual 124, 3) := by decide +kernel
theorem dX8_deed_11 : decode cX8_deed 11 = .ok (.ifCond .ne 11, 3) := by decide +kernel
theorem dX8_deed_14 : decode cX8_deed 14 = .ok (.aload_n 0, 1) := by decide +kernel
theorem dX8_deed_15 : decode cX8_deed 15 = .ok (.iload_n 3, 1) := by decide +kernel
theorem dX8_deed_16 : decode cX8_deed 16 = .ok (.invokevirtual 110, 3) := by decide +kernel
theorem dX8_deed_19 : decode cX8_deed 19 = .ok (.ifCond .eq 7, 3) := by decide +kernel
theorem dX8_deed_22 : decode cX8_deed 22 = .ok (.iconst 1, 1) := by decide +kernel
theorem dX8_deed_23 : decode cX8_deed 23 = .ok (.goto 4, 3) := by decide +kernel
theorem dX8_deed_26 : decode cX8_deed 26 = .ok (.iconst 0, 1) := by decide +kernel
theorem dX8_deed_27 : decode cX8_deed 27 = .ok (.iconst 1, 1) := by decide +kernel
theorem dX8_deed_28 : decode cX8_deed 28 = .ok (.invokevirtual 106, 3) := by decide +kernel
theorem dX8_deed_31 : decode cX8_deed 31 = .ok (.ifCond .ne 29, 3) := by decide +kernel
theorem dX8_deed_34 : decode cX8_deed 34 = .ok (.aload_n 0, 1) := by decide +kernel
theorem dX8_deed_35 : decode cX8_deed 35 = .ok (.iload 4, 2) := by decide +kernel
theorem dX8_deed_37 : decode cX8_deed 37 = .ok (.i2l, 1) := by decide +kernel
theorem dX8_deed_38 : decode cX8_deed 38 = .ok (.lconst 1, 1) := by decide +kernel
theorem dX8_deed_39 : decode cX8_deed 39 = .ok (.ldc2_w 127, 3) := by decide +kernel
theorem dX8_deed_42 : decode cX8_deed 42 = .ok (.invokestatic 94, 3) := by decide +kernel
theorem dX8_deed_45 : decode cX8_deed 45 = .ok (.ifCond .ne 7, 3) := by decide +kernel
theorem dX8_deed_48 : decode cX8_deed 48 = .ok (.iconst 1, 1) := by decide +kernel
theorem dX8_deed_49 : decode cX8_deed 49 = .ok (.goto 4, 3) := by decide +kernel
theorem dX8_deed_52 : decode cX8_deed 52 = .ok (.iconst 0, 1) := by decide +kernel
theorem dX8_deed_53 : decode cX8_deed 53 = .ok (.iconst 2, 1) := by decide +kernel
theorem dX8_deed_54 : decode cX8_deed 54 = .ok (.invokevirtual 106, 3) := by decide +kernel
theorem dX8_deed_57 : decode cX8_deed 57 = .ok (.ifCond .eq 5, 3) := by decide +kernel
theorem dX8_deed_60 : decode cX8_deed 60 = .ok (.iconst 0, 1) := by decide +kernel
theorem dX8_deed_61 : decode cX8_deed 61 = .ok (.ireturn, 1) := by decide +kernel
theorem dX8_deed_62 : decode cX8_deed 62 = .ok (.aload_n 0, 1) := by decide +kernel
theorem dX8_deed_63 : decode cX8_deed 63 = .ok (.getfield 13, 3) := by decide +kernel
theorem dX8_deed_66 : decode cX8_deed 66 = .ok (.iload_n 1, 1) := by decide +kernel
theorem dX8_deed_67 : decode cX8_deed 67 = .ok (.iaload, 1) := by decide +kernel
theorem dX8_deed_68 : decode cX8_deed 68 = .ok (.ifCond .le 20, 3) := by decide +kernel
theorem dX8_deed_71 : decode cX8_deed 71 = .ok (.iload_n 2, 1) := by decide +kernel
theorem dX8_deed_72 : decode cX8_deed 72 = .ok (.aload_n 0, 1) := by decide +kernel
theorem dX8_deed_73 : decode cX8_deed 73 = .ok (.getfield 13, 3) := by decide +kernel
theorem dX8_deed_76 : decode cX8_deed 76 = .ok (.iload_n 1, 1) := by decide +kernel
theorem dX8_deed_77 : decode cX8_deed 77 = .ok (.iaload, 1) := by decide +kernel
theorem dX8_deed_78 : decode cX8_deed 78 = .ok (.if_icmp .ne 10, 3) := by decide +kernel
theorem dX8_deed_81 : decode cX8_deed 81 = .ok (.aload_n 0, 1) := by decide +kernel
theorem dX8_deed_82 : decode cX8_deed 82 = .ok (.getfield 16, 3) := by decide +kernel
theorem dX8_deed_85 : decode cX8_deed 85 = .ok (.iload_n 1, 1) := by decide +kernel
theorem dX8_deed_86 : decode cX8_deed 86 = .ok (.iaload, 1) := by decide +kernel
theorem dX8_deed_87 : decode cX8_deed 87 = .ok (.ireturn, 1) := by decide +kernel
theorem dX8_deed_88 : decode cX8_deed 88 = .ok (.iload_n 2, 1) := by decide +kernel
theorem dX8_deed_89 : decode cX8_deed 89 = .ok (.aload_n 0, 1) := by decide +kernel
theorem dX8_deed_90 : decode cX8_deed 90 = .ok (.getfield 13, 3) := by decide +kernel
theorem dX8_deed_93 : decode cX8_deed 93 = .ok (.iload_n 1, 1) := by decide +kernel
theorem dX8_deed_94 : decode cX8_deed 94 = .ok (.iaload, 1) := by decide +kernel
theorem dX8_deed_95 : decode cX8_deed 95 = .ok (.iconst 1, 1) := by decide +kernel
theorem dX8_deed_96 : decode cX8_deed 96 = .ok (.iadd, 1) := by decide +kernel
theorem dX8_deed_97 : decode cX8_deed 97 = .ok (.if_icmp .eq 5, 3) := by decide +kernel
theorem dX8_deed_100 : decode cX8_deed 100 = .ok (.iconst 3, 1) := by decide +kernel
theorem dX8_deed_101 : decode cX8_deed 101 = .ok (.ireturn, 1) := by decide +kernel
theorem dX8_deed_102 : decode cX8_deed 102 = .ok (.aload_n 0, 1) := by decide +kernel
theorem dX8_deed_103 : decode cX8_deed 103 = .ok (.getfield 13, 3) := by decide +kernel
theorem dX8_deed_106 : decode cX8_deed 106 = .ok (.iload_n 1, 1) := by decide +kernel
theorem dX8_deed_107 : decode cX8_deed 107 = .ok (.iload_n 2, 1) := by decide +kernel
theorem dX8_deed_108 : decode cX8_deed 108 = .ok (.iastore, 1) := by decide +kernel
theorem dX8_deed_109 : decode cX8_deed 109 = .ok (.aload_n 0, 1) := by decide +kernel
theorem dX8_deed_110 : decode cX8_deed 110 = .ok (.getfield 16, 3) := by decide +kernel
theorem dX8_deed_113 : decode cX8_deed 113 = .ok (.iload_n 1, 1) := by decide +kernel
theorem dX8_deed_114 : decode cX8_deed 114 = .ok (.aload_n 0, 1) := by decide +kernel
theorem dX8_deed_115 : decode cX8_deed 115 = .ok (.iload_n 1, 1) := by decide +kernel
theorem dX8_deed_116 : decode cX8_deed 116 = .ok (.iload_n 3, 1) := by decide +kernel
theorem dX8_deed_117 : decode cX8_deed 117 = .ok (.iload 4, 2) := by decide +kernel
theorem dX8_deed_119 : decode cX8_deed 119 = .ok (.invokevirtual 129, 3) := by decide +kernel
theorem dX8_deed_122 : decode cX8_deed 122 = .ok (.iastore, 1) := by decide +kernel
theorem dX8_deed_123 : decode cX8_deed 123 = .ok (.aload_n 0, 1) := by decide +kernel
theorem dX8_deed_124 : decode cX8_deed 124 = .ok (.getfield 16, 3) := by decide +kernel
theorem dX8_deed_127 : decode cX8_deed 127 = .ok (.iload_n 1, 1) := by decide +kernel
theorem dX8_deed_128 : decode cX8_deed 128 = .ok (.iaload, 1) := by decide +kernel
theorem dX8_deed_129 : decode cX8_deed 129 = .ok (.ireturn, 1) := by decide +kernel
theorem dX8_has_0 : decode cX8_has 0 = .ok (.aload_n 0, 1) := by decide +kernel
theorem dX8_has_1 : decode cX8_has 1 = .ok (.iconst 0, 1) := by decide +kernel
theorem dX8_has_2 : decode cX8_has 2 = .ok (.putfield 87, 3) := by decide +kernel
theorem dX8_has_5 : decode cX8_has 5 = .ok (.aload_n 0, 1) := by decide +kernel
theorem dX8_has_6 : decode cX8_has 6 = .ok (.aload_n 0, 1) := by decide +kernel
theorem dX8_has_7 : decode cX8_has 7 = .ok (.iload_n 1, 1) := by decide +kernel
theorem dX8_has_8 : decode cX8_has 8 = .ok (.invokevirtual 124, 3) := by decide +kernel
theorem dX8_has_11 : decode cX8_has 11 = .ok (.ifCond .ne 10, 3) := by decide +kernel
theorem dX8_has_14 : decode cX8_has 14 = .ok (.iload_n 2, 1) := by decide +kernel
theorem dX8_has_15 : decode cX8_has 15 = .ok (.invokestatic 114, 3) := by decide +kernel
theorem dX8_has_18 : decode cX8_has 18 = .ok (.ifCond .eq 7, 3) := by decide +kernel
theorem dX8_has_21 : decode cX8_has 21 = .ok (.iconst 1, 1) := by decide +kernel
theorem dX8_has_22 : decode cX8_has 22 = .ok (.goto 4, 3) := by decide +kernel
theorem dX8_has_25 : decode cX8_has 25 = .ok (.iconst 0, 1) := by decide +kernel
theorem dX8_has_26 : decode cX8_has 26 = .ok (.iconst 1, 1) := by decide +kernel
theorem dX8_has_27 : decode cX8_has 27 = .ok (.invokevirtual 106, 3) := by decide +kernel
theorem dX8_has_30 : decode cX8_has 30 = .ok (.ifCond .eq 7, 3) := by decide +kernel
theorem dX8_has_33 : decode cX8_has 33 = .ok (.iconst 0, 1) := by decide +kernel
theorem dX8_has_34 : decode cX8_has 34 = .ok (.goto 13, 3) := by decide +kernel
theorem dX8_has_37 : decode cX8_has 37 = .ok (.aload_n 0, 1) := by decide +kernel
theorem dX8_has_38 : decode cX8_has 38 = .ok (.getfield 9, 3) := by decide +kernel
theorem dX8_has_41 : decode cX8_has 41 = .ok (.iconst 4, 1) := by decide +kernel
theorem dX8_has_42 : decode cX8_has 42 = .ok (.iload_n 1, 1) := by decide +kernel
theorem dX8_has_43 : decode cX8_has 43 = .ok (.imul, 1) := by decide +kernel
theorem dX8_has_44 : decode cX8_has 44 = .ok (.iload_n 2, 1) := by decide +kernel
theorem dX8_has_45 : decode cX8_has 45 = .ok (.iadd, 1) := by decide +kernel
theorem dX8_has_46 : decode cX8_has 46 = .ok (.iaload, 1) := by decide +kernel
theorem dX8_has_47 : decode cX8_has 47 = .ok (.ireturn, 1) := by decide +kernel
theorem dX8_sum_0 : decode cX8_sum 0 = .ok (.aload_n 0, 1) := by decide +kernel
theorem dX8_sum_1 : decode cX8_sum 1 = .ok (.iconst 0, 1) := by decide +kernel
theorem dX8_sum_2 : decode cX8_sum 2 = .ok (.putfield 87, 3) := by decide +kernel
theorem dX8_sum_5 : decode cX8_sum 5 = .ok (.aload_n 0, 1) := by decide +kernel
theorem dX8_sum_6 : decode cX8_sum 6 = .ok (.iload_n 1, 1) := by decide +kernel
theorem dX8_sum_7 : decode cX8_sum 7 = .ok (.invokestatic 114, 3) := by decide +kernel
theorem dX8_sum_10 : decode cX8_sum 10 = .ok (.iconst 1, 1) := by decide +kernel
theorem dX8_sum_11 : decode cX8_sum 11 = .ok (.invokevirtual 106, 3) := by decide +kernel
theorem dX8_sum_14 : decode cX8_sum 14 = .ok (.ifCond .eq 7, 3) := by decide +kernel
theorem dX8_sum_17 : decode cX8_sum 17 = .ok (.lconst 0, 1) := by decide +kernel
theorem dX8_sum_18 : decode cX8_sum 18 = .ok (.goto 22, 3) := by decide +kernel
theorem dX8_sum_21 : decode cX8_sum 21 = .ok (.iload_n 2, 1) := by decide +kernel
theorem dX8_sum_22 : decode cX8_sum 22 = .ok (.ifCond .eq 12, 3) := by decide +kernel
theorem dX8_sum_25 : decode cX8_sum 25 = .ok (.aload_n 0, 1) := by decide +kernel
theorem dX8_sum_26 : decode cX8_sum 26 = .ok (.getfield 39, 3) := by decide +kernel
theorem dX8_sum_29 : decode cX8_sum 29 = .ok (.iload_n 1, 1) := by decide +kernel
theorem dX8_sum_30 : decode cX8_sum 30 = .ok (.laload, 1) := by decide +kernel
theorem dX8_sum_31 : decode cX8_sum 31 = .ok (.goto 9, 3) := by decide +kernel
theorem dX8_sum_34 : decode cX8_sum 34 = .ok (.aload_n 0, 1) := by decide +kernel
theorem dX8_sum_35 : decode cX8_sum 35 = .ok (.getfield 35, 3) := by decide +kernel
theorem dX8_sum_38 : decode cX8_sum 38 = .ok (.iload_n 1, 1) := by decide +kernel
theorem dX8_sum_39 : decode cX8_sum 39 = .ok (.laload, 1) := by decide +kernel
theorem dX8_sum_40 : decode cX8_sum 40 = .ok (.lreturn, 1) := by decide +kernel
theorem dX8_isWithin_0 : decode cX8_isWithin 0 = .ok (.aload_n 0, 1) := by decide +kernel
theorem dX8_isWithin_1 : decode cX8_isWithin 1 = .ok (.getfield 51, 3) := by decide +kernel
theorem dX8_isWithin_4 : decode cX8_isWithin 4 = .ok (.iload_n 1, 1) := by decide +kernel
theorem dX8_isWithin_5 : decode cX8_isWithin 5 = .ok (.iaload, 1) := by decide +kernel
theorem dX8_isWithin_6 : decode cX8_isWithin 6 = .ok (.istore_n 3, 1) := by decide +kernel
theorem dX8_isWithin_7 : decode cX8_isWithin 7 = .ok (.iload_n 3, 1) := by decide +kernel
theorem dX8_isWithin_8 : decode cX8_isWithin 8 = .ok (.ifCond .lt 18, 3) := by decide +kernel
theorem dX8_isWithin_11 : decode cX8_isWithin 11 = .ok (.iload_n 3, 1) := by decide +kernel
theorem dX8_isWithin_12 : decode cX8_isWithin 12 = .ok (.iload_n 2, 1) := by decide +kernel
theorem dX8_isWithin_13 : decode cX8_isWithin 13 = .ok (.if_icmp .eq 13, 3) := by decide +kernel
theorem dX8_isWithin_16 : decode cX8_isWithin 16 = .ok (.aload_n 0, 1) := by decide +kernel
theorem dX8_isWithin_17 : decode cX8_isWithin 17 = .ok (.getfield 51, 3) := by decide +kernel
theorem dX8_isWithin_20 : decode cX8_isWithin 20 = .ok (.iload_n 3, 1) := by decide +kernel
theorem dX8_isWithin_21 : decode cX8_isWithin 21 = .ok (.iaload, 1) := by decide +kernel
theorem dX8_isWithin_22 : decode cX8_isWithin 22 = .ok (.istore_n 3, 1) := by decide +kernel
theorem dX8_isWithin_23 : decode cX8_isWithin 23 = .ok (.goto (-16), 3) := by decide +kernel
theorem dX8_isWithin_26 : decode cX8_isWithin 26 = .ok (.iload_n 3, 1) := by decide +kernel
theorem dX8_isWithin_27 : decode cX8_isWithin 27 = .ok (.ifCond .lt 7, 3) := by decide +kernel
theorem dX8_isWithin_30 : decode cX8_isWithin 30 = .ok (.iconst 1, 1) := by decide +kernel
theorem dX8_isWithin_31 : decode cX8_isWithin 31 = .ok (.goto 4, 3) := by decide +kernel
theorem dX8_isWithin_34 : decode cX8_isWithin 34 = .ok (.iconst 0, 1) := by decide +kernel
theorem dX8_isWithin_35 : decode cX8_isWithin 35 = .ok (.ireturn, 1) := by decide +kernel
theorem dX8_right_0 : decode cX8_right 0 = .ok (.iconst 0, 1) := by decide +kernel
theorem dX8_right_1 : decode cX8_right 1 = .ok (.istore_n 2, 1) := by decide +kernel
theorem dX8_right_2 : decode cX8_right 2 = .ok (.iconst 0, 1) := by decide +kernel
theorem dX8_right_3 : decode cX8_right 3 = .ok (.istore_n 3, 1) := by decide +kernel
theorem dX8_right_4 : decode cX8_right 4 = .ok (.iload_n 3, 1) := by decide +kernel
theorem dX8_right_5 : decode cX8_right 5 = .ok (.aload_n 0, 1) := by decide +kernel
theorem dX8_right_6 : decode cX8_right 6 = .ok (.getfield 101, 3) := by decide +kernel
theorem dX8_right_9 : decode cX8_right 9 = .ok (.if_icmp .ge 27, 3) := by decide +kernel
theorem dX8_right_12 : decode cX8_right 12 = .ok (.iload_n 2, 1) := by decide +kernel
theorem dX8_right_13 : decode cX8_right 13 = .ok (.aload_n 0, 1) := by decide +kernel
theorem dX8_right_14 : decode cX8_right 14 = .ok (.getfield 51, 3) := by decide +kernel
theorem dX8_right_17 : decode cX8_right 17 = .ok (.iload_n 3, 1) := by decide +kernel
theorem dX8_right_18 : decode cX8_right 18 = .ok (.iaload, 1) := by decide +kernel
theorem dX8_right_19 : decode cX8_right 19 = .ok (.iload_n 1, 1) := by decide +kernel
theorem dX8_right_20 : decode cX8_right 20 = .ok (.if_icmp .ne 7, 3) := by decide +kernel
theorem dX8_right_23 : decode cX8_right 23 = .ok (.iconst 1, 1) := by decide +kernel
theorem dX8_right_24 : decode cX8_right 24 = .ok (.goto 4, 3) := by decide +kernel
theorem dX8_right_27 : decode cX8_right 27 = .ok (.iconst 0, 1) := by decide +kernel
theorem dX8_right_28 : decode cX8_right 28 = .ok (.iadd, 1) := by decide +kernel
theorem dX8_right_29 : decode cX8_right 29 = .ok (.istore_n 2, 1) := by decide +kernel
theorem dX8_right_30 : decode cX8_right 30 = .ok (.iinc 3 1, 3) := by decide +kernel
theorem dX8_right_33 : decode cX8_right 33 = .ok (.goto (-29), 3) := by decide +kernel
theorem dX8_right_36 : decode cX8_right 36 = .ok (.iload_n 2, 1) := by decide +kernel
theorem dX8_right_37 : decode cX8_right 37 = .ok (.ireturn, 1) := by decide +kernel
theorem dX8_isBroken_0 : decode cX8_isBroken 0 = .ok (.aload_n 0, 1) := by decide +kernel
theorem dX8_isBroken_1 : decode cX8_isBroken 1 = .ok (.getfield 54, 3) := by decide +kernel
theorem dX8_isBroken_4 : decode cX8_isBroken 4 = .ok (.iload_n 1, 1) := by decide +kernel
theorem dX8_isBroken_5 : decode cX8_isBroken 5 = .ok (.iaload, 1) := by decide +kernel
theorem dX8_isBroken_6 : decode cX8_isBroken 6 = .ok (.ifCond .ge 7, 3) := by decide +kernel
theorem dX8_isBroken_9 : decode cX8_isBroken 9 = .ok (.iconst 1, 1) := by decide +kernel
theorem dX8_isBroken_10 : decode cX8_isBroken 10 = .ok (.goto 4, 3) := by decide +kernel
theorem dX8_isBroken_13 : decode cX8_isBroken 13 = .ok (.iconst 0, 1) := by decide +kernel
theorem dX8_isBroken_14 : decode cX8_isBroken 14 = .ok (.ireturn, 1) := by decide +kernel
theorem dX8_isLent_0 : decode cX8_isLent 0 = .ok (.aload_n 0, 1) := by decide +kernel
theorem dX8_isLent_1 : decode cX8_isLent 1 = .ok (.getfield 57, 3) := by decide +kernel
theorem dX8_isLent_4 : decode cX8_isLent 4 = .ok (.iload_n 1, 1) := by decide +kernel
theorem dX8_isLent_5 : decode cX8_isLent 5 = .ok (.iaload, 1) := by decide +kernel
theorem dX8_isLent_6 : decode cX8_isLent 6 = .ok (.ifCond .lt 7, 3) := by decide +kernel
theorem dX8_isLent_9 : decode cX8_isLent 9 = .ok (.iconst 1, 1) := by decide +kernel
theorem dX8_isLent_10 : decode cX8_isLent 10 = .ok (.goto 4, 3) := by decide +kernel
theorem dX8_isLent_13 : decode cX8_isLent 13 = .ok (.iconst 0, 1) := by decide +kernel
theorem dX8_isLent_14 : decode cX8_isLent 14 = .ok (.ireturn, 1) := by decide +kernel
theorem dX8_lines_0 : decode cX8_lines 0 = .ok (.aload_n 0, 1) := by decide +kernel
theorem dX8_lines_1 : decode cX8_lines 1 = .ok (.getfield 69, 3) := by decide +kernel
theorem dX8_lines_4 : decode cX8_lines 4 = .ok (.iload_n 1, 1) := by decide +kernel
theorem dX8_lines_5 : decode cX8_lines 5 = .ok (.iaload, 1) := by decide +kernel
theorem dX8_lines_6 : decode cX8_lines 6 = .ok (.bipush 30, 2) := by decide +kernel
theorem dX8_lines_8 : decode cX8_lines 8 = .ok (.if_icmp .ge 40, 3) := by decide +kernel
theorem dX8_lines_11 : decode cX8_lines 11 = .ok (.aload_n 0, 1) := by decide +kernel
theorem dX8_lines_12 : decode cX8_lines 12 = .ok (.getfield 63, 3) := by decide +kernel
theorem dX8_lines_15 : decode cX8_lines 15 = .ok (.bipush 30, 2) := by decide +kernel
theorem dX8_lines_17 : decode cX8_lines 17 = .ok (.iload_n 1, 1) := by decide +kernel
theorem dX8_lines_18 : decode cX8_lines 18 = .ok (.imul, 1) := by decide +kernel
theorem dX8_lines_19 : decode cX8_lines 19 = .ok (.aload_n 0, 1) := by decide +kernel
theorem dX8_lines_20 : decode cX8_lines 20 = .ok (.getfield 69, 3) := by decide +kernel
theorem dX8_lines_23 : decode cX8_lines 23 = .ok (.iload_n 1, 1) := by decide +kernel
theorem dX8_lines_24 : decode cX8_lines 24 = .ok (.iaload, 1) := by decide +kernel
theorem dX8_lines_25 : decode cX8_lines 25 = .ok (.iadd, 1) := by decide +kernel
theorem dX8_lines_26 : decode cX8_lines 26 = .ok (.iload_n 2, 1) := by decide +kernel
theorem dX8_lines_27 : decode cX8_lines 27 = .ok (.iastore, 1) := by decide +kernel
theorem dX8_lines_28 : decode cX8_lines 28 = .ok (.aload_n 0, 1) := by decide +kernel
theorem dX8_lines_29 : decode cX8_lines 29 = .ok (.getfield 66, 3) := by decide +kernel
theorem dX8_lines_32 : decode cX8_lines 32 = .ok (.bipush 30, 2) := by decide +kernel
theorem dX8_lines_34 : decode cX8_lines 34 = .ok (.iload_n 1, 1) := by decide +kernel
theorem dX8_lines_35 : decode cX8_lines 35 = .ok (.imul, 1) := by decide +kernel
theorem dX8_lines_36 : decode cX8_lines 36 = .ok (.aload_n 0, 1) := by decide +kernel
theorem dX8_lines_37 : decode cX8_lines 37 = .ok (.getfield 69, 3) := by decide +kernel
theorem dX8_lines_40 : decode cX8_lines 40 = .ok (.iload_n 1, 1) := by decide +kernel
theorem dX8_lines_41 : decode cX8_lines 41 = .ok (.iaload, 1) := by decide +kernel
theorem dX8_lines_42 : decode cX8_lines 42 = .ok (.iadd, 1) := by decide +kernel
theorem dX8_lines_43 : decode cX8_lines 43 = .ok (.aload_n 0, 1) := by decide +kernel
theorem dX8_lines_44 : decode cX8_lines 44 = .ok (.getfield 133, 3) := by decide +kernel
theorem dX8_lines_47 : decode cX8_lines 47 = .ok (.iastore, 1) := by decide +kernel
theorem dX8_lines_48 : decode cX8_lines 48 = .ok (.aload_n 0, 1) := by decide +kernel
theorem dX8_lines_49 : decode cX8_lines 49 = .ok (.getfield 69, 3) := by decide +kernel
theorem dX8_lines_52 : decode cX8_lines 52 = .ok (.iload_n 1, 1) := by decide +kernel
theorem dX8_lines_53 : decode cX8_lines 53 = .ok (.dup2, 1) := by decide +kernel
theorem dX8_lines_54 : decode cX8_lines 54 = .ok (.iaload, 1) := by decide +kernel
theorem dX8_lines_55 : decode cX8_lines 55 = .ok (.iconst 1, 1) := by decide +kernel
theorem dX8_lines_56 : decode cX8_lines 56 = .ok (.iadd, 1) := by decide +kernel
theorem dX8_lines_57 : decode cX8_lines 57 = .ok (.iastore, 1) := by decide +kernel
theorem dX8_lines_58 : decode cX8_lines 58 = .ok (.return_, 1) := by decide +kernel
theorem dX8_single_0 : decode cX8_single 0 = .ok (.aload_n 0, 1) := by decide +kernel
theorem dX8_single_1 : decode cX8_single 1 = .ok (.iconst 0, 1) := by decide +kernel
theorem dX8_single_2 : decode cX8_single 2 = .ok (.putfield 87, 3) := by decide +kernel
theorem dX8_single_5 : decode cX8_single 5 = .ok (.aload_n 0, 1) := by decide +kernel
theorem dX8_single_6 : decode cX8_single 6 = .ok (.aload_n 0, 1) := by decide +kernel
theorem dX8_single_7 : decode cX8_single 7 = .ok (.iload_n 1, 1) := by decide +kernel
theorem dX8_single_8 : decode cX8_single 8 = .ok (.invokevirtual 124, 3) := by decide +kernel
theorem dX8_single_11 : decode cX8_single 11 = .ok (.iconst 1, 1) := by decide +kernel
theorem dX8_single_12 : decode cX8_single 12 = .ok (.invokevirtual 106, 3) := by decide +kernel
theorem dX8_single_15 : decode cX8_single 15 = .ok (.ifCond .ne 50, 3) := by decide +kernel
theorem dX8_single_18 : decode cX8_single 18 = .ok (.aload_n 0, 1) := by decide +kernel
theorem dX8_single_19 : decode cX8_single 19 = .ok (.iload_n 3, 1) := by decide +kernel
theorem dX8_single_20 : decode cX8_single 20 = .ok (.i2l, 1) := by decide +kernel
theorem dX8_single_21 : decode cX8_single 21 = .ok (.lconst 0, 1) := by decide +kernel
theorem dX8_single_22 : decode cX8_single 22 = .ok (.ldc2_w 136, 3) := by decide +kernel
theorem dX8_single_25 : decode cX8_single 25 = .ok (.invokestatic 94, 3) := by decide +kernel
theorem dX8_single_28 : decode cX8_single 28 = .ok (.ifCond .ne 7, 3) := by decide +kernel
theorem dX8_single_31 : decode cX8_single 31 = .ok (.iconst 1, 1) := by decide +kernel
theorem dX8_single_32 : decode cX8_single 32 = .ok (.goto 4, 3) := by decide +kernel
theorem dX8_single_35 : decode cX8_single 35 = .ok (.iconst 0, 1) := by decide +kernel
theorem dX8_single_36 : decode cX8_single 36 = .ok (.iconst 2, 1) := by decide +kernel
theorem dX8_single_37 : decode cX8_single 37 = .ok (.invokevirtual 106, 3) := by decide +kernel
theorem dX8_single_40 : decode cX8_single 40 = .ok (.ifCond .ne 25, 3) := by decide +kernel
theorem dX8_single_43 : decode cX8_single 43 = .ok (.aload_n 0, 1) := by decide +kernel
theorem dX8_single_44 : decode cX8_single 44 = .ok (.aload_n 0, 1) := by decide +kernel
theorem dX8_single_45 : decode cX8_single 45 = .ok (.getfield 101, 3) := by decide +kernel
theorem dX8_single_48 : decode cX8_single 48 = .ok (.bipush 40, 2) := by decide +kernel
theorem dX8_single_50 : decode cX8_single 50 = .ok (.if_icmp .ne 7, 3) := by decide +kernel
theorem dX8_single_53 : decode cX8_single 53 = .ok (.iconst 1, 1) := by decide +kernel
theorem dX8_single_54 : decode cX8_single 54 = .ok (.goto 4, 3) := by decide +kernel
theorem dX8_single_57 : decode cX8_single 57 = .ok (.iconst 0, 1) := by decide +kernel
theorem dX8_single_58 : decode cX8_single 58 = .ok (.iconst 3, 1) := by decide +kernel
theorem dX8_single_59 : decode cX8_single 59 = .ok (.invokevirtual 106, 3) := by decide +kernel
theorem dX8_single_62 : decode cX8_single 62 = .ok (.ifCond .eq 5, 3) := by decide +kernel
theorem dX8_single_65 : decode cX8_single 65 = .ok (.iconst 0, 1) := by decide +kernel
theorem dX8_single_66 : decode cX8_single 66 = .ok (.ireturn, 1) := by decide +kernel
theorem dX8_single_67 : decode cX8_single 67 = .ok (.aload_n 0, 1) := by decide +kernel
theorem dX8_single_68 : decode cX8_single 68 = .ok (.getfield 101, 3) := by decide +kernel
theorem dX8_single_71 : decode cX8_single 71 = .ok (.istore 4, 2) := by decide +kernel
theorem dX8_single_73 : decode cX8_single 73 = .ok (.aload_n 0, 1) := by decide +kernel
theorem dX8_single_74 : decode cX8_single 74 = .ok (.dup, 1) := by decide +kernel
theorem dX8_single_75 : decode cX8_single 75 = .ok (.getfield 101, 3) := by decide +kernel
theorem dX8_single_78 : decode cX8_single 78 = .ok (.iconst 1, 1) := by decide +kernel
theorem dX8_single_79 : decode cX8_single 79 = .ok (.iadd, 1) := by decide +kernel
theorem dX8_single_80 : decode cX8_single 80 = .ok (.putfield 101, 3) := by decide +kernel
theorem dX8_single_83 : decode cX8_single 83 = .ok (.aload_n 0, 1) := by decide +kernel
theorem dX8_single_84 : decode cX8_single 84 = .ok (.getfield 45, 3) := by decide +kernel
theorem dX8_single_87 : decode cX8_single 87 = .ok (.iload 4, 2) := by decide +kernel
theorem dX8_single_89 : decode cX8_single 89 = .ok (.iload_n 2, 1) := by decide +kernel
theorem dX8_single_90 : decode cX8_single 90 = .ok (.bastore, 1) := by decide +kernel
theorem dX8_single_91 : decode cX8_single 91 = .ok (.aload_n 0, 1) := by decide +kernel
theorem dX8_single_92 : decode cX8_single 92 = .ok (.getfield 48, 3) := by decide +kernel
theorem dX8_single_95 : decode cX8_single 95 = .ok (.iload 4, 2) := by decide +kernel
theorem dX8_single_97 : decode cX8_single 97 = .ok (.iload_n 3, 1) := by decide +kernel
theorem dX8_single_98 : decode cX8_single 98 = .ok (.iastore, 1) := by decide +kernel
theorem dX8_single_99 : decode cX8_single 99 = .ok (.aload_n 0, 1) := by decide +kernel
theorem dX8_single_100 : decode cX8_single 100 = .ok (.getfield 51, 3) := by decide +kernel
theorem dX8_single_103 : decode cX8_single 103 = .ok (.iload 4, 2) := by decide +kernel
theorem dX8_single_105 : decode cX8_single 105 = .ok (.iconst (-1), 1) := by decide +kernel
theorem dX8_single_106 : decode cX8_single 106 = .ok (.iastore, 1) := by decide +kernel
theorem dX8_single_107 : decode cX8_single 107 = .ok (.aload_n 0, 1) := by decide +kernel
theorem dX8_single_108 : decode cX8_single 108 = .ok (.getfield 54, 3) := by decide +kernel
theorem dX8_single_111 : decode cX8_single 111 = .ok (.iload 4, 2) := by decide +kernel
theorem dX8_single_113 : decode cX8_single 113 = .ok (.iload_n 1, 1) := by decide +kernel
theorem dX8_single_114 : decode cX8_single 114 = .ok (.iastore, 1) := by decide +kernel
theorem dX8_single_115 : decode cX8_single 115 = .ok (.aload_n 0, 1) := by decide +kernel
theorem dX8_single_116 : decode cX8_single 116 = .ok (.getfield 57, 3) := by decide +kernel
theorem dX8_single_119 : decode cX8_single 119 = .ok (.iload 4, 2) := by decide +kernel
theorem dX8_single_121 : decode cX8_single 121 = .ok (.iconst (-1), 1) := by decide +kernel
theorem dX8_single_122 : decode cX8_single 122 = .ok (.iastore, 1) := by decide +kernel
theorem dX8_single_123 : decode cX8_single 123 = .ok (.aload_n 0, 1) := by decide +kernel
theorem dX8_single_124 : decode cX8_single 124 = .ok (.getfield 60, 3) := by decide +kernel
theorem dX8_single_127 : decode cX8_single 127 = .ok (.iload 4, 2) := by decide +kernel
theorem dX8_single_129 : decode cX8_single 129 = .ok (.iconst (-1), 1) := by decide +kernel
theorem dX8_single_130 : decode cX8_single 130 = .ok (.iastore, 1) := by decide +kernel
theorem dX8_single_131 : decode cX8_single 131 = .ok (.aload_n 0, 1) := by decide +kernel
theorem dX8_single_132 : decode cX8_single 132 = .ok (.iload 4, 2) := by decide +kernel
theorem dX8_single_134 : decode cX8_single 134 = .ok (.iload_n 1, 1) := by decide +kernel
theorem dX8_single_135 : decode cX8_single 135 = .ok (.invokevirtual 138, 3) := by decide +kernel
theorem dX8_single_138 : decode cX8_single 138 = .ok (.iload 4, 2) := by decide +kernel
theorem dX8_single_140 : decode cX8_single 140 = .ok (.ireturn, 1) := by decide +kernel
theorem dX8_put_0 : decode cX8_put 0 = .ok (.aload_n 0, 1) := by decide +kernel
theorem dX8_put_1 : decode cX8_put 1 = .ok (.iconst 0, 1) := by decide +kernel
theorem dX8_put_2 : decode cX8_put 2 = .ok (.putfield 87, 3) := by decide +kernel
theorem dX8_put_5 : decode cX8_put 5 = .ok (.aload_n 0, 1) := by decide +kernel
theorem dX8_put_6 : decode cX8_put 6 = .ok (.aload_n 0, 1) := by decide +kernel
theorem dX8_put_7 : decode cX8_put 7 = .ok (.iload_n 1, 1) := by decide +kernel
theorem dX8_put_8 : decode cX8_put 8 = .ok (.invokevirtual 142, 3) := by decide +kernel
theorem dX8_put_11 : decode cX8_put 11 = .ok (.ifCond .ne 11, 3) := by decide +kernel
theorem dX8_put_14 : decode cX8_put 14 = .ok (.aload_n 0, 1) := by decide +kernel
theorem dX8_put_15 : decode cX8_put 15 = .ok (.iload_n 2, 1) := by decide +kernel
theorem dX8_put_16 : decode cX8_put 16 = .ok (.invokevirtual 142, 3) := by decide +kernel
theorem dX8_put_19 : decode cX8_put 19 = .ok (.ifCond .eq 7, 3) := by decide +kernel
theorem dX8_put_22 : decode cX8_put 22 = .ok (.iconst 1, 1) := by decide +kernel
theorem dX8_put_23 : decode cX8_put 23 = .ok (.goto 4, 3) := by decide +kernel
theorem dX8_put_26 : decode cX8_put 26 = .ok (.iconst 0, 1) := by decide +kernel
theorem dX8_put_27 : decode cX8_put 27 = .ok (.iconst 1, 1) := by decide +kernel
theorem dX8_put_28 : decode cX8_put 28 = .ok (.invokevirtual 106, 3) := by decide +kernel
theorem dX8_put_31 : decode cX8_put 31 = .ok (.ifCond .eq 5, 3) := by decide +kernel
theorem dX8_put_34 : decode cX8_put 34 = .ok (.iconst 0, 1) := by decide +kernel
theorem dX8_put_35 : decode cX8_put 35 = .ok (.ireturn, 1) := by decide +kernel
theorem dX8_put_36 : decode cX8_put 36 = .ok (.aload_n 0, 1) := by decide +kernel
theorem dX8_put_37 : decode cX8_put 37 = .ok (.iload_n 1, 1) := by decide +kernel
theorem dX8_put_38 : decode cX8_put 38 = .ok (.invokevirtual 145, 3) := by decide +kernel
theorem dX8_put_41 : decode cX8_put 41 = .ok (.ifCond .ne 55, 3) := by decide +kernel
theorem dX8_put_44 : decode cX8_put 44 = .ok (.aload_n 0, 1) := by decide +kernel
theorem dX8_put_45 : decode cX8_put 45 = .ok (.getfield 54, 3) := by decide +kernel
theorem dX8_put_48 : decode cX8_put 48 = .ok (.iload_n 1, 1) := by decide +kernel
theorem dX8_put_49 : decode cX8_put 49 = .ok (.iaload, 1) := by decide +kernel
theorem dX8_put_50 : decode cX8_put 50 = .ok (.aload_n 0, 1) := by decide +kernel
theorem dX8_put_51 : decode cX8_put 51 = .ok (.getfield 54, 3) := by decide +kernel
theorem dX8_put_54 : decode cX8_put 54 = .ok (.iload_n 2, 1) := by decide +kernel
theorem dX8_put_55 : decode cX8_put 55 = .ok (.iaload, 1) := by decide +kernel
theorem dX8_put_56 : decode cX8_put 56 = .ok (.if_icmp .ne 40, 3) := by decide +kernel
theorem dX8_put_59 : decode cX8_put 59 = .ok (.aload_n 0, 1) := by decide +kernel
theorem dX8_put_60 : decode cX8_put 60 = .ok (.getfield 51, 3) := by decide +kernel
theorem dX8_put_63 : decode cX8_put 63 = .ok (.iload_n 1, 1) := by decide +kernel
theorem dX8_put_64 : decode cX8_put 64 = .ok (.iaload, 1) := by decide +kernel
theorem dX8_put_65 : decode cX8_put 65 = .ok (.ifCond .ge 31, 3) := by decide +kernel
theorem dX8_put_68 : decode cX8_put 68 = .ok (.iload_n 1, 1) := by decide +kernel
theorem dX8_put_69 : decode cX8_put 69 = .ok (.iload_n 2, 1) := by decide +kernel
theorem dX8_put_70 : decode cX8_put 70 = .ok (.if_icmp .eq 26, 3) := by decide +kernel
theorem dX8_put_73 : decode cX8_put 73 = .ok (.aload_n 0, 1) := by decide +kernel
theorem dX8_put_74 : decode cX8_put 74 = .ok (.iload_n 2, 1) := by decide +kernel
theorem dX8_put_75 : decode cX8_put 75 = .ok (.iload_n 1, 1) := by decide +kernel
theorem dX8_put_76 : decode cX8_put 76 = .ok (.invokevirtual 148, 3) := by decide +kernel
theorem dX8_put_79 : decode cX8_put 79 = .ok (.ifCond .ne 17, 3) := by decide +kernel
theorem dX8_put_82 : decode cX8_put 82 = .ok (.aload_n 0, 1) := by decide +kernel
theorem dX8_put_83 : decode cX8_put 83 = .ok (.iload_n 2, 1) := by decide +kernel
theorem dX8_put_84 : decode cX8_put 84 = .ok (.invokevirtual 152, 3) := by decide +kernel
theorem dX8_put_87 : decode cX8_put 87 = .ok (.aload_n 0, 1) := by decide +kernel
theorem dX8_put_88 : decode cX8_put 88 = .ok (.getfield 48, 3) := by decide +kernel
theorem dX8_put_91 : decode cX8_put 91 = .ok (.iload_n 2, 1) := by decide +kernel
theorem dX8_put_92 : decode cX8_put 92 = .ok (.iaload, 1) := by decide +kernel
theorem dX8_put_93 : decode cX8_put 93 = .ok (.if_icmp .lt 5, 3) := by decide +kernel
theorem dX8_put_96 : decode cX8_put 96 = .ok (.iconst 0, 1) := by decide +kernel
theorem dX8_put_97 : decode cX8_put 97 = .ok (.ireturn, 1) := by decide +kernel
theorem dX8_put_98 : decode cX8_put 98 = .ok (.aload_n 0, 1) := by decide +kernel
theorem dX8_put_99 : decode cX8_put 99 = .ok (.getfield 51, 3) := by decide +kernel
theorem dX8_put_102 : decode cX8_put 102 = .ok (.iload_n 1, 1) := by decide +kernel
theorem dX8_put_103 : decode cX8_put 103 = .ok (.iload_n 2, 1) := by decide +kernel
theorem dX8_put_104 : decode cX8_put 104 = .ok (.iastore, 1) := by decide +kernel
theorem dX8_put_105 : decode cX8_put 105 = .ok (.iconst 1, 1) := by decide +kernel
theorem dX8_put_106 : decode cX8_put 106 = .ok (.ireturn, 1) := by decide +kernel
theorem dX8_take_0 : decode cX8_take 0 = .ok (.aload_n 0, 1) := by decide +kernel
theorem dX8_take_1 : decode cX8_take 1 = .ok (.iconst 0, 1) := by decide +kernel
theorem dX8_take_2 : decode cX8_take 2 = .ok (.putfield 87, 3) := by decide +kernel
theorem dX8_take_5 : decode cX8_take 5 = .ok (.aload_n 0, 1) := by decide +kernel
theorem dX8_take_6 : decode cX8_take 6 = .ok (.aload_n 0, 1) := by decide +kernel
theorem dX8_take_7 : decode cX8_take 7 = .ok (.iload_n 1, 1) := by decide +kernel
theorem dX8_take_8 : decode cX8_take 8 = .ok (.invokevirtual 142, 3) := by decide +kernel
theorem dX8_take_11 : decode cX8_take 11 = .ok (.iconst 1, 1) := by decide +kernel
theorem dX8_take_12 : decode cX8_take 12 = .ok (.invokevirtual 106, 3) := by decide +kernel
theorem dX8_take_15 : decode cX8_take 15 = .ok (.ifCond .ne 12, 3) := by decide +kernel
theorem dX8_take_18 : decode cX8_take 18 = .ok (.aload_n 0, 1) := by decide +kernel
theorem dX8_take_19 : decode cX8_take 19 = .ok (.getfield 51, 3) := by decide +kernel
theorem dX8_take_22 : decode cX8_take 22 = .ok (.iload_n 1, 1) := by decide +kernel
theorem dX8_take_23 : decode cX8_take 23 = .ok (.iaload, 1) := by decide +kernel
theorem dX8_take_24 : decode cX8_take 24 = .ok (.ifCond .ge 5, 3) := by decide +kernel
theorem dX8_take_27 : decode cX8_take 27 = .ok (.iconst 0, 1) := by decide +kernel
theorem dX8_take_28 : decode cX8_take 28 = .ok (.ireturn, 1) := by decide +kernel
theorem dX8_take_29 : decode cX8_take 29 = .ok (.aload_n 0, 1) := by decide +kernel
theorem dX8_take_30 : decode cX8_take 30 = .ok (.getfield 51, 3) := by decide +kernel
theorem dX8_take_33 : decode cX8_take 33 = .ok (.iload_n 1, 1) := by decide +kernel
theorem dX8_take_34 : decode cX8_take 34 = .ok (.iconst (-1), 1) := by decide +kernel
theorem dX8_take_35 : decode cX8_take 35 = .ok (.iastore, 1) := by decide +kernel
theorem dX8_take_36 : decode cX8_take 36 = .ok (.iconst 1, 1) := by decide +kernel
theorem dX8_take_37 : decode cX8_take 37 = .ok (.ireturn, 1) := by decide +kernel
theorem dX8_mayGo_0 : decode cX8_mayGo 0 = .ok (.aload_n 0, 1) := by decide +kernel
theorem dX8_mayGo_1 : decode cX8_mayGo 1 = .ok (.iload_n 1, 1) := by decide +kernel
theorem dX8_mayGo_2 : decode cX8_mayGo 2 = .ok (.invokevirtual 145, 3) := by decide +kernel
theorem dX8_mayGo_5 : decode cX8_mayGo 5 = .ok (.ifCond .ne 12, 3) := by decide +kernel
theorem dX8_mayGo_8 : decode cX8_mayGo 8 = .ok (.aload_n 0, 1) := by decide +kernel
theorem dX8_mayGo_9 : decode cX8_mayGo 9 = .ok (.getfield 51, 3) := by decide +kernel
theorem dX8_mayGo_12 : decode cX8_mayGo 12 = .ok (.iload_n 1, 1) := by decide +kernel
theorem dX8_mayGo_13 : decode cX8_mayGo 13 = .ok (.iaload, 1) := by decide +kernel
theorem dX8_mayGo_14 : decode cX8_mayGo 14 = .ok (.ifCond .lt 5, 3) := by decide +kernel
theorem dX8_mayGo_17 : decode cX8_mayGo 17 = .ok (.iconst 0, 1) := by decide +kernel
theorem dX8_mayGo_18 : decode cX8_mayGo 18 = .ok (.ireturn, 1) := by decide +kernel
theorem dX8_mayGo_19 : decode cX8_mayGo 19 = .ok (.iconst 1, 1) := by decide +kernel
theorem dX8_mayGo_20 : decode cX8_mayGo 20 = .ok (.istore_n 2, 1) := by decide +kernel
theorem dX8_mayGo_21 : decode cX8_mayGo 21 = .ok (.iconst 0, 1) := by decide +kernel
theorem dX8_mayGo_22 : decode cX8_mayGo 22 = .ok (.istore_n 3, 1) := by decide +kernel
theorem dX8_mayGo_23 : decode cX8_mayGo 23 = .ok (.iload_n 3, 1) := by decide +kernel
theorem dX8_mayGo_24 : decode cX8_mayGo 24 = .ok (.aload_n 0, 1) := by decide +kernel
theorem dX8_mayGo_25 : decode cX8_mayGo 25 = .ok (.getfield 101, 3) := by decide +kernel
theorem dX8_mayGo_28 : decode cX8_mayGo 28 = .ok (.if_icmp .ge 50, 3) := by decide +kernel
theorem dX8_mayGo_31 : decode cX8_mayGo 31 = .ok (.iload_n 3, 1) := by decide +kernel
theorem dX8_mayGo_32 : decode cX8_mayGo 32 = .ok (.iload_n 1, 1) := by decide +kernel
theorem dX8_mayGo_33 : decode cX8_mayGo 33 = .ok (.if_icmp .eq 12, 3) := by decide +kernel
theorem dX8_mayGo_36 : decode cX8_mayGo 36 = .ok (.aload_n 0, 1) := by decide +kernel
theorem dX8_mayGo_37 : decode cX8_mayGo 37 = .ok (.iload_n 3, 1) := by decide +kernel
theorem dX8_mayGo_38 : decode cX8_mayGo 38 = .ok (.iload_n 1, 1) := by decide +kernel
theorem dX8_mayGo_39 : decode cX8_mayGo 39 = .ok (.invokevirtual 148, 3) := by decide +kernel
theorem dX8_mayGo_42 : decode cX8_mayGo 42 = .ok (.ifCond .eq 30, 3) := by decide +kernel
theorem dX8_mayGo_45 : decode cX8_mayGo 45 = .ok (.iload_n 2, 1) := by decide +kernel
theorem dX8_mayGo_46 : decode cX8_mayGo 46 = .ok (.ifCond .eq 24, 3) := by decide +kernel
theorem dX8_mayGo_49 : decode cX8_mayGo 49 = .ok (.aload_n 0, 1) := by decide +kernel
theorem dX8_mayGo_50 : decode cX8_mayGo 50 = .ok (.getfield 45, 3) := by decide +kernel
theorem dX8_mayGo_53 : decode cX8_mayGo 53 = .ok (.iload_n 3, 1) := by decide +kernel
theorem dX8_mayGo_54 : decode cX8_mayGo 54 = .ok (.baload, 1) := by decide +kernel
theorem dX8_mayGo_55 : decode cX8_mayGo 55 = .ok (.ifCond .ne 15, 3) := by decide +kernel
theorem dX8_mayGo_58 : decode cX8_mayGo 58 = .ok (.aload_n 0, 1) := by decide +kernel
theorem dX8_mayGo_59 : decode cX8_mayGo 59 = .ok (.iload_n 3, 1) := by decide +kernel
theorem dX8_mayGo_60 : decode cX8_mayGo 60 = .ok (.invokevirtual 156, 3) := by decide +kernel
theorem dX8_mayGo_63 : decode cX8_mayGo 63 = .ok (.ifCond .ne 7, 3) := by decide +kernel
theorem dX8_mayGo_66 : decode cX8_mayGo 66 = .ok (.iconst 1, 1) := by decide +kernel
theorem dX8_mayGo_67 : decode cX8_mayGo 67 = .ok (.goto 4, 3) := by decide +kernel
theorem dX8_mayGo_70 : decode cX8_mayGo 70 = .ok (.iconst 0, 1) := by decide +kernel
theorem dX8_mayGo_71 : decode cX8_mayGo 71 = .ok (.istore_n 2, 1) := by decide +kernel
theorem dX8_mayGo_72 : decode cX8_mayGo 72 = .ok (.iinc 3 1, 3) := by decide +kernel
theorem dX8_mayGo_75 : decode cX8_mayGo 75 = .ok (.goto (-52), 3) := by decide +kernel
theorem dX8_mayGo_78 : decode cX8_mayGo 78 = .ok (.iload_n 2, 1) := by decide +kernel
theorem dX8_mayGo_79 : decode cX8_mayGo 79 = .ok (.ireturn, 1) := by decide +kernel
theorem dX8_goes_0 : decode cX8_goes 0 = .ok (.iconst 0, 1) := by decide +kernel
theorem dX8_goes_1 : decode cX8_goes 1 = .ok (.istore_n 3, 1) := by decide +kernel
theorem dX8_goes_2 : decode cX8_goes 2 = .ok (.iload_n 3, 1) := by decide +kernel
theorem dX8_goes_3 : decode cX8_goes 3 = .ok (.aload_n 0, 1) := by decide +kernel
theorem dX8_goes_4 : decode cX8_goes 4 = .ok (.getfield 101, 3) := by decide +kernel
theorem dX8_goes_7 : decode cX8_goes 7 = .ok (.if_icmp .ge 39, 3) := by decide +kernel
theorem dX8_goes_10 : decode cX8_goes 10 = .ok (.iload_n 3, 1) := by decide +kernel
theorem dX8_goes_11 : decode cX8_goes 11 = .ok (.iload_n 1, 1) := by decide +kernel
theorem dX8_goes_12 : decode cX8_goes 12 = .ok (.if_icmp .eq 15, 3) := by decide +kernel
theorem dX8_goes_15 : decode cX8_goes 15 = .ok (.aload_n 0, 1) := by decide +kernel
theorem dX8_goes_16 : decode cX8_goes 16 = .ok (.iload_n 3, 1) := by decide +kernel
theorem dX8_goes_17 : decode cX8_goes 17 = .ok (.iload_n 1, 1) := by decide +kernel
theorem dX8_goes_18 : decode cX8_goes 18 = .ok (.invokevirtual 148, 3) := by decide +kernel
theorem dX8_goes_21 : decode cX8_goes 21 = .ok (.ifCond .ne 6, 3) := by decide +kernel
theorem dX8_goes_24 : decode cX8_goes 24 = .ok (.goto 16, 3) := by decide +kernel
theorem dX8_goes_27 : decode cX8_goes 27 = .ok (.aload_n 0, 1) := by decide +kernel
theorem dX8_goes_28 : decode cX8_goes 28 = .ok (.getfield 54, 3) := by decide +kernel
theorem dX8_goes_31 : decode cX8_goes 31 = .ok (.iload_n 3, 1) := by decide +kernel
theorem dX8_goes_32 : decode cX8_goes 32 = .ok (.iload_n 2, 1) := by decide +kernel
theorem dX8_goes_33 : decode cX8_goes 33 = .ok (.iastore, 1) := by decide +kernel
theorem dX8_goes_34 : decode cX8_goes 34 = .ok (.aload_n 0, 1) := by decide +kernel
theorem dX8_goes_35 : decode cX8_goes 35 = .ok (.iload_n 3, 1) := by decide +kernel
theorem dX8_goes_36 : decode cX8_goes 36 = .ok (.iload_n 2, 1) := by decide +kernel
theorem dX8_goes_37 : decode cX8_goes 37 = .ok (.invokevirtual 138, 3) := by decide +kernel
theorem dX8_goes_40 : decode cX8_goes 40 = .ok (.iinc 3 1, 3) := by decide +kernel
theorem dX8_goes_43 : decode cX8_goes 43 = .ok (.goto (-41), 3) := by decide +kernel
theorem dX8_goes_46 : decode cX8_goes 46 = .ok (.return_, 1) := by decide +kernel
theorem dX8_give_0 : decode cX8_give 0 = .ok (.aload_n 0, 1) := by decide +kernel
theorem dX8_give_1 : decode cX8_give 1 = .ok (.iconst 0, 1) := by decide +kernel
theorem dX8_give_2 : decode cX8_give 2 = .ok (.putfield 87, 3) := by decide +kernel
theorem dX8_give_5 : decode cX8_give 5 = .ok (.aload_n 0, 1) := by decide +kernel
theorem dX8_give_6 : decode cX8_give 6 = .ok (.aload_n 0, 1) := by decide +kernel
theorem dX8_give_7 : decode cX8_give 7 = .ok (.iload_n 1, 1) := by decide +kernel
theorem dX8_give_8 : decode cX8_give 8 = .ok (.invokevirtual 142, 3) := by decide +kernel
theorem dX8_give_11 : decode cX8_give 11 = .ok (.ifCond .ne 11, 3) := by decide +kernel
theorem dX8_give_14 : decode cX8_give 14 = .ok (.aload_n 0, 1) := by decide +kernel
theorem dX8_give_15 : decode cX8_give 15 = .ok (.iload_n 2, 1) := by decide +kernel
theorem dX8_give_16 : decode cX8_give 16 = .ok (.invokevirtual 124, 3) := by decide +kernel
theorem dX8_give_19 : decode cX8_give 19 = .ok (.ifCond .eq 7, 3) := by decide +kernel
theorem dX8_give_22 : decode cX8_give 22 = .ok (.iconst 1, 1) := by decide +kernel
theorem dX8_give_23 : decode cX8_give 23 = .ok (.goto 4, 3) := by decide +kernel
theorem dX8_give_26 : decode cX8_give 26 = .ok (.iconst 0, 1) := by decide +kernel
theorem dX8_give_27 : decode cX8_give 27 = .ok (.iconst 1, 1) := by decide +kernel
theorem dX8_give_28 : decode cX8_give 28 = .ok (.invokevirtual 106, 3) := by decide +kernel
theorem dX8_give_31 : decode cX8_give 31 = .ok (.ifCond .ne 21, 3) := by decide +kernel
theorem dX8_give_34 : decode cX8_give 34 = .ok (.aload_n 0, 1) := by decide +kernel
theorem dX8_give_35 : decode cX8_give 35 = .ok (.iload_n 1, 1) := by decide +kernel
theorem dX8_give_36 : decode cX8_give 36 = .ok (.invokevirtual 159, 3) := by decide +kernel
theorem dX8_give_39 : decode cX8_give 39 = .ok (.ifCond .eq 13, 3) := by decide +kernel
theorem dX8_give_42 : decode cX8_give 42 = .ok (.aload_n 0, 1) := by decide +kernel
theorem dX8_give_43 : decode cX8_give 43 = .ok (.getfield 54, 3) := by decide +kernel
theorem dX8_give_46 : decode cX8_give 46 = .ok (.iload_n 1, 1) := by decide +kernel
theorem dX8_give_47 : decode cX8_give 47 = .ok (.iaload, 1) := by decide +kernel
theorem dX8_give_48 : decode cX8_give 48 = .ok (.iload_n 2, 1) := by decide +kernel
theorem dX8_give_49 : decode cX8_give 49 = .ok (.if_icmp .ne 5, 3) := by decide +kernel
theorem dX8_give_52 : decode cX8_give 52 = .ok (.iconst 0, 1) := by decide +kernel
theorem dX8_give_53 : decode cX8_give 53 = .ok (.ireturn, 1) := by decide +kernel
theorem dX8_give_54 : decode cX8_give 54 = .ok (.aload_n 0, 1) := by decide +kernel
theorem dX8_give_55 : decode cX8_give 55 = .ok (.iload_n 1, 1) := by decide +kernel
theorem dX8_give_56 : decode cX8_give 56 = .ok (.iload_n 2, 1) := by decide +kernel
theorem dX8_give_57 : decode cX8_give 57 = .ok (.invokevirtual 162, 3) := by decide +kernel
theorem dX8_give_60 : decode cX8_give 60 = .ok (.iconst 1, 1) := by decide +kernel
theorem dX8_give_61 : decode cX8_give 61 = .ok (.ireturn, 1) := by decide +kernel
theorem dX8_lend_0 : decode cX8_lend 0 = .ok (.aload_n 0, 1) := by decide +kernel
theorem dX8_lend_1 : decode cX8_lend 1 = .ok (.iconst 0, 1) := by decide +kernel
theorem dX8_lend_2 : decode cX8_lend 2 = .ok (.putfield 87, 3) := by decide +kernel
theorem dX8_lend_5 : decode cX8_lend 5 = .ok (.aload_n 0, 1) := by decide +kernel
theorem dX8_lend_6 : decode cX8_lend 6 = .ok (.aload_n 0, 1) := by decide +kernel
theorem dX8_lend_7 : decode cX8_lend 7 = .ok (.iload_n 1, 1) := by decide +kernel
theorem dX8_lend_8 : decode cX8_lend 8 = .ok (.invokevirtual 142, 3) := by decide +kernel
theorem dX8_lend_11 : decode cX8_lend 11 = .ok (.ifCond .ne 11, 3) := by decide +kernel
theorem dX8_lend_14 : decode cX8_lend 14 = .ok (.aload_n 0, 1) := by decide +kernel
theorem dX8_lend_15 : decode cX8_lend 15 = .ok (.iload_n 2, 1) := by decide +kernel
theorem dX8_lend_16 : decode cX8_lend 16 = .ok (.invokevirtual 124, 3) := by decide +kernel
theorem dX8_lend_19 : decode cX8_lend 19 = .ok (.ifCond .eq 7, 3) := by decide +kernel
theorem dX8_lend_22 : decode cX8_lend 22 = .ok (.iconst 1, 1) := by decide +kernel
theorem dX8_lend_23 : decode cX8_lend 23 = .ok (.goto 4, 3) := by decide +kernel
theorem dX8_lend_26 : decode cX8_lend 26 = .ok (.iconst 0, 1) := by decide +kernel
theorem dX8_lend_27 : decode cX8_lend 27 = .ok (.iconst 1, 1) := by decide +kernel
theorem dX8_lend_28 : decode cX8_lend 28 = .ok (.invokevirtual 106, 3) := by decide +kernel
theorem dX8_lend_31 : decode cX8_lend 31 = .ok (.ifCond .ne 29, 3) := by decide +kernel
theorem dX8_lend_34 : decode cX8_lend 34 = .ok (.aload_n 0, 1) := by decide +kernel
theorem dX8_lend_35 : decode cX8_lend 35 = .ok (.iload_n 1, 1) := by decide +kernel
theorem dX8_lend_36 : decode cX8_lend 36 = .ok (.invokevirtual 159, 3) := by decide +kernel
theorem dX8_lend_39 : decode cX8_lend 39 = .ok (.ifCond .eq 21, 3) := by decide +kernel
theorem dX8_lend_42 : decode cX8_lend 42 = .ok (.aload_n 0, 1) := by decide +kernel
theorem dX8_lend_43 : decode cX8_lend 43 = .ok (.getfield 54, 3) := by decide +kernel
theorem dX8_lend_46 : decode cX8_lend 46 = .ok (.iload_n 1, 1) := by decide +kernel
theorem dX8_lend_47 : decode cX8_lend 47 = .ok (.iaload, 1) := by decide +kernel
theorem dX8_lend_48 : decode cX8_lend 48 = .ok (.iload_n 2, 1) := by decide +kernel
theorem dX8_lend_49 : decode cX8_lend 49 = .ok (.if_icmp .eq 11, 3) := by decide +kernel
theorem dX8_lend_52 : decode cX8_lend 52 = .ok (.iload_n 3, 1) := by decide +kernel
theorem dX8_lend_53 : decode cX8_lend 53 = .ok (.aload_n 0, 1) := by decide +kernel
theorem dX8_lend_54 : decode cX8_lend 54 = .ok (.getfield 133, 3) := by decide +kernel
theorem dX8_lend_57 : decode cX8_lend 57 = .ok (.if_icmp .gt 5, 3) := by decide +kernel
theorem dX8_lend_60 : decode cX8_lend 60 = .ok (.iconst 0, 1) := by decide +kernel
theorem dX8_lend_61 : decode cX8_lend 61 = .ok (.ireturn, 1) := by decide +kernel
theorem dX8_lend_62 : decode cX8_lend 62 = .ok (.aload_n 0, 1) := by decide +kernel
theorem dX8_lend_63 : decode cX8_lend 63 = .ok (.getfield 60, 3) := by decide +kernel
theorem dX8_lend_66 : decode cX8_lend 66 = .ok (.iload_n 1, 1) := by decide +kernel
theorem dX8_lend_67 : decode cX8_lend 67 = .ok (.aload_n 0, 1) := by decide +kernel
theorem dX8_lend_68 : decode cX8_lend 68 = .ok (.getfield 54, 3) := by decide +kernel
theorem dX8_lend_71 : decode cX8_lend 71 = .ok (.iload_n 1, 1) := by decide +kernel
theorem dX8_lend_72 : decode cX8_lend 72 = .ok (.iaload, 1) := by decide +kernel
theorem dX8_lend_73 : decode cX8_lend 73 = .ok (.iastore, 1) := by decide +kernel
theorem dX8_lend_74 : decode cX8_lend 74 = .ok (.aload_n 0, 1) := by decide +kernel
theorem dX8_lend_75 : decode cX8_lend 75 = .ok (.getfield 57, 3) := by decide +kernel
theorem dX8_lend_78 : decode cX8_lend 78 = .ok (.iload_n 1, 1) := by decide +kernel
theorem dX8_lend_79 : decode cX8_lend 79 = .ok (.iload_n 3, 1) := by decide +kernel
theorem dX8_lend_80 : decode cX8_lend 80 = .ok (.iastore, 1) := by decide +kernel
theorem dX8_lend_81 : decode cX8_lend 81 = .ok (.aload_n 0, 1) := by decide +kernel
theorem dX8_lend_82 : decode cX8_lend 82 = .ok (.iload_n 1, 1) := by decide +kernel
theorem dX8_lend_83 : decode cX8_lend 83 = .ok (.iload_n 2, 1) := by decide +kernel
theorem dX8_lend_84 : decode cX8_lend 84 = .ok (.invokevirtual 162, 3) := by decide +kernel
theorem dX8_lend_87 : decode cX8_lend 87 = .ok (.iconst 1, 1) := by decide +kernel
theorem dX8_lend_88 : decode cX8_lend 88 = .ok (.ireturn, 1) := by decide +kernel
theorem dX8_wear_0 : decode cX8_wear 0 = .ok (.aload_n 0, 1) := by decide +kernel
theorem dX8_wear_1 : decode cX8_wear 1 = .ok (.iconst 0, 1) := by decide +kernel
theorem dX8_wear_2 : decode cX8_wear 2 = .ok (.putfield 87, 3) := by decide +kernel
theorem dX8_wear_5 : decode cX8_wear 5 = .ok (.aload_n 0, 1) := by decide +kernel
theorem dX8_wear_6 : decode cX8_wear 6 = .ok (.aload_n 0, 1) := by decide +kernel
theorem dX8_wear_7 : decode cX8_wear 7 = .ok (.iload_n 1, 1) := by decide +kernel
theorem dX8_wear_8 : decode cX8_wear 8 = .ok (.invokevirtual 142, 3) := by decide +kernel
theorem dX8_wear_11 : decode cX8_wear 11 = .ok (.iconst 1, 1) := by decide +kernel
theorem dX8_wear_12 : decode cX8_wear 12 = .ok (.invokevirtual 106, 3) := by decide +kernel
theorem dX8_wear_15 : decode cX8_wear 15 = .ok (.ifCond .ne 28, 3) := by decide +kernel
theorem dX8_wear_18 : decode cX8_wear 18 = .ok (.aload_n 0, 1) := by decide +kernel
theorem dX8_wear_19 : decode cX8_wear 19 = .ok (.iload_n 2, 1) := by decide +kernel
theorem dX8_wear_20 : decode cX8_wear 20 = .ok (.i2l, 1) := by decide +kernel
theorem dX8_wear_21 : decode cX8_wear 21 = .ok (.lconst 1, 1) := by decide +kernel
theorem dX8_wear_22 : decode cX8_wear 22 = .ok (.ldc2_w 165, 3) := by decide +kernel
theorem dX8_wear_25 : decode cX8_wear 25 = .ok (.invokestatic 94, 3) := by decide +kernel
theorem dX8_wear_28 : decode cX8_wear 28 = .ok (.ifCond .ne 7, 3) := by decide +kernel
theorem dX8_wear_31 : decode cX8_wear 31 = .ok (.iconst 1, 1) := by decide +kernel
theorem dX8_wear_32 : decode cX8_wear 32 = .ok (.goto 4, 3) := by decide +kernel
theorem dX8_wear_35 : decode cX8_wear 35 = .ok (.iconst 0, 1) := by decide +kernel
theorem dX8_wear_36 : decode cX8_wear 36 = .ok (.iconst 2, 1) := by decide +kernel
theorem dX8_wear_37 : decode cX8_wear 37 = .ok (.invokevirtual 106, 3) := by decide +kernel
theorem dX8_wear_40 : decode cX8_wear 40 = .ok (.ifCond .eq 5, 3) := by decide +kernel
theorem dX8_wear_43 : decode cX8_wear 43 = .ok (.iconst 0, 1) := by decide +kernel
theorem dX8_wear_44 : decode cX8_wear 44 = .ok (.ireturn, 1) := by decide +kernel
theorem dX8_wear_45 : decode cX8_wear 45 = .ok (.aload_n 0, 1) := by decide +kernel
theorem dX8_wear_46 : decode cX8_wear 46 = .ok (.iload_n 1, 1) := by decide +kernel
theorem dX8_wear_47 : decode cX8_wear 47 = .ok (.invokevirtual 145, 3) := by decide +kernel
theorem dX8_wear_50 : decode cX8_wear 50 = .ok (.ifCond .eq 5, 3) := by decide +kernel
theorem dX8_wear_53 : decode cX8_wear 53 = .ok (.iconst (-1), 1) := by decide +kernel
theorem dX8_wear_54 : decode cX8_wear 54 = .ok (.ireturn, 1) := by decide +kernel
theorem dX8_wear_55 : decode cX8_wear 55 = .ok (.aload_n 0, 1) := by decide +kernel
theorem dX8_wear_56 : decode cX8_wear 56 = .ok (.getfield 42, 3) := by decide +kernel
theorem dX8_wear_59 : decode cX8_wear 59 = .ok (.iload_n 1, 1) := by decide +kernel
theorem dX8_wear_60 : decode cX8_wear 60 = .ok (.bipush 100, 2) := by decide +kernel
theorem dX8_wear_62 : decode cX8_wear 62 = .ok (.aload_n 0, 1) := by decide +kernel
theorem dX8_wear_63 : decode cX8_wear 63 = .ok (.getfield 42, 3) := by decide +kernel
theorem dX8_wear_66 : decode cX8_wear 66 = .ok (.iload_n 1, 1) := by decide +kernel
theorem dX8_wear_67 : decode cX8_wear 67 = .ok (.iaload, 1) := by decide +kernel
theorem dX8_wear_68 : decode cX8_wear 68 = .ok (.iload_n 2, 1) := by decide +kernel
theorem dX8_wear_69 : decode cX8_wear 69 = .ok (.iadd, 1) := by decide +kernel
theorem dX8_wear_70 : decode cX8_wear 70 = .ok (.invokestatic 167, 3) := by decide +kernel
theorem dX8_wear_73 : decode cX8_wear 73 = .ok (.iastore, 1) := by decide +kernel
theorem dX8_wear_74 : decode cX8_wear 74 = .ok (.aload_n 0, 1) := by decide +kernel
theorem dX8_wear_75 : decode cX8_wear 75 = .ok (.getfield 42, 3) := by decide +kernel
theorem dX8_wear_78 : decode cX8_wear 78 = .ok (.iload_n 1, 1) := by decide +kernel
theorem dX8_wear_79 : decode cX8_wear 79 = .ok (.iaload, 1) := by decide +kernel
theorem dX8_wear_80 : decode cX8_wear 80 = .ok (.bipush 100, 2) := by decide +kernel
theorem dX8_wear_82 : decode cX8_wear 82 = .ok (.if_icmp .ge 10, 3) := by decide +kernel
theorem dX8_wear_85 : decode cX8_wear 85 = .ok (.aload_n 0, 1) := by decide +kernel
theorem dX8_wear_86 : decode cX8_wear 86 = .ok (.getfield 42, 3) := by decide +kernel
theorem dX8_wear_89 : decode cX8_wear 89 = .ok (.iload_n 1, 1) := by decide +kernel
theorem dX8_wear_90 : decode cX8_wear 90 = .ok (.iaload, 1) := by decide +kernel
theorem dX8_wear_91 : decode cX8_wear 91 = .ok (.ireturn, 1) := by decide +kernel
theorem dX8_wear_92 : decode cX8_wear 92 = .ok (.iconst 0, 1) := by decide +kernel
theorem dX8_wear_93 : decode cX8_wear 93 = .ok (.istore_n 3, 1) := by decide +kernel
theorem dX8_wear_94 : decode cX8_wear 94 = .ok (.iload_n 3, 1) := by decide +kernel
theorem dX8_wear_95 : decode cX8_wear 95 = .ok (.aload_n 0, 1) := by decide +kernel
theorem dX8_wear_96 : decode cX8_wear 96 = .ok (.getfield 101, 3) := by decide +kernel
theorem dX8_wear_99 : decode cX8_wear 99 = .ok (.if_icmp .ge 26, 3) := by decide +kernel
theorem dX8_wear_102 : decode cX8_wear 102 = .ok (.aload_n 0, 1) := by decide +kernel
theorem dX8_wear_103 : decode cX8_wear 103 = .ok (.getfield 51, 3) := by decide +kernel
theorem dX8_wear_106 : decode cX8_wear 106 = .ok (.iload_n 3, 1) := by decide +kernel
theorem dX8_wear_107 : decode cX8_wear 107 = .ok (.iaload, 1) := by decide +kernel
theorem dX8_wear_108 : decode cX8_wear 108 = .ok (.iload_n 1, 1) := by decide +kernel
theorem dX8_wear_109 : decode cX8_wear 109 = .ok (.if_icmp .ne 10, 3) := by decide +kernel
theorem dX8_wear_112 : decode cX8_wear 112 = .ok (.aload_n 0, 1) := by decide +kernel
theorem dX8_wear_113 : decode cX8_wear 113 = .ok (.getfield 51, 3) := by decide +kernel
theorem dX8_wear_116 : decode cX8_wear 116 = .ok (.iload_n 3, 1) := by decide +kernel
theorem dX8_wear_117 : decode cX8_wear 117 = .ok (.iconst (-1), 1) := by decide +kernel
theorem dX8_wear_118 : decode cX8_wear 118 = .ok (.iastore, 1) := by decide +kernel
theorem dX8_wear_119 : decode cX8_wear 119 = .ok (.iinc 3 1, 3) := by decide +kernel
theorem dX8_wear_122 : decode cX8_wear 122 = .ok (.goto (-28), 3) := by decide +kernel
theorem dX8_wear_125 : decode cX8_wear 125 = .ok (.aload_n 0, 1) := by decide +kernel
theorem dX8_wear_126 : decode cX8_wear 126 = .ok (.getfield 51, 3) := by decide +kernel
theorem dX8_wear_129 : decode cX8_wear 129 = .ok (.iload_n 1, 1) := by decide +kernel
theorem dX8_wear_130 : decode cX8_wear 130 = .ok (.iconst (-1), 1) := by decide +kernel
theorem dX8_wear_131 : decode cX8_wear 131 = .ok (.iastore, 1) := by decide +kernel
theorem dX8_wear_132 : decode cX8_wear 132 = .ok (.aload_n 0, 1) := by decide +kernel
theorem dX8_wear_133 : decode cX8_wear 133 = .ok (.getfield 54, 3) := by decide +kernel
theorem dX8_wear_136 : decode cX8_wear 136 = .ok (.iload_n 1, 1) := by decide +kernel
theorem dX8_wear_137 : decode cX8_wear 137 = .ok (.iconst (-1), 1) := by decide +kernel
theorem dX8_wear_138 : decode cX8_wear 138 = .ok (.iastore, 1) := by decide +kernel
theorem dX8_wear_139 : decode cX8_wear 139 = .ok (.aload_n 0, 1) := by decide +kernel
theorem dX8_wear_140 : decode cX8_wear 140 = .ok (.getfield 57, 3) := by decide +kernel
theorem dX8_wear_143 : decode cX8_wear 143 = .ok (.iload_n 1, 1) := by decide +kernel
theorem dX8_wear_144 : decode cX8_wear 144 = .ok (.iconst (-1), 1) := by decide +kernel
theorem dX8_wear_145 : decode cX8_wear 145 = .ok (.iastore, 1) := by decide +kernel
theorem dX8_wear_146 : decode cX8_wear 146 = .ok (.aload_n 0, 1) := by decide +kernel
theorem dX8_wear_147 : decode cX8_wear 147 = .ok (.getfield 60, 3) := by decide +kernel
theorem dX8_wear_150 : decode cX8_wear 150 = .ok (.iload_n 1, 1) := by decide +kernel
theorem dX8_wear_151 : decode cX8_wear 151 = .ok (.iconst (-1), 1) := by decide +kernel
theorem dX8_wear_152 : decode cX8_wear 152 = .ok (.iastore, 1) := by decide +kernel
theorem dX8_wear_153 : decode cX8_wear 153 = .ok (.bipush 100, 2) := by decide +kernel
theorem dX8_wear_155 : decode cX8_wear 155 = .ok (.ireturn, 1) := by decide +kernel
theorem dX8_days_0 : decode cX8_days 0 = .ok (.aload_n 0, 1) := by decide +kernel
theorem dX8_days_1 : decode cX8_days 1 = .ok (.iconst 0, 1) := by decide +kernel
theorem dX8_days_2 : decode cX8_days 2 = .ok (.putfield 87, 3) := by decide +kernel
theorem dX8_days_5 : decode cX8_days 5 = .ok (.aload_n 0, 1) := by decide +kernel
theorem dX8_days_6 : decode cX8_days 6 = .ok (.iload_n 1, 1) := by decide +kernel
theorem dX8_days_7 : decode cX8_days 7 = .ok (.i2l, 1) := by decide +kernel
theorem dX8_days_8 : decode cX8_days 8 = .ok (.lconst 0, 1) := by decide +kernel
theorem dX8_days_9 : decode cX8_days 9 = .ok (.ldc2_w 127, 3) := by decide +kernel
theorem dX8_days_12 : decode cX8_days 12 = .ok (.invokestatic 94, 3) := by decide +kernel
theorem dX8_days_15 : decode cX8_days 15 = .ok (.ifCond .ne 7, 3) := by decide +kernel
theorem dX8_days_18 : decode cX8_days 18 = .ok (.iconst 1, 1) := by decide +kernel
theorem dX8_days_19 : decode cX8_days 19 = .ok (.goto 4, 3) := by decide +kernel
theorem dX8_days_22 : decode cX8_days 22 = .ok (.iconst 0, 1) := by decide +kernel
theorem dX8_days_23 : decode cX8_days 23 = .ok (.iconst 1, 1) := by decide +kernel
theorem dX8_days_24 : decode cX8_days 24 = .ok (.invokevirtual 106, 3) := by decide +kernel
theorem dX8_days_27 : decode cX8_days 27 = .ok (.ifCond .eq 5, 3) := by decide +kernel
theorem dX8_days_30 : decode cX8_days 30 = .ok (.iconst 0, 1) := by decide +kernel
theorem dX8_days_31 : decode cX8_days 31 = .ok (.ireturn, 1) := by decide +kernel
theorem dX8_days_32 : decode cX8_days 32 = .ok (.iconst 0, 1) := by decide +kernel
theorem dX8_days_33 : decode cX8_days 33 = .ok (.istore_n 2, 1) := by decide +kernel
theorem dX8_days_34 : decode cX8_days 34 = .ok (.iload_n 2, 1) := by decide +kernel
theorem dX8_days_35 : decode cX8_days 35 = .ok (.iload_n 1, 1) := by decide +kernel
theorem dX8_days_36 : decode cX8_days 36 = .ok (.if_icmp .ge 87, 3) := by decide +kernel
theorem dX8_days_39 : decode cX8_days 39 = .ok (.aload_n 0, 1) := by decide +kernel
theorem dX8_days_40 : decode cX8_days 40 = .ok (.dup, 1) := by decide +kernel
theorem dX8_days_41 : decode cX8_days 41 = .ok (.getfield 133, 3) := by decide +kernel
theorem dX8_days_44 : decode cX8_days 44 = .ok (.iconst 1, 1) := by decide +kernel
theorem dX8_days_45 : decode cX8_days 45 = .ok (.iadd, 1) := by decide +kernel
theorem dX8_days_46 : decode cX8_days 46 = .ok (.putfield 133, 3) := by decide +kernel
theorem dX8_days_49 : decode cX8_days 49 = .ok (.iconst 0, 1) := by decide +kernel
theorem dX8_days_50 : decode cX8_days 50 = .ok (.istore_n 3, 1) := by decide +kernel
theorem dX8_days_51 : decode cX8_days 51 = .ok (.iload_n 3, 1) := by decide +kernel
theorem dX8_days_52 : decode cX8_days 52 = .ok (.aload_n 0, 1) := by decide +kernel
theorem dX8_days_53 : decode cX8_days 53 = .ok (.getfield 101, 3) := by decide +kernel
theorem dX8_days_56 : decode cX8_days 56 = .ok (.if_icmp .ge 61, 3) := by decide +kernel
theorem dX8_days_59 : decode cX8_days 59 = .ok (.aload_n 0, 1) := by decide +kernel
theorem dX8_days_60 : decode cX8_days 60 = .ok (.getfield 57, 3) := by decide +kernel
theorem dX8_days_63 : decode cX8_days 63 = .ok (.iload_n 3, 1) := by decide +kernel
theorem dX8_days_64 : decode cX8_days 64 = .ok (.iaload, 1) := by decide +kernel
theorem dX8_days_65 : decode cX8_days 65 = .ok (.aload_n 0, 1) := by decide +kernel
theorem dX8_days_66 : decode cX8_days 66 = .ok (.getfield 133, 3) := by decide +kernel
theorem dX8_days_69 : decode cX8_days 69 = .ok (.if_icmp .eq 6, 3) := by decide +kernel
theorem dX8_days_72 : decode cX8_days 72 = .ok (.goto 39, 3) := by decide +kernel
theorem dX8_days_75 : decode cX8_days 75 = .ok (.aload_n 0, 1) := by decide +kernel
theorem dX8_days_76 : decode cX8_days 76 = .ok (.getfield 51, 3) := by decide +kernel
theorem dX8_days_79 : decode cX8_days 79 = .ok (.iload_n 3, 1) := by decide +kernel
theorem dX8_days_80 : decode cX8_days 80 = .ok (.iconst (-1), 1) := by decide +kernel
theorem dX8_days_81 : decode cX8_days 81 = .ok (.iastore, 1) := by decide +kernel
theorem dX8_days_82 : decode cX8_days 82 = .ok (.aload_n 0, 1) := by decide +kernel
theorem dX8_days_83 : decode cX8_days 83 = .ok (.getfield 60, 3) := by decide +kernel
theorem dX8_days_86 : decode cX8_days 86 = .ok (.iload_n 3, 1) := by decide +kernel
theorem dX8_days_87 : decode cX8_days 87 = .ok (.iaload, 1) := by decide +kernel
theorem dX8_days_88 : decode cX8_days 88 = .ok (.istore 4, 2) := by decide +kernel
theorem dX8_days_90 : decode cX8_days 90 = .ok (.aload_n 0, 1) := by decide +kernel
theorem dX8_days_91 : decode cX8_days 91 = .ok (.getfield 57, 3) := by decide +kernel
theorem dX8_days_94 : decode cX8_days 94 = .ok (.iload_n 3, 1) := by decide +kernel
theorem dX8_days_95 : decode cX8_days 95 = .ok (.iconst (-1), 1) := by decide +kernel
theorem dX8_days_96 : decode cX8_days 96 = .ok (.iastore, 1) := by decide +kernel
theorem dX8_days_97 : decode cX8_days 97 = .ok (.aload_n 0, 1) := by decide +kernel
theorem dX8_days_98 : decode cX8_days 98 = .ok (.getfield 60, 3) := by decide +kernel
theorem dX8_days_101 : decode cX8_days 101 = .ok (.iload_n 3, 1) := by decide +kernel
theorem dX8_days_102 : decode cX8_days 102 = .ok (.iconst (-1), 1) := by decide +kernel
theorem dX8_days_103 : decode cX8_days 103 = .ok (.iastore, 1) := by decide +kernel
theorem dX8_days_104 : decode cX8_days 104 = .ok (.aload_n 0, 1) := by decide +kernel
theorem dX8_days_105 : decode cX8_days 105 = .ok (.iload_n 3, 1) := by decide +kernel
theorem dX8_days_106 : decode cX8_days 106 = .ok (.iload 4, 2) := by decide +kernel
theorem dX8_days_108 : decode cX8_days 108 = .ok (.invokevirtual 162, 3) := by decide +kernel
theorem dX8_days_111 : decode cX8_days 111 = .ok (.iinc 3 1, 3) := by decide +kernel
theorem dX8_days_114 : decode cX8_days 114 = .ok (.goto (-63), 3) := by decide +kernel
theorem dX8_days_117 : decode cX8_days 117 = .ok (.iinc 2 1, 3) := by decide +kernel
theorem dX8_days_120 : decode cX8_days 120 = .ok (.goto (-86), 3) := by decide +kernel
theorem dX8_days_123 : decode cX8_days 123 = .ok (.aload_n 0, 1) := by decide +kernel
theorem dX8_days_124 : decode cX8_days 124 = .ok (.getfield 133, 3) := by decide +kernel
theorem dX8_days_127 : decode cX8_days 127 = .ok (.ireturn, 1) := by decide +kernel
theorem dX8_look_0 : decode cX8_look 0 = .ok (.aload_n 0, 1) := by decide +kernel
theorem dX8_look_1 : decode cX8_look 1 = .ok (.iconst 0, 1) := by decide +kernel
theorem dX8_look_2 : decode cX8_look 2 = .ok (.putfield 87, 3) := by decide +kernel
theorem dX8_look_5 : decode cX8_look 5 = .ok (.aload_n 0, 1) := by decide +kernel
theorem dX8_look_6 : decode cX8_look 6 = .ok (.aload_n 0, 1) := by decide +kernel
theorem dX8_look_7 : decode cX8_look 7 = .ok (.iload_n 1, 1) := by decide +kernel
theorem dX8_look_8 : decode cX8_look 8 = .ok (.invokevirtual 142, 3) := by decide +kernel
theorem dX8_look_11 : decode cX8_look 11 = .ok (.iconst 1, 1) := by decide +kernel
theorem dX8_look_12 : decode cX8_look 12 = .ok (.invokevirtual 106, 3) := by decide +kernel
theorem dX8_look_15 : decode cX8_look 15 = .ok (.ifCond .eq 5, 3) := by decide +kernel
theorem dX8_look_18 : decode cX8_look 18 = .ok (.iconst 0, 1) := by decide +kernel
theorem dX8_look_19 : decode cX8_look 19 = .ok (.ireturn, 1) := by decide +kernel
theorem dX8_look_20 : decode cX8_look 20 = .ok (.iload_n 2, 1) := by decide +kernel
theorem dX8_look_21 : decode cX8_look 21 = .ok (.tableswitch 153 0 8 #[51, 58, 65, 72, 78, 118, 132, 139, 146], 51) := by decide +kernel
theorem dX8_look_72 : decode cX8_look 72 = .ok (.aload_n 0, 1) := by decide +kernel
theorem dX8_look_73 : decode cX8_look 73 = .ok (.getfield 54, 3) := by decide +kernel
theorem dX8_look_76 : decode cX8_look 76 = .ok (.iload_n 1, 1) := by decide +kernel
theorem dX8_look_77 : decode cX8_look 77 = .ok (.iaload, 1) := by decide +kernel
theorem dX8_look_78 : decode cX8_look 78 = .ok (.ireturn, 1) := by decide +kernel
theorem dX8_look_79 : decode cX8_look 79 = .ok (.aload_n 0, 1) := by decide +kernel
theorem dX8_look_80 : decode cX8_look 80 = .ok (.getfield 51, 3) := by decide +kernel
theorem dX8_look_83 : decode cX8_look 83 = .ok (.iload_n 1, 1) := by decide +kernel
theorem dX8_look_84 : decode cX8_look 84 = .ok (.iaload, 1) := by decide +kernel
theorem dX8_look_85 : decode cX8_look 85 = .ok (.ireturn, 1) := by decide +kernel
theorem dX8_look_86 : decode cX8_look 86 = .ok (.aload_n 0, 1) := by decide +kernel
theorem dX8_look_87 : decode cX8_look 87 = .ok (.getfield 42, 3) := by decide +kernel
theorem dX8_look_90 : decode cX8_look 90 = .ok (.iload_n 1, 1) := by decide +kernel
theorem dX8_look_91 : decode cX8_look 91 = .ok (.iaload, 1) := by decide +kernel
theorem dX8_look_92 : decode cX8_look 92 = .ok (.ireturn, 1) := by decide +kernel
theorem dX8_look_93 : decode cX8_look 93 = .ok (.aload_n 0, 1) := by decide +kernel
theorem dX8_look_94 : decode cX8_look 94 = .ok (.iload_n 1, 1) := by decide +kernel
theorem dX8_look_95 : decode cX8_look 95 = .ok (.invokevirtual 152, 3) := by decide +kernel
theorem dX8_look_98 : decode cX8_look 98 = .ok (.ireturn, 1) := by decide +kernel
theorem dX8_look_99 : decode cX8_look 99 = .ok (.iconst 0, 1) := by decide +kernel
theorem dX8_look_100 : decode cX8_look 100 = .ok (.istore_n 3, 1) := by decide +kernel
theorem dX8_look_101 : decode cX8_look 101 = .ok (.iconst 0, 1) := by decide +kernel
theorem dX8_look_102 : decode cX8_look 102 = .ok (.istore 4, 2) := by decide +kernel
theorem dX8_look_104 : decode cX8_look 104 = .ok (.iload 4, 2) := by decide +kernel
theorem dX8_look_106 : decode cX8_look 106 = .ok (.aload_n 0, 1) := by decide +kernel
theorem dX8_look_107 : decode cX8_look 107 = .ok (.getfield 101, 3) := by decide +kernel
theorem dX8_look_110 : decode cX8_look 110 = .ok (.if_icmp .ge 27, 3) := by decide +kernel
theorem dX8_look_113 : decode cX8_look 113 = .ok (.iload_n 3, 1) := by decide +kernel
theorem dX8_look_114 : decode cX8_look 114 = .ok (.aload_n 0, 1) := by decide +kernel
theorem dX8_look_115 : decode cX8_look 115 = .ok (.iload 4, 2) := by decide +kernel
theorem dX8_look_117 : decode cX8_look 117 = .ok (.iload_n 1, 1) := by decide +kernel
theorem dX8_look_118 : decode cX8_look 118 = .ok (.invokevirtual 148, 3) := by decide +kernel
theorem dX8_look_121 : decode cX8_look 121 = .ok (.ifCond .eq 7, 3) := by decide +kernel
theorem dX8_look_124 : decode cX8_look 124 = .ok (.iconst 1, 1) := by decide +kernel
theorem dX8_look_125 : decode cX8_look 125 = .ok (.goto 4, 3) := by decide +kernel
theorem dX8_look_128 : decode cX8_look 128 = .ok (.iconst 0, 1) := by decide +kernel
theorem dX8_look_129 : decode cX8_look 129 = .ok (.iadd, 1) := by decide +kernel
theorem dX8_look_130 : decode cX8_look 130 = .ok (.istore_n 3, 1) := by decide +kernel
theorem dX8_look_131 : decode cX8_look 131 = .ok (.iinc 4 1, 3) := by decide +kernel
theorem dX8_look_134 : decode cX8_look 134 = .ok (.goto (-30), 3) := by decide +kernel
theorem dX8_look_137 : decode cX8_look 137 = .ok (.iload_n 3, 1) := by decide +kernel
end
section
theorem dX8_look_138 : decode cX8_look 138 = .ok (.ireturn, 1) := by decide +kernel
theorem dX8_look_139 : decode cX8_look 139 = .ok (.aload_n 0, 1) := by decide +kernel
theorem dX8_look_140 : decode cX8_look 140 = .ok (.iload_n 1, 1) := by decide +kernel
theorem dX8_look_141 : decode cX8_look 141 = .ok (.invokevirtual 156, 3) := by decide +kernel
theorem dX8_look_144 : decode cX8_look 144 = .ok (.ifCond .eq 7, 3) := by decide +kernel
theorem dX8_look_147 : decode cX8_look 147 = .ok (.iconst 1, 1) := by decide +kernel
theorem dX8_look_148 : decode cX8_look 148 = .ok (.goto 4, 3) := by decide +kernel
theorem dX8_look_151 : decode cX8_look 151 = .ok (.iconst 0, 1) := by decide +kernel
theorem dX8_look_152 : decode cX8_look 152 = .ok (.ireturn, 1) := by decide +kernel
theorem dX8_look_153 : decode cX8_look 153 = .ok (.aload_n 0, 1) := by decide +kernel
theorem dX8_look_154 : decode cX8_look 154 = .ok (.getfield 57, 3) := by decide +kernel
theorem dX8_look_157 : decode cX8_look 157 = .ok (.iload_n 1, 1) := by decide +kernel
theorem dX8_look_158 : decode cX8_look 158 = .ok (.iaload, 1) := by decide +kernel
theorem dX8_look_159 : decode cX8_look 159 = .ok (.ireturn, 1) := by decide +kernel
theorem dX8_look_160 : decode cX8_look 160 = .ok (.aload_n 0, 1) := by decide +kernel
theorem dX8_look_161 : decode cX8_look 161 = .ok (.getfield 60, 3) := by decide +kernel
theorem dX8_look_164 : decode cX8_look 164 = .ok (.iload_n 1, 1) := by decide +kernel
theorem dX8_look_165 : decode cX8_look 165 = .ok (.iaload, 1) := by decide +kernel
theorem dX8_look_166 : decode cX8_look 166 = .ok (.ireturn, 1) := by decide +kernel
theorem dX8_look_167 : decode cX8_look 167 = .ok (.aload_n 0, 1) := by decide +kernel
theorem dX8_look_168 : decode cX8_look 168 = .ok (.getfield 69, 3) := by decide +kernel
theorem dX8_look_171 : decode cX8_look 171 = .ok (.iload_n 1, 1) := by decide +kernel
theorem dX8_look_172 : decode cX8_look 172 = .ok (.iaload, 1) := by decide +kernel
theorem dX8_look_173 : decode cX8_look 173 = .ok (.ireturn, 1) := by decide +kernel
theorem dX8_look_174 : decode cX8_look 174 = .ok (.aload_n 0, 1) := by decide +kernel
theorem dX8_look_175 : decode cX8_look 175 = .ok (.iconst 2, 1) := by decide +kernel
theorem dX8_look_176 : decode cX8_look 176 = .ok (.putfield 87, 3) := by decide +kernel
theorem dX8_look_179 : decode cX8_look 179 = .ok (.iconst 0, 1) := by decide +kernel
theorem dX8_look_180 : decode cX8_look 180 = .ok (.ireturn, 1) := by decide +kernel
theorem dX8_line_0 : decode cX8_line 0 = .ok (.aload_n 0, 1) := by decide +kernel
theorem dX8_line_1 : decode cX8_line 1 = .ok (.iconst 0, 1) := by decide +kernel
theorem dX8_line_2 : decode cX8_line 2 = .ok (.putfield 87, 3) := by decide +kernel
theorem dX8_line_5 : decode cX8_line 5 = .ok (.aload_n 0, 1) := by decide +kernel
theorem dX8_line_6 : decode cX8_line 6 = .ok (.aload_n 0, 1) := by decide +kernel
theorem dX8_line_7 : decode cX8_line 7 = .ok (.iload_n 1, 1) := by decide +kernel
theorem dX8_line_8 : decode cX8_line 8 = .ok (.invokevirtual 142, 3) := by decide +kernel
theorem dX8_line_11 : decode cX8_line 11 = .ok (.iconst 1, 1) := by decide +kernel
theorem dX8_line_12 : decode cX8_line 12 = .ok (.invokevirtual 106, 3) := by decide +kernel
theorem dX8_line_15 : decode cX8_line 15 = .ok (.ifCond .eq 5, 3) := by decide +kernel
theorem dX8_line_18 : decode cX8_line 18 = .ok (.iconst 0, 1) := by decide +kernel
theorem dX8_line_19 : decode cX8_line 19 = .ok (.ireturn, 1) := by decide +kernel
theorem dX8_line_20 : decode cX8_line 20 = .ok (.iload_n 2, 1) := by decide +kernel
theorem dX8_line_21 : decode cX8_line 21 = .ok (.ifCond .lt 19, 3) := by decide +kernel
theorem dX8_line_24 : decode cX8_line 24 = .ok (.iload_n 2, 1) := by decide +kernel
theorem dX8_line_25 : decode cX8_line 25 = .ok (.aload_n 0, 1) := by decide +kernel
theorem dX8_line_26 : decode cX8_line 26 = .ok (.getfield 69, 3) := by decide +kernel
theorem dX8_line_29 : decode cX8_line 29 = .ok (.iload_n 1, 1) := by decide +kernel
theorem dX8_line_30 : decode cX8_line 30 = .ok (.iaload, 1) := by decide +kernel
theorem dX8_line_31 : decode cX8_line 31 = .ok (.if_icmp .ge 9, 3) := by decide +kernel
theorem dX8_line_34 : decode cX8_line 34 = .ok (.iload_n 2, 1) := by decide +kernel
theorem dX8_line_35 : decode cX8_line 35 = .ok (.bipush 30, 2) := by decide +kernel
theorem dX8_line_37 : decode cX8_line 37 = .ok (.if_icmp .lt 5, 3) := by decide +kernel
theorem dX8_line_40 : decode cX8_line 40 = .ok (.iconst (-1), 1) := by decide +kernel
theorem dX8_line_41 : decode cX8_line 41 = .ok (.ireturn, 1) := by decide +kernel
theorem dX8_line_42 : decode cX8_line 42 = .ok (.iload_n 3, 1) := by decide +kernel
theorem dX8_line_43 : decode cX8_line 43 = .ok (.ifCond .eq 17, 3) := by decide +kernel
theorem dX8_line_46 : decode cX8_line 46 = .ok (.aload_n 0, 1) := by decide +kernel
theorem dX8_line_47 : decode cX8_line 47 = .ok (.getfield 66, 3) := by decide +kernel
theorem dX8_line_50 : decode cX8_line 50 = .ok (.bipush 30, 2) := by decide +kernel
theorem dX8_line_52 : decode cX8_line 52 = .ok (.iload_n 1, 1) := by decide +kernel
theorem dX8_line_53 : decode cX8_line 53 = .ok (.imul, 1) := by decide +kernel
theorem dX8_line_54 : decode cX8_line 54 = .ok (.iload_n 2, 1) := by decide +kernel
theorem dX8_line_55 : decode cX8_line 55 = .ok (.iadd, 1) := by decide +kernel
theorem dX8_line_56 : decode cX8_line 56 = .ok (.iaload, 1) := by decide +kernel
theorem dX8_line_57 : decode cX8_line 57 = .ok (.goto 14, 3) := by decide +kernel
theorem dX8_line_60 : decode cX8_line 60 = .ok (.aload_n 0, 1) := by decide +kernel
theorem dX8_line_61 : decode cX8_line 61 = .ok (.getfield 63, 3) := by decide +kernel
theorem dX8_line_64 : decode cX8_line 64 = .ok (.bipush 30, 2) := by decide +kernel
theorem dX8_line_66 : decode cX8_line 66 = .ok (.iload_n 1, 1) := by decide +kernel
theorem dX8_line_67 : decode cX8_line 67 = .ok (.imul, 1) := by decide +kernel
theorem dX8_line_68 : decode cX8_line 68 = .ok (.iload_n 2, 1) := by decide +kernel
theorem dX8_line_69 : decode cX8_line 69 = .ok (.iadd, 1) := by decide +kernel
theorem dX8_line_70 : decode cX8_line 70 = .ok (.iaload, 1) := by decide +kernel
theorem dX8_line_71 : decode cX8_line 71 = .ok (.ireturn, 1) := by decide +kernel
theorem dX8_offer_0 : decode cX8_offer 0 = .ok (.aload_n 0, 1) := by decide +kernel
theorem dX8_offer_1 : decode cX8_offer 1 = .ok (.iconst 0, 1) := by decide +kernel
theorem dX8_offer_2 : decode cX8_offer 2 = .ok (.putfield 87, 3) := by decide +kernel
theorem dX8_offer_5 : decode cX8_offer 5 = .ok (.aload_n 0, 1) := by decide +kernel
theorem dX8_offer_6 : decode cX8_offer 6 = .ok (.iload_n 1, 1) := by decide +kernel
theorem dX8_offer_7 : decode cX8_offer 7 = .ok (.invokevirtual 124, 3) := by decide +kernel
theorem dX8_offer_10 : decode cX8_offer 10 = .ok (.ifCond .ne 57, 3) := by decide +kernel
theorem dX8_offer_13 : decode cX8_offer 13 = .ok (.aload_n 0, 1) := by decide +kernel
theorem dX8_offer_14 : decode cX8_offer 14 = .ok (.iload_n 2, 1) := by decide +kernel
theorem dX8_offer_15 : decode cX8_offer 15 = .ok (.invokevirtual 124, 3) := by decide +kernel
theorem dX8_offer_18 : decode cX8_offer 18 = .ok (.ifCond .ne 49, 3) := by decide +kernel
theorem dX8_offer_21 : decode cX8_offer 21 = .ok (.iload 4, 2) := by decide +kernel
theorem dX8_offer_23 : decode cX8_offer 23 = .ok (.invokestatic 114, 3) := by decide +kernel
theorem dX8_offer_26 : decode cX8_offer 26 = .ok (.ifCond .ne 41, 3) := by decide +kernel
theorem dX8_offer_29 : decode cX8_offer 29 = .ok (.iload 7, 2) := by decide +kernel
theorem dX8_offer_31 : decode cX8_offer 31 = .ok (.invokestatic 114, 3) := by decide +kernel
theorem dX8_offer_34 : decode cX8_offer 34 = .ok (.ifCond .ne 33, 3) := by decide +kernel
theorem dX8_offer_37 : decode cX8_offer 37 = .ok (.iload 5, 2) := by decide +kernel
theorem dX8_offer_39 : decode cX8_offer 39 = .ok (.iconst (-1), 1) := by decide +kernel
theorem dX8_offer_40 : decode cX8_offer 40 = .ok (.if_icmp .eq 12, 3) := by decide +kernel
theorem dX8_offer_43 : decode cX8_offer 43 = .ok (.aload_n 0, 1) := by decide +kernel
theorem dX8_offer_44 : decode cX8_offer 44 = .ok (.iload 5, 2) := by decide +kernel
theorem dX8_offer_46 : decode cX8_offer 46 = .ok (.invokevirtual 142, 3) := by decide +kernel
theorem dX8_offer_49 : decode cX8_offer 49 = .ok (.ifCond .ne 18, 3) := by decide +kernel
theorem dX8_offer_52 : decode cX8_offer 52 = .ok (.iload 8, 2) := by decide +kernel
theorem dX8_offer_54 : decode cX8_offer 54 = .ok (.iconst (-1), 1) := by decide +kernel
theorem dX8_offer_55 : decode cX8_offer 55 = .ok (.if_icmp .eq 16, 3) := by decide +kernel
theorem dX8_offer_58 : decode cX8_offer 58 = .ok (.aload_n 0, 1) := by decide +kernel
theorem dX8_offer_59 : decode cX8_offer 59 = .ok (.iload 8, 2) := by decide +kernel
theorem dX8_offer_61 : decode cX8_offer 61 = .ok (.invokevirtual 142, 3) := by decide +kernel
theorem dX8_offer_64 : decode cX8_offer 64 = .ok (.ifCond .eq 7, 3) := by decide +kernel
theorem dX8_offer_67 : decode cX8_offer 67 = .ok (.iconst 1, 1) := by decide +kernel
theorem dX8_offer_68 : decode cX8_offer 68 = .ok (.goto 4, 3) := by decide +kernel
theorem dX8_offer_71 : decode cX8_offer 71 = .ok (.iconst 0, 1) := by decide +kernel
theorem dX8_offer_72 : decode cX8_offer 72 = .ok (.istore 9, 2) := by decide +kernel
theorem dX8_offer_74 : decode cX8_offer 74 = .ok (.aload_n 0, 1) := by decide +kernel
theorem dX8_offer_75 : decode cX8_offer 75 = .ok (.iload 9, 2) := by decide +kernel
theorem dX8_offer_77 : decode cX8_offer 77 = .ok (.iconst 1, 1) := by decide +kernel
theorem dX8_offer_78 : decode cX8_offer 78 = .ok (.invokevirtual 106, 3) := by decide +kernel
theorem dX8_offer_81 : decode cX8_offer 81 = .ok (.ifCond .ne 68, 3) := by decide +kernel
theorem dX8_offer_84 : decode cX8_offer 84 = .ok (.aload_n 0, 1) := by decide +kernel
theorem dX8_offer_85 : decode cX8_offer 85 = .ok (.iload_n 1, 1) := by decide +kernel
theorem dX8_offer_86 : decode cX8_offer 86 = .ok (.iload_n 2, 1) := by decide +kernel
theorem dX8_offer_87 : decode cX8_offer 87 = .ok (.if_icmp .eq 28, 3) := by decide +kernel
theorem dX8_offer_90 : decode cX8_offer 90 = .ok (.iload_n 3, 1) := by decide +kernel
theorem dX8_offer_91 : decode cX8_offer 91 = .ok (.i2l, 1) := by decide +kernel
theorem dX8_offer_92 : decode cX8_offer 92 = .ok (.lconst 0, 1) := by decide +kernel
theorem dX8_offer_93 : decode cX8_offer 93 = .ok (.ldc2_w 173, 3) := by decide +kernel
theorem dX8_offer_96 : decode cX8_offer 96 = .ok (.invokestatic 94, 3) := by decide +kernel
theorem dX8_offer_99 : decode cX8_offer 99 = .ok (.ifCond .eq 16, 3) := by decide +kernel
theorem dX8_offer_102 : decode cX8_offer 102 = .ok (.iload 6, 2) := by decide +kernel
theorem dX8_offer_104 : decode cX8_offer 104 = .ok (.i2l, 1) := by decide +kernel
theorem dX8_offer_105 : decode cX8_offer 105 = .ok (.lconst 0, 1) := by decide +kernel
theorem dX8_offer_106 : decode cX8_offer 106 = .ok (.ldc2_w 173, 3) := by decide +kernel
theorem dX8_offer_109 : decode cX8_offer 109 = .ok (.invokestatic 94, 3) := by decide +kernel
theorem dX8_offer_112 : decode cX8_offer 112 = .ok (.ifCond .ne 7, 3) := by decide +kernel
theorem dX8_offer_115 : decode cX8_offer 115 = .ok (.iconst 1, 1) := by decide +kernel
theorem dX8_offer_116 : decode cX8_offer 116 = .ok (.goto 4, 3) := by decide +kernel
theorem dX8_offer_119 : decode cX8_offer 119 = .ok (.iconst 0, 1) := by decide +kernel
theorem dX8_offer_120 : decode cX8_offer 120 = .ok (.iconst 2, 1) := by decide +kernel
theorem dX8_offer_121 : decode cX8_offer 121 = .ok (.invokevirtual 106, 3) := by decide +kernel
theorem dX8_offer_124 : decode cX8_offer 124 = .ok (.ifCond .ne 25, 3) := by decide +kernel
theorem dX8_offer_127 : decode cX8_offer 127 = .ok (.aload_n 0, 1) := by decide +kernel
theorem dX8_offer_128 : decode cX8_offer 128 = .ok (.aload_n 0, 1) := by decide +kernel
theorem dX8_offer_129 : decode cX8_offer 129 = .ok (.getfield 175, 3) := by decide +kernel
theorem dX8_offer_132 : decode cX8_offer 132 = .ok (.bipush 60, 2) := by decide +kernel
theorem dX8_offer_134 : decode cX8_offer 134 = .ok (.if_icmp .ne 7, 3) := by decide +kernel
theorem dX8_offer_137 : decode cX8_offer 137 = .ok (.iconst 1, 1) := by decide +kernel
theorem dX8_offer_138 : decode cX8_offer 138 = .ok (.goto 4, 3) := by decide +kernel
theorem dX8_offer_141 : decode cX8_offer 141 = .ok (.iconst 0, 1) := by decide +kernel
theorem dX8_offer_142 : decode cX8_offer 142 = .ok (.iconst 3, 1) := by decide +kernel
theorem dX8_offer_143 : decode cX8_offer 143 = .ok (.invokevirtual 106, 3) := by decide +kernel
theorem dX8_offer_146 : decode cX8_offer 146 = .ok (.ifCond .eq 5, 3) := by decide +kernel
theorem dX8_offer_149 : decode cX8_offer 149 = .ok (.iconst 0, 1) := by decide +kernel
theorem dX8_offer_150 : decode cX8_offer 150 = .ok (.ireturn, 1) := by decide +kernel
theorem dX8_offer_151 : decode cX8_offer 151 = .ok (.bipush 10, 2) := by decide +kernel
theorem dX8_offer_153 : decode cX8_offer 153 = .ok (.aload_n 0, 1) := by decide +kernel
theorem dX8_offer_154 : decode cX8_offer 154 = .ok (.getfield 175, 3) := by decide +kernel
theorem dX8_offer_157 : decode cX8_offer 157 = .ok (.imul, 1) := by decide +kernel
theorem dX8_offer_158 : decode cX8_offer 158 = .ok (.istore 10, 2) := by decide +kernel
theorem dX8_offer_160 : decode cX8_offer 160 = .ok (.aload_n 0, 1) := by decide +kernel
theorem dX8_offer_161 : decode cX8_offer 161 = .ok (.getfield 72, 3) := by decide +kernel
theorem dX8_offer_164 : decode cX8_offer 164 = .ok (.iload 10, 2) := by decide +kernel
theorem dX8_offer_166 : decode cX8_offer 166 = .ok (.iload_n 1, 1) := by decide +kernel
theorem dX8_offer_167 : decode cX8_offer 167 = .ok (.iastore, 1) := by decide +kernel
theorem dX8_offer_168 : decode cX8_offer 168 = .ok (.aload_n 0, 1) := by decide +kernel
theorem dX8_offer_169 : decode cX8_offer 169 = .ok (.getfield 72, 3) := by decide +kernel
theorem dX8_offer_172 : decode cX8_offer 172 = .ok (.iload 10, 2) := by decide +kernel
theorem dX8_offer_174 : decode cX8_offer 174 = .ok (.iconst 1, 1) := by decide +kernel
theorem dX8_offer_175 : decode cX8_offer 175 = .ok (.iadd, 1) := by decide +kernel
theorem dX8_offer_176 : decode cX8_offer 176 = .ok (.iload_n 2, 1) := by decide +kernel
theorem dX8_offer_177 : decode cX8_offer 177 = .ok (.iastore, 1) := by decide +kernel
theorem dX8_offer_178 : decode cX8_offer 178 = .ok (.aload_n 0, 1) := by decide +kernel
theorem dX8_offer_179 : decode cX8_offer 179 = .ok (.getfield 72, 3) := by decide +kernel
theorem dX8_offer_182 : decode cX8_offer 182 = .ok (.iload 10, 2) := by decide +kernel
theorem dX8_offer_184 : decode cX8_offer 184 = .ok (.iconst 2, 1) := by decide +kernel
theorem dX8_offer_185 : decode cX8_offer 185 = .ok (.iadd, 1) := by decide +kernel
theorem dX8_offer_186 : decode cX8_offer 186 = .ok (.iload_n 3, 1) := by decide +kernel
theorem dX8_offer_187 : decode cX8_offer 187 = .ok (.iastore, 1) := by decide +kernel
theorem dX8_offer_188 : decode cX8_offer 188 = .ok (.aload_n 0, 1) := by decide +kernel
theorem dX8_offer_189 : decode cX8_offer 189 = .ok (.getfield 72, 3) := by decide +kernel
theorem dX8_offer_192 : decode cX8_offer 192 = .ok (.iload 10, 2) := by decide +kernel
theorem dX8_offer_194 : decode cX8_offer 194 = .ok (.iconst 3, 1) := by decide +kernel
theorem dX8_offer_195 : decode cX8_offer 195 = .ok (.iadd, 1) := by decide +kernel
theorem dX8_offer_196 : decode cX8_offer 196 = .ok (.iload 4, 2) := by decide +kernel
theorem dX8_offer_198 : decode cX8_offer 198 = .ok (.iastore, 1) := by decide +kernel
theorem dX8_offer_199 : decode cX8_offer 199 = .ok (.aload_n 0, 1) := by decide +kernel
theorem dX8_offer_200 : decode cX8_offer 200 = .ok (.getfield 72, 3) := by decide +kernel
theorem dX8_offer_203 : decode cX8_offer 203 = .ok (.iload 10, 2) := by decide +kernel
theorem dX8_offer_205 : decode cX8_offer 205 = .ok (.iconst 4, 1) := by decide +kernel
theorem dX8_offer_206 : decode cX8_offer 206 = .ok (.iadd, 1) := by decide +kernel
theorem dX8_offer_207 : decode cX8_offer 207 = .ok (.iload 5, 2) := by decide +kernel
theorem dX8_offer_209 : decode cX8_offer 209 = .ok (.iastore, 1) := by decide +kernel
theorem dX8_offer_210 : decode cX8_offer 210 = .ok (.aload_n 0, 1) := by decide +kernel
theorem dX8_offer_211 : decode cX8_offer 211 = .ok (.getfield 72, 3) := by decide +kernel
theorem dX8_offer_214 : decode cX8_offer 214 = .ok (.iload 10, 2) := by decide +kernel
theorem dX8_offer_216 : decode cX8_offer 216 = .ok (.iconst 5, 1) := by decide +kernel
theorem dX8_offer_217 : decode cX8_offer 217 = .ok (.iadd, 1) := by decide +kernel
theorem dX8_offer_218 : decode cX8_offer 218 = .ok (.iload 6, 2) := by decide +kernel
theorem dX8_offer_220 : decode cX8_offer 220 = .ok (.iastore, 1) := by decide +kernel
theorem dX8_offer_221 : decode cX8_offer 221 = .ok (.aload_n 0, 1) := by decide +kernel
theorem dX8_offer_222 : decode cX8_offer 222 = .ok (.getfield 72, 3) := by decide +kernel
theorem dX8_offer_225 : decode cX8_offer 225 = .ok (.iload 10, 2) := by decide +kernel
theorem dX8_offer_227 : decode cX8_offer 227 = .ok (.bipush 6, 2) := by decide +kernel
theorem dX8_offer_229 : decode cX8_offer 229 = .ok (.iadd, 1) := by decide +kernel
theorem dX8_offer_230 : decode cX8_offer 230 = .ok (.iload 7, 2) := by decide +kernel
theorem dX8_offer_232 : decode cX8_offer 232 = .ok (.iastore, 1) := by decide +kernel
theorem dX8_offer_233 : decode cX8_offer 233 = .ok (.aload_n 0, 1) := by decide +kernel
theorem dX8_offer_234 : decode cX8_offer 234 = .ok (.getfield 72, 3) := by decide +kernel
theorem dX8_offer_237 : decode cX8_offer 237 = .ok (.iload 10, 2) := by decide +kernel
theorem dX8_offer_239 : decode cX8_offer 239 = .ok (.bipush 7, 2) := by decide +kernel
theorem dX8_offer_241 : decode cX8_offer 241 = .ok (.iadd, 1) := by decide +kernel
theorem dX8_offer_242 : decode cX8_offer 242 = .ok (.iload 8, 2) := by decide +kernel
theorem dX8_offer_244 : decode cX8_offer 244 = .ok (.iastore, 1) := by decide +kernel
theorem dX8_offer_245 : decode cX8_offer 245 = .ok (.aload_n 0, 1) := by decide +kernel
theorem dX8_offer_246 : decode cX8_offer 246 = .ok (.getfield 72, 3) := by decide +kernel
theorem dX8_offer_249 : decode cX8_offer 249 = .ok (.iload 10, 2) := by decide +kernel
theorem dX8_offer_251 : decode cX8_offer 251 = .ok (.bipush 8, 2) := by decide +kernel
theorem dX8_offer_253 : decode cX8_offer 253 = .ok (.iadd, 1) := by decide +kernel
theorem dX8_offer_254 : decode cX8_offer 254 = .ok (.iload 5, 2) := by decide +kernel
theorem dX8_offer_256 : decode cX8_offer 256 = .ok (.ifCond .ge 7, 3) := by decide +kernel
theorem dX8_offer_259 : decode cX8_offer 259 = .ok (.iconst 0, 1) := by decide +kernel
theorem dX8_offer_260 : decode cX8_offer 260 = .ok (.goto 10, 3) := by decide +kernel
theorem dX8_offer_263 : decode cX8_offer 263 = .ok (.aload_n 0, 1) := by decide +kernel
theorem dX8_offer_264 : decode cX8_offer 264 = .ok (.getfield 42, 3) := by decide +kernel
theorem dX8_offer_267 : decode cX8_offer 267 = .ok (.iload 5, 2) := by decide +kernel
theorem dX8_offer_269 : decode cX8_offer 269 = .ok (.iaload, 1) := by decide +kernel
theorem dX8_offer_270 : decode cX8_offer 270 = .ok (.iastore, 1) := by decide +kernel
theorem dX8_offer_271 : decode cX8_offer 271 = .ok (.aload_n 0, 1) := by decide +kernel
theorem dX8_offer_272 : decode cX8_offer 272 = .ok (.getfield 72, 3) := by decide +kernel
theorem dX8_offer_275 : decode cX8_offer 275 = .ok (.iload 10, 2) := by decide +kernel
theorem dX8_offer_277 : decode cX8_offer 277 = .ok (.bipush 9, 2) := by decide +kernel
theorem dX8_offer_279 : decode cX8_offer 279 = .ok (.iadd, 1) := by decide +kernel
theorem dX8_offer_280 : decode cX8_offer 280 = .ok (.iload 8, 2) := by decide +kernel
theorem dX8_offer_282 : decode cX8_offer 282 = .ok (.ifCond .ge 7, 3) := by decide +kernel
theorem dX8_offer_285 : decode cX8_offer 285 = .ok (.iconst 0, 1) := by decide +kernel
theorem dX8_offer_286 : decode cX8_offer 286 = .ok (.goto 10, 3) := by decide +kernel
theorem dX8_offer_289 : decode cX8_offer 289 = .ok (.aload_n 0, 1) := by decide +kernel
theorem dX8_offer_290 : decode cX8_offer 290 = .ok (.getfield 42, 3) := by decide +kernel
theorem dX8_offer_293 : decode cX8_offer 293 = .ok (.iload 8, 2) := by decide +kernel
theorem dX8_offer_295 : decode cX8_offer 295 = .ok (.iaload, 1) := by decide +kernel
theorem dX8_offer_296 : decode cX8_offer 296 = .ok (.iastore, 1) := by decide +kernel
theorem dX8_offer_297 : decode cX8_offer 297 = .ok (.aload_n 0, 1) := by decide +kernel
theorem dX8_offer_298 : decode cX8_offer 298 = .ok (.getfield 75, 3) := by decide +kernel
theorem dX8_offer_301 : decode cX8_offer 301 = .ok (.aload_n 0, 1) := by decide +kernel
theorem dX8_offer_302 : decode cX8_offer 302 = .ok (.getfield 175, 3) := by decide +kernel
theorem dX8_offer_305 : decode cX8_offer 305 = .ok (.iconst 1, 1) := by decide +kernel
theorem dX8_offer_306 : decode cX8_offer 306 = .ok (.bastore, 1) := by decide +kernel
theorem dX8_offer_307 : decode cX8_offer 307 = .ok (.aload_n 0, 1) := by decide +kernel
theorem dX8_offer_308 : decode cX8_offer 308 = .ok (.dup, 1) := by decide +kernel
theorem dX8_offer_309 : decode cX8_offer 309 = .ok (.getfield 175, 3) := by decide +kernel
theorem dX8_offer_312 : decode cX8_offer 312 = .ok (.iconst 1, 1) := by decide +kernel
theorem dX8_offer_313 : decode cX8_offer 313 = .ok (.iadd, 1) := by decide +kernel
theorem dX8_offer_314 : decode cX8_offer 314 = .ok (.putfield 175, 3) := by decide +kernel
theorem dX8_offer_317 : decode cX8_offer 317 = .ok (.aload_n 0, 1) := by decide +kernel
theorem dX8_offer_318 : decode cX8_offer 318 = .ok (.getfield 175, 3) := by decide +kernel
theorem dX8_offer_321 : decode cX8_offer 321 = .ok (.iconst 1, 1) := by decide +kernel
theorem dX8_offer_322 : decode cX8_offer 322 = .ok (.isub, 1) := by decide +kernel
theorem dX8_offer_323 : decode cX8_offer 323 = .ok (.ireturn, 1) := by decide +kernel
theorem dX8_after_0 : decode cX8_after 0 = .ok (.aload_n 0, 1) := by decide +kernel
theorem dX8_after_1 : decode cX8_after 1 = .ok (.getfield 9, 3) := by decide +kernel
theorem dX8_after_4 : decode cX8_after 4 = .ok (.iconst 4, 1) := by decide +kernel
theorem dX8_after_5 : decode cX8_after 5 = .ok (.iload_n 1, 1) := by decide +kernel
theorem dX8_after_6 : decode cX8_after 6 = .ok (.imul, 1) := by decide +kernel
theorem dX8_after_7 : decode cX8_after 7 = .ok (.iload 4, 2) := by decide +kernel
theorem dX8_after_9 : decode cX8_after 9 = .ok (.iadd, 1) := by decide +kernel
theorem dX8_after_10 : decode cX8_after 10 = .ok (.iaload, 1) := by decide +kernel
theorem dX8_after_11 : decode cX8_after 11 = .ok (.istore 6, 2) := by decide +kernel
theorem dX8_after_13 : decode cX8_after 13 = .ok (.iload_n 2, 1) := by decide +kernel
theorem dX8_after_14 : decode cX8_after 14 = .ok (.iload 4, 2) := by decide +kernel
theorem dX8_after_16 : decode cX8_after 16 = .ok (.if_icmp .ne 9, 3) := by decide +kernel
theorem dX8_after_19 : decode cX8_after 19 = .ok (.iload 6, 2) := by decide +kernel
theorem dX8_after_21 : decode cX8_after 21 = .ok (.iload_n 3, 1) := by decide +kernel
theorem dX8_after_22 : decode cX8_after 22 = .ok (.isub, 1) := by decide +kernel
theorem dX8_after_23 : decode cX8_after 23 = .ok (.istore 6, 2) := by decide +kernel
theorem dX8_after_25 : decode cX8_after 25 = .ok (.iload 6, 2) := by decide +kernel
theorem dX8_after_27 : decode cX8_after 27 = .ok (.ldc 178, 2) := by decide +kernel
theorem dX8_after_29 : decode cX8_after 29 = .ok (.iload 5, 2) := by decide +kernel
theorem dX8_after_31 : decode cX8_after 31 = .ok (.isub, 1) := by decide +kernel
theorem dX8_after_32 : decode cX8_after 32 = .ok (.if_icmp .le 7, 3) := by decide +kernel
theorem dX8_after_35 : decode cX8_after 35 = .ok (.iconst (-1), 1) := by decide +kernel
theorem dX8_after_36 : decode cX8_after 36 = .ok (.goto 8, 3) := by decide +kernel
theorem dX8_after_39 : decode cX8_after 39 = .ok (.iload 6, 2) := by decide +kernel
theorem dX8_after_41 : decode cX8_after 41 = .ok (.iload 5, 2) := by decide +kernel
theorem dX8_after_43 : decode cX8_after 43 = .ok (.iadd, 1) := by decide +kernel
theorem dX8_after_44 : decode cX8_after 44 = .ok (.ireturn, 1) := by decide +kernel
theorem dX8_against_0 : decode cX8_against 0 = .ok (.aload_n 0, 1) := by decide +kernel
theorem dX8_against_1 : decode cX8_against 1 = .ok (.getfield 72, 3) := by decide +kernel
theorem dX8_against_4 : decode cX8_against 4 = .ok (.iload_n 1, 1) := by decide +kernel
theorem dX8_against_5 : decode cX8_against 5 = .ok (.iaload, 1) := by decide +kernel
theorem dX8_against_6 : decode cX8_against 6 = .ok (.istore_n 2, 1) := by decide +kernel
theorem dX8_against_7 : decode cX8_against 7 = .ok (.aload_n 0, 1) := by decide +kernel
theorem dX8_against_8 : decode cX8_against 8 = .ok (.getfield 72, 3) := by decide +kernel
theorem dX8_against_11 : decode cX8_against 11 = .ok (.iload_n 1, 1) := by decide +kernel
theorem dX8_against_12 : decode cX8_against 12 = .ok (.iconst 1, 1) := by decide +kernel
theorem dX8_against_13 : decode cX8_against 13 = .ok (.iadd, 1) := by decide +kernel
theorem dX8_against_14 : decode cX8_against 14 = .ok (.iaload, 1) := by decide +kernel
theorem dX8_against_15 : decode cX8_against 15 = .ok (.istore_n 3, 1) := by decide +kernel
theorem dX8_against_16 : decode cX8_against 16 = .ok (.aload_n 0, 1) := by decide +kernel
theorem dX8_against_17 : decode cX8_against 17 = .ok (.getfield 72, 3) := by decide +kernel
theorem dX8_against_20 : decode cX8_against 20 = .ok (.iload_n 1, 1) := by decide +kernel
theorem dX8_against_21 : decode cX8_against 21 = .ok (.iconst 4, 1) := by decide +kernel
theorem dX8_against_22 : decode cX8_against 22 = .ok (.iadd, 1) := by decide +kernel
theorem dX8_against_23 : decode cX8_against 23 = .ok (.iaload, 1) := by decide +kernel
theorem dX8_against_24 : decode cX8_against 24 = .ok (.istore 4, 2) := by decide +kernel
theorem dX8_against_26 : decode cX8_against 26 = .ok (.aload_n 0, 1) := by decide +kernel
theorem dX8_against_27 : decode cX8_against 27 = .ok (.getfield 72, 3) := by decide +kernel
theorem dX8_against_30 : decode cX8_against 30 = .ok (.iload_n 1, 1) := by decide +kernel
theorem dX8_against_31 : decode cX8_against 31 = .ok (.bipush 7, 2) := by decide +kernel
theorem dX8_against_33 : decode cX8_against 33 = .ok (.iadd, 1) := by decide +kernel
theorem dX8_against_34 : decode cX8_against 34 = .ok (.iaload, 1) := by decide +kernel
theorem dX8_against_35 : decode cX8_against 35 = .ok (.istore 5, 2) := by decide +kernel
theorem dX8_against_37 : decode cX8_against 37 = .ok (.aload_n 0, 1) := by decide +kernel
theorem dX8_against_38 : decode cX8_against 38 = .ok (.getfield 9, 3) := by decide +kernel
theorem dX8_against_41 : decode cX8_against 41 = .ok (.iconst 4, 1) := by decide +kernel
theorem dX8_against_42 : decode cX8_against 42 = .ok (.iload_n 2, 1) := by decide +kernel
theorem dX8_against_43 : decode cX8_against 43 = .ok (.imul, 1) := by decide +kernel
theorem dX8_against_44 : decode cX8_against 44 = .ok (.aload_n 0, 1) := by decide +kernel
theorem dX8_against_45 : decode cX8_against 45 = .ok (.getfield 72, 3) := by decide +kernel
theorem dX8_against_48 : decode cX8_against 48 = .ok (.iload_n 1, 1) := by decide +kernel
theorem dX8_against_49 : decode cX8_against 49 = .ok (.iconst 3, 1) := by decide +kernel
theorem dX8_against_50 : decode cX8_against 50 = .ok (.iadd, 1) := by decide +kernel
theorem dX8_against_51 : decode cX8_against 51 = .ok (.iaload, 1) := by decide +kernel
theorem dX8_against_52 : decode cX8_against 52 = .ok (.iadd, 1) := by decide +kernel
theorem dX8_against_53 : decode cX8_against 53 = .ok (.iaload, 1) := by decide +kernel
theorem dX8_against_54 : decode cX8_against 54 = .ok (.aload_n 0, 1) := by decide +kernel
theorem dX8_against_55 : decode cX8_against 55 = .ok (.getfield 72, 3) := by decide +kernel
theorem dX8_against_58 : decode cX8_against 58 = .ok (.iload_n 1, 1) := by decide +kernel
theorem dX8_against_59 : decode cX8_against 59 = .ok (.iconst 2, 1) := by decide +kernel
theorem dX8_against_60 : decode cX8_against 60 = .ok (.iadd, 1) := by decide +kernel
theorem dX8_against_61 : decode cX8_against 61 = .ok (.iaload, 1) := by decide +kernel
theorem dX8_against_62 : decode cX8_against 62 = .ok (.if_icmp .ge 5, 3) := by decide +kernel
theorem dX8_against_65 : decode cX8_against 65 = .ok (.iconst 2, 1) := by decide +kernel
theorem dX8_against_66 : decode cX8_against 66 = .ok (.ireturn, 1) := by decide +kernel
theorem dX8_against_67 : decode cX8_against 67 = .ok (.aload_n 0, 1) := by decide +kernel
theorem dX8_against_68 : decode cX8_against 68 = .ok (.getfield 9, 3) := by decide +kernel
theorem dX8_against_71 : decode cX8_against 71 = .ok (.iconst 4, 1) := by decide +kernel
theorem dX8_against_72 : decode cX8_against 72 = .ok (.iload_n 3, 1) := by decide +kernel
theorem dX8_against_73 : decode cX8_against 73 = .ok (.imul, 1) := by decide +kernel
theorem dX8_against_74 : decode cX8_against 74 = .ok (.aload_n 0, 1) := by decide +kernel
theorem dX8_against_75 : decode cX8_against 75 = .ok (.getfield 72, 3) := by decide +kernel
theorem dX8_against_78 : decode cX8_against 78 = .ok (.iload_n 1, 1) := by decide +kernel
theorem dX8_against_79 : decode cX8_against 79 = .ok (.bipush 6, 2) := by decide +kernel
theorem dX8_against_81 : decode cX8_against 81 = .ok (.iadd, 1) := by decide +kernel
theorem dX8_against_82 : decode cX8_against 82 = .ok (.iaload, 1) := by decide +kernel
theorem dX8_against_83 : decode cX8_against 83 = .ok (.iadd, 1) := by decide +kernel
theorem dX8_against_84 : decode cX8_against 84 = .ok (.iaload, 1) := by decide +kernel
theorem dX8_against_85 : decode cX8_against 85 = .ok (.aload_n 0, 1) := by decide +kernel
theorem dX8_against_86 : decode cX8_against 86 = .ok (.getfield 72, 3) := by decide +kernel
theorem dX8_against_89 : decode cX8_against 89 = .ok (.iload_n 1, 1) := by decide +kernel
theorem dX8_against_90 : decode cX8_against 90 = .ok (.iconst 5, 1) := by decide +kernel
theorem dX8_against_91 : decode cX8_against 91 = .ok (.iadd, 1) := by decide +kernel
theorem dX8_against_92 : decode cX8_against 92 = .ok (.iaload, 1) := by decide +kernel
theorem dX8_against_93 : decode cX8_against 93 = .ok (.if_icmp .ge 5, 3) := by decide +kernel
theorem dX8_against_96 : decode cX8_against 96 = .ok (.iconst 3, 1) := by decide +kernel
theorem dX8_against_97 : decode cX8_against 97 = .ok (.ireturn, 1) := by decide +kernel
theorem dX8_against_98 : decode cX8_against 98 = .ok (.aload_n 0, 1) := by decide +kernel
theorem dX8_against_99 : decode cX8_against 99 = .ok (.iload_n 2, 1) := by decide +kernel
theorem dX8_against_100 : decode cX8_against 100 = .ok (.aload_n 0, 1) := by decide +kernel
theorem dX8_against_101 : decode cX8_against 101 = .ok (.getfield 72, 3) := by decide +kernel
theorem dX8_against_104 : decode cX8_against 104 = .ok (.iload_n 1, 1) := by decide +kernel
theorem dX8_against_105 : decode cX8_against 105 = .ok (.iconst 3, 1) := by decide +kernel
theorem dX8_against_106 : decode cX8_against 106 = .ok (.iadd, 1) := by decide +kernel
theorem dX8_against_107 : decode cX8_against 107 = .ok (.iaload, 1) := by decide +kernel
theorem dX8_against_108 : decode cX8_against 108 = .ok (.aload_n 0, 1) := by decide +kernel
theorem dX8_against_109 : decode cX8_against 109 = .ok (.getfield 72, 3) := by decide +kernel
theorem dX8_against_112 : decode cX8_against 112 = .ok (.iload_n 1, 1) := by decide +kernel
theorem dX8_against_113 : decode cX8_against 113 = .ok (.iconst 2, 1) := by decide +kernel
theorem dX8_against_114 : decode cX8_against 114 = .ok (.iadd, 1) := by decide +kernel
theorem dX8_against_115 : decode cX8_against 115 = .ok (.iaload, 1) := by decide +kernel
theorem dX8_against_116 : decode cX8_against 116 = .ok (.aload_n 0, 1) := by decide +kernel
theorem dX8_against_117 : decode cX8_against 117 = .ok (.getfield 72, 3) := by decide +kernel
theorem dX8_against_120 : decode cX8_against 120 = .ok (.iload_n 1, 1) := by decide +kernel
theorem dX8_against_121 : decode cX8_against 121 = .ok (.bipush 6, 2) := by decide +kernel
theorem dX8_against_123 : decode cX8_against 123 = .ok (.iadd, 1) := by decide +kernel
theorem dX8_against_124 : decode cX8_against 124 = .ok (.iaload, 1) := by decide +kernel
theorem dX8_against_125 : decode cX8_against 125 = .ok (.aload_n 0, 1) := by decide +kernel
theorem dX8_against_126 : decode cX8_against 126 = .ok (.getfield 72, 3) := by decide +kernel
theorem dX8_against_129 : decode cX8_against 129 = .ok (.iload_n 1, 1) := by decide +kernel
theorem dX8_against_130 : decode cX8_against 130 = .ok (.iconst 5, 1) := by decide +kernel
theorem dX8_against_131 : decode cX8_against 131 = .ok (.iadd, 1) := by decide +kernel
theorem dX8_against_132 : decode cX8_against 132 = .ok (.iaload, 1) := by decide +kernel
theorem dX8_against_133 : decode cX8_against 133 = .ok (.invokevirtual 179, 3) := by decide +kernel
theorem dX8_against_136 : decode cX8_against 136 = .ok (.ifCond .ge 5, 3) := by decide +kernel
theorem dX8_against_139 : decode cX8_against 139 = .ok (.iconst 4, 1) := by decide +kernel
theorem dX8_against_140 : decode cX8_against 140 = .ok (.ireturn, 1) := by decide +kernel
theorem dX8_against_141 : decode cX8_against 141 = .ok (.aload_n 0, 1) := by decide +kernel
theorem dX8_against_142 : decode cX8_against 142 = .ok (.iload_n 3, 1) := by decide +kernel
theorem dX8_against_143 : decode cX8_against 143 = .ok (.aload_n 0, 1) := by decide +kernel
theorem dX8_against_144 : decode cX8_against 144 = .ok (.getfield 72, 3) := by decide +kernel
theorem dX8_against_147 : decode cX8_against 147 = .ok (.iload_n 1, 1) := by decide +kernel
theorem dX8_against_148 : decode cX8_against 148 = .ok (.bipush 6, 2) := by decide +kernel
theorem dX8_against_150 : decode cX8_against 150 = .ok (.iadd, 1) := by decide +kernel
theorem dX8_against_151 : decode cX8_against 151 = .ok (.iaload, 1) := by decide +kernel
theorem dX8_against_152 : decode cX8_against 152 = .ok (.aload_n 0, 1) := by decide +kernel
theorem dX8_against_153 : decode cX8_against 153 = .ok (.getfield 72, 3) := by decide +kernel
theorem dX8_against_156 : decode cX8_against 156 = .ok (.iload_n 1, 1) := by decide +kernel
theorem dX8_against_157 : decode cX8_against 157 = .ok (.iconst 5, 1) := by decide +kernel
theorem dX8_against_158 : decode cX8_against 158 = .ok (.iadd, 1) := by decide +kernel
theorem dX8_against_159 : decode cX8_against 159 = .ok (.iaload, 1) := by decide +kernel
theorem dX8_against_160 : decode cX8_against 160 = .ok (.aload_n 0, 1) := by decide +kernel
theorem dX8_against_161 : decode cX8_against 161 = .ok (.getfield 72, 3) := by decide +kernel
theorem dX8_against_164 : decode cX8_against 164 = .ok (.iload_n 1, 1) := by decide +kernel
theorem dX8_against_165 : decode cX8_against 165 = .ok (.iconst 3, 1) := by decide +kernel
theorem dX8_against_166 : decode cX8_against 166 = .ok (.iadd, 1) := by decide +kernel
theorem dX8_against_167 : decode cX8_against 167 = .ok (.iaload, 1) := by decide +kernel
theorem dX8_against_168 : decode cX8_against 168 = .ok (.aload_n 0, 1) := by decide +kernel
theorem dX8_against_169 : decode cX8_against 169 = .ok (.getfield 72, 3) := by decide +kernel
theorem dX8_against_172 : decode cX8_against 172 = .ok (.iload_n 1, 1) := by decide +kernel
theorem dX8_against_173 : decode cX8_against 173 = .ok (.iconst 2, 1) := by decide +kernel
theorem dX8_against_174 : decode cX8_against 174 = .ok (.iadd, 1) := by decide +kernel
theorem dX8_against_175 : decode cX8_against 175 = .ok (.iaload, 1) := by decide +kernel
theorem dX8_against_176 : decode cX8_against 176 = .ok (.invokevirtual 179, 3) := by decide +kernel
theorem dX8_against_179 : decode cX8_against 179 = .ok (.ifCond .ge 5, 3) := by decide +kernel
theorem dX8_against_182 : decode cX8_against 182 = .ok (.iconst 5, 1) := by decide +kernel
theorem dX8_against_183 : decode cX8_against 183 = .ok (.ireturn, 1) := by decide +kernel
theorem dX8_against_184 : decode cX8_against 184 = .ok (.iload 4, 2) := by decide +kernel
theorem dX8_against_186 : decode cX8_against 186 = .ok (.ifCond .lt 26, 3) := by decide +kernel
theorem dX8_against_189 : decode cX8_against 189 = .ok (.aload_n 0, 1) := by decide +kernel
theorem dX8_against_190 : decode cX8_against 190 = .ok (.getfield 54, 3) := by decide +kernel
theorem dX8_against_193 : decode cX8_against 193 = .ok (.iload 4, 2) := by decide +kernel
theorem dX8_against_195 : decode cX8_against 195 = .ok (.iaload, 1) := by decide +kernel
theorem dX8_against_196 : decode cX8_against 196 = .ok (.iload_n 2, 1) := by decide +kernel
theorem dX8_against_197 : decode cX8_against 197 = .ok (.if_icmp .ne 12, 3) := by decide +kernel
theorem dX8_against_200 : decode cX8_against 200 = .ok (.aload_n 0, 1) := by decide +kernel
theorem dX8_against_201 : decode cX8_against 201 = .ok (.iload 4, 2) := by decide +kernel
theorem dX8_against_203 : decode cX8_against 203 = .ok (.invokevirtual 159, 3) := by decide +kernel
theorem dX8_against_206 : decode cX8_against 206 = .ok (.ifCond .ne 6, 3) := by decide +kernel
theorem dX8_against_209 : decode cX8_against 209 = .ok (.bipush 6, 2) := by decide +kernel
theorem dX8_against_211 : decode cX8_against 211 = .ok (.ireturn, 1) := by decide +kernel
theorem dX8_against_212 : decode cX8_against 212 = .ok (.iload 5, 2) := by decide +kernel
theorem dX8_against_214 : decode cX8_against 214 = .ok (.ifCond .lt 26, 3) := by decide +kernel
theorem dX8_against_217 : decode cX8_against 217 = .ok (.aload_n 0, 1) := by decide +kernel
theorem dX8_against_218 : decode cX8_against 218 = .ok (.getfield 54, 3) := by decide +kernel
theorem dX8_against_221 : decode cX8_against 221 = .ok (.iload 5, 2) := by decide +kernel
theorem dX8_against_223 : decode cX8_against 223 = .ok (.iaload, 1) := by decide +kernel
theorem dX8_against_224 : decode cX8_against 224 = .ok (.iload_n 3, 1) := by decide +kernel
theorem dX8_against_225 : decode cX8_against 225 = .ok (.if_icmp .ne 12, 3) := by decide +kernel
theorem dX8_against_228 : decode cX8_against 228 = .ok (.aload_n 0, 1) := by decide +kernel
theorem dX8_against_229 : decode cX8_against 229 = .ok (.iload 5, 2) := by decide +kernel
theorem dX8_against_231 : decode cX8_against 231 = .ok (.invokevirtual 159, 3) := by decide +kernel
theorem dX8_against_234 : decode cX8_against 234 = .ok (.ifCond .ne 6, 3) := by decide +kernel
theorem dX8_against_237 : decode cX8_against 237 = .ok (.bipush 7, 2) := by decide +kernel
theorem dX8_against_239 : decode cX8_against 239 = .ok (.ireturn, 1) := by decide +kernel
theorem dX8_against_240 : decode cX8_against 240 = .ok (.iload 4, 2) := by decide +kernel
theorem dX8_against_242 : decode cX8_against 242 = .ok (.ifCond .lt 22, 3) := by decide +kernel
theorem dX8_against_245 : decode cX8_against 245 = .ok (.aload_n 0, 1) := by decide +kernel
theorem dX8_against_246 : decode cX8_against 246 = .ok (.getfield 42, 3) := by decide +kernel
theorem dX8_against_249 : decode cX8_against 249 = .ok (.iload 4, 2) := by decide +kernel
theorem dX8_against_251 : decode cX8_against 251 = .ok (.iaload, 1) := by decide +kernel
theorem dX8_against_252 : decode cX8_against 252 = .ok (.aload_n 0, 1) := by decide +kernel
theorem dX8_against_253 : decode cX8_against 253 = .ok (.getfield 72, 3) := by decide +kernel
theorem dX8_against_256 : decode cX8_against 256 = .ok (.iload_n 1, 1) := by decide +kernel
theorem dX8_against_257 : decode cX8_against 257 = .ok (.bipush 8, 2) := by decide +kernel
theorem dX8_against_259 : decode cX8_against 259 = .ok (.iadd, 1) := by decide +kernel
theorem dX8_against_260 : decode cX8_against 260 = .ok (.iaload, 1) := by decide +kernel
theorem dX8_against_261 : decode cX8_against 261 = .ok (.if_icmp .ne 27, 3) := by decide +kernel
theorem dX8_against_264 : decode cX8_against 264 = .ok (.iload 5, 2) := by decide +kernel
theorem dX8_against_266 : decode cX8_against 266 = .ok (.ifCond .lt 27, 3) := by decide +kernel
theorem dX8_against_269 : decode cX8_against 269 = .ok (.aload_n 0, 1) := by decide +kernel
theorem dX8_against_270 : decode cX8_against 270 = .ok (.getfield 42, 3) := by decide +kernel
theorem dX8_against_273 : decode cX8_against 273 = .ok (.iload 5, 2) := by decide +kernel
theorem dX8_against_275 : decode cX8_against 275 = .ok (.iaload, 1) := by decide +kernel
theorem dX8_against_276 : decode cX8_against 276 = .ok (.aload_n 0, 1) := by decide +kernel
theorem dX8_against_277 : decode cX8_against 277 = .ok (.getfield 72, 3) := by decide +kernel
theorem dX8_against_280 : decode cX8_against 280 = .ok (.iload_n 1, 1) := by decide +kernel
theorem dX8_against_281 : decode cX8_against 281 = .ok (.bipush 9, 2) := by decide +kernel
theorem dX8_against_283 : decode cX8_against 283 = .ok (.iadd, 1) := by decide +kernel
theorem dX8_against_284 : decode cX8_against 284 = .ok (.iaload, 1) := by decide +kernel
theorem dX8_against_285 : decode cX8_against 285 = .ok (.if_icmp .eq 8, 3) := by decide +kernel
theorem dX8_against_288 : decode cX8_against 288 = .ok (.bipush 8, 2) := by decide +kernel
theorem dX8_against_290 : decode cX8_against 290 = .ok (.goto 4, 3) := by decide +kernel
theorem dX8_against_293 : decode cX8_against 293 = .ok (.iconst 0, 1) := by decide +kernel
theorem dX8_against_294 : decode cX8_against 294 = .ok (.ireturn, 1) := by decide +kernel
theorem dX8_agree_0 : decode cX8_agree 0 = .ok (.aload_n 0, 1) := by decide +kernel
theorem dX8_agree_1 : decode cX8_agree 1 = .ok (.iconst 0, 1) := by decide +kernel
theorem dX8_agree_2 : decode cX8_agree 2 = .ok (.putfield 87, 3) := by decide +kernel
theorem dX8_agree_5 : decode cX8_agree 5 = .ok (.aload_n 0, 1) := by decide +kernel
theorem dX8_agree_6 : decode cX8_agree 6 = .ok (.iload_n 1, 1) := by decide +kernel
theorem dX8_agree_7 : decode cX8_agree 7 = .ok (.i2l, 1) := by decide +kernel
theorem dX8_agree_8 : decode cX8_agree 8 = .ok (.lconst 0, 1) := by decide +kernel
theorem dX8_agree_9 : decode cX8_agree 9 = .ok (.aload_n 0, 1) := by decide +kernel
theorem dX8_agree_10 : decode cX8_agree 10 = .ok (.getfield 175, 3) := by decide +kernel
theorem dX8_agree_13 : decode cX8_agree 13 = .ok (.iconst 1, 1) := by decide +kernel
theorem dX8_agree_14 : decode cX8_agree 14 = .ok (.isub, 1) := by decide +kernel
theorem dX8_agree_15 : decode cX8_agree 15 = .ok (.i2l, 1) := by decide +kernel
theorem dX8_agree_16 : decode cX8_agree 16 = .ok (.invokestatic 94, 3) := by decide +kernel
theorem dX8_agree_19 : decode cX8_agree 19 = .ok (.ifCond .ne 7, 3) := by decide +kernel
theorem dX8_agree_22 : decode cX8_agree 22 = .ok (.iconst 1, 1) := by decide +kernel
theorem dX8_agree_23 : decode cX8_agree 23 = .ok (.goto 4, 3) := by decide +kernel
theorem dX8_agree_26 : decode cX8_agree 26 = .ok (.iconst 0, 1) := by decide +kernel
theorem dX8_agree_27 : decode cX8_agree 27 = .ok (.iconst 1, 1) := by decide +kernel
theorem dX8_agree_28 : decode cX8_agree 28 = .ok (.invokevirtual 106, 3) := by decide +kernel
theorem dX8_agree_31 : decode cX8_agree 31 = .ok (.ifCond .eq 5, 3) := by decide +kernel
theorem dX8_agree_34 : decode cX8_agree 34 = .ok (.iconst 0, 1) := by decide +kernel
theorem dX8_agree_35 : decode cX8_agree 35 = .ok (.ireturn, 1) := by decide +kernel
theorem dX8_agree_36 : decode cX8_agree 36 = .ok (.aload_n 0, 1) := by decide +kernel
theorem dX8_agree_37 : decode cX8_agree 37 = .ok (.getfield 75, 3) := by decide +kernel
theorem dX8_agree_40 : decode cX8_agree 40 = .ok (.iload_n 1, 1) := by decide +kernel
theorem dX8_agree_41 : decode cX8_agree 41 = .ok (.baload, 1) := by decide +kernel
theorem dX8_agree_42 : decode cX8_agree 42 = .ok (.ifCond .ne 5, 3) := by decide +kernel
theorem dX8_agree_45 : decode cX8_agree 45 = .ok (.iconst 1, 1) := by decide +kernel
theorem dX8_agree_46 : decode cX8_agree 46 = .ok (.ireturn, 1) := by decide +kernel
theorem dX8_agree_47 : decode cX8_agree 47 = .ok (.bipush 10, 2) := by decide +kernel
theorem dX8_agree_49 : decode cX8_agree 49 = .ok (.iload_n 1, 1) := by decide +kernel
theorem dX8_agree_50 : decode cX8_agree 50 = .ok (.imul, 1) := by decide +kernel
theorem dX8_agree_51 : decode cX8_agree 51 = .ok (.istore_n 2, 1) := by decide +kernel
theorem dX8_agree_52 : decode cX8_agree 52 = .ok (.aload_n 0, 1) := by decide +kernel
theorem dX8_agree_53 : decode cX8_agree 53 = .ok (.iload_n 2, 1) := by decide +kernel
theorem dX8_agree_54 : decode cX8_agree 54 = .ok (.invokevirtual 183, 3) := by decide +kernel
theorem dX8_agree_57 : decode cX8_agree 57 = .ok (.istore_n 3, 1) := by decide +kernel
theorem dX8_agree_58 : decode cX8_agree 58 = .ok (.iload_n 3, 1) := by decide +kernel
theorem dX8_agree_59 : decode cX8_agree 59 = .ok (.ifCond .le 5, 3) := by decide +kernel
theorem dX8_agree_62 : decode cX8_agree 62 = .ok (.iload_n 3, 1) := by decide +kernel
theorem dX8_agree_63 : decode cX8_agree 63 = .ok (.ireturn, 1) := by decide +kernel
theorem dX8_agree_64 : decode cX8_agree 64 = .ok (.iconst 4, 1) := by decide +kernel
theorem dX8_agree_65 : decode cX8_agree 65 = .ok (.aload_n 0, 1) := by decide +kernel
theorem dX8_agree_66 : decode cX8_agree 66 = .ok (.getfield 72, 3) := by decide +kernel
theorem dX8_agree_69 : decode cX8_agree 69 = .ok (.iload_n 2, 1) := by decide +kernel
theorem dX8_agree_70 : decode cX8_agree 70 = .ok (.iaload, 1) := by decide +kernel
theorem dX8_agree_71 : decode cX8_agree 71 = .ok (.imul, 1) := by decide +kernel
theorem dX8_agree_72 : decode cX8_agree 72 = .ok (.istore 4, 2) := by decide +kernel
theorem dX8_agree_74 : decode cX8_agree 74 = .ok (.iconst 4, 1) := by decide +kernel
theorem dX8_agree_75 : decode cX8_agree 75 = .ok (.aload_n 0, 1) := by decide +kernel
theorem dX8_agree_76 : decode cX8_agree 76 = .ok (.getfield 72, 3) := by decide +kernel
theorem dX8_agree_79 : decode cX8_agree 79 = .ok (.iload_n 2, 1) := by decide +kernel
theorem dX8_agree_80 : decode cX8_agree 80 = .ok (.iconst 1, 1) := by decide +kernel
theorem dX8_agree_81 : decode cX8_agree 81 = .ok (.iadd, 1) := by decide +kernel
theorem dX8_agree_82 : decode cX8_agree 82 = .ok (.iaload, 1) := by decide +kernel
theorem dX8_agree_83 : decode cX8_agree 83 = .ok (.imul, 1) := by decide +kernel
theorem dX8_agree_84 : decode cX8_agree 84 = .ok (.istore 5, 2) := by decide +kernel
theorem dX8_agree_86 : decode cX8_agree 86 = .ok (.aload_n 0, 1) := by decide +kernel
theorem dX8_agree_87 : decode cX8_agree 87 = .ok (.getfield 9, 3) := by decide +kernel
theorem dX8_agree_90 : decode cX8_agree 90 = .ok (.iload 4, 2) := by decide +kernel
theorem dX8_agree_92 : decode cX8_agree 92 = .ok (.aload_n 0, 1) := by decide +kernel
theorem dX8_agree_93 : decode cX8_agree 93 = .ok (.getfield 72, 3) := by decide +kernel
theorem dX8_agree_96 : decode cX8_agree 96 = .ok (.iload_n 2, 1) := by decide +kernel
theorem dX8_agree_97 : decode cX8_agree 97 = .ok (.iconst 3, 1) := by decide +kernel
theorem dX8_agree_98 : decode cX8_agree 98 = .ok (.iadd, 1) := by decide +kernel
theorem dX8_agree_99 : decode cX8_agree 99 = .ok (.iaload, 1) := by decide +kernel
theorem dX8_agree_100 : decode cX8_agree 100 = .ok (.iadd, 1) := by decide +kernel
theorem dX8_agree_101 : decode cX8_agree 101 = .ok (.dup2, 1) := by decide +kernel
theorem dX8_agree_102 : decode cX8_agree 102 = .ok (.iaload, 1) := by decide +kernel
theorem dX8_agree_103 : decode cX8_agree 103 = .ok (.aload_n 0, 1) := by decide +kernel
theorem dX8_agree_104 : decode cX8_agree 104 = .ok (.getfield 72, 3) := by decide +kernel
theorem dX8_agree_107 : decode cX8_agree 107 = .ok (.iload_n 2, 1) := by decide +kernel
theorem dX8_agree_108 : decode cX8_agree 108 = .ok (.iconst 2, 1) := by decide +kernel
theorem dX8_agree_109 : decode cX8_agree 109 = .ok (.iadd, 1) := by decide +kernel
theorem dX8_agree_110 : decode cX8_agree 110 = .ok (.iaload, 1) := by decide +kernel
theorem dX8_agree_111 : decode cX8_agree 111 = .ok (.isub, 1) := by decide +kernel
theorem dX8_agree_112 : decode cX8_agree 112 = .ok (.iastore, 1) := by decide +kernel
theorem dX8_agree_113 : decode cX8_agree 113 = .ok (.aload_n 0, 1) := by decide +kernel
theorem dX8_agree_114 : decode cX8_agree 114 = .ok (.getfield 9, 3) := by decide +kernel
theorem dX8_agree_117 : decode cX8_agree 117 = .ok (.iload 5, 2) := by decide +kernel
theorem dX8_agree_119 : decode cX8_agree 119 = .ok (.aload_n 0, 1) := by decide +kernel
theorem dX8_agree_120 : decode cX8_agree 120 = .ok (.getfield 72, 3) := by decide +kernel
theorem dX8_agree_123 : decode cX8_agree 123 = .ok (.iload_n 2, 1) := by decide +kernel
theorem dX8_agree_124 : decode cX8_agree 124 = .ok (.bipush 6, 2) := by decide +kernel
theorem dX8_agree_126 : decode cX8_agree 126 = .ok (.iadd, 1) := by decide +kernel
theorem dX8_agree_127 : decode cX8_agree 127 = .ok (.iaload, 1) := by decide +kernel
theorem dX8_agree_128 : decode cX8_agree 128 = .ok (.iadd, 1) := by decide +kernel
theorem dX8_agree_129 : decode cX8_agree 129 = .ok (.dup2, 1) := by decide +kernel
theorem dX8_agree_130 : decode cX8_agree 130 = .ok (.iaload, 1) := by decide +kernel
theorem dX8_agree_131 : decode cX8_agree 131 = .ok (.aload_n 0, 1) := by decide +kernel
theorem dX8_agree_132 : decode cX8_agree 132 = .ok (.getfield 72, 3) := by decide +kernel
theorem dX8_agree_135 : decode cX8_agree 135 = .ok (.iload_n 2, 1) := by decide +kernel
theorem dX8_agree_136 : decode cX8_agree 136 = .ok (.iconst 5, 1) := by decide +kernel
theorem dX8_agree_137 : decode cX8_agree 137 = .ok (.iadd, 1) := by decide +kernel
theorem dX8_agree_138 : decode cX8_agree 138 = .ok (.iaload, 1) := by decide +kernel
theorem dX8_agree_139 : decode cX8_agree 139 = .ok (.isub, 1) := by decide +kernel
theorem dX8_agree_140 : decode cX8_agree 140 = .ok (.iastore, 1) := by decide +kernel
theorem dX8_agree_141 : decode cX8_agree 141 = .ok (.aload_n 0, 1) := by decide +kernel
theorem dX8_agree_142 : decode cX8_agree 142 = .ok (.getfield 9, 3) := by decide +kernel
theorem dX8_agree_145 : decode cX8_agree 145 = .ok (.iload 5, 2) := by decide +kernel
theorem dX8_agree_147 : decode cX8_agree 147 = .ok (.aload_n 0, 1) := by decide +kernel
theorem dX8_agree_148 : decode cX8_agree 148 = .ok (.getfield 72, 3) := by decide +kernel
theorem dX8_agree_151 : decode cX8_agree 151 = .ok (.iload_n 2, 1) := by decide +kernel
theorem dX8_agree_152 : decode cX8_agree 152 = .ok (.iconst 3, 1) := by decide +kernel
theorem dX8_agree_153 : decode cX8_agree 153 = .ok (.iadd, 1) := by decide +kernel
theorem dX8_agree_154 : decode cX8_agree 154 = .ok (.iaload, 1) := by decide +kernel
theorem dX8_agree_155 : decode cX8_agree 155 = .ok (.iadd, 1) := by decide +kernel
theorem dX8_agree_156 : decode cX8_agree 156 = .ok (.dup2, 1) := by decide +kernel
theorem dX8_agree_157 : decode cX8_agree 157 = .ok (.iaload, 1) := by decide +kernel
theorem dX8_agree_158 : decode cX8_agree 158 = .ok (.aload_n 0, 1) := by decide +kernel
theorem dX8_agree_159 : decode cX8_agree 159 = .ok (.getfield 72, 3) := by decide +kernel
theorem dX8_agree_162 : decode cX8_agree 162 = .ok (.iload_n 2, 1) := by decide +kernel
theorem dX8_agree_163 : decode cX8_agree 163 = .ok (.iconst 2, 1) := by decide +kernel
theorem dX8_agree_164 : decode cX8_agree 164 = .ok (.iadd, 1) := by decide +kernel
theorem dX8_agree_165 : decode cX8_agree 165 = .ok (.iaload, 1) := by decide +kernel
theorem dX8_agree_166 : decode cX8_agree 166 = .ok (.iadd, 1) := by decide +kernel
theorem dX8_agree_167 : decode cX8_agree 167 = .ok (.iastore, 1) := by decide +kernel
theorem dX8_agree_168 : decode cX8_agree 168 = .ok (.aload_n 0, 1) := by decide +kernel
theorem dX8_agree_169 : decode cX8_agree 169 = .ok (.getfield 9, 3) := by decide +kernel
theorem dX8_agree_172 : decode cX8_agree 172 = .ok (.iload 4, 2) := by decide +kernel
theorem dX8_agree_174 : decode cX8_agree 174 = .ok (.aload_n 0, 1) := by decide +kernel
theorem dX8_agree_175 : decode cX8_agree 175 = .ok (.getfield 72, 3) := by decide +kernel
theorem dX8_agree_178 : decode cX8_agree 178 = .ok (.iload_n 2, 1) := by decide +kernel
theorem dX8_agree_179 : decode cX8_agree 179 = .ok (.bipush 6, 2) := by decide +kernel
theorem dX8_agree_181 : decode cX8_agree 181 = .ok (.iadd, 1) := by decide +kernel
theorem dX8_agree_182 : decode cX8_agree 182 = .ok (.iaload, 1) := by decide +kernel
theorem dX8_agree_183 : decode cX8_agree 183 = .ok (.iadd, 1) := by decide +kernel
theorem dX8_agree_184 : decode cX8_agree 184 = .ok (.dup2, 1) := by decide +kernel
theorem dX8_agree_185 : decode cX8_agree 185 = .ok (.iaload, 1) := by decide +kernel
theorem dX8_agree_186 : decode cX8_agree 186 = .ok (.aload_n 0, 1) := by decide +kernel
theorem dX8_agree_187 : decode cX8_agree 187 = .ok (.getfield 72, 3) := by decide +kernel
theorem dX8_agree_190 : decode cX8_agree 190 = .ok (.iload_n 2, 1) := by decide +kernel
theorem dX8_agree_191 : decode cX8_agree 191 = .ok (.iconst 5, 1) := by decide +kernel
theorem dX8_agree_192 : decode cX8_agree 192 = .ok (.iadd, 1) := by decide +kernel
theorem dX8_agree_193 : decode cX8_agree 193 = .ok (.iaload, 1) := by decide +kernel
theorem dX8_agree_194 : decode cX8_agree 194 = .ok (.iadd, 1) := by decide +kernel
theorem dX8_agree_195 : decode cX8_agree 195 = .ok (.iastore, 1) := by decide +kernel
theorem dX8_agree_196 : decode cX8_agree 196 = .ok (.aload_n 0, 1) := by decide +kernel
theorem dX8_agree_197 : decode cX8_agree 197 = .ok (.getfield 72, 3) := by decide +kernel
theorem dX8_agree_200 : decode cX8_agree 200 = .ok (.iload_n 2, 1) := by decide +kernel
theorem dX8_agree_201 : decode cX8_agree 201 = .ok (.iconst 4, 1) := by decide +kernel
theorem dX8_agree_202 : decode cX8_agree 202 = .ok (.iadd, 1) := by decide +kernel
theorem dX8_agree_203 : decode cX8_agree 203 = .ok (.iaload, 1) := by decide +kernel
theorem dX8_agree_204 : decode cX8_agree 204 = .ok (.ifCond .lt 23, 3) := by decide +kernel
theorem dX8_agree_207 : decode cX8_agree 207 = .ok (.aload_n 0, 1) := by decide +kernel
theorem dX8_agree_208 : decode cX8_agree 208 = .ok (.aload_n 0, 1) := by decide +kernel
theorem dX8_agree_209 : decode cX8_agree 209 = .ok (.getfield 72, 3) := by decide +kernel
theorem dX8_agree_212 : decode cX8_agree 212 = .ok (.iload_n 2, 1) := by decide +kernel
theorem dX8_agree_213 : decode cX8_agree 213 = .ok (.iconst 4, 1) := by decide +kernel
theorem dX8_agree_214 : decode cX8_agree 214 = .ok (.iadd, 1) := by decide +kernel
theorem dX8_agree_215 : decode cX8_agree 215 = .ok (.iaload, 1) := by decide +kernel
theorem dX8_agree_216 : decode cX8_agree 216 = .ok (.aload_n 0, 1) := by decide +kernel
theorem dX8_agree_217 : decode cX8_agree 217 = .ok (.getfield 72, 3) := by decide +kernel
theorem dX8_agree_220 : decode cX8_agree 220 = .ok (.iload_n 2, 1) := by decide +kernel
theorem dX8_agree_221 : decode cX8_agree 221 = .ok (.iconst 1, 1) := by decide +kernel
theorem dX8_agree_222 : decode cX8_agree 222 = .ok (.iadd, 1) := by decide +kernel
theorem dX8_agree_223 : decode cX8_agree 223 = .ok (.iaload, 1) := by decide +kernel
theorem dX8_agree_224 : decode cX8_agree 224 = .ok (.invokevirtual 162, 3) := by decide +kernel
theorem dX8_agree_227 : decode cX8_agree 227 = .ok (.aload_n 0, 1) := by decide +kernel
theorem dX8_agree_228 : decode cX8_agree 228 = .ok (.getfield 72, 3) := by decide +kernel
theorem dX8_agree_231 : decode cX8_agree 231 = .ok (.iload_n 2, 1) := by decide +kernel
theorem dX8_agree_232 : decode cX8_agree 232 = .ok (.bipush 7, 2) := by decide +kernel
theorem dX8_agree_234 : decode cX8_agree 234 = .ok (.iadd, 1) := by decide +kernel
theorem dX8_agree_235 : decode cX8_agree 235 = .ok (.iaload, 1) := by decide +kernel
theorem dX8_agree_236 : decode cX8_agree 236 = .ok (.ifCond .lt 22, 3) := by decide +kernel
theorem dX8_agree_239 : decode cX8_agree 239 = .ok (.aload_n 0, 1) := by decide +kernel
theorem dX8_agree_240 : decode cX8_agree 240 = .ok (.aload_n 0, 1) := by decide +kernel
theorem dX8_agree_241 : decode cX8_agree 241 = .ok (.getfield 72, 3) := by decide +kernel
theorem dX8_agree_244 : decode cX8_agree 244 = .ok (.iload_n 2, 1) := by decide +kernel
theorem dX8_agree_245 : decode cX8_agree 245 = .ok (.bipush 7, 2) := by decide +kernel
theorem dX8_agree_247 : decode cX8_agree 247 = .ok (.iadd, 1) := by decide +kernel
theorem dX8_agree_248 : decode cX8_agree 248 = .ok (.iaload, 1) := by decide +kernel
theorem dX8_agree_249 : decode cX8_agree 249 = .ok (.aload_n 0, 1) := by decide +kernel
theorem dX8_agree_250 : decode cX8_agree 250 = .ok (.getfield 72, 3) := by decide +kernel
theorem dX8_agree_253 : decode cX8_agree 253 = .ok (.iload_n 2, 1) := by decide +kernel
theorem dX8_agree_254 : decode cX8_agree 254 = .ok (.iaload, 1) := by decide +kernel
theorem dX8_agree_255 : decode cX8_agree 255 = .ok (.invokevirtual 162, 3) := by decide +kernel
theorem dX8_agree_258 : decode cX8_agree 258 = .ok (.aload_n 0, 1) := by decide +kernel
theorem dX8_agree_259 : decode cX8_agree 259 = .ok (.getfield 75, 3) := by decide +kernel
theorem dX8_agree_262 : decode cX8_agree 262 = .ok (.iload_n 1, 1) := by decide +kernel
theorem dX8_agree_263 : decode cX8_agree 263 = .ok (.iconst 0, 1) := by decide +kernel
theorem dX8_agree_264 : decode cX8_agree 264 = .ok (.bastore, 1) := by decide +kernel
theorem dX8_agree_265 : decode cX8_agree 265 = .ok (.iconst 0, 1) := by decide +kernel
theorem dX8_agree_266 : decode cX8_agree 266 = .ok (.ireturn, 1) := by decide +kernel
theorem dX8_withdraw_0 : decode cX8_withdraw 0 = .ok (.aload_n 0, 1) := by decide +kernel
theorem dX8_withdraw_1 : decode cX8_withdraw 1 = .ok (.iconst 0, 1) := by decide +kernel
theorem dX8_withdraw_2 : decode cX8_withdraw 2 = .ok (.putfield 87, 3) := by decide +kernel
theorem dX8_withdraw_5 : decode cX8_withdraw 5 = .ok (.aload_n 0, 1) := by decide +kernel
theorem dX8_withdraw_6 : decode cX8_withdraw 6 = .ok (.iload_n 1, 1) := by decide +kernel
theorem dX8_withdraw_7 : decode cX8_withdraw 7 = .ok (.i2l, 1) := by decide +kernel
theorem dX8_withdraw_8 : decode cX8_withdraw 8 = .ok (.lconst 0, 1) := by decide +kernel
theorem dX8_withdraw_9 : decode cX8_withdraw 9 = .ok (.aload_n 0, 1) := by decide +kernel
theorem dX8_withdraw_10 : decode cX8_withdraw 10 = .ok (.getfield 175, 3) := by decide +kernel
theorem dX8_withdraw_13 : decode cX8_withdraw 13 = .ok (.iconst 1, 1) := by decide +kernel
theorem dX8_withdraw_14 : decode cX8_withdraw 14 = .ok (.isub, 1) := by decide +kernel
theorem dX8_withdraw_15 : decode cX8_withdraw 15 = .ok (.i2l, 1) := by decide +kernel
theorem dX8_withdraw_16 : decode cX8_withdraw 16 = .ok (.invokestatic 94, 3) := by decide +kernel
theorem dX8_withdraw_19 : decode cX8_withdraw 19 = .ok (.ifCond .ne 7, 3) := by decide +kernel
theorem dX8_withdraw_22 : decode cX8_withdraw 22 = .ok (.iconst 1, 1) := by decide +kernel
theorem dX8_withdraw_23 : decode cX8_withdraw 23 = .ok (.goto 4, 3) := by decide +kernel
theorem dX8_withdraw_26 : decode cX8_withdraw 26 = .ok (.iconst 0, 1) := by decide +kernel
theorem dX8_withdraw_27 : decode cX8_withdraw 27 = .ok (.iconst 1, 1) := by decide +kernel
theorem dX8_withdraw_28 : decode cX8_withdraw 28 = .ok (.invokevirtual 106, 3) := by decide +kernel
theorem dX8_withdraw_31 : decode cX8_withdraw 31 = .ok (.ifCond .eq 5, 3) := by decide +kernel
theorem dX8_withdraw_34 : decode cX8_withdraw 34 = .ok (.iconst 0, 1) := by decide +kernel
theorem dX8_withdraw_35 : decode cX8_withdraw 35 = .ok (.ireturn, 1) := by decide +kernel
theorem dX8_withdraw_36 : decode cX8_withdraw 36 = .ok (.aload_n 0, 1) := by decide +kernel
theorem dX8_withdraw_37 : decode cX8_withdraw 37 = .ok (.getfield 75, 3) := by decide +kernel
theorem dX8_withdraw_40 : decode cX8_withdraw 40 = .ok (.iload_n 1, 1) := by decide +kernel
theorem dX8_withdraw_41 : decode cX8_withdraw 41 = .ok (.baload, 1) := by decide +kernel
theorem dX8_withdraw_42 : decode cX8_withdraw 42 = .ok (.istore_n 2, 1) := by decide +kernel
theorem dX8_withdraw_43 : decode cX8_withdraw 43 = .ok (.aload_n 0, 1) := by decide +kernel
theorem dX8_withdraw_44 : decode cX8_withdraw 44 = .ok (.getfield 75, 3) := by decide +kernel
theorem dX8_withdraw_47 : decode cX8_withdraw 47 = .ok (.iload_n 1, 1) := by decide +kernel
theorem dX8_withdraw_48 : decode cX8_withdraw 48 = .ok (.iconst 0, 1) := by decide +kernel
theorem dX8_withdraw_49 : decode cX8_withdraw 49 = .ok (.bastore, 1) := by decide +kernel
theorem dX8_withdraw_50 : decode cX8_withdraw 50 = .ok (.iload_n 2, 1) := by decide +kernel
theorem dX8_withdraw_51 : decode cX8_withdraw 51 = .ok (.ireturn, 1) := by decide +kernel
theorem dX8_leaves_0 : decode cX8_leaves 0 = .ok (.aload_n 0, 1) := by decide +kernel
theorem dX8_leaves_1 : decode cX8_leaves 1 = .ok (.getfield 22, 3) := by decide +kernel
theorem dX8_leaves_4 : decode cX8_leaves 4 = .ok (.iconst 4, 1) := by decide +kernel
theorem dX8_leaves_5 : decode cX8_leaves 5 = .ok (.iload_n 1, 1) := by decide +kernel
theorem dX8_leaves_6 : decode cX8_leaves 6 = .ok (.imul, 1) := by decide +kernel
theorem dX8_leaves_7 : decode cX8_leaves 7 = .ok (.iload_n 2, 1) := by decide +kernel
theorem dX8_leaves_8 : decode cX8_leaves 8 = .ok (.iadd, 1) := by decide +kernel
theorem dX8_leaves_9 : decode cX8_leaves 9 = .ok (.iaload, 1) := by decide +kernel
theorem dX8_leaves_10 : decode cX8_leaves 10 = .ok (.aload_n 0, 1) := by decide +kernel
theorem dX8_leaves_11 : decode cX8_leaves 11 = .ok (.getfield 19, 3) := by decide +kernel
theorem dX8_leaves_14 : decode cX8_leaves 14 = .ok (.iconst 4, 1) := by decide +kernel
theorem dX8_leaves_15 : decode cX8_leaves 15 = .ok (.iload_n 1, 1) := by decide +kernel
theorem dX8_leaves_16 : decode cX8_leaves 16 = .ok (.imul, 1) := by decide +kernel
theorem dX8_leaves_17 : decode cX8_leaves 17 = .ok (.iload_n 2, 1) := by decide +kernel
theorem dX8_leaves_18 : decode cX8_leaves 18 = .ok (.iadd, 1) := by decide +kernel
theorem dX8_leaves_19 : decode cX8_leaves 19 = .ok (.iaload, 1) := by decide +kernel
theorem dX8_leaves_20 : decode cX8_leaves 20 = .ok (.isub, 1) := by decide +kernel
theorem dX8_leaves_21 : decode cX8_leaves 21 = .ok (.ireturn, 1) := by decide +kernel
theorem dX8_bounds_0 : decode cX8_bounds 0 = .ok (.iconst 0, 1) := by decide +kernel
theorem dX8_bounds_1 : decode cX8_bounds 1 = .ok (.istore_n 1, 1) := by decide +kernel
theorem dX8_bounds_2 : decode cX8_bounds 2 = .ok (.iload_n 1, 1) := by decide +kernel
theorem dX8_bounds_3 : decode cX8_bounds 3 = .ok (.aload_n 0, 1) := by decide +kernel
theorem dX8_bounds_4 : decode cX8_bounds 4 = .ok (.getfield 186, 3) := by decide +kernel
theorem dX8_bounds_7 : decode cX8_bounds 7 = .ok (.iconst 4, 1) := by decide +kernel
theorem dX8_bounds_8 : decode cX8_bounds 8 = .ok (.iadd, 1) := by decide +kernel
theorem dX8_bounds_9 : decode cX8_bounds 9 = .ok (.if_icmp .ge 72, 3) := by decide +kernel
theorem dX8_bounds_12 : decode cX8_bounds 12 = .ok (.iconst 0, 1) := by decide +kernel
theorem dX8_bounds_13 : decode cX8_bounds 13 = .ok (.istore_n 2, 1) := by decide +kernel
theorem dX8_bounds_14 : decode cX8_bounds 14 = .ok (.iload_n 2, 1) := by decide +kernel
theorem dX8_bounds_15 : decode cX8_bounds 15 = .ok (.aload_n 0, 1) := by decide +kernel
theorem dX8_bounds_16 : decode cX8_bounds 16 = .ok (.getfield 186, 3) := by decide +kernel
theorem dX8_bounds_19 : decode cX8_bounds 19 = .ok (.if_icmp .ge 56, 3) := by decide +kernel
theorem dX8_bounds_22 : decode cX8_bounds 22 = .ok (.aload_n 0, 1) := by decide +kernel
theorem dX8_bounds_23 : decode cX8_bounds 23 = .ok (.getfield 81, 3) := by decide +kernel
theorem dX8_bounds_26 : decode cX8_bounds 26 = .ok (.iconst 4, 1) := by decide +kernel
theorem dX8_bounds_27 : decode cX8_bounds 27 = .ok (.iload_n 1, 1) := by decide +kernel
theorem dX8_bounds_28 : decode cX8_bounds 28 = .ok (.imul, 1) := by decide +kernel
theorem dX8_bounds_29 : decode cX8_bounds 29 = .ok (.iload_n 2, 1) := by decide +kernel
theorem dX8_bounds_30 : decode cX8_bounds 30 = .ok (.iadd, 1) := by decide +kernel
theorem dX8_bounds_31 : decode cX8_bounds 31 = .ok (.iload_n 1, 1) := by decide +kernel
theorem dX8_bounds_32 : decode cX8_bounds 32 = .ok (.aload_n 0, 1) := by decide +kernel
theorem dX8_bounds_33 : decode cX8_bounds 33 = .ok (.getfield 186, 3) := by decide +kernel
theorem dX8_bounds_36 : decode cX8_bounds 36 = .ok (.if_icmp .ge 16, 3) := by decide +kernel
theorem dX8_bounds_39 : decode cX8_bounds 39 = .ok (.iload_n 1, 1) := by decide +kernel
theorem dX8_bounds_40 : decode cX8_bounds 40 = .ok (.iload_n 2, 1) := by decide +kernel
theorem dX8_bounds_41 : decode cX8_bounds 41 = .ok (.if_icmp .ne 7, 3) := by decide +kernel
theorem dX8_bounds_44 : decode cX8_bounds 44 = .ok (.iconst 1, 1) := by decide +kernel
theorem dX8_bounds_45 : decode cX8_bounds 45 = .ok (.goto 23, 3) := by decide +kernel
theorem dX8_bounds_48 : decode cX8_bounds 48 = .ok (.iconst 0, 1) := by decide +kernel
theorem dX8_bounds_49 : decode cX8_bounds 49 = .ok (.goto 19, 3) := by decide +kernel
theorem dX8_bounds_52 : decode cX8_bounds 52 = .ok (.aload_n 0, 1) := by decide +kernel
theorem dX8_bounds_53 : decode cX8_bounds 53 = .ok (.aload_n 0, 1) := by decide +kernel
theorem dX8_bounds_54 : decode cX8_bounds 54 = .ok (.getfield 78, 3) := by decide +kernel
theorem dX8_bounds_57 : decode cX8_bounds 57 = .ok (.iload_n 2, 1) := by decide +kernel
theorem dX8_bounds_58 : decode cX8_bounds 58 = .ok (.iaload, 1) := by decide +kernel
theorem dX8_bounds_59 : decode cX8_bounds 59 = .ok (.iload_n 1, 1) := by decide +kernel
theorem dX8_bounds_60 : decode cX8_bounds 60 = .ok (.aload_n 0, 1) := by decide +kernel
theorem dX8_bounds_61 : decode cX8_bounds 61 = .ok (.getfield 186, 3) := by decide +kernel
theorem dX8_bounds_64 : decode cX8_bounds 64 = .ok (.isub, 1) := by decide +kernel
theorem dX8_bounds_65 : decode cX8_bounds 65 = .ok (.invokevirtual 189, 3) := by decide +kernel
theorem dX8_bounds_68 : decode cX8_bounds 68 = .ok (.iastore, 1) := by decide +kernel
theorem dX8_bounds_69 : decode cX8_bounds 69 = .ok (.iinc 2 1, 3) := by decide +kernel
theorem dX8_bounds_72 : decode cX8_bounds 72 = .ok (.goto (-58), 3) := by decide +kernel
theorem dX8_bounds_75 : decode cX8_bounds 75 = .ok (.iinc 1 1, 3) := by decide +kernel
theorem dX8_bounds_78 : decode cX8_bounds 78 = .ok (.goto (-76), 3) := by decide +kernel
theorem dX8_bounds_81 : decode cX8_bounds 81 = .ok (.return_, 1) := by decide +kernel
theorem dX8_two_0 : decode cX8_two 0 = .ok (.aload_n 0, 1) := by decide +kernel
theorem dX8_two_1 : decode cX8_two 1 = .ok (.getfield 81, 3) := by decide +kernel
theorem dX8_two_4 : decode cX8_two 4 = .ok (.iconst 4, 1) := by decide +kernel
theorem dX8_two_5 : decode cX8_two 5 = .ok (.iload_n 1, 1) := by decide +kernel
theorem dX8_two_6 : decode cX8_two 6 = .ok (.imul, 1) := by decide +kernel
theorem dX8_two_7 : decode cX8_two 7 = .ok (.iload_n 3, 1) := by decide +kernel
theorem dX8_two_8 : decode cX8_two 8 = .ok (.iadd, 1) := by decide +kernel
theorem dX8_two_9 : decode cX8_two 9 = .ok (.iaload, 1) := by decide +kernel
theorem dX8_two_10 : decode cX8_two 10 = .ok (.i2l, 1) := by decide +kernel
theorem dX8_two_11 : decode cX8_two 11 = .ok (.aload_n 0, 1) := by decide +kernel
theorem dX8_two_12 : decode cX8_two 12 = .ok (.getfield 81, 3) := by decide +kernel
theorem dX8_two_15 : decode cX8_two 15 = .ok (.iconst 4, 1) := by decide +kernel
theorem dX8_two_16 : decode cX8_two 16 = .ok (.iload_n 2, 1) := by decide +kernel
theorem dX8_two_17 : decode cX8_two 17 = .ok (.imul, 1) := by decide +kernel
theorem dX8_two_18 : decode cX8_two 18 = .ok (.iload 4, 2) := by decide +kernel
theorem dX8_two_20 : decode cX8_two 20 = .ok (.iadd, 1) := by decide +kernel
theorem dX8_two_21 : decode cX8_two 21 = .ok (.iaload, 1) := by decide +kernel
theorem dX8_two_22 : decode cX8_two 22 = .ok (.i2l, 1) := by decide +kernel
theorem dX8_two_23 : decode cX8_two 23 = .ok (.lmul, 1) := by decide +kernel
theorem dX8_two_24 : decode cX8_two 24 = .ok (.aload_n 0, 1) := by decide +kernel
theorem dX8_two_25 : decode cX8_two 25 = .ok (.getfield 81, 3) := by decide +kernel
theorem dX8_two_28 : decode cX8_two 28 = .ok (.iconst 4, 1) := by decide +kernel
theorem dX8_two_29 : decode cX8_two 29 = .ok (.iload_n 1, 1) := by decide +kernel
theorem dX8_two_30 : decode cX8_two 30 = .ok (.imul, 1) := by decide +kernel
theorem dX8_two_31 : decode cX8_two 31 = .ok (.iload 4, 2) := by decide +kernel
theorem dX8_two_33 : decode cX8_two 33 = .ok (.iadd, 1) := by decide +kernel
theorem dX8_two_34 : decode cX8_two 34 = .ok (.iaload, 1) := by decide +kernel
theorem dX8_two_35 : decode cX8_two 35 = .ok (.i2l, 1) := by decide +kernel
theorem dX8_two_36 : decode cX8_two 36 = .ok (.aload_n 0, 1) := by decide +kernel
theorem dX8_two_37 : decode cX8_two 37 = .ok (.getfield 81, 3) := by decide +kernel
theorem dX8_two_40 : decode cX8_two 40 = .ok (.iconst 4, 1) := by decide +kernel
theorem dX8_two_41 : decode cX8_two 41 = .ok (.iload_n 2, 1) := by decide +kernel
theorem dX8_two_42 : decode cX8_two 42 = .ok (.imul, 1) := by decide +kernel
theorem dX8_two_43 : decode cX8_two 43 = .ok (.iload_n 3, 1) := by decide +kernel
theorem dX8_two_44 : decode cX8_two 44 = .ok (.iadd, 1) := by decide +kernel
theorem dX8_two_45 : decode cX8_two 45 = .ok (.iaload, 1) := by decide +kernel
theorem dX8_two_46 : decode cX8_two 46 = .ok (.i2l, 1) := by decide +kernel
theorem dX8_two_47 : decode cX8_two 47 = .ok (.lmul, 1) := by decide +kernel
theorem dX8_two_48 : decode cX8_two 48 = .ok (.lsub, 1) := by decide +kernel
theorem dX8_two_49 : decode cX8_two 49 = .ok (.lreturn, 1) := by decide +kernel
theorem dX8_three_0 : decode cX8_three 0 = .ok (.aload_n 0, 1) := by decide +kernel
theorem dX8_three_1 : decode cX8_three 1 = .ok (.getfield 81, 3) := by decide +kernel
theorem dX8_three_4 : decode cX8_three 4 = .ok (.iconst 4, 1) := by decide +kernel
theorem dX8_three_5 : decode cX8_three 5 = .ok (.iload_n 1, 1) := by decide +kernel
theorem dX8_three_6 : decode cX8_three 6 = .ok (.imul, 1) := by decide +kernel
theorem dX8_three_7 : decode cX8_three 7 = .ok (.iload 4, 2) := by decide +kernel
theorem dX8_three_9 : decode cX8_three 9 = .ok (.iadd, 1) := by decide +kernel
theorem dX8_three_10 : decode cX8_three 10 = .ok (.iaload, 1) := by decide +kernel
theorem dX8_three_11 : decode cX8_three 11 = .ok (.i2l, 1) := by decide +kernel
theorem dX8_three_12 : decode cX8_three 12 = .ok (.aload_n 0, 1) := by decide +kernel
theorem dX8_three_13 : decode cX8_three 13 = .ok (.iload_n 2, 1) := by decide +kernel
theorem dX8_three_14 : decode cX8_three 14 = .ok (.iload_n 3, 1) := by decide +kernel
theorem dX8_three_15 : decode cX8_three 15 = .ok (.iload 5, 2) := by decide +kernel
theorem dX8_three_17 : decode cX8_three 17 = .ok (.iload 6, 2) := by decide +kernel
theorem dX8_three_19 : decode cX8_three 19 = .ok (.invokevirtual 192, 3) := by decide +kernel
theorem dX8_three_22 : decode cX8_three 22 = .ok (.lmul, 1) := by decide +kernel
theorem dX8_three_23 : decode cX8_three 23 = .ok (.aload_n 0, 1) := by decide +kernel
theorem dX8_three_24 : decode cX8_three 24 = .ok (.getfield 81, 3) := by decide +kernel
theorem dX8_three_27 : decode cX8_three 27 = .ok (.iconst 4, 1) := by decide +kernel
theorem dX8_three_28 : decode cX8_three 28 = .ok (.iload_n 1, 1) := by decide +kernel
theorem dX8_three_29 : decode cX8_three 29 = .ok (.imul, 1) := by decide +kernel
theorem dX8_three_30 : decode cX8_three 30 = .ok (.iload 5, 2) := by decide +kernel
theorem dX8_three_32 : decode cX8_three 32 = .ok (.iadd, 1) := by decide +kernel
theorem dX8_three_33 : decode cX8_three 33 = .ok (.iaload, 1) := by decide +kernel
theorem dX8_three_34 : decode cX8_three 34 = .ok (.i2l, 1) := by decide +kernel
theorem dX8_three_35 : decode cX8_three 35 = .ok (.aload_n 0, 1) := by decide +kernel
theorem dX8_three_36 : decode cX8_three 36 = .ok (.iload_n 2, 1) := by decide +kernel
theorem dX8_three_37 : decode cX8_three 37 = .ok (.iload_n 3, 1) := by decide +kernel
theorem dX8_three_38 : decode cX8_three 38 = .ok (.iload 4, 2) := by decide +kernel
theorem dX8_three_40 : decode cX8_three 40 = .ok (.iload 6, 2) := by decide +kernel
theorem dX8_three_42 : decode cX8_three 42 = .ok (.invokevirtual 192, 3) := by decide +kernel
theorem dX8_three_45 : decode cX8_three 45 = .ok (.lmul, 1) := by decide +kernel
theorem dX8_three_46 : decode cX8_three 46 = .ok (.lsub, 1) := by decide +kernel
theorem dX8_three_47 : decode cX8_three 47 = .ok (.aload_n 0, 1) := by decide +kernel
theorem dX8_three_48 : decode cX8_three 48 = .ok (.getfield 81, 3) := by decide +kernel
theorem dX8_three_51 : decode cX8_three 51 = .ok (.iconst 4, 1) := by decide +kernel
theorem dX8_three_52 : decode cX8_three 52 = .ok (.iload_n 1, 1) := by decide +kernel
theorem dX8_three_53 : decode cX8_three 53 = .ok (.imul, 1) := by decide +kernel
theorem dX8_three_54 : decode cX8_three 54 = .ok (.iload 6, 2) := by decide +kernel
theorem dX8_three_56 : decode cX8_three 56 = .ok (.iadd, 1) := by decide +kernel
theorem dX8_three_57 : decode cX8_three 57 = .ok (.iaload, 1) := by decide +kernel
theorem dX8_three_58 : decode cX8_three 58 = .ok (.i2l, 1) := by decide +kernel
theorem dX8_three_59 : decode cX8_three 59 = .ok (.aload_n 0, 1) := by decide +kernel
theorem dX8_three_60 : decode cX8_three 60 = .ok (.iload_n 2, 1) := by decide +kernel
theorem dX8_three_61 : decode cX8_three 61 = .ok (.iload_n 3, 1) := by decide +kernel
theorem dX8_three_62 : decode cX8_three 62 = .ok (.iload 4, 2) := by decide +kernel
theorem dX8_three_64 : decode cX8_three 64 = .ok (.iload 5, 2) := by decide +kernel
theorem dX8_three_66 : decode cX8_three 66 = .ok (.invokevirtual 192, 3) := by decide +kernel
theorem dX8_three_69 : decode cX8_three 69 = .ok (.lmul, 1) := by decide +kernel
theorem dX8_three_70 : decode cX8_three 70 = .ok (.ladd, 1) := by decide +kernel
theorem dX8_three_71 : decode cX8_three 71 = .ok (.lreturn, 1) := by decide +kernel
theorem dX8_isGain_0 : decode cX8_isGain 0 = .ok (.aload_n 0, 1) := by decide +kernel
theorem dX8_isGain_1 : decode cX8_isGain 1 = .ok (.lconst 1, 1) := by decide +kernel
theorem dX8_isGain_2 : decode cX8_isGain 2 = .ok (.invokevirtual 196, 3) := by decide +kernel
theorem dX8_isGain_5 : decode cX8_isGain 5 = .ok (.ifCond .ne 13, 3) := by decide +kernel
theorem dX8_isGain_8 : decode cX8_isGain 8 = .ok (.aload_n 0, 1) := by decide +kernel
theorem dX8_isGain_9 : decode cX8_isGain 9 = .ok (.ldc2_w 200, 3) := by decide +kernel
theorem dX8_isGain_12 : decode cX8_isGain 12 = .ok (.invokevirtual 196, 3) := by decide +kernel
theorem dX8_isGain_15 : decode cX8_isGain 15 = .ok (.ifCond .eq 7, 3) := by decide +kernel
theorem dX8_isGain_18 : decode cX8_isGain 18 = .ok (.iconst 1, 1) := by decide +kernel
theorem dX8_isGain_19 : decode cX8_isGain 19 = .ok (.goto 4, 3) := by decide +kernel
theorem dX8_isGain_22 : decode cX8_isGain 22 = .ok (.iconst 0, 1) := by decide +kernel
theorem dX8_isGain_23 : decode cX8_isGain 23 = .ok (.ireturn, 1) := by decide +kernel
theorem dX8_isGain__0 : decode cX8_isGain_ 0 = .ok (.iconst 1, 1) := by decide +kernel
theorem dX8_isGain__1 : decode cX8_isGain_ 1 = .ok (.istore_n 3, 1) := by decide +kernel
theorem dX8_isGain__2 : decode cX8_isGain_ 2 = .ok (.iconst 0, 1) := by decide +kernel
theorem dX8_isGain__3 : decode cX8_isGain_ 3 = .ok (.istore 4, 2) := by decide +kernel
theorem dX8_isGain__5 : decode cX8_isGain_ 5 = .ok (.iconst 0, 1) := by decide +kernel
theorem dX8_isGain__6 : decode cX8_isGain_ 6 = .ok (.istore 5, 2) := by decide +kernel
theorem dX8_isGain__8 : decode cX8_isGain_ 8 = .ok (.iload 5, 2) := by decide +kernel
theorem dX8_isGain__10 : decode cX8_isGain_ 10 = .ok (.aload_n 0, 1) := by decide +kernel
theorem dX8_isGain__11 : decode cX8_isGain_ 11 = .ok (.getfield 186, 3) := by decide +kernel
theorem dX8_isGain__14 : decode cX8_isGain_ 14 = .ok (.if_icmp .ge 33, 3) := by decide +kernel
theorem dX8_isGain__17 : decode cX8_isGain_ 17 = .ok (.iload_n 3, 1) := by decide +kernel
theorem dX8_isGain__18 : decode cX8_isGain_ 18 = .ok (.ifCond .eq 21, 3) := by decide +kernel
theorem dX8_isGain__21 : decode cX8_isGain_ 21 = .ok (.lload_n 1, 1) := by decide +kernel
theorem dX8_isGain__22 : decode cX8_isGain_ 22 = .ok (.aload_n 0, 1) := by decide +kernel
theorem dX8_isGain__23 : decode cX8_isGain_ 23 = .ok (.getfield 84, 3) := by decide +kernel
theorem dX8_isGain__26 : decode cX8_isGain_ 26 = .ok (.iload 5, 2) := by decide +kernel
theorem dX8_isGain__28 : decode cX8_isGain_ 28 = .ok (.laload, 1) := by decide +kernel
theorem dX8_isGain__29 : decode cX8_isGain_ 29 = .ok (.lmul, 1) := by decide +kernel
theorem dX8_isGain__30 : decode cX8_isGain_ 30 = .ok (.lconst 0, 1) := by decide +kernel
theorem dX8_isGain__31 : decode cX8_isGain_ 31 = .ok (.lcmp, 1) := by decide +kernel
theorem dX8_isGain__32 : decode cX8_isGain_ 32 = .ok (.ifCond .lt 7, 3) := by decide +kernel
theorem dX8_isGain__35 : decode cX8_isGain_ 35 = .ok (.iconst 1, 1) := by decide +kernel
theorem dX8_isGain__36 : decode cX8_isGain_ 36 = .ok (.goto 4, 3) := by decide +kernel
theorem dX8_isGain__39 : decode cX8_isGain_ 39 = .ok (.iconst 0, 1) := by decide +kernel
theorem dX8_isGain__40 : decode cX8_isGain_ 40 = .ok (.istore_n 3, 1) := by decide +kernel
theorem dX8_isGain__41 : decode cX8_isGain_ 41 = .ok (.iinc 5 1, 3) := by decide +kernel
theorem dX8_isGain__44 : decode cX8_isGain_ 44 = .ok (.goto (-36), 3) := by decide +kernel
theorem dX8_isGain__47 : decode cX8_isGain_ 47 = .ok (.iconst 0, 1) := by decide +kernel
theorem dX8_isGain__48 : decode cX8_isGain_ 48 = .ok (.istore 5, 2) := by decide +kernel
theorem dX8_isGain__50 : decode cX8_isGain_ 50 = .ok (.iload 5, 2) := by decide +kernel
theorem dX8_isGain__52 : decode cX8_isGain_ 52 = .ok (.iconst 4, 1) := by decide +kernel
theorem dX8_isGain__53 : decode cX8_isGain_ 53 = .ok (.if_icmp .ge 95, 3) := by decide +kernel
theorem dX8_isGain__56 : decode cX8_isGain_ 56 = .ok (.lconst 0, 1) := by decide +kernel
theorem dX8_isGain__57 : decode cX8_isGain_ 57 = .ok (.lstore 6, 2) := by decide +kernel
theorem dX8_isGain__59 : decode cX8_isGain_ 59 = .ok (.iconst 0, 1) := by decide +kernel
theorem dX8_isGain__60 : decode cX8_isGain_ 60 = .ok (.istore 8, 2) := by decide +kernel
theorem dX8_isGain__62 : decode cX8_isGain_ 62 = .ok (.iload 8, 2) := by decide +kernel
theorem dX8_isGain__64 : decode cX8_isGain_ 64 = .ok (.aload_n 0, 1) := by decide +kernel
theorem dX8_isGain__65 : decode cX8_isGain_ 65 = .ok (.getfield 186, 3) := by decide +kernel
theorem dX8_isGain__68 : decode cX8_isGain_ 68 = .ok (.if_icmp .ge 38, 3) := by decide +kernel
theorem dX8_isGain__71 : decode cX8_isGain_ 71 = .ok (.lload 6, 2) := by decide +kernel
theorem dX8_isGain__73 : decode cX8_isGain_ 73 = .ok (.lload_n 1, 1) := by decide +kernel
theorem dX8_isGain__74 : decode cX8_isGain_ 74 = .ok (.aload_n 0, 1) := by decide +kernel
theorem dX8_isGain__75 : decode cX8_isGain_ 75 = .ok (.getfield 84, 3) := by decide +kernel
theorem dX8_isGain__78 : decode cX8_isGain_ 78 = .ok (.iload 8, 2) := by decide +kernel
theorem dX8_isGain__80 : decode cX8_isGain_ 80 = .ok (.laload, 1) := by decide +kernel
theorem dX8_isGain__81 : decode cX8_isGain_ 81 = .ok (.lmul, 1) := by decide +kernel
theorem dX8_isGain__82 : decode cX8_isGain_ 82 = .ok (.aload_n 0, 1) := by decide +kernel
theorem dX8_isGain__83 : decode cX8_isGain_ 83 = .ok (.aload_n 0, 1) := by decide +kernel
theorem dX8_isGain__84 : decode cX8_isGain_ 84 = .ok (.getfield 78, 3) := by decide +kernel
theorem dX8_isGain__87 : decode cX8_isGain_ 87 = .ok (.iload 8, 2) := by decide +kernel
theorem dX8_isGain__89 : decode cX8_isGain_ 89 = .ok (.iaload, 1) := by decide +kernel
theorem dX8_isGain__90 : decode cX8_isGain_ 90 = .ok (.iload 5, 2) := by decide +kernel
theorem dX8_isGain__92 : decode cX8_isGain_ 92 = .ok (.invokevirtual 189, 3) := by decide +kernel
theorem dX8_isGain__95 : decode cX8_isGain_ 95 = .ok (.i2l, 1) := by decide +kernel
theorem dX8_isGain__96 : decode cX8_isGain_ 96 = .ok (.lmul, 1) := by decide +kernel
theorem dX8_isGain__97 : decode cX8_isGain_ 97 = .ok (.ladd, 1) := by decide +kernel
theorem dX8_isGain__98 : decode cX8_isGain_ 98 = .ok (.lstore 6, 2) := by decide +kernel
theorem dX8_isGain__100 : decode cX8_isGain_ 100 = .ok (.iinc 8 1, 3) := by decide +kernel
theorem dX8_isGain__103 : decode cX8_isGain_ 103 = .ok (.goto (-41), 3) := by decide +kernel
theorem dX8_isGain__106 : decode cX8_isGain_ 106 = .ok (.iload_n 3, 1) := by decide +kernel
theorem dX8_isGain__107 : decode cX8_isGain_ 107 = .ok (.ifCond .eq 14, 3) := by decide +kernel
theorem dX8_isGain__110 : decode cX8_isGain_ 110 = .ok (.lload 6, 2) := by decide +kernel
theorem dX8_isGain__112 : decode cX8_isGain_ 112 = .ok (.lconst 0, 1) := by decide +kernel
theorem dX8_isGain__113 : decode cX8_isGain_ 113 = .ok (.lcmp, 1) := by decide +kernel
theorem dX8_isGain__114 : decode cX8_isGain_ 114 = .ok (.ifCond .lt 7, 3) := by decide +kernel
theorem dX8_isGain__117 : decode cX8_isGain_ 117 = .ok (.iconst 1, 1) := by decide +kernel
theorem dX8_isGain__118 : decode cX8_isGain_ 118 = .ok (.goto 4, 3) := by decide +kernel
theorem dX8_isGain__121 : decode cX8_isGain_ 121 = .ok (.iconst 0, 1) := by decide +kernel
theorem dX8_isGain__122 : decode cX8_isGain_ 122 = .ok (.istore_n 3, 1) := by decide +kernel
theorem dX8_isGain__123 : decode cX8_isGain_ 123 = .ok (.iload 4, 2) := by decide +kernel
theorem dX8_isGain__125 : decode cX8_isGain_ 125 = .ok (.ifCond .ne 10, 3) := by decide +kernel
theorem dX8_isGain__128 : decode cX8_isGain_ 128 = .ok (.lload 6, 2) := by decide +kernel
theorem dX8_isGain__130 : decode cX8_isGain_ 130 = .ok (.lconst 0, 1) := by decide +kernel
theorem dX8_isGain__131 : decode cX8_isGain_ 131 = .ok (.lcmp, 1) := by decide +kernel
theorem dX8_isGain__132 : decode cX8_isGain_ 132 = .ok (.ifCond .le 7, 3) := by decide +kernel
theorem dX8_isGain__135 : decode cX8_isGain_ 135 = .ok (.iconst 1, 1) := by decide +kernel
theorem dX8_isGain__136 : decode cX8_isGain_ 136 = .ok (.goto 4, 3) := by decide +kernel
theorem dX8_isGain__139 : decode cX8_isGain_ 139 = .ok (.iconst 0, 1) := by decide +kernel
theorem dX8_isGain__140 : decode cX8_isGain_ 140 = .ok (.istore 4, 2) := by decide +kernel
theorem dX8_isGain__142 : decode cX8_isGain_ 142 = .ok (.iinc 5 1, 3) := by decide +kernel
theorem dX8_isGain__145 : decode cX8_isGain_ 145 = .ok (.goto (-95), 3) := by decide +kernel
theorem dX8_isGain__148 : decode cX8_isGain_ 148 = .ok (.iload_n 3, 1) := by decide +kernel
theorem dX8_isGain__149 : decode cX8_isGain_ 149 = .ok (.ifCond .eq 12, 3) := by decide +kernel
theorem dX8_isGain__152 : decode cX8_isGain_ 152 = .ok (.iload 4, 2) := by decide +kernel
theorem dX8_isGain__154 : decode cX8_isGain_ 154 = .ok (.ifCond .eq 7, 3) := by decide +kernel
theorem dX8_isGain__157 : decode cX8_isGain_ 157 = .ok (.iconst 1, 1) := by decide +kernel
theorem dX8_isGain__158 : decode cX8_isGain_ 158 = .ok (.goto 4, 3) := by decide +kernel
theorem dX8_isGain__161 : decode cX8_isGain_ 161 = .ok (.iconst 0, 1) := by decide +kernel
theorem dX8_isGain__162 : decode cX8_isGain_ 162 = .ok (.ireturn, 1) := by decide +kernel
theorem dX8_gainsWithSome_0 : decode cX8_gainsWithSome 0 = .ok (.aload_n 0, 1) := by decide +kernel
theorem dX8_gainsWithSome_1 : decode cX8_gainsWithSome 1 = .ok (.invokevirtual 202, 3) := by decide +kernel
theorem dX8_gainsWithSome_4 : decode cX8_gainsWithSome 4 = .ok (.aload_n 0, 1) := by decide +kernel
theorem dX8_gainsWithSome_5 : decode cX8_gainsWithSome 5 = .ok (.getfield 186, 3) := by decide +kernel
theorem dX8_gainsWithSome_8 : decode cX8_gainsWithSome 8 = .ok (.iconst 4, 1) := by decide +kernel
theorem dX8_gainsWithSome_9 : decode cX8_gainsWithSome 9 = .ok (.iadd, 1) := by decide +kernel
theorem dX8_gainsWithSome_10 : decode cX8_gainsWithSome 10 = .ok (.istore_n 1, 1) := by decide +kernel
theorem dX8_gainsWithSome_11 : decode cX8_gainsWithSome 11 = .ok (.aload_n 0, 1) := by decide +kernel
theorem dX8_gainsWithSome_12 : decode cX8_gainsWithSome 12 = .ok (.getfield 186, 3) := by decide +kernel
theorem dX8_gainsWithSome_15 : decode cX8_gainsWithSome 15 = .ok (.iconst 1, 1) := by decide +kernel
theorem dX8_gainsWithSome_16 : decode cX8_gainsWithSome 16 = .ok (.if_icmp .ne 15, 3) := by decide +kernel
theorem dX8_gainsWithSome_19 : decode cX8_gainsWithSome 19 = .ok (.aload_n 0, 1) := by decide +kernel
theorem dX8_gainsWithSome_20 : decode cX8_gainsWithSome 20 = .ok (.getfield 84, 3) := by decide +kernel
theorem dX8_gainsWithSome_23 : decode cX8_gainsWithSome 23 = .ok (.iconst 0, 1) := by decide +kernel
theorem dX8_gainsWithSome_24 : decode cX8_gainsWithSome 24 = .ok (.lconst 1, 1) := by decide +kernel
theorem dX8_gainsWithSome_25 : decode cX8_gainsWithSome 25 = .ok (.lastore, 1) := by decide +kernel
theorem dX8_gainsWithSome_26 : decode cX8_gainsWithSome 26 = .ok (.aload_n 0, 1) := by decide +kernel
theorem dX8_gainsWithSome_27 : decode cX8_gainsWithSome 27 = .ok (.invokevirtual 205, 3) := by decide +kernel
theorem dX8_gainsWithSome_30 : decode cX8_gainsWithSome 30 = .ok (.ireturn, 1) := by decide +kernel
theorem dX8_gainsWithSome_31 : decode cX8_gainsWithSome 31 = .ok (.iconst 0, 1) := by decide +kernel
theorem dX8_gainsWithSome_32 : decode cX8_gainsWithSome 32 = .ok (.istore_n 2, 1) := by decide +kernel
theorem dX8_gainsWithSome_33 : decode cX8_gainsWithSome 33 = .ok (.iload_n 2, 1) := by decide +kernel
theorem dX8_gainsWithSome_34 : decode cX8_gainsWithSome 34 = .ok (.iload_n 1, 1) := by decide +kernel
theorem dX8_gainsWithSome_35 : decode cX8_gainsWithSome 35 = .ok (.if_icmp .ge 230, 3) := by decide +kernel
theorem dX8_gainsWithSome_38 : decode cX8_gainsWithSome 38 = .ok (.aload_n 0, 1) := by decide +kernel
theorem dX8_gainsWithSome_39 : decode cX8_gainsWithSome 39 = .ok (.getfield 186, 3) := by decide +kernel
theorem dX8_gainsWithSome_42 : decode cX8_gainsWithSome 42 = .ok (.iconst 2, 1) := by decide +kernel
theorem dX8_gainsWithSome_43 : decode cX8_gainsWithSome 43 = .ok (.if_icmp .ne 45, 3) := by decide +kernel
theorem dX8_gainsWithSome_46 : decode cX8_gainsWithSome 46 = .ok (.aload_n 0, 1) := by decide +kernel
theorem dX8_gainsWithSome_47 : decode cX8_gainsWithSome 47 = .ok (.getfield 84, 3) := by decide +kernel
theorem dX8_gainsWithSome_50 : decode cX8_gainsWithSome 50 = .ok (.iconst 0, 1) := by decide +kernel
theorem dX8_gainsWithSome_51 : decode cX8_gainsWithSome 51 = .ok (.aload_n 0, 1) := by decide +kernel
theorem dX8_gainsWithSome_52 : decode cX8_gainsWithSome 52 = .ok (.getfield 81, 3) := by decide +kernel
theorem dX8_gainsWithSome_55 : decode cX8_gainsWithSome 55 = .ok (.iconst 4, 1) := by decide +kernel
theorem dX8_gainsWithSome_56 : decode cX8_gainsWithSome 56 = .ok (.iload_n 2, 1) := by decide +kernel
theorem dX8_gainsWithSome_57 : decode cX8_gainsWithSome 57 = .ok (.imul, 1) := by decide +kernel
theorem dX8_gainsWithSome_58 : decode cX8_gainsWithSome 58 = .ok (.iconst 1, 1) := by decide +kernel
theorem dX8_gainsWithSome_59 : decode cX8_gainsWithSome 59 = .ok (.iadd, 1) := by decide +kernel
theorem dX8_gainsWithSome_60 : decode cX8_gainsWithSome 60 = .ok (.iaload, 1) := by decide +kernel
theorem dX8_gainsWithSome_61 : decode cX8_gainsWithSome 61 = .ok (.i2l, 1) := by decide +kernel
theorem dX8_gainsWithSome_62 : decode cX8_gainsWithSome 62 = .ok (.lastore, 1) := by decide +kernel
theorem dX8_gainsWithSome_63 : decode cX8_gainsWithSome 63 = .ok (.aload_n 0, 1) := by decide +kernel
theorem dX8_gainsWithSome_64 : decode cX8_gainsWithSome 64 = .ok (.getfield 84, 3) := by decide +kernel
theorem dX8_gainsWithSome_67 : decode cX8_gainsWithSome 67 = .ok (.iconst 1, 1) := by decide +kernel
theorem dX8_gainsWithSome_68 : decode cX8_gainsWithSome 68 = .ok (.aload_n 0, 1) := by decide +kernel
theorem dX8_gainsWithSome_69 : decode cX8_gainsWithSome 69 = .ok (.getfield 81, 3) := by decide +kernel
theorem dX8_gainsWithSome_72 : decode cX8_gainsWithSome 72 = .ok (.iconst 4, 1) := by decide +kernel
theorem dX8_gainsWithSome_73 : decode cX8_gainsWithSome 73 = .ok (.iload_n 2, 1) := by decide +kernel
theorem dX8_gainsWithSome_74 : decode cX8_gainsWithSome 74 = .ok (.imul, 1) := by decide +kernel
theorem dX8_gainsWithSome_75 : decode cX8_gainsWithSome 75 = .ok (.iaload, 1) := by decide +kernel
theorem dX8_gainsWithSome_76 : decode cX8_gainsWithSome 76 = .ok (.ineg, 1) := by decide +kernel
theorem dX8_gainsWithSome_77 : decode cX8_gainsWithSome 77 = .ok (.i2l, 1) := by decide +kernel
theorem dX8_gainsWithSome_78 : decode cX8_gainsWithSome 78 = .ok (.lastore, 1) := by decide +kernel
theorem dX8_gainsWithSome_79 : decode cX8_gainsWithSome 79 = .ok (.aload_n 0, 1) := by decide +kernel
theorem dX8_gainsWithSome_80 : decode cX8_gainsWithSome 80 = .ok (.invokevirtual 205, 3) := by decide +kernel
theorem dX8_gainsWithSome_83 : decode cX8_gainsWithSome 83 = .ok (.ifCond .eq 176, 3) := by decide +kernel
theorem dX8_gainsWithSome_86 : decode cX8_gainsWithSome 86 = .ok (.iconst 1, 1) := by decide +kernel
theorem dX8_gainsWithSome_87 : decode cX8_gainsWithSome 87 = .ok (.ireturn, 1) := by decide +kernel
theorem dX8_gainsWithSome_88 : decode cX8_gainsWithSome 88 = .ok (.iload_n 2, 1) := by decide +kernel
theorem dX8_gainsWithSome_89 : decode cX8_gainsWithSome 89 = .ok (.iconst 1, 1) := by decide +kernel
theorem dX8_gainsWithSome_90 : decode cX8_gainsWithSome 90 = .ok (.iadd, 1) := by decide +kernel
theorem dX8_gainsWithSome_91 : decode cX8_gainsWithSome 91 = .ok (.istore_n 3, 1) := by decide +kernel
theorem dX8_gainsWithSome_92 : decode cX8_gainsWithSome 92 = .ok (.iload_n 3, 1) := by decide +kernel
theorem dX8_gainsWithSome_93 : decode cX8_gainsWithSome 93 = .ok (.iload_n 1, 1) := by decide +kernel
theorem dX8_gainsWithSome_94 : decode cX8_gainsWithSome 94 = .ok (.if_icmp .ge 165, 3) := by decide +kernel
theorem dX8_gainsWithSome_97 : decode cX8_gainsWithSome 97 = .ok (.aload_n 0, 1) := by decide +kernel
theorem dX8_gainsWithSome_98 : decode cX8_gainsWithSome 98 = .ok (.getfield 186, 3) := by decide +kernel
theorem dX8_gainsWithSome_101 : decode cX8_gainsWithSome 101 = .ok (.iconst 3, 1) := by decide +kernel
theorem dX8_gainsWithSome_102 : decode cX8_gainsWithSome 102 = .ok (.if_icmp .ne 55, 3) := by decide +kernel
theorem dX8_gainsWithSome_105 : decode cX8_gainsWithSome 105 = .ok (.aload_n 0, 1) := by decide +kernel
theorem dX8_gainsWithSome_106 : decode cX8_gainsWithSome 106 = .ok (.getfield 84, 3) := by decide +kernel
theorem dX8_gainsWithSome_109 : decode cX8_gainsWithSome 109 = .ok (.iconst 0, 1) := by decide +kernel
theorem dX8_gainsWithSome_110 : decode cX8_gainsWithSome 110 = .ok (.aload_n 0, 1) := by decide +kernel
theorem dX8_gainsWithSome_111 : decode cX8_gainsWithSome 111 = .ok (.iload_n 2, 1) := by decide +kernel
theorem dX8_gainsWithSome_112 : decode cX8_gainsWithSome 112 = .ok (.iload_n 3, 1) := by decide +kernel
theorem dX8_gainsWithSome_113 : decode cX8_gainsWithSome 113 = .ok (.iconst 1, 1) := by decide +kernel
theorem dX8_gainsWithSome_114 : decode cX8_gainsWithSome 114 = .ok (.iconst 2, 1) := by decide +kernel
theorem dX8_gainsWithSome_115 : decode cX8_gainsWithSome 115 = .ok (.invokevirtual 192, 3) := by decide +kernel
theorem dX8_gainsWithSome_118 : decode cX8_gainsWithSome 118 = .ok (.lastore, 1) := by decide +kernel
theorem dX8_gainsWithSome_119 : decode cX8_gainsWithSome 119 = .ok (.aload_n 0, 1) := by decide +kernel
theorem dX8_gainsWithSome_120 : decode cX8_gainsWithSome 120 = .ok (.getfield 84, 3) := by decide +kernel
theorem dX8_gainsWithSome_123 : decode cX8_gainsWithSome 123 = .ok (.iconst 1, 1) := by decide +kernel
theorem dX8_gainsWithSome_124 : decode cX8_gainsWithSome 124 = .ok (.aload_n 0, 1) := by decide +kernel
theorem dX8_gainsWithSome_125 : decode cX8_gainsWithSome 125 = .ok (.iload_n 2, 1) := by decide +kernel
theorem dX8_gainsWithSome_126 : decode cX8_gainsWithSome 126 = .ok (.iload_n 3, 1) := by decide +kernel
theorem dX8_gainsWithSome_127 : decode cX8_gainsWithSome 127 = .ok (.iconst 0, 1) := by decide +kernel
theorem dX8_gainsWithSome_128 : decode cX8_gainsWithSome 128 = .ok (.iconst 2, 1) := by decide +kernel
theorem dX8_gainsWithSome_129 : decode cX8_gainsWithSome 129 = .ok (.invokevirtual 192, 3) := by decide +kernel
theorem dX8_gainsWithSome_132 : decode cX8_gainsWithSome 132 = .ok (.lneg, 1) := by decide +kernel
theorem dX8_gainsWithSome_133 : decode cX8_gainsWithSome 133 = .ok (.lastore, 1) := by decide +kernel
theorem dX8_gainsWithSome_134 : decode cX8_gainsWithSome 134 = .ok (.aload_n 0, 1) := by decide +kernel
theorem dX8_gainsWithSome_135 : decode cX8_gainsWithSome 135 = .ok (.getfield 84, 3) := by decide +kernel
theorem dX8_gainsWithSome_138 : decode cX8_gainsWithSome 138 = .ok (.iconst 2, 1) := by decide +kernel
theorem dX8_gainsWithSome_139 : decode cX8_gainsWithSome 139 = .ok (.aload_n 0, 1) := by decide +kernel
theorem dX8_gainsWithSome_140 : decode cX8_gainsWithSome 140 = .ok (.iload_n 2, 1) := by decide +kernel
theorem dX8_gainsWithSome_141 : decode cX8_gainsWithSome 141 = .ok (.iload_n 3, 1) := by decide +kernel
theorem dX8_gainsWithSome_142 : decode cX8_gainsWithSome 142 = .ok (.iconst 0, 1) := by decide +kernel
theorem dX8_gainsWithSome_143 : decode cX8_gainsWithSome 143 = .ok (.iconst 1, 1) := by decide +kernel
theorem dX8_gainsWithSome_144 : decode cX8_gainsWithSome 144 = .ok (.invokevirtual 192, 3) := by decide +kernel
theorem dX8_gainsWithSome_147 : decode cX8_gainsWithSome 147 = .ok (.lastore, 1) := by decide +kernel
theorem dX8_gainsWithSome_148 : decode cX8_gainsWithSome 148 = .ok (.aload_n 0, 1) := by decide +kernel
theorem dX8_gainsWithSome_149 : decode cX8_gainsWithSome 149 = .ok (.invokevirtual 205, 3) := by decide +kernel
theorem dX8_gainsWithSome_152 : decode cX8_gainsWithSome 152 = .ok (.ifCond .eq 101, 3) := by decide +kernel
theorem dX8_gainsWithSome_155 : decode cX8_gainsWithSome 155 = .ok (.iconst 1, 1) := by decide +kernel
theorem dX8_gainsWithSome_156 : decode cX8_gainsWithSome 156 = .ok (.ireturn, 1) := by decide +kernel
theorem dX8_gainsWithSome_157 : decode cX8_gainsWithSome 157 = .ok (.iload_n 3, 1) := by decide +kernel
theorem dX8_gainsWithSome_158 : decode cX8_gainsWithSome 158 = .ok (.iconst 1, 1) := by decide +kernel
theorem dX8_gainsWithSome_159 : decode cX8_gainsWithSome 159 = .ok (.iadd, 1) := by decide +kernel
theorem dX8_gainsWithSome_160 : decode cX8_gainsWithSome 160 = .ok (.istore 4, 2) := by decide +kernel
theorem dX8_gainsWithSome_162 : decode cX8_gainsWithSome 162 = .ok (.iload 4, 2) := by decide +kernel
theorem dX8_gainsWithSome_164 : decode cX8_gainsWithSome 164 = .ok (.iload_n 1, 1) := by decide +kernel
theorem dX8_gainsWithSome_165 : decode cX8_gainsWithSome 165 = .ok (.if_icmp .ge 88, 3) := by decide +kernel
theorem dX8_gainsWithSome_168 : decode cX8_gainsWithSome 168 = .ok (.aload_n 0, 1) := by decide +kernel
theorem dX8_gainsWithSome_169 : decode cX8_gainsWithSome 169 = .ok (.getfield 84, 3) := by decide +kernel
theorem dX8_gainsWithSome_172 : decode cX8_gainsWithSome 172 = .ok (.iconst 0, 1) := by decide +kernel
theorem dX8_gainsWithSome_173 : decode cX8_gainsWithSome 173 = .ok (.aload_n 0, 1) := by decide +kernel
theorem dX8_gainsWithSome_174 : decode cX8_gainsWithSome 174 = .ok (.iload_n 2, 1) := by decide +kernel
theorem dX8_gainsWithSome_175 : decode cX8_gainsWithSome 175 = .ok (.iload_n 3, 1) := by decide +kernel
theorem dX8_gainsWithSome_176 : decode cX8_gainsWithSome 176 = .ok (.iload 4, 2) := by decide +kernel
theorem dX8_gainsWithSome_178 : decode cX8_gainsWithSome 178 = .ok (.iconst 1, 1) := by decide +kernel
theorem dX8_gainsWithSome_179 : decode cX8_gainsWithSome 179 = .ok (.iconst 2, 1) := by decide +kernel
theorem dX8_gainsWithSome_180 : decode cX8_gainsWithSome 180 = .ok (.iconst 3, 1) := by decide +kernel
theorem dX8_gainsWithSome_181 : decode cX8_gainsWithSome 181 = .ok (.invokevirtual 208, 3) := by decide +kernel
theorem dX8_gainsWithSome_184 : decode cX8_gainsWithSome 184 = .ok (.lastore, 1) := by decide +kernel
theorem dX8_gainsWithSome_185 : decode cX8_gainsWithSome 185 = .ok (.aload_n 0, 1) := by decide +kernel
theorem dX8_gainsWithSome_186 : decode cX8_gainsWithSome 186 = .ok (.getfield 84, 3) := by decide +kernel
theorem dX8_gainsWithSome_189 : decode cX8_gainsWithSome 189 = .ok (.iconst 1, 1) := by decide +kernel
theorem dX8_gainsWithSome_190 : decode cX8_gainsWithSome 190 = .ok (.aload_n 0, 1) := by decide +kernel
theorem dX8_gainsWithSome_191 : decode cX8_gainsWithSome 191 = .ok (.iload_n 2, 1) := by decide +kernel
theorem dX8_gainsWithSome_192 : decode cX8_gainsWithSome 192 = .ok (.iload_n 3, 1) := by decide +kernel
theorem dX8_gainsWithSome_193 : decode cX8_gainsWithSome 193 = .ok (.iload 4, 2) := by decide +kernel
theorem dX8_gainsWithSome_195 : decode cX8_gainsWithSome 195 = .ok (.iconst 0, 1) := by decide +kernel
theorem dX8_gainsWithSome_196 : decode cX8_gainsWithSome 196 = .ok (.iconst 2, 1) := by decide +kernel
theorem dX8_gainsWithSome_197 : decode cX8_gainsWithSome 197 = .ok (.iconst 3, 1) := by decide +kernel
theorem dX8_gainsWithSome_198 : decode cX8_gainsWithSome 198 = .ok (.invokevirtual 208, 3) := by decide +kernel
theorem dX8_gainsWithSome_201 : decode cX8_gainsWithSome 201 = .ok (.lneg, 1) := by decide +kernel
theorem dX8_gainsWithSome_202 : decode cX8_gainsWithSome 202 = .ok (.lastore, 1) := by decide +kernel
theorem dX8_gainsWithSome_203 : decode cX8_gainsWithSome 203 = .ok (.aload_n 0, 1) := by decide +kernel
theorem dX8_gainsWithSome_204 : decode cX8_gainsWithSome 204 = .ok (.getfield 84, 3) := by decide +kernel
theorem dX8_gainsWithSome_207 : decode cX8_gainsWithSome 207 = .ok (.iconst 2, 1) := by decide +kernel
theorem dX8_gainsWithSome_208 : decode cX8_gainsWithSome 208 = .ok (.aload_n 0, 1) := by decide +kernel
theorem dX8_gainsWithSome_209 : decode cX8_gainsWithSome 209 = .ok (.iload_n 2, 1) := by decide +kernel
theorem dX8_gainsWithSome_210 : decode cX8_gainsWithSome 210 = .ok (.iload_n 3, 1) := by decide +kernel
theorem dX8_gainsWithSome_211 : decode cX8_gainsWithSome 211 = .ok (.iload 4, 2) := by decide +kernel
theorem dX8_gainsWithSome_213 : decode cX8_gainsWithSome 213 = .ok (.iconst 0, 1) := by decide +kernel
theorem dX8_gainsWithSome_214 : decode cX8_gainsWithSome 214 = .ok (.iconst 1, 1) := by decide +kernel
theorem dX8_gainsWithSome_215 : decode cX8_gainsWithSome 215 = .ok (.iconst 3, 1) := by decide +kernel
theorem dX8_gainsWithSome_216 : decode cX8_gainsWithSome 216 = .ok (.invokevirtual 208, 3) := by decide +kernel
theorem dX8_gainsWithSome_219 : decode cX8_gainsWithSome 219 = .ok (.lastore, 1) := by decide +kernel
theorem dX8_gainsWithSome_220 : decode cX8_gainsWithSome 220 = .ok (.aload_n 0, 1) := by decide +kernel
theorem dX8_gainsWithSome_221 : decode cX8_gainsWithSome 221 = .ok (.getfield 84, 3) := by decide +kernel
theorem dX8_gainsWithSome_224 : decode cX8_gainsWithSome 224 = .ok (.iconst 3, 1) := by decide +kernel
theorem dX8_gainsWithSome_225 : decode cX8_gainsWithSome 225 = .ok (.aload_n 0, 1) := by decide +kernel
theorem dX8_gainsWithSome_226 : decode cX8_gainsWithSome 226 = .ok (.iload_n 2, 1) := by decide +kernel
theorem dX8_gainsWithSome_227 : decode cX8_gainsWithSome 227 = .ok (.iload_n 3, 1) := by decide +kernel
theorem dX8_gainsWithSome_228 : decode cX8_gainsWithSome 228 = .ok (.iload 4, 2) := by decide +kernel
theorem dX8_gainsWithSome_230 : decode cX8_gainsWithSome 230 = .ok (.iconst 0, 1) := by decide +kernel
theorem dX8_gainsWithSome_231 : decode cX8_gainsWithSome 231 = .ok (.iconst 1, 1) := by decide +kernel
theorem dX8_gainsWithSome_232 : decode cX8_gainsWithSome 232 = .ok (.iconst 2, 1) := by decide +kernel
theorem dX8_gainsWithSome_233 : decode cX8_gainsWithSome 233 = .ok (.invokevirtual 208, 3) := by decide +kernel
theorem dX8_gainsWithSome_236 : decode cX8_gainsWithSome 236 = .ok (.lneg, 1) := by decide +kernel
theorem dX8_gainsWithSome_237 : decode cX8_gainsWithSome 237 = .ok (.lastore, 1) := by decide +kernel
theorem dX8_gainsWithSome_238 : decode cX8_gainsWithSome 238 = .ok (.aload_n 0, 1) := by decide +kernel
theorem dX8_gainsWithSome_239 : decode cX8_gainsWithSome 239 = .ok (.invokevirtual 205, 3) := by decide +kernel
theorem dX8_gainsWithSome_242 : decode cX8_gainsWithSome 242 = .ok (.ifCond .eq 5, 3) := by decide +kernel
theorem dX8_gainsWithSome_245 : decode cX8_gainsWithSome 245 = .ok (.iconst 1, 1) := by decide +kernel
theorem dX8_gainsWithSome_246 : decode cX8_gainsWithSome 246 = .ok (.ireturn, 1) := by decide +kernel
theorem dX8_gainsWithSome_247 : decode cX8_gainsWithSome 247 = .ok (.iinc 4 1, 3) := by decide +kernel
theorem dX8_gainsWithSome_250 : decode cX8_gainsWithSome 250 = .ok (.goto (-88), 3) := by decide +kernel
theorem dX8_gainsWithSome_253 : decode cX8_gainsWithSome 253 = .ok (.iinc 3 1, 3) := by decide +kernel
theorem dX8_gainsWithSome_256 : decode cX8_gainsWithSome 256 = .ok (.goto (-164), 3) := by decide +kernel
theorem dX8_gainsWithSome_259 : decode cX8_gainsWithSome 259 = .ok (.iinc 2 1, 3) := by decide +kernel
theorem dX8_gainsWithSome_262 : decode cX8_gainsWithSome 262 = .ok (.goto (-229), 3) := by decide +kernel
theorem dX8_gainsWithSome_265 : decode cX8_gainsWithSome 265 = .ok (.iconst 0, 1) := by decide +kernel
theorem dX8_gainsWithSome_266 : decode cX8_gainsWithSome 266 = .ok (.ireturn, 1) := by decide +kernel
theorem dX8_tries_0 : decode cX8_tries 0 = .ok (.iload_n 2, 1) := by decide +kernel
theorem dX8_tries_1 : decode cX8_tries 1 = .ok (.ifCond .le 17, 3) := by decide +kernel
theorem dX8_tries_4 : decode cX8_tries 4 = .ok (.aload_n 0, 1) := by decide +kernel
theorem dX8_tries_5 : decode cX8_tries 5 = .ok (.iload_n 2, 1) := by decide +kernel
theorem dX8_tries_6 : decode cX8_tries 6 = .ok (.putfield 186, 3) := by decide +kernel
theorem dX8_tries_9 : decode cX8_tries 9 = .ok (.aload_n 0, 1) := by decide +kernel
theorem dX8_tries_10 : decode cX8_tries 10 = .ok (.invokevirtual 212, 3) := by decide +kernel
theorem dX8_tries_13 : decode cX8_tries 13 = .ok (.ifCond .eq 5, 3) := by decide +kernel
theorem dX8_tries_16 : decode cX8_tries 16 = .ok (.iconst 1, 1) := by decide +kernel
theorem dX8_tries_17 : decode cX8_tries 17 = .ok (.ireturn, 1) := by decide +kernel
theorem dX8_tries_18 : decode cX8_tries 18 = .ok (.iload_n 2, 1) := by decide +kernel
theorem dX8_tries_19 : decode cX8_tries 19 = .ok (.iconst 4, 1) := by decide +kernel
theorem dX8_tries_20 : decode cX8_tries 20 = .ok (.if_icmp .ne 5, 3) := by decide +kernel
theorem dX8_tries_23 : decode cX8_tries 23 = .ok (.iconst 0, 1) := by decide +kernel
theorem dX8_tries_24 : decode cX8_tries 24 = .ok (.ireturn, 1) := by decide +kernel
theorem dX8_tries_25 : decode cX8_tries 25 = .ok (.iload_n 1, 1) := by decide +kernel
theorem dX8_tries_26 : decode cX8_tries 26 = .ok (.istore_n 3, 1) := by decide +kernel
theorem dX8_tries_27 : decode cX8_tries 27 = .ok (.iload_n 3, 1) := by decide +kernel
theorem dX8_tries_28 : decode cX8_tries 28 = .ok (.aload_n 0, 1) := by decide +kernel
theorem dX8_tries_29 : decode cX8_tries 29 = .ok (.getfield 98, 3) := by decide +kernel
theorem dX8_tries_32 : decode cX8_tries 32 = .ok (.if_icmp .ge 43, 3) := by decide +kernel
theorem dX8_tries_35 : decode cX8_tries 35 = .ok (.aload_n 0, 1) := by decide +kernel
theorem dX8_tries_36 : decode cX8_tries 36 = .ok (.getfield 25, 3) := by decide +kernel
theorem dX8_tries_39 : decode cX8_tries 39 = .ok (.iload_n 3, 1) := by decide +kernel
theorem dX8_tries_40 : decode cX8_tries 40 = .ok (.baload, 1) := by decide +kernel
theorem dX8_tries_41 : decode cX8_tries 41 = .ok (.ifCond .eq 6, 3) := by decide +kernel
theorem dX8_tries_44 : decode cX8_tries 44 = .ok (.goto 25, 3) := by decide +kernel
theorem dX8_tries_47 : decode cX8_tries 47 = .ok (.aload_n 0, 1) := by decide +kernel
theorem dX8_tries_48 : decode cX8_tries 48 = .ok (.getfield 78, 3) := by decide +kernel
theorem dX8_tries_51 : decode cX8_tries 51 = .ok (.iload_n 2, 1) := by decide +kernel
theorem dX8_tries_52 : decode cX8_tries 52 = .ok (.iload_n 3, 1) := by decide +kernel
theorem dX8_tries_53 : decode cX8_tries 53 = .ok (.iastore, 1) := by decide +kernel
theorem dX8_tries_54 : decode cX8_tries 54 = .ok (.aload_n 0, 1) := by decide +kernel
theorem dX8_tries_55 : decode cX8_tries 55 = .ok (.iload_n 3, 1) := by decide +kernel
theorem dX8_tries_56 : decode cX8_tries 56 = .ok (.iconst 1, 1) := by decide +kernel
theorem dX8_tries_57 : decode cX8_tries 57 = .ok (.iadd, 1) := by decide +kernel
theorem dX8_tries_58 : decode cX8_tries 58 = .ok (.iload_n 2, 1) := by decide +kernel
theorem dX8_tries_59 : decode cX8_tries 59 = .ok (.iconst 1, 1) := by decide +kernel
theorem dX8_tries_60 : decode cX8_tries 60 = .ok (.iadd, 1) := by decide +kernel
theorem dX8_tries_61 : decode cX8_tries 61 = .ok (.invokevirtual 215, 3) := by decide +kernel
theorem dX8_tries_64 : decode cX8_tries 64 = .ok (.ifCond .eq 5, 3) := by decide +kernel
theorem dX8_tries_67 : decode cX8_tries 67 = .ok (.iconst 1, 1) := by decide +kernel
theorem dX8_tries_68 : decode cX8_tries 68 = .ok (.ireturn, 1) := by decide +kernel
theorem dX8_tries_69 : decode cX8_tries 69 = .ok (.iinc 3 1, 3) := by decide +kernel
theorem dX8_tries_72 : decode cX8_tries 72 = .ok (.goto (-45), 3) := by decide +kernel
theorem dX8_tries_75 : decode cX8_tries 75 = .ok (.iconst 0, 1) := by decide +kernel
theorem dX8_tries_76 : decode cX8_tries 76 = .ok (.ireturn, 1) := by decide +kernel
theorem dX8_gains_0 : decode cX8_gains 0 = .ok (.aload_n 0, 1) := by decide +kernel
theorem dX8_gains_1 : decode cX8_gains 1 = .ok (.iconst 0, 1) := by decide +kernel
theorem dX8_gains_2 : decode cX8_gains 2 = .ok (.putfield 87, 3) := by decide +kernel
theorem dX8_gains_5 : decode cX8_gains 5 = .ok (.aload_n 0, 1) := by decide +kernel
theorem dX8_gains_6 : decode cX8_gains 6 = .ok (.iconst 0, 1) := by decide +kernel
theorem dX8_gains_7 : decode cX8_gains 7 = .ok (.iconst 0, 1) := by decide +kernel
theorem dX8_gains_8 : decode cX8_gains 8 = .ok (.invokevirtual 215, 3) := by decide +kernel
theorem dX8_gains_11 : decode cX8_gains 11 = .ok (.ireturn, 1) := by decide +kernel
theorem dX8_times_0 : decode cX8_times 0 = .ok (.aload_n 0, 1) := by decide +kernel
theorem dX8_times_1 : decode cX8_times 1 = .ok (.iconst 0, 1) := by decide +kernel
theorem dX8_times_2 : decode cX8_times 2 = .ok (.putfield 87, 3) := by decide +kernel
theorem dX8_times_5 : decode cX8_times 5 = .ok (.aload_n 0, 1) := by decide +kernel
theorem dX8_times_6 : decode cX8_times 6 = .ok (.aload_n 0, 1) := by decide +kernel
theorem dX8_times_7 : decode cX8_times 7 = .ok (.iload_n 1, 1) := by decide +kernel
theorem dX8_times_8 : decode cX8_times 8 = .ok (.invokevirtual 110, 3) := by decide +kernel
theorem dX8_times_11 : decode cX8_times 11 = .ok (.iconst 1, 1) := by decide +kernel
theorem dX8_times_12 : decode cX8_times 12 = .ok (.invokevirtual 106, 3) := by decide +kernel
theorem dX8_times_15 : decode cX8_times 15 = .ok (.ifCond .ne 28, 3) := by decide +kernel
theorem dX8_times_18 : decode cX8_times 18 = .ok (.aload_n 0, 1) := by decide +kernel
theorem dX8_times_19 : decode cX8_times 19 = .ok (.iload_n 2, 1) := by decide +kernel
theorem dX8_times_20 : decode cX8_times 20 = .ok (.i2l, 1) := by decide +kernel
theorem dX8_times_21 : decode cX8_times 21 = .ok (.lconst 0, 1) := by decide +kernel
theorem dX8_times_22 : decode cX8_times 22 = .ok (.ldc2_w 127, 3) := by decide +kernel
theorem dX8_times_25 : decode cX8_times 25 = .ok (.invokestatic 94, 3) := by decide +kernel
theorem dX8_times_28 : decode cX8_times 28 = .ok (.ifCond .ne 7, 3) := by decide +kernel
theorem dX8_times_31 : decode cX8_times 31 = .ok (.iconst 1, 1) := by decide +kernel
theorem dX8_times_32 : decode cX8_times 32 = .ok (.goto 4, 3) := by decide +kernel
theorem dX8_times_35 : decode cX8_times 35 = .ok (.iconst 0, 1) := by decide +kernel
theorem dX8_times_36 : decode cX8_times 36 = .ok (.iconst 2, 1) := by decide +kernel
theorem dX8_times_37 : decode cX8_times 37 = .ok (.invokevirtual 106, 3) := by decide +kernel
theorem dX8_times_40 : decode cX8_times 40 = .ok (.ifCond .eq 4, 3) := by decide +kernel
theorem dX8_times_43 : decode cX8_times 43 = .ok (.return_, 1) := by decide +kernel
theorem dX8_times_44 : decode cX8_times 44 = .ok (.aload_n 0, 1) := by decide +kernel
theorem dX8_times_45 : decode cX8_times 45 = .ok (.getfield 29, 3) := by decide +kernel
theorem dX8_times_48 : decode cX8_times 48 = .ok (.iload_n 1, 1) := by decide +kernel
theorem dX8_times_49 : decode cX8_times 49 = .ok (.iload_n 2, 1) := by decide +kernel
theorem dX8_times_50 : decode cX8_times 50 = .ok (.iastore, 1) := by decide +kernel
theorem dX8_times_51 : decode cX8_times 51 = .ok (.return_, 1) := by decide +kernel
theorem dX8_earns_0 : decode cX8_earns 0 = .ok (.aload_n 0, 1) := by decide +kernel
theorem dX8_earns_1 : decode cX8_earns 1 = .ok (.iconst 0, 1) := by decide +kernel
theorem dX8_earns_2 : decode cX8_earns 2 = .ok (.putfield 87, 3) := by decide +kernel
theorem dX8_earns_5 : decode cX8_earns 5 = .ok (.iconst 1, 1) := by decide +kernel
theorem dX8_earns_6 : decode cX8_earns 6 = .ok (.istore_n 1, 1) := by decide +kernel
theorem dX8_earns_7 : decode cX8_earns 7 = .ok (.iconst 0, 1) := by decide +kernel
theorem dX8_earns_8 : decode cX8_earns 8 = .ok (.istore_n 2, 1) := by decide +kernel
theorem dX8_earns_9 : decode cX8_earns 9 = .ok (.iconst 0, 1) := by decide +kernel
theorem dX8_earns_10 : decode cX8_earns 10 = .ok (.istore_n 3, 1) := by decide +kernel
theorem dX8_earns_11 : decode cX8_earns 11 = .ok (.iload_n 3, 1) := by decide +kernel
theorem dX8_earns_12 : decode cX8_earns 12 = .ok (.iconst 4, 1) := by decide +kernel
theorem dX8_earns_13 : decode cX8_earns 13 = .ok (.if_icmp .ge 94, 3) := by decide +kernel
theorem dX8_earns_16 : decode cX8_earns 16 = .ok (.iconst 0, 1) := by decide +kernel
theorem dX8_earns_17 : decode cX8_earns 17 = .ok (.istore 4, 2) := by decide +kernel
theorem dX8_earns_19 : decode cX8_earns 19 = .ok (.iconst 0, 1) := by decide +kernel
theorem dX8_earns_20 : decode cX8_earns 20 = .ok (.istore 5, 2) := by decide +kernel
theorem dX8_earns_22 : decode cX8_earns 22 = .ok (.iload 5, 2) := by decide +kernel
theorem dX8_earns_24 : decode cX8_earns 24 = .ok (.aload_n 0, 1) := by decide +kernel
theorem dX8_earns_25 : decode cX8_earns 25 = .ok (.getfield 98, 3) := by decide +kernel
theorem dX8_earns_28 : decode cX8_earns 28 = .ok (.if_icmp .ge 43, 3) := by decide +kernel
theorem dX8_earns_31 : decode cX8_earns 31 = .ok (.iload 4, 2) := by decide +kernel
theorem dX8_earns_33 : decode cX8_earns 33 = .ok (.aload_n 0, 1) := by decide +kernel
theorem dX8_earns_34 : decode cX8_earns 34 = .ok (.getfield 25, 3) := by decide +kernel
theorem dX8_earns_37 : decode cX8_earns 37 = .ok (.iload 5, 2) := by decide +kernel
theorem dX8_earns_39 : decode cX8_earns 39 = .ok (.baload, 1) := by decide +kernel
theorem dX8_earns_40 : decode cX8_earns 40 = .ok (.ifCond .eq 7, 3) := by decide +kernel
theorem dX8_earns_43 : decode cX8_earns 43 = .ok (.iconst 0, 1) := by decide +kernel
theorem dX8_earns_44 : decode cX8_earns 44 = .ok (.goto 18, 3) := by decide +kernel
theorem dX8_earns_47 : decode cX8_earns 47 = .ok (.aload_n 0, 1) := by decide +kernel
theorem dX8_earns_48 : decode cX8_earns 48 = .ok (.getfield 29, 3) := by decide +kernel
theorem dX8_earns_51 : decode cX8_earns 51 = .ok (.iload 5, 2) := by decide +kernel
theorem dX8_earns_53 : decode cX8_earns 53 = .ok (.iaload, 1) := by decide +kernel
theorem dX8_earns_54 : decode cX8_earns 54 = .ok (.aload_n 0, 1) := by decide +kernel
theorem dX8_earns_55 : decode cX8_earns 55 = .ok (.iload 5, 2) := by decide +kernel
theorem dX8_earns_57 : decode cX8_earns 57 = .ok (.iload_n 3, 1) := by decide +kernel
theorem dX8_earns_58 : decode cX8_earns 58 = .ok (.invokevirtual 189, 3) := by decide +kernel
theorem dX8_earns_61 : decode cX8_earns 61 = .ok (.imul, 1) := by decide +kernel
theorem dX8_earns_62 : decode cX8_earns 62 = .ok (.iadd, 1) := by decide +kernel
theorem dX8_earns_63 : decode cX8_earns 63 = .ok (.istore 4, 2) := by decide +kernel
theorem dX8_earns_65 : decode cX8_earns 65 = .ok (.iinc 5 1, 3) := by decide +kernel
theorem dX8_earns_68 : decode cX8_earns 68 = .ok (.goto (-46), 3) := by decide +kernel
theorem dX8_earns_71 : decode cX8_earns 71 = .ok (.iload_n 1, 1) := by decide +kernel
theorem dX8_earns_72 : decode cX8_earns 72 = .ok (.ifCond .eq 12, 3) := by decide +kernel
theorem dX8_earns_75 : decode cX8_earns 75 = .ok (.iload 4, 2) := by decide +kernel
theorem dX8_earns_77 : decode cX8_earns 77 = .ok (.ifCond .lt 7, 3) := by decide +kernel
theorem dX8_earns_80 : decode cX8_earns 80 = .ok (.iconst 1, 1) := by decide +kernel
theorem dX8_earns_81 : decode cX8_earns 81 = .ok (.goto 4, 3) := by decide +kernel
theorem dX8_earns_84 : decode cX8_earns 84 = .ok (.iconst 0, 1) := by decide +kernel
theorem dX8_earns_85 : decode cX8_earns 85 = .ok (.istore_n 1, 1) := by decide +kernel
theorem dX8_earns_86 : decode cX8_earns 86 = .ok (.iload_n 2, 1) := by decide +kernel
theorem dX8_earns_87 : decode cX8_earns 87 = .ok (.ifCond .ne 8, 3) := by decide +kernel
theorem dX8_earns_90 : decode cX8_earns 90 = .ok (.iload 4, 2) := by decide +kernel
theorem dX8_earns_92 : decode cX8_earns 92 = .ok (.ifCond .le 7, 3) := by decide +kernel
theorem dX8_earns_95 : decode cX8_earns 95 = .ok (.iconst 1, 1) := by decide +kernel
theorem dX8_earns_96 : decode cX8_earns 96 = .ok (.goto 4, 3) := by decide +kernel
theorem dX8_earns_99 : decode cX8_earns 99 = .ok (.iconst 0, 1) := by decide +kernel
theorem dX8_earns_100 : decode cX8_earns 100 = .ok (.istore_n 2, 1) := by decide +kernel
theorem dX8_earns_101 : decode cX8_earns 101 = .ok (.iinc 3 1, 3) := by decide +kernel
theorem dX8_earns_104 : decode cX8_earns 104 = .ok (.goto (-93), 3) := by decide +kernel
theorem dX8_earns_107 : decode cX8_earns 107 = .ok (.iload_n 1, 1) := by decide +kernel
theorem dX8_earns_108 : decode cX8_earns 108 = .ok (.ifCond .eq 11, 3) := by decide +kernel
theorem dX8_earns_111 : decode cX8_earns 111 = .ok (.iload_n 2, 1) := by decide +kernel
theorem dX8_earns_112 : decode cX8_earns 112 = .ok (.ifCond .eq 7, 3) := by decide +kernel
theorem dX8_earns_115 : decode cX8_earns 115 = .ok (.iconst 1, 1) := by decide +kernel
theorem dX8_earns_116 : decode cX8_earns 116 = .ok (.goto 4, 3) := by decide +kernel
theorem dX8_earns_119 : decode cX8_earns 119 = .ok (.iconst 0, 1) := by decide +kernel
theorem dX8_earns_120 : decode cX8_earns 120 = .ok (.ireturn, 1) := by decide +kernel
theorem dX8_weigh_0 : decode cX8_weigh 0 = .ok (.aload_n 0, 1) := by decide +kernel
theorem dX8_weigh_1 : decode cX8_weigh 1 = .ok (.iconst 0, 1) := by decide +kernel
theorem dX8_weigh_2 : decode cX8_weigh 2 = .ok (.putfield 87, 3) := by decide +kernel
theorem dX8_weigh_5 : decode cX8_weigh 5 = .ok (.aload_n 0, 1) := by decide +kernel
theorem dX8_weigh_6 : decode cX8_weigh 6 = .ok (.iload_n 1, 1) := by decide +kernel
theorem dX8_weigh_7 : decode cX8_weigh 7 = .ok (.invokestatic 114, 3) := by decide +kernel
theorem dX8_weigh_10 : decode cX8_weigh 10 = .ok (.iconst 1, 1) := by decide +kernel
theorem dX8_weigh_11 : decode cX8_weigh 11 = .ok (.invokevirtual 106, 3) := by decide +kernel
theorem dX8_weigh_14 : decode cX8_weigh 14 = .ok (.ifCond .ne 28, 3) := by decide +kernel
theorem dX8_weigh_17 : decode cX8_weigh 17 = .ok (.aload_n 0, 1) := by decide +kernel
theorem dX8_weigh_18 : decode cX8_weigh 18 = .ok (.iload_n 2, 1) := by decide +kernel
theorem dX8_weigh_19 : decode cX8_weigh 19 = .ok (.i2l, 1) := by decide +kernel
theorem dX8_weigh_20 : decode cX8_weigh 20 = .ok (.lconst 0, 1) := by decide +kernel
theorem dX8_weigh_21 : decode cX8_weigh 21 = .ok (.ldc2_w 127, 3) := by decide +kernel
theorem dX8_weigh_24 : decode cX8_weigh 24 = .ok (.invokestatic 94, 3) := by decide +kernel
theorem dX8_weigh_27 : decode cX8_weigh 27 = .ok (.ifCond .ne 7, 3) := by decide +kernel
theorem dX8_weigh_30 : decode cX8_weigh 30 = .ok (.iconst 1, 1) := by decide +kernel
theorem dX8_weigh_31 : decode cX8_weigh 31 = .ok (.goto 4, 3) := by decide +kernel
theorem dX8_weigh_34 : decode cX8_weigh 34 = .ok (.iconst 0, 1) := by decide +kernel
theorem dX8_weigh_35 : decode cX8_weigh 35 = .ok (.iconst 2, 1) := by decide +kernel
theorem dX8_weigh_36 : decode cX8_weigh 36 = .ok (.invokevirtual 106, 3) := by decide +kernel
theorem dX8_weigh_39 : decode cX8_weigh 39 = .ok (.ifCond .eq 4, 3) := by decide +kernel
theorem dX8_weigh_42 : decode cX8_weigh 42 = .ok (.return_, 1) := by decide +kernel
theorem dX8_weigh_43 : decode cX8_weigh 43 = .ok (.aload_n 0, 1) := by decide +kernel
theorem dX8_weigh_44 : decode cX8_weigh 44 = .ok (.getfield 32, 3) := by decide +kernel
theorem dX8_weigh_47 : decode cX8_weigh 47 = .ok (.iload_n 1, 1) := by decide +kernel
theorem dX8_weigh_48 : decode cX8_weigh 48 = .ok (.iload_n 2, 1) := by decide +kernel
theorem dX8_weigh_49 : decode cX8_weigh 49 = .ok (.iastore, 1) := by decide +kernel
theorem dX8_weigh_50 : decode cX8_weigh 50 = .ok (.return_, 1) := by decide +kernel
theorem dX8_bars_0 : decode cX8_bars 0 = .ok (.aload_n 0, 1) := by decide +kernel
theorem dX8_bars_1 : decode cX8_bars 1 = .ok (.iconst 0, 1) := by decide +kernel
theorem dX8_bars_2 : decode cX8_bars 2 = .ok (.putfield 87, 3) := by decide +kernel
theorem dX8_bars_5 : decode cX8_bars 5 = .ok (.iconst 1, 1) := by decide +kernel
theorem dX8_bars_6 : decode cX8_bars 6 = .ok (.istore_n 1, 1) := by decide +kernel
theorem dX8_bars_7 : decode cX8_bars 7 = .ok (.iconst 0, 1) := by decide +kernel
theorem dX8_bars_8 : decode cX8_bars 8 = .ok (.istore_n 2, 1) := by decide +kernel
theorem dX8_bars_9 : decode cX8_bars 9 = .ok (.iload_n 2, 1) := by decide +kernel
theorem dX8_bars_10 : decode cX8_bars 10 = .ok (.iconst 4, 1) := by decide +kernel
theorem dX8_bars_11 : decode cX8_bars 11 = .ok (.if_icmp .ge 28, 3) := by decide +kernel
theorem dX8_bars_14 : decode cX8_bars 14 = .ok (.iload_n 1, 1) := by decide +kernel
theorem dX8_bars_15 : decode cX8_bars 15 = .ok (.ifCond .eq 16, 3) := by decide +kernel
theorem dX8_bars_18 : decode cX8_bars 18 = .ok (.aload_n 0, 1) := by decide +kernel
theorem dX8_bars_19 : decode cX8_bars 19 = .ok (.getfield 32, 3) := by decide +kernel
theorem dX8_bars_22 : decode cX8_bars 22 = .ok (.iload_n 2, 1) := by decide +kernel
theorem dX8_bars_23 : decode cX8_bars 23 = .ok (.iaload, 1) := by decide +kernel
theorem dX8_bars_24 : decode cX8_bars 24 = .ok (.ifCond .le 7, 3) := by decide +kernel
theorem dX8_bars_27 : decode cX8_bars 27 = .ok (.iconst 1, 1) := by decide +kernel
theorem dX8_bars_28 : decode cX8_bars 28 = .ok (.goto 4, 3) := by decide +kernel
theorem dX8_bars_31 : decode cX8_bars 31 = .ok (.iconst 0, 1) := by decide +kernel
theorem dX8_bars_32 : decode cX8_bars 32 = .ok (.istore_n 1, 1) := by decide +kernel
theorem dX8_bars_33 : decode cX8_bars 33 = .ok (.iinc 2 1, 3) := by decide +kernel
theorem dX8_bars_36 : decode cX8_bars 36 = .ok (.goto (-27), 3) := by decide +kernel
theorem dX8_bars_39 : decode cX8_bars 39 = .ok (.iconst 0, 1) := by decide +kernel
theorem dX8_bars_40 : decode cX8_bars 40 = .ok (.istore_n 2, 1) := by decide +kernel
theorem dX8_bars_41 : decode cX8_bars 41 = .ok (.iload_n 2, 1) := by decide +kernel
theorem dX8_bars_42 : decode cX8_bars 42 = .ok (.aload_n 0, 1) := by decide +kernel
theorem dX8_bars_43 : decode cX8_bars 43 = .ok (.getfield 98, 3) := by decide +kernel
theorem dX8_bars_46 : decode cX8_bars 46 = .ok (.if_icmp .ge 67, 3) := by decide +kernel
theorem dX8_bars_49 : decode cX8_bars 49 = .ok (.iconst 0, 1) := by decide +kernel
theorem dX8_bars_50 : decode cX8_bars 50 = .ok (.istore_n 3, 1) := by decide +kernel
theorem dX8_bars_51 : decode cX8_bars 51 = .ok (.iconst 0, 1) := by decide +kernel
theorem dX8_bars_52 : decode cX8_bars 52 = .ok (.istore 4, 2) := by decide +kernel
theorem dX8_bars_54 : decode cX8_bars 54 = .ok (.iload 4, 2) := by decide +kernel
theorem dX8_bars_56 : decode cX8_bars 56 = .ok (.iconst 4, 1) := by decide +kernel
theorem dX8_bars_57 : decode cX8_bars 57 = .ok (.if_icmp .ge 27, 3) := by decide +kernel
theorem dX8_bars_60 : decode cX8_bars 60 = .ok (.iload_n 3, 1) := by decide +kernel
theorem dX8_bars_61 : decode cX8_bars 61 = .ok (.aload_n 0, 1) := by decide +kernel
theorem dX8_bars_62 : decode cX8_bars 62 = .ok (.getfield 32, 3) := by decide +kernel
theorem dX8_bars_65 : decode cX8_bars 65 = .ok (.iload 4, 2) := by decide +kernel
theorem dX8_bars_67 : decode cX8_bars 67 = .ok (.iaload, 1) := by decide +kernel
theorem dX8_bars_68 : decode cX8_bars 68 = .ok (.aload_n 0, 1) := by decide +kernel
theorem dX8_bars_69 : decode cX8_bars 69 = .ok (.iload_n 2, 1) := by decide +kernel
theorem dX8_bars_70 : decode cX8_bars 70 = .ok (.iload 4, 2) := by decide +kernel
theorem dX8_bars_72 : decode cX8_bars 72 = .ok (.invokevirtual 189, 3) := by decide +kernel
theorem dX8_bars_75 : decode cX8_bars 75 = .ok (.imul, 1) := by decide +kernel
theorem dX8_bars_76 : decode cX8_bars 76 = .ok (.iadd, 1) := by decide +kernel
theorem dX8_bars_77 : decode cX8_bars 77 = .ok (.istore_n 3, 1) := by decide +kernel
theorem dX8_bars_78 : decode cX8_bars 78 = .ok (.iinc 4 1, 3) := by decide +kernel
theorem dX8_bars_81 : decode cX8_bars 81 = .ok (.goto (-27), 3) := by decide +kernel
theorem dX8_bars_84 : decode cX8_bars 84 = .ok (.iload_n 1, 1) := by decide +kernel
theorem dX8_bars_85 : decode cX8_bars 85 = .ok (.ifCond .eq 20, 3) := by decide +kernel
theorem dX8_bars_88 : decode cX8_bars 88 = .ok (.aload_n 0, 1) := by decide +kernel
theorem dX8_bars_89 : decode cX8_bars 89 = .ok (.getfield 25, 3) := by decide +kernel
theorem dX8_bars_92 : decode cX8_bars 92 = .ok (.iload_n 2, 1) := by decide +kernel
theorem dX8_bars_93 : decode cX8_bars 93 = .ok (.baload, 1) := by decide +kernel
theorem dX8_bars_94 : decode cX8_bars 94 = .ok (.ifCond .ne 7, 3) := by decide +kernel
theorem dX8_bars_97 : decode cX8_bars 97 = .ok (.iload_n 3, 1) := by decide +kernel
theorem dX8_bars_98 : decode cX8_bars 98 = .ok (.ifCond .gt 7, 3) := by decide +kernel
theorem dX8_bars_101 : decode cX8_bars 101 = .ok (.iconst 1, 1) := by decide +kernel
theorem dX8_bars_102 : decode cX8_bars 102 = .ok (.goto 4, 3) := by decide +kernel
theorem dX8_bars_105 : decode cX8_bars 105 = .ok (.iconst 0, 1) := by decide +kernel
theorem dX8_bars_106 : decode cX8_bars 106 = .ok (.istore_n 1, 1) := by decide +kernel
theorem dX8_bars_107 : decode cX8_bars 107 = .ok (.iinc 2 1, 3) := by decide +kernel
theorem dX8_bars_110 : decode cX8_bars 110 = .ok (.goto (-69), 3) := by decide +kernel
theorem dX8_bars_113 : decode cX8_bars 113 = .ok (.iload_n 1, 1) := by decide +kernel
theorem dX8_bars_114 : decode cX8_bars 114 = .ok (.ireturn, 1) := by decide +kernel
theorem dX8_count_0 : decode cX8_count 0 = .ok (.aload_n 0, 1) := by decide +kernel
theorem dX8_count_1 : decode cX8_count 1 = .ok (.iconst 0, 1) := by decide +kernel
theorem dX8_count_2 : decode cX8_count 2 = .ok (.putfield 87, 3) := by decide +kernel
theorem dX8_count_5 : decode cX8_count 5 = .ok (.iconst 0, 1) := by decide +kernel
theorem dX8_count_6 : decode cX8_count 6 = .ok (.istore_n 2, 1) := by decide +kernel
theorem dX8_count_7 : decode cX8_count 7 = .ok (.iload_n 1, 1) := by decide +kernel
theorem dX8_count_8 : decode cX8_count 8 = .ok (.tableswitch 185 0 8 #[52, 57, 62, 67, 72, 106, 140, 145, 180], 52) := by decide +kernel
theorem dX8_count_60 : decode cX8_count 60 = .ok (.aload_n 0, 1) := by decide +kernel
theorem dX8_count_61 : decode cX8_count 61 = .ok (.getfield 133, 3) := by decide +kernel
theorem dX8_count_64 : decode cX8_count 64 = .ok (.ireturn, 1) := by decide +kernel
theorem dX8_count_65 : decode cX8_count 65 = .ok (.aload_n 0, 1) := by decide +kernel
theorem dX8_count_66 : decode cX8_count 66 = .ok (.getfield 91, 3) := by decide +kernel
theorem dX8_count_69 : decode cX8_count 69 = .ok (.ireturn, 1) := by decide +kernel
theorem dX8_count_70 : decode cX8_count 70 = .ok (.aload_n 0, 1) := by decide +kernel
theorem dX8_count_71 : decode cX8_count 71 = .ok (.getfield 98, 3) := by decide +kernel
theorem dX8_count_74 : decode cX8_count 74 = .ok (.ireturn, 1) := by decide +kernel
theorem dX8_count_75 : decode cX8_count 75 = .ok (.aload_n 0, 1) := by decide +kernel
theorem dX8_count_76 : decode cX8_count 76 = .ok (.getfield 101, 3) := by decide +kernel
theorem dX8_count_79 : decode cX8_count 79 = .ok (.ireturn, 1) := by decide +kernel
theorem dX8_count_80 : decode cX8_count 80 = .ok (.iconst 0, 1) := by decide +kernel
theorem dX8_count_81 : decode cX8_count 81 = .ok (.istore_n 3, 1) := by decide +kernel
theorem dX8_count_82 : decode cX8_count 82 = .ok (.iload_n 3, 1) := by decide +kernel
theorem dX8_count_83 : decode cX8_count 83 = .ok (.aload_n 0, 1) := by decide +kernel
theorem dX8_count_84 : decode cX8_count 84 = .ok (.getfield 101, 3) := by decide +kernel
theorem dX8_count_87 : decode cX8_count 87 = .ok (.if_icmp .ge 25, 3) := by decide +kernel
theorem dX8_count_90 : decode cX8_count 90 = .ok (.iload_n 2, 1) := by decide +kernel
theorem dX8_count_91 : decode cX8_count 91 = .ok (.aload_n 0, 1) := by decide +kernel
theorem dX8_count_92 : decode cX8_count 92 = .ok (.iload_n 3, 1) := by decide +kernel
theorem dX8_count_93 : decode cX8_count 93 = .ok (.invokevirtual 145, 3) := by decide +kernel
theorem dX8_count_96 : decode cX8_count 96 = .ok (.ifCond .eq 7, 3) := by decide +kernel
theorem dX8_count_99 : decode cX8_count 99 = .ok (.iconst 1, 1) := by decide +kernel
theorem dX8_count_100 : decode cX8_count 100 = .ok (.goto 4, 3) := by decide +kernel
theorem dX8_count_103 : decode cX8_count 103 = .ok (.iconst 0, 1) := by decide +kernel
theorem dX8_count_104 : decode cX8_count 104 = .ok (.iadd, 1) := by decide +kernel
theorem dX8_count_105 : decode cX8_count 105 = .ok (.istore_n 2, 1) := by decide +kernel
theorem dX8_count_106 : decode cX8_count 106 = .ok (.iinc 3 1, 3) := by decide +kernel
theorem dX8_count_109 : decode cX8_count 109 = .ok (.goto (-27), 3) := by decide +kernel
theorem dX8_count_112 : decode cX8_count 112 = .ok (.iload_n 2, 1) := by decide +kernel
theorem dX8_count_113 : decode cX8_count 113 = .ok (.ireturn, 1) := by decide +kernel
theorem dX8_count_114 : decode cX8_count 114 = .ok (.iconst 0, 1) := by decide +kernel
theorem dX8_count_115 : decode cX8_count 115 = .ok (.istore_n 3, 1) := by decide +kernel
theorem dX8_count_116 : decode cX8_count 116 = .ok (.iload_n 3, 1) := by decide +kernel
theorem dX8_count_117 : decode cX8_count 117 = .ok (.aload_n 0, 1) := by decide +kernel
theorem dX8_count_118 : decode cX8_count 118 = .ok (.getfield 101, 3) := by decide +kernel
theorem dX8_count_121 : decode cX8_count 121 = .ok (.if_icmp .ge 25, 3) := by decide +kernel
theorem dX8_count_124 : decode cX8_count 124 = .ok (.iload_n 2, 1) := by decide +kernel
theorem dX8_count_125 : decode cX8_count 125 = .ok (.aload_n 0, 1) := by decide +kernel
theorem dX8_count_126 : decode cX8_count 126 = .ok (.iload_n 3, 1) := by decide +kernel
theorem dX8_count_127 : decode cX8_count 127 = .ok (.invokevirtual 156, 3) := by decide +kernel
theorem dX8_count_130 : decode cX8_count 130 = .ok (.ifCond .eq 7, 3) := by decide +kernel
theorem dX8_count_133 : decode cX8_count 133 = .ok (.iconst 1, 1) := by decide +kernel
theorem dX8_count_134 : decode cX8_count 134 = .ok (.goto 4, 3) := by decide +kernel
theorem dX8_count_137 : decode cX8_count 137 = .ok (.iconst 0, 1) := by decide +kernel
theorem dX8_count_138 : decode cX8_count 138 = .ok (.iadd, 1) := by decide +kernel
theorem dX8_count_139 : decode cX8_count 139 = .ok (.istore_n 2, 1) := by decide +kernel
theorem dX8_count_140 : decode cX8_count 140 = .ok (.iinc 3 1, 3) := by decide +kernel
theorem dX8_count_143 : decode cX8_count 143 = .ok (.goto (-27), 3) := by decide +kernel
theorem dX8_count_146 : decode cX8_count 146 = .ok (.iload_n 2, 1) := by decide +kernel
theorem dX8_count_147 : decode cX8_count 147 = .ok (.ireturn, 1) := by decide +kernel
theorem dX8_count_148 : decode cX8_count 148 = .ok (.aload_n 0, 1) := by decide +kernel
theorem dX8_count_149 : decode cX8_count 149 = .ok (.getfield 175, 3) := by decide +kernel
theorem dX8_count_152 : decode cX8_count 152 = .ok (.ireturn, 1) := by decide +kernel
theorem dX8_count_153 : decode cX8_count 153 = .ok (.iconst 0, 1) := by decide +kernel
theorem dX8_count_154 : decode cX8_count 154 = .ok (.istore_n 3, 1) := by decide +kernel
theorem dX8_count_155 : decode cX8_count 155 = .ok (.iload_n 3, 1) := by decide +kernel
theorem dX8_count_156 : decode cX8_count 156 = .ok (.aload_n 0, 1) := by decide +kernel
theorem dX8_count_157 : decode cX8_count 157 = .ok (.getfield 175, 3) := by decide +kernel
theorem dX8_count_160 : decode cX8_count 160 = .ok (.if_icmp .ge 26, 3) := by decide +kernel
theorem dX8_count_163 : decode cX8_count 163 = .ok (.iload_n 2, 1) := by decide +kernel
theorem dX8_count_164 : decode cX8_count 164 = .ok (.aload_n 0, 1) := by decide +kernel
theorem dX8_count_165 : decode cX8_count 165 = .ok (.getfield 75, 3) := by decide +kernel
theorem dX8_count_168 : decode cX8_count 168 = .ok (.iload_n 3, 1) := by decide +kernel
theorem dX8_count_169 : decode cX8_count 169 = .ok (.baload, 1) := by decide +kernel
theorem dX8_count_170 : decode cX8_count 170 = .ok (.ifCond .eq 7, 3) := by decide +kernel
theorem dX8_count_173 : decode cX8_count 173 = .ok (.iconst 1, 1) := by decide +kernel
theorem dX8_count_174 : decode cX8_count 174 = .ok (.goto 4, 3) := by decide +kernel
theorem dX8_count_177 : decode cX8_count 177 = .ok (.iconst 0, 1) := by decide +kernel
theorem dX8_count_178 : decode cX8_count 178 = .ok (.iadd, 1) := by decide +kernel
theorem dX8_count_179 : decode cX8_count 179 = .ok (.istore_n 2, 1) := by decide +kernel
theorem dX8_count_180 : decode cX8_count 180 = .ok (.iinc 3 1, 3) := by decide +kernel
theorem dX8_count_183 : decode cX8_count 183 = .ok (.goto (-28), 3) := by decide +kernel
theorem dX8_count_186 : decode cX8_count 186 = .ok (.iload_n 2, 1) := by decide +kernel
theorem dX8_count_187 : decode cX8_count 187 = .ok (.ireturn, 1) := by decide +kernel
theorem dX8_count_188 : decode cX8_count 188 = .ok (.aload_n 0, 1) := by decide +kernel
theorem dX8_count_189 : decode cX8_count 189 = .ok (.getfield 121, 3) := by decide +kernel
theorem dX8_count_192 : decode cX8_count 192 = .ok (.ireturn, 1) := by decide +kernel
theorem dX8_count_193 : decode cX8_count 193 = .ok (.iconst (-1), 1) := by decide +kernel
theorem dX8_count_194 : decode cX8_count 194 = .ok (.ireturn, 1) := by decide +kernel
theorem dJ9_max_7cf53_0 : decode cJ9_max_7cf53 0 = .ok (.iload_n 0, 1) := by decide +kernel
theorem dJ9_max_7cf53_1 : decode cJ9_max_7cf53 1 = .ok (.iload_n 1, 1) := by decide +kernel
theorem dJ9_max_7cf53_2 : decode cJ9_max_7cf53 2 = .ok (.if_icmp .lt 7, 3) := by decide +kernel
theorem dJ9_max_7cf53_5 : decode cJ9_max_7cf53 5 = .ok (.iload_n 0, 1) := by decide +kernel
theorem dJ9_max_7cf53_6 : decode cJ9_max_7cf53 6 = .ok (.goto 4, 3) := by decide +kernel
theorem dJ9_max_7cf53_9 : decode cJ9_max_7cf53 9 = .ok (.iload_n 1, 1) := by decide +kernel
theorem dJ9_max_7cf53_10 : decode cJ9_max_7cf53 10 = .ok (.ireturn, 1) := by decide +kernel
theorem dJ9_min_7cf53_0 : decode cJ9_min_7cf53 0 = .ok (.iload_n 0, 1) := by decide +kernel
theorem dJ9_min_7cf53_1 : decode cJ9_min_7cf53 1 = .ok (.iload_n 1, 1) := by decide +kernel
theorem dJ9_min_7cf53_2 : decode cJ9_min_7cf53 2 = .ok (.if_icmp .gt 7, 3) := by decide +kernel
theorem dJ9_min_7cf53_5 : decode cJ9_min_7cf53 5 = .ok (.iload_n 0, 1) := by decide +kernel
theorem dJ9_min_7cf53_6 : decode cJ9_min_7cf53 6 = .ok (.goto 4, 3) := by decide +kernel
theorem dJ9_min_7cf53_9 : decode cJ9_min_7cf53 9 = .ok (.iload_n 1, 1) := by decide +kernel
theorem dJ9_min_7cf53_10 : decode cJ9_min_7cf53 10 = .ok (.ireturn, 1) := by decide +kernel
theorem dJxa1e45_init_da8c8_0 : decode cJxa1e45_init_da8c8 0 = .ok (.aload_n 0, 1) := by decide +kernel
theorem dJxa1e45_init_da8c8_1 : decode cJxa1e45_init_da8c8 1 = .ok (.invokespecial 1, 3) := by decide +kernel
theorem dJxa1e45_init_da8c8_4 : decode cJxa1e45_init_da8c8 4 = .ok (.return_, 1) := by decide +kernel
theorem dJxc12de_init_da8c8_0 : decode cJxc12de_init_da8c8 0 = .ok (.aload_n 0, 1) := by decide +kernel
theorem dJxc12de_init_da8c8_1 : decode cJxc12de_init_da8c8 1 = .ok (.invokespecial 1, 3) := by decide +kernel
theorem dJxc12de_init_da8c8_4 : decode cJxc12de_init_da8c8 4 = .ok (.aload_n 0, 1) := by decide +kernel
theorem dJxc12de_init_da8c8_5 : decode cJxc12de_init_da8c8 5 = .ok (.iconst 0, 1) := by decide +kernel
theorem dJxc12de_init_da8c8_6 : decode cJxc12de_init_da8c8 6 = .ok (.putfield 7, 3) := by decide +kernel
theorem dJxc12de_init_da8c8_9 : decode cJxc12de_init_da8c8 9 = .ok (.return_, 1) := by decide +kernel
theorem dJx4a65c_init_da8c8_0 : decode cJx4a65c_init_da8c8 0 = .ok (.aload_n 0, 1) := by decide +kernel
theorem dJx4a65c_init_da8c8_1 : decode cJx4a65c_init_da8c8 1 = .ok (.invokespecial 1, 3) := by decide +kernel
theorem dJx4a65c_init_da8c8_4 : decode cJx4a65c_init_da8c8 4 = .ok (.aload_n 0, 1) := by decide +kernel
theorem dJx4a65c_init_da8c8_5 : decode cJx4a65c_init_da8c8 5 = .ok (.getstatic 39, 3) := by decide +kernel
theorem dJx4a65c_init_da8c8_8 : decode cJx4a65c_init_da8c8 8 = .ok (.putfield 9, 3) := by decide +kernel
theorem dJx4a65c_init_da8c8_11 : decode cJx4a65c_init_da8c8 11 = .ok (.return_, 1) := by decide +kernel
theorem dJx4a65c_grow_92f84_0 : decode cJx4a65c_grow_92f84 0 = .ok (.aload_n 0, 1) := by decide +kernel
theorem dJx4a65c_grow_92f84_1 : decode cJx4a65c_grow_92f84 1 = .ok (.getfield 9, 3) := by decide +kernel
theorem dJx4a65c_grow_92f84_4 : decode cJx4a65c_grow_92f84 4 = .ok (.arraylength, 1) := by decide +kernel
theorem dJx4a65c_grow_92f84_5 : decode cJx4a65c_grow_92f84 5 = .ok (.istore_n 2, 1) := by decide +kernel
theorem dJx4a65c_grow_92f84_6 : decode cJx4a65c_grow_92f84 6 = .ok (.iload_n 2, 1) := by decide +kernel
theorem dJx4a65c_grow_92f84_7 : decode cJx4a65c_grow_92f84 7 = .ok (.ifCond .gt 13, 3) := by decide +kernel
theorem dJx4a65c_grow_92f84_10 : decode cJx4a65c_grow_92f84 10 = .ok (.aload_n 0, 1) := by decide +kernel
theorem dJx4a65c_grow_92f84_11 : decode cJx4a65c_grow_92f84 11 = .ok (.getfield 9, 3) := by decide +kernel
theorem dJx4a65c_grow_92f84_14 : decode cJx4a65c_grow_92f84 14 = .ok (.getstatic 39, 3) := by decide +kernel
theorem dJx4a65c_grow_92f84_17 : decode cJx4a65c_grow_92f84 17 = .ok (.if_acmp .eq 28, 3) := by decide +kernel
theorem dJx4a65c_grow_92f84_20 : decode cJx4a65c_grow_92f84 20 = .ok (.iload_n 2, 1) := by decide +kernel
theorem dJx4a65c_grow_92f84_21 : decode cJx4a65c_grow_92f84 21 = .ok (.iload_n 1, 1) := by decide +kernel
theorem dJx4a65c_grow_92f84_22 : decode cJx4a65c_grow_92f84 22 = .ok (.iload_n 2, 1) := by decide +kernel
theorem dJx4a65c_grow_92f84_23 : decode cJx4a65c_grow_92f84 23 = .ok (.isub, 1) := by decide +kernel
theorem dJx4a65c_grow_92f84_24 : decode cJx4a65c_grow_92f84 24 = .ok (.iload_n 2, 1) := by decide +kernel
theorem dJx4a65c_grow_92f84_25 : decode cJx4a65c_grow_92f84 25 = .ok (.iconst 1, 1) := by decide +kernel
theorem dJx4a65c_grow_92f84_26 : decode cJx4a65c_grow_92f84 26 = .ok (.ishr, 1) := by decide +kernel
theorem dJx4a65c_grow_92f84_27 : decode cJx4a65c_grow_92f84 27 = .ok (.invokestatic 73, 3) := by decide +kernel
theorem dJx4a65c_grow_92f84_30 : decode cJx4a65c_grow_92f84 30 = .ok (.istore_n 3, 1) := by decide +kernel
theorem dJx4a65c_grow_92f84_31 : decode cJx4a65c_grow_92f84 31 = .ok (.aload_n 0, 1) := by decide +kernel
theorem dJx4a65c_grow_92f84_32 : decode cJx4a65c_grow_92f84 32 = .ok (.aload_n 0, 1) := by decide +kernel
theorem dJx4a65c_grow_92f84_33 : decode cJx4a65c_grow_92f84 33 = .ok (.getfield 9, 3) := by decide +kernel
theorem dJx4a65c_grow_92f84_36 : decode cJx4a65c_grow_92f84 36 = .ok (.iload_n 3, 1) := by decide +kernel
theorem dJx4a65c_grow_92f84_37 : decode cJx4a65c_grow_92f84 37 = .ok (.invokestatic 66, 3) := by decide +kernel
theorem dJx4a65c_grow_92f84_40 : decode cJx4a65c_grow_92f84 40 = .ok (.dup_x1, 1) := by decide +kernel
theorem dJx4a65c_grow_92f84_41 : decode cJx4a65c_grow_92f84 41 = .ok (.putfield 9, 3) := by decide +kernel
theorem dJx4a65c_grow_92f84_44 : decode cJx4a65c_grow_92f84 44 = .ok (.areturn, 1) := by decide +kernel
theorem dJx4a65c_grow_92f84_45 : decode cJx4a65c_grow_92f84 45 = .ok (.aload_n 0, 1) := by decide +kernel
theorem dJx4a65c_grow_92f84_46 : decode cJx4a65c_grow_92f84 46 = .ok (.bipush 10, 2) := by decide +kernel
theorem dJx4a65c_grow_92f84_48 : decode cJx4a65c_grow_92f84 48 = .ok (.iload_n 1, 1) := by decide +kernel
theorem dJx4a65c_grow_92f84_49 : decode cJx4a65c_grow_92f84 49 = .ok (.invokestatic 79, 3) := by decide +kernel
theorem dJx4a65c_grow_92f84_52 : decode cJx4a65c_grow_92f84 52 = .ok (.anewarray 7, 3) := by decide +kernel
theorem dJx4a65c_grow_92f84_55 : decode cJx4a65c_grow_92f84 55 = .ok (.dup_x1, 1) := by decide +kernel
theorem dJx4a65c_grow_92f84_56 : decode cJx4a65c_grow_92f84 56 = .ok (.putfield 9, 3) := by decide +kernel
theorem dJx4a65c_grow_92f84_59 : decode cJx4a65c_grow_92f84 59 = .ok (.areturn, 1) := by decide +kernel
theorem dJx4a65c_grow_d5877_0 : decode cJx4a65c_grow_d5877 0 = .ok (.aload_n 0, 1) := by decide +kernel
theorem dJx4a65c_grow_d5877_1 : decode cJx4a65c_grow_d5877 1 = .ok (.aload_n 0, 1) := by decide +kernel
theorem dJx4a65c_grow_d5877_2 : decode cJx4a65c_grow_d5877 2 = .ok (.getfield 48, 3) := by decide +kernel
theorem dJx4a65c_grow_d5877_5 : decode cJx4a65c_grow_d5877 5 = .ok (.iconst 1, 1) := by decide +kernel
theorem dJx4a65c_grow_d5877_6 : decode cJx4a65c_grow_d5877 6 = .ok (.iadd, 1) := by decide +kernel
theorem dJx4a65c_grow_d5877_7 : decode cJx4a65c_grow_d5877 7 = .ok (.invokevirtual 69, 3) := by decide +kernel
theorem dJx4a65c_grow_d5877_10 : decode cJx4a65c_grow_d5877 10 = .ok (.areturn, 1) := by decide +kernel
theorem dJx4a65c_size_8abf5_0 : decode cJx4a65c_size_8abf5 0 = .ok (.aload_n 0, 1) := by decide +kernel
theorem dJx4a65c_size_8abf5_1 : decode cJx4a65c_size_8abf5 1 = .ok (.getfield 48, 3) := by decide +kernel
theorem dJx4a65c_size_8abf5_4 : decode cJx4a65c_size_8abf5 4 = .ok (.ireturn, 1) := by decide +kernel
theorem dJx4a65c_elementData_915e3_0 : decode cJx4a65c_elementData_915e3 0 = .ok (.aload_n 0, 1) := by decide +kernel
theorem dJx4a65c_elementData_915e3_1 : decode cJx4a65c_elementData_915e3 1 = .ok (.getfield 9, 3) := by decide +kernel
theorem dJx4a65c_elementData_915e3_4 : decode cJx4a65c_elementData_915e3 4 = .ok (.iload_n 1, 1) := by decide +kernel
theorem dJx4a65c_elementData_915e3_5 : decode cJx4a65c_elementData_915e3 5 = .ok (.aaload, 1) := by decide +kernel
theorem dJx4a65c_elementData_915e3_6 : decode cJx4a65c_elementData_915e3 6 = .ok (.areturn, 1) := by decide +kernel
theorem dJx4a65c_get_915e3_0 : decode cJx4a65c_get_915e3 0 = .ok (.iload_n 1, 1) := by decide +kernel
theorem dJx4a65c_get_915e3_1 : decode cJx4a65c_get_915e3 1 = .ok (.aload_n 0, 1) := by decide +kernel
theorem dJx4a65c_get_915e3_2 : decode cJx4a65c_get_915e3 2 = .ok (.getfield 48, 3) := by decide +kernel
theorem dJx4a65c_get_915e3_5 : decode cJx4a65c_get_915e3 5 = .ok (.invokestatic 118, 3) := by decide +kernel
theorem dJx4a65c_get_915e3_8 : decode cJx4a65c_get_915e3 8 = .ok (.pop, 1) := by decide +kernel
theorem dJx4a65c_get_915e3_9 : decode cJx4a65c_get_915e3 9 = .ok (.aload_n 0, 1) := by decide +kernel
theorem dJx4a65c_get_915e3_10 : decode cJx4a65c_get_915e3 10 = .ok (.iload_n 1, 1) := by decide +kernel
theorem dJx4a65c_get_915e3_11 : decode cJx4a65c_get_915e3 11 = .ok (.invokevirtual 123, 3) := by decide +kernel
theorem dJx4a65c_get_915e3_14 : decode cJx4a65c_get_915e3 14 = .ok (.areturn, 1) := by decide +kernel
theorem dJx4a65c_add_72be8_0 : decode cJx4a65c_add_72be8 0 = .ok (.iload_n 3, 1) := by decide +kernel
theorem dJx4a65c_add_72be8_1 : decode cJx4a65c_add_72be8 1 = .ok (.aload_n 2, 1) := by decide +kernel
theorem dJx4a65c_add_72be8_2 : decode cJx4a65c_add_72be8 2 = .ok (.arraylength, 1) := by decide +kernel
theorem dJx4a65c_add_72be8_3 : decode cJx4a65c_add_72be8 3 = .ok (.if_icmp .ne 8, 3) := by decide +kernel
theorem dJx4a65c_add_72be8_6 : decode cJx4a65c_add_72be8 6 = .ok (.aload_n 0, 1) := by decide +kernel
theorem dJx4a65c_add_72be8_7 : decode cJx4a65c_add_72be8 7 = .ok (.invokevirtual 129, 3) := by decide +kernel
theorem dJx4a65c_add_72be8_10 : decode cJx4a65c_add_72be8 10 = .ok (.astore_n 2, 1) := by decide +kernel
theorem dJx4a65c_add_72be8_11 : decode cJx4a65c_add_72be8 11 = .ok (.aload_n 2, 1) := by decide +kernel
theorem dJx4a65c_add_72be8_12 : decode cJx4a65c_add_72be8 12 = .ok (.iload_n 3, 1) := by decide +kernel
theorem dJx4a65c_add_72be8_13 : decode cJx4a65c_add_72be8 13 = .ok (.aload_n 1, 1) := by decide +kernel
theorem dJx4a65c_add_72be8_14 : decode cJx4a65c_add_72be8 14 = .ok (.aastore, 1) := by decide +kernel
theorem dJx4a65c_add_72be8_15 : decode cJx4a65c_add_72be8 15 = .ok (.aload_n 0, 1) := by decide +kernel
theorem dJx4a65c_add_72be8_16 : decode cJx4a65c_add_72be8 16 = .ok (.iload_n 3, 1) := by decide +kernel
theorem dJx4a65c_add_72be8_17 : decode cJx4a65c_add_72be8 17 = .ok (.iconst 1, 1) := by decide +kernel
theorem dJx4a65c_add_72be8_18 : decode cJx4a65c_add_72be8 18 = .ok (.iadd, 1) := by decide +kernel
theorem dJx4a65c_add_72be8_19 : decode cJx4a65c_add_72be8 19 = .ok (.putfield 48, 3) := by decide +kernel
theorem dJx4a65c_add_72be8_22 : decode cJx4a65c_add_72be8 22 = .ok (.return_, 1) := by decide +kernel
theorem dJx4a65c_add_9ea2d_0 : decode cJx4a65c_add_9ea2d 0 = .ok (.aload_n 0, 1) := by decide +kernel
theorem dJx4a65c_add_9ea2d_1 : decode cJx4a65c_add_9ea2d 1 = .ok (.dup, 1) := by decide +kernel
theorem dJx4a65c_add_9ea2d_2 : decode cJx4a65c_add_9ea2d 2 = .ok (.getfield 63, 3) := by decide +kernel
theorem dJx4a65c_add_9ea2d_5 : decode cJx4a65c_add_9ea2d 5 = .ok (.iconst 1, 1) := by decide +kernel
theorem dJx4a65c_add_9ea2d_6 : decode cJx4a65c_add_9ea2d 6 = .ok (.iadd, 1) := by decide +kernel
theorem dJx4a65c_add_9ea2d_7 : decode cJx4a65c_add_9ea2d 7 = .ok (.putfield 63, 3) := by decide +kernel
theorem dJx4a65c_add_9ea2d_10 : decode cJx4a65c_add_9ea2d 10 = .ok (.aload_n 0, 1) := by decide +kernel
theorem dJx4a65c_add_9ea2d_11 : decode cJx4a65c_add_9ea2d 11 = .ok (.aload_n 1, 1) := by decide +kernel
theorem dJx4a65c_add_9ea2d_12 : decode cJx4a65c_add_9ea2d 12 = .ok (.aload_n 0, 1) := by decide +kernel
theorem dJx4a65c_add_9ea2d_13 : decode cJx4a65c_add_9ea2d 13 = .ok (.getfield 9, 3) := by decide +kernel
theorem dJx4a65c_add_9ea2d_16 : decode cJx4a65c_add_9ea2d 16 = .ok (.aload_n 0, 1) := by decide +kernel
theorem dJx4a65c_add_9ea2d_17 : decode cJx4a65c_add_9ea2d 17 = .ok (.getfield 48, 3) := by decide +kernel
theorem dJx4a65c_add_9ea2d_20 : decode cJx4a65c_add_9ea2d 20 = .ok (.invokevirtual 131, 3) := by decide +kernel
theorem dJx4a65c_add_9ea2d_23 : decode cJx4a65c_add_9ea2d 23 = .ok (.iconst 1, 1) := by decide +kernel
theorem dJx4a65c_add_9ea2d_24 : decode cJx4a65c_add_9ea2d 24 = .ok (.ireturn, 1) := by decide +kernel
theorem dJ7_copyOf_1904c_0 : decode cJ7_copyOf_1904c 0 = .ok (.aload_n 0, 1) := by decide +kernel
theorem dJ7_copyOf_1904c_1 : decode cJ7_copyOf_1904c 1 = .ok (.iload_n 1, 1) := by decide +kernel
theorem dJ7_copyOf_1904c_2 : decode cJ7_copyOf_1904c 2 = .ok (.aload_n 0, 1) := by decide +kernel
theorem dJ7_copyOf_1904c_3 : decode cJ7_copyOf_1904c 3 = .ok (.invokevirtual 86, 3) := by decide +kernel
theorem dJ7_copyOf_1904c_6 : decode cJ7_copyOf_1904c 6 = .ok (.invokestatic 300, 3) := by decide +kernel
theorem dJ7_copyOf_1904c_9 : decode cJ7_copyOf_1904c 9 = .ok (.areturn, 1) := by decide +kernel
theorem dJ7_copyOf_6403c_0 : decode cJ7_copyOf_6403c 0 = .ok (.aload_n 2, 1) := by decide +kernel
theorem dJ7_copyOf_6403c_1 : decode cJ7_copyOf_6403c 1 = .ok (.ldc 110, 2) := by decide +kernel
theorem dJ7_copyOf_6403c_3 : decode cJ7_copyOf_6403c 3 = .ok (.if_acmp .ne 10, 3) := by decide +kernel
theorem dJ7_copyOf_6403c_6 : decode cJ7_copyOf_6403c 6 = .ok (.iload_n 1, 1) := by decide +kernel
theorem dJ7_copyOf_6403c_7 : decode cJ7_copyOf_6403c 7 = .ok (.anewarray 2, 3) := by decide +kernel
theorem dJ7_copyOf_6403c_10 : decode cJ7_copyOf_6403c 10 = .ok (.goto 14, 3) := by decide +kernel
theorem dJ7_copyOf_6403c_13 : decode cJ7_copyOf_6403c 13 = .ok (.aload_n 2, 1) := by decide +kernel
theorem dJ7_copyOf_6403c_14 : decode cJ7_copyOf_6403c 14 = .ok (.invokevirtual 90, 3) := by decide +kernel
theorem dJ7_copyOf_6403c_17 : decode cJ7_copyOf_6403c 17 = .ok (.iload_n 1, 1) := by decide +kernel
theorem dJ7_copyOf_6403c_18 : decode cJ7_copyOf_6403c 18 = .ok (.invokestatic 95, 3) := by decide +kernel
theorem dJ7_copyOf_6403c_21 : decode cJ7_copyOf_6403c 21 = .ok (.checkcast 110, 3) := by decide +kernel
theorem dJ7_copyOf_6403c_24 : decode cJ7_copyOf_6403c 24 = .ok (.astore_n 3, 1) := by decide +kernel
theorem dJ7_copyOf_6403c_25 : decode cJ7_copyOf_6403c 25 = .ok (.aload_n 0, 1) := by decide +kernel
theorem dJ7_copyOf_6403c_26 : decode cJ7_copyOf_6403c 26 = .ok (.iconst 0, 1) := by decide +kernel
theorem dJ7_copyOf_6403c_27 : decode cJ7_copyOf_6403c 27 = .ok (.aload_n 3, 1) := by decide +kernel
theorem dJ7_copyOf_6403c_28 : decode cJ7_copyOf_6403c 28 = .ok (.iconst 0, 1) := by decide +kernel
theorem dJ7_copyOf_6403c_29 : decode cJ7_copyOf_6403c 29 = .ok (.aload_n 0, 1) := by decide +kernel
theorem dJ7_copyOf_6403c_30 : decode cJ7_copyOf_6403c 30 = .ok (.arraylength, 1) := by decide +kernel
end
section
theorem dJ7_copyOf_6403c_31 : decode cJ7_copyOf_6403c 31 = .ok (.iload_n 1, 1) := by decide +kernel
theorem dJ7_copyOf_6403c_32 : decode cJ7_copyOf_6403c 32 = .ok (.invokestatic 304, 3) := by decide +kernel
theorem dJ7_copyOf_6403c_35 : decode cJ7_copyOf_6403c 35 = .ok (.invokestatic 150, 3) := by decide +kernel
theorem dJ7_copyOf_6403c_38 : decode cJ7_copyOf_6403c 38 = .ok (.aload_n 3, 1) := by decide +kernel
theorem dJ7_copyOf_6403c_39 : decode cJ7_copyOf_6403c 39 = .ok (.areturn, 1) := by decide +kernel
theorem dJ15_checkIndex_7cf53_0 : decode cJ15_checkIndex_7cf53 0 = .ok (.iload_n 0, 1) := by decide +kernel
theorem dJ15_checkIndex_7cf53_1 : decode cJ15_checkIndex_7cf53 1 = .ok (.iload_n 1, 1) := by decide +kernel
theorem dJ15_checkIndex_7cf53_2 : decode cJ15_checkIndex_7cf53 2 = .ok (.aconst_null, 1) := by decide +kernel
theorem dJ15_checkIndex_7cf53_3 : decode cJ15_checkIndex_7cf53 3 = .ok (.invokestatic 105, 3) := by decide +kernel
theorem dJ15_checkIndex_7cf53_6 : decode cJ15_checkIndex_7cf53 6 = .ok (.ireturn, 1) := by decide +kernel
theorem dJ8_newLength_cabcc_0 : decode cJ8_newLength_cabcc 0 = .ok (.iload_n 0, 1) := by decide +kernel
theorem dJ8_newLength_cabcc_1 : decode cJ8_newLength_cabcc 1 = .ok (.iload_n 1, 1) := by decide +kernel
theorem dJ8_newLength_cabcc_2 : decode cJ8_newLength_cabcc 2 = .ok (.iload_n 2, 1) := by decide +kernel
theorem dJ8_newLength_cabcc_3 : decode cJ8_newLength_cabcc 3 = .ok (.invokestatic 194, 3) := by decide +kernel
theorem dJ8_newLength_cabcc_6 : decode cJ8_newLength_cabcc 6 = .ok (.iadd, 1) := by decide +kernel
theorem dJ8_newLength_cabcc_7 : decode cJ8_newLength_cabcc 7 = .ok (.istore_n 3, 1) := by decide +kernel
theorem dJ8_newLength_cabcc_8 : decode cJ8_newLength_cabcc 8 = .ok (.iconst 0, 1) := by decide +kernel
theorem dJ8_newLength_cabcc_9 : decode cJ8_newLength_cabcc 9 = .ok (.iload_n 3, 1) := by decide +kernel
theorem dJ8_newLength_cabcc_10 : decode cJ8_newLength_cabcc 10 = .ok (.if_icmp .ge 11, 3) := by decide +kernel
theorem dJ8_newLength_cabcc_13 : decode cJ8_newLength_cabcc 13 = .ok (.iload_n 3, 1) := by decide +kernel
theorem dJ8_newLength_cabcc_14 : decode cJ8_newLength_cabcc 14 = .ok (.ldc 200, 2) := by decide +kernel
theorem dJ8_newLength_cabcc_16 : decode cJ8_newLength_cabcc 16 = .ok (.if_icmp .gt 5, 3) := by decide +kernel
theorem dJ8_newLength_cabcc_19 : decode cJ8_newLength_cabcc 19 = .ok (.iload_n 3, 1) := by decide +kernel
theorem dJ8_newLength_cabcc_20 : decode cJ8_newLength_cabcc 20 = .ok (.ireturn, 1) := by decide +kernel
theorem dJ8_newLength_cabcc_21 : decode cJ8_newLength_cabcc 21 = .ok (.iload_n 0, 1) := by decide +kernel
theorem dJ8_newLength_cabcc_22 : decode cJ8_newLength_cabcc 22 = .ok (.iload_n 1, 1) := by decide +kernel
theorem dJ8_newLength_cabcc_23 : decode cJ8_newLength_cabcc 23 = .ok (.invokestatic 201, 3) := by decide +kernel
theorem dJ8_newLength_cabcc_26 : decode cJ8_newLength_cabcc 26 = .ok (.ireturn, 1) := by decide +kernel
theorem dJ8_hugeLength_7cf53_0 : decode cJ8_hugeLength_7cf53 0 = .ok (.iload_n 0, 1) := by decide +kernel
theorem dJ8_hugeLength_7cf53_1 : decode cJ8_hugeLength_7cf53 1 = .ok (.iload_n 1, 1) := by decide +kernel
theorem dJ8_hugeLength_7cf53_2 : decode cJ8_hugeLength_7cf53 2 = .ok (.iadd, 1) := by decide +kernel
theorem dJ8_hugeLength_7cf53_3 : decode cJ8_hugeLength_7cf53 3 = .ok (.istore_n 2, 1) := by decide +kernel
theorem dJ8_hugeLength_7cf53_4 : decode cJ8_hugeLength_7cf53 4 = .ok (.iload_n 2, 1) := by decide +kernel
theorem dJ8_hugeLength_7cf53_5 : decode cJ8_hugeLength_7cf53 5 = .ok (.ifCond .ge 44, 3) := by decide +kernel
theorem dJ8_hugeLength_7cf53_8 : decode cJ8_hugeLength_7cf53 8 = .ok (.new 204, 3) := by decide +kernel
theorem dJ8_hugeLength_7cf53_11 : decode cJ8_hugeLength_7cf53 11 = .ok (.dup, 1) := by decide +kernel
theorem dJ8_hugeLength_7cf53_12 : decode cJ8_hugeLength_7cf53 12 = .ok (.new 89, 3) := by decide +kernel
theorem dJ8_hugeLength_7cf53_15 : decode cJ8_hugeLength_7cf53 15 = .ok (.dup, 1) := by decide +kernel
theorem dJ8_hugeLength_7cf53_16 : decode cJ8_hugeLength_7cf53 16 = .ok (.invokespecial 91, 3) := by decide +kernel
theorem dJ8_hugeLength_7cf53_19 : decode cJ8_hugeLength_7cf53 19 = .ok (.ldc 206, 2) := by decide +kernel
theorem dJ8_hugeLength_7cf53_21 : decode cJ8_hugeLength_7cf53 21 = .ok (.invokevirtual 94, 3) := by decide +kernel
theorem dJ8_hugeLength_7cf53_24 : decode cJ8_hugeLength_7cf53 24 = .ok (.iload_n 0, 1) := by decide +kernel
theorem dJ8_hugeLength_7cf53_25 : decode cJ8_hugeLength_7cf53 25 = .ok (.invokevirtual 98, 3) := by decide +kernel
theorem dJ8_hugeLength_7cf53_28 : decode cJ8_hugeLength_7cf53 28 = .ok (.ldc 208, 2) := by decide +kernel
theorem dJ8_hugeLength_7cf53_30 : decode cJ8_hugeLength_7cf53 30 = .ok (.invokevirtual 94, 3) := by decide +kernel
theorem dJ8_hugeLength_7cf53_33 : decode cJ8_hugeLength_7cf53 33 = .ok (.iload_n 1, 1) := by decide +kernel
theorem dJ8_hugeLength_7cf53_34 : decode cJ8_hugeLength_7cf53 34 = .ok (.invokevirtual 98, 3) := by decide +kernel
theorem dJ8_hugeLength_7cf53_37 : decode cJ8_hugeLength_7cf53 37 = .ok (.ldc 210, 2) := by decide +kernel
theorem dJ8_hugeLength_7cf53_39 : decode cJ8_hugeLength_7cf53 39 = .ok (.invokevirtual 94, 3) := by decide +kernel
theorem dJ8_hugeLength_7cf53_42 : decode cJ8_hugeLength_7cf53 42 = .ok (.invokevirtual 101, 3) := by decide +kernel
theorem dJ8_hugeLength_7cf53_45 : decode cJ8_hugeLength_7cf53 45 = .ok (.invokespecial 212, 3) := by decide +kernel
theorem dJ8_hugeLength_7cf53_48 : decode cJ8_hugeLength_7cf53 48 = .ok (.athrow, 1) := by decide +kernel
theorem dJ8_hugeLength_7cf53_49 : decode cJ8_hugeLength_7cf53 49 = .ok (.iload_n 2, 1) := by decide +kernel
theorem dJ8_hugeLength_7cf53_50 : decode cJ8_hugeLength_7cf53 50 = .ok (.ldc 200, 2) := by decide +kernel
theorem dJ8_hugeLength_7cf53_52 : decode cJ8_hugeLength_7cf53 52 = .ok (.if_icmp .gt 6, 3) := by decide +kernel
theorem dJ8_hugeLength_7cf53_55 : decode cJ8_hugeLength_7cf53 55 = .ok (.ldc 200, 2) := by decide +kernel
theorem dJ8_hugeLength_7cf53_57 : decode cJ8_hugeLength_7cf53 57 = .ok (.ireturn, 1) := by decide +kernel
theorem dJ8_hugeLength_7cf53_58 : decode cJ8_hugeLength_7cf53 58 = .ok (.iload_n 2, 1) := by decide +kernel
theorem dJ8_hugeLength_7cf53_59 : decode cJ8_hugeLength_7cf53 59 = .ok (.ireturn, 1) := by decide +kernel
theorem dJ3_checkIndex_8e157_0 : decode cJ3_checkIndex_8e157 0 = .ok (.iload_n 0, 1) := by decide +kernel
theorem dJ3_checkIndex_8e157_1 : decode cJ3_checkIndex_8e157 1 = .ok (.ifCond .lt 8, 3) := by decide +kernel
theorem dJ3_checkIndex_8e157_4 : decode cJ3_checkIndex_8e157 4 = .ok (.iload_n 0, 1) := by decide +kernel
theorem dJ3_checkIndex_8e157_5 : decode cJ3_checkIndex_8e157 5 = .ok (.iload_n 1, 1) := by decide +kernel
theorem dJ3_checkIndex_8e157_6 : decode cJ3_checkIndex_8e157 6 = .ok (.if_icmp .lt 10, 3) := by decide +kernel
theorem dJ3_checkIndex_8e157_9 : decode cJ3_checkIndex_8e157 9 = .ok (.aload_n 2, 1) := by decide +kernel
theorem dJ3_checkIndex_8e157_10 : decode cJ3_checkIndex_8e157 10 = .ok (.iload_n 0, 1) := by decide +kernel
theorem dJ3_checkIndex_8e157_11 : decode cJ3_checkIndex_8e157 11 = .ok (.iload_n 1, 1) := by decide +kernel
theorem dJ3_checkIndex_8e157_12 : decode cJ3_checkIndex_8e157 12 = .ok (.invokestatic 95, 3) := by decide +kernel
theorem dJ3_checkIndex_8e157_15 : decode cJ3_checkIndex_8e157 15 = .ok (.athrow, 1) := by decide +kernel
theorem dJ3_checkIndex_8e157_16 : decode cJ3_checkIndex_8e157 16 = .ok (.iload_n 0, 1) := by decide +kernel
theorem dJ3_checkIndex_8e157_17 : decode cJ3_checkIndex_8e157 17 = .ok (.ireturn, 1) := by decide +kernel
theorem dL_player_0 : decode cL_player 0 = .ok (.aload_n 1, 1) := by decide +kernel
theorem dL_player_1 : decode cL_player 1 = .ok (.iconst 0, 1) := by decide +kernel
theorem dL_player_2 : decode cL_player 2 = .ok (.aload_n 0, 1) := by decide +kernel
theorem dL_player_3 : decode cL_player 3 = .ok (.invokevirtual 7, 3) := by decide +kernel
theorem dL_player_6 : decode cL_player 6 = .ok (.i2l, 1) := by decide +kernel
theorem dL_player_7 : decode cL_player 7 = .ok (.lastore, 1) := by decide +kernel
theorem dL_player_8 : decode cL_player 8 = .ok (.goto 6, 3) := by decide +kernel
theorem dL_player_11 : decode cL_player 11 = .ok (.astore_n 2, 1) := by decide +kernel
theorem dL_player_12 : decode cL_player 12 = .ok (.iconst 1, 1) := by decide +kernel
theorem dL_player_13 : decode cL_player 13 = .ok (.ireturn, 1) := by decide +kernel
theorem dL_player_14 : decode cL_player 14 = .ok (.iconst 0, 1) := by decide +kernel
theorem dL_player_15 : decode cL_player 15 = .ok (.ireturn, 1) := by decide +kernel
theorem dL_rule_0 : decode cL_rule 0 = .ok (.aload_n 2, 1) := by decide +kernel
theorem dL_rule_1 : decode cL_rule 1 = .ok (.iconst 0, 1) := by decide +kernel
theorem dL_rule_2 : decode cL_rule 2 = .ok (.aload_n 0, 1) := by decide +kernel
theorem dL_rule_3 : decode cL_rule 3 = .ok (.iload_n 1, 1) := by decide +kernel
theorem dL_rule_4 : decode cL_rule 4 = .ok (.invokevirtual 15, 3) := by decide +kernel
theorem dL_rule_7 : decode cL_rule 7 = .ok (.i2l, 1) := by decide +kernel
theorem dL_rule_8 : decode cL_rule 8 = .ok (.lastore, 1) := by decide +kernel
theorem dL_rule_9 : decode cL_rule 9 = .ok (.goto 6, 3) := by decide +kernel
theorem dL_rule_12 : decode cL_rule 12 = .ok (.astore_n 3, 1) := by decide +kernel
theorem dL_rule_13 : decode cL_rule 13 = .ok (.iconst 1, 1) := by decide +kernel
theorem dL_rule_14 : decode cL_rule 14 = .ok (.ireturn, 1) := by decide +kernel
theorem dL_rule_15 : decode cL_rule 15 = .ok (.iconst 0, 1) := by decide +kernel
theorem dL_rule_16 : decode cL_rule 16 = .ok (.ireturn, 1) := by decide +kernel
theorem dL_part_0 : decode cL_part 0 = .ok (.aload_n 0, 1) := by decide +kernel
theorem dL_part_1 : decode cL_part 1 = .ok (.iload_n 1, 1) := by decide +kernel
theorem dL_part_2 : decode cL_part 2 = .ok (.iload_n 2, 1) := by decide +kernel
theorem dL_part_3 : decode cL_part 3 = .ok (.iload_n 3, 1) := by decide +kernel
theorem dL_part_4 : decode cL_part 4 = .ok (.iload 4, 2) := by decide +kernel
theorem dL_part_6 : decode cL_part 6 = .ok (.invokevirtual 19, 3) := by decide +kernel
theorem dL_part_9 : decode cL_part 9 = .ok (.goto 11, 3) := by decide +kernel
theorem dL_part_12 : decode cL_part 12 = .ok (.astore 5, 2) := by decide +kernel
theorem dL_part_14 : decode cL_part 14 = .ok (.iconst 1, 1) := by decide +kernel
theorem dL_part_15 : decode cL_part 15 = .ok (.ireturn, 1) := by decide +kernel
theorem dL_part_16 : decode cL_part 16 = .ok (.astore 5, 2) := by decide +kernel
theorem dL_part_18 : decode cL_part 18 = .ok (.iconst 2, 1) := by decide +kernel
theorem dL_part_19 : decode cL_part 19 = .ok (.ireturn, 1) := by decide +kernel
theorem dL_part_20 : decode cL_part 20 = .ok (.iconst 0, 1) := by decide +kernel
theorem dL_part_21 : decode cL_part 21 = .ok (.ireturn, 1) := by decide +kernel
theorem dL_deed_0 : decode cL_deed 0 = .ok (.aload 5, 2) := by decide +kernel
theorem dL_deed_2 : decode cL_deed 2 = .ok (.iconst 0, 1) := by decide +kernel
theorem dL_deed_3 : decode cL_deed 3 = .ok (.aload_n 0, 1) := by decide +kernel
theorem dL_deed_4 : decode cL_deed 4 = .ok (.iload_n 1, 1) := by decide +kernel
theorem dL_deed_5 : decode cL_deed 5 = .ok (.iload_n 2, 1) := by decide +kernel
theorem dL_deed_6 : decode cL_deed 6 = .ok (.iload_n 3, 1) := by decide +kernel
theorem dL_deed_7 : decode cL_deed 7 = .ok (.iload 4, 2) := by decide +kernel
theorem dL_deed_9 : decode cL_deed 9 = .ok (.invokevirtual 27, 3) := by decide +kernel
theorem dL_deed_12 : decode cL_deed 12 = .ok (.i2l, 1) := by decide +kernel
theorem dL_deed_13 : decode cL_deed 13 = .ok (.lastore, 1) := by decide +kernel
theorem dL_deed_14 : decode cL_deed 14 = .ok (.goto 11, 3) := by decide +kernel
theorem dL_deed_17 : decode cL_deed 17 = .ok (.astore 6, 2) := by decide +kernel
theorem dL_deed_19 : decode cL_deed 19 = .ok (.iconst 1, 1) := by decide +kernel
theorem dL_deed_20 : decode cL_deed 20 = .ok (.ireturn, 1) := by decide +kernel
theorem dL_deed_21 : decode cL_deed 21 = .ok (.astore 6, 2) := by decide +kernel
theorem dL_deed_23 : decode cL_deed 23 = .ok (.iconst 2, 1) := by decide +kernel
theorem dL_deed_24 : decode cL_deed 24 = .ok (.ireturn, 1) := by decide +kernel
theorem dL_deed_25 : decode cL_deed 25 = .ok (.iconst 0, 1) := by decide +kernel
theorem dL_deed_26 : decode cL_deed 26 = .ok (.ireturn, 1) := by decide +kernel
theorem dL_has_0 : decode cL_has 0 = .ok (.aload_n 3, 1) := by decide +kernel
theorem dL_has_1 : decode cL_has 1 = .ok (.iconst 0, 1) := by decide +kernel
theorem dL_has_2 : decode cL_has 2 = .ok (.aload_n 0, 1) := by decide +kernel
theorem dL_has_3 : decode cL_has 3 = .ok (.iload_n 1, 1) := by decide +kernel
theorem dL_has_4 : decode cL_has 4 = .ok (.iload_n 2, 1) := by decide +kernel
theorem dL_has_5 : decode cL_has 5 = .ok (.invokevirtual 31, 3) := by decide +kernel
theorem dL_has_8 : decode cL_has 8 = .ok (.i2l, 1) := by decide +kernel
theorem dL_has_9 : decode cL_has 9 = .ok (.lastore, 1) := by decide +kernel
theorem dL_has_10 : decode cL_has 10 = .ok (.goto 7, 3) := by decide +kernel
theorem dL_has_13 : decode cL_has 13 = .ok (.astore 4, 2) := by decide +kernel
theorem dL_has_15 : decode cL_has 15 = .ok (.iconst 1, 1) := by decide +kernel
theorem dL_has_16 : decode cL_has 16 = .ok (.ireturn, 1) := by decide +kernel
theorem dL_has_17 : decode cL_has 17 = .ok (.iconst 0, 1) := by decide +kernel
theorem dL_has_18 : decode cL_has 18 = .ok (.ireturn, 1) := by decide +kernel
theorem dL_sum_0 : decode cL_sum 0 = .ok (.aload_n 3, 1) := by decide +kernel
theorem dL_sum_1 : decode cL_sum 1 = .ok (.iconst 0, 1) := by decide +kernel
theorem dL_sum_2 : decode cL_sum 2 = .ok (.aload_n 0, 1) := by decide +kernel
theorem dL_sum_3 : decode cL_sum 3 = .ok (.iload_n 1, 1) := by decide +kernel
theorem dL_sum_4 : decode cL_sum 4 = .ok (.iload_n 2, 1) := by decide +kernel
theorem dL_sum_5 : decode cL_sum 5 = .ok (.invokevirtual 35, 3) := by decide +kernel
theorem dL_sum_8 : decode cL_sum 8 = .ok (.lastore, 1) := by decide +kernel
theorem dL_sum_9 : decode cL_sum 9 = .ok (.goto 7, 3) := by decide +kernel
theorem dL_sum_12 : decode cL_sum 12 = .ok (.astore 4, 2) := by decide +kernel
theorem dL_sum_14 : decode cL_sum 14 = .ok (.iconst 1, 1) := by decide +kernel
theorem dL_sum_15 : decode cL_sum 15 = .ok (.ireturn, 1) := by decide +kernel
theorem dL_sum_16 : decode cL_sum 16 = .ok (.iconst 0, 1) := by decide +kernel
theorem dL_sum_17 : decode cL_sum 17 = .ok (.ireturn, 1) := by decide +kernel
theorem dL_single_0 : decode cL_single 0 = .ok (.aload 4, 2) := by decide +kernel
theorem dL_single_2 : decode cL_single 2 = .ok (.iconst 0, 1) := by decide +kernel
theorem dL_single_3 : decode cL_single 3 = .ok (.aload_n 0, 1) := by decide +kernel
theorem dL_single_4 : decode cL_single 4 = .ok (.iload_n 1, 1) := by decide +kernel
theorem dL_single_5 : decode cL_single 5 = .ok (.iload_n 2, 1) := by decide +kernel
theorem dL_single_6 : decode cL_single 6 = .ok (.iload_n 3, 1) := by decide +kernel
theorem dL_single_7 : decode cL_single 7 = .ok (.invokevirtual 39, 3) := by decide +kernel
theorem dL_single_10 : decode cL_single 10 = .ok (.i2l, 1) := by decide +kernel
theorem dL_single_11 : decode cL_single 11 = .ok (.lastore, 1) := by decide +kernel
theorem dL_single_12 : decode cL_single 12 = .ok (.goto 15, 3) := by decide +kernel
theorem dL_single_15 : decode cL_single 15 = .ok (.astore 5, 2) := by decide +kernel
theorem dL_single_17 : decode cL_single 17 = .ok (.iconst 1, 1) := by decide +kernel
theorem dL_single_18 : decode cL_single 18 = .ok (.ireturn, 1) := by decide +kernel
theorem dL_single_19 : decode cL_single 19 = .ok (.astore 5, 2) := by decide +kernel
theorem dL_single_21 : decode cL_single 21 = .ok (.iconst 2, 1) := by decide +kernel
theorem dL_single_22 : decode cL_single 22 = .ok (.ireturn, 1) := by decide +kernel
theorem dL_single_23 : decode cL_single 23 = .ok (.astore 5, 2) := by decide +kernel
theorem dL_single_25 : decode cL_single 25 = .ok (.iconst 3, 1) := by decide +kernel
theorem dL_single_26 : decode cL_single 26 = .ok (.ireturn, 1) := by decide +kernel
theorem dL_single_27 : decode cL_single 27 = .ok (.iconst 0, 1) := by decide +kernel
theorem dL_single_28 : decode cL_single 28 = .ok (.ireturn, 1) := by decide +kernel
theorem dL_put_0 : decode cL_put 0 = .ok (.aload_n 3, 1) := by decide +kernel
theorem dL_put_1 : decode cL_put 1 = .ok (.iconst 0, 1) := by decide +kernel
theorem dL_put_2 : decode cL_put 2 = .ok (.aload_n 0, 1) := by decide +kernel
theorem dL_put_3 : decode cL_put 3 = .ok (.iload_n 1, 1) := by decide +kernel
theorem dL_put_4 : decode cL_put 4 = .ok (.iload_n 2, 1) := by decide +kernel
theorem dL_put_5 : decode cL_put 5 = .ok (.invokevirtual 43, 3) := by decide +kernel
theorem dL_put_8 : decode cL_put 8 = .ok (.ifCond .eq 7, 3) := by decide +kernel
theorem dL_put_11 : decode cL_put 11 = .ok (.lconst 1, 1) := by decide +kernel
theorem dL_put_12 : decode cL_put 12 = .ok (.goto 4, 3) := by decide +kernel
theorem dL_put_15 : decode cL_put 15 = .ok (.lconst 0, 1) := by decide +kernel
theorem dL_put_16 : decode cL_put 16 = .ok (.lastore, 1) := by decide +kernel
theorem dL_put_17 : decode cL_put 17 = .ok (.goto 7, 3) := by decide +kernel
theorem dL_put_20 : decode cL_put 20 = .ok (.astore 4, 2) := by decide +kernel
theorem dL_put_22 : decode cL_put 22 = .ok (.iconst 1, 1) := by decide +kernel
theorem dL_put_23 : decode cL_put 23 = .ok (.ireturn, 1) := by decide +kernel
theorem dL_put_24 : decode cL_put 24 = .ok (.iconst 0, 1) := by decide +kernel
theorem dL_put_25 : decode cL_put 25 = .ok (.ireturn, 1) := by decide +kernel
theorem dL_take_0 : decode cL_take 0 = .ok (.aload_n 2, 1) := by decide +kernel
theorem dL_take_1 : decode cL_take 1 = .ok (.iconst 0, 1) := by decide +kernel
theorem dL_take_2 : decode cL_take 2 = .ok (.aload_n 0, 1) := by decide +kernel
theorem dL_take_3 : decode cL_take 3 = .ok (.iload_n 1, 1) := by decide +kernel
theorem dL_take_4 : decode cL_take 4 = .ok (.invokevirtual 47, 3) := by decide +kernel
theorem dL_take_7 : decode cL_take 7 = .ok (.ifCond .eq 7, 3) := by decide +kernel
theorem dL_take_10 : decode cL_take 10 = .ok (.lconst 1, 1) := by decide +kernel
theorem dL_take_11 : decode cL_take 11 = .ok (.goto 4, 3) := by decide +kernel
theorem dL_take_14 : decode cL_take 14 = .ok (.lconst 0, 1) := by decide +kernel
theorem dL_take_15 : decode cL_take 15 = .ok (.lastore, 1) := by decide +kernel
theorem dL_take_16 : decode cL_take 16 = .ok (.goto 6, 3) := by decide +kernel
theorem dL_take_19 : decode cL_take 19 = .ok (.astore_n 3, 1) := by decide +kernel
theorem dL_take_20 : decode cL_take 20 = .ok (.iconst 1, 1) := by decide +kernel
theorem dL_take_21 : decode cL_take 21 = .ok (.ireturn, 1) := by decide +kernel
theorem dL_take_22 : decode cL_take 22 = .ok (.iconst 0, 1) := by decide +kernel
theorem dL_take_23 : decode cL_take 23 = .ok (.ireturn, 1) := by decide +kernel
theorem dL_give_0 : decode cL_give 0 = .ok (.aload_n 3, 1) := by decide +kernel
theorem dL_give_1 : decode cL_give 1 = .ok (.iconst 0, 1) := by decide +kernel
theorem dL_give_2 : decode cL_give 2 = .ok (.aload_n 0, 1) := by decide +kernel
theorem dL_give_3 : decode cL_give 3 = .ok (.iload_n 1, 1) := by decide +kernel
theorem dL_give_4 : decode cL_give 4 = .ok (.iload_n 2, 1) := by decide +kernel
theorem dL_give_5 : decode cL_give 5 = .ok (.invokevirtual 51, 3) := by decide +kernel
theorem dL_give_8 : decode cL_give 8 = .ok (.ifCond .eq 7, 3) := by decide +kernel
theorem dL_give_11 : decode cL_give 11 = .ok (.lconst 1, 1) := by decide +kernel
theorem dL_give_12 : decode cL_give 12 = .ok (.goto 4, 3) := by decide +kernel
theorem dL_give_15 : decode cL_give 15 = .ok (.lconst 0, 1) := by decide +kernel
theorem dL_give_16 : decode cL_give 16 = .ok (.lastore, 1) := by decide +kernel
theorem dL_give_17 : decode cL_give 17 = .ok (.goto 7, 3) := by decide +kernel
theorem dL_give_20 : decode cL_give 20 = .ok (.astore 4, 2) := by decide +kernel
theorem dL_give_22 : decode cL_give 22 = .ok (.iconst 1, 1) := by decide +kernel
theorem dL_give_23 : decode cL_give 23 = .ok (.ireturn, 1) := by decide +kernel
theorem dL_give_24 : decode cL_give 24 = .ok (.iconst 0, 1) := by decide +kernel
theorem dL_give_25 : decode cL_give 25 = .ok (.ireturn, 1) := by decide +kernel
theorem dL_lend_0 : decode cL_lend 0 = .ok (.aload 4, 2) := by decide +kernel
theorem dL_lend_2 : decode cL_lend 2 = .ok (.iconst 0, 1) := by decide +kernel
theorem dL_lend_3 : decode cL_lend 3 = .ok (.aload_n 0, 1) := by decide +kernel
theorem dL_lend_4 : decode cL_lend 4 = .ok (.iload_n 1, 1) := by decide +kernel
theorem dL_lend_5 : decode cL_lend 5 = .ok (.iload_n 2, 1) := by decide +kernel
theorem dL_lend_6 : decode cL_lend 6 = .ok (.iload_n 3, 1) := by decide +kernel
theorem dL_lend_7 : decode cL_lend 7 = .ok (.invokevirtual 54, 3) := by decide +kernel
theorem dL_lend_10 : decode cL_lend 10 = .ok (.ifCond .eq 7, 3) := by decide +kernel
theorem dL_lend_13 : decode cL_lend 13 = .ok (.lconst 1, 1) := by decide +kernel
theorem dL_lend_14 : decode cL_lend 14 = .ok (.goto 4, 3) := by decide +kernel
theorem dL_lend_17 : decode cL_lend 17 = .ok (.lconst 0, 1) := by decide +kernel
theorem dL_lend_18 : decode cL_lend 18 = .ok (.lastore, 1) := by decide +kernel
theorem dL_lend_19 : decode cL_lend 19 = .ok (.goto 7, 3) := by decide +kernel
theorem dL_lend_22 : decode cL_lend 22 = .ok (.astore 5, 2) := by decide +kernel
theorem dL_lend_24 : decode cL_lend 24 = .ok (.iconst 1, 1) := by decide +kernel
theorem dL_lend_25 : decode cL_lend 25 = .ok (.ireturn, 1) := by decide +kernel
theorem dL_lend_26 : decode cL_lend 26 = .ok (.iconst 0, 1) := by decide +kernel
theorem dL_lend_27 : decode cL_lend 27 = .ok (.ireturn, 1) := by decide +kernel
theorem dL_wear_0 : decode cL_wear 0 = .ok (.aload_n 3, 1) := by decide +kernel
theorem dL_wear_1 : decode cL_wear 1 = .ok (.iconst 0, 1) := by decide +kernel
theorem dL_wear_2 : decode cL_wear 2 = .ok (.aload_n 0, 1) := by decide +kernel
theorem dL_wear_3 : decode cL_wear 3 = .ok (.iload_n 1, 1) := by decide +kernel
theorem dL_wear_4 : decode cL_wear 4 = .ok (.iload_n 2, 1) := by decide +kernel
theorem dL_wear_5 : decode cL_wear 5 = .ok (.invokevirtual 58, 3) := by decide +kernel
theorem dL_wear_8 : decode cL_wear 8 = .ok (.i2l, 1) := by decide +kernel
theorem dL_wear_9 : decode cL_wear 9 = .ok (.lastore, 1) := by decide +kernel
theorem dL_wear_10 : decode cL_wear 10 = .ok (.goto 11, 3) := by decide +kernel
theorem dL_wear_13 : decode cL_wear 13 = .ok (.astore 4, 2) := by decide +kernel
theorem dL_wear_15 : decode cL_wear 15 = .ok (.iconst 1, 1) := by decide +kernel
theorem dL_wear_16 : decode cL_wear 16 = .ok (.ireturn, 1) := by decide +kernel
theorem dL_wear_17 : decode cL_wear 17 = .ok (.astore 4, 2) := by decide +kernel
theorem dL_wear_19 : decode cL_wear 19 = .ok (.iconst 2, 1) := by decide +kernel
theorem dL_wear_20 : decode cL_wear 20 = .ok (.ireturn, 1) := by decide +kernel
theorem dL_wear_21 : decode cL_wear 21 = .ok (.iconst 0, 1) := by decide +kernel
theorem dL_wear_22 : decode cL_wear 22 = .ok (.ireturn, 1) := by decide +kernel
theorem dL_days_0 : decode cL_days 0 = .ok (.aload_n 2, 1) := by decide +kernel
theorem dL_days_1 : decode cL_days 1 = .ok (.iconst 0, 1) := by decide +kernel
theorem dL_days_2 : decode cL_days 2 = .ok (.aload_n 0, 1) := by decide +kernel
theorem dL_days_3 : decode cL_days 3 = .ok (.iload_n 1, 1) := by decide +kernel
theorem dL_days_4 : decode cL_days 4 = .ok (.invokevirtual 61, 3) := by decide +kernel
theorem dL_days_7 : decode cL_days 7 = .ok (.i2l, 1) := by decide +kernel
theorem dL_days_8 : decode cL_days 8 = .ok (.lastore, 1) := by decide +kernel
theorem dL_days_9 : decode cL_days 9 = .ok (.goto 6, 3) := by decide +kernel
theorem dL_days_12 : decode cL_days 12 = .ok (.astore_n 3, 1) := by decide +kernel
theorem dL_days_13 : decode cL_days 13 = .ok (.iconst 1, 1) := by decide +kernel
theorem dL_days_14 : decode cL_days 14 = .ok (.ireturn, 1) := by decide +kernel
theorem dL_days_15 : decode cL_days 15 = .ok (.iconst 0, 1) := by decide +kernel
theorem dL_days_16 : decode cL_days 16 = .ok (.ireturn, 1) := by decide +kernel
theorem dL_look_0 : decode cL_look 0 = .ok (.aload_n 3, 1) := by decide +kernel
theorem dL_look_1 : decode cL_look 1 = .ok (.iconst 0, 1) := by decide +kernel
theorem dL_look_2 : decode cL_look 2 = .ok (.aload_n 0, 1) := by decide +kernel
theorem dL_look_3 : decode cL_look 3 = .ok (.iload_n 1, 1) := by decide +kernel
theorem dL_look_4 : decode cL_look 4 = .ok (.iload_n 2, 1) := by decide +kernel
theorem dL_look_5 : decode cL_look 5 = .ok (.invokevirtual 65, 3) := by decide +kernel
theorem dL_look_8 : decode cL_look 8 = .ok (.i2l, 1) := by decide +kernel
theorem dL_look_9 : decode cL_look 9 = .ok (.lastore, 1) := by decide +kernel
theorem dL_look_10 : decode cL_look 10 = .ok (.goto 11, 3) := by decide +kernel
theorem dL_look_13 : decode cL_look 13 = .ok (.astore 4, 2) := by decide +kernel
theorem dL_look_15 : decode cL_look 15 = .ok (.iconst 1, 1) := by decide +kernel
theorem dL_look_16 : decode cL_look 16 = .ok (.ireturn, 1) := by decide +kernel
theorem dL_look_17 : decode cL_look 17 = .ok (.astore 4, 2) := by decide +kernel
theorem dL_look_19 : decode cL_look 19 = .ok (.iconst 2, 1) := by decide +kernel
theorem dL_look_20 : decode cL_look 20 = .ok (.ireturn, 1) := by decide +kernel
theorem dL_look_21 : decode cL_look 21 = .ok (.iconst 0, 1) := by decide +kernel
theorem dL_look_22 : decode cL_look 22 = .ok (.ireturn, 1) := by decide +kernel
theorem dL_line_0 : decode cL_line 0 = .ok (.aload 4, 2) := by decide +kernel
theorem dL_line_2 : decode cL_line 2 = .ok (.iconst 0, 1) := by decide +kernel
theorem dL_line_3 : decode cL_line 3 = .ok (.aload_n 0, 1) := by decide +kernel
theorem dL_line_4 : decode cL_line 4 = .ok (.iload_n 1, 1) := by decide +kernel
theorem dL_line_5 : decode cL_line 5 = .ok (.iload_n 2, 1) := by decide +kernel
theorem dL_line_6 : decode cL_line 6 = .ok (.iload_n 3, 1) := by decide +kernel
theorem dL_line_7 : decode cL_line 7 = .ok (.invokevirtual 70, 3) := by decide +kernel
theorem dL_line_10 : decode cL_line 10 = .ok (.i2l, 1) := by decide +kernel
theorem dL_line_11 : decode cL_line 11 = .ok (.lastore, 1) := by decide +kernel
theorem dL_line_12 : decode cL_line 12 = .ok (.goto 7, 3) := by decide +kernel
theorem dL_line_15 : decode cL_line 15 = .ok (.astore 5, 2) := by decide +kernel
theorem dL_line_17 : decode cL_line 17 = .ok (.iconst 1, 1) := by decide +kernel
theorem dL_line_18 : decode cL_line 18 = .ok (.ireturn, 1) := by decide +kernel
theorem dL_line_19 : decode cL_line 19 = .ok (.iconst 0, 1) := by decide +kernel
theorem dL_line_20 : decode cL_line 20 = .ok (.ireturn, 1) := by decide +kernel
theorem dL_offer_0 : decode cL_offer 0 = .ok (.aload 9, 2) := by decide +kernel
theorem dL_offer_2 : decode cL_offer 2 = .ok (.iconst 0, 1) := by decide +kernel
theorem dL_offer_3 : decode cL_offer 3 = .ok (.aload_n 0, 1) := by decide +kernel
theorem dL_offer_4 : decode cL_offer 4 = .ok (.iload_n 1, 1) := by decide +kernel
theorem dL_offer_5 : decode cL_offer 5 = .ok (.iload_n 2, 1) := by decide +kernel
theorem dL_offer_6 : decode cL_offer 6 = .ok (.iload_n 3, 1) := by decide +kernel
theorem dL_offer_7 : decode cL_offer 7 = .ok (.iload 4, 2) := by decide +kernel
theorem dL_offer_9 : decode cL_offer 9 = .ok (.iload 5, 2) := by decide +kernel
theorem dL_offer_11 : decode cL_offer 11 = .ok (.iload 6, 2) := by decide +kernel
theorem dL_offer_13 : decode cL_offer 13 = .ok (.iload 7, 2) := by decide +kernel
theorem dL_offer_15 : decode cL_offer 15 = .ok (.iload 8, 2) := by decide +kernel
theorem dL_offer_17 : decode cL_offer 17 = .ok (.invokevirtual 74, 3) := by decide +kernel
theorem dL_offer_20 : decode cL_offer 20 = .ok (.i2l, 1) := by decide +kernel
theorem dL_offer_21 : decode cL_offer 21 = .ok (.lastore, 1) := by decide +kernel
theorem dL_offer_22 : decode cL_offer 22 = .ok (.goto 15, 3) := by decide +kernel
theorem dL_offer_25 : decode cL_offer 25 = .ok (.astore 10, 2) := by decide +kernel
theorem dL_offer_27 : decode cL_offer 27 = .ok (.iconst 1, 1) := by decide +kernel
theorem dL_offer_28 : decode cL_offer 28 = .ok (.ireturn, 1) := by decide +kernel
theorem dL_offer_29 : decode cL_offer 29 = .ok (.astore 10, 2) := by decide +kernel
theorem dL_offer_31 : decode cL_offer 31 = .ok (.iconst 2, 1) := by decide +kernel
theorem dL_offer_32 : decode cL_offer 32 = .ok (.ireturn, 1) := by decide +kernel
theorem dL_offer_33 : decode cL_offer 33 = .ok (.astore 10, 2) := by decide +kernel
theorem dL_offer_35 : decode cL_offer 35 = .ok (.iconst 3, 1) := by decide +kernel
theorem dL_offer_36 : decode cL_offer 36 = .ok (.ireturn, 1) := by decide +kernel
theorem dL_offer_37 : decode cL_offer 37 = .ok (.iconst 0, 1) := by decide +kernel
theorem dL_offer_38 : decode cL_offer 38 = .ok (.ireturn, 1) := by decide +kernel
theorem dL_agree_0 : decode cL_agree 0 = .ok (.aload_n 2, 1) := by decide +kernel
theorem dL_agree_1 : decode cL_agree 1 = .ok (.iconst 0, 1) := by decide +kernel
theorem dL_agree_2 : decode cL_agree 2 = .ok (.aload_n 0, 1) := by decide +kernel
theorem dL_agree_3 : decode cL_agree 3 = .ok (.iload_n 1, 1) := by decide +kernel
theorem dL_agree_4 : decode cL_agree 4 = .ok (.invokevirtual 78, 3) := by decide +kernel
theorem dL_agree_7 : decode cL_agree 7 = .ok (.i2l, 1) := by decide +kernel
theorem dL_agree_8 : decode cL_agree 8 = .ok (.lastore, 1) := by decide +kernel
theorem dL_agree_9 : decode cL_agree 9 = .ok (.goto 6, 3) := by decide +kernel
theorem dL_agree_12 : decode cL_agree 12 = .ok (.astore_n 3, 1) := by decide +kernel
theorem dL_agree_13 : decode cL_agree 13 = .ok (.iconst 1, 1) := by decide +kernel
theorem dL_agree_14 : decode cL_agree 14 = .ok (.ireturn, 1) := by decide +kernel
theorem dL_agree_15 : decode cL_agree 15 = .ok (.iconst 0, 1) := by decide +kernel
theorem dL_agree_16 : decode cL_agree 16 = .ok (.ireturn, 1) := by decide +kernel
theorem dL_withdraw_0 : decode cL_withdraw 0 = .ok (.aload_n 2, 1) := by decide +kernel
theorem dL_withdraw_1 : decode cL_withdraw 1 = .ok (.iconst 0, 1) := by decide +kernel
theorem dL_withdraw_2 : decode cL_withdraw 2 = .ok (.aload_n 0, 1) := by decide +kernel
theorem dL_withdraw_3 : decode cL_withdraw 3 = .ok (.iload_n 1, 1) := by decide +kernel
theorem dL_withdraw_4 : decode cL_withdraw 4 = .ok (.invokevirtual 81, 3) := by decide +kernel
theorem dL_withdraw_7 : decode cL_withdraw 7 = .ok (.ifCond .eq 7, 3) := by decide +kernel
theorem dL_withdraw_10 : decode cL_withdraw 10 = .ok (.lconst 1, 1) := by decide +kernel
theorem dL_withdraw_11 : decode cL_withdraw 11 = .ok (.goto 4, 3) := by decide +kernel
theorem dL_withdraw_14 : decode cL_withdraw 14 = .ok (.lconst 0, 1) := by decide +kernel
theorem dL_withdraw_15 : decode cL_withdraw 15 = .ok (.lastore, 1) := by decide +kernel
theorem dL_withdraw_16 : decode cL_withdraw 16 = .ok (.goto 6, 3) := by decide +kernel
theorem dL_withdraw_19 : decode cL_withdraw 19 = .ok (.astore_n 3, 1) := by decide +kernel
theorem dL_withdraw_20 : decode cL_withdraw 20 = .ok (.iconst 1, 1) := by decide +kernel
theorem dL_withdraw_21 : decode cL_withdraw 21 = .ok (.ireturn, 1) := by decide +kernel
theorem dL_withdraw_22 : decode cL_withdraw 22 = .ok (.iconst 0, 1) := by decide +kernel
theorem dL_withdraw_23 : decode cL_withdraw 23 = .ok (.ireturn, 1) := by decide +kernel
theorem dL_times_0 : decode cL_times 0 = .ok (.aload_n 0, 1) := by decide +kernel
theorem dL_times_1 : decode cL_times 1 = .ok (.iload_n 1, 1) := by decide +kernel
theorem dL_times_2 : decode cL_times 2 = .ok (.iload_n 2, 1) := by decide +kernel
theorem dL_times_3 : decode cL_times 3 = .ok (.invokevirtual 84, 3) := by decide +kernel
theorem dL_times_6 : decode cL_times 6 = .ok (.goto 9, 3) := by decide +kernel
theorem dL_times_9 : decode cL_times 9 = .ok (.astore_n 3, 1) := by decide +kernel
theorem dL_times_10 : decode cL_times 10 = .ok (.iconst 1, 1) := by decide +kernel
theorem dL_times_11 : decode cL_times 11 = .ok (.ireturn, 1) := by decide +kernel
theorem dL_times_12 : decode cL_times 12 = .ok (.astore_n 3, 1) := by decide +kernel
theorem dL_times_13 : decode cL_times 13 = .ok (.iconst 2, 1) := by decide +kernel
theorem dL_times_14 : decode cL_times 14 = .ok (.ireturn, 1) := by decide +kernel
theorem dL_times_15 : decode cL_times 15 = .ok (.iconst 0, 1) := by decide +kernel
theorem dL_times_16 : decode cL_times 16 = .ok (.ireturn, 1) := by decide +kernel
theorem dL_weigh_0 : decode cL_weigh 0 = .ok (.aload_n 0, 1) := by decide +kernel
theorem dL_weigh_1 : decode cL_weigh 1 = .ok (.iload_n 1, 1) := by decide +kernel
theorem dL_weigh_2 : decode cL_weigh 2 = .ok (.iload_n 2, 1) := by decide +kernel
theorem dL_weigh_3 : decode cL_weigh 3 = .ok (.invokevirtual 88, 3) := by decide +kernel
theorem dL_weigh_6 : decode cL_weigh 6 = .ok (.goto 9, 3) := by decide +kernel
theorem dL_weigh_9 : decode cL_weigh 9 = .ok (.astore_n 3, 1) := by decide +kernel
theorem dL_weigh_10 : decode cL_weigh 10 = .ok (.iconst 1, 1) := by decide +kernel
theorem dL_weigh_11 : decode cL_weigh 11 = .ok (.ireturn, 1) := by decide +kernel
theorem dL_weigh_12 : decode cL_weigh 12 = .ok (.astore_n 3, 1) := by decide +kernel
theorem dL_weigh_13 : decode cL_weigh 13 = .ok (.iconst 2, 1) := by decide +kernel
theorem dL_weigh_14 : decode cL_weigh 14 = .ok (.ireturn, 1) := by decide +kernel
theorem dL_weigh_15 : decode cL_weigh 15 = .ok (.iconst 0, 1) := by decide +kernel
theorem dL_weigh_16 : decode cL_weigh 16 = .ok (.ireturn, 1) := by decide +kernel
theorem dL_law_0 : decode cL_law 0 = .ok (.new 8, 3) := by decide +kernel
theorem dL_law_3 : decode cL_law 3 = .ok (.dup, 1) := by decide +kernel
theorem dL_law_4 : decode cL_law 4 = .ok (.invokespecial 91, 3) := by decide +kernel
theorem dL_law_7 : decode cL_law 7 = .ok (.astore_n 1, 1) := by decide +kernel
theorem dL_law_8 : decode cL_law 8 = .ok (.new 92, 3) := by decide +kernel
theorem dL_law_11 : decode cL_law 11 = .ok (.dup, 1) := by decide +kernel
theorem dL_law_12 : decode cL_law 12 = .ok (.invokespecial 94, 3) := by decide +kernel
theorem dL_law_15 : decode cL_law 15 = .ok (.astore_n 2, 1) := by decide +kernel
theorem dL_law_16 : decode cL_law 16 = .ok (.iconst 1, 1) := by decide +kernel
theorem dL_law_17 : decode cL_law 17 = .ok (.newarray .long, 2) := by decide +kernel
theorem dL_law_19 : decode cL_law 19 = .ok (.astore_n 3, 1) := by decide +kernel
theorem dL_law_20 : decode cL_law 20 = .ok (.iconst 0, 1) := by decide +kernel
theorem dL_law_21 : decode cL_law 21 = .ok (.istore 4, 2) := by decide +kernel
theorem dL_law_23 : decode cL_law 23 = .ok (.iload 4, 2) := by decide +kernel
theorem dL_law_25 : decode cL_law 25 = .ok (.aload_n 0, 1) := by decide +kernel
theorem dL_law_26 : decode cL_law 26 = .ok (.arraylength, 1) := by decide +kernel
theorem dL_law_27 : decode cL_law 27 = .ok (.bipush 9, 2) := by decide +kernel
theorem dL_law_29 : decode cL_law 29 = .ok (.isub, 1) := by decide +kernel
theorem dL_law_30 : decode cL_law 30 = .ok (.if_icmp .gt 1684, 3) := by decide +kernel
theorem dL_law_33 : decode cL_law 33 = .ok (.aload_n 0, 1) := by decide +kernel
theorem dL_law_34 : decode cL_law 34 = .ok (.iload 4, 2) := by decide +kernel
theorem dL_law_36 : decode cL_law 36 = .ok (.iaload, 1) := by decide +kernel
theorem dL_law_37 : decode cL_law 37 = .ok (.bipush 31, 2) := by decide +kernel
theorem dL_law_39 : decode cL_law 39 = .ok (.iand, 1) := by decide +kernel
theorem dL_law_40 : decode cL_law 40 = .ok (.tableswitch 1668 0 23 #[112, 156, 228, 316, 408, 476, 559, 655, 730, 793, 868, 955, 1023, 1079, 1147, 1243, 1389, 1445, 1508, 1521, 1569, 1582, 1630, 1643], 112) := by decide +kernel
theorem dL_law_152 : decode cL_law 152 = .ok (.aload_n 1, 1) := by decide +kernel
theorem dL_law_153 : decode cL_law 153 = .ok (.aload_n 3, 1) := by decide +kernel
theorem dL_law_154 : decode cL_law 154 = .ok (.invokestatic 95, 3) := by decide +kernel
theorem dL_law_157 : decode cL_law 157 = .ok (.istore 5, 2) := by decide +kernel
theorem dL_law_159 : decode cL_law 159 = .ok (.aload_n 2, 1) := by decide +kernel
theorem dL_law_160 : decode cL_law 160 = .ok (.invokevirtual 100, 3) := by decide +kernel
theorem dL_law_163 : decode cL_law 163 = .ok (.istore 6, 2) := by decide +kernel
theorem dL_law_165 : decode cL_law 165 = .ok (.aload_n 2, 1) := by decide +kernel
theorem dL_law_166 : decode cL_law 166 = .ok (.invokevirtual 101, 3) := by decide +kernel
theorem dL_law_169 : decode cL_law 169 = .ok (.iload 5, 2) := by decide +kernel
theorem dL_law_171 : decode cL_law 171 = .ok (.if_icmp .eq 5, 3) := by decide +kernel
theorem dL_law_174 : decode cL_law 174 = .ok (.iconst 0, 1) := by decide +kernel
theorem dL_law_175 : decode cL_law 175 = .ok (.ireturn, 1) := by decide +kernel
theorem dL_law_176 : decode cL_law 176 = .ok (.iload 5, 2) := by decide +kernel
theorem dL_law_178 : decode cL_law 178 = .ok (.ifCond .ne 15, 3) := by decide +kernel
theorem dL_law_181 : decode cL_law 181 = .ok (.aload_n 3, 1) := by decide +kernel
theorem dL_law_182 : decode cL_law 182 = .ok (.iconst 0, 1) := by decide +kernel
theorem dL_law_183 : decode cL_law 183 = .ok (.laload, 1) := by decide +kernel
theorem dL_law_184 : decode cL_law 184 = .ok (.iload 6, 2) := by decide +kernel
theorem dL_law_186 : decode cL_law 186 = .ok (.i2l, 1) := by decide +kernel
theorem dL_law_187 : decode cL_law 187 = .ok (.lcmp, 1) := by decide +kernel
theorem dL_law_188 : decode cL_law 188 = .ok (.ifCond .eq 5, 3) := by decide +kernel
theorem dL_law_191 : decode cL_law 191 = .ok (.iconst 0, 1) := by decide +kernel
theorem dL_law_192 : decode cL_law 192 = .ok (.ireturn, 1) := by decide +kernel
theorem dL_law_193 : decode cL_law 193 = .ok (.goto 1515, 3) := by decide +kernel
theorem dL_law_196 : decode cL_law 196 = .ok (.aload_n 1, 1) := by decide +kernel
theorem dL_law_197 : decode cL_law 197 = .ok (.aload_n 0, 1) := by decide +kernel
theorem dL_law_198 : decode cL_law 198 = .ok (.iload 4, 2) := by decide +kernel
theorem dL_law_200 : decode cL_law 200 = .ok (.iconst 1, 1) := by decide +kernel
theorem dL_law_201 : decode cL_law 201 = .ok (.iadd, 1) := by decide +kernel
theorem dL_law_202 : decode cL_law 202 = .ok (.iaload, 1) := by decide +kernel
theorem dL_law_203 : decode cL_law 203 = .ok (.ifCond .eq 7, 3) := by decide +kernel
theorem dL_law_206 : decode cL_law 206 = .ok (.iconst 1, 1) := by decide +kernel
theorem dL_law_207 : decode cL_law 207 = .ok (.goto 4, 3) := by decide +kernel
theorem dL_law_210 : decode cL_law 210 = .ok (.iconst 0, 1) := by decide +kernel
theorem dL_law_211 : decode cL_law 211 = .ok (.aload_n 3, 1) := by decide +kernel
theorem dL_law_212 : decode cL_law 212 = .ok (.invokestatic 104, 3) := by decide +kernel
theorem dL_law_215 : decode cL_law 215 = .ok (.istore 5, 2) := by decide +kernel
theorem dL_law_217 : decode cL_law 217 = .ok (.aload_n 2, 1) := by decide +kernel
theorem dL_law_218 : decode cL_law 218 = .ok (.aload_n 0, 1) := by decide +kernel
theorem dL_law_219 : decode cL_law 219 = .ok (.iload 4, 2) := by decide +kernel
theorem dL_law_221 : decode cL_law 221 = .ok (.iconst 1, 1) := by decide +kernel
theorem dL_law_222 : decode cL_law 222 = .ok (.iadd, 1) := by decide +kernel
theorem dL_law_223 : decode cL_law 223 = .ok (.iaload, 1) := by decide +kernel
theorem dL_law_224 : decode cL_law 224 = .ok (.ifCond .eq 7, 3) := by decide +kernel
theorem dL_law_227 : decode cL_law 227 = .ok (.iconst 1, 1) := by decide +kernel
theorem dL_law_228 : decode cL_law 228 = .ok (.goto 4, 3) := by decide +kernel
theorem dL_law_231 : decode cL_law 231 = .ok (.iconst 0, 1) := by decide +kernel
theorem dL_law_232 : decode cL_law 232 = .ok (.invokevirtual 107, 3) := by decide +kernel
theorem dL_law_235 : decode cL_law 235 = .ok (.istore 6, 2) := by decide +kernel
theorem dL_law_237 : decode cL_law 237 = .ok (.aload_n 2, 1) := by decide +kernel
theorem dL_law_238 : decode cL_law 238 = .ok (.invokevirtual 101, 3) := by decide +kernel
theorem dL_law_241 : decode cL_law 241 = .ok (.iload 5, 2) := by decide +kernel
theorem dL_law_243 : decode cL_law 243 = .ok (.if_icmp .eq 5, 3) := by decide +kernel
theorem dL_law_246 : decode cL_law 246 = .ok (.iconst 0, 1) := by decide +kernel
theorem dL_law_247 : decode cL_law 247 = .ok (.ireturn, 1) := by decide +kernel
theorem dL_law_248 : decode cL_law 248 = .ok (.iload 5, 2) := by decide +kernel
theorem dL_law_250 : decode cL_law 250 = .ok (.ifCond .ne 15, 3) := by decide +kernel
theorem dL_law_253 : decode cL_law 253 = .ok (.aload_n 3, 1) := by decide +kernel
theorem dL_law_254 : decode cL_law 254 = .ok (.iconst 0, 1) := by decide +kernel
theorem dL_law_255 : decode cL_law 255 = .ok (.laload, 1) := by decide +kernel
theorem dL_law_256 : decode cL_law 256 = .ok (.iload 6, 2) := by decide +kernel
theorem dL_law_258 : decode cL_law 258 = .ok (.i2l, 1) := by decide +kernel
theorem dL_law_259 : decode cL_law 259 = .ok (.lcmp, 1) := by decide +kernel
theorem dL_law_260 : decode cL_law 260 = .ok (.ifCond .eq 5, 3) := by decide +kernel
theorem dL_law_263 : decode cL_law 263 = .ok (.iconst 0, 1) := by decide +kernel
theorem dL_law_264 : decode cL_law 264 = .ok (.ireturn, 1) := by decide +kernel
theorem dL_law_265 : decode cL_law 265 = .ok (.goto 1443, 3) := by decide +kernel
theorem dL_law_268 : decode cL_law 268 = .ok (.aload_n 1, 1) := by decide +kernel
theorem dL_law_269 : decode cL_law 269 = .ok (.aload_n 0, 1) := by decide +kernel
theorem dL_law_270 : decode cL_law 270 = .ok (.iload 4, 2) := by decide +kernel
theorem dL_law_272 : decode cL_law 272 = .ok (.iconst 1, 1) := by decide +kernel
theorem dL_law_273 : decode cL_law 273 = .ok (.iadd, 1) := by decide +kernel
theorem dL_law_274 : decode cL_law 274 = .ok (.iaload, 1) := by decide +kernel
theorem dL_law_275 : decode cL_law 275 = .ok (.aload_n 0, 1) := by decide +kernel
theorem dL_law_276 : decode cL_law 276 = .ok (.iload 4, 2) := by decide +kernel
theorem dL_law_278 : decode cL_law 278 = .ok (.iconst 2, 1) := by decide +kernel
theorem dL_law_279 : decode cL_law 279 = .ok (.iadd, 1) := by decide +kernel
theorem dL_law_280 : decode cL_law 280 = .ok (.iaload, 1) := by decide +kernel
theorem dL_law_281 : decode cL_law 281 = .ok (.aload_n 0, 1) := by decide +kernel
theorem dL_law_282 : decode cL_law 282 = .ok (.iload 4, 2) := by decide +kernel
theorem dL_law_284 : decode cL_law 284 = .ok (.iconst 3, 1) := by decide +kernel
theorem dL_law_285 : decode cL_law 285 = .ok (.iadd, 1) := by decide +kernel
theorem dL_law_286 : decode cL_law 286 = .ok (.iaload, 1) := by decide +kernel
theorem dL_law_287 : decode cL_law 287 = .ok (.ifCond .eq 7, 3) := by decide +kernel
theorem dL_law_290 : decode cL_law 290 = .ok (.iconst 1, 1) := by decide +kernel
theorem dL_law_291 : decode cL_law 291 = .ok (.goto 4, 3) := by decide +kernel
theorem dL_law_294 : decode cL_law 294 = .ok (.iconst 0, 1) := by decide +kernel
theorem dL_law_295 : decode cL_law 295 = .ok (.aload_n 0, 1) := by decide +kernel
theorem dL_law_296 : decode cL_law 296 = .ok (.iload 4, 2) := by decide +kernel
theorem dL_law_298 : decode cL_law 298 = .ok (.iconst 4, 1) := by decide +kernel
theorem dL_law_299 : decode cL_law 299 = .ok (.iadd, 1) := by decide +kernel
theorem dL_law_300 : decode cL_law 300 = .ok (.iaload, 1) := by decide +kernel
theorem dL_law_301 : decode cL_law 301 = .ok (.invokestatic 108, 3) := by decide +kernel
theorem dL_law_304 : decode cL_law 304 = .ok (.istore 5, 2) := by decide +kernel
theorem dL_law_306 : decode cL_law 306 = .ok (.aload_n 2, 1) := by decide +kernel
theorem dL_law_307 : decode cL_law 307 = .ok (.aload_n 0, 1) := by decide +kernel
theorem dL_law_308 : decode cL_law 308 = .ok (.iload 4, 2) := by decide +kernel
theorem dL_law_310 : decode cL_law 310 = .ok (.iconst 1, 1) := by decide +kernel
theorem dL_law_311 : decode cL_law 311 = .ok (.iadd, 1) := by decide +kernel
theorem dL_law_312 : decode cL_law 312 = .ok (.iaload, 1) := by decide +kernel
theorem dL_law_313 : decode cL_law 313 = .ok (.aload_n 0, 1) := by decide +kernel
theorem dL_law_314 : decode cL_law 314 = .ok (.iload 4, 2) := by decide +kernel
theorem dL_law_316 : decode cL_law 316 = .ok (.iconst 2, 1) := by decide +kernel
theorem dL_law_317 : decode cL_law 317 = .ok (.iadd, 1) := by decide +kernel
theorem dL_law_318 : decode cL_law 318 = .ok (.iaload, 1) := by decide +kernel
theorem dL_law_319 : decode cL_law 319 = .ok (.aload_n 0, 1) := by decide +kernel
theorem dL_law_320 : decode cL_law 320 = .ok (.iload 4, 2) := by decide +kernel
theorem dL_law_322 : decode cL_law 322 = .ok (.iconst 3, 1) := by decide +kernel
theorem dL_law_323 : decode cL_law 323 = .ok (.iadd, 1) := by decide +kernel
theorem dL_law_324 : decode cL_law 324 = .ok (.iaload, 1) := by decide +kernel
theorem dL_law_325 : decode cL_law 325 = .ok (.ifCond .eq 7, 3) := by decide +kernel
theorem dL_law_328 : decode cL_law 328 = .ok (.iconst 1, 1) := by decide +kernel
theorem dL_law_329 : decode cL_law 329 = .ok (.goto 4, 3) := by decide +kernel
theorem dL_law_332 : decode cL_law 332 = .ok (.iconst 0, 1) := by decide +kernel
theorem dL_law_333 : decode cL_law 333 = .ok (.aload_n 0, 1) := by decide +kernel
theorem dL_law_334 : decode cL_law 334 = .ok (.iload 4, 2) := by decide +kernel
theorem dL_law_336 : decode cL_law 336 = .ok (.iconst 4, 1) := by decide +kernel
theorem dL_law_337 : decode cL_law 337 = .ok (.iadd, 1) := by decide +kernel
theorem dL_law_338 : decode cL_law 338 = .ok (.iaload, 1) := by decide +kernel
theorem dL_law_339 : decode cL_law 339 = .ok (.invokevirtual 111, 3) := by decide +kernel
theorem dL_law_342 : decode cL_law 342 = .ok (.aload_n 2, 1) := by decide +kernel
theorem dL_law_343 : decode cL_law 343 = .ok (.invokevirtual 101, 3) := by decide +kernel
theorem dL_law_346 : decode cL_law 346 = .ok (.iload 5, 2) := by decide +kernel
theorem dL_law_348 : decode cL_law 348 = .ok (.if_icmp .eq 5, 3) := by decide +kernel
theorem dL_law_351 : decode cL_law 351 = .ok (.iconst 0, 1) := by decide +kernel
theorem dL_law_352 : decode cL_law 352 = .ok (.ireturn, 1) := by decide +kernel
theorem dL_law_353 : decode cL_law 353 = .ok (.goto 1355, 3) := by decide +kernel
theorem dL_law_356 : decode cL_law 356 = .ok (.aload_n 1, 1) := by decide +kernel
theorem dL_law_357 : decode cL_law 357 = .ok (.aload_n 0, 1) := by decide +kernel
theorem dL_law_358 : decode cL_law 358 = .ok (.iload 4, 2) := by decide +kernel
theorem dL_law_360 : decode cL_law 360 = .ok (.iconst 1, 1) := by decide +kernel
theorem dL_law_361 : decode cL_law 361 = .ok (.iadd, 1) := by decide +kernel
theorem dL_law_362 : decode cL_law 362 = .ok (.iaload, 1) := by decide +kernel
theorem dL_law_363 : decode cL_law 363 = .ok (.aload_n 0, 1) := by decide +kernel
theorem dL_law_364 : decode cL_law 364 = .ok (.iload 4, 2) := by decide +kernel
theorem dL_law_366 : decode cL_law 366 = .ok (.iconst 2, 1) := by decide +kernel
theorem dL_law_367 : decode cL_law 367 = .ok (.iadd, 1) := by decide +kernel
theorem dL_law_368 : decode cL_law 368 = .ok (.iaload, 1) := by decide +kernel
theorem dL_law_369 : decode cL_law 369 = .ok (.aload_n 0, 1) := by decide +kernel
theorem dL_law_370 : decode cL_law 370 = .ok (.iload 4, 2) := by decide +kernel
theorem dL_law_372 : decode cL_law 372 = .ok (.iconst 3, 1) := by decide +kernel
theorem dL_law_373 : decode cL_law 373 = .ok (.iadd, 1) := by decide +kernel
theorem dL_law_374 : decode cL_law 374 = .ok (.iaload, 1) := by decide +kernel
theorem dL_law_375 : decode cL_law 375 = .ok (.aload_n 0, 1) := by decide +kernel
theorem dL_law_376 : decode cL_law 376 = .ok (.iload 4, 2) := by decide +kernel
theorem dL_law_378 : decode cL_law 378 = .ok (.iconst 4, 1) := by decide +kernel
theorem dL_law_379 : decode cL_law 379 = .ok (.iadd, 1) := by decide +kernel
theorem dL_law_380 : decode cL_law 380 = .ok (.iaload, 1) := by decide +kernel
theorem dL_law_381 : decode cL_law 381 = .ok (.aload_n 3, 1) := by decide +kernel
theorem dL_law_382 : decode cL_law 382 = .ok (.invokestatic 112, 3) := by decide +kernel
theorem dL_law_385 : decode cL_law 385 = .ok (.istore 5, 2) := by decide +kernel
theorem dL_law_387 : decode cL_law 387 = .ok (.aload_n 2, 1) := by decide +kernel
theorem dL_law_388 : decode cL_law 388 = .ok (.aload_n 0, 1) := by decide +kernel
theorem dL_law_389 : decode cL_law 389 = .ok (.iload 4, 2) := by decide +kernel
theorem dL_law_391 : decode cL_law 391 = .ok (.iconst 1, 1) := by decide +kernel
theorem dL_law_392 : decode cL_law 392 = .ok (.iadd, 1) := by decide +kernel
theorem dL_law_393 : decode cL_law 393 = .ok (.iaload, 1) := by decide +kernel
theorem dL_law_394 : decode cL_law 394 = .ok (.aload_n 0, 1) := by decide +kernel
theorem dL_law_395 : decode cL_law 395 = .ok (.iload 4, 2) := by decide +kernel
theorem dL_law_397 : decode cL_law 397 = .ok (.iconst 2, 1) := by decide +kernel
theorem dL_law_398 : decode cL_law 398 = .ok (.iadd, 1) := by decide +kernel
theorem dL_law_399 : decode cL_law 399 = .ok (.iaload, 1) := by decide +kernel
theorem dL_law_400 : decode cL_law 400 = .ok (.aload_n 0, 1) := by decide +kernel
theorem dL_law_401 : decode cL_law 401 = .ok (.iload 4, 2) := by decide +kernel
theorem dL_law_403 : decode cL_law 403 = .ok (.iconst 3, 1) := by decide +kernel
theorem dL_law_404 : decode cL_law 404 = .ok (.iadd, 1) := by decide +kernel
theorem dL_law_405 : decode cL_law 405 = .ok (.iaload, 1) := by decide +kernel
theorem dL_law_406 : decode cL_law 406 = .ok (.aload_n 0, 1) := by decide +kernel
theorem dL_law_407 : decode cL_law 407 = .ok (.iload 4, 2) := by decide +kernel
theorem dL_law_409 : decode cL_law 409 = .ok (.iconst 4, 1) := by decide +kernel
theorem dL_law_410 : decode cL_law 410 = .ok (.iadd, 1) := by decide +kernel
theorem dL_law_411 : decode cL_law 411 = .ok (.iaload, 1) := by decide +kernel
theorem dL_law_412 : decode cL_law 412 = .ok (.invokevirtual 115, 3) := by decide +kernel
theorem dL_law_415 : decode cL_law 415 = .ok (.istore 6, 2) := by decide +kernel
theorem dL_law_417 : decode cL_law 417 = .ok (.aload_n 2, 1) := by decide +kernel
theorem dL_law_418 : decode cL_law 418 = .ok (.invokevirtual 101, 3) := by decide +kernel
theorem dL_law_421 : decode cL_law 421 = .ok (.iload 5, 2) := by decide +kernel
theorem dL_law_423 : decode cL_law 423 = .ok (.if_icmp .eq 5, 3) := by decide +kernel
theorem dL_law_426 : decode cL_law 426 = .ok (.iconst 0, 1) := by decide +kernel
theorem dL_law_427 : decode cL_law 427 = .ok (.ireturn, 1) := by decide +kernel
theorem dL_law_428 : decode cL_law 428 = .ok (.iload 5, 2) := by decide +kernel
theorem dL_law_430 : decode cL_law 430 = .ok (.ifCond .ne 15, 3) := by decide +kernel
theorem dL_law_433 : decode cL_law 433 = .ok (.aload_n 3, 1) := by decide +kernel
theorem dL_law_434 : decode cL_law 434 = .ok (.iconst 0, 1) := by decide +kernel
theorem dL_law_435 : decode cL_law 435 = .ok (.laload, 1) := by decide +kernel
theorem dL_law_436 : decode cL_law 436 = .ok (.iload 6, 2) := by decide +kernel
theorem dL_law_438 : decode cL_law 438 = .ok (.i2l, 1) := by decide +kernel
theorem dL_law_439 : decode cL_law 439 = .ok (.lcmp, 1) := by decide +kernel
theorem dL_law_440 : decode cL_law 440 = .ok (.ifCond .eq 5, 3) := by decide +kernel
theorem dL_law_443 : decode cL_law 443 = .ok (.iconst 0, 1) := by decide +kernel
theorem dL_law_444 : decode cL_law 444 = .ok (.ireturn, 1) := by decide +kernel
theorem dL_law_445 : decode cL_law 445 = .ok (.goto 1263, 3) := by decide +kernel
theorem dL_law_448 : decode cL_law 448 = .ok (.aload_n 1, 1) := by decide +kernel
theorem dL_law_449 : decode cL_law 449 = .ok (.aload_n 0, 1) := by decide +kernel
theorem dL_law_450 : decode cL_law 450 = .ok (.iload 4, 2) := by decide +kernel
theorem dL_law_452 : decode cL_law 452 = .ok (.iconst 1, 1) := by decide +kernel
theorem dL_law_453 : decode cL_law 453 = .ok (.iadd, 1) := by decide +kernel
theorem dL_law_454 : decode cL_law 454 = .ok (.iaload, 1) := by decide +kernel
theorem dL_law_455 : decode cL_law 455 = .ok (.aload_n 0, 1) := by decide +kernel
theorem dL_law_456 : decode cL_law 456 = .ok (.iload 4, 2) := by decide +kernel
theorem dL_law_458 : decode cL_law 458 = .ok (.iconst 2, 1) := by decide +kernel
theorem dL_law_459 : decode cL_law 459 = .ok (.iadd, 1) := by decide +kernel
theorem dL_law_460 : decode cL_law 460 = .ok (.iaload, 1) := by decide +kernel
theorem dL_law_461 : decode cL_law 461 = .ok (.aload_n 3, 1) := by decide +kernel
theorem dL_law_462 : decode cL_law 462 = .ok (.invokestatic 116, 3) := by decide +kernel
theorem dL_law_465 : decode cL_law 465 = .ok (.istore 5, 2) := by decide +kernel
theorem dL_law_467 : decode cL_law 467 = .ok (.aload_n 2, 1) := by decide +kernel
theorem dL_law_468 : decode cL_law 468 = .ok (.aload_n 0, 1) := by decide +kernel
theorem dL_law_469 : decode cL_law 469 = .ok (.iload 4, 2) := by decide +kernel
theorem dL_law_471 : decode cL_law 471 = .ok (.iconst 1, 1) := by decide +kernel
theorem dL_law_472 : decode cL_law 472 = .ok (.iadd, 1) := by decide +kernel
theorem dL_law_473 : decode cL_law 473 = .ok (.iaload, 1) := by decide +kernel
theorem dL_law_474 : decode cL_law 474 = .ok (.aload_n 0, 1) := by decide +kernel
theorem dL_law_475 : decode cL_law 475 = .ok (.iload 4, 2) := by decide +kernel
theorem dL_law_477 : decode cL_law 477 = .ok (.iconst 2, 1) := by decide +kernel
theorem dL_law_478 : decode cL_law 478 = .ok (.iadd, 1) := by decide +kernel
theorem dL_law_479 : decode cL_law 479 = .ok (.iaload, 1) := by decide +kernel
theorem dL_law_480 : decode cL_law 480 = .ok (.invokevirtual 119, 3) := by decide +kernel
theorem dL_law_483 : decode cL_law 483 = .ok (.istore 6, 2) := by decide +kernel
theorem dL_law_485 : decode cL_law 485 = .ok (.aload_n 2, 1) := by decide +kernel
theorem dL_law_486 : decode cL_law 486 = .ok (.invokevirtual 101, 3) := by decide +kernel
theorem dL_law_489 : decode cL_law 489 = .ok (.iload 5, 2) := by decide +kernel
theorem dL_law_491 : decode cL_law 491 = .ok (.if_icmp .eq 5, 3) := by decide +kernel
theorem dL_law_494 : decode cL_law 494 = .ok (.iconst 0, 1) := by decide +kernel
theorem dL_law_495 : decode cL_law 495 = .ok (.ireturn, 1) := by decide +kernel
theorem dL_law_496 : decode cL_law 496 = .ok (.iload 5, 2) := by decide +kernel
theorem dL_law_498 : decode cL_law 498 = .ok (.ifCond .ne 15, 3) := by decide +kernel
theorem dL_law_501 : decode cL_law 501 = .ok (.aload_n 3, 1) := by decide +kernel
theorem dL_law_502 : decode cL_law 502 = .ok (.iconst 0, 1) := by decide +kernel
theorem dL_law_503 : decode cL_law 503 = .ok (.laload, 1) := by decide +kernel
theorem dL_law_504 : decode cL_law 504 = .ok (.iload 6, 2) := by decide +kernel
theorem dL_law_506 : decode cL_law 506 = .ok (.i2l, 1) := by decide +kernel
theorem dL_law_507 : decode cL_law 507 = .ok (.lcmp, 1) := by decide +kernel
theorem dL_law_508 : decode cL_law 508 = .ok (.ifCond .eq 5, 3) := by decide +kernel
theorem dL_law_511 : decode cL_law 511 = .ok (.iconst 0, 1) := by decide +kernel
theorem dL_law_512 : decode cL_law 512 = .ok (.ireturn, 1) := by decide +kernel
theorem dL_law_513 : decode cL_law 513 = .ok (.goto 1195, 3) := by decide +kernel
theorem dL_law_516 : decode cL_law 516 = .ok (.aload_n 1, 1) := by decide +kernel
theorem dL_law_517 : decode cL_law 517 = .ok (.aload_n 0, 1) := by decide +kernel
theorem dL_law_518 : decode cL_law 518 = .ok (.iload 4, 2) := by decide +kernel
theorem dL_law_520 : decode cL_law 520 = .ok (.iconst 1, 1) := by decide +kernel
theorem dL_law_521 : decode cL_law 521 = .ok (.iadd, 1) := by decide +kernel
theorem dL_law_522 : decode cL_law 522 = .ok (.iaload, 1) := by decide +kernel
theorem dL_law_523 : decode cL_law 523 = .ok (.aload_n 0, 1) := by decide +kernel
theorem dL_law_524 : decode cL_law 524 = .ok (.iload 4, 2) := by decide +kernel
theorem dL_law_526 : decode cL_law 526 = .ok (.iconst 2, 1) := by decide +kernel
theorem dL_law_527 : decode cL_law 527 = .ok (.iadd, 1) := by decide +kernel
theorem dL_law_528 : decode cL_law 528 = .ok (.iaload, 1) := by decide +kernel
theorem dL_law_529 : decode cL_law 529 = .ok (.ifCond .eq 7, 3) := by decide +kernel
theorem dL_law_532 : decode cL_law 532 = .ok (.iconst 1, 1) := by decide +kernel
theorem dL_law_533 : decode cL_law 533 = .ok (.goto 4, 3) := by decide +kernel
theorem dL_law_536 : decode cL_law 536 = .ok (.iconst 0, 1) := by decide +kernel
theorem dL_law_537 : decode cL_law 537 = .ok (.aload_n 3, 1) := by decide +kernel
theorem dL_law_538 : decode cL_law 538 = .ok (.invokestatic 120, 3) := by decide +kernel
theorem dL_law_541 : decode cL_law 541 = .ok (.istore 5, 2) := by decide +kernel
theorem dL_law_543 : decode cL_law 543 = .ok (.aload_n 2, 1) := by decide +kernel
theorem dL_law_544 : decode cL_law 544 = .ok (.aload_n 0, 1) := by decide +kernel
theorem dL_law_545 : decode cL_law 545 = .ok (.iload 4, 2) := by decide +kernel
theorem dL_law_547 : decode cL_law 547 = .ok (.iconst 1, 1) := by decide +kernel
theorem dL_law_548 : decode cL_law 548 = .ok (.iadd, 1) := by decide +kernel
theorem dL_law_549 : decode cL_law 549 = .ok (.iaload, 1) := by decide +kernel
theorem dL_law_550 : decode cL_law 550 = .ok (.aload_n 0, 1) := by decide +kernel
theorem dL_law_551 : decode cL_law 551 = .ok (.iload 4, 2) := by decide +kernel
theorem dL_law_553 : decode cL_law 553 = .ok (.iconst 2, 1) := by decide +kernel
theorem dL_law_554 : decode cL_law 554 = .ok (.iadd, 1) := by decide +kernel
theorem dL_law_555 : decode cL_law 555 = .ok (.iaload, 1) := by decide +kernel
theorem dL_law_556 : decode cL_law 556 = .ok (.ifCond .eq 7, 3) := by decide +kernel
theorem dL_law_559 : decode cL_law 559 = .ok (.iconst 1, 1) := by decide +kernel
theorem dL_law_560 : decode cL_law 560 = .ok (.goto 4, 3) := by decide +kernel
theorem dL_law_563 : decode cL_law 563 = .ok (.iconst 0, 1) := by decide +kernel
theorem dL_law_564 : decode cL_law 564 = .ok (.invokevirtual 123, 3) := by decide +kernel
theorem dL_law_567 : decode cL_law 567 = .ok (.lstore 6, 2) := by decide +kernel
theorem dL_law_569 : decode cL_law 569 = .ok (.aload_n 2, 1) := by decide +kernel
theorem dL_law_570 : decode cL_law 570 = .ok (.invokevirtual 101, 3) := by decide +kernel
theorem dL_law_573 : decode cL_law 573 = .ok (.iload 5, 2) := by decide +kernel
theorem dL_law_575 : decode cL_law 575 = .ok (.if_icmp .eq 5, 3) := by decide +kernel
theorem dL_law_578 : decode cL_law 578 = .ok (.iconst 0, 1) := by decide +kernel
theorem dL_law_579 : decode cL_law 579 = .ok (.ireturn, 1) := by decide +kernel
theorem dL_law_580 : decode cL_law 580 = .ok (.iload 5, 2) := by decide +kernel
theorem dL_law_582 : decode cL_law 582 = .ok (.ifCond .ne 14, 3) := by decide +kernel
theorem dL_law_585 : decode cL_law 585 = .ok (.aload_n 3, 1) := by decide +kernel
theorem dL_law_586 : decode cL_law 586 = .ok (.iconst 0, 1) := by decide +kernel
theorem dL_law_587 : decode cL_law 587 = .ok (.laload, 1) := by decide +kernel
theorem dL_law_588 : decode cL_law 588 = .ok (.lload 6, 2) := by decide +kernel
theorem dL_law_590 : decode cL_law 590 = .ok (.lcmp, 1) := by decide +kernel
theorem dL_law_591 : decode cL_law 591 = .ok (.ifCond .eq 5, 3) := by decide +kernel
theorem dL_law_594 : decode cL_law 594 = .ok (.iconst 0, 1) := by decide +kernel
theorem dL_law_595 : decode cL_law 595 = .ok (.ireturn, 1) := by decide +kernel
theorem dL_law_596 : decode cL_law 596 = .ok (.goto 1112, 3) := by decide +kernel
theorem dL_law_599 : decode cL_law 599 = .ok (.aload_n 1, 1) := by decide +kernel
theorem dL_law_600 : decode cL_law 600 = .ok (.aload_n 0, 1) := by decide +kernel
theorem dL_law_601 : decode cL_law 601 = .ok (.iload 4, 2) := by decide +kernel
theorem dL_law_603 : decode cL_law 603 = .ok (.iconst 1, 1) := by decide +kernel
theorem dL_law_604 : decode cL_law 604 = .ok (.iadd, 1) := by decide +kernel
theorem dL_law_605 : decode cL_law 605 = .ok (.iaload, 1) := by decide +kernel
theorem dL_law_606 : decode cL_law 606 = .ok (.aload_n 0, 1) := by decide +kernel
theorem dL_law_607 : decode cL_law 607 = .ok (.iload 4, 2) := by decide +kernel
theorem dL_law_609 : decode cL_law 609 = .ok (.iconst 2, 1) := by decide +kernel
theorem dL_law_610 : decode cL_law 610 = .ok (.iadd, 1) := by decide +kernel
theorem dL_law_611 : decode cL_law 611 = .ok (.iaload, 1) := by decide +kernel
theorem dL_law_612 : decode cL_law 612 = .ok (.ifCond .eq 7, 3) := by decide +kernel
theorem dL_law_615 : decode cL_law 615 = .ok (.iconst 1, 1) := by decide +kernel
theorem dL_law_616 : decode cL_law 616 = .ok (.goto 4, 3) := by decide +kernel
theorem dL_law_619 : decode cL_law 619 = .ok (.iconst 0, 1) := by decide +kernel
theorem dL_law_620 : decode cL_law 620 = .ok (.aload_n 0, 1) := by decide +kernel
theorem dL_law_621 : decode cL_law 621 = .ok (.iload 4, 2) := by decide +kernel
theorem dL_law_623 : decode cL_law 623 = .ok (.iconst 3, 1) := by decide +kernel
theorem dL_law_624 : decode cL_law 624 = .ok (.iadd, 1) := by decide +kernel
theorem dL_law_625 : decode cL_law 625 = .ok (.iaload, 1) := by decide +kernel
theorem dL_law_626 : decode cL_law 626 = .ok (.aload_n 3, 1) := by decide +kernel
theorem dL_law_627 : decode cL_law 627 = .ok (.invokestatic 124, 3) := by decide +kernel
theorem dL_law_630 : decode cL_law 630 = .ok (.istore 5, 2) := by decide +kernel
theorem dL_law_632 : decode cL_law 632 = .ok (.aload_n 2, 1) := by decide +kernel
theorem dL_law_633 : decode cL_law 633 = .ok (.aload_n 0, 1) := by decide +kernel
theorem dL_law_634 : decode cL_law 634 = .ok (.iload 4, 2) := by decide +kernel
theorem dL_law_636 : decode cL_law 636 = .ok (.iconst 1, 1) := by decide +kernel
theorem dL_law_637 : decode cL_law 637 = .ok (.iadd, 1) := by decide +kernel
theorem dL_law_638 : decode cL_law 638 = .ok (.iaload, 1) := by decide +kernel
theorem dL_law_639 : decode cL_law 639 = .ok (.aload_n 0, 1) := by decide +kernel
theorem dL_law_640 : decode cL_law 640 = .ok (.iload 4, 2) := by decide +kernel
theorem dL_law_642 : decode cL_law 642 = .ok (.iconst 2, 1) := by decide +kernel
theorem dL_law_643 : decode cL_law 643 = .ok (.iadd, 1) := by decide +kernel
theorem dL_law_644 : decode cL_law 644 = .ok (.iaload, 1) := by decide +kernel
theorem dL_law_645 : decode cL_law 645 = .ok (.ifCond .eq 7, 3) := by decide +kernel
theorem dL_law_648 : decode cL_law 648 = .ok (.iconst 1, 1) := by decide +kernel
theorem dL_law_649 : decode cL_law 649 = .ok (.goto 4, 3) := by decide +kernel
theorem dL_law_652 : decode cL_law 652 = .ok (.iconst 0, 1) := by decide +kernel
theorem dL_law_653 : decode cL_law 653 = .ok (.aload_n 0, 1) := by decide +kernel
theorem dL_law_654 : decode cL_law 654 = .ok (.iload 4, 2) := by decide +kernel
theorem dL_law_656 : decode cL_law 656 = .ok (.iconst 3, 1) := by decide +kernel
theorem dL_law_657 : decode cL_law 657 = .ok (.iadd, 1) := by decide +kernel
theorem dL_law_658 : decode cL_law 658 = .ok (.iaload, 1) := by decide +kernel
theorem dL_law_659 : decode cL_law 659 = .ok (.invokevirtual 127, 3) := by decide +kernel
theorem dL_law_662 : decode cL_law 662 = .ok (.istore 6, 2) := by decide +kernel
theorem dL_law_664 : decode cL_law 664 = .ok (.aload_n 2, 1) := by decide +kernel
theorem dL_law_665 : decode cL_law 665 = .ok (.invokevirtual 101, 3) := by decide +kernel
theorem dL_law_668 : decode cL_law 668 = .ok (.iload 5, 2) := by decide +kernel
theorem dL_law_670 : decode cL_law 670 = .ok (.if_icmp .eq 5, 3) := by decide +kernel
theorem dL_law_673 : decode cL_law 673 = .ok (.iconst 0, 1) := by decide +kernel
theorem dL_law_674 : decode cL_law 674 = .ok (.ireturn, 1) := by decide +kernel
theorem dL_law_675 : decode cL_law 675 = .ok (.iload 5, 2) := by decide +kernel
theorem dL_law_677 : decode cL_law 677 = .ok (.ifCond .ne 15, 3) := by decide +kernel
theorem dL_law_680 : decode cL_law 680 = .ok (.aload_n 3, 1) := by decide +kernel
theorem dL_law_681 : decode cL_law 681 = .ok (.iconst 0, 1) := by decide +kernel
theorem dL_law_682 : decode cL_law 682 = .ok (.laload, 1) := by decide +kernel
theorem dL_law_683 : decode cL_law 683 = .ok (.iload 6, 2) := by decide +kernel
theorem dL_law_685 : decode cL_law 685 = .ok (.i2l, 1) := by decide +kernel
theorem dL_law_686 : decode cL_law 686 = .ok (.lcmp, 1) := by decide +kernel
theorem dL_law_687 : decode cL_law 687 = .ok (.ifCond .eq 5, 3) := by decide +kernel
theorem dL_law_690 : decode cL_law 690 = .ok (.iconst 0, 1) := by decide +kernel
theorem dL_law_691 : decode cL_law 691 = .ok (.ireturn, 1) := by decide +kernel
theorem dL_law_692 : decode cL_law 692 = .ok (.goto 1016, 3) := by decide +kernel
theorem dL_law_695 : decode cL_law 695 = .ok (.aload_n 1, 1) := by decide +kernel
theorem dL_law_696 : decode cL_law 696 = .ok (.aload_n 0, 1) := by decide +kernel
theorem dL_law_697 : decode cL_law 697 = .ok (.iload 4, 2) := by decide +kernel
theorem dL_law_699 : decode cL_law 699 = .ok (.iconst 1, 1) := by decide +kernel
theorem dL_law_700 : decode cL_law 700 = .ok (.iadd, 1) := by decide +kernel
theorem dL_law_701 : decode cL_law 701 = .ok (.iaload, 1) := by decide +kernel
theorem dL_law_702 : decode cL_law 702 = .ok (.aload_n 0, 1) := by decide +kernel
theorem dL_law_703 : decode cL_law 703 = .ok (.iload 4, 2) := by decide +kernel
theorem dL_law_705 : decode cL_law 705 = .ok (.iconst 2, 1) := by decide +kernel
theorem dL_law_706 : decode cL_law 706 = .ok (.iadd, 1) := by decide +kernel
theorem dL_law_707 : decode cL_law 707 = .ok (.iaload, 1) := by decide +kernel
theorem dL_law_708 : decode cL_law 708 = .ok (.aload_n 3, 1) := by decide +kernel
theorem dL_law_709 : decode cL_law 709 = .ok (.invokestatic 128, 3) := by decide +kernel
theorem dL_law_712 : decode cL_law 712 = .ok (.istore 5, 2) := by decide +kernel
theorem dL_law_714 : decode cL_law 714 = .ok (.aload_n 2, 1) := by decide +kernel
theorem dL_law_715 : decode cL_law 715 = .ok (.aload_n 0, 1) := by decide +kernel
theorem dL_law_716 : decode cL_law 716 = .ok (.iload 4, 2) := by decide +kernel
theorem dL_law_718 : decode cL_law 718 = .ok (.iconst 1, 1) := by decide +kernel
theorem dL_law_719 : decode cL_law 719 = .ok (.iadd, 1) := by decide +kernel
theorem dL_law_720 : decode cL_law 720 = .ok (.iaload, 1) := by decide +kernel
theorem dL_law_721 : decode cL_law 721 = .ok (.aload_n 0, 1) := by decide +kernel
theorem dL_law_722 : decode cL_law 722 = .ok (.iload 4, 2) := by decide +kernel
theorem dL_law_724 : decode cL_law 724 = .ok (.iconst 2, 1) := by decide +kernel
theorem dL_law_725 : decode cL_law 725 = .ok (.iadd, 1) := by decide +kernel
theorem dL_law_726 : decode cL_law 726 = .ok (.iaload, 1) := by decide +kernel
theorem dL_law_727 : decode cL_law 727 = .ok (.invokevirtual 130, 3) := by decide +kernel
theorem dL_law_730 : decode cL_law 730 = .ok (.istore 6, 2) := by decide +kernel
theorem dL_law_732 : decode cL_law 732 = .ok (.aload_n 2, 1) := by decide +kernel
theorem dL_law_733 : decode cL_law 733 = .ok (.invokevirtual 101, 3) := by decide +kernel
theorem dL_law_736 : decode cL_law 736 = .ok (.iload 5, 2) := by decide +kernel
theorem dL_law_738 : decode cL_law 738 = .ok (.if_icmp .eq 5, 3) := by decide +kernel
theorem dL_law_741 : decode cL_law 741 = .ok (.iconst 0, 1) := by decide +kernel
theorem dL_law_742 : decode cL_law 742 = .ok (.ireturn, 1) := by decide +kernel
theorem dL_law_743 : decode cL_law 743 = .ok (.iload 5, 2) := by decide +kernel
theorem dL_law_745 : decode cL_law 745 = .ok (.ifCond .ne 22, 3) := by decide +kernel
theorem dL_law_748 : decode cL_law 748 = .ok (.aload_n 3, 1) := by decide +kernel
theorem dL_law_749 : decode cL_law 749 = .ok (.iconst 0, 1) := by decide +kernel
theorem dL_law_750 : decode cL_law 750 = .ok (.laload, 1) := by decide +kernel
theorem dL_law_751 : decode cL_law 751 = .ok (.iload 6, 2) := by decide +kernel
theorem dL_law_753 : decode cL_law 753 = .ok (.ifCond .eq 7, 3) := by decide +kernel
theorem dL_law_756 : decode cL_law 756 = .ok (.lconst 1, 1) := by decide +kernel
theorem dL_law_757 : decode cL_law 757 = .ok (.goto 4, 3) := by decide +kernel
theorem dL_law_760 : decode cL_law 760 = .ok (.lconst 0, 1) := by decide +kernel
theorem dL_law_761 : decode cL_law 761 = .ok (.lcmp, 1) := by decide +kernel
theorem dL_law_762 : decode cL_law 762 = .ok (.ifCond .eq 5, 3) := by decide +kernel
theorem dL_law_765 : decode cL_law 765 = .ok (.iconst 0, 1) := by decide +kernel
theorem dL_law_766 : decode cL_law 766 = .ok (.ireturn, 1) := by decide +kernel
theorem dL_law_767 : decode cL_law 767 = .ok (.goto 941, 3) := by decide +kernel
theorem dL_law_770 : decode cL_law 770 = .ok (.aload_n 1, 1) := by decide +kernel
theorem dL_law_771 : decode cL_law 771 = .ok (.aload_n 0, 1) := by decide +kernel
theorem dL_law_772 : decode cL_law 772 = .ok (.iload 4, 2) := by decide +kernel
theorem dL_law_774 : decode cL_law 774 = .ok (.iconst 1, 1) := by decide +kernel
theorem dL_law_775 : decode cL_law 775 = .ok (.iadd, 1) := by decide +kernel
theorem dL_law_776 : decode cL_law 776 = .ok (.iaload, 1) := by decide +kernel
theorem dL_law_777 : decode cL_law 777 = .ok (.aload_n 3, 1) := by decide +kernel
theorem dL_law_778 : decode cL_law 778 = .ok (.invokestatic 131, 3) := by decide +kernel
theorem dL_law_781 : decode cL_law 781 = .ok (.istore 5, 2) := by decide +kernel
theorem dL_law_783 : decode cL_law 783 = .ok (.aload_n 2, 1) := by decide +kernel
theorem dL_law_784 : decode cL_law 784 = .ok (.aload_n 0, 1) := by decide +kernel
theorem dL_law_785 : decode cL_law 785 = .ok (.iload 4, 2) := by decide +kernel
theorem dL_law_787 : decode cL_law 787 = .ok (.iconst 1, 1) := by decide +kernel
theorem dL_law_788 : decode cL_law 788 = .ok (.iadd, 1) := by decide +kernel
theorem dL_law_789 : decode cL_law 789 = .ok (.iaload, 1) := by decide +kernel
theorem dL_law_790 : decode cL_law 790 = .ok (.invokevirtual 134, 3) := by decide +kernel
theorem dL_law_793 : decode cL_law 793 = .ok (.istore 6, 2) := by decide +kernel
theorem dL_law_795 : decode cL_law 795 = .ok (.aload_n 2, 1) := by decide +kernel
theorem dL_law_796 : decode cL_law 796 = .ok (.invokevirtual 101, 3) := by decide +kernel
theorem dL_law_799 : decode cL_law 799 = .ok (.iload 5, 2) := by decide +kernel
theorem dL_law_801 : decode cL_law 801 = .ok (.if_icmp .eq 5, 3) := by decide +kernel
theorem dL_law_804 : decode cL_law 804 = .ok (.iconst 0, 1) := by decide +kernel
theorem dL_law_805 : decode cL_law 805 = .ok (.ireturn, 1) := by decide +kernel
theorem dL_law_806 : decode cL_law 806 = .ok (.iload 5, 2) := by decide +kernel
theorem dL_law_808 : decode cL_law 808 = .ok (.ifCond .ne 22, 3) := by decide +kernel
theorem dL_law_811 : decode cL_law 811 = .ok (.aload_n 3, 1) := by decide +kernel
theorem dL_law_812 : decode cL_law 812 = .ok (.iconst 0, 1) := by decide +kernel
theorem dL_law_813 : decode cL_law 813 = .ok (.laload, 1) := by decide +kernel
theorem dL_law_814 : decode cL_law 814 = .ok (.iload 6, 2) := by decide +kernel
theorem dL_law_816 : decode cL_law 816 = .ok (.ifCond .eq 7, 3) := by decide +kernel
theorem dL_law_819 : decode cL_law 819 = .ok (.lconst 1, 1) := by decide +kernel
theorem dL_law_820 : decode cL_law 820 = .ok (.goto 4, 3) := by decide +kernel
theorem dL_law_823 : decode cL_law 823 = .ok (.lconst 0, 1) := by decide +kernel
theorem dL_law_824 : decode cL_law 824 = .ok (.lcmp, 1) := by decide +kernel
theorem dL_law_825 : decode cL_law 825 = .ok (.ifCond .eq 5, 3) := by decide +kernel
theorem dL_law_828 : decode cL_law 828 = .ok (.iconst 0, 1) := by decide +kernel
theorem dL_law_829 : decode cL_law 829 = .ok (.ireturn, 1) := by decide +kernel
theorem dL_law_830 : decode cL_law 830 = .ok (.goto 878, 3) := by decide +kernel
theorem dL_law_833 : decode cL_law 833 = .ok (.aload_n 1, 1) := by decide +kernel
theorem dL_law_834 : decode cL_law 834 = .ok (.aload_n 0, 1) := by decide +kernel
theorem dL_law_835 : decode cL_law 835 = .ok (.iload 4, 2) := by decide +kernel
theorem dL_law_837 : decode cL_law 837 = .ok (.iconst 1, 1) := by decide +kernel
theorem dL_law_838 : decode cL_law 838 = .ok (.iadd, 1) := by decide +kernel
theorem dL_law_839 : decode cL_law 839 = .ok (.iaload, 1) := by decide +kernel
theorem dL_law_840 : decode cL_law 840 = .ok (.aload_n 0, 1) := by decide +kernel
theorem dL_law_841 : decode cL_law 841 = .ok (.iload 4, 2) := by decide +kernel
theorem dL_law_843 : decode cL_law 843 = .ok (.iconst 2, 1) := by decide +kernel
theorem dL_law_844 : decode cL_law 844 = .ok (.iadd, 1) := by decide +kernel
theorem dL_law_845 : decode cL_law 845 = .ok (.iaload, 1) := by decide +kernel
theorem dL_law_846 : decode cL_law 846 = .ok (.aload_n 3, 1) := by decide +kernel
theorem dL_law_847 : decode cL_law 847 = .ok (.invokestatic 135, 3) := by decide +kernel
theorem dL_law_850 : decode cL_law 850 = .ok (.istore 5, 2) := by decide +kernel
theorem dL_law_852 : decode cL_law 852 = .ok (.aload_n 2, 1) := by decide +kernel
theorem dL_law_853 : decode cL_law 853 = .ok (.aload_n 0, 1) := by decide +kernel
theorem dL_law_854 : decode cL_law 854 = .ok (.iload 4, 2) := by decide +kernel
theorem dL_law_856 : decode cL_law 856 = .ok (.iconst 1, 1) := by decide +kernel
theorem dL_law_857 : decode cL_law 857 = .ok (.iadd, 1) := by decide +kernel
theorem dL_law_858 : decode cL_law 858 = .ok (.iaload, 1) := by decide +kernel
theorem dL_law_859 : decode cL_law 859 = .ok (.aload_n 0, 1) := by decide +kernel
theorem dL_law_860 : decode cL_law 860 = .ok (.iload 4, 2) := by decide +kernel
theorem dL_law_862 : decode cL_law 862 = .ok (.iconst 2, 1) := by decide +kernel
theorem dL_law_863 : decode cL_law 863 = .ok (.iadd, 1) := by decide +kernel
theorem dL_law_864 : decode cL_law 864 = .ok (.iaload, 1) := by decide +kernel
theorem dL_law_865 : decode cL_law 865 = .ok (.invokevirtual 137, 3) := by decide +kernel
theorem dL_law_868 : decode cL_law 868 = .ok (.istore 6, 2) := by decide +kernel
theorem dL_law_870 : decode cL_law 870 = .ok (.aload_n 2, 1) := by decide +kernel
theorem dL_law_871 : decode cL_law 871 = .ok (.invokevirtual 101, 3) := by decide +kernel
theorem dL_law_874 : decode cL_law 874 = .ok (.iload 5, 2) := by decide +kernel
theorem dL_law_876 : decode cL_law 876 = .ok (.if_icmp .eq 5, 3) := by decide +kernel
theorem dL_law_879 : decode cL_law 879 = .ok (.iconst 0, 1) := by decide +kernel
theorem dL_law_880 : decode cL_law 880 = .ok (.ireturn, 1) := by decide +kernel
theorem dL_law_881 : decode cL_law 881 = .ok (.iload 5, 2) := by decide +kernel
theorem dL_law_883 : decode cL_law 883 = .ok (.ifCond .ne 22, 3) := by decide +kernel
theorem dL_law_886 : decode cL_law 886 = .ok (.aload_n 3, 1) := by decide +kernel
theorem dL_law_887 : decode cL_law 887 = .ok (.iconst 0, 1) := by decide +kernel
theorem dL_law_888 : decode cL_law 888 = .ok (.laload, 1) := by decide +kernel
theorem dL_law_889 : decode cL_law 889 = .ok (.iload 6, 2) := by decide +kernel
theorem dL_law_891 : decode cL_law 891 = .ok (.ifCond .eq 7, 3) := by decide +kernel
theorem dL_law_894 : decode cL_law 894 = .ok (.lconst 1, 1) := by decide +kernel
theorem dL_law_895 : decode cL_law 895 = .ok (.goto 4, 3) := by decide +kernel
theorem dL_law_898 : decode cL_law 898 = .ok (.lconst 0, 1) := by decide +kernel
theorem dL_law_899 : decode cL_law 899 = .ok (.lcmp, 1) := by decide +kernel
theorem dL_law_900 : decode cL_law 900 = .ok (.ifCond .eq 5, 3) := by decide +kernel
theorem dL_law_903 : decode cL_law 903 = .ok (.iconst 0, 1) := by decide +kernel
theorem dL_law_904 : decode cL_law 904 = .ok (.ireturn, 1) := by decide +kernel
theorem dL_law_905 : decode cL_law 905 = .ok (.goto 803, 3) := by decide +kernel
theorem dL_law_908 : decode cL_law 908 = .ok (.aload_n 1, 1) := by decide +kernel
theorem dL_law_909 : decode cL_law 909 = .ok (.aload_n 0, 1) := by decide +kernel
theorem dL_law_910 : decode cL_law 910 = .ok (.iload 4, 2) := by decide +kernel
theorem dL_law_912 : decode cL_law 912 = .ok (.iconst 1, 1) := by decide +kernel
theorem dL_law_913 : decode cL_law 913 = .ok (.iadd, 1) := by decide +kernel
theorem dL_law_914 : decode cL_law 914 = .ok (.iaload, 1) := by decide +kernel
theorem dL_law_915 : decode cL_law 915 = .ok (.aload_n 0, 1) := by decide +kernel
theorem dL_law_916 : decode cL_law 916 = .ok (.iload 4, 2) := by decide +kernel
theorem dL_law_918 : decode cL_law 918 = .ok (.iconst 2, 1) := by decide +kernel
theorem dL_law_919 : decode cL_law 919 = .ok (.iadd, 1) := by decide +kernel
theorem dL_law_920 : decode cL_law 920 = .ok (.iaload, 1) := by decide +kernel
theorem dL_law_921 : decode cL_law 921 = .ok (.aload_n 0, 1) := by decide +kernel
theorem dL_law_922 : decode cL_law 922 = .ok (.iload 4, 2) := by decide +kernel
theorem dL_law_924 : decode cL_law 924 = .ok (.iconst 3, 1) := by decide +kernel
theorem dL_law_925 : decode cL_law 925 = .ok (.iadd, 1) := by decide +kernel
theorem dL_law_926 : decode cL_law 926 = .ok (.iaload, 1) := by decide +kernel
theorem dL_law_927 : decode cL_law 927 = .ok (.aload_n 3, 1) := by decide +kernel
theorem dL_law_928 : decode cL_law 928 = .ok (.invokestatic 138, 3) := by decide +kernel
theorem dL_law_931 : decode cL_law 931 = .ok (.istore 5, 2) := by decide +kernel
theorem dL_law_933 : decode cL_law 933 = .ok (.aload_n 2, 1) := by decide +kernel
theorem dL_law_934 : decode cL_law 934 = .ok (.aload_n 0, 1) := by decide +kernel
theorem dL_law_935 : decode cL_law 935 = .ok (.iload 4, 2) := by decide +kernel
theorem dL_law_937 : decode cL_law 937 = .ok (.iconst 1, 1) := by decide +kernel
theorem dL_law_938 : decode cL_law 938 = .ok (.iadd, 1) := by decide +kernel
theorem dL_law_939 : decode cL_law 939 = .ok (.iaload, 1) := by decide +kernel
theorem dL_law_940 : decode cL_law 940 = .ok (.aload_n 0, 1) := by decide +kernel
theorem dL_law_941 : decode cL_law 941 = .ok (.iload 4, 2) := by decide +kernel
theorem dL_law_943 : decode cL_law 943 = .ok (.iconst 2, 1) := by decide +kernel
theorem dL_law_944 : decode cL_law 944 = .ok (.iadd, 1) := by decide +kernel
theorem dL_law_945 : decode cL_law 945 = .ok (.iaload, 1) := by decide +kernel
theorem dL_law_946 : decode cL_law 946 = .ok (.aload_n 0, 1) := by decide +kernel
theorem dL_law_947 : decode cL_law 947 = .ok (.iload 4, 2) := by decide +kernel
theorem dL_law_949 : decode cL_law 949 = .ok (.iconst 3, 1) := by decide +kernel
theorem dL_law_950 : decode cL_law 950 = .ok (.iadd, 1) := by decide +kernel
theorem dL_law_951 : decode cL_law 951 = .ok (.iaload, 1) := by decide +kernel
theorem dL_law_952 : decode cL_law 952 = .ok (.invokevirtual 141, 3) := by decide +kernel
theorem dL_law_955 : decode cL_law 955 = .ok (.istore 6, 2) := by decide +kernel
theorem dL_law_957 : decode cL_law 957 = .ok (.aload_n 2, 1) := by decide +kernel
theorem dL_law_958 : decode cL_law 958 = .ok (.invokevirtual 101, 3) := by decide +kernel
theorem dL_law_961 : decode cL_law 961 = .ok (.iload 5, 2) := by decide +kernel
theorem dL_law_963 : decode cL_law 963 = .ok (.if_icmp .eq 5, 3) := by decide +kernel
theorem dL_law_966 : decode cL_law 966 = .ok (.iconst 0, 1) := by decide +kernel
theorem dL_law_967 : decode cL_law 967 = .ok (.ireturn, 1) := by decide +kernel
theorem dL_law_968 : decode cL_law 968 = .ok (.iload 5, 2) := by decide +kernel
theorem dL_law_970 : decode cL_law 970 = .ok (.ifCond .ne 22, 3) := by decide +kernel
theorem dL_law_973 : decode cL_law 973 = .ok (.aload_n 3, 1) := by decide +kernel
theorem dL_law_974 : decode cL_law 974 = .ok (.iconst 0, 1) := by decide +kernel
theorem dL_law_975 : decode cL_law 975 = .ok (.laload, 1) := by decide +kernel
theorem dL_law_976 : decode cL_law 976 = .ok (.iload 6, 2) := by decide +kernel
theorem dL_law_978 : decode cL_law 978 = .ok (.ifCond .eq 7, 3) := by decide +kernel
theorem dL_law_981 : decode cL_law 981 = .ok (.lconst 1, 1) := by decide +kernel
theorem dL_law_982 : decode cL_law 982 = .ok (.goto 4, 3) := by decide +kernel
theorem dL_law_985 : decode cL_law 985 = .ok (.lconst 0, 1) := by decide +kernel
theorem dL_law_986 : decode cL_law 986 = .ok (.lcmp, 1) := by decide +kernel
theorem dL_law_987 : decode cL_law 987 = .ok (.ifCond .eq 5, 3) := by decide +kernel
theorem dL_law_990 : decode cL_law 990 = .ok (.iconst 0, 1) := by decide +kernel
theorem dL_law_991 : decode cL_law 991 = .ok (.ireturn, 1) := by decide +kernel
theorem dL_law_992 : decode cL_law 992 = .ok (.goto 716, 3) := by decide +kernel
theorem dL_law_995 : decode cL_law 995 = .ok (.aload_n 1, 1) := by decide +kernel
theorem dL_law_996 : decode cL_law 996 = .ok (.aload_n 0, 1) := by decide +kernel
theorem dL_law_997 : decode cL_law 997 = .ok (.iload 4, 2) := by decide +kernel
theorem dL_law_999 : decode cL_law 999 = .ok (.iconst 1, 1) := by decide +kernel
theorem dL_law_1000 : decode cL_law 1000 = .ok (.iadd, 1) := by decide +kernel
theorem dL_law_1001 : decode cL_law 1001 = .ok (.iaload, 1) := by decide +kernel
theorem dL_law_1002 : decode cL_law 1002 = .ok (.aload_n 0, 1) := by decide +kernel
theorem dL_law_1003 : decode cL_law 1003 = .ok (.iload 4, 2) := by decide +kernel
theorem dL_law_1005 : decode cL_law 1005 = .ok (.iconst 2, 1) := by decide +kernel
theorem dL_law_1006 : decode cL_law 1006 = .ok (.iadd, 1) := by decide +kernel
theorem dL_law_1007 : decode cL_law 1007 = .ok (.iaload, 1) := by decide +kernel
theorem dL_law_1008 : decode cL_law 1008 = .ok (.aload_n 3, 1) := by decide +kernel
theorem dL_law_1009 : decode cL_law 1009 = .ok (.invokestatic 142, 3) := by decide +kernel
theorem dL_law_1012 : decode cL_law 1012 = .ok (.istore 5, 2) := by decide +kernel
theorem dL_law_1014 : decode cL_law 1014 = .ok (.aload_n 2, 1) := by decide +kernel
theorem dL_law_1015 : decode cL_law 1015 = .ok (.aload_n 0, 1) := by decide +kernel
theorem dL_law_1016 : decode cL_law 1016 = .ok (.iload 4, 2) := by decide +kernel
theorem dL_law_1018 : decode cL_law 1018 = .ok (.iconst 1, 1) := by decide +kernel
theorem dL_law_1019 : decode cL_law 1019 = .ok (.iadd, 1) := by decide +kernel
theorem dL_law_1020 : decode cL_law 1020 = .ok (.iaload, 1) := by decide +kernel
theorem dL_law_1021 : decode cL_law 1021 = .ok (.aload_n 0, 1) := by decide +kernel
theorem dL_law_1022 : decode cL_law 1022 = .ok (.iload 4, 2) := by decide +kernel
theorem dL_law_1024 : decode cL_law 1024 = .ok (.iconst 2, 1) := by decide +kernel
theorem dL_law_1025 : decode cL_law 1025 = .ok (.iadd, 1) := by decide +kernel
theorem dL_law_1026 : decode cL_law 1026 = .ok (.iaload, 1) := by decide +kernel
theorem dL_law_1027 : decode cL_law 1027 = .ok (.invokevirtual 144, 3) := by decide +kernel
theorem dL_law_1030 : decode cL_law 1030 = .ok (.istore 6, 2) := by decide +kernel
theorem dL_law_1032 : decode cL_law 1032 = .ok (.aload_n 2, 1) := by decide +kernel
theorem dL_law_1033 : decode cL_law 1033 = .ok (.invokevirtual 101, 3) := by decide +kernel
theorem dL_law_1036 : decode cL_law 1036 = .ok (.iload 5, 2) := by decide +kernel
theorem dL_law_1038 : decode cL_law 1038 = .ok (.if_icmp .eq 5, 3) := by decide +kernel
theorem dL_law_1041 : decode cL_law 1041 = .ok (.iconst 0, 1) := by decide +kernel
theorem dL_law_1042 : decode cL_law 1042 = .ok (.ireturn, 1) := by decide +kernel
theorem dL_law_1043 : decode cL_law 1043 = .ok (.iload 5, 2) := by decide +kernel
theorem dL_law_1045 : decode cL_law 1045 = .ok (.ifCond .ne 15, 3) := by decide +kernel
theorem dL_law_1048 : decode cL_law 1048 = .ok (.aload_n 3, 1) := by decide +kernel
theorem dL_law_1049 : decode cL_law 1049 = .ok (.iconst 0, 1) := by decide +kernel
theorem dL_law_1050 : decode cL_law 1050 = .ok (.laload, 1) := by decide +kernel
theorem dL_law_1051 : decode cL_law 1051 = .ok (.iload 6, 2) := by decide +kernel
theorem dL_law_1053 : decode cL_law 1053 = .ok (.i2l, 1) := by decide +kernel
theorem dL_law_1054 : decode cL_law 1054 = .ok (.lcmp, 1) := by decide +kernel
theorem dL_law_1055 : decode cL_law 1055 = .ok (.ifCond .eq 5, 3) := by decide +kernel
theorem dL_law_1058 : decode cL_law 1058 = .ok (.iconst 0, 1) := by decide +kernel
theorem dL_law_1059 : decode cL_law 1059 = .ok (.ireturn, 1) := by decide +kernel
theorem dL_law_1060 : decode cL_law 1060 = .ok (.goto 648, 3) := by decide +kernel
theorem dL_law_1063 : decode cL_law 1063 = .ok (.aload_n 1, 1) := by decide +kernel
theorem dL_law_1064 : decode cL_law 1064 = .ok (.aload_n 0, 1) := by decide +kernel
theorem dL_law_1065 : decode cL_law 1065 = .ok (.iload 4, 2) := by decide +kernel
theorem dL_law_1067 : decode cL_law 1067 = .ok (.iconst 1, 1) := by decide +kernel
theorem dL_law_1068 : decode cL_law 1068 = .ok (.iadd, 1) := by decide +kernel
theorem dL_law_1069 : decode cL_law 1069 = .ok (.iaload, 1) := by decide +kernel
theorem dL_law_1070 : decode cL_law 1070 = .ok (.aload_n 3, 1) := by decide +kernel
theorem dL_law_1071 : decode cL_law 1071 = .ok (.invokestatic 145, 3) := by decide +kernel
theorem dL_law_1074 : decode cL_law 1074 = .ok (.istore 5, 2) := by decide +kernel
theorem dL_law_1076 : decode cL_law 1076 = .ok (.aload_n 2, 1) := by decide +kernel
theorem dL_law_1077 : decode cL_law 1077 = .ok (.aload_n 0, 1) := by decide +kernel
theorem dL_law_1078 : decode cL_law 1078 = .ok (.iload 4, 2) := by decide +kernel
theorem dL_law_1080 : decode cL_law 1080 = .ok (.iconst 1, 1) := by decide +kernel
theorem dL_law_1081 : decode cL_law 1081 = .ok (.iadd, 1) := by decide +kernel
theorem dL_law_1082 : decode cL_law 1082 = .ok (.iaload, 1) := by decide +kernel
theorem dL_law_1083 : decode cL_law 1083 = .ok (.invokevirtual 147, 3) := by decide +kernel
theorem dL_law_1086 : decode cL_law 1086 = .ok (.istore 6, 2) := by decide +kernel
theorem dL_law_1088 : decode cL_law 1088 = .ok (.aload_n 2, 1) := by decide +kernel
theorem dL_law_1089 : decode cL_law 1089 = .ok (.invokevirtual 101, 3) := by decide +kernel
theorem dL_law_1092 : decode cL_law 1092 = .ok (.iload 5, 2) := by decide +kernel
theorem dL_law_1094 : decode cL_law 1094 = .ok (.if_icmp .eq 5, 3) := by decide +kernel
theorem dL_law_1097 : decode cL_law 1097 = .ok (.iconst 0, 1) := by decide +kernel
theorem dL_law_1098 : decode cL_law 1098 = .ok (.ireturn, 1) := by decide +kernel
theorem dL_law_1099 : decode cL_law 1099 = .ok (.iload 5, 2) := by decide +kernel
theorem dL_law_1101 : decode cL_law 1101 = .ok (.ifCond .ne 15, 3) := by decide +kernel
theorem dL_law_1104 : decode cL_law 1104 = .ok (.aload_n 3, 1) := by decide +kernel
theorem dL_law_1105 : decode cL_law 1105 = .ok (.iconst 0, 1) := by decide +kernel
theorem dL_law_1106 : decode cL_law 1106 = .ok (.laload, 1) := by decide +kernel
theorem dL_law_1107 : decode cL_law 1107 = .ok (.iload 6, 2) := by decide +kernel
theorem dL_law_1109 : decode cL_law 1109 = .ok (.i2l, 1) := by decide +kernel
theorem dL_law_1110 : decode cL_law 1110 = .ok (.lcmp, 1) := by decide +kernel
theorem dL_law_1111 : decode cL_law 1111 = .ok (.ifCond .eq 5, 3) := by decide +kernel
theorem dL_law_1114 : decode cL_law 1114 = .ok (.iconst 0, 1) := by decide +kernel
theorem dL_law_1115 : decode cL_law 1115 = .ok (.ireturn, 1) := by decide +kernel
theorem dL_law_1116 : decode cL_law 1116 = .ok (.goto 592, 3) := by decide +kernel
theorem dL_law_1119 : decode cL_law 1119 = .ok (.aload_n 1, 1) := by decide +kernel
theorem dL_law_1120 : decode cL_law 1120 = .ok (.aload_n 0, 1) := by decide +kernel
theorem dL_law_1121 : decode cL_law 1121 = .ok (.iload 4, 2) := by decide +kernel
theorem dL_law_1123 : decode cL_law 1123 = .ok (.iconst 1, 1) := by decide +kernel
theorem dL_law_1124 : decode cL_law 1124 = .ok (.iadd, 1) := by decide +kernel
theorem dL_law_1125 : decode cL_law 1125 = .ok (.iaload, 1) := by decide +kernel
theorem dL_law_1126 : decode cL_law 1126 = .ok (.aload_n 0, 1) := by decide +kernel
theorem dL_law_1127 : decode cL_law 1127 = .ok (.iload 4, 2) := by decide +kernel
theorem dL_law_1129 : decode cL_law 1129 = .ok (.iconst 2, 1) := by decide +kernel
theorem dL_law_1130 : decode cL_law 1130 = .ok (.iadd, 1) := by decide +kernel
theorem dL_law_1131 : decode cL_law 1131 = .ok (.iaload, 1) := by decide +kernel
theorem dL_law_1132 : decode cL_law 1132 = .ok (.aload_n 3, 1) := by decide +kernel
theorem dL_law_1133 : decode cL_law 1133 = .ok (.invokestatic 148, 3) := by decide +kernel
theorem dL_law_1136 : decode cL_law 1136 = .ok (.istore 5, 2) := by decide +kernel
theorem dL_law_1138 : decode cL_law 1138 = .ok (.aload_n 2, 1) := by decide +kernel
theorem dL_law_1139 : decode cL_law 1139 = .ok (.aload_n 0, 1) := by decide +kernel
theorem dL_law_1140 : decode cL_law 1140 = .ok (.iload 4, 2) := by decide +kernel
theorem dL_law_1142 : decode cL_law 1142 = .ok (.iconst 1, 1) := by decide +kernel
theorem dL_law_1143 : decode cL_law 1143 = .ok (.iadd, 1) := by decide +kernel
theorem dL_law_1144 : decode cL_law 1144 = .ok (.iaload, 1) := by decide +kernel
theorem dL_law_1145 : decode cL_law 1145 = .ok (.aload_n 0, 1) := by decide +kernel
theorem dL_law_1146 : decode cL_law 1146 = .ok (.iload 4, 2) := by decide +kernel
theorem dL_law_1148 : decode cL_law 1148 = .ok (.iconst 2, 1) := by decide +kernel
theorem dL_law_1149 : decode cL_law 1149 = .ok (.iadd, 1) := by decide +kernel
theorem dL_law_1150 : decode cL_law 1150 = .ok (.iaload, 1) := by decide +kernel
theorem dL_law_1151 : decode cL_law 1151 = .ok (.invokevirtual 150, 3) := by decide +kernel
theorem dL_law_1154 : decode cL_law 1154 = .ok (.istore 6, 2) := by decide +kernel
theorem dL_law_1156 : decode cL_law 1156 = .ok (.aload_n 2, 1) := by decide +kernel
theorem dL_law_1157 : decode cL_law 1157 = .ok (.invokevirtual 101, 3) := by decide +kernel
theorem dL_law_1160 : decode cL_law 1160 = .ok (.iload 5, 2) := by decide +kernel
theorem dL_law_1162 : decode cL_law 1162 = .ok (.if_icmp .eq 5, 3) := by decide +kernel
theorem dL_law_1165 : decode cL_law 1165 = .ok (.iconst 0, 1) := by decide +kernel
theorem dL_law_1166 : decode cL_law 1166 = .ok (.ireturn, 1) := by decide +kernel
theorem dL_law_1167 : decode cL_law 1167 = .ok (.iload 5, 2) := by decide +kernel
theorem dL_law_1169 : decode cL_law 1169 = .ok (.ifCond .ne 15, 3) := by decide +kernel
theorem dL_law_1172 : decode cL_law 1172 = .ok (.aload_n 3, 1) := by decide +kernel
theorem dL_law_1173 : decode cL_law 1173 = .ok (.iconst 0, 1) := by decide +kernel
theorem dL_law_1174 : decode cL_law 1174 = .ok (.laload, 1) := by decide +kernel
theorem dL_law_1175 : decode cL_law 1175 = .ok (.iload 6, 2) := by decide +kernel
theorem dL_law_1177 : decode cL_law 1177 = .ok (.i2l, 1) := by decide +kernel
theorem dL_law_1178 : decode cL_law 1178 = .ok (.lcmp, 1) := by decide +kernel
theorem dL_law_1179 : decode cL_law 1179 = .ok (.ifCond .eq 5, 3) := by decide +kernel
theorem dL_law_1182 : decode cL_law 1182 = .ok (.iconst 0, 1) := by decide +kernel
theorem dL_law_1183 : decode cL_law 1183 = .ok (.ireturn, 1) := by decide +kernel
theorem dL_law_1184 : decode cL_law 1184 = .ok (.goto 524, 3) := by decide +kernel
theorem dL_law_1187 : decode cL_law 1187 = .ok (.aload_n 1, 1) := by decide +kernel
theorem dL_law_1188 : decode cL_law 1188 = .ok (.aload_n 0, 1) := by decide +kernel
theorem dL_law_1189 : decode cL_law 1189 = .ok (.iload 4, 2) := by decide +kernel
theorem dL_law_1191 : decode cL_law 1191 = .ok (.iconst 1, 1) := by decide +kernel
theorem dL_law_1192 : decode cL_law 1192 = .ok (.iadd, 1) := by decide +kernel
theorem dL_law_1193 : decode cL_law 1193 = .ok (.iaload, 1) := by decide +kernel
theorem dL_law_1194 : decode cL_law 1194 = .ok (.aload_n 0, 1) := by decide +kernel
theorem dL_law_1195 : decode cL_law 1195 = .ok (.iload 4, 2) := by decide +kernel
theorem dL_law_1197 : decode cL_law 1197 = .ok (.iconst 2, 1) := by decide +kernel
theorem dL_law_1198 : decode cL_law 1198 = .ok (.iadd, 1) := by decide +kernel
theorem dL_law_1199 : decode cL_law 1199 = .ok (.iaload, 1) := by decide +kernel
theorem dL_law_1200 : decode cL_law 1200 = .ok (.aload_n 0, 1) := by decide +kernel
theorem dL_law_1201 : decode cL_law 1201 = .ok (.iload 4, 2) := by decide +kernel
theorem dL_law_1203 : decode cL_law 1203 = .ok (.iconst 3, 1) := by decide +kernel
theorem dL_law_1204 : decode cL_law 1204 = .ok (.iadd, 1) := by decide +kernel
theorem dL_law_1205 : decode cL_law 1205 = .ok (.iaload, 1) := by decide +kernel
theorem dL_law_1206 : decode cL_law 1206 = .ok (.ifCond .eq 7, 3) := by decide +kernel
theorem dL_law_1209 : decode cL_law 1209 = .ok (.iconst 1, 1) := by decide +kernel
theorem dL_law_1210 : decode cL_law 1210 = .ok (.goto 4, 3) := by decide +kernel
theorem dL_law_1213 : decode cL_law 1213 = .ok (.iconst 0, 1) := by decide +kernel
theorem dL_law_1214 : decode cL_law 1214 = .ok (.aload_n 3, 1) := by decide +kernel
theorem dL_law_1215 : decode cL_law 1215 = .ok (.invokestatic 151, 3) := by decide +kernel
theorem dL_law_1218 : decode cL_law 1218 = .ok (.istore 5, 2) := by decide +kernel
theorem dL_law_1220 : decode cL_law 1220 = .ok (.aload_n 2, 1) := by decide +kernel
theorem dL_law_1221 : decode cL_law 1221 = .ok (.aload_n 0, 1) := by decide +kernel
theorem dL_law_1222 : decode cL_law 1222 = .ok (.iload 4, 2) := by decide +kernel
theorem dL_law_1224 : decode cL_law 1224 = .ok (.iconst 1, 1) := by decide +kernel
theorem dL_law_1225 : decode cL_law 1225 = .ok (.iadd, 1) := by decide +kernel
theorem dL_law_1226 : decode cL_law 1226 = .ok (.iaload, 1) := by decide +kernel
theorem dL_law_1227 : decode cL_law 1227 = .ok (.aload_n 0, 1) := by decide +kernel
theorem dL_law_1228 : decode cL_law 1228 = .ok (.iload 4, 2) := by decide +kernel
theorem dL_law_1230 : decode cL_law 1230 = .ok (.iconst 2, 1) := by decide +kernel
theorem dL_law_1231 : decode cL_law 1231 = .ok (.iadd, 1) := by decide +kernel
theorem dL_law_1232 : decode cL_law 1232 = .ok (.iaload, 1) := by decide +kernel
theorem dL_law_1233 : decode cL_law 1233 = .ok (.aload_n 0, 1) := by decide +kernel
theorem dL_law_1234 : decode cL_law 1234 = .ok (.iload 4, 2) := by decide +kernel
theorem dL_law_1236 : decode cL_law 1236 = .ok (.iconst 3, 1) := by decide +kernel
theorem dL_law_1237 : decode cL_law 1237 = .ok (.iadd, 1) := by decide +kernel
theorem dL_law_1238 : decode cL_law 1238 = .ok (.iaload, 1) := by decide +kernel
theorem dL_law_1239 : decode cL_law 1239 = .ok (.ifCond .eq 7, 3) := by decide +kernel
theorem dL_law_1242 : decode cL_law 1242 = .ok (.iconst 1, 1) := by decide +kernel
theorem dL_law_1243 : decode cL_law 1243 = .ok (.goto 4, 3) := by decide +kernel
theorem dL_law_1246 : decode cL_law 1246 = .ok (.iconst 0, 1) := by decide +kernel
theorem dL_law_1247 : decode cL_law 1247 = .ok (.invokevirtual 154, 3) := by decide +kernel
theorem dL_law_1250 : decode cL_law 1250 = .ok (.istore 6, 2) := by decide +kernel
theorem dL_law_1252 : decode cL_law 1252 = .ok (.aload_n 2, 1) := by decide +kernel
theorem dL_law_1253 : decode cL_law 1253 = .ok (.invokevirtual 101, 3) := by decide +kernel
theorem dL_law_1256 : decode cL_law 1256 = .ok (.iload 5, 2) := by decide +kernel
theorem dL_law_1258 : decode cL_law 1258 = .ok (.if_icmp .eq 5, 3) := by decide +kernel
theorem dL_law_1261 : decode cL_law 1261 = .ok (.iconst 0, 1) := by decide +kernel
theorem dL_law_1262 : decode cL_law 1262 = .ok (.ireturn, 1) := by decide +kernel
theorem dL_law_1263 : decode cL_law 1263 = .ok (.iload 5, 2) := by decide +kernel
theorem dL_law_1265 : decode cL_law 1265 = .ok (.ifCond .ne 15, 3) := by decide +kernel
theorem dL_law_1268 : decode cL_law 1268 = .ok (.aload_n 3, 1) := by decide +kernel
theorem dL_law_1269 : decode cL_law 1269 = .ok (.iconst 0, 1) := by decide +kernel
theorem dL_law_1270 : decode cL_law 1270 = .ok (.laload, 1) := by decide +kernel
theorem dL_law_1271 : decode cL_law 1271 = .ok (.iload 6, 2) := by decide +kernel
theorem dL_law_1273 : decode cL_law 1273 = .ok (.i2l, 1) := by decide +kernel
theorem dL_law_1274 : decode cL_law 1274 = .ok (.lcmp, 1) := by decide +kernel
theorem dL_law_1275 : decode cL_law 1275 = .ok (.ifCond .eq 5, 3) := by decide +kernel
theorem dL_law_1278 : decode cL_law 1278 = .ok (.iconst 0, 1) := by decide +kernel
theorem dL_law_1279 : decode cL_law 1279 = .ok (.ireturn, 1) := by decide +kernel
theorem dL_law_1280 : decode cL_law 1280 = .ok (.goto 428, 3) := by decide +kernel
theorem dL_law_1283 : decode cL_law 1283 = .ok (.aload_n 1, 1) := by decide +kernel
theorem dL_law_1284 : decode cL_law 1284 = .ok (.aload_n 0, 1) := by decide +kernel
theorem dL_law_1285 : decode cL_law 1285 = .ok (.iload 4, 2) := by decide +kernel
theorem dL_law_1287 : decode cL_law 1287 = .ok (.iconst 1, 1) := by decide +kernel
theorem dL_law_1288 : decode cL_law 1288 = .ok (.iadd, 1) := by decide +kernel
theorem dL_law_1289 : decode cL_law 1289 = .ok (.iaload, 1) := by decide +kernel
theorem dL_law_1290 : decode cL_law 1290 = .ok (.aload_n 0, 1) := by decide +kernel
theorem dL_law_1291 : decode cL_law 1291 = .ok (.iload 4, 2) := by decide +kernel
theorem dL_law_1293 : decode cL_law 1293 = .ok (.iconst 2, 1) := by decide +kernel
theorem dL_law_1294 : decode cL_law 1294 = .ok (.iadd, 1) := by decide +kernel
theorem dL_law_1295 : decode cL_law 1295 = .ok (.iaload, 1) := by decide +kernel
theorem dL_law_1296 : decode cL_law 1296 = .ok (.aload_n 0, 1) := by decide +kernel
theorem dL_law_1297 : decode cL_law 1297 = .ok (.iload 4, 2) := by decide +kernel
theorem dL_law_1299 : decode cL_law 1299 = .ok (.iconst 3, 1) := by decide +kernel
theorem dL_law_1300 : decode cL_law 1300 = .ok (.iadd, 1) := by decide +kernel
theorem dL_law_1301 : decode cL_law 1301 = .ok (.iaload, 1) := by decide +kernel
theorem dL_law_1302 : decode cL_law 1302 = .ok (.aload_n 0, 1) := by decide +kernel
theorem dL_law_1303 : decode cL_law 1303 = .ok (.iload 4, 2) := by decide +kernel
theorem dL_law_1305 : decode cL_law 1305 = .ok (.iconst 4, 1) := by decide +kernel
theorem dL_law_1306 : decode cL_law 1306 = .ok (.iadd, 1) := by decide +kernel
theorem dL_law_1307 : decode cL_law 1307 = .ok (.iaload, 1) := by decide +kernel
theorem dL_law_1308 : decode cL_law 1308 = .ok (.aload_n 0, 1) := by decide +kernel
theorem dL_law_1309 : decode cL_law 1309 = .ok (.iload 4, 2) := by decide +kernel
theorem dL_law_1311 : decode cL_law 1311 = .ok (.iconst 5, 1) := by decide +kernel
theorem dL_law_1312 : decode cL_law 1312 = .ok (.iadd, 1) := by decide +kernel
theorem dL_law_1313 : decode cL_law 1313 = .ok (.iaload, 1) := by decide +kernel
theorem dL_law_1314 : decode cL_law 1314 = .ok (.aload_n 0, 1) := by decide +kernel
theorem dL_law_1315 : decode cL_law 1315 = .ok (.iload 4, 2) := by decide +kernel
theorem dL_law_1317 : decode cL_law 1317 = .ok (.bipush 6, 2) := by decide +kernel
theorem dL_law_1319 : decode cL_law 1319 = .ok (.iadd, 1) := by decide +kernel
theorem dL_law_1320 : decode cL_law 1320 = .ok (.iaload, 1) := by decide +kernel
theorem dL_law_1321 : decode cL_law 1321 = .ok (.aload_n 0, 1) := by decide +kernel
theorem dL_law_1322 : decode cL_law 1322 = .ok (.iload 4, 2) := by decide +kernel
theorem dL_law_1324 : decode cL_law 1324 = .ok (.bipush 7, 2) := by decide +kernel
theorem dL_law_1326 : decode cL_law 1326 = .ok (.iadd, 1) := by decide +kernel
theorem dL_law_1327 : decode cL_law 1327 = .ok (.iaload, 1) := by decide +kernel
theorem dL_law_1328 : decode cL_law 1328 = .ok (.aload_n 0, 1) := by decide +kernel
theorem dL_law_1329 : decode cL_law 1329 = .ok (.iload 4, 2) := by decide +kernel
theorem dL_law_1331 : decode cL_law 1331 = .ok (.bipush 8, 2) := by decide +kernel
theorem dL_law_1333 : decode cL_law 1333 = .ok (.iadd, 1) := by decide +kernel
theorem dL_law_1334 : decode cL_law 1334 = .ok (.iaload, 1) := by decide +kernel
theorem dL_law_1335 : decode cL_law 1335 = .ok (.aload_n 3, 1) := by decide +kernel
theorem dL_law_1336 : decode cL_law 1336 = .ok (.invokestatic 155, 3) := by decide +kernel
theorem dL_law_1339 : decode cL_law 1339 = .ok (.istore 5, 2) := by decide +kernel
theorem dL_law_1341 : decode cL_law 1341 = .ok (.aload_n 2, 1) := by decide +kernel
theorem dL_law_1342 : decode cL_law 1342 = .ok (.aload_n 0, 1) := by decide +kernel
theorem dL_law_1343 : decode cL_law 1343 = .ok (.iload 4, 2) := by decide +kernel
theorem dL_law_1345 : decode cL_law 1345 = .ok (.iconst 1, 1) := by decide +kernel
theorem dL_law_1346 : decode cL_law 1346 = .ok (.iadd, 1) := by decide +kernel
theorem dL_law_1347 : decode cL_law 1347 = .ok (.iaload, 1) := by decide +kernel
theorem dL_law_1348 : decode cL_law 1348 = .ok (.aload_n 0, 1) := by decide +kernel
theorem dL_law_1349 : decode cL_law 1349 = .ok (.iload 4, 2) := by decide +kernel
theorem dL_law_1351 : decode cL_law 1351 = .ok (.iconst 2, 1) := by decide +kernel
theorem dL_law_1352 : decode cL_law 1352 = .ok (.iadd, 1) := by decide +kernel
theorem dL_law_1353 : decode cL_law 1353 = .ok (.iaload, 1) := by decide +kernel
theorem dL_law_1354 : decode cL_law 1354 = .ok (.aload_n 0, 1) := by decide +kernel
theorem dL_law_1355 : decode cL_law 1355 = .ok (.iload 4, 2) := by decide +kernel
theorem dL_law_1357 : decode cL_law 1357 = .ok (.iconst 3, 1) := by decide +kernel
theorem dL_law_1358 : decode cL_law 1358 = .ok (.iadd, 1) := by decide +kernel
theorem dL_law_1359 : decode cL_law 1359 = .ok (.iaload, 1) := by decide +kernel
theorem dL_law_1360 : decode cL_law 1360 = .ok (.aload_n 0, 1) := by decide +kernel
theorem dL_law_1361 : decode cL_law 1361 = .ok (.iload 4, 2) := by decide +kernel
theorem dL_law_1363 : decode cL_law 1363 = .ok (.iconst 4, 1) := by decide +kernel
theorem dL_law_1364 : decode cL_law 1364 = .ok (.iadd, 1) := by decide +kernel
theorem dL_law_1365 : decode cL_law 1365 = .ok (.iaload, 1) := by decide +kernel
theorem dL_law_1366 : decode cL_law 1366 = .ok (.aload_n 0, 1) := by decide +kernel
theorem dL_law_1367 : decode cL_law 1367 = .ok (.iload 4, 2) := by decide +kernel
theorem dL_law_1369 : decode cL_law 1369 = .ok (.iconst 5, 1) := by decide +kernel
theorem dL_law_1370 : decode cL_law 1370 = .ok (.iadd, 1) := by decide +kernel
theorem dL_law_1371 : decode cL_law 1371 = .ok (.iaload, 1) := by decide +kernel
theorem dL_law_1372 : decode cL_law 1372 = .ok (.aload_n 0, 1) := by decide +kernel
theorem dL_law_1373 : decode cL_law 1373 = .ok (.iload 4, 2) := by decide +kernel
theorem dL_law_1375 : decode cL_law 1375 = .ok (.bipush 6, 2) := by decide +kernel
theorem dL_law_1377 : decode cL_law 1377 = .ok (.iadd, 1) := by decide +kernel
theorem dL_law_1378 : decode cL_law 1378 = .ok (.iaload, 1) := by decide +kernel
theorem dL_law_1379 : decode cL_law 1379 = .ok (.aload_n 0, 1) := by decide +kernel
theorem dL_law_1380 : decode cL_law 1380 = .ok (.iload 4, 2) := by decide +kernel
theorem dL_law_1382 : decode cL_law 1382 = .ok (.bipush 7, 2) := by decide +kernel
theorem dL_law_1384 : decode cL_law 1384 = .ok (.iadd, 1) := by decide +kernel
theorem dL_law_1385 : decode cL_law 1385 = .ok (.iaload, 1) := by decide +kernel
theorem dL_law_1386 : decode cL_law 1386 = .ok (.aload_n 0, 1) := by decide +kernel
theorem dL_law_1387 : decode cL_law 1387 = .ok (.iload 4, 2) := by decide +kernel
theorem dL_law_1389 : decode cL_law 1389 = .ok (.bipush 8, 2) := by decide +kernel
theorem dL_law_1391 : decode cL_law 1391 = .ok (.iadd, 1) := by decide +kernel
theorem dL_law_1392 : decode cL_law 1392 = .ok (.iaload, 1) := by decide +kernel
theorem dL_law_1393 : decode cL_law 1393 = .ok (.invokevirtual 158, 3) := by decide +kernel
theorem dL_law_1396 : decode cL_law 1396 = .ok (.istore 6, 2) := by decide +kernel
theorem dL_law_1398 : decode cL_law 1398 = .ok (.aload_n 2, 1) := by decide +kernel
theorem dL_law_1399 : decode cL_law 1399 = .ok (.invokevirtual 101, 3) := by decide +kernel
theorem dL_law_1402 : decode cL_law 1402 = .ok (.iload 5, 2) := by decide +kernel
theorem dL_law_1404 : decode cL_law 1404 = .ok (.if_icmp .eq 5, 3) := by decide +kernel
theorem dL_law_1407 : decode cL_law 1407 = .ok (.iconst 0, 1) := by decide +kernel
theorem dL_law_1408 : decode cL_law 1408 = .ok (.ireturn, 1) := by decide +kernel
theorem dL_law_1409 : decode cL_law 1409 = .ok (.iload 5, 2) := by decide +kernel
theorem dL_law_1411 : decode cL_law 1411 = .ok (.ifCond .ne 15, 3) := by decide +kernel
theorem dL_law_1414 : decode cL_law 1414 = .ok (.aload_n 3, 1) := by decide +kernel
theorem dL_law_1415 : decode cL_law 1415 = .ok (.iconst 0, 1) := by decide +kernel
theorem dL_law_1416 : decode cL_law 1416 = .ok (.laload, 1) := by decide +kernel
theorem dL_law_1417 : decode cL_law 1417 = .ok (.iload 6, 2) := by decide +kernel
theorem dL_law_1419 : decode cL_law 1419 = .ok (.i2l, 1) := by decide +kernel
theorem dL_law_1420 : decode cL_law 1420 = .ok (.lcmp, 1) := by decide +kernel
theorem dL_law_1421 : decode cL_law 1421 = .ok (.ifCond .eq 5, 3) := by decide +kernel
theorem dL_law_1424 : decode cL_law 1424 = .ok (.iconst 0, 1) := by decide +kernel
theorem dL_law_1425 : decode cL_law 1425 = .ok (.ireturn, 1) := by decide +kernel
theorem dL_law_1426 : decode cL_law 1426 = .ok (.goto 282, 3) := by decide +kernel
theorem dL_law_1429 : decode cL_law 1429 = .ok (.aload_n 1, 1) := by decide +kernel
theorem dL_law_1430 : decode cL_law 1430 = .ok (.aload_n 0, 1) := by decide +kernel
theorem dL_law_1431 : decode cL_law 1431 = .ok (.iload 4, 2) := by decide +kernel
theorem dL_law_1433 : decode cL_law 1433 = .ok (.iconst 1, 1) := by decide +kernel
theorem dL_law_1434 : decode cL_law 1434 = .ok (.iadd, 1) := by decide +kernel
theorem dL_law_1435 : decode cL_law 1435 = .ok (.iaload, 1) := by decide +kernel
theorem dL_law_1436 : decode cL_law 1436 = .ok (.aload_n 3, 1) := by decide +kernel
theorem dL_law_1437 : decode cL_law 1437 = .ok (.invokestatic 159, 3) := by decide +kernel
theorem dL_law_1440 : decode cL_law 1440 = .ok (.istore 5, 2) := by decide +kernel
theorem dL_law_1442 : decode cL_law 1442 = .ok (.aload_n 2, 1) := by decide +kernel
theorem dL_law_1443 : decode cL_law 1443 = .ok (.aload_n 0, 1) := by decide +kernel
theorem dL_law_1444 : decode cL_law 1444 = .ok (.iload 4, 2) := by decide +kernel
theorem dL_law_1446 : decode cL_law 1446 = .ok (.iconst 1, 1) := by decide +kernel
theorem dL_law_1447 : decode cL_law 1447 = .ok (.iadd, 1) := by decide +kernel
theorem dL_law_1448 : decode cL_law 1448 = .ok (.iaload, 1) := by decide +kernel
theorem dL_law_1449 : decode cL_law 1449 = .ok (.invokevirtual 161, 3) := by decide +kernel
theorem dL_law_1452 : decode cL_law 1452 = .ok (.istore 6, 2) := by decide +kernel
theorem dL_law_1454 : decode cL_law 1454 = .ok (.aload_n 2, 1) := by decide +kernel
theorem dL_law_1455 : decode cL_law 1455 = .ok (.invokevirtual 101, 3) := by decide +kernel
theorem dL_law_1458 : decode cL_law 1458 = .ok (.iload 5, 2) := by decide +kernel
theorem dL_law_1460 : decode cL_law 1460 = .ok (.if_icmp .eq 5, 3) := by decide +kernel
theorem dL_law_1463 : decode cL_law 1463 = .ok (.iconst 0, 1) := by decide +kernel
theorem dL_law_1464 : decode cL_law 1464 = .ok (.ireturn, 1) := by decide +kernel
theorem dL_law_1465 : decode cL_law 1465 = .ok (.iload 5, 2) := by decide +kernel
theorem dL_law_1467 : decode cL_law 1467 = .ok (.ifCond .ne 15, 3) := by decide +kernel
theorem dL_law_1470 : decode cL_law 1470 = .ok (.aload_n 3, 1) := by decide +kernel
theorem dL_law_1471 : decode cL_law 1471 = .ok (.iconst 0, 1) := by decide +kernel
theorem dL_law_1472 : decode cL_law 1472 = .ok (.laload, 1) := by decide +kernel
theorem dL_law_1473 : decode cL_law 1473 = .ok (.iload 6, 2) := by decide +kernel
theorem dL_law_1475 : decode cL_law 1475 = .ok (.i2l, 1) := by decide +kernel
theorem dL_law_1476 : decode cL_law 1476 = .ok (.lcmp, 1) := by decide +kernel
theorem dL_law_1477 : decode cL_law 1477 = .ok (.ifCond .eq 5, 3) := by decide +kernel
theorem dL_law_1480 : decode cL_law 1480 = .ok (.iconst 0, 1) := by decide +kernel
theorem dL_law_1481 : decode cL_law 1481 = .ok (.ireturn, 1) := by decide +kernel
theorem dL_law_1482 : decode cL_law 1482 = .ok (.goto 226, 3) := by decide +kernel
theorem dL_law_1485 : decode cL_law 1485 = .ok (.aload_n 1, 1) := by decide +kernel
theorem dL_law_1486 : decode cL_law 1486 = .ok (.aload_n 0, 1) := by decide +kernel
theorem dL_law_1487 : decode cL_law 1487 = .ok (.iload 4, 2) := by decide +kernel
theorem dL_law_1489 : decode cL_law 1489 = .ok (.iconst 1, 1) := by decide +kernel
theorem dL_law_1490 : decode cL_law 1490 = .ok (.iadd, 1) := by decide +kernel
theorem dL_law_1491 : decode cL_law 1491 = .ok (.iaload, 1) := by decide +kernel
theorem dL_law_1492 : decode cL_law 1492 = .ok (.aload_n 3, 1) := by decide +kernel
theorem dL_law_1493 : decode cL_law 1493 = .ok (.invokestatic 162, 3) := by decide +kernel
theorem dL_law_1496 : decode cL_law 1496 = .ok (.istore 5, 2) := by decide +kernel
theorem dL_law_1498 : decode cL_law 1498 = .ok (.aload_n 2, 1) := by decide +kernel
theorem dL_law_1499 : decode cL_law 1499 = .ok (.aload_n 0, 1) := by decide +kernel
theorem dL_law_1500 : decode cL_law 1500 = .ok (.iload 4, 2) := by decide +kernel
theorem dL_law_1502 : decode cL_law 1502 = .ok (.iconst 1, 1) := by decide +kernel
theorem dL_law_1503 : decode cL_law 1503 = .ok (.iadd, 1) := by decide +kernel
theorem dL_law_1504 : decode cL_law 1504 = .ok (.iaload, 1) := by decide +kernel
theorem dL_law_1505 : decode cL_law 1505 = .ok (.invokevirtual 164, 3) := by decide +kernel
theorem dL_law_1508 : decode cL_law 1508 = .ok (.istore 6, 2) := by decide +kernel
theorem dL_law_1510 : decode cL_law 1510 = .ok (.aload_n 2, 1) := by decide +kernel
theorem dL_law_1511 : decode cL_law 1511 = .ok (.invokevirtual 101, 3) := by decide +kernel
theorem dL_law_1514 : decode cL_law 1514 = .ok (.iload 5, 2) := by decide +kernel
theorem dL_law_1516 : decode cL_law 1516 = .ok (.if_icmp .eq 5, 3) := by decide +kernel
theorem dL_law_1519 : decode cL_law 1519 = .ok (.iconst 0, 1) := by decide +kernel
theorem dL_law_1520 : decode cL_law 1520 = .ok (.ireturn, 1) := by decide +kernel
theorem dL_law_1521 : decode cL_law 1521 = .ok (.iload 5, 2) := by decide +kernel
theorem dL_law_1523 : decode cL_law 1523 = .ok (.ifCond .ne 22, 3) := by decide +kernel
theorem dL_law_1526 : decode cL_law 1526 = .ok (.aload_n 3, 1) := by decide +kernel
theorem dL_law_1527 : decode cL_law 1527 = .ok (.iconst 0, 1) := by decide +kernel
theorem dL_law_1528 : decode cL_law 1528 = .ok (.laload, 1) := by decide +kernel
theorem dL_law_1529 : decode cL_law 1529 = .ok (.iload 6, 2) := by decide +kernel
theorem dL_law_1531 : decode cL_law 1531 = .ok (.ifCond .eq 7, 3) := by decide +kernel
theorem dL_law_1534 : decode cL_law 1534 = .ok (.lconst 1, 1) := by decide +kernel
theorem dL_law_1535 : decode cL_law 1535 = .ok (.goto 4, 3) := by decide +kernel
theorem dL_law_1538 : decode cL_law 1538 = .ok (.lconst 0, 1) := by decide +kernel
theorem dL_law_1539 : decode cL_law 1539 = .ok (.lcmp, 1) := by decide +kernel
theorem dL_law_1540 : decode cL_law 1540 = .ok (.ifCond .eq 5, 3) := by decide +kernel
theorem dL_law_1543 : decode cL_law 1543 = .ok (.iconst 0, 1) := by decide +kernel
theorem dL_law_1544 : decode cL_law 1544 = .ok (.ireturn, 1) := by decide +kernel
theorem dL_law_1545 : decode cL_law 1545 = .ok (.goto 163, 3) := by decide +kernel
theorem dL_law_1548 : decode cL_law 1548 = .ok (.aload_n 1, 1) := by decide +kernel
theorem dL_law_1549 : decode cL_law 1549 = .ok (.invokevirtual 165, 3) := by decide +kernel
theorem dL_law_1552 : decode cL_law 1552 = .ok (.aload_n 2, 1) := by decide +kernel
theorem dL_law_1553 : decode cL_law 1553 = .ok (.invokevirtual 169, 3) := by decide +kernel
theorem dL_law_1556 : decode cL_law 1556 = .ok (.if_icmp .eq 152, 3) := by decide +kernel
theorem dL_law_1559 : decode cL_law 1559 = .ok (.iconst 0, 1) := by decide +kernel
theorem dL_law_1560 : decode cL_law 1560 = .ok (.ireturn, 1) := by decide +kernel
theorem dL_law_1561 : decode cL_law 1561 = .ok (.aload_n 1, 1) := by decide +kernel
theorem dL_law_1562 : decode cL_law 1562 = .ok (.aload_n 0, 1) := by decide +kernel
theorem dL_law_1563 : decode cL_law 1563 = .ok (.iload 4, 2) := by decide +kernel
theorem dL_law_1565 : decode cL_law 1565 = .ok (.iconst 1, 1) := by decide +kernel
theorem dL_law_1566 : decode cL_law 1566 = .ok (.iadd, 1) := by decide +kernel
theorem dL_law_1567 : decode cL_law 1567 = .ok (.iaload, 1) := by decide +kernel
theorem dL_law_1568 : decode cL_law 1568 = .ok (.aload_n 0, 1) := by decide +kernel
theorem dL_law_1569 : decode cL_law 1569 = .ok (.iload 4, 2) := by decide +kernel
theorem dL_law_1571 : decode cL_law 1571 = .ok (.iconst 2, 1) := by decide +kernel
theorem dL_law_1572 : decode cL_law 1572 = .ok (.iadd, 1) := by decide +kernel
theorem dL_law_1573 : decode cL_law 1573 = .ok (.iaload, 1) := by decide +kernel
theorem dL_law_1574 : decode cL_law 1574 = .ok (.invokestatic 170, 3) := by decide +kernel
theorem dL_law_1577 : decode cL_law 1577 = .ok (.istore 5, 2) := by decide +kernel
theorem dL_law_1579 : decode cL_law 1579 = .ok (.aload_n 2, 1) := by decide +kernel
theorem dL_law_1580 : decode cL_law 1580 = .ok (.aload_n 0, 1) := by decide +kernel
theorem dL_law_1581 : decode cL_law 1581 = .ok (.iload 4, 2) := by decide +kernel
theorem dL_law_1583 : decode cL_law 1583 = .ok (.iconst 1, 1) := by decide +kernel
theorem dL_law_1584 : decode cL_law 1584 = .ok (.iadd, 1) := by decide +kernel
theorem dL_law_1585 : decode cL_law 1585 = .ok (.iaload, 1) := by decide +kernel
theorem dL_law_1586 : decode cL_law 1586 = .ok (.aload_n 0, 1) := by decide +kernel
theorem dL_law_1587 : decode cL_law 1587 = .ok (.iload 4, 2) := by decide +kernel
theorem dL_law_1589 : decode cL_law 1589 = .ok (.iconst 2, 1) := by decide +kernel
theorem dL_law_1590 : decode cL_law 1590 = .ok (.iadd, 1) := by decide +kernel
theorem dL_law_1591 : decode cL_law 1591 = .ok (.iaload, 1) := by decide +kernel
theorem dL_law_1592 : decode cL_law 1592 = .ok (.invokevirtual 173, 3) := by decide +kernel
theorem dL_law_1595 : decode cL_law 1595 = .ok (.aload_n 2, 1) := by decide +kernel
theorem dL_law_1596 : decode cL_law 1596 = .ok (.invokevirtual 101, 3) := by decide +kernel
theorem dL_law_1599 : decode cL_law 1599 = .ok (.iload 5, 2) := by decide +kernel
theorem dL_law_1601 : decode cL_law 1601 = .ok (.if_icmp .eq 5, 3) := by decide +kernel
theorem dL_law_1604 : decode cL_law 1604 = .ok (.iconst 0, 1) := by decide +kernel
theorem dL_law_1605 : decode cL_law 1605 = .ok (.ireturn, 1) := by decide +kernel
theorem dL_law_1606 : decode cL_law 1606 = .ok (.goto 102, 3) := by decide +kernel
theorem dL_law_1609 : decode cL_law 1609 = .ok (.aload_n 1, 1) := by decide +kernel
theorem dL_law_1610 : decode cL_law 1610 = .ok (.invokevirtual 174, 3) := by decide +kernel
theorem dL_law_1613 : decode cL_law 1613 = .ok (.aload_n 2, 1) := by decide +kernel
theorem dL_law_1614 : decode cL_law 1614 = .ok (.invokevirtual 177, 3) := by decide +kernel
theorem dL_law_1617 : decode cL_law 1617 = .ok (.if_icmp .eq 91, 3) := by decide +kernel
theorem dL_law_1620 : decode cL_law 1620 = .ok (.iconst 0, 1) := by decide +kernel
theorem dL_law_1621 : decode cL_law 1621 = .ok (.ireturn, 1) := by decide +kernel
theorem dL_law_1622 : decode cL_law 1622 = .ok (.aload_n 1, 1) := by decide +kernel
theorem dL_law_1623 : decode cL_law 1623 = .ok (.aload_n 0, 1) := by decide +kernel
theorem dL_law_1624 : decode cL_law 1624 = .ok (.iload 4, 2) := by decide +kernel
theorem dL_law_1626 : decode cL_law 1626 = .ok (.iconst 1, 1) := by decide +kernel
theorem dL_law_1627 : decode cL_law 1627 = .ok (.iadd, 1) := by decide +kernel
theorem dL_law_1628 : decode cL_law 1628 = .ok (.iaload, 1) := by decide +kernel
theorem dL_law_1629 : decode cL_law 1629 = .ok (.aload_n 0, 1) := by decide +kernel
theorem dL_law_1630 : decode cL_law 1630 = .ok (.iload 4, 2) := by decide +kernel
theorem dL_law_1632 : decode cL_law 1632 = .ok (.iconst 2, 1) := by decide +kernel
theorem dL_law_1633 : decode cL_law 1633 = .ok (.iadd, 1) := by decide +kernel
theorem dL_law_1634 : decode cL_law 1634 = .ok (.iaload, 1) := by decide +kernel
theorem dL_law_1635 : decode cL_law 1635 = .ok (.invokestatic 178, 3) := by decide +kernel
theorem dL_law_1638 : decode cL_law 1638 = .ok (.istore 5, 2) := by decide +kernel
theorem dL_law_1640 : decode cL_law 1640 = .ok (.aload_n 2, 1) := by decide +kernel
theorem dL_law_1641 : decode cL_law 1641 = .ok (.aload_n 0, 1) := by decide +kernel
theorem dL_law_1642 : decode cL_law 1642 = .ok (.iload 4, 2) := by decide +kernel
theorem dL_law_1644 : decode cL_law 1644 = .ok (.iconst 1, 1) := by decide +kernel
theorem dL_law_1645 : decode cL_law 1645 = .ok (.iadd, 1) := by decide +kernel
theorem dL_law_1646 : decode cL_law 1646 = .ok (.iaload, 1) := by decide +kernel
theorem dL_law_1647 : decode cL_law 1647 = .ok (.aload_n 0, 1) := by decide +kernel
theorem dL_law_1648 : decode cL_law 1648 = .ok (.iload 4, 2) := by decide +kernel
theorem dL_law_1650 : decode cL_law 1650 = .ok (.iconst 2, 1) := by decide +kernel
theorem dL_law_1651 : decode cL_law 1651 = .ok (.iadd, 1) := by decide +kernel
theorem dL_law_1652 : decode cL_law 1652 = .ok (.iaload, 1) := by decide +kernel
theorem dL_law_1653 : decode cL_law 1653 = .ok (.invokevirtual 180, 3) := by decide +kernel
theorem dL_law_1656 : decode cL_law 1656 = .ok (.aload_n 2, 1) := by decide +kernel
theorem dL_law_1657 : decode cL_law 1657 = .ok (.invokevirtual 101, 3) := by decide +kernel
theorem dL_law_1660 : decode cL_law 1660 = .ok (.iload 5, 2) := by decide +kernel
theorem dL_law_1662 : decode cL_law 1662 = .ok (.if_icmp .eq 5, 3) := by decide +kernel
theorem dL_law_1665 : decode cL_law 1665 = .ok (.iconst 0, 1) := by decide +kernel
theorem dL_law_1666 : decode cL_law 1666 = .ok (.ireturn, 1) := by decide +kernel
theorem dL_law_1667 : decode cL_law 1667 = .ok (.goto 41, 3) := by decide +kernel
theorem dL_law_1670 : decode cL_law 1670 = .ok (.aload_n 1, 1) := by decide +kernel
theorem dL_law_1671 : decode cL_law 1671 = .ok (.invokevirtual 181, 3) := by decide +kernel
theorem dL_law_1674 : decode cL_law 1674 = .ok (.aload_n 2, 1) := by decide +kernel
theorem dL_law_1675 : decode cL_law 1675 = .ok (.invokevirtual 184, 3) := by decide +kernel
theorem dL_law_1678 : decode cL_law 1678 = .ok (.if_icmp .eq 30, 3) := by decide +kernel
theorem dL_law_1681 : decode cL_law 1681 = .ok (.iconst 0, 1) := by decide +kernel
theorem dL_law_1682 : decode cL_law 1682 = .ok (.ireturn, 1) := by decide +kernel
theorem dL_law_1683 : decode cL_law 1683 = .ok (.aload_n 1, 1) := by decide +kernel
theorem dL_law_1684 : decode cL_law 1684 = .ok (.aload_n 0, 1) := by decide +kernel
theorem dL_law_1685 : decode cL_law 1685 = .ok (.iload 4, 2) := by decide +kernel
theorem dL_law_1687 : decode cL_law 1687 = .ok (.iconst 1, 1) := by decide +kernel
theorem dL_law_1688 : decode cL_law 1688 = .ok (.iadd, 1) := by decide +kernel
theorem dL_law_1689 : decode cL_law 1689 = .ok (.iaload, 1) := by decide +kernel
theorem dL_law_1690 : decode cL_law 1690 = .ok (.invokevirtual 185, 3) := by decide +kernel
theorem dL_law_1693 : decode cL_law 1693 = .ok (.aload_n 2, 1) := by decide +kernel
theorem dL_law_1694 : decode cL_law 1694 = .ok (.aload_n 0, 1) := by decide +kernel
theorem dL_law_1695 : decode cL_law 1695 = .ok (.iload 4, 2) := by decide +kernel
theorem dL_law_1697 : decode cL_law 1697 = .ok (.iconst 1, 1) := by decide +kernel
theorem dL_law_1698 : decode cL_law 1698 = .ok (.iadd, 1) := by decide +kernel
theorem dL_law_1699 : decode cL_law 1699 = .ok (.iaload, 1) := by decide +kernel
theorem dL_law_1700 : decode cL_law 1700 = .ok (.invokevirtual 188, 3) := by decide +kernel
theorem dL_law_1703 : decode cL_law 1703 = .ok (.if_icmp .eq 5, 3) := by decide +kernel
theorem dL_law_1706 : decode cL_law 1706 = .ok (.iconst 0, 1) := by decide +kernel
theorem dL_law_1707 : decode cL_law 1707 = .ok (.ireturn, 1) := by decide +kernel
theorem dL_law_1708 : decode cL_law 1708 = .ok (.iinc 4 9, 3) := by decide +kernel
theorem dL_law_1711 : decode cL_law 1711 = .ok (.goto (-1688), 3) := by decide +kernel
theorem dL_law_1714 : decode cL_law 1714 = .ok (.iconst 1, 1) := by decide +kernel
theorem dL_law_1715 : decode cL_law 1715 = .ok (.ireturn, 1) := by decide +kernel
end
section
/-! The layer: one pool of cells, told by maps (a field number and an address; an array's kind and its address). -/
def bg : List Cond := lw_tbl.filter goodWord
theorem bg_in {w : Cond} (n : Nat) (h : tables_1[n]? = some w) (hg : goodWord w = true) : w ∈ bg := List.mem_filter.mpr ⟨List.mem_append_right _ (List.mem_of_getElem? h), hg⟩
theorem bg_sel {w : Cond} (n : Nat) (h : (k2_sels lw_privs)[n]? = some w) (hg : goodWord w = true) : w ∈ bg := List.mem_filter.mpr ⟨List.mem_append_left _ (List.mem_of_getElem? h), hg⟩
theorem bg_good {ws : List Cond} (h : ∀ w ∈ ws, w ∈ bg) : GoodIn bg ws := fun w hw => ⟨h w hw, good_of_word (List.mem_filter.mp (h w hw)).2⟩
def q_refs : List Nat := [1, 40, 41, 42, 80, 81, 121, 161, 162, 200, 203, 243, 244, 248, 249, 250, 280, 320, 321, 322, 323, 324, 325, 326, 327, 362, 363, 364, 367, 368, 369, 370, 371, 373, 374, 375, 376, 377, 378, 379, 380, 381, 382, 383, 384, 386, 387, 389, 391, 392]
def q_aty (k : Nat) : Nat := if k ∈ [18, 19, 20, 29, 43, 44, 62] then 2 else if k ∈ [39, 46, 57] then 1 else if k = 22 then 3 else if k = 21 then 4 else 0
/-- L, K, int fields, long fields, reference fields, lengths, int rows, long rows, reference rows -/
abbrev qS : Type := List Nat × (Nat → Nat) × (Nat → Nat → Int32) × (Nat → Nat → Int64) × (Nat → Nat → Option Nat) × (Nat → Nat) × (Nat → Nat → Nat → Int32) × (Nat → Nat → Nat → Int64) × (Nat → Nat → Nat → Option Nat)
def qL (S : qS) : List Nat := S.1
def qK (S : qS) : Nat → Nat := S.2.1
def qI (S : qS) : Nat → Nat → Int32 := S.2.2.1
def qJ (S : qS) : Nat → Nat → Int64 := S.2.2.2.1
def qR (S : qS) : Nat → Nat → Option Nat := S.2.2.2.2.1
def qN (S : qS) : Nat → Nat := S.2.2.2.2.2.1
def qAI (S : qS) : Nat → Nat → Nat → Int32 := S.2.2.2.2.2.2.1
def qAJ (S : qS) : Nat → Nat → Nat → Int64 := S.2.2.2.2.2.2.2.1
def qAO (S : qS) : Nat → Nat → Nat → Option Nat := S.2.2.2.2.2.2.2.2
def q_u2 {α : Type} (f : Nat → Nat → α) (k a : Nat) (v : α) : Nat → Nat → α := fun k' a' => if k' = k ∧ a' = a then v else f k' a'
def qsI (S : qS) (k a : Nat) (v : Int32) : qS := (qL S, qK S, q_u2 (qI S) k a v, qJ S, qR S, qN S, qAI S, qAJ S, qAO S)
def qsJ (S : qS) (k a : Nat) (v : Int64) : qS := (qL S, qK S, qI S, q_u2 (qJ S) k a v, qR S, qN S, qAI S, qAJ S, qAO S)
def qsR (S : qS) (k a : Nat) (v : Option Nat) : qS := (qL S, qK S, qI S, qJ S, q_u2 (qR S) k a v, qN S, qAI S, qAJ S, qAO S)
def qsAI (S : qS) (k a i : Nat) (v : Int32) : qS := (qL S, qK S, qI S, qJ S, qR S, qN S, q_u2 (qAI S) k a (upd (qAI S k a) i v), qAJ S, qAO S)
def qsAJ (S : qS) (k a i : Nat) (v : Int64) : qS := (qL S, qK S, qI S, qJ S, qR S, qN S, qAI S, q_u2 (qAJ S) k a (vp_updL (qAJ S k a) i v), qAO S)
def qsAO (S : qS) (k a i : Nat) (v : Option Nat) : qS := (qL S, qK S, qI S, qJ S, qR S, qN S, qAI S, qAJ S, q_u2 (qAO S) k a (va_up (qAO S k a) i v))
/-- a new cell q of kind k and length n: all is 0 or null there -/
def q_nw (S : qS) (k q n : Nat) : qS := (qL S ++ [q], va_up (qK S) q k, (fun f a => if a = q then 0 else qI S f a), (fun f a => if a = q then 0 else qJ S f a), (fun f a => if a = q then none else qR S f a), va_up (qN S) q n, (fun f a => if a = q then (fun _ => 0) else qAI S f a), (fun f a => if a = q then (fun _ => 0) else qAJ S f a), (fun f a => if a = q then (fun _ => none) else qAO S f a))
def q_ty (f : Nat) : Nat := if f ∈ q_refs then 2 else if f = 44 then 1 else 0
def q_val (S : qS) (f a : Nat) : Value := if q_ty f = 0 then .int (qI S f a) else if q_ty f = 1 then .long (qJ S f a) else va_rf (qR S f a)
def q_n (ci : Nat) : Nat := ((vwCl[ci]?).map (fun q => q.2.2)).getD 0
def q_fs (S : qS) (ci a : Nat) : List Value := (List.range (q_n ci)).map (fun k => q_val S (40 * ci + k) a)
def q_arr (cy : Nat → ClassId) (S : qS) (k a : Nat) : va_E := if q_aty k < 2 then .inl (cy (q_aty k), qN S a, .inl (qAI S k a)) else if q_aty k = 2 then .inl (cy 2, qN S a, .inr (.inl (qAJ S k a))) else .inl (cy (q_aty k), qN S a, .inr (.inr (.inr (.inr (qAO S k a)))))
def q_F (cy : Nat → ClassId) (S : qS) : Nat → va_E := fun a => if qK S a < 10 then .inr (qK S a, q_fs S (qK S a) a) else q_arr cy S (qK S a) a
def q_w (cy : Nat → ClassId) (S : qS) : va_W := va_pl (qL S) (q_F cy S)
def q_tys (cy : Nat → ClassId) : List (ClassId × FieldType) := [(cy 0, .int), (cy 1, .boolean), (cy 2, .long), (cy 3, .object "java/lang/Object"), (cy 4, .array .long)]
theorem q_F_o {cy : Nat → ClassId} {S : qS} {a ci : Nat} (h : qK S a = ci) (hc : ci < 10) : q_F cy S a = .inr (ci, q_fs S ci a) := by
  unfold q_F
  rw [h, if_pos hc]
theorem q_F_a {cy : Nat → ClassId} {S : qS} {a k : Nat} (h : qK S a = k) (hc : 10 ≤ k) : q_F cy S a = q_arr cy S k a := by
  unfold q_F
  rw [h, if_neg (by omega)]
theorem q_get {cy : Nat → ClassId} {S : qS} {a : Nat} (h : a ∈ qL S) : ∃ k : Nat, (q_w cy S)[k]? = some (a, q_F cy S a) := va_pl_get (X := []) h
theorem q_set {cy : Nat → ClassId} {S : qS} {A : Nat → Prop} {a k : Nat} {e : va_E} (hD : va_D A (q_w cy S)) (h : a ∈ qL S) (hk : (q_w cy S)[k]? = some (a, q_F cy S a)) : (q_w cy S).set k (a, e) = va_pl (qL S) (va_up (q_F cy S) a e) := va_pl_set (X := []) hD h hk
theorem q_fs_get {S : qS} {ci a k : Nat} (hk : k < q_n ci) : (q_fs S ci a)[k]? = some (q_val S (40 * ci + k) a) := by
  unfold q_fs
  rw [List.getElem?_map, List.getElem?_range hk]
  rfl
theorem q_fs_len {S : qS} {ci a : Nat} : (q_fs S ci a).length = q_n ci := by
  unfold q_fs
  rw [List.length_map, List.length_range]
/-- a field's store -/
theorem q_fs_set {S S' : qS} {ci a k : Nat} {v : Value} (hv : q_val S' (40 * ci + k) a = v) (ho : ∀ j, j ≠ k → q_val S' (40 * ci + j) a = q_val S (40 * ci + j) a) : (q_fs S ci a).set k v = q_fs S' ci a := by
  apply List.ext_getElem?
  intro j
  by_cases hj : j < q_n ci
  · by_cases e : j = k
    · subst e
      rw [List.getElem?_set_self (by rw [q_fs_len]; exact hj), q_fs_get hj, hv]
    · rw [List.getElem?_set_ne (Ne.symm e), q_fs_get hj, q_fs_get hj, ho j e]
  · rw [List.getElem?_eq_none (by rw [List.length_set, q_fs_len]; omega), List.getElem?_eq_none (by rw [q_fs_len]; omega)]
theorem q_up_o {cy : Nat → ClassId} {S S' : qS} {ci a k : Nat} {v : Value} (hL : qL S' = qL S) (hK : qK S' = qK S) (hN : qN S' = qN S) (h1 : qAI S' = qAI S) (h2 : qAJ S' = qAJ S) (h3 : qAO S' = qAO S) (ha : qK S a = ci) (hc : ci < 10) (hv : q_val S' (40 * ci + k) a = v) (ho : ∀ j b, (j ≠ 40 * ci + k ∨ b ≠ a) → q_val S' j b = q_val S j b) : va_pl (qL S) (va_up (q_F cy S) a (.inr (ci, (q_fs S ci a).set k v))) = q_w cy S' := by
  unfold q_w
  rw [hL]
  refine va_pl_congr (fun b => ?_)
  by_cases e : b = a
  · subst e
    rw [va_up_self, q_F_o (by rw [hK]; exact ha) hc, q_fs_set hv (fun j hj => ho _ _ (Or.inl (by omega)))]
  · rw [va_up_ne _ _ e]
    by_cases hb : qK S b < 10
    · rw [q_F_o rfl hb, q_F_o (S := S') (by rw [hK]) hb]
      have : q_fs S (qK S b) b = q_fs S' (qK S b) b := by
        unfold q_fs
        apply List.map_congr_left
        intro j _
        exact (ho _ _ (Or.inr e)).symm
      rw [this]
    · rw [q_F_a rfl (by omega), q_F_a (S := S') (by rw [hK]) (by omega)]
      unfold q_arr
      rw [hN, h1, h2, h3]
theorem q_up_I {cy : Nat → ClassId} {S : qS} {ci a k : Nat} {v : Int32} (ha : qK S a = ci) (hc : ci < 10) (ht : q_ty (40 * ci + k) = 0) : va_pl (qL S) (va_up (q_F cy S) a (.inr (ci, (q_fs S ci a).set k (.int v)))) = q_w cy (qsI S (40 * ci + k) a v) := by
  refine q_up_o rfl rfl rfl rfl rfl rfl ha hc ?_ ?_
  · simp [q_val, ht, qsI, qI, q_u2]
  · intro j b h
    have : ¬ (j = 40 * ci + k ∧ b = a) := fun q => h.elim (fun z => z q.1) (fun z => z q.2)
    simp [q_val, qsI, qI, qJ, qR, q_u2, this]
theorem q_up_J {cy : Nat → ClassId} {S : qS} {ci a k : Nat} {v : Int64} (ha : qK S a = ci) (hc : ci < 10) (ht : q_ty (40 * ci + k) = 1) : va_pl (qL S) (va_up (q_F cy S) a (.inr (ci, (q_fs S ci a).set k (.long v)))) = q_w cy (qsJ S (40 * ci + k) a v) := by
  refine q_up_o rfl rfl rfl rfl rfl rfl ha hc ?_ ?_
  · simp [q_val, ht, qsJ, qJ, q_u2]
  · intro j b h
    have : ¬ (j = 40 * ci + k ∧ b = a) := fun q => h.elim (fun z => z q.1) (fun z => z q.2)
    simp [q_val, qsJ, qI, qJ, qR, q_u2, this]
theorem q_up_R {cy : Nat → ClassId} {S : qS} {ci a k : Nat} {v : Option Nat} (ha : qK S a = ci) (hc : ci < 10) (ht : q_ty (40 * ci + k) = 2) : va_pl (qL S) (va_up (q_F cy S) a (.inr (ci, (q_fs S ci a).set k (va_rf v)))) = q_w cy (qsR S (40 * ci + k) a v) := by
  refine q_up_o rfl rfl rfl rfl rfl rfl ha hc ?_ ?_
  · simp [q_val, ht, qsR, qR, q_u2]
  · intro j b h
    have : ¬ (j = 40 * ci + k ∧ b = a) := fun q => h.elim (fun z => z q.1) (fun z => z q.2)
    simp [q_val, qsR, qI, qJ, qR, q_u2, this]
/-- an array's store -/
theorem q_up_a {cy : Nat → ClassId} {S S' : qS} {a k : Nat} {e : va_E} (hL : qL S' = qL S) (hK : qK S' = qK S) (hN : qN S' = qN S) (h1 : qI S' = qI S) (h2 : qJ S' = qJ S) (h3 : qR S' = qR S) (ha : qK S a = k) (hc : 10 ≤ k) (hv : q_arr cy S' k a = e) (ho : ∀ b, b ≠ a → q_arr cy S' (qK S b) b = q_arr cy S (qK S b) b) : va_pl (qL S) (va_up (q_F cy S) a e) = q_w cy S' := by
  unfold q_w
  rw [hL]
  refine va_pl_congr (fun b => ?_)
  by_cases q : b = a
  · subst q
    rw [va_up_self, q_F_a (by rw [hK]; exact ha) hc, hv]
  · rw [va_up_ne _ _ q]
    by_cases hb : qK S b < 10
    · rw [q_F_o rfl hb, q_F_o (S := S') (by rw [hK]) hb]
      have : q_fs S (qK S b) b = q_fs S' (qK S b) b := by
        unfold q_fs q_val
        rw [h1, h2, h3]
      rw [this]
    · rw [q_F_a rfl (by omega), q_F_a (S := S') (by rw [hK]) (by omega), ho b q]
theorem q_up_AI {cy : Nat → ClassId} {S : qS} {a k i : Nat} {v : Int32} (ha : qK S a = k) (hc : 10 ≤ k) (ht : q_aty k < 2) : va_pl (qL S) (va_up (q_F cy S) a (.inl (cy (q_aty k), qN S a, .inl (upd (qAI S k a) i v)))) = q_w cy (qsAI S k a i v) := by
  refine q_up_a rfl rfl rfl rfl rfl rfl ha hc ?_ ?_
  · simp [q_arr, ht, qsAI, qAI, qN, q_u2]
  · intro b h
    simp [q_arr, qsAI, qAI, qAJ, qAO, qN, q_u2, h]
theorem q_up_AJ {cy : Nat → ClassId} {S : qS} {a k i : Nat} {v : Int64} (ha : qK S a = k) (hc : 10 ≤ k) (ht : q_aty k = 2) : va_pl (qL S) (va_up (q_F cy S) a (.inl (cy 2, qN S a, .inr (.inl (vp_updL (qAJ S k a) i v))))) = q_w cy (qsAJ S k a i v) := by
  refine q_up_a rfl rfl rfl rfl rfl rfl ha hc ?_ ?_
  · simp [q_arr, ht, qsAJ, qAJ, qN, q_u2]
  · intro b h
    simp [q_arr, qsAJ, qAI, qAJ, qAO, qN, q_u2, h]
theorem q_up_AO {cy : Nat → ClassId} {S : qS} {a k i : Nat} {v : Option Nat} (ha : qK S a = k) (hc : 10 ≤ k) (ht : 2 < q_aty k) : va_pl (qL S) (va_up (q_F cy S) a (.inl (cy (q_aty k), qN S a, .inr (.inr (.inr (.inr (va_up (qAO S k a) i v))))))) = q_w cy (qsAO S k a i v) := by
  refine q_up_a rfl rfl rfl rfl rfl rfl ha hc ?_ ?_
  · simp [q_arr, show ¬ q_aty k < 2 by omega, show ¬ q_aty k = 2 by omega, qsAO, qAO, qN, q_u2]
  · intro b h
    simp [q_arr, qsAO, qAI, qAJ, qAO, qN, q_u2, h]
/-- a new cell -/
theorem q_push {cy : Nat → ClassId} {S : qS} {k q n : Nat} {e : va_E} (hq : q ∉ qL S) (he : q_F cy (q_nw S k q n) q = e) : q_w cy S ++ [(q, e)] = q_w cy (q_nw S k q n) := by
  unfold q_w
  rw [va_pl_push hq]
  show va_pl (qL S ++ [q]) _ = va_pl (qL S ++ [q]) _
  refine va_pl_congr (fun b => ?_)
  by_cases h : b = q
  · subst h
    rw [va_up_self, he]
  · rw [va_up_ne _ _ h]
    have hKb : qK (q_nw S k q n) b = qK S b := by simp [q_nw, qK, va_up, h]
    by_cases hb : qK S b < 10
    · rw [q_F_o rfl hb, q_F_o hKb hb]
      have : q_fs S (qK S b) b = q_fs (q_nw S k q n) (qK S b) b := by
        unfold q_fs q_val
        simp [q_nw, qI, qJ, qR, h]
      rw [this]
    · rw [q_F_a rfl (by omega), q_F_a hKb (by omega)]
      unfold q_arr
      simp [q_nw, qN, qAI, qAJ, qAO, va_up, h]
end
section
/-! Rows over the pool: what an instruction asks of the maps (w_..), and its step (q_..). -/
abbrev qG : Type := va_G × (Nat → ClassId) × Nat × Nat
theorem q_cat (r : Option Nat) : (va_rf r).category = 1 := by cases r <;> rfl
def q_A (G : qG) (S : qS) (sz : Nat) : Nat → Prop := va_A (q_w G.2.1 S) sz
def q_strs : List (String × Nat × String) := [("GoodsKeeper", 53, "there are 10 players"), ("GoodsKeeper", 67, "there are 10 rules"), ("GoodsKeeper", 327, "there is no such rule"), ("GoodsKeeper", 331, "there is no such kind"), ("GoodsKeeper", 333, "a number is out of its range"), ("GoodsKeeper", 324, "there is no such player"), ("GoodsKeeper", 117, "there are 40 singles"), ("GoodsKeeper$Things", 26, "there is no such single"), ("GoodsKeeper", 205, "what is not 0 to 8"), ("GoodsKeeper", 220, "the players are one"), ("GoodsKeeper", 224, "there are 60 offers"), ("GoodsKeeper", 329, "there is no such offer")]
def q_casts : List (String × String) := [("java/lang/UnsupportedOperationException", "java/lang/UnsupportedOperationException"), ("java/lang/IndexOutOfBoundsException", "java/lang/IndexOutOfBoundsException"), ("java/lang/IllegalArgumentException", "java/lang/IllegalArgumentException"), ("java/util/NoSuchElementException", "java/util/NoSuchElementException"), ("GoodsKeeper$Player", "java/lang/Object"), ("GoodsKeeper$Rule", "java/lang/Object"), ("GoodsKeeper$Offer", "java/lang/Object"), ("GoodsKeeper$Single", "java/lang/Object")]
def q_ncs : List (String × String) := [("java/lang/UnsupportedOperationException", "java/lang/IndexOutOfBoundsException"), ("java/lang/UnsupportedOperationException", "java/lang/IllegalArgumentException"), ("java/lang/UnsupportedOperationException", "java/util/NoSuchElementException"), ("java/lang/IndexOutOfBoundsException", "java/lang/UnsupportedOperationException"), ("java/lang/IndexOutOfBoundsException", "java/lang/IllegalArgumentException"), ("java/lang/IndexOutOfBoundsException", "java/util/NoSuchElementException"), ("java/lang/IllegalArgumentException", "java/lang/UnsupportedOperationException"), ("java/lang/IllegalArgumentException", "java/lang/IndexOutOfBoundsException"), ("java/lang/IllegalArgumentException", "java/util/NoSuchElementException"), ("java/util/NoSuchElementException", "java/lang/UnsupportedOperationException"), ("java/util/NoSuchElementException", "java/lang/IndexOutOfBoundsException"), ("java/util/NoSuchElementException", "java/lang/IllegalArgumentException")]
def q_nests : List (String × Nat × MethodName) := [("GoodsKeeper", 24, yX6_init), ("GoodsKeeper", 31, yX0_init)]
def q_decls : List MethodName := [⟨"java/lang/RuntimeException", "<init>", "()V"⟩, ⟨"java/lang/RuntimeException", "<init>", "(Ljava/lang/String;)V"⟩, ⟨"java/lang/Exception", "<init>", "()V"⟩, ⟨"java/lang/Exception", "<init>", "(Ljava/lang/String;)V"⟩, ⟨"java/lang/Throwable", "<init>", "()V"⟩, ⟨"java/lang/Throwable", "<init>", "(Ljava/lang/String;)V"⟩]
/-- what the tables hold that is no word of bg -/
def q_V (G : qG) (U : State) : Prop :=
  (U.vm.findClass "[I" = some (G.2.1 0) ∧ U.vm.findClass "[Z" = some (G.2.1 1) ∧ U.vm.findClass "[J" = some (G.2.1 2) ∧ U.vm.findClass "[Ljava/lang/Object;" = some (G.2.1 3) ∧ U.vm.findClass "[[J" = some (G.2.1 4)) ∧
  (va_AO "java/lang/Object" U ∧ va_AOA .long U ∧ va_Dc U ∧ va_Mi "[Ljava/lang/Object;" G.2.2.2 U) ∧
  (∀ q ∈ q_strs, ∃ a, vk_R q.1 q.2.1 q.2.2 a U) ∧ (∀ q ∈ q_casts, va_Nw (.castable q.1 q.2) U) ∧ (∀ q ∈ q_ncs, va_Nc q.1 q.2 U) ∧ (∀ q ∈ q_nests, va_Nw (.methodLinkNest q.1 q.2.1 q.2.2 "GoodsKeeper") U) ∧ (∀ q ∈ q_decls, va_Nw (.declares q) U)
def q_Z (G : qG) (A : Nat → Prop) (U : State) (H : Heap) : Prop :=
  vx_Zq Bundle.tN "UNASSIGNED_STACK" Bundle.steD A U H ∧ vx_Zq Bundle.tN "SUPPRESSED_SENTINEL" Bundle.listD A U H ∧ va_Z RJx4a65c "DEFAULTCAPACITY_EMPTY_ELEMENTDATA" "[Ljava/lang/Object;" (.ref G.2.2.1) A U H ∧ va_T (.object "java/lang/Object") G.2.2.1 0 (fun _ => .null) A U H
def q_E (G : qG) (A : Nat → Prop) (U : State) (H : Heap) : Prop := va_K G.1 vwCl (q_tys G.2.1) U ∧ q_V G U ∧ q_Z G A U H
theorem q_AOA_moved {t : FieldType} {u U : State} (hvm : u.vm.Alike U.vm) (h : va_AOA t u) : va_AOA t U := over_moved hvm h
theorem q_find {u U : State} (hvm : u.vm.Alike U.vm) {n : String} {c : ClassId} (h : u.vm.findClass n = some c) : U.vm.findClass n = some c := by
  rw [hvm.findClass]
  exact h
theorem q_V.warm {G : qG} {s U : State} (hW : s.WarmedH U.vm) (h : q_V G s) : q_V G U := by
  obtain ⟨⟨a1, a2, a3, a4, a5⟩, ⟨b1, b2, b3, b4⟩, c1, c2, c3, c4, c5⟩ := h
  have hv := hW.alike
  refine ⟨⟨q_find hv a1, q_find hv a2, q_find hv a3, q_find hv a4, q_find hv a5⟩, ⟨b1.moved hv, q_AOA_moved hv b2, b3.moved hv, b4.moved hv⟩, fun q hq => ?_, fun q hq => (c2 q hq).warmC hW, fun q hq => (c3 q hq).moved hv, fun q hq => (c4 q hq).warmM hW, fun q hq => (c5 q hq).warmD hW⟩
  obtain ⟨a, ha⟩ := c1 q hq
  exact ⟨a, ha.warm hW⟩
theorem q_V.same {G : qG} {u U : State} (hv : u.vm = U.vm) (h : q_V G u) : q_V G U := by
  obtain ⟨⟨a1, a2, a3, a4, a5⟩, ⟨b1, b2, b3, b4⟩, c1, c2, c3, c4, c5⟩ := h
  have hA : u.vm.Alike U.vm := by rw [hv]; exact Vm.Alike.refl _
  refine ⟨⟨q_find hA a1, q_find hA a2, q_find hA a3, q_find hA a4, q_find hA a5⟩, ⟨b1.moved hA, q_AOA_moved hA b2, b3.moved hA, b4.moved hA⟩, fun q hq => ?_, fun q hq => (c2 q hq).same rfl hv, fun q hq => (c3 q hq).moved hA, fun q hq => (c4 q hq).same rfl hv, fun q hq => (c5 q hq).same rfl hv⟩
  obtain ⟨a, ha⟩ := c1 q hq
  exact ⟨a, ha.same hv.symm⟩
theorem q_Z.step {G : qG} {A B : Nat → Prop} {u U : State} {H H1 : Heap} (hv : u.vm.Alike U.vm) (hq : ∀ a : Nat, a < H.size → ¬ A a → H1[a]? = H[a]?) (hB : ∀ q, B q → A q) (h : q_Z G A u H) : q_Z G B U H1 := by
  obtain ⟨h1, h2, h3, h4⟩ := h
  exact ⟨((h1.moved hv).kept hq).narrow hB, ((h2.moved hv).kept hq).narrow hB, ((h3.moved hv).kept hq).narrow hB, ((h4.moved hv).kept hq).narrow hB⟩
theorem q_E.warm {G : qG} {A B : Nat → Prop} {s U : State} {H : Heap} (hW : s.WarmedH U.vm) (hq : ∀ a : Nat, a < s.heap.size → ¬ A a → H[a]? = s.heap[a]?) (hB : ∀ q, B q → A q) (hU : U.heap = H) (h : q_E G A s s.heap) : q_E G B U U.heap := by
  rw [hU]
  exact ⟨h.1.moved hW.alike, h.2.1.warm hW, h.2.2.step hW.alike hq hB⟩
def q_X (p : Program) (l : Launch) (s : State) (m : MethodId) (args : Array Value) (meth : Method) (c : Code) (cc : ByteArray) (own : String) (nL : Nat) (G : qG) (A : Nat → Prop) : Prop :=
  p.tables.exec = Jvm.exec ∧ c.code = cc ∧ s.vm.findClass own = some m.cls ∧ (∀ w ∈ bg, w.before args s = true) ∧ c.maxLocals = nL ∧ meth.locks = false ∧ l.stackTraces = false ∧ (∀ q, s.heap.size ≤ q → A q) ∧ q_E G A s s.heap
def q_H (G : qG) (A : Nat → Prop) (s : State) (H : Heap) (locs : List Loc) (S : qS) : Prop := va_P G.1 vwCl (q_w G.2.1 S) H ∧ va_D A (q_w G.2.1 S) ∧ va_S A s.heap H locs
def w_at (S : qS) (r : Option Nat) (k : Nat) (K : Nat → Prop) : Prop := ∃ a, r = some a ∧ a ∈ qL S ∧ qK S a = k ∧ K a
def w_getI (S : qS) (r : Option Nat) (ci k : Nat) (K : Int32 → Prop) : Prop := w_at S r ci (fun a => K (qI S (40 * ci + k) a))
def w_getJ (S : qS) (r : Option Nat) (ci k : Nat) (K : Int64 → Prop) : Prop := w_at S r ci (fun a => K (qJ S (40 * ci + k) a))
def w_getR (S : qS) (r : Option Nat) (ci k : Nat) (K : Option Nat → Prop) : Prop := w_at S r ci (fun a => K (qR S (40 * ci + k) a))
def w_putI (S : qS) (r : Option Nat) (ci k : Nat) (v : Int32) (K : qS → Prop) : Prop := w_at S r ci (fun a => K (qsI S (40 * ci + k) a v))
def w_putZ (S : qS) (r : Option Nat) (ci k : Nat) (v : Int32) (K : qS → Prop) : Prop := w_at S r ci (fun a => (v = 0 ∨ v = 1) ∧ K (qsI S (40 * ci + k) a v))
def w_putJ (S : qS) (r : Option Nat) (ci k : Nat) (v : Int64) (K : qS → Prop) : Prop := w_at S r ci (fun a => K (qsJ S (40 * ci + k) a v))
def w_putR (S : qS) (r : Option Nat) (ci k : Nat) (v : Option Nat) (K : qS → Prop) : Prop := w_at S r ci (fun a => K (qsR S (40 * ci + k) a v))
def w_ldI (S : qS) (r : Option Nat) (k : Nat) (i : Int32) (K : Int32 → Prop) : Prop := w_at S r k (fun a => vp_in i (qN S a) ∧ K (qAI S k a i.toNatClampNeg))
def w_ldJ (S : qS) (r : Option Nat) (k : Nat) (i : Int32) (K : Int64 → Prop) : Prop := w_at S r k (fun a => vp_in i (qN S a) ∧ K (qAJ S k a i.toNatClampNeg))
def w_ldO (S : qS) (r : Option Nat) (k : Nat) (i : Int32) (K : Option Nat → Prop) : Prop := w_at S r k (fun a => vp_in i (qN S a) ∧ K (qAO S k a i.toNatClampNeg))
def w_stI (S : qS) (r : Option Nat) (k : Nat) (i v : Int32) (K : qS → Prop) : Prop := w_at S r k (fun a => vp_in i (qN S a) ∧ K (qsAI S k a i.toNatClampNeg v))
def w_stZ (S : qS) (r : Option Nat) (k : Nat) (i v : Int32) (K : qS → Prop) : Prop := w_at S r k (fun a => vp_in i (qN S a) ∧ K (qsAI S k a i.toNatClampNeg (vp_nar .boolean v)))
def w_stJ (S : qS) (r : Option Nat) (k : Nat) (i : Int32) (v : Int64) (K : qS → Prop) : Prop := w_at S r k (fun a => vp_in i (qN S a) ∧ K (qsAJ S k a i.toNatClampNeg v))
def w_len (S : qS) (r : Option Nat) (k : Nat) (K : Int32 → Prop) : Prop := w_at S r k (fun a => K (nI (qN S a)))
section QV
variable {p : Program} {l : Launch} {e : Env} {R : Room} {s : State} {m : MethodId} {args : Array Value} {below : List Frame} {meth : Method} {c : Code} {H : Heap} {locs : List Loc} {cells slots : Nat} {Q : State → Prop}
variable {cc : ByteArray} {pc nL : Nat} {ls : Array Slot} {rest : List Value} {own : String} {G : qG} {A : Nat → Prop} {S : qS} {r : Option Nat}
theorem q_aload_n {k : Fin 4} {i : Nat} (X : q_X p l s m args meth c cc own nL G A) (hdg : decode cc pc = .ok (.aload_n k, 1)) (hi : (k : Nat) = i) (hl : ls[i]? = some (.val (va_rf r))) (kk : W p l e R s m args below meth c H locs cells slots Q (F0 m (pc + 1) ls (va_rf r :: rest))) : W p l e R s m args below meth c H locs cells slots Q (F0 m pc ls rest) := by
  cases r with
  | none => exact lv_aload_nN X.1 X.2.1 hdg hi hl kk
  | some a => exact lv_aload_n X.1 X.2.1 hdg hi hl kk
theorem q_aload {i : Nat} (X : q_X p l s m args meth c cc own nL G A) (hdg : decode cc pc = .ok (.aload i, 2)) (hl : ls[i]? = some (.val (va_rf r))) (kk : W p l e R s m args below meth c H locs cells slots Q (F0 m (pc + 2) ls (va_rf r :: rest))) : W p l e R s m args below meth c H locs cells slots Q (F0 m pc ls rest) := by
  cases r with
  | none => exact lv_aloadN X.1 X.2.1 hdg hl kk
  | some a => exact lv_aload X.1 X.2.1 hdg hl kk
theorem q_astore_n {k : Fin 4} {i : Nat} {lv lv' : List (Nat × Value)} (X : q_X p l s m args meth c cc own nL G A) (hdg : decode cc pc = .ok (.astore_n k, 1)) (hi : (k : Nat) = i) (h : lv_has ls nL lv) (hn : i < nL) (hl : (i, va_rf r) :: lv.filter (fun q => !(q.1 == i) && !(q.1 + 1 == i && q.2.category == 2)) = lv') (kk : ∀ ls' : Array Slot, lv_has ls' nL lv' → W p l e R s m args below meth c H locs cells slots Q (F0 m (pc + 1) ls' rest)) : W p l e R s m args below meth c H locs cells slots Q (F0 m pc ls (va_rf r :: rest)) := by
  cases r with
  | none => exact lv_astore_nN X.1 X.2.1 hdg hi h hn hl kk
  | some a => exact lv_astore_n X.1 X.2.1 hdg hi h hn hl kk
theorem q_astore {i : Nat} {lv lv' : List (Nat × Value)} (X : q_X p l s m args meth c cc own nL G A) (hdg : decode cc pc = .ok (.astore i, 2)) (h : lv_has ls nL lv) (hn : i < nL) (hl : (i, va_rf r) :: lv.filter (fun q => !(q.1 == i) && !(q.1 + 1 == i && q.2.category == 2)) = lv') (kk : ∀ ls' : Array Slot, lv_has ls' nL lv' → W p l e R s m args below meth c H locs cells slots Q (F0 m (pc + 2) ls' rest)) : W p l e R s m args below meth c H locs cells slots Q (F0 m pc ls (va_rf r :: rest)) := by
  cases r with
  | none => exact lv_astoreN X.1 X.2.1 hdg h hn hl kk
  | some a => exact lv_astore X.1 X.2.1 hdg h hn hl kk
theorem q_ifnull {off : Int} {tgt : Nat} (X : q_X p l s m args meth c cc own nL G A) (hdg : decode cc pc = .ok (.ifnull off, 3)) (ht : (pc : Int) + off = (tgt : Int)) (kt : r = none → W p l e R s m args below meth c H locs cells slots Q (F0 m tgt ls rest)) (kf : ¬ r = none → W p l e R s m args below meth c H locs cells slots Q (F0 m (pc + 3) ls rest)) : W p l e R s m args below meth c H locs cells slots Q (F0 m pc ls (va_rf r :: rest)) := by
  cases r with
  | none => exact lv_ifnullN X.1 X.2.1 hdg ht (kt rfl)
  | some a => exact lv_ifnull X.1 X.2.1 hdg (kf (by simp))
theorem q_ifnonnull {off : Int} {tgt : Nat} (X : q_X p l s m args meth c cc own nL G A) (hdg : decode cc pc = .ok (.ifnonnull off, 3)) (ht : (pc : Int) + off = (tgt : Int)) (kt : ¬ r = none → W p l e R s m args below meth c H locs cells slots Q (F0 m tgt ls rest)) (kf : r = none → W p l e R s m args below meth c H locs cells slots Q (F0 m (pc + 3) ls rest)) : W p l e R s m args below meth c H locs cells slots Q (F0 m pc ls (va_rf r :: rest)) := by
  cases r with
  | none => exact lv_ifnonnullN X.1 X.2.1 hdg (kf rfl)
  | some a => exact lv_ifnonnull X.1 X.2.1 hdg ht (kt (by simp))
/-- the cell of an object, and its place -/
theorem q_at_o {ci a : Nat} {q : vw_C} (hc : vwCl[ci]? = some q) (ha : a ∈ qL S) (hk : qK S a = ci) : ∃ k0 : Nat, (q_w G.2.1 S)[k0]? = some (a, q_F G.2.1 S a) ∧ (q_w G.2.1 S)[k0]? = some (a, .inr (ci, q_fs S ci a)) ∧ q_n ci = q.2.2 ∧ ci < 10 := by
  obtain ⟨k0, h0⟩ := q_get (cy := G.2.1) ha
  have h10 : ci < 10 := (List.getElem?_eq_some_iff.mp hc).1
  refine ⟨k0, h0, ?_, ?_, h10⟩
  · rw [h0, q_F_o hk h10]
  · unfold q_n
    rw [hc]
    rfl
theorem q_at_a {k a : Nat} (hk10 : 10 ≤ k) (ha : a ∈ qL S) (hk : qK S a = k) : ∃ k0 : Nat, (q_w G.2.1 S)[k0]? = some (a, q_F G.2.1 S a) ∧ (q_w G.2.1 S)[k0]? = some (a, q_arr G.2.1 S k a) := by
  obtain ⟨k0, h0⟩ := q_get (cy := G.2.1) ha
  exact ⟨k0, h0, by rw [h0, q_F_a hk hk10]⟩
theorem q_getI {ci k index : Nat} {C : String} {T : u_T} {N : Nat} {K : Int32 → Prop} (X : q_X p l s m args meth c cc own nL G A) (I : q_H G A s H locs S) (hc : vwCl[ci]? = some (C, T, N)) (hin : ∀ w ∈ u_ws C T N, w ∈ bg) (hw : Cond.fieldLink own index (T k).1 (T k).2.1 (T k).2.2.1 ∈ bg) (hk : k < N) (ht : q_ty (40 * ci + k) = 0) (hdg : decode cc pc = .ok (.getfield index, 3)) (h : w_getI S r ci k K) (kk : ∀ v, K v → W p l e R s m args below meth c H locs cells slots Q (F0 m (pc + 3) ls (.int v :: rest))) : W p l e R s m args below meth c H locs cells slots Q (F0 m pc ls (va_rf r :: rest)) := by
  obtain ⟨a, rfl, ha, hka, h⟩ := h
  obtain ⟨k0, h0, h1, hn, -⟩ := q_at_o (G := G) hc ha hka
  refine va_get (D := G.1) (ci := ci) X.1 X.2.1 X.2.2.2.1 hin X.2.2.1 X.2.2.2.2.2.2.2.2.1 I.1 k0 h1 hc k hk (X.2.2.2.1 _ hw) (fun _ h9 => h9) (q_fs_get (by rw [hn]; exact hk)) hdg ?_
  rw [show q_val S (40 * ci + k) a = .int (qI S (40 * ci + k) a) by simp [q_val, ht]]
  exact kk _ h
theorem q_getJ {ci k index : Nat} {C : String} {T : u_T} {N : Nat} {K : Int64 → Prop} (X : q_X p l s m args meth c cc own nL G A) (I : q_H G A s H locs S) (hc : vwCl[ci]? = some (C, T, N)) (hin : ∀ w ∈ u_ws C T N, w ∈ bg) (hw : Cond.fieldLink own index (T k).1 (T k).2.1 (T k).2.2.1 ∈ bg) (hk : k < N) (ht : q_ty (40 * ci + k) = 1) (hdg : decode cc pc = .ok (.getfield index, 3)) (h : w_getJ S r ci k K) (kk : ∀ v, K v → W p l e R s m args below meth c H locs cells slots Q (F0 m (pc + 3) ls (.long v :: rest))) : W p l e R s m args below meth c H locs cells slots Q (F0 m pc ls (va_rf r :: rest)) := by
  obtain ⟨a, rfl, ha, hka, h⟩ := h
  obtain ⟨k0, h0, h1, hn, -⟩ := q_at_o (G := G) hc ha hka
  refine va_get (D := G.1) (ci := ci) X.1 X.2.1 X.2.2.2.1 hin X.2.2.1 X.2.2.2.2.2.2.2.2.1 I.1 k0 h1 hc k hk (X.2.2.2.1 _ hw) (fun _ h9 => h9) (q_fs_get (by rw [hn]; exact hk)) hdg ?_
  rw [show q_val S (40 * ci + k) a = .long (qJ S (40 * ci + k) a) by simp [q_val, ht]]
  exact kk _ h
theorem q_getR {ci k index : Nat} {C : String} {T : u_T} {N : Nat} {K : Option Nat → Prop} (X : q_X p l s m args meth c cc own nL G A) (I : q_H G A s H locs S) (hc : vwCl[ci]? = some (C, T, N)) (hin : ∀ w ∈ u_ws C T N, w ∈ bg) (hw : Cond.fieldLink own index (T k).1 (T k).2.1 (T k).2.2.1 ∈ bg) (hk : k < N) (ht : q_ty (40 * ci + k) = 2) (hdg : decode cc pc = .ok (.getfield index, 3)) (h : w_getR S r ci k K) (kk : ∀ v, K v → W p l e R s m args below meth c H locs cells slots Q (F0 m (pc + 3) ls (va_rf v :: rest))) : W p l e R s m args below meth c H locs cells slots Q (F0 m pc ls (va_rf r :: rest)) := by
  obtain ⟨a, rfl, ha, hka, h⟩ := h
  obtain ⟨k0, h0, h1, hn, -⟩ := q_at_o (G := G) hc ha hka
  refine va_get (D := G.1) (ci := ci) X.1 X.2.1 X.2.2.2.1 hin X.2.2.1 X.2.2.2.2.2.2.2.2.1 I.1 k0 h1 hc k hk (X.2.2.2.1 _ hw) (fun _ h9 => h9) (q_fs_get (by rw [hn]; exact hk)) hdg ?_
  rw [show q_val S (40 * ci + k) a = va_rf (qR S (40 * ci + k) a) by simp [q_val, ht]]
  exact kk _ h
end QV
end
section
/-! Rows over the pool: stores, arrays, new cells. -/
section QV
variable {p : Program} {l : Launch} {e : Env} {R : Room} {s : State} {m : MethodId} {args : Array Value} {below : List Frame} {meth : Method} {c : Code} {H : Heap} {locs : List Loc} {cells slots : Nat} {Q : State → Prop}
variable {cc : ByteArray} {pc nL : Nat} {ls : Array Slot} {rest : List Value} {own : String} {G : qG} {A : Nat → Prop} {S : qS} {r : Option Nat}
theorem q_put {ci k index a : Nat} {C : String} {T : u_T} {N : Nat} {ty0 : Nat → FieldType} {v : Value} {S' : qS} (X : q_X p l s m args meth c cc own nL G A) (I : q_H G A s H locs S) (hc : vwCl[ci]? = some (C, T, N)) (hin : ∀ w ∈ u_ws C T N, w ∈ bg) (hty : ∀ k, k < N → parseFieldDescriptor (T k).2.2.1 = some (ty0 k)) (hnm : ∀ a, a < N → ∀ b, b < N → a ≠ b → (T a).2.1 ≠ (T b).2.1) (hw : Cond.fieldLink own index (T k).1 (T k).2.1 (T k).2.2.1 ∈ bg) (hk : k < N) (hfin : (T k).2.2.2 = false ∨ ((T k).2.2.2 = true ∧ meth.name = "<init>" ∧ (T k).1 = own)) (hn : narrow (ty0 k) v = v) (hfit : fits (ty0 k) v = true) (hdg : decode cc pc = .ok (.putfield index, 3)) (ha : a ∈ qL S) (hka : qK S a = ci) (hS' : va_pl (qL S) (va_up (q_F G.2.1 S) a (.inr (ci, (q_fs S ci a).set k v))) = q_w G.2.1 S') (kk : ∀ H1 locs1, q_H G A s H1 locs1 S' → W p l e R s m args below meth c H1 locs1 cells slots Q (F0 m (pc + 3) ls rest)) : W p l e R s m args below meth c H locs cells slots Q (F0 m pc ls (v :: .ref a :: rest)) := by
  obtain ⟨k0, h0, h1, hnn, -⟩ := q_at_o (G := G) hc ha hka
  have hset : (q_w G.2.1 S).set k0 (a, .inr (ci, (q_fs S ci a).set k v)) = q_w G.2.1 S' := by rw [q_set I.2.1 ha h0, hS']
  have hl : k < (q_fs S ci a).length := by rw [q_fs_len, hnn]; exact hk
  rcases hfin with hf | ⟨hf1, hf2, hf3⟩
  · refine va_put (D := G.1) (ci := ci) X.1 X.2.1 X.2.2.2.1 hin ty0 hty hnm X.2.2.1 X.2.2.2.2.2.2.2.2.1 I.1 I.2.1 I.2.2 k0 h1 hc k hk (X.2.2.2.1 _ hw) (fun _ h9 => h9) hf (hty k hk) hn hfit hl hdg (fun H1 locs1 a1 a2 a3 => ?_)
    rw [hset] at a1 a2
    exact kk H1 locs1 ⟨a1, a2, a3⟩
  · refine va_putF (D := G.1) (ci := ci) X.1 X.2.1 X.2.2.2.1 hin ty0 hty hnm X.2.2.1 X.2.2.2.2.2.2.2.2.1 I.1 I.2.1 I.2.2 k0 h1 hc k hk (X.2.2.2.1 _ hw) (fun _ h9 => h9) hf1 hf2 hf3 (hty k hk) hn hfit hl hdg (fun H1 locs1 a1 a2 a3 => ?_)
    rw [hset] at a1 a2
    exact kk H1 locs1 ⟨a1, a2, a3⟩
theorem q_nZ {v : Int32} (h : v = 0 ∨ v = 1) : narrow .boolean (.int v) = .int v := by rcases h with rfl | rfl <;> rfl
theorem q_nR {ty : FieldType} (h : (∃ n, ty = .object n) ∨ ∃ t, ty = .array t) (v : Option Nat) : narrow ty (va_rf v) = va_rf v ∧ fits ty (va_rf v) = true := by
  rcases h with ⟨n, rfl⟩ | ⟨t, rfl⟩ <;> cases v <;> exact ⟨rfl, rfl⟩
theorem q_putI {ci k index : Nat} {C : String} {T : u_T} {N : Nat} {ty0 : Nat → FieldType} {v : Int32} {K : qS → Prop} (X : q_X p l s m args meth c cc own nL G A) (I : q_H G A s H locs S) (hc : vwCl[ci]? = some (C, T, N)) (hin : ∀ w ∈ u_ws C T N, w ∈ bg) (hty : ∀ k, k < N → parseFieldDescriptor (T k).2.2.1 = some (ty0 k)) (hnm : ∀ a, a < N → ∀ b, b < N → a ≠ b → (T a).2.1 ≠ (T b).2.1) (hw : Cond.fieldLink own index (T k).1 (T k).2.1 (T k).2.2.1 ∈ bg) (hk : k < N) (hfin : (T k).2.2.2 = false ∨ ((T k).2.2.2 = true ∧ meth.name = "<init>" ∧ (T k).1 = own)) (ht : q_ty (40 * ci + k) = 0) (htk : ty0 k = .int) (hdg : decode cc pc = .ok (.putfield index, 3)) (h : w_putI S r ci k v K) (kk : ∀ S' H1 locs1, q_H G A s H1 locs1 S' → K S' → W p l e R s m args below meth c H1 locs1 cells slots Q (F0 m (pc + 3) ls rest)) : W p l e R s m args below meth c H locs cells slots Q (F0 m pc ls (.int v :: va_rf r :: rest)) := by
  obtain ⟨a, rfl, ha, hka, h⟩ := h
  obtain ⟨-, -, -, -, h10⟩ := q_at_o (G := G) hc ha hka
  exact q_put X I hc hin hty hnm hw hk hfin (by rw [htk]; rfl) (by rw [htk]; rfl) hdg ha hka (q_up_I hka h10 ht) (fun H1 locs1 I1 => kk _ H1 locs1 I1 h)
theorem q_putZ {ci k index : Nat} {C : String} {T : u_T} {N : Nat} {ty0 : Nat → FieldType} {v : Int32} {K : qS → Prop} (X : q_X p l s m args meth c cc own nL G A) (I : q_H G A s H locs S) (hc : vwCl[ci]? = some (C, T, N)) (hin : ∀ w ∈ u_ws C T N, w ∈ bg) (hty : ∀ k, k < N → parseFieldDescriptor (T k).2.2.1 = some (ty0 k)) (hnm : ∀ a, a < N → ∀ b, b < N → a ≠ b → (T a).2.1 ≠ (T b).2.1) (hw : Cond.fieldLink own index (T k).1 (T k).2.1 (T k).2.2.1 ∈ bg) (hk : k < N) (hfin : (T k).2.2.2 = false ∨ ((T k).2.2.2 = true ∧ meth.name = "<init>" ∧ (T k).1 = own)) (ht : q_ty (40 * ci + k) = 0) (htk : ty0 k = .boolean) (hdg : decode cc pc = .ok (.putfield index, 3)) (h : w_putZ S r ci k v K) (kk : ∀ S' H1 locs1, q_H G A s H1 locs1 S' → K S' → W p l e R s m args below meth c H1 locs1 cells slots Q (F0 m (pc + 3) ls rest)) : W p l e R s m args below meth c H locs cells slots Q (F0 m pc ls (.int v :: va_rf r :: rest)) := by
  obtain ⟨a, rfl, ha, hka, hz, h⟩ := h
  obtain ⟨-, -, -, -, h10⟩ := q_at_o (G := G) hc ha hka
  exact q_put X I hc hin hty hnm hw hk hfin (by rw [htk]; exact q_nZ hz) (by rw [htk]; rcases hz with rfl | rfl <;> rfl) hdg ha hka (q_up_I hka h10 ht) (fun H1 locs1 I1 => kk _ H1 locs1 I1 h)
theorem q_putJ {ci k index : Nat} {C : String} {T : u_T} {N : Nat} {ty0 : Nat → FieldType} {v : Int64} {K : qS → Prop} (X : q_X p l s m args meth c cc own nL G A) (I : q_H G A s H locs S) (hc : vwCl[ci]? = some (C, T, N)) (hin : ∀ w ∈ u_ws C T N, w ∈ bg) (hty : ∀ k, k < N → parseFieldDescriptor (T k).2.2.1 = some (ty0 k)) (hnm : ∀ a, a < N → ∀ b, b < N → a ≠ b → (T a).2.1 ≠ (T b).2.1) (hw : Cond.fieldLink own index (T k).1 (T k).2.1 (T k).2.2.1 ∈ bg) (hk : k < N) (hfin : (T k).2.2.2 = false ∨ ((T k).2.2.2 = true ∧ meth.name = "<init>" ∧ (T k).1 = own)) (ht : q_ty (40 * ci + k) = 1) (htk : ty0 k = .long) (hdg : decode cc pc = .ok (.putfield index, 3)) (h : w_putJ S r ci k v K) (kk : ∀ S' H1 locs1, q_H G A s H1 locs1 S' → K S' → W p l e R s m args below meth c H1 locs1 cells slots Q (F0 m (pc + 3) ls rest)) : W p l e R s m args below meth c H locs cells slots Q (F0 m pc ls (.long v :: va_rf r :: rest)) := by
  obtain ⟨a, rfl, ha, hka, h⟩ := h
  obtain ⟨-, -, -, -, h10⟩ := q_at_o (G := G) hc ha hka
  exact q_put X I hc hin hty hnm hw hk hfin (by rw [htk]; rfl) (by rw [htk]; rfl) hdg ha hka (q_up_J hka h10 ht) (fun H1 locs1 I1 => kk _ H1 locs1 I1 h)
theorem q_putR {ci k index : Nat} {C : String} {T : u_T} {N : Nat} {ty0 : Nat → FieldType} {v : Option Nat} {K : qS → Prop} (X : q_X p l s m args meth c cc own nL G A) (I : q_H G A s H locs S) (hc : vwCl[ci]? = some (C, T, N)) (hin : ∀ w ∈ u_ws C T N, w ∈ bg) (hty : ∀ k, k < N → parseFieldDescriptor (T k).2.2.1 = some (ty0 k)) (hnm : ∀ a, a < N → ∀ b, b < N → a ≠ b → (T a).2.1 ≠ (T b).2.1) (hw : Cond.fieldLink own index (T k).1 (T k).2.1 (T k).2.2.1 ∈ bg) (hk : k < N) (hfin : (T k).2.2.2 = false ∨ ((T k).2.2.2 = true ∧ meth.name = "<init>" ∧ (T k).1 = own)) (ht : q_ty (40 * ci + k) = 2) (htk : (∃ n, ty0 k = .object n) ∨ ∃ t, ty0 k = .array t) (hdg : decode cc pc = .ok (.putfield index, 3)) (h : w_putR S r ci k v K) (kk : ∀ S' H1 locs1, q_H G A s H1 locs1 S' → K S' → W p l e R s m args below meth c H1 locs1 cells slots Q (F0 m (pc + 3) ls rest)) : W p l e R s m args below meth c H locs cells slots Q (F0 m pc ls (va_rf v :: va_rf r :: rest)) := by
  obtain ⟨a, rfl, ha, hka, h⟩ := h
  obtain ⟨-, -, -, -, h10⟩ := q_at_o (G := G) hc ha hka
  exact q_put X I hc hin hty hnm hw hk hfin (q_nR htk v).1 (q_nR htk v).2 hdg ha hka (q_up_R hka h10 ht) (fun H1 locs1 I1 => kk _ H1 locs1 I1 h)
/-! arrays -/
theorem q_arr_I {cy : Nat → ClassId} {k a : Nat} (ht : q_aty k < 2) : q_arr cy S k a = .inl (cy (q_aty k), qN S a, .inl (qAI S k a)) := by simp [q_arr, ht]
theorem q_arr_J {cy : Nat → ClassId} {k a : Nat} (ht : q_aty k = 2) : q_arr cy S k a = .inl (cy 2, qN S a, .inr (.inl (qAJ S k a))) := by simp [q_arr, ht]
theorem q_arr_O {cy : Nat → ClassId} {k a : Nat} (ht : 2 < q_aty k) : q_arr cy S k a = .inl (cy (q_aty k), qN S a, .inr (.inr (.inr (.inr (qAO S k a))))) := by simp [q_arr, show ¬ q_aty k < 2 by omega, show ¬ q_aty k = 2 by omega]
theorem q_ldI {k : Nat} {i : Int32} {K : Int32 → Prop} (X : q_X p l s m args meth c cc own nL G A) (I : q_H G A s H locs S) (hk : 10 ≤ k) (ht : q_aty k = 0) (hdg : decode cc pc = .ok (.iaload, 1)) (h : w_ldI S r k i K) (kk : ∀ v, K v → W p l e R s m args below meth c H locs cells slots Q (F0 m (pc + 1) ls (.int v :: rest))) : W p l e R s m args below meth c H locs cells slots Q (F0 m pc ls (.int i :: va_rf r :: rest)) := by
  obtain ⟨a, rfl, ha, hka, hi, h⟩ := h
  obtain ⟨k0, h0, h1⟩ := q_at_a (G := G) hk ha hka
  rw [q_arr_I (by omega)] at h1
  exact va_iald (D := G.1) X.1 X.2.1 X.2.2.2.2.2.2.2.2.1 I.1 k0 0 h1 (by rw [ht]; rfl) hi hdg (kk _ h)
theorem q_ldZ {k : Nat} {i : Int32} {K : Int32 → Prop} (X : q_X p l s m args meth c cc own nL G A) (I : q_H G A s H locs S) (hk : 10 ≤ k) (ht : q_aty k = 1) (hdg : decode cc pc = .ok (.baload, 1)) (h : w_ldI S r k i K) (kk : ∀ v, K v → W p l e R s m args below meth c H locs cells slots Q (F0 m (pc + 1) ls (.int v :: rest))) : W p l e R s m args below meth c H locs cells slots Q (F0 m pc ls (.int i :: va_rf r :: rest)) := by
  obtain ⟨a, rfl, ha, hka, hi, h⟩ := h
  obtain ⟨k0, h0, h1⟩ := q_at_a (G := G) hk ha hka
  rw [q_arr_I (by omega)] at h1
  exact va_zald (D := G.1) X.1 X.2.1 X.2.2.2.2.2.2.2.2.1 I.1 k0 1 h1 (by rw [ht]; rfl) hi hdg (kk _ h)
theorem q_ldJ {k : Nat} {i : Int32} {K : Int64 → Prop} (X : q_X p l s m args meth c cc own nL G A) (I : q_H G A s H locs S) (hk : 10 ≤ k) (ht : q_aty k = 2) (hdg : decode cc pc = .ok (.laload, 1)) (h : w_ldJ S r k i K) (kk : ∀ v, K v → W p l e R s m args below meth c H locs cells slots Q (F0 m (pc + 1) ls (.long v :: rest))) : W p l e R s m args below meth c H locs cells slots Q (F0 m pc ls (.int i :: va_rf r :: rest)) := by
  obtain ⟨a, rfl, ha, hka, hi, h⟩ := h
  obtain ⟨k0, h0, h1⟩ := q_at_a (G := G) hk ha hka
  rw [q_arr_J ht] at h1
  exact va_lald (D := G.1) X.1 X.2.1 X.2.2.2.2.2.2.2.2.1 I.1 k0 2 h1 rfl hi hdg (kk _ h)
theorem q_stI {k : Nat} {i v : Int32} {K : qS → Prop} (X : q_X p l s m args meth c cc own nL G A) (I : q_H G A s H locs S) (hk : 10 ≤ k) (ht : q_aty k = 0) (hdg : decode cc pc = .ok (.iastore, 1)) (h : w_stI S r k i v K) (kk : ∀ S' H1 locs1, q_H G A s H1 locs1 S' → K S' → W p l e R s m args below meth c H1 locs1 cells slots Q (F0 m (pc + 1) ls rest)) : W p l e R s m args below meth c H locs cells slots Q (F0 m pc ls (.int v :: .int i :: va_rf r :: rest)) := by
  obtain ⟨a, rfl, ha, hka, hi, h⟩ := h
  obtain ⟨k0, h0, h1⟩ := q_at_a (G := G) hk ha hka
  rw [q_arr_I (by omega)] at h1
  refine va_iast (D := G.1) X.1 X.2.1 X.2.2.2.2.2.2.2.2.1 I.1 I.2.1 I.2.2 k0 0 h1 (by rw [ht]; rfl) hi hdg (fun H1 locs1 a1 a2 a3 => ?_)
  rw [q_set I.2.1 ha h0, q_up_AI hka hk (by omega)] at a1 a2
  exact kk _ H1 locs1 ⟨a1, a2, a3⟩ h
theorem q_stZ {k : Nat} {i v : Int32} {K : qS → Prop} (X : q_X p l s m args meth c cc own nL G A) (I : q_H G A s H locs S) (hk : 10 ≤ k) (ht : q_aty k = 1) (hdg : decode cc pc = .ok (.bastore, 1)) (h : w_stZ S r k i v K) (kk : ∀ S' H1 locs1, q_H G A s H1 locs1 S' → K S' → W p l e R s m args below meth c H1 locs1 cells slots Q (F0 m (pc + 1) ls rest)) : W p l e R s m args below meth c H locs cells slots Q (F0 m pc ls (.int v :: .int i :: va_rf r :: rest)) := by
  obtain ⟨a, rfl, ha, hka, hi, h⟩ := h
  obtain ⟨k0, h0, h1⟩ := q_at_a (G := G) hk ha hka
  rw [q_arr_I (by omega)] at h1
  refine va_zast (D := G.1) X.1 X.2.1 X.2.2.2.2.2.2.2.2.1 I.1 I.2.1 I.2.2 k0 1 h1 (by rw [ht]; rfl) hi hdg (fun H1 locs1 a1 a2 a3 => ?_)
  rw [q_set I.2.1 ha h0, q_up_AI hka hk (by omega)] at a1 a2
  exact kk _ H1 locs1 ⟨a1, a2, a3⟩ h
theorem q_stJ {k : Nat} {i : Int32} {v : Int64} {K : qS → Prop} (X : q_X p l s m args meth c cc own nL G A) (I : q_H G A s H locs S) (hk : 10 ≤ k) (ht : q_aty k = 2) (hdg : decode cc pc = .ok (.lastore, 1)) (h : w_stJ S r k i v K) (kk : ∀ S' H1 locs1, q_H G A s H1 locs1 S' → K S' → W p l e R s m args below meth c H1 locs1 cells slots Q (F0 m (pc + 1) ls rest)) : W p l e R s m args below meth c H locs cells slots Q (F0 m pc ls (.long v :: .int i :: va_rf r :: rest)) := by
  obtain ⟨a, rfl, ha, hka, hi, h⟩ := h
  obtain ⟨k0, h0, h1⟩ := q_at_a (G := G) hk ha hka
  rw [q_arr_J ht] at h1
  refine va_last (D := G.1) X.1 X.2.1 X.2.2.2.2.2.2.2.2.1 I.1 I.2.1 I.2.2 k0 2 h1 rfl hi hdg (fun H1 locs1 a1 a2 a3 => ?_)
  rw [q_set I.2.1 ha h0, q_up_AJ hka hk ht] at a1 a2
  exact kk _ H1 locs1 ⟨a1, a2, a3⟩ h
end QV
end
section
/-! Contracts over the pool, calls, returns, throws, new cells. -/
def q_rm (d mc ms : Nat) : Room := { frames := d, cells := mc, slots := ms, locals := 48 * d }
def q_Pc (G : qG) (S : qS) (sz : Nat) (av : List Value) : Array Value → State → Prop := va_Pc av (fun U => U.heap.size = sz ∧ va_P G.1 vwCl (q_w G.2.1 S) U.heap ∧ va_D (fun _ => True) (q_w G.2.1 S) ∧ q_E G (q_A G S sz) U U.heap)
def q_B (G : qG) (A : Nat → Prop) (S : qS) (t : State) : Prop := va_P G.1 vwCl (q_w G.2.1 S) t.heap ∧ va_D A (q_w G.2.1 S)
def q_XC (G : qG) (A : Nat → Prop) (xp : String → qS → Prop) : String → State → State → Prop := vx_X (fun _ : qS => True) (fun E u t => xp E u ∧ q_B G A u t) A
def q_M (l : Launch) (y : MethodName) (cc : ByteArray) (maxL : Nat) (ret : Option FieldType) (d mc ms : Nat) (G : qG) (S : qS) (sz : Nat) (av : List Value) (Qc : (Nat → Prop) → Array Value → State → Outcome → State → Prop) (xp : String → qS → Prop) : Prop :=
  vx_Met l y (Cond.code y cc maxL ret :: bg) (q_rm d mc ms) (q_Pc G S sz av) (Qc (q_A G S sz)) (q_XC G (q_A G S sz) xp) mc ms (q_A G S sz)
def q_Qi (G : qG) (post : Int32 → qS → Prop) (A : Nat → Prop) : Array Value → State → Outcome → State → Prop := va_Qi post (q_B G A) A
def q_Qj (G : qG) (post : Int64 → qS → Prop) (A : Nat → Prop) : Array Value → State → Outcome → State → Prop := va_Ql post (q_B G A) A
def q_Qv (G : qG) (post : qS → Prop) (A : Nat → Prop) : Array Value → State → Outcome → State → Prop := va_Qv post (q_B G A) A
def q_Qr (G : qG) (post : Option Nat → qS → Prop) (A : Nat → Prop) : Array Value → State → Outcome → State → Prop := va_Qq post (q_B G A) A
theorem q_E.blind {G : qG} {A : Nat → Prop} {U : State} (g : JFrame) (mk : MethodId) (a : Array Value) (h : q_E G A U U.heap) : q_E G A (U.calling g mk a) (U.calling g mk a).heap :=
  ⟨va_K.moved (u := U) (U := U.calling g mk a) (Vm.Alike.refl U.vm) h.1, q_V.same (u := U) (U := U.calling g mk a) rfl h.2.1, q_Z.step (u := U) (U := U.calling g mk a) (Vm.Alike.refl U.vm) (fun _ _ _ => rfl) (fun _ h => h) h.2.2⟩
theorem q_blind {G : qG} {S : qS} {sz : Nat} {av : List Value} : FrameBlind (q_Pc G S sz av) := fun a U g mk h => ⟨h.1, h.2.1, h.2.2.1, h.2.2.2.1, q_E.blind g mk a h.2.2.2.2⟩
section QV
variable {p : Program} {l : Launch} {e : Env} {R : Room} {s : State} {m : MethodId} {args : Array Value} {below : List Frame} {meth : Method} {c : Code} {H : Heap} {locs : List Loc} {cells slots : Nat} {Q : State → Prop}
variable {cc : ByteArray} {pc nL : Nat} {ls : Array Slot} {rest : List Value} {own : String} {G : qG} {A : Nat → Prop} {S : qS} {r : Option Nat}
theorem q_sub (X : q_X p l s m args meth c cc own nL G A) (I : q_H G A s H locs S) : ∀ q, q_A G S H.size q → A q := by
  intro q h
  rcases h with ⟨k, e, h⟩ | h
  · exact I.2.1.2 k _ h
  · exact X.2.2.2.2.2.2.2.1 q (Nat.le_trans I.2.2.1 h)
theorem q_pre (X : q_X p l s m args meth c cc own nL G A) (I : q_H G A s H locs S) {av : List Value} : ∀ U : State, U.heap = H → s.WarmedH U.vm → q_Pc G S H.size av av.toArray U := by
  intro U hU hW
  refine ⟨rfl, by rw [hU], by rw [hU]; exact I.1, I.2.1.weaken (fun _ _ _ _ => trivial), ?_⟩
  exact q_E.warm hW I.2.2.2.1 (q_sub X I) hU X.2.2.2.2.2.2.2.2
/-- a method's own facts -/
def q_mt (y : MethodName) (cc : ByteArray) (maxL : Nat) (ret : Option FieldType) (n : Nat) : Prop := Cond.code y cc maxL ret ∈ bg ∧ Cond.initialized y.cls ∈ bg ∧ (y.cls ≠ "java/lang/invoke/MethodHandle" ∧ y.cls ≠ "java/lang/invoke/VarHandle") ∧ (parseMethodDescriptor y.desc).map (fun d => d.parameters.length) = some n
theorem q_callB {index maxL d mc ms n : Nat} {y : MethodName} {bytes : ByteArray} {ret : Option FieldType} (X : q_X p l s m args meth c cc own nL G A) (mt : q_mt y bytes maxL ret n) (hl : Cond.methodLink own index y ∈ bg) (hR : d + 1 ≤ R.frames ∧ 8 + (maxL + 11) + 48 * d ≤ R.locals) : CallB R s args own index y bytes maxL ret (Cond.code y bytes maxL ret :: bg) (q_rm d mc ms) mc ms n := by
  have hts := X.2.2.2.1
  refine ⟨rfl, rfl, hR.1, hR.2, ?_, List.mem_cons_self, hts _ mt.1, hts _ mt.2.1, mt.2.2.1, ?_, hts _ hl⟩
  · intro w hw a' U hU
    have hb : w ∈ bg := by
      rcases List.mem_cons.mp hw with rfl | h
      · exact mt.1
      · exact h
    exact (callB_of (own := own) (index := index) (y := y) (bytes := bytes) (maxL := maxL) (ret := ret) (mc := mc) (ms := ms) (R := R) (rm := q_rm d mc ms) n hts (bg_good (ws := Cond.code y bytes maxL ret :: bg) (fun w hw => by rcases List.mem_cons.mp hw with rfl | h; exact mt.1; exact h)) rfl rfl rfl (hts _ mt.2.1) (hts _ hl) ⟨mt.2.2.1.1, mt.2.2.1.2, mt.2.2.2⟩ hR).2.2.2.2.1 w hw a' U hU
  · intro sig hs
    have := mt.2.2.2
    rw [hs] at this
    exact (Option.some.inj this).symm
theorem q_xout {mc ms : Nat} {Qc : Array Value → State → Outcome → State → Prop} {xp : String → qS → Prop} (X : q_X p l s m args meth c cc own nL G A) (N : ∀ x ∈ c.exceptionTable.toList, False) {E : String} {ce : Cell} {q : Addr} {u : qS} {H1 : Heap} {locs1 : List Loc} {k n : Nat} (I : q_H G A s H1 locs1 u) (hx : xp E u) (hce : H1[q]? = some ce) (hcv : ce.vm = .none) (hcl : s.vm.findClass E = some ce.cls) (h1 : k ≤ mc) (h2 : n ≤ ms) : vx_W p l e R s m args below meth c H1 locs1 k n (vx_MQ below Qc (q_XC G A xp) args s mc ms A) (F0 m pc ls rest) q :=
  vx_out (fun x hx => (N x hx).elim) X.2.2.2.2.2.1 hce hcv hcl (fun t ht _ => ⟨u, trivial, ⟨hx, by rw [ht]; exact I.1, I.2.1⟩, I.2.2.F ht⟩) I.2.2.2.2 h1 h2
theorem q_after (X : q_X p l s m args meth c cc own nL G A) (I : q_H G A s H locs S) {u : qS} {t : State} {H1 : Heap} {locs1 : List Loc} (ht : t.heap = H1) (hB : q_B G (q_A G S H.size) u t) (hS : va_S A s.heap H1 locs1) : q_H G A s H1 locs1 u := ⟨by rw [← ht]; exact hB.1, hB.2.weaken (fun _ q _ h => q_sub X I q.1 h), hS⟩
theorem q_runV {index maxL d mc ms n ci b : Nat} {y : MethodName} {bytes : ByteArray} {ret : Option FieldType} {T : u_T} {Nn : Nat} {As st0 : List Value} {Qc : (Nat → Prop) → Array Value → State → Outcome → State → Prop} {xp : String → qS → Prop} (X : q_X p l s m args meth c cc own nL G A) (I : q_H G A s H locs S) (hls : ls.size = nL) (mt : q_mt y bytes maxL ret n) (hi : Cond.instanceMethod y ∈ bg) (hse : Cond.selects y.cls y y ∈ bg) (hl : Cond.methodLink own index y ∈ bg) (hc : vwCl[ci]? = some (y.cls, T, Nn)) (hb : b ∈ qL S) (hkb : qK S b = ci) (hM : q_M l y bytes maxL ret d mc ms G S H.size (va_rf (some b) :: As) Qc xp) (hn : As.length = n) (hst : st0 = As.reverse ++ va_rf (some b) :: rest) (hW : (rest.map fun v => v.category).sum ≤ 8) (hR : d + 1 ≤ R.frames ∧ 8 + (maxL + 11) + 48 * d ≤ R.locals) (hf : cells + mc ≤ R.cells ∧ slots + ms ≤ R.slots) (hdg : decode cc pc = .ok (.invokevirtual index, 3)) : vx_Run p l e R s m args below meth c H locs cells slots mc ms (F0 m pc ls st0) rest (Qc (q_A G S H.size) (va_rf (some b) :: As).toArray) (q_XC G (q_A G S H.size) xp) (q_A G S H.size) := by
  have hts := X.2.2.2.1
  obtain ⟨k0, h0, h1, -, -⟩ := q_at_o (G := G) hc hb hkb
  exact vx_runV (Ts := bg) ⟨X.1, X.2.1, X.2.2.2.2.1, X.2.2.1, hts⟩ hM ⟨q_callB X mt hl hR, hts _ hi, hts _ hse⟩ ⟨q_blind, va_recv (q := (y.cls, T, Nn)) X.2.2.2.2.2.2.2.2.1 I.1 hc h1, q_pre X I⟩ rfl hn hls hst (lv_room hW) hdg hf
theorem q_runS {index maxL d mc ms n : Nat} {y : MethodName} {bytes : ByteArray} {ret : Option FieldType} {As st0 : List Value} {Qc : (Nat → Prop) → Array Value → State → Outcome → State → Prop} {xp : String → qS → Prop} (X : q_X p l s m args meth c cc own nL G A) (I : q_H G A s H locs S) (hls : ls.size = nL) (mt : q_mt y bytes maxL ret n) (hi : Cond.static y ∈ bg) (hl : Cond.methodLink own index y ∈ bg) (hM : q_M l y bytes maxL ret d mc ms G S H.size As Qc xp) (hn : As.length = n) (hst : st0 = As.reverse ++ rest) (hW : (rest.map fun v => v.category).sum ≤ 8) (hR : d + 1 ≤ R.frames ∧ 8 + (maxL + 11) + 48 * d ≤ R.locals) (hf : cells + mc ≤ R.cells ∧ slots + ms ≤ R.slots) (hdg : decode cc pc = .ok (.invokestatic index, 3)) : vx_Run p l e R s m args below meth c H locs cells slots mc ms (F0 m pc ls st0) rest (Qc (q_A G S H.size) As.toArray) (q_XC G (q_A G S H.size) xp) (q_A G S H.size) := by
  have hts := X.2.2.2.1
  exact vx_runS (Ts := bg) ⟨X.1, X.2.1, X.2.2.2.2.1, X.2.2.1, hts⟩ hM ⟨q_callB X mt hl hR, hts _ hi⟩ ⟨q_blind, q_pre X I⟩ rfl hn hls hst (lv_room hW) hdg hf
theorem vx_callq {S SX : Type} {post : Option Nat → S → Prop} {px : SX → Prop} {B : S → State → Prop} {BX : String → SX → State → Prop} {AX A0 A1 : Nat → Prop} {H0 : Heap} {mc ms : Nat} {free : Addr → Prop} {st0 : List Value} {a : Array Value} (hr : vx_Run p l e R s m args below meth c H locs cells slots mc ms (F0 m pc ls st0) rest (va_Qq post B A1 a) (vx_X px BX AX) free) (hS : va_S A0 H0 H locs) (hA : ∀ q, q < H.size → A1 q → A0 q) (hf : ∀ q, free q → A0 q) (hAX : ∀ q, q < H.size → AX q → A0 q)
    (kx : ∀ (E : String) (ce : Cell) (q9 : Addr) (u : SX) (t : State) (H1 : Heap) (locs1 : List Loc), t.heap = H1 → s.vm.Alike t.vm → px u → BX E u t → H.size ≤ H1.size → (∀ q : Nat, q < H.size → ¬ AX q → H1[q]? = H[q]?) → va_S A0 H0 H1 locs1 → H1[q9]? = some ce → ce.vm = .none → s.vm.findClass E = some ce.cls → vx_W p l e R s m args below meth c H1 locs1 (cells + mc) (slots + ms) Q (F0 m pc ls rest) q9)
    (kk : ∀ (r : Option Nat) (u : S) (t : State) (H1 : Heap) (locs1 : List Loc), t.heap = H1 → s.vm.Alike t.vm → post r u → B u t → H.size ≤ H1.size → (∀ q : Nat, q < H.size → ¬ A1 q → H1[q]? = H[q]?) → va_S A0 H0 H1 locs1 → W p l e R s m args below meth c H1 locs1 (cells + mc) (slots + ms) Q (F0 m (pc + 3) ls (va_rf r :: rest))) : W p l e R s m args below meth c H locs cells slots Q (F0 m pc ls st0) := by
  intro T hT X
  rcases hr T hT X with ⟨v, st₀, t, T', L, h0, X', hL, e1, e2, ⟨⟨r, u, hv, hp, hb⟩, hF⟩, st⟩ | ⟨q, st₀, t, T', L, E, ce, h0, X', hL, e1, e2, ⟨u, hp, hb, hF⟩, hce, hcv, hcl, st⟩
  · cases hv
    obtain ⟨k1, k2, k3⟩ := vx_keep h0 e1 hS hA hf hL hF
    obtain ⟨t2, a1, b1⟩ := kk r u t T'.heap (locs ++ L) e1.symm (by rw [← e2]; exact X'.warmed.alike) hp hb k1 k2 k3 T' rfl X'
    exact ⟨t2, st t2 a1, b1⟩
  · obtain ⟨k1, k2, k3⟩ := vx_keep h0 e1 hS hAX hf hL hF
    obtain ⟨t2, a1, b1⟩ := kx E ce q u t T'.heap (locs ++ L) e1.symm (by rw [← e2]; exact X'.warmed.alike) hp hb k1 k2 k3 (by rw [e1]; exact hce) hcv hcl T' rfl X'
    exact ⟨t2, st.trans a1, b1⟩
end QV
end
section
/-! Call rows, entries, returns, throws. -/
def q_mv (y : MethodName) (cc : ByteArray) (maxL : Nat) (ret : Option FieldType) (n ci : Nat) : Prop := q_mt y cc maxL ret n ∧ Cond.instanceMethod y ∈ bg ∧ Cond.selects y.cls y y ∈ bg ∧ ∃ (T : u_T) (N : Nat), vwCl[ci]? = some (y.cls, T, N)
def q_ms (y : MethodName) (cc : ByteArray) (maxL : Nat) (ret : Option FieldType) (n : Nat) : Prop := q_mt y cc maxL ret n ∧ Cond.static y ∈ bg
section QV
variable {p : Program} {l : Launch} {e : Env} {R : Room} {s : State} {m : MethodId} {args : Array Value} {below : List Frame} {meth : Method} {c : Code} {H : Heap} {locs : List Loc} {cells slots : Nat} {Q : State → Prop}
variable {cc : ByteArray} {pc nL : Nat} {ls : Array Slot} {rest : List Value} {own : String} {G : qG} {A : Nat → Prop} {S : qS} {r : Option Nat}
variable {index maxL d mc ms n ci mcQ msQ c1 s1 : Nat} {y : MethodName} {bytes : ByteArray} {ret : Option FieldType} {As st0 : List Value} {Qc : Array Value → State → Outcome → State → Prop} {xp : String → qS → Prop} {Kb : Nat → Prop}
theorem q_cVi {K : Int32 → qS → Prop} (X : q_X p l s m args meth c cc own nL G A) (N : ∀ x ∈ c.exceptionTable.toList, False) (I : q_H G A s H locs S) (hls : ls.size = nL) (mv : q_mv y bytes maxL ret n ci) (hl : Cond.methodLink own index y ∈ bg) (hdg : decode cc pc = .ok (.invokevirtual index, 3)) (hst : st0 = As.reverse ++ va_rf r :: rest) (h : w_at S r ci Kb) (hM : ∀ b, Kb b → q_M l y bytes maxL ret d mc ms G S H.size (va_rf (some b) :: As) (q_Qi G K) xp) (hn : As.length = n) (hW : (rest.map fun v => v.category).sum ≤ 8) (hR : d + 1 ≤ R.frames ∧ 8 + (maxL + 11) + 48 * d ≤ R.locals) (hf : cells + mc ≤ R.cells ∧ slots + ms ≤ R.slots) (hm : c1 ≤ mcQ ∧ s1 ≤ msQ) (h1 : cells + mc = c1) (h2 : slots + ms = s1) (kk : ∀ (v : Int32) (S1 : qS) (H1 : Heap) (locs1 : List Loc), q_H G A s H1 locs1 S1 → K v S1 → W p l e R s m args below meth c H1 locs1 c1 s1 (vx_MQ below Qc (q_XC G A xp) args s mcQ msQ A) (F0 m (pc + 3) ls (.int v :: rest))) : W p l e R s m args below meth c H locs cells slots (vx_MQ below Qc (q_XC G A xp) args s mcQ msQ A) (F0 m pc ls st0) := by
  obtain ⟨b, rfl, hb, hkb, h⟩ := h
  obtain ⟨mt, hi, hse, T, Nn, hc⟩ := mv
  subst h1
  subst h2
  have hsub := q_sub X I
  refine vx_calli (q_runV (Qc := q_Qi G K) X I hls mt hi hse hl hc hb hkb (hM b h) hn hst hW hR hf hdg) I.2.2 (fun q _ h => hsub q h) hsub (fun q _ h => hsub q h) (fun E ce q9 u t H1 locs1 ht hvm _ hB hz hk hS hce hcv hcl => ?_) (fun v u t H1 locs1 ht hvm hp hB hz hk hS => ?_)
  · exact q_xout X N (q_after X I ht hB.2 hS) hB.1 hce hcv hcl hm.1 hm.2
  · exact kk v _ H1 locs1 (q_after X I ht hB hS) hp
theorem q_cSi {K : Int32 → qS → Prop} (X : q_X p l s m args meth c cc own nL G A) (N : ∀ x ∈ c.exceptionTable.toList, False) (I : q_H G A s H locs S) (hls : ls.size = nL) (mv : q_ms y bytes maxL ret n) (hl : Cond.methodLink own index y ∈ bg) (hdg : decode cc pc = .ok (.invokestatic index, 3)) (hst : st0 = As.reverse ++ rest) (hM : q_M l y bytes maxL ret d mc ms G S H.size As (q_Qi G K) xp) (hn : As.length = n) (hW : (rest.map fun v => v.category).sum ≤ 8) (hR : d + 1 ≤ R.frames ∧ 8 + (maxL + 11) + 48 * d ≤ R.locals) (hf : cells + mc ≤ R.cells ∧ slots + ms ≤ R.slots) (hm : c1 ≤ mcQ ∧ s1 ≤ msQ) (h1 : cells + mc = c1) (h2 : slots + ms = s1) (kk : ∀ (v : Int32) (S1 : qS) (H1 : Heap) (locs1 : List Loc), q_H G A s H1 locs1 S1 → K v S1 → W p l e R s m args below meth c H1 locs1 c1 s1 (vx_MQ below Qc (q_XC G A xp) args s mcQ msQ A) (F0 m (pc + 3) ls (.int v :: rest))) : W p l e R s m args below meth c H locs cells slots (vx_MQ below Qc (q_XC G A xp) args s mcQ msQ A) (F0 m pc ls st0) := by
  obtain ⟨mt, hi⟩ := mv
  subst h1
  subst h2
  have hsub := q_sub X I
  refine vx_calli (q_runS (Qc := q_Qi G K) X I hls mt hi hl hM hn hst hW hR hf hdg) I.2.2 (fun q _ h => hsub q h) hsub (fun q _ h => hsub q h) (fun E ce q9 u t H1 locs1 ht hvm _ hB hz hk hS hce hcv hcl => ?_) (fun v u t H1 locs1 ht hvm hp hB hz hk hS => ?_)
  · exact q_xout X N (q_after X I ht hB.2 hS) hB.1 hce hcv hcl hm.1 hm.2
  · exact kk v _ H1 locs1 (q_after X I ht hB hS) hp
theorem q_cVj {K : Int64 → qS → Prop} (X : q_X p l s m args meth c cc own nL G A) (N : ∀ x ∈ c.exceptionTable.toList, False) (I : q_H G A s H locs S) (hls : ls.size = nL) (mv : q_mv y bytes maxL ret n ci) (hl : Cond.methodLink own index y ∈ bg) (hdg : decode cc pc = .ok (.invokevirtual index, 3)) (hst : st0 = As.reverse ++ va_rf r :: rest) (h : w_at S r ci Kb) (hM : ∀ b, Kb b → q_M l y bytes maxL ret d mc ms G S H.size (va_rf (some b) :: As) (q_Qj G K) xp) (hn : As.length = n) (hW : (rest.map fun v => v.category).sum ≤ 8) (hR : d + 1 ≤ R.frames ∧ 8 + (maxL + 11) + 48 * d ≤ R.locals) (hf : cells + mc ≤ R.cells ∧ slots + ms ≤ R.slots) (hm : c1 ≤ mcQ ∧ s1 ≤ msQ) (h1 : cells + mc = c1) (h2 : slots + ms = s1) (kk : ∀ (v : Int64) (S1 : qS) (H1 : Heap) (locs1 : List Loc), q_H G A s H1 locs1 S1 → K v S1 → W p l e R s m args below meth c H1 locs1 c1 s1 (vx_MQ below Qc (q_XC G A xp) args s mcQ msQ A) (F0 m (pc + 3) ls (.long v :: rest))) : W p l e R s m args below meth c H locs cells slots (vx_MQ below Qc (q_XC G A xp) args s mcQ msQ A) (F0 m pc ls st0) := by
  obtain ⟨b, rfl, hb, hkb, h⟩ := h
  obtain ⟨mt, hi, hse, T, Nn, hc⟩ := mv
  subst h1
  subst h2
  have hsub := q_sub X I
  refine vx_calll (q_runV (Qc := q_Qj G K) X I hls mt hi hse hl hc hb hkb (hM b h) hn hst hW hR hf hdg) I.2.2 (fun q _ h => hsub q h) hsub (fun q _ h => hsub q h) (fun E ce q9 u t H1 locs1 ht hvm _ hB hz hk hS hce hcv hcl => ?_) (fun v u t H1 locs1 ht hvm hp hB hz hk hS => ?_)
  · exact q_xout X N (q_after X I ht hB.2 hS) hB.1 hce hcv hcl hm.1 hm.2
  · exact kk v _ H1 locs1 (q_after X I ht hB hS) hp
theorem q_cSj {K : Int64 → qS → Prop} (X : q_X p l s m args meth c cc own nL G A) (N : ∀ x ∈ c.exceptionTable.toList, False) (I : q_H G A s H locs S) (hls : ls.size = nL) (mv : q_ms y bytes maxL ret n) (hl : Cond.methodLink own index y ∈ bg) (hdg : decode cc pc = .ok (.invokestatic index, 3)) (hst : st0 = As.reverse ++ rest) (hM : q_M l y bytes maxL ret d mc ms G S H.size As (q_Qj G K) xp) (hn : As.length = n) (hW : (rest.map fun v => v.category).sum ≤ 8) (hR : d + 1 ≤ R.frames ∧ 8 + (maxL + 11) + 48 * d ≤ R.locals) (hf : cells + mc ≤ R.cells ∧ slots + ms ≤ R.slots) (hm : c1 ≤ mcQ ∧ s1 ≤ msQ) (h1 : cells + mc = c1) (h2 : slots + ms = s1) (kk : ∀ (v : Int64) (S1 : qS) (H1 : Heap) (locs1 : List Loc), q_H G A s H1 locs1 S1 → K v S1 → W p l e R s m args below meth c H1 locs1 c1 s1 (vx_MQ below Qc (q_XC G A xp) args s mcQ msQ A) (F0 m (pc + 3) ls (.long v :: rest))) : W p l e R s m args below meth c H locs cells slots (vx_MQ below Qc (q_XC G A xp) args s mcQ msQ A) (F0 m pc ls st0) := by
  obtain ⟨mt, hi⟩ := mv
  subst h1
  subst h2
  have hsub := q_sub X I
  refine vx_calll (q_runS (Qc := q_Qj G K) X I hls mt hi hl hM hn hst hW hR hf hdg) I.2.2 (fun q _ h => hsub q h) hsub (fun q _ h => hsub q h) (fun E ce q9 u t H1 locs1 ht hvm _ hB hz hk hS hce hcv hcl => ?_) (fun v u t H1 locs1 ht hvm hp hB hz hk hS => ?_)
  · exact q_xout X N (q_after X I ht hB.2 hS) hB.1 hce hcv hcl hm.1 hm.2
  · exact kk v _ H1 locs1 (q_after X I ht hB hS) hp
theorem q_cVr {K : Option Nat → qS → Prop} (X : q_X p l s m args meth c cc own nL G A) (N : ∀ x ∈ c.exceptionTable.toList, False) (I : q_H G A s H locs S) (hls : ls.size = nL) (mv : q_mv y bytes maxL ret n ci) (hl : Cond.methodLink own index y ∈ bg) (hdg : decode cc pc = .ok (.invokevirtual index, 3)) (hst : st0 = As.reverse ++ va_rf r :: rest) (h : w_at S r ci Kb) (hM : ∀ b, Kb b → q_M l y bytes maxL ret d mc ms G S H.size (va_rf (some b) :: As) (q_Qr G K) xp) (hn : As.length = n) (hW : (rest.map fun v => v.category).sum ≤ 8) (hR : d + 1 ≤ R.frames ∧ 8 + (maxL + 11) + 48 * d ≤ R.locals) (hf : cells + mc ≤ R.cells ∧ slots + ms ≤ R.slots) (hm : c1 ≤ mcQ ∧ s1 ≤ msQ) (h1 : cells + mc = c1) (h2 : slots + ms = s1) (kk : ∀ (v : Option Nat) (S1 : qS) (H1 : Heap) (locs1 : List Loc), q_H G A s H1 locs1 S1 → K v S1 → W p l e R s m args below meth c H1 locs1 c1 s1 (vx_MQ below Qc (q_XC G A xp) args s mcQ msQ A) (F0 m (pc + 3) ls (va_rf v :: rest))) : W p l e R s m args below meth c H locs cells slots (vx_MQ below Qc (q_XC G A xp) args s mcQ msQ A) (F0 m pc ls st0) := by
  obtain ⟨b, rfl, hb, hkb, h⟩ := h
  obtain ⟨mt, hi, hse, T, Nn, hc⟩ := mv
  subst h1
  subst h2
  have hsub := q_sub X I
  refine vx_callq (q_runV (Qc := q_Qr G K) X I hls mt hi hse hl hc hb hkb (hM b h) hn hst hW hR hf hdg) I.2.2 (fun q _ h => hsub q h) hsub (fun q _ h => hsub q h) (fun E ce q9 u t H1 locs1 ht hvm _ hB hz hk hS hce hcv hcl => ?_) (fun v u t H1 locs1 ht hvm hp hB hz hk hS => ?_)
  · exact q_xout X N (q_after X I ht hB.2 hS) hB.1 hce hcv hcl hm.1 hm.2
  · exact kk v _ H1 locs1 (q_after X I ht hB hS) hp
theorem q_cSr {K : Option Nat → qS → Prop} (X : q_X p l s m args meth c cc own nL G A) (N : ∀ x ∈ c.exceptionTable.toList, False) (I : q_H G A s H locs S) (hls : ls.size = nL) (mv : q_ms y bytes maxL ret n) (hl : Cond.methodLink own index y ∈ bg) (hdg : decode cc pc = .ok (.invokestatic index, 3)) (hst : st0 = As.reverse ++ rest) (hM : q_M l y bytes maxL ret d mc ms G S H.size As (q_Qr G K) xp) (hn : As.length = n) (hW : (rest.map fun v => v.category).sum ≤ 8) (hR : d + 1 ≤ R.frames ∧ 8 + (maxL + 11) + 48 * d ≤ R.locals) (hf : cells + mc ≤ R.cells ∧ slots + ms ≤ R.slots) (hm : c1 ≤ mcQ ∧ s1 ≤ msQ) (h1 : cells + mc = c1) (h2 : slots + ms = s1) (kk : ∀ (v : Option Nat) (S1 : qS) (H1 : Heap) (locs1 : List Loc), q_H G A s H1 locs1 S1 → K v S1 → W p l e R s m args below meth c H1 locs1 c1 s1 (vx_MQ below Qc (q_XC G A xp) args s mcQ msQ A) (F0 m (pc + 3) ls (va_rf v :: rest))) : W p l e R s m args below meth c H locs cells slots (vx_MQ below Qc (q_XC G A xp) args s mcQ msQ A) (F0 m pc ls st0) := by
  obtain ⟨mt, hi⟩ := mv
  subst h1
  subst h2
  have hsub := q_sub X I
  refine vx_callq (q_runS (Qc := q_Qr G K) X I hls mt hi hl hM hn hst hW hR hf hdg) I.2.2 (fun q _ h => hsub q h) hsub (fun q _ h => hsub q h) (fun E ce q9 u t H1 locs1 ht hvm _ hB hz hk hS hce hcv hcl => ?_) (fun v u t H1 locs1 ht hvm hp hB hz hk hS => ?_)
  · exact q_xout X N (q_after X I ht hB.2 hS) hB.1 hce hcv hcl hm.1 hm.2
  · exact kk v _ H1 locs1 (q_after X I ht hB hS) hp
theorem q_cVv {K : qS → Prop} (X : q_X p l s m args meth c cc own nL G A) (N : ∀ x ∈ c.exceptionTable.toList, False) (I : q_H G A s H locs S) (hls : ls.size = nL) (mv : q_mv y bytes maxL ret n ci) (hl : Cond.methodLink own index y ∈ bg) (hdg : decode cc pc = .ok (.invokevirtual index, 3)) (hst : st0 = As.reverse ++ va_rf r :: rest) (h : w_at S r ci Kb) (hM : ∀ b, Kb b → q_M l y bytes maxL ret d mc ms G S H.size (va_rf (some b) :: As) (q_Qv G K) xp) (hn : As.length = n) (hW : (rest.map fun v => v.category).sum ≤ 8) (hR : d + 1 ≤ R.frames ∧ 8 + (maxL + 11) + 48 * d ≤ R.locals) (hf : cells + mc ≤ R.cells ∧ slots + ms ≤ R.slots) (hm : c1 ≤ mcQ ∧ s1 ≤ msQ) (h1 : cells + mc = c1) (h2 : slots + ms = s1) (kk : ∀ (S1 : qS) (H1 : Heap) (locs1 : List Loc), q_H G A s H1 locs1 S1 → K S1 → W p l e R s m args below meth c H1 locs1 c1 s1 (vx_MQ below Qc (q_XC G A xp) args s mcQ msQ A) (F0 m (pc + 3) ls rest)) : W p l e R s m args below meth c H locs cells slots (vx_MQ below Qc (q_XC G A xp) args s mcQ msQ A) (F0 m pc ls st0) := by
  obtain ⟨b, rfl, hb, hkb, h⟩ := h
  obtain ⟨mt, hi, hse, T, Nn, hc⟩ := mv
  subst h1
  subst h2
  have hsub := q_sub X I
  refine vx_callv (q_runV (Qc := q_Qv G K) X I hls mt hi hse hl hc hb hkb (hM b h) hn hst hW hR hf hdg) I.2.2 (fun q _ h => hsub q h) hsub (fun q _ h => hsub q h) (fun E ce q9 u t H1 locs1 ht hvm _ hB hz hk hS hce hcv hcl => ?_) (fun u t H1 locs1 ht hvm hp hB hz hk hS => ?_)
  · exact q_xout X N (q_after X I ht hB.2 hS) hB.1 hce hcv hcl hm.1 hm.2
  · exact kk  _ H1 locs1 (q_after X I ht hB hS) hp
theorem q_cSv {K : qS → Prop} (X : q_X p l s m args meth c cc own nL G A) (N : ∀ x ∈ c.exceptionTable.toList, False) (I : q_H G A s H locs S) (hls : ls.size = nL) (mv : q_ms y bytes maxL ret n) (hl : Cond.methodLink own index y ∈ bg) (hdg : decode cc pc = .ok (.invokestatic index, 3)) (hst : st0 = As.reverse ++ rest) (hM : q_M l y bytes maxL ret d mc ms G S H.size As (q_Qv G K) xp) (hn : As.length = n) (hW : (rest.map fun v => v.category).sum ≤ 8) (hR : d + 1 ≤ R.frames ∧ 8 + (maxL + 11) + 48 * d ≤ R.locals) (hf : cells + mc ≤ R.cells ∧ slots + ms ≤ R.slots) (hm : c1 ≤ mcQ ∧ s1 ≤ msQ) (h1 : cells + mc = c1) (h2 : slots + ms = s1) (kk : ∀ (S1 : qS) (H1 : Heap) (locs1 : List Loc), q_H G A s H1 locs1 S1 → K S1 → W p l e R s m args below meth c H1 locs1 c1 s1 (vx_MQ below Qc (q_XC G A xp) args s mcQ msQ A) (F0 m (pc + 3) ls rest)) : W p l e R s m args below meth c H locs cells slots (vx_MQ below Qc (q_XC G A xp) args s mcQ msQ A) (F0 m pc ls st0) := by
  obtain ⟨mt, hi⟩ := mv
  subst h1
  subst h2
  have hsub := q_sub X I
  refine vx_callv (q_runS (Qc := q_Qv G K) X I hls mt hi hl hM hn hst hW hR hf hdg) I.2.2 (fun q _ h => hsub q h) hsub (fun q _ h => hsub q h) (fun E ce q9 u t H1 locs1 ht hvm _ hB hz hk hS hce hcv hcl => ?_) (fun u t H1 locs1 ht hvm hp hB hz hk hS => ?_)
  · exact q_xout X N (q_after X I ht hB.2 hS) hB.1 hce hcv hcl hm.1 hm.2
  · exact kk  _ H1 locs1 (q_after X I ht hB hS) hp

theorem q_iret {v : Int32} {post : Int32 → qS → Prop} (X : q_X p l s m args meth c cc own nL G A) (I : q_H G A s H locs S) (hr : meth.sig.returnType = some .int) (hdg : decode cc pc = .ok (.ireturn, 1)) (h : post v S) (hc : cells ≤ mcQ) (hs : slots ≤ msQ) : W p l e R s m args below meth c H locs cells slots (vx_MQ below (q_Qi G post A) (q_XC G A xp) args s mcQ msQ A) (F0 m pc ls [.int v]) :=
  W.widen hc hs (vx_ret (W.iret X.1 X.2.1 hr (fun t ht hW => ⟨⟨v, S, rfl, h, by rw [ht]; exact I.1, I.2.1⟩, I.2.2.F ht⟩) I.2.2.2.2 hdg X.2.2.2.2.2.1))
theorem q_zret {v : Int32} {post : Int32 → qS → Prop} (X : q_X p l s m args meth c cc own nL G A) (I : q_H G A s H locs S) (hr : meth.sig.returnType = some .boolean) (hdg : decode cc pc = .ok (.ireturn, 1)) (h : (v = 0 ∨ v = 1) ∧ post v S) (hc : cells ≤ mcQ) (hs : slots ≤ msQ) : W p l e R s m args below meth c H locs cells slots (vx_MQ below (q_Qi G post A) (q_XC G A xp) args s mcQ msQ A) (F0 m pc ls [.int v]) :=
  W.widen hc hs (vx_ret (W.zret X.1 X.2.1 hr (q_nZ h.1) (fun t ht hW => ⟨⟨v, S, rfl, h.2, by rw [ht]; exact I.1, I.2.1⟩, I.2.2.F ht⟩) I.2.2.2.2 hdg X.2.2.2.2.2.1))
theorem q_lret {v : Int64} {post : Int64 → qS → Prop} (X : q_X p l s m args meth c cc own nL G A) (I : q_H G A s H locs S) (hr : meth.sig.returnType = some .long) (hdg : decode cc pc = .ok (.lreturn, 1)) (h : post v S) (hc : cells ≤ mcQ) (hs : slots ≤ msQ) : W p l e R s m args below meth c H locs cells slots (vx_MQ below (q_Qj G post A) (q_XC G A xp) args s mcQ msQ A) (F0 m pc ls [.long v]) :=
  W.widen hc hs (vx_ret (W.lret X.1 X.2.1 hr (fun t ht hW => ⟨⟨v, S, rfl, h, by rw [ht]; exact I.1, I.2.1⟩, I.2.2.F ht⟩) I.2.2.2.2 hdg X.2.2.2.2.2.1))
theorem q_vret {post : qS → Prop} (X : q_X p l s m args meth c cc own nL G A) (I : q_H G A s H locs S) (hr : meth.sig.returnType = none) (hdg : decode cc pc = .ok (.return_, 1)) (h : post S) (hc : cells ≤ mcQ) (hs : slots ≤ msQ) : W p l e R s m args below meth c H locs cells slots (vx_MQ below (q_Qv G post A) (q_XC G A xp) args s mcQ msQ A) (F0 m pc ls []) :=
  W.widen hc hs (vx_ret (W.vret X.1 X.2.1 hr (fun t ht hW => ⟨⟨S, rfl, h, by rw [ht]; exact I.1, I.2.1⟩, I.2.2.F ht⟩) I.2.2.2.2 hdg X.2.2.2.2.2.1))
theorem q_aret {rt : FieldType} {post : Option Nat → qS → Prop} (X : q_X p l s m args meth c cc own nL G A) (I : q_H G A s H locs S) (hr : meth.sig.returnType = some rt) (hrt : (∃ n, rt = .object n) ∨ ∃ t, rt = .array t) (hdg : decode cc pc = .ok (.areturn, 1)) (h : post r S) (hc : cells ≤ mcQ) (hs : slots ≤ msQ) : W p l e R s m args below meth c H locs cells slots (vx_MQ below (q_Qr G post A) (q_XC G A xp) args s mcQ msQ A) (F0 m pc ls [va_rf r]) :=
  W.widen hc hs (vx_ret (W.aret X.1 X.2.1 hr hrt (va_rf_or r) (fun t ht hW => ⟨⟨r, S, rfl, h, by rw [ht]; exact I.1, I.2.1⟩, I.2.2.F ht⟩) I.2.2.2.2 hdg X.2.2.2.2.2.1))
end QV
theorem q_of {l : Launch} {y : MethodName} {cc : ByteArray} {maxL : Nat} {ret : Option FieldType} {d mc ms : Nat} {G : qG} {S : qS} {sz : Nat} {av : List Value} {Qc : (Nat → Prop) → Array Value → State → Outcome → State → Prop} {xp : String → qS → Prop} {lv : List (Nat × Value)} (hl0 : l.stackTraces = false) (hy : plainName y.cls = true) (hlv : lv_args 0 av = lv) (hlen : (lg_sl av).length ≤ maxL)
    (body : ∀ (p : Program) (e : Env) (s : State) (m : MethodId) (below : List Frame) (meth : Method) (c : Code) (A : Nat → Prop) (ls : Array Slot), q_X p l s m av.toArray meth c cc y.cls maxL G A → (∀ x ∈ c.exceptionTable.toList, False) → meth.sig.returnType = ret → meth.name = y.name → q_H G A s s.heap [] S → lv_has ls maxL lv → W p l e (q_rm d mc ms) s m av.toArray below meth c s.heap [] 0 0 (vx_MQ below (Qc A) (q_XC G A xp) av.toArray s mc ms A) (F0 m 0 ls [])) : q_M l y cc maxL ret d mc ms G S sz av Qc xp := by
  refine vx_ofW (cc := cc) (maxL := maxL) (ret := ret) hy rfl ?_
  intro p e s m args below meth c s₁ B hml hnx hv
  obtain ⟨rfl, hsz, hP, hD0, hE⟩ := hv
  have hts := atoms_spec (ws := Cond.code y cc maxL ret :: bg) B.pre
  have hown : s.vm.findClass y.cls = some m.cls := findClass_of_methodNamed B.named
  have hnm : meth.name = y.name := (name_of_methodNamed B.named B.method).1
  subst hsz
  have hA : ∀ q : Nat, s.heap.size ≤ q → q_A G S s.heap.size q := fun q h => Or.inr h
  have hl := lv_entry av (n := maxL) hlen
  rw [lg_entry_eq]
  rw [hlv] at hl
  exact body p e s m below meth c (q_A G S s.heap.size) _ ⟨B.exec, B.bytes, hown, fun w hw => hts w (List.mem_cons_of_mem _ hw), hml, B.notSynchronized, hl0, hA, hE⟩ hnx B.returns hnm ⟨hP, hD0.self, va_S.rf⟩ hl
end
section
/-! New cells, constructors, casts, throws. -/
def q_dv (f : Nat) : Value := if q_ty f = 0 then .int 0 else if q_ty f = 1 then .long 0 else .null
def w_new (S : qS) (k n : Nat) (K : Nat → qS → Prop) : Prop := ∀ q, q ∉ qL S → K q (q_nw S k q n)
def w_cast (S : qS) (r : Option Nat) (ci : Nat) (K : Prop) : Prop := (r = none ∨ ∃ a, r = some a ∧ a ∈ qL S ∧ qK S a = ci) ∧ K
def q_N (l : Launch) (y : MethodName) (cc : ByteArray) (maxL : Nat) (d mc ms : Nat) (G : qG) (S : qS) (sz : Nat) (av : List Value) (post : qS → Prop) : Prop :=
  Met l y (Cond.code y cc maxL none :: bg) (q_rm d mc ms) (q_Pc G S sz av) (q_Qv G post (q_A G S sz)) mc ms (q_A G S sz)
section QV
variable {p : Program} {l : Launch} {e : Env} {R : Room} {s : State} {m : MethodId} {args : Array Value} {below : List Frame} {meth : Method} {c : Code} {H : Heap} {locs : List Loc} {cells slots : Nat} {Q : State → Prop}
variable {cc : ByteArray} {pc nL : Nat} {ls : Array Slot} {rest : List Value} {own : String} {G : qG} {A : Nat → Prop} {S : qS} {r : Option Nat}
variable {index maxL d mc ms n ci mcQ msQ c1 s1 : Nat} {y : MethodName} {bytes : ByteArray} {As st0 : List Value} {Qc : Array Value → State → Outcome → State → Prop} {xp : String → qS → Prop}
theorem q_fresh {cy : Nat → ClassId} {q : Nat} {x : va_E} (hD : va_D A (q_w cy S ++ [(q, x)])) : q ∉ qL S := va_pl_fresh2 (X := []) hD
theorem q_new {C : String} {T : u_T} {N : Nat} {ty0 : Nat → FieldType} {K : Nat → qS → Prop} (X : q_X p l s m args meth c cc own nL G A) (I : q_H G A s H locs S) (hc : vwCl[ci]? = some (C, T, N)) (hin : ∀ w ∈ u_ws C T N, w ∈ bg) (hty : ∀ k, k < N → parseFieldDescriptor (T k).2.2.1 = some (ty0 k)) (hdv : ∀ j, j < N → defaultValue (ty0 j) = q_dv (40 * ci + j)) (hcl : Cond.classLink own index C ∈ bg) (hinst : Cond.instantiable C N ∈ bg) (hini : Cond.initialized C ∈ bg) (hf : cells + 1 ≤ R.cells ∧ slots + N ≤ R.slots) (h1 : cells + 1 = c1) (h2 : slots + N = s1) (hdg : decode cc pc = .ok (.new index, 3)) (h : w_new S ci 0 K) (kk : ∀ q S1 H1, q_H G A s H1 locs S1 → K q S1 → W p l e R s m args below meth c H1 locs c1 s1 Q (F0 m (pc + 3) ls (va_rf (some q) :: rest))) : W p l e R s m args below meth c H locs cells slots Q (F0 m pc ls rest) := by
  subst h1
  subst h2
  have hts := X.2.2.2.1
  have h10 : ci < 10 := (List.getElem?_eq_some_iff.mp hc).1
  have hn : q_n ci = N := by
    unfold q_n
    rw [hc]
    rfl
  refine va_new (D := G.1) (ci := ci) (fs := (List.range N).map (fun j => q_dv (40 * ci + j))) X.1 X.2.1 hts hin ty0 hty X.2.2.1 (hts _ hcl) (hts _ hinst) (hts _ hini) X.2.2.2.2.2.2.2.2.1 I.1 I.2.1 I.2.2 X.2.2.2.2.2.2.2.1 hc (fun j hj => ?_) hf.1 hf.2 hdg (fun q H1 a1 a2 a3 => ?_)
  · rw [hdv j hj]
    simp [vp_V, List.getD, List.getElem?_map, List.getElem?_range hj]
  · have hq := q_fresh a2
    have he : q_F G.2.1 (q_nw S ci q 0) q = .inr (ci, (List.range N).map (fun j => q_dv (40 * ci + j))) := by
      rw [q_F_o (ci := ci) (by simp [q_nw, qK, va_up]) h10]
      unfold q_fs
      rw [hn]
      have : (fun k => q_val (q_nw S ci q 0) (40 * ci + k) q) = fun j => q_dv (40 * ci + j) := by
        funext j
        simp [q_val, q_dv, q_nw, qI, qJ, qR, va_rf]
      rw [this]
    rw [q_push hq he] at a1 a2
    exact kk q _ H1 ⟨a1, a2, a3⟩ (h q hq)
theorem q_newI {k N : Nat} {nn : Int32} {K : Nat → qS → Prop} (X : q_X p l s m args meth c cc own nL G A) (I : q_H G A s H locs S) (hk : 10 ≤ k) (ht : q_aty k = 0) (harr : Cond.arrayClass .int ∈ bg) (hn : ¬ nn < 0 ∧ nn.toNatClampNeg = N ∧ N * 4 ≤ 536870912) (hf : cells + 1 ≤ R.cells ∧ slots + N ≤ R.slots) (h1 : cells + 1 = c1) (h2 : slots + N = s1) (hdg : decode cc pc = .ok (.newarray .int, 2)) (h : w_new S k N K) (kk : ∀ q S1 H1, q_H G A s H1 locs S1 → K q S1 → W p l e R s m args below meth c H1 locs c1 s1 Q (F0 m (pc + 2) ls (va_rf (some q) :: rest))) : W p l e R s m args below meth c H locs cells slots Q (F0 m pc ls (.int nn :: rest)) := by
  subst h1
  subst h2
  refine va_newa (D := G.1) (atype := .int) (ty := .int) (a0 := (N, .inl (fun _ => 0))) X.1 X.2.1 (X.2.2.2.1 _ harr) rfl X.2.2.2.2.2.2.2.2.1 I.1 I.2.1 I.2.2 X.2.2.2.2.2.2.2.1 (fun cA => rfl) hn.1 hn.2.1 hn.2.2 hf.1 hf.2 hdg (fun q cA H1 aK a1 a2 a3 => ?_)
  have hcA : cA = G.2.1 0 := Option.some.inj ((aK.2 5 (cA, .int) rfl).2.symm.trans X.2.2.2.2.2.2.2.2.2.1.1.1)
  subst hcA
  have hq := q_fresh a2
  have he : q_F G.2.1 (q_nw S k q N) q = .inl (G.2.1 0, N, .inl (fun _ => 0)) := by
    rw [q_F_a (k := k) (by simp [q_nw, qK, va_up]) hk, q_arr_I (by omega), ht]
    simp [q_nw, qN, qAI, va_up]
  rw [q_push hq he] at a1 a2
  exact kk q _ H1 ⟨a1, a2, a3⟩ (h q hq)
theorem q_newZ {k N : Nat} {nn : Int32} {K : Nat → qS → Prop} (X : q_X p l s m args meth c cc own nL G A) (I : q_H G A s H locs S) (hk : 10 ≤ k) (ht : q_aty k = 1) (harr : Cond.arrayClass .boolean ∈ bg) (hn : ¬ nn < 0 ∧ nn.toNatClampNeg = N ∧ N * 1 ≤ 536870912) (hf : cells + 1 ≤ R.cells ∧ slots + N ≤ R.slots) (h1 : cells + 1 = c1) (h2 : slots + N = s1) (hdg : decode cc pc = .ok (.newarray .boolean, 2)) (h : w_new S k N K) (kk : ∀ q S1 H1, q_H G A s H1 locs S1 → K q S1 → W p l e R s m args below meth c H1 locs c1 s1 Q (F0 m (pc + 2) ls (va_rf (some q) :: rest))) : W p l e R s m args below meth c H locs cells slots Q (F0 m pc ls (.int nn :: rest)) := by
  subst h1
  subst h2
  refine va_newa (D := G.1) (atype := .boolean) (ty := .boolean) (a0 := (N, .inl (fun _ => 0))) X.1 X.2.1 (X.2.2.2.1 _ harr) rfl X.2.2.2.2.2.2.2.2.1 I.1 I.2.1 I.2.2 X.2.2.2.2.2.2.2.1 (fun cA => rfl) hn.1 hn.2.1 hn.2.2 hf.1 hf.2 hdg (fun q cA H1 aK a1 a2 a3 => ?_)
  have hcA : cA = G.2.1 1 := Option.some.inj ((aK.2 5 (cA, .boolean) rfl).2.symm.trans X.2.2.2.2.2.2.2.2.2.1.1.2.1)
  subst hcA
  have hq := q_fresh a2
  have he : q_F G.2.1 (q_nw S k q N) q = .inl (G.2.1 1, N, .inl (fun _ => 0)) := by
    rw [q_F_a (k := k) (by simp [q_nw, qK, va_up]) hk, q_arr_I (by omega), ht]
    simp [q_nw, qN, qAI, va_up]
  rw [q_push hq he] at a1 a2
  exact kk q _ H1 ⟨a1, a2, a3⟩ (h q hq)
theorem q_newJ {k N : Nat} {nn : Int32} {K : Nat → qS → Prop} (X : q_X p l s m args meth c cc own nL G A) (I : q_H G A s H locs S) (hk : 10 ≤ k) (ht : q_aty k = 2) (harr : Cond.arrayClass .long ∈ bg) (hn : ¬ nn < 0 ∧ nn.toNatClampNeg = N ∧ N * 8 ≤ 536870912) (hf : cells + 1 ≤ R.cells ∧ slots + N ≤ R.slots) (h1 : cells + 1 = c1) (h2 : slots + N = s1) (hdg : decode cc pc = .ok (.newarray .long, 2)) (h : w_new S k N K) (kk : ∀ q S1 H1, q_H G A s H1 locs S1 → K q S1 → W p l e R s m args below meth c H1 locs c1 s1 Q (F0 m (pc + 2) ls (va_rf (some q) :: rest))) : W p l e R s m args below meth c H locs cells slots Q (F0 m pc ls (.int nn :: rest)) := by
  subst h1
  subst h2
  refine va_newa (D := G.1) (atype := .long) (ty := .long) (a0 := (N, .inr (.inl (fun _ => 0)))) X.1 X.2.1 (X.2.2.2.1 _ harr) rfl X.2.2.2.2.2.2.2.2.1 I.1 I.2.1 I.2.2 X.2.2.2.2.2.2.2.1 (fun cA => rfl) hn.1 hn.2.1 hn.2.2 hf.1 hf.2 hdg (fun q cA H1 aK a1 a2 a3 => ?_)
  have hcA : cA = G.2.1 2 := Option.some.inj ((aK.2 5 (cA, .long) rfl).2.symm.trans X.2.2.2.2.2.2.2.2.2.1.1.2.2.1)
  subst hcA
  have hq := q_fresh a2
  have he : q_F G.2.1 (q_nw S k q N) q = .inl (G.2.1 2, N, .inr (.inl (fun _ => 0))) := by
    rw [q_F_a (k := k) (by simp [q_nw, qK, va_up]) hk, q_arr_J ht]
    simp [q_nw, qN, qAJ, va_up]
  rw [q_push hq he] at a1 a2
  exact kk q _ H1 ⟨a1, a2, a3⟩ (h q hq)
theorem q_cast {C : String} {T : u_T} {N : Nat} {K : Prop} (X : q_X p l s m args meth c cc own nL G A) (I : q_H G A s H locs S) (hc : vwCl[ci]? = some (C, T, N)) (hcl : Cond.classLink own index C ∈ bg) (hdg : decode cc pc = .ok (.checkcast index, 3)) (h : w_cast S r ci K) (kk : K → W p l e R s m args below meth c H locs cells slots Q (F0 m (pc + 3) ls (va_rf r :: rest))) : W p l e R s m args below meth c H locs cells slots Q (F0 m pc ls (va_rf r :: rest)) := by
  obtain ⟨h, hK⟩ := h
  rcases h with rfl | ⟨a, rfl, ha, hka⟩
  · exact lv_castN X.1 X.2.1 hdg (kk hK)
  · obtain ⟨k0, h0, h1, -, -⟩ := q_at_o (G := G) hc ha hka
    have hKn := X.2.2.2.2.2.2.2.2.1
    exact va_castS X.1 X.2.1 X.2.2.1 (X.2.2.2.1 _ hcl) (hKn.1 ci _ hc).2 (va_recv hKn I.1 hc h1) hdg (kk hK)
theorem q_objInit {a : Nat} (X : q_X p l s m args meth c cc own nL G A) (hls : ls.size = nL) (hl : Cond.methodLink own index objectInit ∈ bg) (hi : Cond.instanceMethod objectInit ∈ bg) (hco : Cond.code objectInit ⟨#[0xb1]⟩ 1 none ∈ bg) (hdg : decode cc pc = .ok (.invokespecial index, 3)) (hf : 1 ≤ R.frames) (hloc : (rest.map fun v => v.category).sum + 12 ≤ R.locals) (kk : W p l e R s m args below meth c H locs cells slots Q (F0 m (pc + 3) ls rest)) : W p l e R s m args below meth c H locs cells slots Q (F0 m pc ls (va_rf (some a) :: rest)) := by
  have hts := X.2.2.2.1
  refine W.objInit X.1 X.2.1 X.2.2.1 (hts _ hl) (hts _ hi) (hts _ hco) rfl (by rw [X.2.2.2.2.1]; exact hls) rfl hdg hf ?_ ?_
  · show 2 * 0 + _ + 12 ≤ _
    omega
  · exact kk
/-- a constructor's call -/
theorem q_cI {b : Nat} {K : qS → Prop} (X : q_X p l s m args meth c cc own nL G A) (I : q_H G A s H locs S) (hls : ls.size = nL) (mt : q_mt y bytes maxL none n) (hi : Cond.instanceMethod y ∈ bg) (hy : y.name = "<init>") (hl : Cond.methodLink own index y ∈ bg) (hdg : decode cc pc = .ok (.invokespecial index, 3)) (hst : st0 = As.reverse ++ va_rf (some b) :: rest) (hM : q_N l y bytes maxL d mc ms G S H.size (va_rf (some b) :: As) K) (hn : As.length = n) (hW : (rest.map fun v => v.category).sum ≤ 8) (hR : d + 1 ≤ R.frames ∧ 8 + (maxL + 11) + 48 * d ≤ R.locals) (hf : cells + mc ≤ R.cells ∧ slots + ms ≤ R.slots) (h1 : cells + mc = c1) (h2 : slots + ms = s1) (kk : ∀ (S1 : qS) (H1 : Heap) (locs1 : List Loc), q_H G A s H1 locs1 S1 → K S1 → W p l e R s m args below meth c H1 locs1 c1 s1 Q (F0 m (pc + 3) ls rest)) : W p l e R s m args below meth c H locs cells slots Q (F0 m pc ls st0) := by
  subst h1
  subst h2
  have hts := X.2.2.2.1
  have hsub := q_sub X I
  refine va_callv (va_runI (Ts := bg) ⟨X.1, X.2.1, X.2.2.2.2.1, X.2.2.1, hts⟩ hM ⟨q_callB X mt hl hR, hy, hts _ hi⟩ ⟨q_blind, q_pre X I⟩ rfl hn hls hst (lv_room hW) hdg hf) I.2.2 (fun q _ h => hsub q h) hsub (fun u t H1 locs1 ht hvm hp hB hz hk hS => ?_)
  exact kk _ H1 locs1 (q_after X I ht hB hS) hp
theorem q_ofN {l : Launch} {y : MethodName} {cc : ByteArray} {maxL : Nat} {d mc ms : Nat} {G : qG} {S : qS} {sz : Nat} {av : List Value} {post : qS → Prop} {lv : List (Nat × Value)} (hl0 : l.stackTraces = false) (hy : plainName y.cls = true) (hlv : lv_args 0 av = lv) (hlen : (lg_sl av).length ≤ maxL)
    (body : ∀ (p : Program) (e : Env) (s : State) (m : MethodId) (below : List Frame) (meth : Method) (c : Code) (A : Nat → Prop) (ls : Array Slot), q_X p l s m av.toArray meth c cc y.cls maxL G A → meth.sig.returnType = none → meth.name = y.name → q_H G A s s.heap [] S → lv_has ls maxL lv → W p l e (q_rm d mc ms) s m av.toArray below meth c s.heap [] 0 0 (MQ below (q_Qv G post A) av.toArray s mc ms A) (F0 m 0 ls [])) : q_N l y cc maxL d mc ms G S sz av post := by
  refine Met.ofW (cc := cc) (maxL := maxL) (ret := none) hy rfl ?_
  intro p e s m args below meth c s₁ B hml hv
  obtain ⟨rfl, hsz, hP, hD0, hE⟩ := hv
  have hts := atoms_spec (ws := Cond.code y cc maxL none :: bg) B.pre
  have hown : s.vm.findClass y.cls = some m.cls := findClass_of_methodNamed B.named
  have hnm : meth.name = y.name := (name_of_methodNamed B.named B.method).1
  subst hsz
  have hA : ∀ q : Nat, s.heap.size ≤ q → q_A G S s.heap.size q := fun q h => Or.inr h
  have hl := lv_entry av (n := maxL) hlen
  rw [lg_entry_eq]
  rw [hlv] at hl
  exact body p e s m below meth c (q_A G S s.heap.size) _ ⟨B.exec, B.bytes, hown, fun w hw => hts w (List.mem_cons_of_mem _ hw), hml, B.notSynchronized, hl0, hA, hE⟩ B.returns hnm ⟨hP, hD0.self, va_S.rf⟩ hl
theorem q_vretN {post : qS → Prop} (X : q_X p l s m args meth c cc own nL G A) (I : q_H G A s H locs S) (hr : meth.sig.returnType = none) (hdg : decode cc pc = .ok (.return_, 1)) (h : post S) (hc : cells ≤ mcQ) (hs : slots ≤ msQ) : W p l e R s m args below meth c H locs cells slots (MQ below (q_Qv G post A) args s mcQ msQ A) (F0 m pc ls []) :=
  W.widen hc hs (W.vret X.1 X.2.1 hr (fun t ht hW => ⟨⟨S, rfl, h, by rw [ht]; exact I.1, I.2.1⟩, I.2.2.F ht⟩) I.2.2.2.2 hdg X.2.2.2.2.2.1)
/-- throw new E("text") -/
theorem q_throw {cls text : String} {names : List String} {ik is ic : Nat} {pc3 pc4 pc6 pc9 : Nat} (X : q_X p l s m args meth c cc own nL G A) (N : ∀ x ∈ c.exceptionTable.toList, False) (I : q_H G A s H locs S) (hls : ls.size = nL) (hcls : Bundle.fit cls = true) (hnames : ∀ n ∈ names, Bundle.fit n = true) (hk : Cond.classLink own ik cls ∈ bg) (hini : Cond.initialized cls ∈ bg) (hstr : (own, is, text) ∈ q_strs) (hg : ∀ w ∈ (vx_atS own ic cls names).filter goodWord, w ∈ bg) (hng : ∀ w ∈ (vx_atS own ic cls names).filter (fun w => !goodWord w), w ∈ q_casts.map (fun q => Cond.castable q.1 q.2) ++ q_decls.map Cond.declares) (hgood : ∀ w ∈ Cond.classLink own ik cls :: Cond.initialized cls :: vx_atS own ic cls names, vx_ot w = true)
    (d0 : decode cc pc = .ok (.new ik, 3)) (d3 : decode cc (pc + 3) = .ok (.dup, 1)) (d4 : decode cc (pc + 4) = .ok (.ldc is, 2)) (d6 : decode cc (pc + 6) = .ok (.invokespecial ic, 3)) (d9 : decode cc (pc + 9) = .ok (.athrow, 1)) (hRf : names.length + 3 < R.frames) (hRl : (rest.map fun v => v.category).sum + (13 * (names.length + 1) + 43) ≤ R.locals) (hf : cells + 1 ≤ R.cells ∧ slots + 6 ≤ R.slots) (hm : cells + 1 ≤ mcQ ∧ slots + 6 ≤ msQ) (h : xp cls S) : W p l e R s m args below meth c H locs cells slots (vx_MQ below Qc (q_XC G A xp) args s mcQ msQ A) (F0 m pc ls rest) := by
  have hts := X.2.2.2.1
  have hE := X.2.2.2.2.2.2.2.2
  obtain ⟨sa, hsa⟩ := hE.2.1.2.2.1 _ hstr
  have hat : ∀ w ∈ vx_atS own ic cls names, w.before args s = true := by
    refine vx_hat (fun w hw => hts w (hg w hw)) hng (fun w hw => ?_)
    rcases List.mem_append.mp hw with h | h
    · obtain ⟨q, hq, rfl⟩ := List.mem_map.mp h
      exact va_Nw.use rfl (hE.2.1.2.2.2.1 q hq)
    · obtain ⟨q, hq, rfl⟩ := List.mem_map.mp h
      exact va_Nw.use rfl (hE.2.1.2.2.2.2.2.2 q hq)
  refine vx_throwS X.1 X.2.1 X.2.2.2.2.2.2.1 X.2.2.1 hcls hnames (hts _ hk) (hts _ hini) hsa hat hgood hE.2.2.1 hE.2.2.2.1 I.2.2 (by rw [X.2.2.2.2.1]; exact hls) d0 d3 d4 d6 d9 (fun x hx => (N x hx).elim) hRf hRl hf.1 hf.2 X.2.2.2.2.2.1 (fun t hvm hz hk => ?_) I.2.2.2.2 hm.1 hm.2
  refine ⟨S, trivial, ⟨h, I.1.kept (fun k q hq => hk q.1 ((I.1 k q hq).lt)), I.2.1⟩, Nat.le_trans I.2.2.1 hz, fun q h1 h2 => ?_⟩
  rw [hk q (Nat.lt_of_lt_of_le h1 I.2.2.1)]
  exact I.2.2.2.1 q h1 h2
end QV
end
section
theorem zz_last : True := trivial
end
