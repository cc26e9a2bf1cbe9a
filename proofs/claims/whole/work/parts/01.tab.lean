/-- a private method of a class that the tables say can be made, by its rows of tables_1 -/
def lw_okq (q : MethodName × Nat) : Prop := (q.1.cls ≠ "java/lang/invoke/MethodHandle" ∧ q.1.cls ≠ "java/lang/invoke/VarHandle") ∧ Cond.instantiable q.1.cls q.2 ∈ tables_1 ∧ Cond.privateMethod q.1 ∈ tables_1 ∧ Cond.instanceMethod q.1 ∈ tables_1
theorem lw_p0 : lw_okq (⟨"SecondWish", "lineAnew", "([LSecondWish$Line;III)I"⟩, 16) := ⟨⟨by decide +kernel, by decide +kernel⟩, List.mem_of_getElem? (i := 16) (by decide +kernel), List.mem_of_getElem? (i := 334) (by decide +kernel), List.mem_of_getElem? (i := 335) (by decide +kernel)⟩
theorem lw_p1 : lw_okq (⟨"SecondWish", "find", "(I)I"⟩, 16) := ⟨⟨by decide +kernel, by decide +kernel⟩, List.mem_of_getElem? (i := 16) (by decide +kernel), List.mem_of_getElem? (i := 338) (by decide +kernel), List.mem_of_getElem? (i := 339) (by decide +kernel)⟩
theorem lw_p2 : lw_okq (⟨"SecondWish", "refusePlace", "(LSecondWish$Line;I)I"⟩, 16) := ⟨⟨by decide +kernel, by decide +kernel⟩, List.mem_of_getElem? (i := 16) (by decide +kernel), List.mem_of_getElem? (i := 356) (by decide +kernel), List.mem_of_getElem? (i := 357) (by decide +kernel)⟩
theorem lw_p3 : lw_okq (⟨"SecondWish$Reader", "readThings", "()Z"⟩, 5) := ⟨⟨by decide +kernel, by decide +kernel⟩, List.mem_of_getElem? (i := 130) (by decide +kernel), List.mem_of_getElem? (i := 424) (by decide +kernel), List.mem_of_getElem? (i := 425) (by decide +kernel)⟩
theorem lw_p4 : lw_okq (⟨"SecondWish$Reader", "skipBlanks", "()V"⟩, 5) := ⟨⟨by decide +kernel, by decide +kernel⟩, List.mem_of_getElem? (i := 130) (by decide +kernel), List.mem_of_getElem? (i := 428) (by decide +kernel), List.mem_of_getElem? (i := 429) (by decide +kernel)⟩
theorem lw_p5 : lw_okq (⟨"SecondWish$Reader", "sign", "()I"⟩, 5) := ⟨⟨by decide +kernel, by decide +kernel⟩, List.mem_of_getElem? (i := 130) (by decide +kernel), List.mem_of_getElem? (i := 432) (by decide +kernel), List.mem_of_getElem? (i := 433) (by decide +kernel)⟩
theorem lw_p6 : lw_okq (⟨"SecondWish$Reader", "take", "(I)Z"⟩, 5) := ⟨⟨by decide +kernel, by decide +kernel⟩, List.mem_of_getElem? (i := 130) (by decide +kernel), List.mem_of_getElem? (i := 436) (by decide +kernel), List.mem_of_getElem? (i := 437) (by decide +kernel)⟩
theorem lw_p7 : lw_okq (⟨"SecondWish$Reader", "takeFigure", "(II)I"⟩, 5) := ⟨⟨by decide +kernel, by decide +kernel⟩, List.mem_of_getElem? (i := 130) (by decide +kernel), List.mem_of_getElem? (i := 440) (by decide +kernel), List.mem_of_getElem? (i := 441) (by decide +kernel)⟩
theorem lw_p8 : lw_okq (⟨"SecondWish$Reader", "readPeople", "()Z"⟩, 5) := ⟨⟨by decide +kernel, by decide +kernel⟩, List.mem_of_getElem? (i := 130) (by decide +kernel), List.mem_of_getElem? (i := 444) (by decide +kernel), List.mem_of_getElem? (i := 445) (by decide +kernel)⟩
theorem lw_p9 : lw_okq (⟨"SecondWish$Reader", "takeRising", "()I"⟩, 5) := ⟨⟨by decide +kernel, by decide +kernel⟩, List.mem_of_getElem? (i := 130) (by decide +kernel), List.mem_of_getElem? (i := 453) (by decide +kernel), List.mem_of_getElem? (i := 454) (by decide +kernel)⟩
theorem lw_p10 : lw_okq (⟨"SecondWish$Reader", "readWants", "()Z"⟩, 5) := ⟨⟨by decide +kernel, by decide +kernel⟩, List.mem_of_getElem? (i := 130) (by decide +kernel), List.mem_of_getElem? (i := 457) (by decide +kernel), List.mem_of_getElem? (i := 458) (by decide +kernel)⟩
theorem lw_p11 : lw_okq (⟨"SecondWish$Reader", "readUndoings", "()Z"⟩, 5) := ⟨⟨by decide +kernel, by decide +kernel⟩, List.mem_of_getElem? (i := 130) (by decide +kernel), List.mem_of_getElem? (i := 461) (by decide +kernel), List.mem_of_getElem? (i := 462) (by decide +kernel)⟩
theorem lw_p12 : lw_okq (⟨"SecondWish", "ofOne", "(II)I"⟩, 16) := ⟨⟨by decide +kernel, by decide +kernel⟩, List.mem_of_getElem? (i := 16) (by decide +kernel), List.mem_of_getElem? (i := 491) (by decide +kernel), List.mem_of_getElem? (i := 492) (by decide +kernel)⟩
theorem lw_p13 : lw_okq (⟨"SecondWish", "ofThing", "(II)I"⟩, 16) := ⟨⟨by decide +kernel, by decide +kernel⟩, List.mem_of_getElem? (i := 16) (by decide +kernel), List.mem_of_getElem? (i := 545) (by decide +kernel), List.mem_of_getElem? (i := 546) (by decide +kernel)⟩
theorem lw_p14 : lw_okq (⟨"SecondWish", "speak", "(II)Z"⟩, 16) := ⟨⟨by decide +kernel, by decide +kernel⟩, List.mem_of_getElem? (i := 16) (by decide +kernel), List.mem_of_getElem? (i := 591) (by decide +kernel), List.mem_of_getElem? (i := 592) (by decide +kernel)⟩
theorem lw_p15 : lw_okq (⟨"SecondWish$Foresight", "thinkAhead", "(II)J"⟩, 5) := ⟨⟨by decide +kernel, by decide +kernel⟩, List.mem_of_getElem? (i := 159) (by decide +kernel), List.mem_of_getElem? (i := 681) (by decide +kernel), List.mem_of_getElem? (i := 682) (by decide +kernel)⟩
def lw_privs_1 : List (MethodName × Nat) := [(⟨"SecondWish", "lineAnew", "([LSecondWish$Line;III)I"⟩, 16), (⟨"SecondWish", "find", "(I)I"⟩, 16), (⟨"SecondWish", "refusePlace", "(LSecondWish$Line;I)I"⟩, 16), (⟨"SecondWish$Reader", "readThings", "()Z"⟩, 5), (⟨"SecondWish$Reader", "skipBlanks", "()V"⟩, 5), (⟨"SecondWish$Reader", "sign", "()I"⟩, 5), (⟨"SecondWish$Reader", "take", "(I)Z"⟩, 5), (⟨"SecondWish$Reader", "takeFigure", "(II)I"⟩, 5), (⟨"SecondWish$Reader", "readPeople", "()Z"⟩, 5), (⟨"SecondWish$Reader", "takeRising", "()I"⟩, 5), (⟨"SecondWish$Reader", "readWants", "()Z"⟩, 5), (⟨"SecondWish$Reader", "readUndoings", "()Z"⟩, 5), (⟨"SecondWish", "ofOne", "(II)I"⟩, 16), (⟨"SecondWish", "ofThing", "(II)I"⟩, 16), (⟨"SecondWish", "speak", "(II)Z"⟩, 16), (⟨"SecondWish$Foresight", "thinkAhead", "(II)J"⟩, 5)]
theorem lw_r1 : ∀ q ∈ lw_privs_1, lw_okq q := List.forall_mem_cons.mpr ⟨lw_p0, List.forall_mem_cons.mpr ⟨lw_p1, List.forall_mem_cons.mpr ⟨lw_p2, List.forall_mem_cons.mpr ⟨lw_p3, List.forall_mem_cons.mpr ⟨lw_p4, List.forall_mem_cons.mpr ⟨lw_p5, List.forall_mem_cons.mpr ⟨lw_p6, List.forall_mem_cons.mpr ⟨lw_p7, List.forall_mem_cons.mpr ⟨lw_p8, List.forall_mem_cons.mpr ⟨lw_p9, List.forall_mem_cons.mpr ⟨lw_p10, List.forall_mem_cons.mpr ⟨lw_p11, List.forall_mem_cons.mpr ⟨lw_p12, List.forall_mem_cons.mpr ⟨lw_p13, List.forall_mem_cons.mpr ⟨lw_p14, List.forall_mem_cons.mpr ⟨lw_p15, fun _ h => absurd h List.not_mem_nil⟩⟩⟩⟩⟩⟩⟩⟩⟩⟩⟩⟩⟩⟩⟩⟩
theorem lw_p16 : lw_okq (⟨"SecondWish$Foresight", "allGains", "()J"⟩, 5) := ⟨⟨by decide +kernel, by decide +kernel⟩, List.mem_of_getElem? (i := 159) (by decide +kernel), List.mem_of_getElem? (i := 685) (by decide +kernel), List.mem_of_getElem? (i := 686) (by decide +kernel)⟩
theorem lw_p17 : lw_okq (⟨"SecondWish$Foresight", "sureGain", "(III)I"⟩, 5) := ⟨⟨by decide +kernel, by decide +kernel⟩, List.mem_of_getElem? (i := 159) (by decide +kernel), List.mem_of_getElem? (i := 713) (by decide +kernel), List.mem_of_getElem? (i := 714) (by decide +kernel)⟩
theorem lw_p18 : lw_okq (⟨"SecondWish$Foresight", "reaches", "(IIII)Z"⟩, 5) := ⟨⟨by decide +kernel, by decide +kernel⟩, List.mem_of_getElem? (i := 159) (by decide +kernel), List.mem_of_getElem? (i := 727) (by decide +kernel), List.mem_of_getElem? (i := 728) (by decide +kernel)⟩
theorem lw_p19 : lw_okq (⟨"SecondWish$Foresight", "isOutOfReach", "(III)Z"⟩, 5) := ⟨⟨by decide +kernel, by decide +kernel⟩, List.mem_of_getElem? (i := 159) (by decide +kernel), List.mem_of_getElem? (i := 731) (by decide +kernel), List.mem_of_getElem? (i := 732) (by decide +kernel)⟩
theorem lw_p20 : lw_okq (⟨"SecondWish$Giving", "fillFromLast", "(LSecondWish$Town;LSecondWish$Day;)V"⟩, 1) := ⟨⟨by decide +kernel, by decide +kernel⟩, List.mem_of_getElem? (i := 231) (by decide +kernel), List.mem_of_getElem? (i := 749) (by decide +kernel), List.mem_of_getElem? (i := 750) (by decide +kernel)⟩
theorem lw_p21 : lw_okq (⟨"SecondWish$Giving", "withThing", "(LSecondWish$Day;III)I"⟩, 1) := ⟨⟨by decide +kernel, by decide +kernel⟩, List.mem_of_getElem? (i := 231) (by decide +kernel), List.mem_of_getElem? (i := 754) (by decide +kernel), List.mem_of_getElem? (i := 755) (by decide +kernel)⟩
theorem lw_p22 : lw_okq (⟨"SecondWish$Giving", "firstOfMost", "(LSecondWish$Town;LSecondWish$Day;II)I"⟩, 1) := ⟨⟨by decide +kernel, by decide +kernel⟩, List.mem_of_getElem? (i := 231) (by decide +kernel), List.mem_of_getElem? (i := 760) (by decide +kernel), List.mem_of_getElem? (i := 761) (by decide +kernel)⟩
theorem lw_p23 : lw_okq (⟨"SecondWish$Circle", "closeFrom", "(III)I"⟩, 2) := ⟨⟨by decide +kernel, by decide +kernel⟩, List.mem_of_getElem? (i := 242) (by decide +kernel), List.mem_of_getElem? (i := 786) (by decide +kernel), List.mem_of_getElem? (i := 787) (by decide +kernel)⟩
theorem lw_p24 : lw_okq (⟨"SecondWish", "refuseSpeakers", "(LSecondWish$Line;)I"⟩, 16) := ⟨⟨by decide +kernel, by decide +kernel⟩, List.mem_of_getElem? (i := 16) (by decide +kernel), List.mem_of_getElem? (i := 794) (by decide +kernel), List.mem_of_getElem? (i := 795) (by decide +kernel)⟩
theorem lw_p25 : lw_okq (⟨"SecondWish$Past", "goThrough", "(I)V"⟩, 11) := ⟨⟨by decide +kernel, by decide +kernel⟩, List.mem_of_getElem? (i := 187) (by decide +kernel), List.mem_of_getElem? (i := 812) (by decide +kernel), List.mem_of_getElem? (i := 813) (by decide +kernel)⟩
theorem lw_p26 : lw_okq (⟨"SecondWish$Past", "noteIfAsNow", "()V"⟩, 11) := ⟨⟨by decide +kernel, by decide +kernel⟩, List.mem_of_getElem? (i := 187) (by decide +kernel), List.mem_of_getElem? (i := 816) (by decide +kernel), List.mem_of_getElem? (i := 817) (by decide +kernel)⟩
theorem lw_p27 : lw_okq (⟨"SecondWish$Past", "canBecomeAsNow", "(I)Z"⟩, 11) := ⟨⟨by decide +kernel, by decide +kernel⟩, List.mem_of_getElem? (i := 187) (by decide +kernel), List.mem_of_getElem? (i := 821) (by decide +kernel), List.mem_of_getElem? (i := 822) (by decide +kernel)⟩
theorem lw_p28 : lw_okq (⟨"SecondWish$Foresight", "goodWays", "(III)J"⟩, 5) := ⟨⟨by decide +kernel, by decide +kernel⟩, List.mem_of_getElem? (i := 159) (by decide +kernel), List.mem_of_getElem? (i := 861) (by decide +kernel), List.mem_of_getElem? (i := 862) (by decide +kernel)⟩
theorem lw_p29 : lw_okq (⟨"SecondWish", "daysKept", "()I"⟩, 16) := ⟨⟨by decide +kernel, by decide +kernel⟩, List.mem_of_getElem? (i := 16) (by decide +kernel), List.mem_of_getElem? (i := 900) (by decide +kernel), List.mem_of_getElem? (i := 901) (by decide +kernel)⟩
theorem lw_p30 : lw_okq (⟨"SecondWish", "mixTown", "(J)J"⟩, 16) := ⟨⟨by decide +kernel, by decide +kernel⟩, List.mem_of_getElem? (i := 16) (by decide +kernel), List.mem_of_getElem? (i := 922) (by decide +kernel), List.mem_of_getElem? (i := 923) (by decide +kernel)⟩
theorem lw_p31 : lw_okq (⟨"SecondWishModel", "meets", "(I)I"⟩, 46) := ⟨⟨by decide +kernel, by decide +kernel⟩, List.mem_of_getElem? (i := 930) (by decide +kernel), List.mem_of_getElem? (i := 1106) (by decide +kernel), List.mem_of_getElem? (i := 1107) (by decide +kernel)⟩
def lw_privs_2 : List (MethodName × Nat) := [(⟨"SecondWish$Foresight", "allGains", "()J"⟩, 5), (⟨"SecondWish$Foresight", "sureGain", "(III)I"⟩, 5), (⟨"SecondWish$Foresight", "reaches", "(IIII)Z"⟩, 5), (⟨"SecondWish$Foresight", "isOutOfReach", "(III)Z"⟩, 5), (⟨"SecondWish$Giving", "fillFromLast", "(LSecondWish$Town;LSecondWish$Day;)V"⟩, 1), (⟨"SecondWish$Giving", "withThing", "(LSecondWish$Day;III)I"⟩, 1), (⟨"SecondWish$Giving", "firstOfMost", "(LSecondWish$Town;LSecondWish$Day;II)I"⟩, 1), (⟨"SecondWish$Circle", "closeFrom", "(III)I"⟩, 2), (⟨"SecondWish", "refuseSpeakers", "(LSecondWish$Line;)I"⟩, 16), (⟨"SecondWish$Past", "goThrough", "(I)V"⟩, 11), (⟨"SecondWish$Past", "noteIfAsNow", "()V"⟩, 11), (⟨"SecondWish$Past", "canBecomeAsNow", "(I)Z"⟩, 11), (⟨"SecondWish$Foresight", "goodWays", "(III)J"⟩, 5), (⟨"SecondWish", "daysKept", "()I"⟩, 16), (⟨"SecondWish", "mixTown", "(J)J"⟩, 16), (⟨"SecondWishModel", "meets", "(I)I"⟩, 46)]
theorem lw_r2 : ∀ q ∈ lw_privs_2, lw_okq q := List.forall_mem_cons.mpr ⟨lw_p16, List.forall_mem_cons.mpr ⟨lw_p17, List.forall_mem_cons.mpr ⟨lw_p18, List.forall_mem_cons.mpr ⟨lw_p19, List.forall_mem_cons.mpr ⟨lw_p20, List.forall_mem_cons.mpr ⟨lw_p21, List.forall_mem_cons.mpr ⟨lw_p22, List.forall_mem_cons.mpr ⟨lw_p23, List.forall_mem_cons.mpr ⟨lw_p24, List.forall_mem_cons.mpr ⟨lw_p25, List.forall_mem_cons.mpr ⟨lw_p26, List.forall_mem_cons.mpr ⟨lw_p27, List.forall_mem_cons.mpr ⟨lw_p28, List.forall_mem_cons.mpr ⟨lw_p29, List.forall_mem_cons.mpr ⟨lw_p30, List.forall_mem_cons.mpr ⟨lw_p31, fun _ h => absurd h List.not_mem_nil⟩⟩⟩⟩⟩⟩⟩⟩⟩⟩⟩⟩⟩⟩⟩⟩
theorem lw_p32 : lw_okq (⟨"SecondWishModel", "rowAt", "(II)I"⟩, 46) := ⟨⟨by decide +kernel, by decide +kernel⟩, List.mem_of_getElem? (i := 930) (by decide +kernel), List.mem_of_getElem? (i := 1114) (by decide +kernel), List.mem_of_getElem? (i := 1115) (by decide +kernel)⟩
theorem lw_p33 : lw_okq (⟨"SecondWishModel", "tells", "(II)I"⟩, 46) := ⟨⟨by decide +kernel, by decide +kernel⟩, List.mem_of_getElem? (i := 930) (by decide +kernel), List.mem_of_getElem? (i := 1118) (by decide +kernel), List.mem_of_getElem? (i := 1119) (by decide +kernel)⟩
theorem lw_p34 : lw_okq (⟨"SecondWishModel", "faultOf", "(I)I"⟩, 46) := ⟨⟨by decide +kernel, by decide +kernel⟩, List.mem_of_getElem? (i := 930) (by decide +kernel), List.mem_of_getElem? (i := 1153) (by decide +kernel), List.mem_of_getElem? (i := 1154) (by decide +kernel)⟩
theorem lw_p35 : lw_okq (⟨"SecondWishModel", "byteAt", "(II)I"⟩, 46) := ⟨⟨by decide +kernel, by decide +kernel⟩, List.mem_of_getElem? (i := 930) (by decide +kernel), List.mem_of_getElem? (i := 1157) (by decide +kernel), List.mem_of_getElem? (i := 1158) (by decide +kernel)⟩
theorem lw_p36 : lw_okq (⟨"SecondWishModel", "readsThings", "(I)Z"⟩, 46) := ⟨⟨by decide +kernel, by decide +kernel⟩, List.mem_of_getElem? (i := 930) (by decide +kernel), List.mem_of_getElem? (i := 1161) (by decide +kernel), List.mem_of_getElem? (i := 1162) (by decide +kernel)⟩
theorem lw_p37 : lw_okq (⟨"SecondWishModel", "figure", "(III)Z"⟩, 46) := ⟨⟨by decide +kernel, by decide +kernel⟩, List.mem_of_getElem? (i := 930) (by decide +kernel), List.mem_of_getElem? (i := 1165) (by decide +kernel), List.mem_of_getElem? (i := 1166) (by decide +kernel)⟩
theorem lw_p38 : lw_okq (⟨"SecondWishModel", "readsWant", "(I)Z"⟩, 46) := ⟨⟨by decide +kernel, by decide +kernel⟩, List.mem_of_getElem? (i := 930) (by decide +kernel), List.mem_of_getElem? (i := 1169) (by decide +kernel), List.mem_of_getElem? (i := 1170) (by decide +kernel)⟩
theorem lw_p39 : lw_okq (⟨"SecondWishModel", "readsUndoing", "(I)Z"⟩, 46) := ⟨⟨by decide +kernel, by decide +kernel⟩, List.mem_of_getElem? (i := 930) (by decide +kernel), List.mem_of_getElem? (i := 1173) (by decide +kernel), List.mem_of_getElem? (i := 1174) (by decide +kernel)⟩
theorem lw_p40 : lw_okq (⟨"SecondWishModel", "readsOne", "(I)Z"⟩, 46) := ⟨⟨by decide +kernel, by decide +kernel⟩, List.mem_of_getElem? (i := 930) (by decide +kernel), List.mem_of_getElem? (i := 1177) (by decide +kernel), List.mem_of_getElem? (i := 1178) (by decide +kernel)⟩
theorem lw_p41 : lw_okq (⟨"SecondWishModel", "clear", "(I)V"⟩, 46) := ⟨⟨by decide +kernel, by decide +kernel⟩, List.mem_of_getElem? (i := 930) (by decide +kernel), List.mem_of_getElem? (i := 1188) (by decide +kernel), List.mem_of_getElem? (i := 1189) (by decide +kernel)⟩
theorem lw_p42 : lw_okq (⟨"SecondWishModel", "set", "(IIII)V"⟩, 46) := ⟨⟨by decide +kernel, by decide +kernel⟩, List.mem_of_getElem? (i := 930) (by decide +kernel), List.mem_of_getElem? (i := 1192) (by decide +kernel), List.mem_of_getElem? (i := 1193) (by decide +kernel)⟩
theorem lw_p43 : lw_okq (⟨"SecondWishModel", "isOne", "(I)Z"⟩, 46) := ⟨⟨by decide +kernel, by decide +kernel⟩, List.mem_of_getElem? (i := 930) (by decide +kernel), List.mem_of_getElem? (i := 1200) (by decide +kernel), List.mem_of_getElem? (i := 1201) (by decide +kernel)⟩
theorem lw_p44 : lw_okq (⟨"SecondWishModel", "oneTells", "(II)I"⟩, 46) := ⟨⟨by decide +kernel, by decide +kernel⟩, List.mem_of_getElem? (i := 930) (by decide +kernel), List.mem_of_getElem? (i := 1204) (by decide +kernel), List.mem_of_getElem? (i := 1205) (by decide +kernel)⟩
theorem lw_p45 : lw_okq (⟨"SecondWishModel", "hearsOf", "(I)I"⟩, 46) := ⟨⟨by decide +kernel, by decide +kernel⟩, List.mem_of_getElem? (i := 930) (by decide +kernel), List.mem_of_getElem? (i := 1208) (by decide +kernel), List.mem_of_getElem? (i := 1209) (by decide +kernel)⟩
theorem lw_p46 : lw_okq (⟨"SecondWishModel", "v", "(III)I"⟩, 46) := ⟨⟨by decide +kernel, by decide +kernel⟩, List.mem_of_getElem? (i := 930) (by decide +kernel), List.mem_of_getElem? (i := 1212) (by decide +kernel), List.mem_of_getElem? (i := 1213) (by decide +kernel)⟩
theorem lw_p47 : lw_okq (⟨"SecondWishModel", "thingsBy", "(II)I"⟩, 46) := ⟨⟨by decide +kernel, by decide +kernel⟩, List.mem_of_getElem? (i := 930) (by decide +kernel), List.mem_of_getElem? (i := 1216) (by decide +kernel), List.mem_of_getElem? (i := 1217) (by decide +kernel)⟩
def lw_privs_3 : List (MethodName × Nat) := [(⟨"SecondWishModel", "rowAt", "(II)I"⟩, 46), (⟨"SecondWishModel", "tells", "(II)I"⟩, 46), (⟨"SecondWishModel", "faultOf", "(I)I"⟩, 46), (⟨"SecondWishModel", "byteAt", "(II)I"⟩, 46), (⟨"SecondWishModel", "readsThings", "(I)Z"⟩, 46), (⟨"SecondWishModel", "figure", "(III)Z"⟩, 46), (⟨"SecondWishModel", "readsWant", "(I)Z"⟩, 46), (⟨"SecondWishModel", "readsUndoing", "(I)Z"⟩, 46), (⟨"SecondWishModel", "readsOne", "(I)Z"⟩, 46), (⟨"SecondWishModel", "clear", "(I)V"⟩, 46), (⟨"SecondWishModel", "set", "(IIII)V"⟩, 46), (⟨"SecondWishModel", "isOne", "(I)Z"⟩, 46), (⟨"SecondWishModel", "oneTells", "(II)I"⟩, 46), (⟨"SecondWishModel", "hearsOf", "(I)I"⟩, 46), (⟨"SecondWishModel", "v", "(III)I"⟩, 46), (⟨"SecondWishModel", "thingsBy", "(II)I"⟩, 46)]
theorem lw_r3 : ∀ q ∈ lw_privs_3, lw_okq q := List.forall_mem_cons.mpr ⟨lw_p32, List.forall_mem_cons.mpr ⟨lw_p33, List.forall_mem_cons.mpr ⟨lw_p34, List.forall_mem_cons.mpr ⟨lw_p35, List.forall_mem_cons.mpr ⟨lw_p36, List.forall_mem_cons.mpr ⟨lw_p37, List.forall_mem_cons.mpr ⟨lw_p38, List.forall_mem_cons.mpr ⟨lw_p39, List.forall_mem_cons.mpr ⟨lw_p40, List.forall_mem_cons.mpr ⟨lw_p41, List.forall_mem_cons.mpr ⟨lw_p42, List.forall_mem_cons.mpr ⟨lw_p43, List.forall_mem_cons.mpr ⟨lw_p44, List.forall_mem_cons.mpr ⟨lw_p45, List.forall_mem_cons.mpr ⟨lw_p46, List.forall_mem_cons.mpr ⟨lw_p47, fun _ h => absurd h List.not_mem_nil⟩⟩⟩⟩⟩⟩⟩⟩⟩⟩⟩⟩⟩⟩⟩⟩
theorem lw_p48 : lw_okq (⟨"SecondWishModel", "gainOf", "(II)I"⟩, 46) := ⟨⟨by decide +kernel, by decide +kernel⟩, List.mem_of_getElem? (i := 930) (by decide +kernel), List.mem_of_getElem? (i := 1220) (by decide +kernel), List.mem_of_getElem? (i := 1221) (by decide +kernel)⟩
theorem lw_p49 : lw_okq (⟨"SecondWishModel", "holds", "(I)I"⟩, 46) := ⟨⟨by decide +kernel, by decide +kernel⟩, List.mem_of_getElem? (i := 930) (by decide +kernel), List.mem_of_getElem? (i := 1224) (by decide +kernel), List.mem_of_getElem? (i := 1225) (by decide +kernel)⟩
theorem lw_p50 : lw_okq (⟨"SecondWishModel", "isThing", "(I)Z"⟩, 46) := ⟨⟨by decide +kernel, by decide +kernel⟩, List.mem_of_getElem? (i := 930) (by decide +kernel), List.mem_of_getElem? (i := 1235) (by decide +kernel), List.mem_of_getElem? (i := 1236) (by decide +kernel)⟩
theorem lw_p51 : lw_okq (⟨"SecondWishModel", "thingTells", "(II)I"⟩, 46) := ⟨⟨by decide +kernel, by decide +kernel⟩, List.mem_of_getElem? (i := 930) (by decide +kernel), List.mem_of_getElem? (i := 1239) (by decide +kernel), List.mem_of_getElem? (i := 1240) (by decide +kernel)⟩
theorem lw_p52 : lw_okq (⟨"SecondWishModel", "saidBy", "(I)I"⟩, 46) := ⟨⟨by decide +kernel, by decide +kernel⟩, List.mem_of_getElem? (i := 930) (by decide +kernel), List.mem_of_getElem? (i := 1250) (by decide +kernel), List.mem_of_getElem? (i := 1251) (by decide +kernel)⟩
theorem lw_p53 : lw_okq (⟨"SecondWishModel", "heardBy", "(I)I"⟩, 46) := ⟨⟨by decide +kernel, by decide +kernel⟩, List.mem_of_getElem? (i := 930) (by decide +kernel), List.mem_of_getElem? (i := 1254) (by decide +kernel), List.mem_of_getElem? (i := 1255) (by decide +kernel)⟩
theorem lw_p54 : lw_okq (⟨"SecondWishModel", "takeSaying", "(II)I"⟩, 46) := ⟨⟨by decide +kernel, by decide +kernel⟩, List.mem_of_getElem? (i := 930) (by decide +kernel), List.mem_of_getElem? (i := 1270) (by decide +kernel), List.mem_of_getElem? (i := 1271) (by decide +kernel)⟩
theorem lw_p55 : lw_okq (⟨"SecondWishModel", "says", "(III)I"⟩, 46) := ⟨⟨by decide +kernel, by decide +kernel⟩, List.mem_of_getElem? (i := 930) (by decide +kernel), List.mem_of_getElem? (i := 1274) (by decide +kernel), List.mem_of_getElem? (i := 1275) (by decide +kernel)⟩
theorem lw_p56 : lw_okq (⟨"SecondWishModel", "grants", "(III)Z"⟩, 46) := ⟨⟨by decide +kernel, by decide +kernel⟩, List.mem_of_getElem? (i := 930) (by decide +kernel), List.mem_of_getElem? (i := 1278) (by decide +kernel), List.mem_of_getElem? (i := 1279) (by decide +kernel)⟩
theorem lw_p57 : lw_okq (⟨"SecondWishModel", "canSet", "(I)I"⟩, 46) := ⟨⟨by decide +kernel, by decide +kernel⟩, List.mem_of_getElem? (i := 930) (by decide +kernel), List.mem_of_getElem? (i := 1290) (by decide +kernel), List.mem_of_getElem? (i := 1291) (by decide +kernel)⟩
theorem lw_p58 : lw_okq (⟨"SecondWishModel", "wantSet", "(I)I"⟩, 46) := ⟨⟨by decide +kernel, by decide +kernel⟩, List.mem_of_getElem? (i := 930) (by decide +kernel), List.mem_of_getElem? (i := 1298) (by decide +kernel), List.mem_of_getElem? (i := 1299) (by decide +kernel)⟩
theorem lw_p59 : lw_okq (⟨"SecondWishModel", "copyTo", "(II)V"⟩, 46) := ⟨⟨by decide +kernel, by decide +kernel⟩, List.mem_of_getElem? (i := 930) (by decide +kernel), List.mem_of_getElem? (i := 1318) (by decide +kernel), List.mem_of_getElem? (i := 1319) (by decide +kernel)⟩
theorem lw_p60 : lw_okq (⟨"SecondWishModel", "layPlays", "(III)V"⟩, 46) := ⟨⟨by decide +kernel, by decide +kernel⟩, List.mem_of_getElem? (i := 930) (by decide +kernel), List.mem_of_getElem? (i := 1326) (by decide +kernel), List.mem_of_getElem? (i := 1327) (by decide +kernel)⟩
theorem lw_p61 : lw_okq (⟨"SecondWishModel", "layGains", "(I)V"⟩, 46) := ⟨⟨by decide +kernel, by decide +kernel⟩, List.mem_of_getElem? (i := 930) (by decide +kernel), List.mem_of_getElem? (i := 1330) (by decide +kernel), List.mem_of_getElem? (i := 1331) (by decide +kernel)⟩
theorem lw_p62 : lw_okq (⟨"SecondWishModel", "optionAt", "(I)I"⟩, 46) := ⟨⟨by decide +kernel, by decide +kernel⟩, List.mem_of_getElem? (i := 930) (by decide +kernel), List.mem_of_getElem? (i := 1334) (by decide +kernel), List.mem_of_getElem? (i := 1335) (by decide +kernel)⟩
theorem lw_p63 : lw_okq (⟨"SecondWishModel", "tries", "(III)V"⟩, 46) := ⟨⟨by decide +kernel, by decide +kernel⟩, List.mem_of_getElem? (i := 930) (by decide +kernel), List.mem_of_getElem? (i := 1338) (by decide +kernel), List.mem_of_getElem? (i := 1339) (by decide +kernel)⟩
def lw_privs_4 : List (MethodName × Nat) := [(⟨"SecondWishModel", "gainOf", "(II)I"⟩, 46), (⟨"SecondWishModel", "holds", "(I)I"⟩, 46), (⟨"SecondWishModel", "isThing", "(I)Z"⟩, 46), (⟨"SecondWishModel", "thingTells", "(II)I"⟩, 46), (⟨"SecondWishModel", "saidBy", "(I)I"⟩, 46), (⟨"SecondWishModel", "heardBy", "(I)I"⟩, 46), (⟨"SecondWishModel", "takeSaying", "(II)I"⟩, 46), (⟨"SecondWishModel", "says", "(III)I"⟩, 46), (⟨"SecondWishModel", "grants", "(III)Z"⟩, 46), (⟨"SecondWishModel", "canSet", "(I)I"⟩, 46), (⟨"SecondWishModel", "wantSet", "(I)I"⟩, 46), (⟨"SecondWishModel", "copyTo", "(II)V"⟩, 46), (⟨"SecondWishModel", "layPlays", "(III)V"⟩, 46), (⟨"SecondWishModel", "layGains", "(I)V"⟩, 46), (⟨"SecondWishModel", "optionAt", "(I)I"⟩, 46), (⟨"SecondWishModel", "tries", "(III)V"⟩, 46)]
theorem lw_r4 : ∀ q ∈ lw_privs_4, lw_okq q := List.forall_mem_cons.mpr ⟨lw_p48, List.forall_mem_cons.mpr ⟨lw_p49, List.forall_mem_cons.mpr ⟨lw_p50, List.forall_mem_cons.mpr ⟨lw_p51, List.forall_mem_cons.mpr ⟨lw_p52, List.forall_mem_cons.mpr ⟨lw_p53, List.forall_mem_cons.mpr ⟨lw_p54, List.forall_mem_cons.mpr ⟨lw_p55, List.forall_mem_cons.mpr ⟨lw_p56, List.forall_mem_cons.mpr ⟨lw_p57, List.forall_mem_cons.mpr ⟨lw_p58, List.forall_mem_cons.mpr ⟨lw_p59, List.forall_mem_cons.mpr ⟨lw_p60, List.forall_mem_cons.mpr ⟨lw_p61, List.forall_mem_cons.mpr ⟨lw_p62, List.forall_mem_cons.mpr ⟨lw_p63, fun _ h => absurd h List.not_mem_nil⟩⟩⟩⟩⟩⟩⟩⟩⟩⟩⟩⟩⟩⟩⟩⟩
theorem lw_p64 : lw_okq (⟨"SecondWishModel", "layRow", "(I[II)V"⟩, 46) := ⟨⟨by decide +kernel, by decide +kernel⟩, List.mem_of_getElem? (i := 930) (by decide +kernel), List.mem_of_getElem? (i := 1342) (by decide +kernel), List.mem_of_getElem? (i := 1343) (by decide +kernel)⟩
theorem lw_p65 : lw_okq (⟨"SecondWishModel", "sureFrom", "(IIII)I"⟩, 46) := ⟨⟨by decide +kernel, by decide +kernel⟩, List.mem_of_getElem? (i := 930) (by decide +kernel), List.mem_of_getElem? (i := 1350) (by decide +kernel), List.mem_of_getElem? (i := 1351) (by decide +kernel)⟩
theorem lw_p66 : lw_okq (⟨"SecondWishModel", "brings", "(IIII)Z"⟩, 46) := ⟨⟨by decide +kernel, by decide +kernel⟩, List.mem_of_getElem? (i := 930) (by decide +kernel), List.mem_of_getElem? (i := 1358) (by decide +kernel), List.mem_of_getElem? (i := 1359) (by decide +kernel)⟩
theorem lw_p67 : lw_okq (⟨"SecondWishModel", "layMatch", "(III)V"⟩, 46) := ⟨⟨by decide +kernel, by decide +kernel⟩, List.mem_of_getElem? (i := 930) (by decide +kernel), List.mem_of_getElem? (i := 1366) (by decide +kernel), List.mem_of_getElem? (i := 1367) (by decide +kernel)⟩
theorem lw_p68 : lw_okq (⟨"SecondWishModel", "layRounds", "(III)V"⟩, 46) := ⟨⟨by decide +kernel, by decide +kernel⟩, List.mem_of_getElem? (i := 930) (by decide +kernel), List.mem_of_getElem? (i := 1382) (by decide +kernel), List.mem_of_getElem? (i := 1383) (by decide +kernel)⟩
theorem lw_p69 : lw_okq (⟨"SecondWishModel", "needSpoke", "(ZI)I"⟩, 46) := ⟨⟨by decide +kernel, by decide +kernel⟩, List.mem_of_getElem? (i := 930) (by decide +kernel), List.mem_of_getElem? (i := 1390) (by decide +kernel), List.mem_of_getElem? (i := 1391) (by decide +kernel)⟩
theorem lw_p70 : lw_okq (⟨"SecondWishModel", "layRows", "(IIIZ)V"⟩, 46) := ⟨⟨by decide +kernel, by decide +kernel⟩, List.mem_of_getElem? (i := 930) (by decide +kernel), List.mem_of_getElem? (i := 1394) (by decide +kernel), List.mem_of_getElem? (i := 1395) (by decide +kernel)⟩
theorem lw_p71 : lw_okq (⟨"SecondWishModel", "isAsNow", "(II)Z"⟩, 46) := ⟨⟨by decide +kernel, by decide +kernel⟩, List.mem_of_getElem? (i := 930) (by decide +kernel), List.mem_of_getElem? (i := 1398) (by decide +kernel), List.mem_of_getElem? (i := 1399) (by decide +kernel)⟩
theorem lw_p72 : lw_okq (⟨"SecondWishModel", "oddsFrom", "(IIII)I"⟩, 46) := ⟨⟨by decide +kernel, by decide +kernel⟩, List.mem_of_getElem? (i := 930) (by decide +kernel), List.mem_of_getElem? (i := 1414) (by decide +kernel), List.mem_of_getElem? (i := 1415) (by decide +kernel)⟩
theorem lw_p73 : lw_okq (⟨"SecondWishModel", "part", "(JJ)I"⟩, 46) := ⟨⟨by decide +kernel, by decide +kernel⟩, List.mem_of_getElem? (i := 930) (by decide +kernel), List.mem_of_getElem? (i := 1418) (by decide +kernel), List.mem_of_getElem? (i := 1419) (by decide +kernel)⟩
theorem lw_p74 : lw_okq (⟨"SecondWishModel", "counted", "(I)I"⟩, 46) := ⟨⟨by decide +kernel, by decide +kernel⟩, List.mem_of_getElem? (i := 930) (by decide +kernel), List.mem_of_getElem? (i := 1434) (by decide +kernel), List.mem_of_getElem? (i := 1435) (by decide +kernel)⟩
theorem lw_p75 : lw_okq (⟨"SecondWishModel", "mix", "(J)V"⟩, 46) := ⟨⟨by decide +kernel, by decide +kernel⟩, List.mem_of_getElem? (i := 930) (by decide +kernel), List.mem_of_getElem? (i := 1443) (by decide +kernel), List.mem_of_getElem? (i := 1444) (by decide +kernel)⟩
theorem lw_p76 : lw_okq (⟨"SecondWishModel", "mixTown", "()V"⟩, 46) := ⟨⟨by decide +kernel, by decide +kernel⟩, List.mem_of_getElem? (i := 930) (by decide +kernel), List.mem_of_getElem? (i := 1448) (by decide +kernel), List.mem_of_getElem? (i := 1449) (by decide +kernel)⟩
def lw_privs_5 : List (MethodName × Nat) := [(⟨"SecondWishModel", "layRow", "(I[II)V"⟩, 46), (⟨"SecondWishModel", "sureFrom", "(IIII)I"⟩, 46), (⟨"SecondWishModel", "brings", "(IIII)Z"⟩, 46), (⟨"SecondWishModel", "layMatch", "(III)V"⟩, 46), (⟨"SecondWishModel", "layRounds", "(III)V"⟩, 46), (⟨"SecondWishModel", "needSpoke", "(ZI)I"⟩, 46), (⟨"SecondWishModel", "layRows", "(IIIZ)V"⟩, 46), (⟨"SecondWishModel", "isAsNow", "(II)Z"⟩, 46), (⟨"SecondWishModel", "oddsFrom", "(IIII)I"⟩, 46), (⟨"SecondWishModel", "part", "(JJ)I"⟩, 46), (⟨"SecondWishModel", "counted", "(I)I"⟩, 46), (⟨"SecondWishModel", "mix", "(J)V"⟩, 46), (⟨"SecondWishModel", "mixTown", "()V"⟩, 46)]
theorem lw_r5 : ∀ q ∈ lw_privs_5, lw_okq q := List.forall_mem_cons.mpr ⟨lw_p64, List.forall_mem_cons.mpr ⟨lw_p65, List.forall_mem_cons.mpr ⟨lw_p66, List.forall_mem_cons.mpr ⟨lw_p67, List.forall_mem_cons.mpr ⟨lw_p68, List.forall_mem_cons.mpr ⟨lw_p69, List.forall_mem_cons.mpr ⟨lw_p70, List.forall_mem_cons.mpr ⟨lw_p71, List.forall_mem_cons.mpr ⟨lw_p72, List.forall_mem_cons.mpr ⟨lw_p73, List.forall_mem_cons.mpr ⟨lw_p74, List.forall_mem_cons.mpr ⟨lw_p75, List.forall_mem_cons.mpr ⟨lw_p76, fun _ h => absurd h List.not_mem_nil⟩⟩⟩⟩⟩⟩⟩⟩⟩⟩⟩⟩⟩
def lw_privs : List (MethodName × Nat) := lw_privs_1 ++ (lw_privs_2 ++ (lw_privs_3 ++ (lw_privs_4 ++ (lw_privs_5))))
def lw_tbl : List Cond := k2_sels lw_privs ++ tables_1
theorem lw_privs_ok : ∀ q ∈ lw_privs, lw_okq q := by
  show ∀ q ∈ lw_privs_1 ++ (lw_privs_2 ++ (lw_privs_3 ++ (lw_privs_4 ++ (lw_privs_5)))), lw_okq q
  exact List.forall_mem_append.mpr ⟨lw_r1, List.forall_mem_append.mpr ⟨lw_r2, List.forall_mem_append.mpr ⟨lw_r3, List.forall_mem_append.mpr ⟨lw_r4, lw_r5⟩⟩⟩⟩
def ax_T0 : u_T := fun k => match k with
  | 0 => ("SecondWish$Circle", "undoes", "[I", true)
  | _ => ("SecondWish$Circle", "within", "I", false)
def ax_ty0 : Nat → FieldType := fun k => match k with
  | 0 => (.array .int)
  | _ => .int
def ax_kd0 : Nat → Nat := fun k => match k with
  | 0 => 2
  | _ => 0
def ax_T1 : u_T := fun k => match k with
  | 0 => ("SecondWish$Day", "worth", "[[I", true)
  | 1 => ("SecondWish$Day", "first", "[I", true)
  | 2 => ("SecondWish$Day", "owner", "[I", true)
  | 3 => ("SecondWish$Day", "giver", "[I", true)
  | 4 => ("SecondWish$Day", "hearers", "[I", true)
  | 5 => ("SecondWish$Day", "order", "[I", true)
  | 6 => ("SecondWish$Day", "granted", "I", false)
  | 7 => ("SecondWish$Day", "sayings", "[I", true)
  | 8 => ("SecondWish$Day", "outcomes", "[I", true)
  | _ => ("SecondWish$Day", "spoken", "I", false)
def ax_ty1 : Nat → FieldType := fun k => match k with
  | 0 => (.array (.array .int))
  | 1 => (.array .int)
  | 2 => (.array .int)
  | 3 => (.array .int)
  | 4 => (.array .int)
  | 5 => (.array .int)
  | 6 => .int
  | 7 => (.array .int)
  | 8 => (.array .int)
  | _ => .int
def ax_kd1 : Nat → Nat := fun k => match k with
  | 0 => 2
  | 1 => 2
  | 2 => 2
  | 3 => 2
  | 4 => 2
  | 5 => 2
  | 6 => 0
  | 7 => 2
  | 8 => 2
  | _ => 0
def ax_T2 : u_T := fun k => match k with
  | 0 => ("SecondWish$Foresight", "town", "LSecondWish$Town;", true)
  | 1 => ("SecondWish$Foresight", "day", "LSecondWish$Day;", true)
  | 2 => ("SecondWish$Foresight", "steps", "[I", true)
  | 3 => ("SecondWish$Foresight", "bestGain", "I", false)
  | _ => ("SecondWish$Foresight", "firstIdle", "I", false)
def ax_ty2 : Nat → FieldType := fun k => match k with
  | 0 => (.object "SecondWish$Town")
  | 1 => (.object "SecondWish$Day")
  | 2 => (.array .int)
  | 3 => .int
  | _ => .int
def ax_kd2 : Nat → Nat := fun k => match k with
  | 0 => 2
  | 1 => 2
  | 2 => 2
  | 3 => 0
  | _ => 0
def ax_T3 : u_T := fun k => match k with
  | _ => ("SecondWish$Giving", "most", "[[I", true)
def ax_ty3 : Nat → FieldType := fun k => match k with
  | _ => (.array (.array .int))
def ax_kd3 : Nat → Nat := fun k => match k with
  | _ => 2
def ax_T4 : u_T := fun k => match k with
  | 0 => ("SecondWish$Line", "places", "[I", true)
  | _ => ("SecondWish$Line", "size", "I", false)
def ax_ty4 : Nat → FieldType := fun k => match k with
  | 0 => (.array .int)
  | _ => .int
def ax_kd4 : Nat → Nat := fun k => match k with
  | 0 => 2
  | _ => 0
def ax_T5 : u_T := fun k => match k with
  | 0 => ("SecondWish$Past", "town", "LSecondWish$Town;", true)
  | 1 => ("SecondWish$Past", "now", "LSecondWish$Day;", true)
  | 2 => ("SecondWish$Past", "tried", "LSecondWish$Day;", true)
  | 3 => ("SecondWish$Past", "speakers", "[I", true)
  | 4 => ("SecondWish$Past", "words", "[I", true)
  | 5 => ("SecondWish$Past", "firstWords", "[I", true)
  | 6 => ("SecondWish$Past", "size", "I", false)
  | 7 => ("SecondWish$Past", "firstsMatter", "Z", false)
  | 8 => ("SecondWish$Past", "thing", "I", false)
  | 9 => ("SecondWish$Past", "ways", "I", false)
  | _ => ("SecondWish$Past", "canBeFirst", "I", false)
def ax_ty5 : Nat → FieldType := fun k => match k with
  | 0 => (.object "SecondWish$Town")
  | 1 => (.object "SecondWish$Day")
  | 2 => (.object "SecondWish$Day")
  | 3 => (.array .int)
  | 4 => (.array .int)
  | 5 => (.array .int)
  | 6 => .int
  | 7 => .boolean
  | 8 => .int
  | 9 => .int
  | _ => .int
def ax_kd5 : Nat → Nat := fun k => match k with
  | 0 => 2
  | 1 => 2
  | 2 => 2
  | 3 => 2
  | 4 => 2
  | 5 => 2
  | 6 => 0
  | 7 => 3
  | 8 => 0
  | 9 => 0
  | _ => 0
def ax_T6 : u_T := fun k => match k with
  | 0 => ("SecondWish$Reader", "town", "LSecondWish$Town;", true)
  | 1 => ("SecondWish$Reader", "day", "LSecondWish$Day;", true)
  | 2 => ("SecondWish$Reader", "signs", "[I", false)
  | 3 => ("SecondWish$Reader", "size", "I", false)
  | _ => ("SecondWish$Reader", "place", "I", false)
def ax_ty6 : Nat → FieldType := fun k => match k with
  | 0 => (.object "SecondWish$Town")
  | 1 => (.object "SecondWish$Day")
  | 2 => (.array .int)
  | 3 => .int
  | _ => .int
def ax_kd6 : Nat → Nat := fun k => match k with
  | 0 => 2
  | 1 => 2
  | 2 => 4
  | 3 => 0
  | _ => 0
def ax_T7 : u_T := fun k => match k with
  | 0 => ("SecondWish$Town", "people", "I", false)
  | 1 => ("SecondWish$Town", "things", "I", false)
  | 2 => ("SecondWish$Town", "kind", "[I", true)
  | 3 => ("SecondWish$Town", "told", "[I", true)
  | _ => ("SecondWish$Town", "undoes", "[I", true)
def ax_ty7 : Nat → FieldType := fun k => match k with
  | 0 => .int
  | 1 => .int
  | 2 => (.array .int)
  | 3 => (.array .int)
  | _ => (.array .int)
def ax_kd7 : Nat → Nat := fun k => match k with
  | 0 => 0
  | 1 => 0
  | 2 => 2
  | 3 => 2
  | _ => 2
def ax_T8 : u_T := fun k => match k with
  | 0 => ("SecondWish", "rows", "[LSecondWish$Line;", true)
  | 1 => ("SecondWish", "texts", "[LSecondWish$Line;", true)
  | 2 => ("SecondWish", "here", "LSecondWish$Town;", true)
  | 3 => ("SecondWish", "today", "LSecondWish$Day;", true)
  | 4 => ("SecondWish", "keptDays", "[LSecondWish$Day;", true)
  | 5 => ("SecondWish", "isKept", "[Z", true)
  | 6 => ("SecondWish", "reader", "LSecondWish$Reader;", true)
  | 7 => ("SecondWish", "foresight", "LSecondWish$Foresight;", true)
  | 8 => ("SecondWish", "past", "LSecondWish$Past;", true)
  | 9 => ("SecondWish", "giving", "LSecondWish$Giving;", true)
  | 10 => ("SecondWish", "circle", "LSecondWish$Circle;", true)
  | 11 => ("SecondWish", "findingsOf", "[I", true)
  | 12 => ("SecondWish", "latestFinding", "I", false)
  | 13 => ("SecondWish", "told", "I", false)
  | 14 => ("SecondWish", "chancesUpper", "J", false)
  | _ => ("SecondWish", "chancesLower", "J", false)
def ax_ty8 : Nat → FieldType := fun k => match k with
  | 0 => (.array (.object "SecondWish$Line"))
  | 1 => (.array (.object "SecondWish$Line"))
  | 2 => (.object "SecondWish$Town")
  | 3 => (.object "SecondWish$Day")
  | 4 => (.array (.object "SecondWish$Day"))
  | 5 => (.array .boolean)
  | 6 => (.object "SecondWish$Reader")
  | 7 => (.object "SecondWish$Foresight")
  | 8 => (.object "SecondWish$Past")
  | 9 => (.object "SecondWish$Giving")
  | 10 => (.object "SecondWish$Circle")
  | 11 => (.array .int)
  | 12 => .int
  | 13 => .int
  | 14 => .long
  | _ => .long
def ax_kd8 : Nat → Nat := fun k => match k with
  | 0 => 2
  | 1 => 2
  | 2 => 2
  | 3 => 2
  | 4 => 2
  | 5 => 2
  | 6 => 2
  | 7 => 2
  | 8 => 2
  | 9 => 2
  | 10 => 2
  | 11 => 2
  | 12 => 0
  | 13 => 0
  | 14 => 1
  | _ => 1
def ax_T9 : u_T := fun k => match k with
  | 0 => ("SecondWishModel", "latest", "I", false)
  | 1 => ("SecondWishModel", "came", "[I", true)
  | 2 => ("SecondWishModel", "asked", "I", false)
  | 3 => ("SecondWishModel", "upper", "J", false)
  | 4 => ("SecondWishModel", "lower", "J", false)
  | 5 => ("SecondWishModel", "sizes", "[I", true)
  | 6 => ("SecondWishModel", "rows", "[I", true)
  | 7 => ("SecondWishModel", "copied", "[I", true)
  | 8 => ("SecondWishModel", "textSizes", "[I", true)
  | 9 => ("SecondWishModel", "bytes", "[B", true)
  | 10 => ("SecondWishModel", "n", "I", false)
  | 11 => ("SecondWishModel", "thingMany", "I", false)
  | 12 => ("SecondWishModel", "kinds", "[I", true)
  | 13 => ("SecondWishModel", "told", "[I", true)
  | 14 => ("SecondWishModel", "worths", "[I", true)
  | 15 => ("SecondWishModel", "undoes", "[I", true)
  | 16 => ("SecondWishModel", "readAt", "I", false)
  | 17 => ("SecondWishModel", "readThings", "I", false)
  | 18 => ("SecondWishModel", "readMany", "I", false)
  | 19 => ("SecondWishModel", "readWants", "I", false)
  | 20 => ("SecondWishModel", "readUndoings", "I", false)
  | 21 => ("SecondWishModel", "readNumber", "I", false)
  | 22 => ("SecondWishModel", "readKinds", "[I", true)
  | 23 => ("SecondWishModel", "readTold", "[I", true)
  | 24 => ("SecondWishModel", "readWorths", "[I", true)
  | 25 => ("SecondWishModel", "readUndoes", "[I", true)
  | 26 => ("SecondWishModel", "towns", "[I", true)
  | 27 => ("SecondWishModel", "sayingMany", "I", false)
  | 28 => ("SecondWishModel", "sayings", "[I", true)
  | 29 => ("SecondWishModel", "log", "[I", true)
  | 30 => ("SecondWishModel", "isKept", "[Z", true)
  | 31 => ("SecondWishModel", "keptMany", "[I", true)
  | 32 => ("SecondWishModel", "keptNow", "[I", true)
  | 33 => ("SecondWishModel", "keptWorths", "[I", true)
  | 34 => ("SecondWishModel", "keptSayings", "[I", true)
  | 35 => ("SecondWishModel", "keptLog", "[I", true)
  | 36 => ("SecondWishModel", "lines", "[I", true)
  | 37 => ("SecondWishModel", "gains", "[I", true)
  | 38 => ("SecondWishModel", "tried", "[I", true)
  | 39 => ("SecondWishModel", "bestTried", "[I", true)
  | 40 => ("SecondWishModel", "mostWorth", "I", false)
  | 41 => ("SecondWishModel", "roundMany", "I", false)
  | 42 => ("SecondWishModel", "roundSet", "I", false)
  | 43 => ("SecondWishModel", "rowMany", "I", false)
  | 44 => ("SecondWishModel", "firstSet", "I", false)
  | _ => ("SecondWishModel", "hash", "J", false)
def ax_ty9 : Nat → FieldType := fun k => match k with
  | 0 => .int
  | 1 => (.array .int)
  | 2 => .int
  | 3 => .long
  | 4 => .long
  | 5 => (.array .int)
  | 6 => (.array .int)
  | 7 => (.array .int)
  | 8 => (.array .int)
  | 9 => (.array .byte)
  | 10 => .int
  | 11 => .int
  | 12 => (.array .int)
  | 13 => (.array .int)
  | 14 => (.array .int)
  | 15 => (.array .int)
  | 16 => .int
  | 17 => .int
  | 18 => .int
  | 19 => .int
  | 20 => .int
  | 21 => .int
  | 22 => (.array .int)
  | 23 => (.array .int)
  | 24 => (.array .int)
  | 25 => (.array .int)
  | 26 => (.array .int)
  | 27 => .int
  | 28 => (.array .int)
  | 29 => (.array .int)
  | 30 => (.array .boolean)
  | 31 => (.array .int)
  | 32 => (.array .int)
  | 33 => (.array .int)
  | 34 => (.array .int)
  | 35 => (.array .int)
  | 36 => (.array .int)
  | 37 => (.array .int)
  | 38 => (.array .int)
  | 39 => (.array .int)
  | 40 => .int
  | 41 => .int
  | 42 => .int
  | 43 => .int
  | 44 => .int
  | _ => .long
def ax_kd9 : Nat → Nat := fun k => match k with
  | 0 => 0
  | 1 => 2
  | 2 => 0
  | 3 => 1
  | 4 => 1
  | 5 => 2
  | 6 => 2
  | 7 => 2
  | 8 => 2
  | 9 => 2
  | 10 => 0
  | 11 => 0
  | 12 => 2
  | 13 => 2
  | 14 => 2
  | 15 => 2
  | 16 => 0
  | 17 => 0
  | 18 => 0
  | 19 => 0
  | 20 => 0
  | 21 => 0
  | 22 => 2
  | 23 => 2
  | 24 => 2
  | 25 => 2
  | 26 => 2
  | 27 => 0
  | 28 => 2
  | 29 => 2
  | 30 => 2
  | 31 => 2
  | 32 => 2
  | 33 => 2
  | 34 => 2
  | 35 => 2
  | 36 => 2
  | 37 => 2
  | 38 => 2
  | 39 => 2
  | 40 => 0
  | 41 => 0
  | 42 => 0
  | 43 => 0
  | 44 => 0
  | _ => 1
def ax_R (c : Nat) : String := match c with
  | 0 => "SecondWish$Circle"
  | 1 => "SecondWish$Day"
  | 2 => "SecondWish$Foresight"
  | 3 => "SecondWish$Giving"
  | 4 => "SecondWish$Line"
  | 5 => "SecondWish$Past"
  | 6 => "SecondWish$Reader"
  | 7 => "SecondWish$Town"
  | 8 => "SecondWish"
  | 9 => "SecondWishModel"
  | _ => ""
def ax_T (c : Nat) : u_T := match c with
  | 0 => ax_T0
  | 1 => ax_T1
  | 2 => ax_T2
  | 3 => ax_T3
  | 4 => ax_T4
  | 5 => ax_T5
  | 6 => ax_T6
  | 7 => ax_T7
  | 8 => ax_T8
  | 9 => ax_T9
  | _ => ax_T0
def ax_ty (c : Nat) : Nat → FieldType := match c with
  | 0 => ax_ty0
  | 1 => ax_ty1
  | 2 => ax_ty2
  | 3 => ax_ty3
  | 4 => ax_ty4
  | 5 => ax_ty5
  | 6 => ax_ty6
  | 7 => ax_ty7
  | 8 => ax_ty8
  | 9 => ax_ty9
  | _ => ax_ty0
def ax_N (c : Nat) : Nat := match c with
  | 0 => 2
  | 1 => 10
  | 2 => 5
  | 3 => 1
  | 4 => 2
  | 5 => 11
  | 6 => 5
  | 7 => 5
  | 8 => 16
  | 9 => 46
  | _ => 0
def ax_kd (c : Nat) : Nat → Nat := match c with
  | 0 => ax_kd0
  | 1 => ax_kd1
  | 2 => ax_kd2
  | 3 => ax_kd3
  | 4 => ax_kd4
  | 5 => ax_kd5
  | 6 => ax_kd6
  | 7 => ax_kd7
  | 8 => ax_kd8
  | 9 => ax_kd9
  | _ => fun _ => 0
theorem ax_in0 : ∀ w ∈ u_ws (ax_R 0) (ax_T 0) (ax_N 0), w ∈ lw_tbl := by decide +kernel
theorem ax_in1 : ∀ w ∈ u_ws (ax_R 1) (ax_T 1) (ax_N 1), w ∈ lw_tbl := by decide +kernel
theorem ax_in2 : ∀ w ∈ u_ws (ax_R 2) (ax_T 2) (ax_N 2), w ∈ lw_tbl := by decide +kernel
theorem ax_in3 : ∀ w ∈ u_ws (ax_R 3) (ax_T 3) (ax_N 3), w ∈ lw_tbl := by decide +kernel
theorem ax_in4 : ∀ w ∈ u_ws (ax_R 4) (ax_T 4) (ax_N 4), w ∈ lw_tbl := by decide +kernel
theorem ax_in5 : ∀ w ∈ u_ws (ax_R 5) (ax_T 5) (ax_N 5), w ∈ lw_tbl := by decide +kernel
theorem ax_in6 : ∀ w ∈ u_ws (ax_R 6) (ax_T 6) (ax_N 6), w ∈ lw_tbl := by decide +kernel
theorem ax_in7 : ∀ w ∈ u_ws (ax_R 7) (ax_T 7) (ax_N 7), w ∈ lw_tbl := by decide +kernel
theorem ax_in8 : ∀ w ∈ u_ws (ax_R 8) (ax_T 8) (ax_N 8), w ∈ lw_tbl := by decide +kernel
theorem ax_in9 : ∀ w ∈ u_ws (ax_R 9) (ax_T 9) (ax_N 9), w ∈ lw_tbl := by decide +kernel
theorem ax_in (c : Nat) (h : c < 10) : ∀ w ∈ u_ws (ax_R c) (ax_T c) (ax_N c), w ∈ lw_tbl := by
  match c, h with
  | 0, _ => exact ax_in0
  | 1, _ => exact ax_in1
  | 2, _ => exact ax_in2
  | 3, _ => exact ax_in3
  | 4, _ => exact ax_in4
  | 5, _ => exact ax_in5
  | 6, _ => exact ax_in6
  | 7, _ => exact ax_in7
  | 8, _ => exact ax_in8
  | 9, _ => exact ax_in9
theorem ax_tyok : ∀ c, c < 10 → ∀ k, k < ax_N c → parseFieldDescriptor (ax_T c k).2.2.1 = some (ax_ty c k) := by decide +kernel
theorem ax_nmok : ∀ c, c < 10 → ∀ a, a < ax_N c → ∀ b, b < ax_N c → a ≠ b → (ax_T c a).2.1 ≠ (ax_T c b).2.1 := by decide +kernel
/-- the kind of a field goes with its type: 0 int, 1 long, 2 a final reference, 3 boolean, 4 the one reference that changes -/
def ax_kdt (kd : Nat) (t : FieldType) (fin : Bool) : Bool := match kd, t, fin with
  | 0, .int, false => true
  | 1, .long, false => true
  | 2, .array _, true => true
  | 2, .object _, true => true
  | 3, .boolean, false => true
  | 4, .array _, false => true
  | _, _, _ => false
theorem ax_kdok : ∀ c, c < 10 → ∀ k, k < ax_N c → ax_kdt (ax_kd c k) (ax_ty c k) (ax_T c k).2.2.2 = true := by decide +kernel
theorem ax_instok : ∀ c, c < 10 → Cond.instantiable (ax_R c) (ax_N c) ∈ lw_tbl ∧ Cond.initialized (ax_R c) ∈ lw_tbl := by decide +kernel
/-- what each cell is, by its number: (class, 0; a Line: its length) or (10 + kind of array, length) -/
def ax_shp (o : Nat) : Nat × Nat := bif Nat.ble 212 o then (99, 0) else (bif Nat.ble o 122 then (bif Nat.ble o 52 then (bif Nat.ble o 24 then (bif Nat.ble o 5 then (bif Nat.ble o 2 then (bif Nat.ble o 0 then (19, 0) else (bif Nat.ble o 1 then (20, 6) else (18, 6))) else (bif Nat.ble o 3 then (8, 0) else (bif Nat.ble o 4 then (13, 6) else (14, 4)))) else (bif Nat.ble o 10 then (bif Nat.ble o 6 then (7, 0) else (bif Nat.ble o 9 then (10, 6) else (1, 0))) else (bif Nat.ble o 11 then (16, 6) else (bif Nat.ble o 22 then (10, 6) else (10, 40))))) else (bif Nat.ble o 32 then (bif Nat.ble o 27 then (bif Nat.ble o 25 then (15, 3) else (bif Nat.ble o 26 then (11, 3) else (6, 0))) else (bif Nat.ble o 28 then (7, 0) else (bif Nat.ble o 31 then (10, 6) else (1, 0)))) else (bif Nat.ble o 46 then (bif Nat.ble o 33 then (16, 6) else (bif Nat.ble o 44 then (10, 6) else (10, 40))) else (bif Nat.ble o 48 then (bif Nat.ble o 47 then (10, 0) else (2, 0)) else (bif Nat.ble o 49 then (7, 0) else (10, 6)))))) else (bif Nat.ble o 89 then (bif Nat.ble o 69 then (bif Nat.ble o 65 then (bif Nat.ble o 53 then (1, 0) else (bif Nat.ble o 54 then (16, 6) else (10, 6))) else (bif Nat.ble o 67 then (10, 40) else (bif Nat.ble o 68 then (10, 3) else (5, 0)))) else (bif Nat.ble o 74 then (bif Nat.ble o 70 then (7, 0) else (bif Nat.ble o 73 then (10, 6) else (1, 0))) else (bif Nat.ble o 86 then (bif Nat.ble o 75 then (16, 6) else (10, 6)) else (bif Nat.ble o 88 then (10, 40) else (1, 0))))) else (bif Nat.ble o 108 then (bif Nat.ble o 103 then (bif Nat.ble o 90 then (16, 6) else (bif Nat.ble o 101 then (10, 6) else (10, 40))) else (bif Nat.ble o 106 then (10, 6) else (bif Nat.ble o 107 then (3, 0) else (17, 7)))) else (bif Nat.ble o 118 then (bif Nat.ble o 115 then (10, 64) else (bif Nat.ble o 116 then (0, 0) else (10, 6))) else (bif Nat.ble o 120 then (bif Nat.ble o 119 then (4, 40) else (10, 40)) else (bif Nat.ble o 121 then (4, 40) else (10, 40))))))) else (bif Nat.ble o 169 then (bif Nat.ble o 134 then (bif Nat.ble o 128 then (bif Nat.ble o 125 then (bif Nat.ble o 123 then (4, 40) else (bif Nat.ble o 124 then (10, 40) else (4, 40))) else (bif Nat.ble o 126 then (10, 40) else (bif Nat.ble o 127 then (4, 40) else (10, 40)))) else (bif Nat.ble o 131 then (bif Nat.ble o 129 then (4, 40) else (bif Nat.ble o 130 then (10, 40) else (4, 80))) else (bif Nat.ble o 132 then (10, 80) else (bif Nat.ble o 133 then (4, 80) else (10, 80))))) else (bif Nat.ble o 140 then (bif Nat.ble o 137 then (bif Nat.ble o 135 then (4, 80) else (bif Nat.ble o 136 then (10, 80) else (4, 80))) else (bif Nat.ble o 138 then (10, 80) else (bif Nat.ble o 139 then (1, 0) else (16, 6)))) else (bif Nat.ble o 154 then (bif Nat.ble o 151 then (10, 6) else (bif Nat.ble o 153 then (10, 40) else (1, 0))) else (bif Nat.ble o 166 then (bif Nat.ble o 155 then (16, 6) else (10, 6)) else (bif Nat.ble o 168 then (10, 40) else (1, 0)))))) else (bif Nat.ble o 197 then (bif Nat.ble o 187 then (bif Nat.ble o 183 then (bif Nat.ble o 170 then (16, 6) else (bif Nat.ble o 181 then (10, 6) else (10, 40))) else (bif Nat.ble o 184 then (9, 0) else (bif Nat.ble o 186 then (10, 6) else (10, 240)))) else (bif Nat.ble o 190 then (bif Nat.ble o 188 then (10, 40) else (bif Nat.ble o 189 then (10, 4) else (12, 320))) else (bif Nat.ble o 193 then (bif Nat.ble o 192 then (10, 6) else (10, 36)) else (bif Nat.ble o 196 then (10, 6) else (10, 36))))) else (bif Nat.ble o 203 then (bif Nat.ble o 200 then (bif Nat.ble o 198 then (10, 6) else (bif Nat.ble o 199 then (10, 310) else (10, 40))) else (bif Nat.ble o 201 then (10, 1240) else (bif Nat.ble o 202 then (11, 3) else (10, 3)))) else (bif Nat.ble o 206 then (bif Nat.ble o 204 then (10, 93) else (bif Nat.ble o 205 then (10, 108) else (10, 120))) else (bif Nat.ble o 208 then (bif Nat.ble o 207 then (10, 3720) else (10, 36)) else (bif Nat.ble o 209 then (10, 42) else (10, 6))))))))
def ax_sz (o : Nat) : Nat := bif Nat.ble 10 (ax_shp o).1 then (ax_shp o).2 else ax_N (ax_shp o).1
def ax_sl : Nat → Nat
  | 0 => 0
  | n + 1 => ax_sl n + ax_sz n
/-- where the reference fields point, by offsets -/
def ax_lay (t n o k : Nat) : Nat × Nat × Nat := match t with
  | 0 => (10, 6, o + 1)
  | 1 => (match k with | 0 => (16, 6, o + 1) | 1 => (10, 6, o + 8) | 2 => (10, 6, o + 9) | 3 => (10, 6, o + 10) | 4 => (10, 6, o + 11) | 5 => (10, 6, o + 12) | 7 => (10, 40, o + 13) | _ => (10, 40, o + 14))
  | 2 => (match k with | 0 => (7, 0, o + 1) | 1 => (1, 0, o + 5) | _ => (10, 3, o + 20))
  | 3 => (17, 7, o + 1)
  | 4 => (10, n, o + 1)
  | 5 => (match k with | 0 => (7, 0, o + 1) | 1 => (1, 0, o + 5) | 2 => (1, 0, o + 20) | 3 => (10, 6, o + 35) | 4 => (10, 6, o + 36) | _ => (10, 6, o + 37))
  | 6 => (match k with | 0 => (7, 0, o + 1) | _ => (1, 0, o + 5))
  | 7 => (match k with | 2 => (10, 6, o + 1) | 3 => (10, 6, o + 2) | _ => (10, 6, o + 3))
  | 8 => (match k with | 0 => (13, 6, o + 1) | 1 => (14, 4, o + 2) | 2 => (7, 0, o + 3) | 3 => (1, 0, o + 7) | 4 => (15, 3, o + 22) | 5 => (11, 3, o + 23) | 6 => (6, 0, o + 24) | 7 => (2, 0, o + 45) | 8 => (5, 0, o + 66) | 9 => (3, 0, o + 104) | 10 => (0, 0, o + 113) | _ => (10, 6, o + 115))
  | 9 => (match k with | 1 => (10, 6, o + 1) | 5 => (10, 6, o + 2) | 6 => (10, 240, o + 3) | 7 => (10, 40, o + 4) | 8 => (10, 4, o + 5) | 9 => (12, 320, o + 6) | 12 => (10, 6, o + 7) | 13 => (10, 6, o + 8) | 14 => (10, 36, o + 9) | 15 => (10, 6, o + 10) | 22 => (10, 6, o + 11) | 23 => (10, 6, o + 12) | 24 => (10, 36, o + 13) | 25 => (10, 6, o + 14) | 26 => (10, 310, o + 15) | 28 => (10, 40, o + 16) | 29 => (10, 1240, o + 17) | 30 => (11, 3, o + 18) | 31 => (10, 3, o + 19) | 32 => (10, 93, o + 20) | 33 => (10, 108, o + 21) | 34 => (10, 120, o + 22) | 35 => (10, 3720, o + 23) | 36 => (10, 36, o + 24) | 37 => (10, 42, o + 25) | 38 => (10, 6, o + 26) | _ => (10, 6, o + 27))
  | _ => (99, 0, 0)
def ax_ely (t _n o i : Nat) : Nat × Nat × Nat := match t with
  | 13 => (4, 40, o + (115 + 2 * i))
  | 14 => (4, 80, o + (126 + 2 * i))
  | 15 => (1, 0, o + (114 + 15 * i))
  | 16 => (10, 6, o + (1 + i))
  | _ => (10, 64, o + (1 + i))
/-- the types of the arrays' elements -/
def ax_aty (t : Nat) : FieldType := match t with
  | 10 => .int
  | 11 => .boolean
  | 12 => .byte
  | 13 => .object "SecondWish$Line"
  | 14 => .object "SecondWish$Line"
  | 15 => .object "SecondWish$Day"
  | 16 => .array .int
  | 17 => .array .int
  | 18 => .char
  | _ => .int
theorem ax_all {n : Nat} {p : Nat → Bool} (h : (List.range n).all p = true) (i : Nat) (hi : i < n) : p i = true := List.all_eq_true.mp h i (List.mem_range.mpr hi)
/-- the layout says what the shapes say -/
def ax_layb (o k : Nat) : Bool := !(Nat.beq (ax_kd (ax_shp o).1 k) 2) || (decide (ax_shp (ax_lay (ax_shp o).1 (ax_shp o).2 o k).2.2 = ((ax_lay (ax_shp o).1 (ax_shp o).2 o k).1, (ax_lay (ax_shp o).1 (ax_shp o).2 o k).2.1)) && Nat.ble 3 (ax_lay (ax_shp o).1 (ax_shp o).2 o k).2.2)
theorem ax_layok0 : ((List.range 212).all fun o => Nat.ble o 2 || Nat.ble 10 (ax_shp o).1 || (List.range (ax_N (ax_shp o).1)).all (ax_layb o)) = true := by decide +kernel
theorem ax_layok (o : Nat) (h : o < 212) (h3 : 3 ≤ o) (ht : (ax_shp o).1 < 10) (k : Nat) (hk : k < ax_N (ax_shp o).1) (h2 : ax_kd (ax_shp o).1 k = 2) : ax_shp (ax_lay (ax_shp o).1 (ax_shp o).2 o k).2.2 = ((ax_lay (ax_shp o).1 (ax_shp o).2 o k).1, (ax_lay (ax_shp o).1 (ax_shp o).2 o k).2.1) ∧ 3 ≤ (ax_lay (ax_shp o).1 (ax_shp o).2 o k).2.2 := by
  have e := ax_all ax_layok0 o h
  simp only [Bool.or_eq_true, Nat.ble_eq] at e
  rcases e with (e | e) | e
  · omega
  · omega
  · have e2 := ax_all e k hk
    simp only [ax_layb, h2, Bool.or_eq_true, Bool.and_eq_true, decide_eq_true_eq, Nat.ble_eq] at e2
    rcases e2 with e2 | e2
    · simp at e2
    · exact e2
def ax_elyb (o i : Nat) : Bool := decide (ax_shp (ax_ely (ax_shp o).1 (ax_shp o).2 o i).2.2 = ((ax_ely (ax_shp o).1 (ax_shp o).2 o i).1, (ax_ely (ax_shp o).1 (ax_shp o).2 o i).2.1)) && Nat.ble 3 (ax_ely (ax_shp o).1 (ax_shp o).2 o i).2.2
theorem ax_elyok0 : ((List.range 212).all fun o => Nat.ble o 2 || Nat.ble (ax_shp o).1 12 || Nat.ble 18 (ax_shp o).1 || (List.range (ax_shp o).2).all (ax_elyb o)) = true := by decide +kernel
theorem ax_elyok (o : Nat) (h : o < 212) (h1 : 13 ≤ (ax_shp o).1) (h2 : (ax_shp o).1 < 18) (h3 : 3 ≤ o) (i : Nat) (hi : i < (ax_shp o).2) : ax_shp (ax_ely (ax_shp o).1 (ax_shp o).2 o i).2.2 = ((ax_ely (ax_shp o).1 (ax_shp o).2 o i).1, (ax_ely (ax_shp o).1 (ax_shp o).2 o i).2.1) ∧ 3 ≤ (ax_ely (ax_shp o).1 (ax_shp o).2 o i).2.2 := by
  have e := ax_all ax_elyok0 o h
  simp only [Bool.or_eq_true, Nat.ble_eq] at e
  rcases e with ((e | e) | e) | e
  · omega
  · omega
  · omega
  · have e2 := ax_all e i hi
    simp only [ax_elyb, Bool.and_eq_true, decide_eq_true_eq, Nat.ble_eq] at e2
    exact e2
theorem ax_shpok : ∀ o, o < 212 → (ax_shp o).1 < 21 := by decide +kernel
theorem ax_shp3 : ∀ o, o < 212 → 3 ≤ o → (ax_shp o).1 < 18 := by decide +kernel
