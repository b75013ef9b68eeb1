section
-- ===== PART A: goes FIRST, ahead of the names: the tables' words, and 'selects' of the private methods out of them =====
/-- a private method of a class that the tables say can be made, by its rows of tables_1 -/
def lw_okq (q : MethodName × Nat) : Prop := (q.1.cls ≠ "java/lang/invoke/MethodHandle" ∧ q.1.cls ≠ "java/lang/invoke/VarHandle") ∧ Cond.instantiable q.1.cls q.2 ∈ tables_1 ∧ Cond.privateMethod q.1 ∈ tables_1 ∧ Cond.instanceMethod q.1 ∈ tables_1
theorem lw_p0 : lw_okq (⟨"PersonLines$Reader", "skipBlanks", "()V"⟩, 7) := ⟨⟨by decide +kernel, by decide +kernel⟩, List.mem_of_getElem? (i := 70) (by decide +kernel), List.mem_of_getElem? (i := 281) (by decide +kernel), List.mem_of_getElem? (i := 282) (by decide +kernel)⟩
theorem lw_p1 : lw_okq (⟨"PersonLines$Reader", "readClause", "()V"⟩, 7) := ⟨⟨by decide +kernel, by decide +kernel⟩, List.mem_of_getElem? (i := 70) (by decide +kernel), List.mem_of_getElem? (i := 285) (by decide +kernel), List.mem_of_getElem? (i := 286) (by decide +kernel)⟩
theorem lw_p2 : lw_okq (⟨"PersonLines$Reader", "isNext", "(I)Z"⟩, 7) := ⟨⟨by decide +kernel, by decide +kernel⟩, List.mem_of_getElem? (i := 70) (by decide +kernel), List.mem_of_getElem? (i := 289) (by decide +kernel), List.mem_of_getElem? (i := 290) (by decide +kernel)⟩
theorem lw_p3 : lw_okq (⟨"PersonLines$Reader", "readPerson", "()V"⟩, 7) := ⟨⟨by decide +kernel, by decide +kernel⟩, List.mem_of_getElem? (i := 70) (by decide +kernel), List.mem_of_getElem? (i := 293) (by decide +kernel), List.mem_of_getElem? (i := 294) (by decide +kernel)⟩
theorem lw_p4 : lw_okq (⟨"PersonLines$Reader", "mark", "(II)V"⟩, 7) := ⟨⟨by decide +kernel, by decide +kernel⟩, List.mem_of_getElem? (i := 70) (by decide +kernel), List.mem_of_getElem? (i := 297) (by decide +kernel), List.mem_of_getElem? (i := 298) (by decide +kernel)⟩
theorem lw_p5 : lw_okq (⟨"PersonLines$Reader", "take", "(I)Z"⟩, 7) := ⟨⟨by decide +kernel, by decide +kernel⟩, List.mem_of_getElem? (i := 70) (by decide +kernel), List.mem_of_getElem? (i := 301) (by decide +kernel), List.mem_of_getElem? (i := 302) (by decide +kernel)⟩
theorem lw_p6 : lw_okq (⟨"PersonLines$Reader", "takeNumber", "(I)I"⟩, 7) := ⟨⟨by decide +kernel, by decide +kernel⟩, List.mem_of_getElem? (i := 70) (by decide +kernel), List.mem_of_getElem? (i := 305) (by decide +kernel), List.mem_of_getElem? (i := 306) (by decide +kernel)⟩
theorem lw_p7 : lw_okq (⟨"PersonLines$Reader", "isFigure", "(I)Z"⟩, 7) := ⟨⟨by decide +kernel, by decide +kernel⟩, List.mem_of_getElem? (i := 70) (by decide +kernel), List.mem_of_getElem? (i := 309) (by decide +kernel), List.mem_of_getElem? (i := 310) (by decide +kernel)⟩
theorem lw_p8 : lw_okq (⟨"PersonLines$Reader", "readLine", "()V"⟩, 7) := ⟨⟨by decide +kernel, by decide +kernel⟩, List.mem_of_getElem? (i := 70) (by decide +kernel), List.mem_of_getElem? (i := 317) (by decide +kernel), List.mem_of_getElem? (i := 318) (by decide +kernel)⟩
theorem lw_p9 : lw_okq (⟨"PersonLines$Reader", "readStops", "(I)I"⟩, 7) := ⟨⟨by decide +kernel, by decide +kernel⟩, List.mem_of_getElem? (i := 70) (by decide +kernel), List.mem_of_getElem? (i := 321) (by decide +kernel), List.mem_of_getElem? (i := 322) (by decide +kernel)⟩
theorem lw_p10 : lw_okq (⟨"PersonLines$Reader", "isAmongFirst", "(III)Z"⟩, 7) := ⟨⟨by decide +kernel, by decide +kernel⟩, List.mem_of_getElem? (i := 70) (by decide +kernel), List.mem_of_getElem? (i := 325) (by decide +kernel), List.mem_of_getElem? (i := 326) (by decide +kernel)⟩
theorem lw_p11 : lw_okq (⟨"PersonLines$Walks", "layLine", "(LPersonLines$Life;II)V"⟩, 1) := ⟨⟨by decide +kernel, by decide +kernel⟩, List.mem_of_getElem? (i := 159) (by decide +kernel), List.mem_of_getElem? (i := 378) (by decide +kernel), List.mem_of_getElem? (i := 379) (by decide +kernel)⟩
theorem lw_p12 : lw_okq (⟨"PersonLines$Walks", "widened", "(I)I"⟩, 1) := ⟨⟨by decide +kernel, by decide +kernel⟩, List.mem_of_getElem? (i := 159) (by decide +kernel), List.mem_of_getElem? (i := 406) (by decide +kernel), List.mem_of_getElem? (i := 407) (by decide +kernel)⟩
theorem lw_p13 : lw_okq (⟨"PersonLines", "isPerson", "(I)Z"⟩, 11) := ⟨⟨by decide +kernel, by decide +kernel⟩, List.mem_of_getElem? (i := 15) (by decide +kernel), List.mem_of_getElem? (i := 424) (by decide +kernel), List.mem_of_getElem? (i := 425) (by decide +kernel)⟩
theorem lw_p14 : lw_okq (⟨"PersonLines", "isLine", "(I)Z"⟩, 11) := ⟨⟨by decide +kernel, by decide +kernel⟩, List.mem_of_getElem? (i := 15) (by decide +kernel), List.mem_of_getElem? (i := 438) (by decide +kernel), List.mem_of_getElem? (i := 439) (by decide +kernel)⟩
theorem lw_p15 : lw_okq (⟨"PersonLines", "isStop", "(II)Z"⟩, 11) := ⟨⟨by decide +kernel, by decide +kernel⟩, List.mem_of_getElem? (i := 15) (by decide +kernel), List.mem_of_getElem? (i := 442) (by decide +kernel), List.mem_of_getElem? (i := 443) (by decide +kernel)⟩
def lw_privs_1 : List (MethodName × Nat) := [(⟨"PersonLines$Reader", "skipBlanks", "()V"⟩, 7), (⟨"PersonLines$Reader", "readClause", "()V"⟩, 7), (⟨"PersonLines$Reader", "isNext", "(I)Z"⟩, 7), (⟨"PersonLines$Reader", "readPerson", "()V"⟩, 7), (⟨"PersonLines$Reader", "mark", "(II)V"⟩, 7), (⟨"PersonLines$Reader", "take", "(I)Z"⟩, 7), (⟨"PersonLines$Reader", "takeNumber", "(I)I"⟩, 7), (⟨"PersonLines$Reader", "isFigure", "(I)Z"⟩, 7), (⟨"PersonLines$Reader", "readLine", "()V"⟩, 7), (⟨"PersonLines$Reader", "readStops", "(I)I"⟩, 7), (⟨"PersonLines$Reader", "isAmongFirst", "(III)Z"⟩, 7), (⟨"PersonLines$Walks", "layLine", "(LPersonLines$Life;II)V"⟩, 1), (⟨"PersonLines$Walks", "widened", "(I)I"⟩, 1), (⟨"PersonLines", "isPerson", "(I)Z"⟩, 11), (⟨"PersonLines", "isLine", "(I)Z"⟩, 11), (⟨"PersonLines", "isStop", "(II)Z"⟩, 11)]
theorem lw_r1 : ∀ q ∈ lw_privs_1, lw_okq q := List.forall_mem_cons.mpr ⟨lw_p0, List.forall_mem_cons.mpr ⟨lw_p1, List.forall_mem_cons.mpr ⟨lw_p2, List.forall_mem_cons.mpr ⟨lw_p3, List.forall_mem_cons.mpr ⟨lw_p4, List.forall_mem_cons.mpr ⟨lw_p5, List.forall_mem_cons.mpr ⟨lw_p6, List.forall_mem_cons.mpr ⟨lw_p7, List.forall_mem_cons.mpr ⟨lw_p8, List.forall_mem_cons.mpr ⟨lw_p9, List.forall_mem_cons.mpr ⟨lw_p10, List.forall_mem_cons.mpr ⟨lw_p11, List.forall_mem_cons.mpr ⟨lw_p12, List.forall_mem_cons.mpr ⟨lw_p13, List.forall_mem_cons.mpr ⟨lw_p14, List.forall_mem_cons.mpr ⟨lw_p15, fun _ h => absurd h List.not_mem_nil⟩⟩⟩⟩⟩⟩⟩⟩⟩⟩⟩⟩⟩⟩⟩⟩
theorem lw_p16 : lw_okq (⟨"PersonLines$Life", "bringNearer", "(II)Z"⟩, 7) := ⟨⟨by decide +kernel, by decide +kernel⟩, List.mem_of_getElem? (i := 103) (by decide +kernel), List.mem_of_getElem? (i := 488) (by decide +kernel), List.mem_of_getElem? (i := 489) (by decide +kernel)⟩
theorem lw_p17 : lw_okq (⟨"PersonLines", "refusalOfDays", "(I)I"⟩, 11) := ⟨⟨by decide +kernel, by decide +kernel⟩, List.mem_of_getElem? (i := 15) (by decide +kernel), List.mem_of_getElem? (i := 496) (by decide +kernel), List.mem_of_getElem? (i := 497) (by decide +kernel)⟩
theorem lw_p18 : lw_okq (⟨"PersonLines", "passDayByDraws", "()V"⟩, 11) := ⟨⟨by decide +kernel, by decide +kernel⟩, List.mem_of_getElem? (i := 15) (by decide +kernel), List.mem_of_getElem? (i := 519) (by decide +kernel), List.mem_of_getElem? (i := 520) (by decide +kernel)⟩
theorem lw_p19 : lw_okq (⟨"PersonLines", "rideByDraws", "(I)V"⟩, 11) := ⟨⟨by decide +kernel, by decide +kernel⟩, List.mem_of_getElem? (i := 15) (by decide +kernel), List.mem_of_getElem? (i := 523) (by decide +kernel), List.mem_of_getElem? (i := 524) (by decide +kernel)⟩
theorem lw_p20 : lw_okq (⟨"PersonLines", "draw", "(I)I"⟩, 11) := ⟨⟨by decide +kernel, by decide +kernel⟩, List.mem_of_getElem? (i := 15) (by decide +kernel), List.mem_of_getElem? (i := 527) (by decide +kernel), List.mem_of_getElem? (i := 528) (by decide +kernel)⟩
theorem lw_p21 : lw_okq (⟨"PersonLines$Walks", "byOneRide", "(LPersonLines$Life;II)I"⟩, 1) := ⟨⟨by decide +kernel, by decide +kernel⟩, List.mem_of_getElem? (i := 159) (by decide +kernel), List.mem_of_getElem? (i := 556) (by decide +kernel), List.mem_of_getElem? (i := 557) (by decide +kernel)⟩
theorem lw_p22 : lw_okq (⟨"PersonLines", "comesWithout", "(III)Z"⟩, 11) := ⟨⟨by decide +kernel, by decide +kernel⟩, List.mem_of_getElem? (i := 15) (by decide +kernel), List.mem_of_getElem? (i := 571) (by decide +kernel), List.mem_of_getElem? (i := 572) (by decide +kernel)⟩
theorem lw_p23 : lw_okq (⟨"PersonLines$Life", "visitingLine", "(I)I"⟩, 7) := ⟨⟨by decide +kernel, by decide +kernel⟩, List.mem_of_getElem? (i := 103) (by decide +kernel), List.mem_of_getElem? (i := 601) (by decide +kernel), List.mem_of_getElem? (i := 602) (by decide +kernel)⟩
theorem lw_p24 : lw_okq (⟨"PersonLines$Sightings", "fits", "(I)Z"⟩, 5) := ⟨⟨by decide +kernel, by decide +kernel⟩, List.mem_of_getElem? (i := 169) (by decide +kernel), List.mem_of_getElem? (i := 628) (by decide +kernel), List.mem_of_getElem? (i := 629) (by decide +kernel)⟩
theorem lw_p25 : lw_okq (⟨"PersonLines$Sightings", "stopBy", "(II)I"⟩, 5) := ⟨⟨by decide +kernel, by decide +kernel⟩, List.mem_of_getElem? (i := 169) (by decide +kernel), List.mem_of_getElem? (i := 632) (by decide +kernel), List.mem_of_getElem? (i := 633) (by decide +kernel)⟩
theorem lw_p26 : lw_okq (⟨"PersonLines$Sightings", "greatestPart", "(II)I"⟩, 5) := ⟨⟨by decide +kernel, by decide +kernel⟩, List.mem_of_getElem? (i := 169) (by decide +kernel), List.mem_of_getElem? (i := 647) (by decide +kernel), List.mem_of_getElem? (i := 648) (by decide +kernel)⟩
theorem lw_p27 : lw_okq (⟨"PersonLines", "isImage", "(I)Z"⟩, 11) := ⟨⟨by decide +kernel, by decide +kernel⟩, List.mem_of_getElem? (i := 15) (by decide +kernel), List.mem_of_getElem? (i := 680) (by decide +kernel), List.mem_of_getElem? (i := 681) (by decide +kernel)⟩
theorem lw_p28 : lw_okq (⟨"PersonLinesModel", "here", "()I"⟩, 24) := ⟨⟨by decide +kernel, by decide +kernel⟩, List.mem_of_getElem? (i := 688) (by decide +kernel), List.mem_of_getElem? (i := 782) (by decide +kernel), List.mem_of_getElem? (i := 783) (by decide +kernel)⟩
theorem lw_p29 : lw_okq (⟨"PersonLinesModel", "takeClause", "()V"⟩, 24) := ⟨⟨by decide +kernel, by decide +kernel⟩, List.mem_of_getElem? (i := 688) (by decide +kernel), List.mem_of_getElem? (i := 786) (by decide +kernel), List.mem_of_getElem? (i := 787) (by decide +kernel)⟩
theorem lw_p30 : lw_okq (⟨"PersonLinesModel", "takePerson", "(I)V"⟩, 24) := ⟨⟨by decide +kernel, by decide +kernel⟩, List.mem_of_getElem? (i := 688) (by decide +kernel), List.mem_of_getElem? (i := 790) (by decide +kernel), List.mem_of_getElem? (i := 791) (by decide +kernel)⟩
theorem lw_p31 : lw_okq (⟨"PersonLinesModel", "want", "(ZII)Z"⟩, 24) := ⟨⟨by decide +kernel, by decide +kernel⟩, List.mem_of_getElem? (i := 688) (by decide +kernel), List.mem_of_getElem? (i := 794) (by decide +kernel), List.mem_of_getElem? (i := 795) (by decide +kernel)⟩
def lw_privs_2 : List (MethodName × Nat) := [(⟨"PersonLines$Life", "bringNearer", "(II)Z"⟩, 7), (⟨"PersonLines", "refusalOfDays", "(I)I"⟩, 11), (⟨"PersonLines", "passDayByDraws", "()V"⟩, 11), (⟨"PersonLines", "rideByDraws", "(I)V"⟩, 11), (⟨"PersonLines", "draw", "(I)I"⟩, 11), (⟨"PersonLines$Walks", "byOneRide", "(LPersonLines$Life;II)I"⟩, 1), (⟨"PersonLines", "comesWithout", "(III)Z"⟩, 11), (⟨"PersonLines$Life", "visitingLine", "(I)I"⟩, 7), (⟨"PersonLines$Sightings", "fits", "(I)Z"⟩, 5), (⟨"PersonLines$Sightings", "stopBy", "(II)I"⟩, 5), (⟨"PersonLines$Sightings", "greatestPart", "(II)I"⟩, 5), (⟨"PersonLines", "isImage", "(I)Z"⟩, 11), (⟨"PersonLinesModel", "here", "()I"⟩, 24), (⟨"PersonLinesModel", "takeClause", "()V"⟩, 24), (⟨"PersonLinesModel", "takePerson", "(I)V"⟩, 24), (⟨"PersonLinesModel", "want", "(ZII)Z"⟩, 24)]
theorem lw_r2 : ∀ q ∈ lw_privs_2, lw_okq q := List.forall_mem_cons.mpr ⟨lw_p16, List.forall_mem_cons.mpr ⟨lw_p17, List.forall_mem_cons.mpr ⟨lw_p18, List.forall_mem_cons.mpr ⟨lw_p19, List.forall_mem_cons.mpr ⟨lw_p20, List.forall_mem_cons.mpr ⟨lw_p21, List.forall_mem_cons.mpr ⟨lw_p22, List.forall_mem_cons.mpr ⟨lw_p23, List.forall_mem_cons.mpr ⟨lw_p24, List.forall_mem_cons.mpr ⟨lw_p25, List.forall_mem_cons.mpr ⟨lw_p26, List.forall_mem_cons.mpr ⟨lw_p27, List.forall_mem_cons.mpr ⟨lw_p28, List.forall_mem_cons.mpr ⟨lw_p29, List.forall_mem_cons.mpr ⟨lw_p30, List.forall_mem_cons.mpr ⟨lw_p31, fun _ h => absurd h List.not_mem_nil⟩⟩⟩⟩⟩⟩⟩⟩⟩⟩⟩⟩⟩⟩⟩⟩
theorem lw_p32 : lw_okq (⟨"PersonLinesModel", "comma", "()V"⟩, 24) := ⟨⟨by decide +kernel, by decide +kernel⟩, List.mem_of_getElem? (i := 688) (by decide +kernel), List.mem_of_getElem? (i := 798) (by decide +kernel), List.mem_of_getElem? (i := 799) (by decide +kernel)⟩
theorem lw_p33 : lw_okq (⟨"PersonLinesModel", "takeIn", "(II)I"⟩, 24) := ⟨⟨by decide +kernel, by decide +kernel⟩, List.mem_of_getElem? (i := 688) (by decide +kernel), List.mem_of_getElem? (i := 802) (by decide +kernel), List.mem_of_getElem? (i := 803) (by decide +kernel)⟩
theorem lw_p34 : lw_okq (⟨"PersonLinesModel", "takeNumber", "()I"⟩, 24) := ⟨⟨by decide +kernel, by decide +kernel⟩, List.mem_of_getElem? (i := 688) (by decide +kernel), List.mem_of_getElem? (i := 806) (by decide +kernel), List.mem_of_getElem? (i := 807) (by decide +kernel)⟩
theorem lw_p35 : lw_okq (⟨"PersonLinesModel", "takeLine", "(I)V"⟩, 24) := ⟨⟨by decide +kernel, by decide +kernel⟩, List.mem_of_getElem? (i := 688) (by decide +kernel), List.mem_of_getElem? (i := 813) (by decide +kernel), List.mem_of_getElem? (i := 814) (by decide +kernel)⟩
theorem lw_p36 : lw_okq (⟨"PersonLinesModel", "takeStop", "(I)I"⟩, 24) := ⟨⟨by decide +kernel, by decide +kernel⟩, List.mem_of_getElem? (i := 688) (by decide +kernel), List.mem_of_getElem? (i := 817) (by decide +kernel), List.mem_of_getElem? (i := 818) (by decide +kernel)⟩
theorem lw_p37 : lw_okq (⟨"PersonLinesModel", "take", "()V"⟩, 24) := ⟨⟨by decide +kernel, by decide +kernel⟩, List.mem_of_getElem? (i := 688) (by decide +kernel), List.mem_of_getElem? (i := 824) (by decide +kernel), List.mem_of_getElem? (i := 825) (by decide +kernel)⟩
theorem lw_p38 : lw_okq (⟨"PersonLinesModel", "pairsIn", "(I)I"⟩, 24) := ⟨⟨by decide +kernel, by decide +kernel⟩, List.mem_of_getElem? (i := 688) (by decide +kernel), List.mem_of_getElem? (i := 836) (by decide +kernel), List.mem_of_getElem? (i := 837) (by decide +kernel)⟩
theorem lw_p39 : lw_okq (⟨"PersonLinesModel", "isDead", "(II)Z"⟩, 24) := ⟨⟨by decide +kernel, by decide +kernel⟩, List.mem_of_getElem? (i := 688) (by decide +kernel), List.mem_of_getElem? (i := 840) (by decide +kernel), List.mem_of_getElem? (i := 841) (by decide +kernel)⟩
theorem lw_p40 : lw_okq (⟨"PersonLinesModel", "reachedIn", "(III)I"⟩, 24) := ⟨⟨by decide +kernel, by decide +kernel⟩, List.mem_of_getElem? (i := 688) (by decide +kernel), List.mem_of_getElem? (i := 844) (by decide +kernel), List.mem_of_getElem? (i := 845) (by decide +kernel)⟩
theorem lw_p41 : lw_okq (⟨"PersonLinesModel", "allLines", "()I"⟩, 24) := ⟨⟨by decide +kernel, by decide +kernel⟩, List.mem_of_getElem? (i := 688) (by decide +kernel), List.mem_of_getElem? (i := 848) (by decide +kernel), List.mem_of_getElem? (i := 849) (by decide +kernel)⟩
theorem lw_p42 : lw_okq (⟨"PersonLinesModel", "layWays", "(IIII)V"⟩, 24) := ⟨⟨by decide +kernel, by decide +kernel⟩, List.mem_of_getElem? (i := 688) (by decide +kernel), List.mem_of_getElem? (i := 852) (by decide +kernel), List.mem_of_getElem? (i := 853) (by decide +kernel)⟩
theorem lw_p43 : lw_okq (⟨"PersonLinesModel", "canBoard", "(III)Z"⟩, 24) := ⟨⟨by decide +kernel, by decide +kernel⟩, List.mem_of_getElem? (i := 688) (by decide +kernel), List.mem_of_getElem? (i := 857) (by decide +kernel), List.mem_of_getElem? (i := 858) (by decide +kernel)⟩
theorem lw_p44 : lw_okq (⟨"PersonLinesModel", "whereIn", "(III)I"⟩, 24) := ⟨⟨by decide +kernel, by decide +kernel⟩, List.mem_of_getElem? (i := 688) (by decide +kernel), List.mem_of_getElem? (i := 861) (by decide +kernel), List.mem_of_getElem? (i := 862) (by decide +kernel)⟩
theorem lw_p45 : lw_okq (⟨"PersonLinesModel", "stopIn", "(III)I"⟩, 24) := ⟨⟨by decide +kernel, by decide +kernel⟩, List.mem_of_getElem? (i := 688) (by decide +kernel), List.mem_of_getElem? (i := 865) (by decide +kernel), List.mem_of_getElem? (i := 866) (by decide +kernel)⟩
theorem lw_p46 : lw_okq (⟨"PersonLinesModel", "goOn", "(IIIII)V"⟩, 24) := ⟨⟨by decide +kernel, by decide +kernel⟩, List.mem_of_getElem? (i := 688) (by decide +kernel), List.mem_of_getElem? (i := 869) (by decide +kernel), List.mem_of_getElem? (i := 870) (by decide +kernel)⟩
theorem lw_p47 : lw_okq (⟨"PersonLinesModel", "farIn", "(IIIII)I"⟩, 24) := ⟨⟨by decide +kernel, by decide +kernel⟩, List.mem_of_getElem? (i := 688) (by decide +kernel), List.mem_of_getElem? (i := 873) (by decide +kernel), List.mem_of_getElem? (i := 874) (by decide +kernel)⟩
def lw_privs_3 : List (MethodName × Nat) := [(⟨"PersonLinesModel", "comma", "()V"⟩, 24), (⟨"PersonLinesModel", "takeIn", "(II)I"⟩, 24), (⟨"PersonLinesModel", "takeNumber", "()I"⟩, 24), (⟨"PersonLinesModel", "takeLine", "(I)V"⟩, 24), (⟨"PersonLinesModel", "takeStop", "(I)I"⟩, 24), (⟨"PersonLinesModel", "take", "()V"⟩, 24), (⟨"PersonLinesModel", "pairsIn", "(I)I"⟩, 24), (⟨"PersonLinesModel", "isDead", "(II)Z"⟩, 24), (⟨"PersonLinesModel", "reachedIn", "(III)I"⟩, 24), (⟨"PersonLinesModel", "allLines", "()I"⟩, 24), (⟨"PersonLinesModel", "layWays", "(IIII)V"⟩, 24), (⟨"PersonLinesModel", "canBoard", "(III)Z"⟩, 24), (⟨"PersonLinesModel", "whereIn", "(III)I"⟩, 24), (⟨"PersonLinesModel", "stopIn", "(III)I"⟩, 24), (⟨"PersonLinesModel", "goOn", "(IIIII)V"⟩, 24), (⟨"PersonLinesModel", "farIn", "(IIIII)I"⟩, 24)]
theorem lw_r3 : ∀ q ∈ lw_privs_3, lw_okq q := List.forall_mem_cons.mpr ⟨lw_p32, List.forall_mem_cons.mpr ⟨lw_p33, List.forall_mem_cons.mpr ⟨lw_p34, List.forall_mem_cons.mpr ⟨lw_p35, List.forall_mem_cons.mpr ⟨lw_p36, List.forall_mem_cons.mpr ⟨lw_p37, List.forall_mem_cons.mpr ⟨lw_p38, List.forall_mem_cons.mpr ⟨lw_p39, List.forall_mem_cons.mpr ⟨lw_p40, List.forall_mem_cons.mpr ⟨lw_p41, List.forall_mem_cons.mpr ⟨lw_p42, List.forall_mem_cons.mpr ⟨lw_p43, List.forall_mem_cons.mpr ⟨lw_p44, List.forall_mem_cons.mpr ⟨lw_p45, List.forall_mem_cons.mpr ⟨lw_p46, List.forall_mem_cons.mpr ⟨lw_p47, fun _ h => absurd h List.not_mem_nil⟩⟩⟩⟩⟩⟩⟩⟩⟩⟩⟩⟩⟩⟩⟩⟩
theorem lw_p48 : lw_okq (⟨"PersonLinesModel", "nearIn", "(III)I"⟩, 24) := ⟨⟨by decide +kernel, by decide +kernel⟩, List.mem_of_getElem? (i := 688) (by decide +kernel), List.mem_of_getElem? (i := 877) (by decide +kernel), List.mem_of_getElem? (i := 878) (by decide +kernel)⟩
theorem lw_p49 : lw_okq (⟨"PersonLinesModel", "allNear", "()I"⟩, 24) := ⟨⟨by decide +kernel, by decide +kernel⟩, List.mem_of_getElem? (i := 688) (by decide +kernel), List.mem_of_getElem? (i := 884) (by decide +kernel), List.mem_of_getElem? (i := 885) (by decide +kernel)⟩
theorem lw_p50 : lw_okq (⟨"PersonLinesModel", "isPerson", "(I)Z"⟩, 24) := ⟨⟨by decide +kernel, by decide +kernel⟩, List.mem_of_getElem? (i := 688) (by decide +kernel), List.mem_of_getElem? (i := 892) (by decide +kernel), List.mem_of_getElem? (i := 893) (by decide +kernel)⟩
theorem lw_p51 : lw_okq (⟨"PersonLinesModel", "isLine", "(I)Z"⟩, 24) := ⟨⟨by decide +kernel, by decide +kernel⟩, List.mem_of_getElem? (i := 688) (by decide +kernel), List.mem_of_getElem? (i := 905) (by decide +kernel), List.mem_of_getElem? (i := 906) (by decide +kernel)⟩
theorem lw_p52 : lw_okq (⟨"PersonLinesModel", "remember", "()V"⟩, 24) := ⟨⟨by decide +kernel, by decide +kernel⟩, List.mem_of_getElem? (i := 688) (by decide +kernel), List.mem_of_getElem? (i := 915) (by decide +kernel), List.mem_of_getElem? (i := 916) (by decide +kernel)⟩
theorem lw_p53 : lw_okq (⟨"PersonLinesModel", "copy", "(II)V"⟩, 24) := ⟨⟨by decide +kernel, by decide +kernel⟩, List.mem_of_getElem? (i := 688) (by decide +kernel), List.mem_of_getElem? (i := 919) (by decide +kernel), List.mem_of_getElem? (i := 920) (by decide +kernel)⟩
theorem lw_p54 : lw_okq (⟨"PersonLinesModel", "rideIn", "(IIII)V"⟩, 24) := ⟨⟨by decide +kernel, by decide +kernel⟩, List.mem_of_getElem? (i := 688) (by decide +kernel), List.mem_of_getElem? (i := 923) (by decide +kernel), List.mem_of_getElem? (i := 924) (by decide +kernel)⟩
theorem lw_p55 : lw_okq (⟨"PersonLinesModel", "sleepIn", "(III)V"⟩, 24) := ⟨⟨by decide +kernel, by decide +kernel⟩, List.mem_of_getElem? (i := 688) (by decide +kernel), List.mem_of_getElem? (i := 931) (by decide +kernel), List.mem_of_getElem? (i := 932) (by decide +kernel)⟩
theorem lw_p56 : lw_okq (⟨"PersonLinesModel", "nearer", "(III)Z"⟩, 24) := ⟨⟨by decide +kernel, by decide +kernel⟩, List.mem_of_getElem? (i := 688) (by decide +kernel), List.mem_of_getElem? (i := 935) (by decide +kernel), List.mem_of_getElem? (i := 936) (by decide +kernel)⟩
theorem lw_p57 : lw_okq (⟨"PersonLinesModel", "refusedDays", "(I)I"⟩, 24) := ⟨⟨by decide +kernel, by decide +kernel⟩, List.mem_of_getElem? (i := 688) (by decide +kernel), List.mem_of_getElem? (i := 943) (by decide +kernel), List.mem_of_getElem? (i := 944) (by decide +kernel)⟩
theorem lw_p58 : lw_okq (⟨"PersonLinesModel", "morningIn", "(I)Z"⟩, 24) := ⟨⟨by decide +kernel, by decide +kernel⟩, List.mem_of_getElem? (i := 688) (by decide +kernel), List.mem_of_getElem? (i := 948) (by decide +kernel), List.mem_of_getElem? (i := 949) (by decide +kernel)⟩
theorem lw_p59 : lw_okq (⟨"PersonLinesModel", "dayByDraws", "()V"⟩, 24) := ⟨⟨by decide +kernel, by decide +kernel⟩, List.mem_of_getElem? (i := 688) (by decide +kernel), List.mem_of_getElem? (i := 964) (by decide +kernel), List.mem_of_getElem? (i := 965) (by decide +kernel)⟩
theorem lw_p60 : lw_okq (⟨"PersonLinesModel", "draw", "(I)I"⟩, 24) := ⟨⟨by decide +kernel, by decide +kernel⟩, List.mem_of_getElem? (i := 688) (by decide +kernel), List.mem_of_getElem? (i := 968) (by decide +kernel), List.mem_of_getElem? (i := 969) (by decide +kernel)⟩
theorem lw_p61 : lw_okq (⟨"PersonLinesModel", "leads", "(IIII)Z"⟩, 24) := ⟨⟨by decide +kernel, by decide +kernel⟩, List.mem_of_getElem? (i := 688) (by decide +kernel), List.mem_of_getElem? (i := 984) (by decide +kernel), List.mem_of_getElem? (i := 985) (by decide +kernel)⟩
theorem lw_p62 : lw_okq (⟨"PersonLinesModel", "lacksBy", "(III)I"⟩, 24) := ⟨⟨by decide +kernel, by decide +kernel⟩, List.mem_of_getElem? (i := 688) (by decide +kernel), List.mem_of_getElem? (i := 1000) (by decide +kernel), List.mem_of_getElem? (i := 1001) (by decide +kernel)⟩
theorem lw_p63 : lw_okq (⟨"PersonLinesModel", "mayEnd", "(II)Z"⟩, 24) := ⟨⟨by decide +kernel, by decide +kernel⟩, List.mem_of_getElem? (i := 688) (by decide +kernel), List.mem_of_getElem? (i := 1012) (by decide +kernel), List.mem_of_getElem? (i := 1013) (by decide +kernel)⟩
def lw_privs_4 : List (MethodName × Nat) := [(⟨"PersonLinesModel", "nearIn", "(III)I"⟩, 24), (⟨"PersonLinesModel", "allNear", "()I"⟩, 24), (⟨"PersonLinesModel", "isPerson", "(I)Z"⟩, 24), (⟨"PersonLinesModel", "isLine", "(I)Z"⟩, 24), (⟨"PersonLinesModel", "remember", "()V"⟩, 24), (⟨"PersonLinesModel", "copy", "(II)V"⟩, 24), (⟨"PersonLinesModel", "rideIn", "(IIII)V"⟩, 24), (⟨"PersonLinesModel", "sleepIn", "(III)V"⟩, 24), (⟨"PersonLinesModel", "nearer", "(III)Z"⟩, 24), (⟨"PersonLinesModel", "refusedDays", "(I)I"⟩, 24), (⟨"PersonLinesModel", "morningIn", "(I)Z"⟩, 24), (⟨"PersonLinesModel", "dayByDraws", "()V"⟩, 24), (⟨"PersonLinesModel", "draw", "(I)I"⟩, 24), (⟨"PersonLinesModel", "leads", "(IIII)Z"⟩, 24), (⟨"PersonLinesModel", "lacksBy", "(III)I"⟩, 24), (⟨"PersonLinesModel", "mayEnd", "(II)Z"⟩, 24)]
theorem lw_r4 : ∀ q ∈ lw_privs_4, lw_okq q := List.forall_mem_cons.mpr ⟨lw_p48, List.forall_mem_cons.mpr ⟨lw_p49, List.forall_mem_cons.mpr ⟨lw_p50, List.forall_mem_cons.mpr ⟨lw_p51, List.forall_mem_cons.mpr ⟨lw_p52, List.forall_mem_cons.mpr ⟨lw_p53, List.forall_mem_cons.mpr ⟨lw_p54, List.forall_mem_cons.mpr ⟨lw_p55, List.forall_mem_cons.mpr ⟨lw_p56, List.forall_mem_cons.mpr ⟨lw_p57, List.forall_mem_cons.mpr ⟨lw_p58, List.forall_mem_cons.mpr ⟨lw_p59, List.forall_mem_cons.mpr ⟨lw_p60, List.forall_mem_cons.mpr ⟨lw_p61, List.forall_mem_cons.mpr ⟨lw_p62, List.forall_mem_cons.mpr ⟨lw_p63, fun _ h => absurd h List.not_mem_nil⟩⟩⟩⟩⟩⟩⟩⟩⟩⟩⟩⟩⟩⟩⟩⟩
theorem lw_p64 : lw_okq (⟨"PersonLinesModel", "rideOut", "(I)V"⟩, 24) := ⟨⟨by decide +kernel, by decide +kernel⟩, List.mem_of_getElem? (i := 688) (by decide +kernel), List.mem_of_getElem? (i := 1020) (by decide +kernel), List.mem_of_getElem? (i := 1021) (by decide +kernel)⟩
theorem lw_p65 : lw_okq (⟨"PersonLinesModel", "getsOff", "(II)I"⟩, 24) := ⟨⟨by decide +kernel, by decide +kernel⟩, List.mem_of_getElem? (i := 688) (by decide +kernel), List.mem_of_getElem? (i := 1039) (by decide +kernel), List.mem_of_getElem? (i := 1040) (by decide +kernel)⟩
theorem lw_p66 : lw_okq (⟨"PersonLinesModel", "greatestPart", "(II)I"⟩, 24) := ⟨⟨by decide +kernel, by decide +kernel⟩, List.mem_of_getElem? (i := 688) (by decide +kernel), List.mem_of_getElem? (i := 1048) (by decide +kernel), List.mem_of_getElem? (i := 1049) (by decide +kernel)⟩
def lw_privs_5 : List (MethodName × Nat) := [(⟨"PersonLinesModel", "rideOut", "(I)V"⟩, 24), (⟨"PersonLinesModel", "getsOff", "(II)I"⟩, 24), (⟨"PersonLinesModel", "greatestPart", "(II)I"⟩, 24)]
theorem lw_r5 : ∀ q ∈ lw_privs_5, lw_okq q := List.forall_mem_cons.mpr ⟨lw_p64, List.forall_mem_cons.mpr ⟨lw_p65, List.forall_mem_cons.mpr ⟨lw_p66, fun _ h => absurd h List.not_mem_nil⟩⟩⟩
def lw_privs : List (MethodName × Nat) := lw_privs_1 ++ (lw_privs_2 ++ (lw_privs_3 ++ (lw_privs_4 ++ (lw_privs_5))))
def lw_tbl : List Cond := k2_sels lw_privs ++ tables_1
theorem lw_privs_ok : ∀ q ∈ lw_privs, lw_okq q := by
  show ∀ q ∈ lw_privs_1 ++ (lw_privs_2 ++ (lw_privs_3 ++ (lw_privs_4 ++ (lw_privs_5)))), lw_okq q
  exact List.forall_mem_append.mpr ⟨lw_r1, List.forall_mem_append.mpr ⟨lw_r2, List.forall_mem_append.mpr ⟨lw_r3, List.forall_mem_append.mpr ⟨lw_r4, lw_r5⟩⟩⟩⟩
end
section
/-! THE ABSTRACT MACHINE: ints are whole numbers (up to 2^32), cells have numbers from 1 on (0: null), a memory of ints by cell and place, refs apart. -/
abbrev am_V : Type := Int ⊕ (Int ⊕ (Nat ⊕ Unit))
abbrev am_i (x : Int) : am_V := .inl x
abbrev am_l (x : Int) : am_V := .inr (.inl x)
abbrev am_r (k : Nat) : am_V := .inr (.inr (.inl k))
abbrev am_q : am_V := .inr (.inr (.inr ()))
abbrev am_L : Type := List (Option am_V)
abbrev am_K : Type := List am_V
abbrev am_M : Type := Nat → Int → Int
/-- the script (how many, which), cells and slots made, kinds of cells, refs of cells -/
abbrev am_S : Type := (Nat × (Int → Int)) × (Nat × Nat) × (Nat → Nat × Nat) × (Nat → Int → Nat)
def am_n (S : am_S) : Nat := S.2.1.1
def am_sl (S : am_S) : Nat := S.2.1.2
/-- kinds: (0, n) ints, (1, n) booleans, (2, n) Lifes, (3, n) Images, (4, c) an object of class c; (9, 0): no cell -/
def am_kd (S : am_S) (k : Nat) : Nat × Nat := if 0 < k ∧ k ≤ S.2.1.1 then S.2.2.1 k else (9, 0)
def am_rf (S : am_S) (k : Nat) (j : Int) : Nat := S.2.2.2 k j
def am_sn (S : am_S) : Nat := S.1.1
def am_sx (S : am_S) (j : Int) : Int := S.1.2 j
def am_new (S : am_S) (kd : Nat × Nat) (n : Nat) : am_S := (S.1, (S.2.1.1 + 1, S.2.1.2 + n), (fun k => if k = S.2.1.1 + 1 then kd else S.2.2.1 k), (fun k j => if k = S.2.1.1 + 1 then 0 else S.2.2.2 k j))
def am_set (S : am_S) (k : Nat) (j : Int) (v : Nat) : am_S := (S.1, S.2.1, S.2.2.1, (fun k' j' => if k' = k ∧ j' = j then v else S.2.2.2 k' j'))
def am_zr (M : am_M) (k : Nat) : am_M := fun k' j => if k' = k then 0 else M k' j
def am_wr (M : am_M) (k : Nat) (i v : Int) : am_M := fun k' j => if k' = k ∧ j = i then v else M k' j
def am_cp (M : am_M) (s : Nat) (sp : Int) (d : Nat) (dp n : Int) : am_M := fun k j => if k = d ∧ dp ≤ j ∧ j < dp + n then M s (sp + (j - dp)) else M k j
abbrev am_Ri (x : Int) : Prop := -2147483648 ≤ x ∧ x ≤ 2147483647
abbrev am_Rl (x : Int) : Prop := -9223372036854775808 ≤ x ∧ x ≤ 9223372036854775807
def am_and (x y : Int) : Int := (Int32.ofInt x &&& Int32.ofInt y).toInt
def am_or (x y : Int) : Int := (Int32.ofInt x ||| Int32.ofInt y).toInt
def am_xor (x y : Int) : Int := (Int32.ofInt x ^^^ Int32.ofInt y).toInt
def am_shl (x y : Int) : Int := (Int32.ofInt x <<< (Int32.ofInt y &&& 31)).toInt
def am_shr (x y : Int) : Int := (Int32.ofInt x >>> (Int32.ofInt y &&& 31)).toInt
def am_ushr (x y : Int) : Int := ((Int32.ofInt x).toUInt32 >>> ((Int32.ofInt y).toUInt32 &&& Int32.toUInt32 31)).toInt32.toInt
def am_cmp (x y : Int) : Int := if x < y then -1 else if x = y then 0 else 1
def am_sw (pc : Nat) (d lo hi : Int) (offs : Array Int) (x : Int) : Nat := if x < lo ∨ hi < x then ((pc : Int) + d).toNat else ((pc : Int) + (offs[(x - lo).toNat]?).getD 0).toNat
/-- what an instruction does: goes on; branches; jumps; returns; calls; makes a cell; sets a ref -/
abbrev am_A : Type := (am_L × am_K × am_M) ⊕ ((Prop × Nat × am_L × am_K) ⊕ ((Nat × am_L × am_K) ⊕ (Option am_V ⊕ ((Nat × List am_V × am_K) ⊕ ((Nat × Nat × Nat × am_K) ⊕ (Nat × Int × Nat × am_K))))))
abbrev am_T : Type := am_A ⊕ (Prop × am_A)
abbrev am_nx (ls : am_L) (st : am_K) (M : am_M) : am_A := .inl (ls, st, M)
abbrev am_br (c : Prop) (t : Nat) (ls : am_L) (st : am_K) : am_A := .inr (.inl (c, t, ls, st))
abbrev am_go (t : Nat) (ls : am_L) (st : am_K) : am_A := .inr (.inr (.inl (t, ls, st)))
abbrev am_rt (v : Option am_V) : am_A := .inr (.inr (.inr (.inl v)))
abbrev am_cl (z : Nat) (as : List am_V) (st : am_K) : am_A := .inr (.inr (.inr (.inr (.inl (z, as, st)))))
abbrev am_al (t x n : Nat) (st : am_K) : am_A := .inr (.inr (.inr (.inr (.inr (.inl (t, x, n, st))))))
abbrev am_sr (k : Nat) (j : Int) (v : Nat) (st : am_K) : am_A := .inr (.inr (.inr (.inr (.inr (.inr (k, j, v, st))))))
def am_bad : am_T := .inr (False, am_rt none)
/-- an instruction with its length and what was resolved -/
abbrev am_E : Type := Instr × Nat × Nat × Nat × Int
def am_p1 (st : am_K) (f : Int → am_K → am_T) : am_T := match st with
  | .inl x :: r => f x r
  | _ => am_bad
def am_p2 (st : am_K) (f : Int → Int → am_K → am_T) : am_T := match st with
  | .inl y :: .inl x :: r => f x y r
  | _ => am_bad
def am_w1 (st : am_K) (f : Int → am_K → am_T) : am_T := match st with
  | .inr (.inl x) :: r => f x r
  | _ => am_bad
def am_w2 (st : am_K) (f : Int → Int → am_K → am_T) : am_T := match st with
  | .inr (.inl y) :: .inr (.inl x) :: r => f x y r
  | _ => am_bad
def am_pr (st : am_K) (f : Nat → am_K → am_T) : am_T := match st with
  | .inr (.inr (.inl k)) :: r => f k r
  | _ => am_bad
def am_ld (ls : am_L) (a : Nat) (f : am_V → am_T) : am_T := match ls[a]? with
  | some (some x) => f x
  | _ => am_bad
def am_step (e : am_E) (pc : Nat) (ls : am_L) (st : am_K) (S : am_S) (M : am_M) : am_T :=
  match e with
  | (i, _, a, b, v) => match i with
    | .iconst _ => .inl (am_nx ls (am_i v :: st) M)
    | .bipush _ => .inl (am_nx ls (am_i v :: st) M)
    | .sipush _ => .inl (am_nx ls (am_i v :: st) M)
    | .ldc _ => .inl (am_nx ls (am_i v :: st) M)
    | .ldc_w _ => .inl (am_nx ls (am_i v :: st) M)
    | .ldc2_w _ => .inl (am_nx ls (am_l v :: st) M)
    | .lconst _ => .inl (am_nx ls (am_l v :: st) M)
    | .iload_n _ => am_ld ls a (fun x => match x with | .inl x => .inl (am_nx ls (am_i x :: st) M) | _ => am_bad)
    | .iload _ => am_ld ls a (fun x => match x with | .inl x => .inl (am_nx ls (am_i x :: st) M) | _ => am_bad)
    | .lload_n _ => am_ld ls a (fun x => match x with | .inr (.inl x) => .inl (am_nx ls (am_l x :: st) M) | _ => am_bad)
    | .lload _ => am_ld ls a (fun x => match x with | .inr (.inl x) => .inl (am_nx ls (am_l x :: st) M) | _ => am_bad)
    | .aload_n _ => am_ld ls a (fun x => match x with | .inr (.inr x) => .inl (am_nx ls (.inr (.inr x) :: st) M) | _ => am_bad)
    | .istore_n _ => am_p1 st (fun x r => .inl (am_nx (ls.set a (some (am_i x))) r M))
    | .istore _ => am_p1 st (fun x r => .inl (am_nx (ls.set a (some (am_i x))) r M))
    | .lstore_n _ => am_w1 st (fun x r => .inl (am_nx ((ls.set a (some (am_l x))).set (a + 1) none) r M))
    | .astore_n _ => am_pr st (fun x r => .inr (0 < x, am_nx (ls.set a (some (am_r x))) r M))
    | .iinc _ _ => am_ld ls a (fun x => match x with | .inl x => .inl (am_nx (ls.set a (some (am_i (x + v)))) st M) | _ => am_bad)
    | .iadd => am_p2 st (fun x y r => .inl (am_nx ls (am_i (x + y) :: r) M))
    | .isub => am_p2 st (fun x y r => .inl (am_nx ls (am_i (x - y) :: r) M))
    | .imul => am_p2 st (fun x y r => .inl (am_nx ls (am_i (x * y) :: r) M))
    | .idiv => am_p2 st (fun x y r => .inr (0 ≤ x ∧ x ≤ 2147483647 ∧ 0 < y ∧ y ≤ 2147483647, am_nx ls (am_i (x / y) :: r) M))
    | .irem => am_p2 st (fun x y r => .inr (0 ≤ x ∧ x ≤ 2147483647 ∧ 0 < y ∧ y ≤ 2147483647, am_nx ls (am_i (x % y) :: r) M))
    | .iand => am_p2 st (fun x y r => .inl (am_nx ls (am_i (am_and x y) :: r) M))
    | .ior => am_p2 st (fun x y r => .inl (am_nx ls (am_i (am_or x y) :: r) M))
    | .ixor => am_p2 st (fun x y r => .inl (am_nx ls (am_i (am_xor x y) :: r) M))
    | .ishl => am_p2 st (fun x y r => .inl (am_nx ls (am_i (am_shl x y) :: r) M))
    | .ishr => am_p2 st (fun x y r => .inl (am_nx ls (am_i (am_shr x y) :: r) M))
    | .iushr => am_p2 st (fun x y r => .inl (am_nx ls (am_i (am_ushr x y) :: r) M))
    | .ladd => am_w2 st (fun x y r => .inl (am_nx ls (am_l (x + y) :: r) M))
    | .lmul => am_w2 st (fun x y r => .inl (am_nx ls (am_l (x * y) :: r) M))
    | .ldiv => am_w2 st (fun x y r => .inr (0 ≤ x ∧ x ≤ 9223372036854775807 ∧ 0 < y ∧ y ≤ 9223372036854775807, am_nx ls (am_l (x / y) :: r) M))
    | .lrem => am_w2 st (fun x y r => .inr (0 ≤ x ∧ x ≤ 9223372036854775807 ∧ 0 < y ∧ y ≤ 9223372036854775807, am_nx ls (am_l (x % y) :: r) M))
    | .lcmp => am_w2 st (fun x y r => .inr (am_Rl x ∧ am_Rl y, am_nx ls (am_i (am_cmp x y) :: r) M))
    | .i2l => am_p1 st (fun x r => .inr (am_Ri x, am_nx ls (am_l x :: r) M))
    | .l2i => am_w1 st (fun x r => .inl (am_nx ls (am_i x :: r) M))
    | .dup => match st with
      | .inl x :: r => .inl (am_nx ls (am_i x :: am_i x :: r) M)
      | .inr (.inr x) :: r => .inl (am_nx ls (.inr (.inr x) :: .inr (.inr x) :: r) M)
      | _ => am_bad
    | .dup2 => match st with
      | .inl x :: .inr (.inr y) :: r => .inl (am_nx ls (am_i x :: .inr (.inr y) :: am_i x :: .inr (.inr y) :: r) M)
      | _ => am_bad
    | .pop => am_p1 st (fun _ r => .inl (am_nx ls r M))
    | .goto _ => .inl (am_go a ls st)
    | .if_icmp c _ => am_p2 st (fun x y r => .inr (am_Ri x ∧ am_Ri y, match c with
      | .eq => am_br (x = y) a ls r
      | .ne => am_br (¬ x = y) a ls r
      | .lt => am_br (x < y) a ls r
      | .ge => am_br (y ≤ x) a ls r
      | .gt => am_br (y < x) a ls r
      | .le => am_br (x ≤ y) a ls r))
    | .ifCond c _ => am_p1 st (fun x r => .inr (am_Ri x, match c with
      | .eq => am_br (x = 0) a ls r
      | .ne => am_br (¬ x = 0) a ls r
      | .lt => am_br (x < 0) a ls r
      | .ge => am_br (0 ≤ x) a ls r
      | .gt => am_br (0 < x) a ls r
      | .le => am_br (x ≤ 0) a ls r))
    | .tableswitch d lo hi offs => am_p1 st (fun x r => .inr (am_Ri x, am_go (am_sw pc d lo hi offs x) ls r))
    | .arraylength => match st with
      | .inr (.inr (.inl k)) :: r => .inr ((am_kd S k).1 < 4, am_nx ls (am_i ((am_kd S k).2 : Int) :: r) M)
      | .inr (.inr (.inr _)) :: r => .inl (am_nx ls (am_i (am_sn S : Int) :: r) M)
      | _ => am_bad
    | .iaload => am_p1 st (fun i r => match r with
      | .inr (.inr (.inl k)) :: r => .inr ((am_kd S k).1 = 0 ∧ 0 ≤ i ∧ i < ((am_kd S k).2 : Int) ∧ i ≤ 2147483647, am_nx ls (am_i (M k i) :: r) M)
      | .inr (.inr (.inr _)) :: r => .inr (0 ≤ i ∧ i < (am_sn S : Int) ∧ i ≤ 2147483647, am_nx ls (am_i (am_sx S i) :: r) M)
      | _ => am_bad)
    | .baload => am_p1 st (fun i r => am_pr r (fun k r => .inr ((am_kd S k).1 = 1 ∧ 0 ≤ i ∧ i < ((am_kd S k).2 : Int) ∧ i ≤ 2147483647, am_nx ls (am_i (M k i) :: r) M)))
    | .aaload => am_p1 st (fun i r => am_pr r (fun k r => .inr (((am_kd S k).1 = 2 ∨ (am_kd S k).1 = 3) ∧ 0 ≤ i ∧ i < ((am_kd S k).2 : Int) ∧ i ≤ 2147483647, am_nx ls (am_r (am_rf S k i) :: r) M)))
    | .iastore => am_p2 st (fun i x r => am_pr r (fun k r => .inr ((am_kd S k).1 = 0 ∧ 0 ≤ i ∧ i < ((am_kd S k).2 : Int) ∧ i ≤ 2147483647, am_nx ls r (am_wr M k i x))))
    | .bastore => am_p2 st (fun i x r => am_pr r (fun k r => .inr ((am_kd S k).1 = 1 ∧ 0 ≤ i ∧ i < ((am_kd S k).2 : Int) ∧ i ≤ 2147483647 ∧ (x = 0 ∨ x = 1), am_nx ls r (am_wr M k i x))))
    | .aastore => am_pr st (fun x r => am_p1 r (fun i r => am_pr r (fun k r => .inr ((((am_kd S k).1 = 2 ∧ am_kd S x = (4, 3)) ∨ ((am_kd S k).1 = 3 ∧ am_kd S x = (4, 2))) ∧ 0 ≤ i ∧ i < ((am_kd S k).2 : Int) ∧ i ≤ 2147483647, am_sr k i x r))))
    | .newarray _ => am_p1 st (fun n r => .inr (0 ≤ n ∧ n ≤ 65536, am_al a n.toNat n.toNat r))
    | .anewarray _ => am_p1 st (fun n r => .inr (0 ≤ n ∧ n ≤ 65536, am_al a n.toNat n.toNat r))
    | .new _ => .inl (am_al 4 a b st)
    | .getfield _ => am_pr st (fun k r => .inr (am_kd S k = (4, a), if v = 1 then am_nx ls (am_r (am_rf S k (b : Int)) :: r) M else am_nx ls (am_i (M k (b : Int)) :: r) M))
    | .putfield _ => if v = 1 then am_pr st (fun x r => am_pr r (fun k r => .inr (am_kd S k = (4, a) ∧ 0 < x, am_sr k (b : Int) x r)))
        else am_p1 st (fun x r => am_pr r (fun k r => .inr (am_kd S k = (4, a) ∧ (v = 2 → x = 0 ∨ x = 1), am_nx ls r (am_wr M k (b : Int) x))))
    | .invokevirtual _ => if b ≤ st.length ∧ st.length ≤ b + 4 then (match (st.take b).reverse with
      | .inr (.inr (.inl k)) :: as => .inr (am_kd S k = (4, v.toNat), am_cl a (am_r k :: as) (st.drop b))
      | _ => am_bad) else am_bad
    | .invokespecial _ => if v = 1 then (if st.length ≤ 5 then am_pr st (fun k r => .inr (0 < k, am_nx ls r M)) else am_bad)
        else if b ≤ st.length ∧ st.length ≤ b + 4 then (match (st.take b).reverse with
      | .inr (.inr (.inl k)) :: as => .inr (0 < k, am_cl a (am_r k :: as) (st.drop b))
      | _ => am_bad) else am_bad
    | .invokestatic _ => if v = 2 then (match st with
      | .inl n :: .inl dp :: .inr (.inr (.inl d)) :: .inl sp :: .inr (.inr (.inl s)) :: r => if r.length ≤ 4 then .inr ((am_kd S s).1 = 0 ∧ (am_kd S d).1 = 0 ∧ 0 ≤ sp ∧ 0 ≤ dp ∧ 0 ≤ n ∧ sp + n ≤ ((am_kd S s).2 : Int) ∧ dp + n ≤ ((am_kd S d).2 : Int) ∧ sp + n ≤ 2147483647 ∧ dp + n ≤ 2147483647, am_nx ls r (am_cp M s sp d dp n)) else am_bad
      | _ => am_bad) else if v = 3 then am_p2 st (fun x y r => if r.length ≤ 4 then .inr (am_Ri x ∧ am_Ri y, am_nx ls (am_i (max x y) :: r) M) else am_bad)
      else if v = 4 then am_p2 st (fun x y r => if r.length ≤ 4 then .inr (am_Ri x ∧ am_Ri y, am_nx ls (am_i (min x y) :: r) M) else am_bad)
      else if b ≤ st.length ∧ st.length ≤ b + 4 then .inl (am_cl a (st.take b).reverse (st.drop b)) else am_bad
    | .ireturn => match st with
      | [.inl x] => if a = 1 then .inr (x = 0 ∨ x = 1, am_rt (some (am_i x))) else .inl (am_rt (some (am_i x)))
      | _ => am_bad
    | .return_ => match st with
      | [] => .inl (am_rt none)
      | _ => am_bad
    | _ => am_bad
/-- what a run gives: the answer, the cells, the memory -/
abbrev am_Z : Type := Option am_V × am_S × am_M
noncomputable def am_cif {α : Type} (c : Prop) (x y : α) : α := @ite α c (Classical.propDecidable c) x y
theorem am_cif_t {α : Type} {c : Prop} {x y : α} (h : c) : am_cif c x y = x := by unfold am_cif; exact if_pos h
theorem am_cif_f {α : Type} {c : Prop} {x y : α} (h : ¬ c) : am_cif c x y = y := by unfold am_cif; exact if_neg h
noncomputable def am_ck (c : Prop) (x : Option am_Z) : Option am_Z := am_cif c x none
theorem am_ck_t {c : Prop} {x : Option am_Z} (h : c) : am_ck c x = x := am_cif_t h
theorem am_ck_some {c : Prop} {x : Option am_Z} {r : am_Z} (h : am_ck c x = some r) : c ∧ x = some r := by
  by_cases hc : c
  · rw [am_ck_t hc] at h; exact ⟨hc, h⟩
  · unfold am_ck at h; rw [am_cif_f hc] at h; cases h
def am_then (o : Option am_Z) (f : Option am_V → am_S → am_M → Option am_Z) : Option am_Z := match o with
  | none => none
  | some (r, S, M) => f r S M
def am_push (r : Option am_V) (st : am_K) : am_K := match r with
  | none => st
  | some v => v :: st
abbrev am_J : Type := Nat → am_L → am_K → am_S → am_M → Option am_Z
abbrev am_C : Type := Nat → List am_V → am_S → am_M → Option am_Z
noncomputable def am_do (J : am_J) (C : am_C) (K : am_L → am_K → am_S → am_M → Option am_Z) (nx : Nat) (ls : am_L) (S : am_S) (M : am_M) (a : am_A) : Option am_Z := match a with
  | .inl (ls', st', M') => K ls' st' S M'
  | .inr (.inl (c, t, ls', st')) => am_cif c (J t ls' st' S M) (K ls' st' S M)
  | .inr (.inr (.inl (t, ls', st'))) => J t ls' st' S M
  | .inr (.inr (.inr (.inl v))) => some (v, S, M)
  | .inr (.inr (.inr (.inr (.inl (z, as, st'))))) => am_then (C z as S M) (fun r S' M' => J nx ls (am_push r st') S' M')
  | .inr (.inr (.inr (.inr (.inr (.inl (t, x, n, st')))))) => K ls (am_r (am_n S + 1) :: st') (am_new S (t, x) n) (am_zr M (am_n S + 1))
  | .inr (.inr (.inr (.inr (.inr (.inr (k, j, v, st')))))) => K ls st' (am_set S k j v) M
noncomputable def am_fin (J : am_J) (C : am_C) (K : am_L → am_K → am_S → am_M → Option am_Z) (nx : Nat) (ls : am_L) (S : am_S) (M : am_M) (t : am_T) : Option am_Z := match t with
  | .inl a => am_do J C K nx ls S M a
  | .inr (g, a) => am_ck g (am_do J C K nx ls S M a)
noncomputable def am_RB (J : am_J) (C : am_C) : List am_E → Nat → am_L → am_K → am_S → am_M → Option am_Z
  | [], pc, ls, st, S, M => J pc ls st S M
  | e :: is, pc, ls, st, S, M => am_fin J C (fun ls st S M => am_RB J C is (pc + e.2.1) ls st S M) (pc + e.2.1) ls S M (am_step e pc ls st S M)
end
section
/-! THE PROGRAM: classes, methods with their blocks (printed by wip/whole/gen/prog.py out of the claim's own print) -/
def pg_T0 : u_T := fun k => match k with
  | 0 => ("PersonLines$Book", "persons", "[I", true)
  | 1 => ("PersonLines$Book", "gates", "[I", true)
  | _ => ("PersonLines$Book", "count", "I", false)
def pg_t0 : Nat → FieldType := fun k => match k with
  | 0 => .array .int
  | 1 => .array .int
  | _ => .int
def pg_T1 : u_T := fun k => match k with
  | 0 => ("PersonLines$History", "ring", "[LPersonLines$Life;", true)
  | 1 => ("PersonLines$History", "next", "I", false)
  | _ => ("PersonLines$History", "count", "I", false)
def pg_t1 : Nat → FieldType := fun k => match k with
  | 0 => .array (.object "PersonLines$Life")
  | 1 => .int
  | _ => .int
def pg_T2 : u_T := fun k => match k with
  | 0 => ("PersonLines$Image", "life", "LPersonLines$Life;", true)
  | 1 => ("PersonLines$Image", "drawn", "I", false)
  | _ => ("PersonLines$Image", "kept", "Z", false)
def pg_t2 : Nat → FieldType := fun k => match k with
  | 0 => .object "PersonLines$Life"
  | 1 => .int
  | _ => .boolean
def pg_T3 : u_T := fun k => match k with
  | 0 => ("PersonLines$Life", "plan", "LPersonLines$Plan;", true)
  | 1 => ("PersonLines$Life", "nearness", "[I", true)
  | 2 => ("PersonLines$Life", "gates", "[I", true)
  | 3 => ("PersonLines$Life", "ends", "[I", true)
  | 4 => ("PersonLines$Life", "dead", "I", false)
  | 5 => ("PersonLines$Life", "rides", "I", false)
  | _ => ("PersonLines$Life", "days", "I", false)
def pg_t3 : Nat → FieldType := fun k => match k with
  | 0 => .object "PersonLines$Plan"
  | 1 => .array .int
  | 2 => .array .int
  | 3 => .array .int
  | 4 => .int
  | 5 => .int
  | _ => .int
def pg_T4 : u_T := fun k => match k with
  | 0 => ("PersonLines$Plan", "persons", "I", false)
  | 1 => ("PersonLines$Plan", "lines", "I", false)
  | 2 => ("PersonLines$Plan", "nearness", "[I", true)
  | 3 => ("PersonLines$Plan", "fares", "[I", true)
  | 4 => ("PersonLines$Plan", "sizes", "[I", true)
  | _ => ("PersonLines$Plan", "stops", "[I", true)
def pg_t4 : Nat → FieldType := fun k => match k with
  | 0 => .int
  | 1 => .int
  | 2 => .array .int
  | 3 => .array .int
  | 4 => .array .int
  | _ => .array .int
def pg_T5 : u_T := fun k => match k with
  | 0 => ("PersonLines$Reader", "draft", "LPersonLines$Plan;", true)
  | 1 => ("PersonLines$Reader", "text", "[I", true)
  | 2 => ("PersonLines$Reader", "length", "I", false)
  | 3 => ("PersonLines$Reader", "faultPlace", "I", false)
  | 4 => ("PersonLines$Reader", "faultKind", "I", false)
  | 5 => ("PersonLines$Reader", "place", "I", false)
  | _ => ("PersonLines$Reader", "wordPlace", "I", false)
def pg_t5 : Nat → FieldType := fun k => match k with
  | 0 => .object "PersonLines$Plan"
  | 1 => .array .int
  | 2 => .int
  | 3 => .int
  | 4 => .int
  | 5 => .int
  | _ => .int
def pg_T6 : u_T := fun k => match k with
  | 0 => ("PersonLines$Sightings", "plan", "LPersonLines$Plan;", true)
  | 1 => ("PersonLines$Sightings", "lines", "[I", true)
  | 2 => ("PersonLines$Sightings", "stops", "[I", true)
  | 3 => ("PersonLines$Sightings", "parts", "[I", true)
  | _ => ("PersonLines$Sightings", "count", "I", false)
def pg_t6 : Nat → FieldType := fun k => match k with
  | 0 => .object "PersonLines$Plan"
  | 1 => .array .int
  | 2 => .array .int
  | 3 => .array .int
  | _ => .int
def pg_T7 : u_T := fun k => match k with
  | _ => ("PersonLines$Walks", "onward", "[I", true)
def pg_t7 : Nat → FieldType := fun k => match k with
  | _ => .array .int
def pg_T8 : u_T := fun k => match k with
  | 0 => ("PersonLines", "plan", "LPersonLines$Plan;", true)
  | 1 => ("PersonLines", "reader", "LPersonLines$Reader;", true)
  | 2 => ("PersonLines", "life", "LPersonLines$Life;", true)
  | 3 => ("PersonLines", "trial", "LPersonLines$Life;", true)
  | 4 => ("PersonLines", "history", "LPersonLines$History;", true)
  | 5 => ("PersonLines", "walks", "LPersonLines$Walks;", true)
  | 6 => ("PersonLines", "sightings", "LPersonLines$Sightings;", true)
  | 7 => ("PersonLines", "book", "LPersonLines$Book;", true)
  | 8 => ("PersonLines", "images", "[LPersonLines$Image;", true)
  | 9 => ("PersonLines", "faultPlace", "I", false)
  | _ => ("PersonLines", "drawn", "I", false)
def pg_t8 : Nat → FieldType := fun k => match k with
  | 0 => .object "PersonLines$Plan"
  | 1 => .object "PersonLines$Reader"
  | 2 => .object "PersonLines$Life"
  | 3 => .object "PersonLines$Life"
  | 4 => .object "PersonLines$History"
  | 5 => .object "PersonLines$Walks"
  | 6 => .object "PersonLines$Sightings"
  | 7 => .object "PersonLines$Book"
  | 8 => .array (.object "PersonLines$Image")
  | 9 => .int
  | _ => .int
def pg_T9 : u_T := fun k => match k with
  | 0 => ("PersonLinesModel", "w", "[I", true)
  | 1 => ("PersonLinesModel", "isKept", "[Z", true)
  | 2 => ("PersonLinesModel", "nears", "[I", true)
  | 3 => ("PersonLinesModel", "stops", "[I", true)
  | 4 => ("PersonLinesModel", "sizes", "[I", true)
  | 5 => ("PersonLinesModel", "fares", "[I", true)
  | 6 => ("PersonLinesModel", "persons", "I", false)
  | 7 => ("PersonLinesModel", "newPersons", "I", false)
  | 8 => ("PersonLinesModel", "lines", "I", false)
  | 9 => ("PersonLinesModel", "newLines", "I", false)
  | 10 => ("PersonLinesModel", "text", "[I", true)
  | 11 => ("PersonLinesModel", "textSize", "I", false)
  | 12 => ("PersonLinesModel", "at", "I", false)
  | 13 => ("PersonLinesModel", "first", "I", false)
  | 14 => ("PersonLinesModel", "faultOf", "I", false)
  | 15 => ("PersonLinesModel", "fault", "I", false)
  | 16 => ("PersonLinesModel", "undoMany", "I", false)
  | 17 => ("PersonLinesModel", "far", "[I", true)
  | 18 => ("PersonLinesModel", "seenLine", "[I", true)
  | 19 => ("PersonLinesModel", "seenStop", "[I", true)
  | 20 => ("PersonLinesModel", "seen", "I", false)
  | 21 => ("PersonLinesModel", "bookOf", "[I", true)
  | 22 => ("PersonLinesModel", "bookAt", "[I", true)
  | _ => ("PersonLinesModel", "written", "I", false)
def pg_t9 : Nat → FieldType := fun k => match k with
  | 0 => .array .int
  | 1 => .array .boolean
  | 2 => .array .int
  | 3 => .array .int
  | 4 => .array .int
  | 5 => .array .int
  | 6 => .int
  | 7 => .int
  | 8 => .int
  | 9 => .int
  | 10 => .array .int
  | 11 => .int
  | 12 => .int
  | 13 => .int
  | 14 => .int
  | 15 => .int
  | 16 => .int
  | 17 => .array .int
  | 18 => .array .int
  | 19 => .array .int
  | 20 => .int
  | 21 => .array .int
  | 22 => .array .int
  | _ => .int
def pg_cls : List vw_C := [("PersonLines$Book", pg_T0, 3), ("PersonLines$History", pg_T1, 3), ("PersonLines$Image", pg_T2, 3), ("PersonLines$Life", pg_T3, 7), ("PersonLines$Plan", pg_T4, 6), ("PersonLines$Reader", pg_T5, 7), ("PersonLines$Sightings", pg_T6, 5), ("PersonLines$Walks", pg_T7, 1), ("PersonLines", pg_T8, 11), ("PersonLinesModel", pg_T9, 24)]
def pg_tys : List (Nat → FieldType) := [pg_t0, pg_t1, pg_t2, pg_t3, pg_t4, pg_t5, pg_t6, pg_t7, pg_t8, pg_t9]
def pg_own : List String := ["PersonLines$Book", "PersonLines$History", "PersonLines$Image", "PersonLines$Life", "PersonLines$Plan", "PersonLines$Reader", "PersonLines$Sightings", "PersonLines$Walks", "PersonLines", "PersonLinesModel", "PersonLinesLaw", "java/lang/Integer", "java/lang/Math"]
def pg_b0 : List (Nat × List am_E) := [(0, [(.aload_n 0, 1, 0, 0, 0), (.invokespecial 3, 3, 0, 1, 1), (.aload_n 0, 1, 0, 0, 0), (.bipush 20, 2, 0, 0, 20), (.newarray .int, 2, 0, 0, 0)]), (9, [(.putfield 9, 3, 0, 0, 1)]), (12, [(.aload_n 0, 1, 0, 0, 0), (.bipush 20, 2, 0, 0, 20), (.newarray .int, 2, 0, 0, 0)]), (17, [(.putfield 15, 3, 0, 1, 1)]), (20, [(.return_, 1, 0, 0, 0)])]
def pg_b1 : List (Nat × List am_E) := [(0, [(.aload_n 0, 1, 0, 0, 0), (.iconst 0, 1, 0, 0, 0), (.putfield 18, 3, 0, 2, 0), (.return_, 1, 0, 0, 0)])]
def pg_b2 : List (Nat × List am_E) := [(0, [(.aload_n 0, 1, 0, 0, 0), (.getfield 18, 3, 0, 2, 0), (.bipush 20, 2, 0, 0, 20), (.if_icmp .ge 33, 3, 39, 0, 0)]), (9, [(.aload_n 0, 1, 0, 0, 0), (.getfield 9, 3, 0, 0, 1), (.aload_n 0, 1, 0, 0, 0), (.getfield 18, 3, 0, 2, 0), (.iload_n 1, 1, 1, 0, 0), (.iastore, 1, 0, 0, 0), (.aload_n 0, 1, 0, 0, 0), (.getfield 15, 3, 0, 1, 1), (.aload_n 0, 1, 0, 0, 0), (.getfield 18, 3, 0, 2, 0), (.iload_n 2, 1, 2, 0, 0), (.iastore, 1, 0, 0, 0), (.aload_n 0, 1, 0, 0, 0), (.dup, 1, 0, 0, 0), (.getfield 18, 3, 0, 2, 0), (.iconst 1, 1, 0, 0, 1), (.iadd, 1, 0, 0, 0), (.putfield 18, 3, 0, 2, 0)]), (39, [(.return_, 1, 0, 0, 0)])]
def pg_b3 : List (Nat × List am_E) := [(0, [(.iconst 0, 1, 0, 0, 0), (.istore_n 2, 1, 2, 0, 0)]), (2, [(.iload_n 2, 1, 2, 0, 0), (.aload_n 0, 1, 0, 0, 0), (.getfield 18, 3, 0, 2, 0), (.if_icmp .ge 31, 3, 38, 0, 0)]), (10, [(.aload_n 1, 1, 1, 0, 0), (.getfield 22, 3, 3, 2, 1), (.aload_n 0, 1, 0, 0, 0), (.getfield 9, 3, 0, 0, 1), (.iload_n 2, 1, 2, 0, 0), (.iaload, 1, 0, 0, 0), (.iaload, 1, 0, 0, 0), (.aload_n 0, 1, 0, 0, 0), (.getfield 15, 3, 0, 1, 1), (.iload_n 2, 1, 2, 0, 0), (.iaload, 1, 0, 0, 0), (.if_icmp .eq 5, 3, 32, 0, 0)]), (30, [(.iload_n 2, 1, 2, 0, 0), (.ireturn, 1, 0, 0, 0)]), (32, [(.iinc 2 1, 3, 2, 0, 1), (.goto (-33), 3, 2, 0, 0)]), (38, [(.iconst (-1), 1, 0, 0, (-1)), (.ireturn, 1, 0, 0, 0)])]
def pg_b4 : List (Nat × List am_E) := [(0, [(.aload_n 0, 1, 0, 0, 0), (.invokespecial 3, 3, 0, 1, 1), (.aload_n 0, 1, 0, 0, 0), (.bipush 30, 2, 0, 0, 30), (.anewarray 9, 3, 2, 0, 0)]), (10, [(.putfield 11, 3, 1, 0, 1)]), (13, [(.iconst 0, 1, 0, 0, 0), (.istore_n 2, 1, 2, 0, 0)]), (15, [(.iload_n 2, 1, 2, 0, 0), (.bipush 30, 2, 0, 0, 30), (.if_icmp .ge 23, 3, 41, 0, 0)]), (21, [(.aload_n 0, 1, 0, 0, 0), (.getfield 11, 3, 1, 0, 1), (.iload_n 2, 1, 2, 0, 0), (.new 9, 3, 3, 7, 0)]), (29, [(.dup, 1, 0, 0, 0), (.aload_n 1, 1, 1, 0, 0), (.invokespecial 17, 3, 9, 2, 0)]), (34, [(.aastore, 1, 0, 0, 0), (.iinc 2 1, 3, 2, 0, 1), (.goto (-23), 3, 15, 0, 0)]), (41, [(.return_, 1, 0, 0, 0)])]
def pg_b5 : List (Nat × List am_E) := [(0, [(.aload_n 0, 1, 0, 0, 0), (.iconst 0, 1, 0, 0, 0), (.putfield 20, 3, 1, 2, 0), (.return_, 1, 0, 0, 0)])]
def pg_b6 : List (Nat × List am_E) := [(0, [(.aload_n 0, 1, 0, 0, 0), (.getfield 11, 3, 1, 0, 1), (.aload_n 0, 1, 0, 0, 0), (.getfield 24, 3, 1, 1, 0), (.aaload, 1, 0, 0, 0), (.aload_n 1, 1, 1, 0, 0), (.invokevirtual 27, 3, 11, 2, 3)]), (13, [(.aload_n 0, 1, 0, 0, 0), (.aload_n 0, 1, 0, 0, 0), (.getfield 24, 3, 1, 1, 0), (.iconst 1, 1, 0, 0, 1), (.iadd, 1, 0, 0, 0), (.bipush 30, 2, 0, 0, 30), (.irem, 1, 0, 0, 0), (.putfield 24, 3, 1, 1, 0), (.aload_n 0, 1, 0, 0, 0), (.aload_n 0, 1, 0, 0, 0), (.getfield 20, 3, 1, 2, 0), (.iconst 1, 1, 0, 0, 1), (.iadd, 1, 0, 0, 0), (.bipush 30, 2, 0, 0, 30), (.invokestatic 31, 3, 0, 2, 4), (.putfield 20, 3, 1, 2, 0), (.return_, 1, 0, 0, 0)])]
def pg_b7 : List (Nat × List am_E) := [(0, [(.iload_n 2, 1, 2, 0, 0), (.iconst 1, 1, 0, 0, 1), (.if_icmp .lt 11, 3, 13, 0, 0)]), (5, [(.iload_n 2, 1, 2, 0, 0), (.aload_n 0, 1, 0, 0, 0), (.getfield 20, 3, 1, 2, 0), (.if_icmp .le 4, 3, 14, 0, 0)]), (13, [(.return_, 1, 0, 0, 0)]), (14, [(.aload_n 0, 1, 0, 0, 0), (.aload_n 0, 1, 0, 0, 0), (.getfield 24, 3, 1, 1, 0), (.bipush 30, 2, 0, 0, 30), (.iadd, 1, 0, 0, 0), (.iload_n 2, 1, 2, 0, 0), (.isub, 1, 0, 0, 0), (.bipush 30, 2, 0, 0, 30), (.irem, 1, 0, 0, 0), (.putfield 24, 3, 1, 1, 0), (.aload_n 0, 1, 0, 0, 0), (.dup, 1, 0, 0, 0), (.getfield 20, 3, 1, 2, 0), (.iload_n 2, 1, 2, 0, 0), (.isub, 1, 0, 0, 0), (.putfield 20, 3, 1, 2, 0), (.aload_n 1, 1, 1, 0, 0), (.aload_n 0, 1, 0, 0, 0), (.getfield 11, 3, 1, 0, 1), (.aload_n 0, 1, 0, 0, 0), (.getfield 24, 3, 1, 1, 0), (.aaload, 1, 0, 0, 0), (.invokevirtual 27, 3, 11, 2, 3)]), (53, [(.return_, 1, 0, 0, 0)])]
def pg_b8 : List (Nat × List am_E) := [(0, [(.aload_n 0, 1, 0, 0, 0), (.invokespecial 1, 3, 0, 1, 1), (.aload_n 0, 1, 0, 0, 0), (.new 7, 3, 3, 7, 0)]), (8, [(.dup, 1, 0, 0, 0), (.aload_n 1, 1, 1, 0, 0), (.invokespecial 9, 3, 9, 2, 0)]), (13, [(.putfield 12, 3, 2, 0, 1)]), (16, [(.return_, 1, 0, 0, 0)])]
def pg_b9 : List (Nat × List am_E) := [(0, [(.aload_n 0, 1, 0, 0, 0), (.invokespecial 3, 3, 0, 1, 1), (.aload_n 0, 1, 0, 0, 0), (.bipush 64, 2, 0, 0, 64), (.newarray .int, 2, 0, 0, 0)]), (9, [(.putfield 9, 3, 3, 1, 1)]), (12, [(.aload_n 0, 1, 0, 0, 0), (.bipush 8, 2, 0, 0, 8), (.newarray .int, 2, 0, 0, 0)]), (17, [(.putfield 15, 3, 3, 2, 1)]), (20, [(.aload_n 0, 1, 0, 0, 0), (.bipush 6, 2, 0, 0, 6), (.newarray .int, 2, 0, 0, 0)]), (25, [(.putfield 18, 3, 3, 3, 1)]), (28, [(.aload_n 0, 1, 0, 0, 0), (.aload_n 1, 1, 1, 0, 0), (.putfield 21, 3, 3, 0, 1)]), (33, [(.return_, 1, 0, 0, 0)])]
def pg_b10 : List (Nat × List am_E) := [(0, [(.aload_n 0, 1, 0, 0, 0), (.getfield 21, 3, 3, 0, 1), (.getfield 25, 3, 4, 2, 1), (.iconst 0, 1, 0, 0, 0), (.aload_n 0, 1, 0, 0, 0), (.getfield 9, 3, 3, 1, 1), (.iconst 0, 1, 0, 0, 0), (.aload_n 0, 1, 0, 0, 0), (.getfield 9, 3, 3, 1, 1), (.arraylength, 1, 0, 0, 0), (.invokestatic 28, 3, 0, 5, 2), (.iconst 0, 1, 0, 0, 0), (.istore_n 1, 1, 1, 0, 0)]), (23, [(.iload_n 1, 1, 1, 0, 0), (.aload_n 0, 1, 0, 0, 0), (.getfield 21, 3, 3, 0, 1), (.getfield 34, 3, 4, 1, 0), (.if_icmp .ge 39, 3, 70, 0, 0)]), (34, [(.aload_n 0, 1, 0, 0, 0), (.getfield 18, 3, 3, 3, 1), (.iload_n 1, 1, 1, 0, 0), (.aload_n 0, 1, 0, 0, 0), (.getfield 21, 3, 3, 0, 1), (.getfield 38, 3, 4, 5, 1), (.iload_n 1, 1, 1, 0, 0), (.bipush 6, 2, 0, 0, 6), (.imul, 1, 0, 0, 0), (.aload_n 0, 1, 0, 0, 0), (.getfield 21, 3, 3, 0, 1), (.getfield 41, 3, 4, 4, 1), (.iload_n 1, 1, 1, 0, 0), (.iaload, 1, 0, 0, 0), (.iadd, 1, 0, 0, 0), (.iconst 1, 1, 0, 0, 1), (.isub, 1, 0, 0, 0), (.iaload, 1, 0, 0, 0), (.iastore, 1, 0, 0, 0), (.iinc 1 1, 3, 1, 0, 1), (.goto (-44), 3, 23, 0, 0)]), (70, [(.aload_n 0, 1, 0, 0, 0), (.iconst 0, 1, 0, 0, 0), (.putfield 44, 3, 3, 4, 0), (.aload_n 0, 1, 0, 0, 0), (.iconst 0, 1, 0, 0, 0), (.putfield 47, 3, 3, 5, 0), (.aload_n 0, 1, 0, 0, 0), (.iconst 0, 1, 0, 0, 0), (.putfield 50, 3, 3, 6, 0), (.aload_n 0, 1, 0, 0, 0), (.invokevirtual 53, 3, 26, 1, 3)]), (89, [(.return_, 1, 0, 0, 0)])]
def pg_b11 : List (Nat × List am_E) := [(0, [(.aload_n 1, 1, 1, 0, 0), (.getfield 9, 3, 3, 1, 1), (.iconst 0, 1, 0, 0, 0), (.aload_n 0, 1, 0, 0, 0), (.getfield 9, 3, 3, 1, 1), (.iconst 0, 1, 0, 0, 0), (.aload_n 0, 1, 0, 0, 0), (.getfield 9, 3, 3, 1, 1), (.arraylength, 1, 0, 0, 0), (.invokestatic 28, 3, 0, 5, 2), (.aload_n 1, 1, 1, 0, 0), (.getfield 15, 3, 3, 2, 1), (.iconst 0, 1, 0, 0, 0), (.aload_n 0, 1, 0, 0, 0), (.getfield 15, 3, 3, 2, 1), (.iconst 0, 1, 0, 0, 0), (.aload_n 0, 1, 0, 0, 0), (.getfield 15, 3, 3, 2, 1), (.arraylength, 1, 0, 0, 0), (.invokestatic 28, 3, 0, 5, 2), (.aload_n 1, 1, 1, 0, 0), (.getfield 18, 3, 3, 3, 1), (.iconst 0, 1, 0, 0, 0), (.aload_n 0, 1, 0, 0, 0), (.getfield 18, 3, 3, 3, 1), (.iconst 0, 1, 0, 0, 0), (.aload_n 0, 1, 0, 0, 0), (.getfield 18, 3, 3, 3, 1), (.arraylength, 1, 0, 0, 0), (.invokestatic 28, 3, 0, 5, 2), (.aload_n 0, 1, 0, 0, 0), (.aload_n 1, 1, 1, 0, 0), (.getfield 44, 3, 3, 4, 0), (.putfield 44, 3, 3, 4, 0), (.aload_n 0, 1, 0, 0, 0), (.aload_n 1, 1, 1, 0, 0), (.getfield 47, 3, 3, 5, 0), (.putfield 47, 3, 3, 5, 0), (.aload_n 0, 1, 0, 0, 0), (.aload_n 1, 1, 1, 0, 0), (.getfield 50, 3, 3, 6, 0), (.putfield 50, 3, 3, 6, 0), (.return_, 1, 0, 0, 0)])]
def pg_b12 : List (Nat × List am_E) := [(0, [(.aload_n 0, 1, 0, 0, 0), (.getfield 44, 3, 3, 4, 0), (.iload_n 1, 1, 1, 0, 0), (.ishr, 1, 0, 0, 0), (.iconst 1, 1, 0, 0, 1), (.iand, 1, 0, 0, 0), (.ifCond .ne 7, 3, 15, 0, 0)]), (11, [(.iconst 1, 1, 0, 0, 1), (.goto 4, 3, 16, 0, 0)]), (15, [(.iconst 0, 1, 0, 0, 0)]), (16, [(.ireturn, 1, 1, 0, 0)])]
def pg_b13 : List (Nat × List am_E) := [(0, [(.aload_n 0, 1, 0, 0, 0), (.getfield 9, 3, 3, 1, 1), (.iload_n 1, 1, 1, 0, 0), (.bipush 8, 2, 0, 0, 8), (.imul, 1, 0, 0, 0), (.iload_n 2, 1, 2, 0, 0), (.iadd, 1, 0, 0, 0), (.iaload, 1, 0, 0, 0), (.ireturn, 1, 0, 0, 0)])]
def pg_b14 : List (Nat × List am_E) := [(0, [(.iconst 0, 1, 0, 0, 0), (.istore_n 1, 1, 1, 0, 0), (.iconst 0, 1, 0, 0, 0), (.istore_n 2, 1, 2, 0, 0)]), (4, [(.iload_n 2, 1, 2, 0, 0), (.aload_n 0, 1, 0, 0, 0), (.getfield 21, 3, 3, 0, 1), (.getfield 56, 3, 4, 0, 0), (.if_icmp .ge 31, 3, 43, 0, 0)]), (15, [(.iconst 0, 1, 0, 0, 0), (.istore_n 3, 1, 3, 0, 0)]), (17, [(.iload_n 3, 1, 3, 0, 0), (.iload_n 2, 1, 2, 0, 0), (.if_icmp .ge 18, 3, 37, 0, 0)]), (22, [(.iload_n 1, 1, 1, 0, 0), (.aload_n 0, 1, 0, 0, 0), (.iload_n 2, 1, 2, 0, 0), (.iload_n 3, 1, 3, 0, 0), (.invokevirtual 59, 3, 13, 3, 3)]), (29, [(.iadd, 1, 0, 0, 0), (.istore_n 1, 1, 1, 0, 0), (.iinc 3 1, 3, 3, 0, 1), (.goto (-17), 3, 17, 0, 0)]), (37, [(.iinc 2 1, 3, 2, 0, 1), (.goto (-36), 3, 4, 0, 0)]), (43, [(.iload_n 1, 1, 1, 0, 0), (.ireturn, 1, 0, 0, 0)])]
def pg_b15 : List (Nat × List am_E) := [(0, [(.iload_n 2, 1, 2, 0, 0), (.aload_n 0, 1, 0, 0, 0), (.getfield 21, 3, 3, 0, 1), (.getfield 41, 3, 4, 4, 1), (.iload_n 1, 1, 1, 0, 0), (.iaload, 1, 0, 0, 0), (.iconst 1, 1, 0, 0, 1), (.isub, 1, 0, 0, 0), (.if_icmp .ne 12, 3, 24, 0, 0)]), (15, [(.aload_n 0, 1, 0, 0, 0), (.getfield 18, 3, 3, 3, 1), (.iload_n 1, 1, 1, 0, 0), (.iaload, 1, 0, 0, 0), (.goto 17, 3, 38, 0, 0)]), (24, [(.aload_n 0, 1, 0, 0, 0), (.getfield 21, 3, 3, 0, 1), (.getfield 38, 3, 4, 5, 1), (.iload_n 1, 1, 1, 0, 0), (.bipush 6, 2, 0, 0, 6), (.imul, 1, 0, 0, 0), (.iload_n 2, 1, 2, 0, 0), (.iadd, 1, 0, 0, 0), (.iaload, 1, 0, 0, 0)]), (38, [(.ireturn, 1, 0, 0, 0)])]
def pg_b16 : List (Nat × List am_E) := [(0, [(.iconst 0, 1, 0, 0, 0), (.istore_n 3, 1, 3, 0, 0)]), (2, [(.iload_n 3, 1, 3, 0, 0), (.aload_n 0, 1, 0, 0, 0), (.getfield 21, 3, 3, 0, 1), (.getfield 41, 3, 4, 4, 1), (.iload_n 1, 1, 1, 0, 0), (.iaload, 1, 0, 0, 0), (.if_icmp .ge 21, 3, 33, 0, 0)]), (15, [(.aload_n 0, 1, 0, 0, 0), (.iload_n 1, 1, 1, 0, 0), (.iload_n 3, 1, 3, 0, 0), (.invokevirtual 62, 3, 15, 3, 3)]), (21, [(.iload_n 2, 1, 2, 0, 0), (.if_icmp .ne 5, 3, 27, 0, 0)]), (25, [(.iload_n 3, 1, 3, 0, 0), (.ireturn, 1, 0, 0, 0)]), (27, [(.iinc 3 1, 3, 3, 0, 1), (.goto (-28), 3, 2, 0, 0)]), (33, [(.iconst (-1), 1, 0, 0, (-1)), (.ireturn, 1, 0, 0, 0)])]
def pg_b17 : List (Nat × List am_E) := [(0, [(.aload_n 0, 1, 0, 0, 0), (.iload_n 1, 1, 1, 0, 0), (.iload_n 2, 1, 2, 0, 0), (.invokevirtual 65, 3, 16, 3, 3)]), (6, [(.istore_n 3, 1, 3, 0, 0), (.iload_n 3, 1, 3, 0, 0), (.aload_n 0, 1, 0, 0, 0), (.getfield 21, 3, 3, 0, 1), (.getfield 41, 3, 4, 4, 1), (.iload_n 1, 1, 1, 0, 0), (.iaload, 1, 0, 0, 0), (.iconst 1, 1, 0, 0, 1), (.isub, 1, 0, 0, 0), (.if_icmp .ne 7, 3, 26, 0, 0)]), (22, [(.iconst (-1), 1, 0, 0, (-1)), (.goto 4, 3, 27, 0, 0)]), (26, [(.iload_n 3, 1, 3, 0, 0)]), (27, [(.ireturn, 1, 0, 0, 0)])]
def pg_b18 : List (Nat × List am_E) := [(0, [(.aload_n 0, 1, 0, 0, 0), (.iload_n 1, 1, 1, 0, 0), (.invokevirtual 68, 3, 12, 2, 3)]), (5, [(.ifCond .eq 22, 3, 27, 0, 0)]), (8, [(.aload_n 0, 1, 0, 0, 0), (.iload_n 2, 1, 2, 0, 0), (.aload_n 0, 1, 0, 0, 0), (.getfield 15, 3, 3, 2, 1), (.iload_n 1, 1, 1, 0, 0), (.iaload, 1, 0, 0, 0), (.invokevirtual 72, 3, 17, 3, 3)]), (19, [(.iconst (-1), 1, 0, 0, (-1)), (.if_icmp .eq 7, 3, 27, 0, 0)]), (23, [(.iconst 1, 1, 0, 0, 1), (.goto 4, 3, 28, 0, 0)]), (27, [(.iconst 0, 1, 0, 0, 0)]), (28, [(.ireturn, 1, 1, 0, 0)])]
def pg_b19 : List (Nat × List am_E) := [(0, [(.iconst 0, 1, 0, 0, 0), (.iload_n 3, 1, 3, 0, 0), (.aload_n 0, 1, 0, 0, 0), (.getfield 21, 3, 3, 0, 1), (.getfield 75, 3, 4, 3, 1), (.iload_n 2, 1, 2, 0, 0), (.iaload, 1, 0, 0, 0), (.imul, 1, 0, 0, 0), (.aload_n 0, 1, 0, 0, 0), (.iload_n 1, 1, 1, 0, 0), (.aload_n 0, 1, 0, 0, 0), (.iload_n 2, 1, 2, 0, 0), (.iload_n 3, 1, 3, 0, 0), (.invokevirtual 62, 3, 15, 3, 3)]), (20, [(.invokevirtual 59, 3, 13, 3, 3)]), (23, [(.isub, 1, 0, 0, 0), (.invokestatic 78, 3, 0, 2, 3), (.ireturn, 1, 0, 0, 0)])]
def pg_b20 : List (Nat × List am_E) := [(0, [(.aload_n 0, 1, 0, 0, 0), (.iload_n 1, 1, 1, 0, 0), (.iload_n 2, 1, 2, 0, 0), (.iload_n 3, 1, 3, 0, 0), (.invokevirtual 83, 3, 19, 4, 3)]), (7, [(.ifCond .ne 7, 3, 14, 0, 0)]), (10, [(.iconst 1, 1, 0, 0, 1), (.goto 4, 3, 15, 0, 0)]), (14, [(.iconst 0, 1, 0, 0, 0)]), (15, [(.ireturn, 1, 1, 0, 0)])]
def pg_b21 : List (Nat × List am_E) := [(0, [(.aload_n 0, 1, 0, 0, 0), (.iload_n 3, 1, 3, 0, 0), (.aload_n 0, 1, 0, 0, 0), (.getfield 15, 3, 3, 2, 1), (.iload_n 1, 1, 1, 0, 0), (.iaload, 1, 0, 0, 0), (.invokevirtual 72, 3, 17, 3, 3)]), (11, [(.istore 4, 2, 4, 0, 0), (.aload_n 0, 1, 0, 0, 0), (.iload_n 3, 1, 3, 0, 0), (.iload_n 2, 1, 2, 0, 0), (.invokevirtual 65, 3, 16, 3, 3)]), (19, [(.istore 5, 2, 5, 0, 0), (.iload 4, 2, 4, 0, 0), (.iconst (-1), 1, 0, 0, (-1)), (.if_icmp .eq 10, 3, 34, 0, 0)]), (27, [(.iload 5, 2, 5, 0, 0), (.iload 4, 2, 4, 0, 0), (.if_icmp .gt 5, 3, 36, 0, 0)]), (34, [(.iconst (-1), 1, 0, 0, (-1)), (.ireturn, 1, 0, 0, 0)]), (36, [(.iconst 0, 1, 0, 0, 0), (.istore 6, 2, 6, 0, 0), (.iload 4, 2, 4, 0, 0), (.iconst 1, 1, 0, 0, 1), (.iadd, 1, 0, 0, 0), (.istore 7, 2, 7, 0, 0)]), (45, [(.iload 7, 2, 7, 0, 0), (.iload 5, 2, 5, 0, 0), (.if_icmp .gt 22, 3, 71, 0, 0)]), (52, [(.iload 6, 2, 6, 0, 0), (.aload_n 0, 1, 0, 0, 0), (.iload_n 1, 1, 1, 0, 0), (.iload_n 3, 1, 3, 0, 0), (.iload 7, 2, 7, 0, 0), (.invokevirtual 83, 3, 19, 4, 3)]), (62, [(.iadd, 1, 0, 0, 0), (.istore 6, 2, 6, 0, 0), (.iinc 7 1, 3, 7, 0, 1), (.goto (-23), 3, 45, 0, 0)]), (71, [(.iload 6, 2, 6, 0, 0), (.ireturn, 1, 0, 0, 0)])]
def pg_b22 : List (Nat × List am_E) := [(0, [(.aload_n 0, 1, 0, 0, 0), (.iload_n 2, 1, 2, 0, 0), (.aload_n 0, 1, 0, 0, 0), (.getfield 15, 3, 3, 2, 1), (.iload_n 1, 1, 1, 0, 0), (.iaload, 1, 0, 0, 0), (.invokevirtual 72, 3, 17, 3, 3)]), (11, [(.istore 4, 2, 4, 0, 0), (.iload 4, 2, 4, 0, 0), (.iconst (-1), 1, 0, 0, (-1)), (.if_icmp .ne 4, 3, 20, 0, 0)]), (19, [(.return_, 1, 0, 0, 0)]), (20, [(.iload 4, 2, 4, 0, 0), (.istore 5, 2, 5, 0, 0)]), (24, [(.iload 5, 2, 5, 0, 0), (.iload 4, 2, 4, 0, 0), (.isub, 1, 0, 0, 0), (.iload_n 3, 1, 3, 0, 0), (.if_icmp .ge 38, 3, 68, 0, 0)]), (33, [(.iload 5, 2, 5, 0, 0), (.iconst 1, 1, 0, 0, 1), (.iadd, 1, 0, 0, 0), (.aload_n 0, 1, 0, 0, 0), (.getfield 21, 3, 3, 0, 1), (.getfield 41, 3, 4, 4, 1), (.iload_n 2, 1, 2, 0, 0), (.iaload, 1, 0, 0, 0), (.if_icmp .ge 22, 3, 68, 0, 0)]), (49, [(.aload_n 0, 1, 0, 0, 0), (.iload_n 1, 1, 1, 0, 0), (.iload_n 2, 1, 2, 0, 0), (.iload 5, 2, 5, 0, 0), (.iconst 1, 1, 0, 0, 1), (.iadd, 1, 0, 0, 0), (.invokevirtual 87, 3, 20, 4, 3)]), (59, [(.ifCond .eq 9, 3, 68, 0, 0)]), (62, [(.iinc 5 1, 3, 5, 0, 1), (.goto (-41), 3, 24, 0, 0)]), (68, [(.aload_n 0, 1, 0, 0, 0), (.getfield 15, 3, 3, 2, 1), (.iload_n 1, 1, 1, 0, 0), (.aload_n 0, 1, 0, 0, 0), (.iload_n 2, 1, 2, 0, 0), (.iload 5, 2, 5, 0, 0), (.invokevirtual 62, 3, 15, 3, 3)]), (80, [(.iastore, 1, 0, 0, 0), (.aload_n 0, 1, 0, 0, 0), (.dup, 1, 0, 0, 0), (.getfield 47, 3, 3, 5, 0), (.iconst 1, 1, 0, 0, 1), (.iadd, 1, 0, 0, 0), (.putfield 47, 3, 3, 5, 0), (.return_, 1, 0, 0, 0)])]
def pg_b23 : List (Nat × List am_E) := [(0, [(.aload_n 0, 1, 0, 0, 0), (.getfield 15, 3, 3, 2, 1), (.iload_n 1, 1, 1, 0, 0), (.aload_n 0, 1, 0, 0, 0), (.getfield 18, 3, 3, 3, 1), (.iload_n 2, 1, 2, 0, 0), (.iaload, 1, 0, 0, 0), (.iastore, 1, 0, 0, 0), (.aload_n 0, 1, 0, 0, 0), (.dup, 1, 0, 0, 0), (.getfield 47, 3, 3, 5, 0), (.iconst 1, 1, 0, 0, 1), (.iadd, 1, 0, 0, 0), (.putfield 47, 3, 3, 5, 0), (.aload_n 0, 1, 0, 0, 0), (.aload_n 0, 1, 0, 0, 0), (.getfield 18, 3, 3, 3, 1), (.iload_n 2, 1, 2, 0, 0), (.iaload, 1, 0, 0, 0), (.invokevirtual 68, 3, 12, 2, 3)]), (32, [(.ifCond .eq 15, 3, 47, 0, 0)]), (35, [(.aload_n 0, 1, 0, 0, 0), (.iload_n 1, 1, 1, 0, 0), (.aload_n 0, 1, 0, 0, 0), (.getfield 18, 3, 3, 3, 1), (.iload_n 2, 1, 2, 0, 0), (.iaload, 1, 0, 0, 0), (.invokevirtual 91, 3, 24, 3, 3)]), (46, [(.pop, 1, 0, 0, 0)]), (47, [(.return_, 1, 0, 0, 0)])]
def pg_b24 : List (Nat × List am_E) := [(0, [(.aload_n 0, 1, 0, 0, 0), (.iload_n 1, 1, 1, 0, 0), (.iload_n 2, 1, 2, 0, 0), (.invokevirtual 59, 3, 13, 3, 3)]), (6, [(.istore_n 3, 1, 3, 0, 0), (.iload_n 3, 1, 3, 0, 0), (.bipush 9, 2, 0, 0, 9), (.if_icmp .lt 5, 3, 15, 0, 0)]), (13, [(.iconst 0, 1, 0, 0, 0), (.ireturn, 1, 1, 0, 0)]), (15, [(.aload_n 0, 1, 0, 0, 0), (.getfield 9, 3, 3, 1, 1), (.iload_n 1, 1, 1, 0, 0), (.bipush 8, 2, 0, 0, 8), (.imul, 1, 0, 0, 0), (.iload_n 2, 1, 2, 0, 0), (.iadd, 1, 0, 0, 0), (.iload_n 3, 1, 3, 0, 0), (.iconst 1, 1, 0, 0, 1), (.iadd, 1, 0, 0, 0), (.iastore, 1, 0, 0, 0), (.aload_n 0, 1, 0, 0, 0), (.getfield 9, 3, 3, 1, 1), (.iload_n 2, 1, 2, 0, 0), (.bipush 8, 2, 0, 0, 8), (.imul, 1, 0, 0, 0), (.iload_n 1, 1, 1, 0, 0), (.iadd, 1, 0, 0, 0), (.iload_n 3, 1, 3, 0, 0), (.iconst 1, 1, 0, 0, 1), (.iadd, 1, 0, 0, 0), (.iastore, 1, 0, 0, 0), (.iconst 1, 1, 0, 0, 1), (.ireturn, 1, 1, 0, 0)])]
def pg_b25 : List (Nat × List am_E) := [(0, [(.iconst 0, 1, 0, 0, 0), (.istore_n 1, 1, 1, 0, 0), (.iconst 0, 1, 0, 0, 0), (.istore_n 2, 1, 2, 0, 0)]), (4, [(.iload_n 2, 1, 2, 0, 0), (.aload_n 0, 1, 0, 0, 0), (.getfield 21, 3, 3, 0, 1), (.getfield 56, 3, 4, 0, 0), (.if_icmp .ge 64, 3, 76, 0, 0)]), (15, [(.iconst 0, 1, 0, 0, 0), (.istore_n 3, 1, 3, 0, 0)]), (17, [(.iload_n 3, 1, 3, 0, 0), (.iload_n 2, 1, 2, 0, 0), (.if_icmp .ge 51, 3, 70, 0, 0)]), (22, [(.aload_n 0, 1, 0, 0, 0), (.iload_n 2, 1, 2, 0, 0), (.invokevirtual 68, 3, 12, 2, 3)]), (27, [(.ifCond .eq 37, 3, 64, 0, 0)]), (30, [(.aload_n 0, 1, 0, 0, 0), (.iload_n 3, 1, 3, 0, 0), (.invokevirtual 68, 3, 12, 2, 3)]), (35, [(.ifCond .eq 29, 3, 64, 0, 0)]), (38, [(.aload_n 0, 1, 0, 0, 0), (.getfield 15, 3, 3, 2, 1), (.iload_n 2, 1, 2, 0, 0), (.iaload, 1, 0, 0, 0), (.aload_n 0, 1, 0, 0, 0), (.getfield 15, 3, 3, 2, 1), (.iload_n 3, 1, 3, 0, 0), (.iaload, 1, 0, 0, 0), (.if_icmp .ne 14, 3, 64, 0, 0)]), (53, [(.aload_n 0, 1, 0, 0, 0), (.iload_n 2, 1, 2, 0, 0), (.iload_n 3, 1, 3, 0, 0), (.invokevirtual 91, 3, 24, 3, 3)]), (59, [(.ifCond .eq 5, 3, 64, 0, 0)]), (62, [(.iconst 1, 1, 0, 0, 1), (.istore_n 1, 1, 1, 0, 0)]), (64, [(.iinc 3 1, 3, 3, 0, 1), (.goto (-50), 3, 17, 0, 0)]), (70, [(.iinc 2 1, 3, 2, 0, 1), (.goto (-69), 3, 4, 0, 0)]), (76, [(.aload_n 0, 1, 0, 0, 0), (.invokevirtual 53, 3, 26, 1, 3)]), (80, [(.aload_n 0, 1, 0, 0, 0), (.dup, 1, 0, 0, 0), (.getfield 50, 3, 3, 6, 0), (.iconst 1, 1, 0, 0, 1), (.iadd, 1, 0, 0, 0), (.putfield 50, 3, 3, 6, 0), (.iload_n 1, 1, 1, 0, 0), (.ireturn, 1, 1, 0, 0)])]
def pg_b26 : List (Nat × List am_E) := [(0, [(.iconst 0, 1, 0, 0, 0), (.istore_n 1, 1, 1, 0, 0)]), (2, [(.iload_n 1, 1, 1, 0, 0), (.aload_n 0, 1, 0, 0, 0), (.getfield 21, 3, 3, 0, 1), (.getfield 56, 3, 4, 0, 0), (.if_icmp .ge 24, 3, 34, 0, 0)]), (13, [(.aload_n 0, 1, 0, 0, 0), (.iload_n 1, 1, 1, 0, 0), (.invokevirtual 68, 3, 12, 2, 3)]), (18, [(.ifCond .eq 10, 3, 28, 0, 0)]), (21, [(.aload_n 0, 1, 0, 0, 0), (.getfield 15, 3, 3, 2, 1), (.iload_n 1, 1, 1, 0, 0), (.iload_n 1, 1, 1, 0, 0), (.iastore, 1, 0, 0, 0)]), (28, [(.iinc 1 1, 3, 1, 0, 1), (.goto (-29), 3, 2, 0, 0)]), (34, [(.return_, 1, 0, 0, 0)])]
def pg_b27 : List (Nat × List am_E) := [(0, [(.iconst 0, 1, 0, 0, 0), (.istore_n 1, 1, 1, 0, 0)]), (2, [(.iload_n 1, 1, 1, 0, 0), (.aload_n 0, 1, 0, 0, 0), (.getfield 21, 3, 3, 0, 1), (.getfield 56, 3, 4, 0, 0), (.if_icmp .ge 39, 3, 49, 0, 0)]), (13, [(.aload_n 0, 1, 0, 0, 0), (.iload_n 1, 1, 1, 0, 0), (.invokevirtual 68, 3, 12, 2, 3)]), (18, [(.ifCond .eq 11, 3, 29, 0, 0)]), (21, [(.aload_n 0, 1, 0, 0, 0), (.iload_n 1, 1, 1, 0, 0), (.invokevirtual 95, 3, 28, 2, 3)]), (26, [(.goto 4, 3, 30, 0, 0)]), (29, [(.iconst (-1), 1, 0, 0, (-1))]), (30, [(.istore_n 2, 1, 2, 0, 0), (.iload_n 2, 1, 2, 0, 0), (.iconst (-1), 1, 0, 0, (-1)), (.if_icmp .eq 10, 3, 43, 0, 0)]), (36, [(.aload_n 0, 1, 0, 0, 0), (.iload_n 1, 1, 1, 0, 0), (.iload_n 2, 1, 2, 0, 0), (.iconst 5, 1, 0, 0, 5), (.invokevirtual 99, 3, 22, 4, 3)]), (43, [(.iinc 1 1, 3, 1, 0, 1), (.goto (-44), 3, 2, 0, 0)]), (49, [(.return_, 1, 0, 0, 0)])]
def pg_b28 : List (Nat × List am_E) := [(0, [(.iconst 0, 1, 0, 0, 0), (.istore_n 2, 1, 2, 0, 0)]), (2, [(.iload_n 2, 1, 2, 0, 0), (.aload_n 0, 1, 0, 0, 0), (.getfield 21, 3, 3, 0, 1), (.getfield 34, 3, 4, 1, 0), (.if_icmp .ge 40, 3, 50, 0, 0)]), (13, [(.aload_n 0, 1, 0, 0, 0), (.iload_n 2, 1, 2, 0, 0), (.aload_n 0, 1, 0, 0, 0), (.getfield 15, 3, 3, 2, 1), (.iload_n 1, 1, 1, 0, 0), (.iaload, 1, 0, 0, 0), (.invokevirtual 72, 3, 17, 3, 3)]), (24, [(.istore_n 3, 1, 3, 0, 0), (.iload_n 3, 1, 3, 0, 0), (.iconst (-1), 1, 0, 0, (-1)), (.if_icmp .eq 17, 3, 44, 0, 0)]), (30, [(.aload_n 0, 1, 0, 0, 0), (.iload_n 1, 1, 1, 0, 0), (.iload_n 2, 1, 2, 0, 0), (.iload_n 3, 1, 3, 0, 0), (.iconst 1, 1, 0, 0, 1), (.iadd, 1, 0, 0, 0), (.invokevirtual 87, 3, 20, 4, 3)]), (39, [(.ifCond .eq 5, 3, 44, 0, 0)]), (42, [(.iload_n 2, 1, 2, 0, 0), (.ireturn, 1, 0, 0, 0)]), (44, [(.iinc 2 1, 3, 2, 0, 1), (.goto (-45), 3, 2, 0, 0)]), (50, [(.iconst (-1), 1, 0, 0, (-1)), (.ireturn, 1, 0, 0, 0)])]
def pg_b29 : List (Nat × List am_E) := [(0, [(.aload_n 0, 1, 0, 0, 0), (.invokespecial 3, 3, 0, 1, 1), (.aload_n 0, 1, 0, 0, 0), (.bipush 64, 2, 0, 0, 64), (.newarray .int, 2, 0, 0, 0)]), (9, [(.putfield 9, 3, 4, 2, 1)]), (12, [(.aload_n 0, 1, 0, 0, 0), (.bipush 6, 2, 0, 0, 6), (.newarray .int, 2, 0, 0, 0)]), (17, [(.putfield 15, 3, 4, 3, 1)]), (20, [(.aload_n 0, 1, 0, 0, 0), (.bipush 6, 2, 0, 0, 6), (.newarray .int, 2, 0, 0, 0)]), (25, [(.putfield 18, 3, 4, 4, 1)]), (28, [(.aload_n 0, 1, 0, 0, 0), (.bipush 36, 2, 0, 0, 36), (.newarray .int, 2, 0, 0, 0)]), (33, [(.putfield 21, 3, 4, 5, 1)]), (36, [(.return_, 1, 0, 0, 0)])]
def pg_b30 : List (Nat × List am_E) := [(0, [(.aload_n 0, 1, 0, 0, 0), (.aload_n 1, 1, 1, 0, 0), (.getfield 24, 3, 4, 0, 0), (.putfield 24, 3, 4, 0, 0), (.aload_n 0, 1, 0, 0, 0), (.aload_n 1, 1, 1, 0, 0), (.getfield 28, 3, 4, 1, 0), (.putfield 28, 3, 4, 1, 0), (.aload_n 1, 1, 1, 0, 0), (.getfield 9, 3, 4, 2, 1), (.iconst 0, 1, 0, 0, 0), (.aload_n 0, 1, 0, 0, 0), (.getfield 9, 3, 4, 2, 1), (.iconst 0, 1, 0, 0, 0), (.aload_n 0, 1, 0, 0, 0), (.getfield 9, 3, 4, 2, 1), (.arraylength, 1, 0, 0, 0), (.invokestatic 31, 3, 0, 5, 2), (.aload_n 1, 1, 1, 0, 0), (.getfield 15, 3, 4, 3, 1), (.iconst 0, 1, 0, 0, 0), (.aload_n 0, 1, 0, 0, 0), (.getfield 15, 3, 4, 3, 1), (.iconst 0, 1, 0, 0, 0), (.aload_n 0, 1, 0, 0, 0), (.getfield 15, 3, 4, 3, 1), (.arraylength, 1, 0, 0, 0), (.invokestatic 31, 3, 0, 5, 2), (.aload_n 1, 1, 1, 0, 0), (.getfield 18, 3, 4, 4, 1), (.iconst 0, 1, 0, 0, 0), (.aload_n 0, 1, 0, 0, 0), (.getfield 18, 3, 4, 4, 1), (.iconst 0, 1, 0, 0, 0), (.aload_n 0, 1, 0, 0, 0), (.getfield 18, 3, 4, 4, 1), (.arraylength, 1, 0, 0, 0), (.invokestatic 31, 3, 0, 5, 2), (.aload_n 1, 1, 1, 0, 0), (.getfield 21, 3, 4, 5, 1), (.iconst 0, 1, 0, 0, 0), (.aload_n 0, 1, 0, 0, 0), (.getfield 21, 3, 4, 5, 1), (.iconst 0, 1, 0, 0, 0), (.aload_n 0, 1, 0, 0, 0), (.getfield 21, 3, 4, 5, 1), (.arraylength, 1, 0, 0, 0), (.invokestatic 31, 3, 0, 5, 2), (.return_, 1, 0, 0, 0)])]
def pg_b31 : List (Nat × List am_E) := [(0, [(.aload_n 0, 1, 0, 0, 0), (.getfield 9, 3, 4, 2, 1), (.iload_n 1, 1, 1, 0, 0), (.bipush 8, 2, 0, 0, 8), (.imul, 1, 0, 0, 0), (.iload_n 2, 1, 2, 0, 0), (.iadd, 1, 0, 0, 0), (.iload_n 3, 1, 3, 0, 0), (.iastore, 1, 0, 0, 0), (.aload_n 0, 1, 0, 0, 0), (.getfield 9, 3, 4, 2, 1), (.iload_n 2, 1, 2, 0, 0), (.bipush 8, 2, 0, 0, 8), (.imul, 1, 0, 0, 0), (.iload_n 1, 1, 1, 0, 0), (.iadd, 1, 0, 0, 0), (.iload_n 3, 1, 3, 0, 0), (.iastore, 1, 0, 0, 0), (.return_, 1, 0, 0, 0)])]
def pg_b32 : List (Nat × List am_E) := [(0, [(.aload_n 0, 1, 0, 0, 0), (.invokespecial 3, 3, 0, 1, 1), (.aload_n 0, 1, 0, 0, 0), (.new 9, 3, 4, 6, 0)]), (8, [(.dup, 1, 0, 0, 0), (.invokespecial 11, 3, 29, 1, 0)]), (12, [(.putfield 12, 3, 5, 0, 1)]), (15, [(.aload_n 0, 1, 0, 0, 0), (.sipush 200, 3, 0, 0, 200), (.newarray .int, 2, 0, 0, 0)]), (21, [(.putfield 18, 3, 5, 1, 1)]), (24, [(.aload_n 0, 1, 0, 0, 0), (.iconst (-1), 1, 0, 0, (-1)), (.putfield 22, 3, 5, 3, 0)]), (29, [(.return_, 1, 0, 0, 0)])]
def pg_b33 : List (Nat × List am_E) := [(0, [(.aload_n 0, 1, 0, 0, 0), (.getfield 26, 3, 5, 2, 0), (.sipush 200, 3, 0, 0, 200), (.if_icmp .ge 23, 3, 30, 0, 0)]), (10, [(.aload_n 0, 1, 0, 0, 0), (.getfield 18, 3, 5, 1, 1), (.aload_n 0, 1, 0, 0, 0), (.getfield 26, 3, 5, 2, 0), (.iload_n 1, 1, 1, 0, 0), (.iastore, 1, 0, 0, 0), (.aload_n 0, 1, 0, 0, 0), (.dup, 1, 0, 0, 0), (.getfield 26, 3, 5, 2, 0), (.iconst 1, 1, 0, 0, 1), (.iadd, 1, 0, 0, 0), (.putfield 26, 3, 5, 2, 0)]), (30, [(.return_, 1, 0, 0, 0)])]
def pg_b34 : List (Nat × List am_E) := [(0, [(.aload_n 0, 1, 0, 0, 0), (.getfield 12, 3, 5, 0, 1), (.iconst 0, 1, 0, 0, 0), (.putfield 29, 3, 4, 0, 0), (.aload_n 0, 1, 0, 0, 0), (.getfield 12, 3, 5, 0, 1), (.iconst 0, 1, 0, 0, 0), (.putfield 32, 3, 4, 1, 0), (.aload_n 0, 1, 0, 0, 0), (.iconst 0, 1, 0, 0, 0), (.putfield 35, 3, 5, 4, 0), (.aload_n 0, 1, 0, 0, 0), (.iconst (-1), 1, 0, 0, (-1)), (.putfield 22, 3, 5, 3, 0), (.aload_n 0, 1, 0, 0, 0), (.iconst 0, 1, 0, 0, 0), (.putfield 38, 3, 5, 5, 0), (.aload_n 0, 1, 0, 0, 0), (.invokevirtual 41, 3, 44, 1, 5)]), (35, [(.iconst 0, 1, 0, 0, 0), (.istore_n 1, 1, 1, 0, 0)]), (37, [(.iload_n 1, 1, 1, 0, 0), (.sipush 200, 3, 0, 0, 200), (.if_icmp .ge 31, 3, 72, 0, 0)]), (44, [(.aload_n 0, 1, 0, 0, 0), (.getfield 38, 3, 5, 5, 0), (.aload_n 0, 1, 0, 0, 0), (.getfield 26, 3, 5, 2, 0), (.if_icmp .ge 20, 3, 72, 0, 0)]), (55, [(.aload_n 0, 1, 0, 0, 0), (.getfield 35, 3, 5, 4, 0), (.ifCond .ne 13, 3, 72, 0, 0)]), (62, [(.aload_n 0, 1, 0, 0, 0), (.invokevirtual 44, 3, 35, 1, 5)]), (66, [(.iinc 1 1, 3, 1, 0, 1), (.goto (-32), 3, 37, 0, 0)]), (72, [(.aload_n 0, 1, 0, 0, 0), (.iconst 0, 1, 0, 0, 0), (.putfield 26, 3, 5, 2, 0), (.aload_n 0, 1, 0, 0, 0), (.getfield 35, 3, 5, 4, 0), (.ireturn, 1, 0, 0, 0)])]
def pg_b35 : List (Nat × List am_E) := [(0, [(.aload_n 0, 1, 0, 0, 0), (.bipush 112, 2, 0, 0, 112), (.invokevirtual 47, 3, 40, 2, 5)]), (6, [(.ifCond .eq 10, 3, 16, 0, 0)]), (9, [(.aload_n 0, 1, 0, 0, 0), (.invokevirtual 51, 3, 36, 1, 5)]), (13, [(.goto 28, 3, 41, 0, 0)]), (16, [(.aload_n 0, 1, 0, 0, 0), (.bipush 108, 2, 0, 0, 108), (.invokevirtual 47, 3, 40, 2, 5)]), (22, [(.ifCond .eq 10, 3, 32, 0, 0)]), (25, [(.aload_n 0, 1, 0, 0, 0), (.invokevirtual 54, 3, 37, 1, 5)]), (29, [(.goto 12, 3, 41, 0, 0)]), (32, [(.aload_n 0, 1, 0, 0, 0), (.iconst 1, 1, 0, 0, 1), (.aload_n 0, 1, 0, 0, 0), (.getfield 38, 3, 5, 5, 0), (.invokevirtual 57, 3, 45, 3, 5)]), (41, [(.return_, 1, 0, 0, 0)])]
def pg_b36 : List (Nat × List am_E) := [(0, [(.aload_n 0, 1, 0, 0, 0), (.getfield 12, 3, 5, 0, 1), (.getfield 29, 3, 4, 0, 0), (.istore_n 1, 1, 1, 0, 0), (.iload_n 1, 1, 1, 0, 0), (.bipush 8, 2, 0, 0, 8), (.if_icmp .lt 13, 3, 24, 0, 0)]), (14, [(.aload_n 0, 1, 0, 0, 0), (.iconst 3, 1, 0, 0, 3), (.aload_n 0, 1, 0, 0, 0), (.getfield 38, 3, 5, 5, 0), (.invokevirtual 57, 3, 45, 3, 5)]), (23, [(.return_, 1, 0, 0, 0)]), (24, [(.aload_n 0, 1, 0, 0, 0), (.bipush 112, 2, 0, 0, 112), (.invokevirtual 61, 3, 41, 2, 5)]), (30, [(.pop, 1, 0, 0, 0), (.iconst 0, 1, 0, 0, 0), (.istore_n 2, 1, 2, 0, 0)]), (33, [(.iload_n 2, 1, 2, 0, 0), (.iload_n 1, 1, 1, 0, 0), (.if_icmp .ge 46, 3, 81, 0, 0)]), (38, [(.iload_n 2, 1, 2, 0, 0), (.ifCond .le 13, 3, 52, 0, 0)]), (42, [(.aload_n 0, 1, 0, 0, 0), (.bipush 44, 2, 0, 0, 44), (.invokevirtual 61, 3, 41, 2, 5)]), (48, [(.ifCond .ne 4, 3, 52, 0, 0)]), (51, [(.return_, 1, 0, 0, 0)]), (52, [(.aload_n 0, 1, 0, 0, 0), (.bipush 9, 2, 0, 0, 9), (.invokevirtual 64, 3, 42, 2, 5)]), (58, [(.istore_n 3, 1, 3, 0, 0), (.iload_n 3, 1, 3, 0, 0), (.iconst (-1), 1, 0, 0, (-1)), (.if_icmp .ne 4, 3, 65, 0, 0)]), (64, [(.return_, 1, 0, 0, 0)]), (65, [(.aload_n 0, 1, 0, 0, 0), (.getfield 12, 3, 5, 0, 1), (.iload_n 1, 1, 1, 0, 0), (.iload_n 2, 1, 2, 0, 0), (.iload_n 3, 1, 3, 0, 0), (.invokevirtual 68, 3, 31, 4, 4)]), (75, [(.iinc 2 1, 3, 2, 0, 1), (.goto (-45), 3, 33, 0, 0)]), (81, [(.aload_n 0, 1, 0, 0, 0), (.bipush 59, 2, 0, 0, 59), (.invokevirtual 61, 3, 41, 2, 5)]), (87, [(.ifCond .eq 27, 3, 114, 0, 0)]), (90, [(.aload_n 0, 1, 0, 0, 0), (.getfield 12, 3, 5, 0, 1), (.iload_n 1, 1, 1, 0, 0), (.iload_n 1, 1, 1, 0, 0), (.bipush 9, 2, 0, 0, 9), (.invokevirtual 68, 3, 31, 4, 4)]), (101, [(.aload_n 0, 1, 0, 0, 0), (.getfield 12, 3, 5, 0, 1), (.dup, 1, 0, 0, 0), (.getfield 29, 3, 4, 0, 0), (.iconst 1, 1, 0, 0, 1), (.iadd, 1, 0, 0, 0), (.putfield 29, 3, 4, 0, 0)]), (114, [(.return_, 1, 0, 0, 0)])]
def pg_b37 : List (Nat × List am_E) := [(0, [(.aload_n 0, 1, 0, 0, 0), (.getfield 12, 3, 5, 0, 1), (.getfield 32, 3, 4, 1, 0), (.istore_n 1, 1, 1, 0, 0), (.iload_n 1, 1, 1, 0, 0), (.bipush 6, 2, 0, 0, 6), (.if_icmp .lt 13, 3, 24, 0, 0)]), (14, [(.aload_n 0, 1, 0, 0, 0), (.iconst 3, 1, 0, 0, 3), (.aload_n 0, 1, 0, 0, 0), (.getfield 38, 3, 5, 5, 0), (.invokevirtual 57, 3, 45, 3, 5)]), (23, [(.return_, 1, 0, 0, 0)]), (24, [(.aload_n 0, 1, 0, 0, 0), (.bipush 108, 2, 0, 0, 108), (.invokevirtual 61, 3, 41, 2, 5)]), (30, [(.pop, 1, 0, 0, 0), (.aload_n 0, 1, 0, 0, 0), (.iconst 3, 1, 0, 0, 3), (.invokevirtual 64, 3, 42, 2, 5)]), (36, [(.istore_n 2, 1, 2, 0, 0), (.iload_n 2, 1, 2, 0, 0), (.iconst (-1), 1, 0, 0, (-1)), (.if_icmp .ne 4, 3, 43, 0, 0)]), (42, [(.return_, 1, 0, 0, 0)]), (43, [(.aload_n 0, 1, 0, 0, 0), (.iload_n 1, 1, 1, 0, 0), (.invokevirtual 72, 3, 38, 2, 5)]), (48, [(.istore_n 3, 1, 3, 0, 0), (.iload_n 3, 1, 3, 0, 0), (.iconst (-1), 1, 0, 0, (-1)), (.if_icmp .eq 45, 3, 96, 0, 0)]), (54, [(.aload_n 0, 1, 0, 0, 0), (.bipush 59, 2, 0, 0, 59), (.invokevirtual 61, 3, 41, 2, 5)]), (60, [(.ifCond .eq 36, 3, 96, 0, 0)]), (63, [(.aload_n 0, 1, 0, 0, 0), (.getfield 12, 3, 5, 0, 1), (.getfield 75, 3, 4, 3, 1), (.iload_n 1, 1, 1, 0, 0), (.iload_n 2, 1, 2, 0, 0), (.iastore, 1, 0, 0, 0), (.aload_n 0, 1, 0, 0, 0), (.getfield 12, 3, 5, 0, 1), (.getfield 78, 3, 4, 4, 1), (.iload_n 1, 1, 1, 0, 0), (.iload_n 3, 1, 3, 0, 0), (.iastore, 1, 0, 0, 0), (.aload_n 0, 1, 0, 0, 0), (.getfield 12, 3, 5, 0, 1), (.dup, 1, 0, 0, 0), (.getfield 32, 3, 4, 1, 0), (.iconst 1, 1, 0, 0, 1), (.iadd, 1, 0, 0, 0), (.putfield 32, 3, 4, 1, 0)]), (96, [(.return_, 1, 0, 0, 0)])]
def pg_b38 : List (Nat × List am_E) := [(0, [(.iconst 0, 1, 0, 0, 0), (.istore_n 2, 1, 2, 0, 0)]), (2, [(.iload_n 2, 1, 2, 0, 0), (.bipush 6, 2, 0, 0, 6), (.if_icmp .ge 97, 3, 102, 0, 0)]), (8, [(.iload_n 2, 1, 2, 0, 0), (.iconst 2, 1, 0, 0, 2), (.if_icmp .lt 14, 3, 24, 0, 0)]), (13, [(.aload_n 0, 1, 0, 0, 0), (.bipush 44, 2, 0, 0, 44), (.invokevirtual 47, 3, 40, 2, 5)]), (19, [(.ifCond .ne 5, 3, 24, 0, 0)]), (22, [(.iload_n 2, 1, 2, 0, 0), (.ireturn, 1, 0, 0, 0)]), (24, [(.iload_n 2, 1, 2, 0, 0), (.ifCond .le 14, 3, 39, 0, 0)]), (28, [(.aload_n 0, 1, 0, 0, 0), (.bipush 44, 2, 0, 0, 44), (.invokevirtual 61, 3, 41, 2, 5)]), (34, [(.ifCond .ne 5, 3, 39, 0, 0)]), (37, [(.iconst (-1), 1, 0, 0, (-1)), (.ireturn, 1, 0, 0, 0)]), (39, [(.aload_n 0, 1, 0, 0, 0), (.aload_n 0, 1, 0, 0, 0), (.getfield 12, 3, 5, 0, 1), (.getfield 29, 3, 4, 0, 0), (.iconst 1, 1, 0, 0, 1), (.isub, 1, 0, 0, 0), (.invokevirtual 64, 3, 42, 2, 5)]), (52, [(.istore_n 3, 1, 3, 0, 0), (.iload_n 3, 1, 3, 0, 0), (.iconst (-1), 1, 0, 0, (-1)), (.if_icmp .ne 5, 3, 60, 0, 0)]), (58, [(.iconst (-1), 1, 0, 0, (-1)), (.ireturn, 1, 0, 0, 0)]), (60, [(.aload_n 0, 1, 0, 0, 0), (.iload_n 1, 1, 1, 0, 0), (.iload_n 2, 1, 2, 0, 0), (.iload_n 3, 1, 3, 0, 0), (.invokevirtual 81, 3, 39, 4, 5)]), (67, [(.ifCond .eq 14, 3, 81, 0, 0)]), (70, [(.aload_n 0, 1, 0, 0, 0), (.iconst 4, 1, 0, 0, 4), (.aload_n 0, 1, 0, 0, 0), (.getfield 85, 3, 5, 6, 0), (.invokevirtual 57, 3, 45, 3, 5)]), (79, [(.iconst (-1), 1, 0, 0, (-1)), (.ireturn, 1, 0, 0, 0)]), (81, [(.aload_n 0, 1, 0, 0, 0), (.getfield 12, 3, 5, 0, 1), (.getfield 88, 3, 4, 5, 1), (.iload_n 1, 1, 1, 0, 0), (.bipush 6, 2, 0, 0, 6), (.imul, 1, 0, 0, 0), (.iload_n 2, 1, 2, 0, 0), (.iadd, 1, 0, 0, 0), (.iload_n 3, 1, 3, 0, 0), (.iastore, 1, 0, 0, 0), (.iinc 2 1, 3, 2, 0, 1), (.goto (-97), 3, 2, 0, 0)]), (102, [(.bipush 6, 2, 0, 0, 6), (.ireturn, 1, 0, 0, 0)])]
def pg_b39 : List (Nat × List am_E) := [(0, [(.iconst 0, 1, 0, 0, 0), (.istore 4, 2, 4, 0, 0)]), (3, [(.iload 4, 2, 4, 0, 0), (.iload_n 2, 1, 2, 0, 0), (.if_icmp .ge 30, 3, 36, 0, 0)]), (9, [(.aload_n 0, 1, 0, 0, 0), (.getfield 12, 3, 5, 0, 1), (.getfield 88, 3, 4, 5, 1), (.iload_n 1, 1, 1, 0, 0), (.bipush 6, 2, 0, 0, 6), (.imul, 1, 0, 0, 0), (.iload 4, 2, 4, 0, 0), (.iadd, 1, 0, 0, 0), (.iaload, 1, 0, 0, 0), (.iload_n 3, 1, 3, 0, 0), (.if_icmp .ne 5, 3, 30, 0, 0)]), (28, [(.iconst 1, 1, 0, 0, 1), (.ireturn, 1, 1, 0, 0)]), (30, [(.iinc 4 1, 3, 4, 0, 1), (.goto (-30), 3, 3, 0, 0)]), (36, [(.iconst 0, 1, 0, 0, 0), (.ireturn, 1, 1, 0, 0)])]
def pg_b40 : List (Nat × List am_E) := [(0, [(.aload_n 0, 1, 0, 0, 0), (.getfield 38, 3, 5, 5, 0), (.aload_n 0, 1, 0, 0, 0), (.getfield 26, 3, 5, 2, 0), (.if_icmp .ge 20, 3, 28, 0, 0)]), (11, [(.aload_n 0, 1, 0, 0, 0), (.getfield 18, 3, 5, 1, 1), (.aload_n 0, 1, 0, 0, 0), (.getfield 38, 3, 5, 5, 0), (.iaload, 1, 0, 0, 0), (.iload_n 1, 1, 1, 0, 0), (.if_icmp .ne 7, 3, 28, 0, 0)]), (24, [(.iconst 1, 1, 0, 0, 1), (.goto 4, 3, 29, 0, 0)]), (28, [(.iconst 0, 1, 0, 0, 0)]), (29, [(.ireturn, 1, 1, 0, 0)])]
def pg_b41 : List (Nat × List am_E) := [(0, [(.aload_n 0, 1, 0, 0, 0), (.iload_n 1, 1, 1, 0, 0), (.invokevirtual 47, 3, 40, 2, 5)]), (5, [(.ifCond .ne 14, 3, 19, 0, 0)]), (8, [(.aload_n 0, 1, 0, 0, 0), (.iconst 1, 1, 0, 0, 1), (.aload_n 0, 1, 0, 0, 0), (.getfield 38, 3, 5, 5, 0), (.invokevirtual 57, 3, 45, 3, 5)]), (17, [(.iconst 0, 1, 0, 0, 0), (.ireturn, 1, 1, 0, 0)]), (19, [(.aload_n 0, 1, 0, 0, 0), (.dup, 1, 0, 0, 0), (.getfield 38, 3, 5, 5, 0), (.iconst 1, 1, 0, 0, 1), (.iadd, 1, 0, 0, 0), (.putfield 38, 3, 5, 5, 0), (.aload_n 0, 1, 0, 0, 0), (.invokevirtual 41, 3, 44, 1, 5)]), (33, [(.iconst 1, 1, 0, 0, 1), (.ireturn, 1, 1, 0, 0)])]
def pg_b42 : List (Nat × List am_E) := [(0, [(.aload_n 0, 1, 0, 0, 0), (.aload_n 0, 1, 0, 0, 0), (.getfield 38, 3, 5, 5, 0), (.putfield 85, 3, 5, 6, 0), (.iconst 0, 1, 0, 0, 0), (.istore_n 2, 1, 2, 0, 0)]), (10, [(.aload_n 0, 1, 0, 0, 0), (.getfield 38, 3, 5, 5, 0), (.aload_n 0, 1, 0, 0, 0), (.getfield 26, 3, 5, 2, 0), (.if_icmp .ge 63, 3, 81, 0, 0)]), (21, [(.aload_n 0, 1, 0, 0, 0), (.aload_n 0, 1, 0, 0, 0), (.getfield 18, 3, 5, 1, 1), (.aload_n 0, 1, 0, 0, 0), (.getfield 38, 3, 5, 5, 0), (.iaload, 1, 0, 0, 0), (.invokevirtual 91, 3, 43, 2, 5)]), (34, [(.ifCond .eq 47, 3, 81, 0, 0)]), (37, [(.aload_n 0, 1, 0, 0, 0), (.getfield 38, 3, 5, 5, 0), (.aload_n 0, 1, 0, 0, 0), (.getfield 85, 3, 5, 6, 0), (.isub, 1, 0, 0, 0), (.iconst 3, 1, 0, 0, 3), (.if_icmp .ge 21, 3, 68, 0, 0)]), (50, [(.iload_n 2, 1, 2, 0, 0), (.bipush 10, 2, 0, 0, 10), (.imul, 1, 0, 0, 0), (.aload_n 0, 1, 0, 0, 0), (.getfield 18, 3, 5, 1, 1), (.aload_n 0, 1, 0, 0, 0), (.getfield 38, 3, 5, 5, 0), (.iaload, 1, 0, 0, 0), (.iadd, 1, 0, 0, 0), (.bipush 48, 2, 0, 0, 48), (.isub, 1, 0, 0, 0), (.istore_n 2, 1, 2, 0, 0)]), (68, [(.aload_n 0, 1, 0, 0, 0), (.dup, 1, 0, 0, 0), (.getfield 38, 3, 5, 5, 0), (.iconst 1, 1, 0, 0, 1), (.iadd, 1, 0, 0, 0), (.putfield 38, 3, 5, 5, 0), (.goto (-68), 3, 10, 0, 0)]), (81, [(.aload_n 0, 1, 0, 0, 0), (.getfield 38, 3, 5, 5, 0), (.aload_n 0, 1, 0, 0, 0), (.getfield 85, 3, 5, 6, 0), (.isub, 1, 0, 0, 0), (.istore_n 3, 1, 3, 0, 0), (.aload_n 0, 1, 0, 0, 0), (.invokevirtual 41, 3, 44, 1, 5)]), (95, [(.iload_n 3, 1, 3, 0, 0), (.ifCond .ne 14, 3, 110, 0, 0)]), (99, [(.aload_n 0, 1, 0, 0, 0), (.iconst 1, 1, 0, 0, 1), (.aload_n 0, 1, 0, 0, 0), (.getfield 85, 3, 5, 6, 0), (.invokevirtual 57, 3, 45, 3, 5)]), (108, [(.iconst (-1), 1, 0, 0, (-1)), (.ireturn, 1, 0, 0, 0)]), (110, [(.iload_n 3, 1, 3, 0, 0), (.iconst 3, 1, 0, 0, 3), (.if_icmp .gt 8, 3, 120, 0, 0)]), (115, [(.iload_n 2, 1, 2, 0, 0), (.iload_n 1, 1, 1, 0, 0), (.if_icmp .le 14, 3, 131, 0, 0)]), (120, [(.aload_n 0, 1, 0, 0, 0), (.iconst 2, 1, 0, 0, 2), (.aload_n 0, 1, 0, 0, 0), (.getfield 85, 3, 5, 6, 0), (.invokevirtual 57, 3, 45, 3, 5)]), (129, [(.iconst (-1), 1, 0, 0, (-1)), (.ireturn, 1, 0, 0, 0)]), (131, [(.iload_n 2, 1, 2, 0, 0), (.ireturn, 1, 0, 0, 0)])]
def pg_b43 : List (Nat × List am_E) := [(0, [(.iload_n 1, 1, 1, 0, 0), (.bipush 48, 2, 0, 0, 48), (.if_icmp .lt 13, 3, 16, 0, 0)]), (6, [(.iload_n 1, 1, 1, 0, 0), (.bipush 57, 2, 0, 0, 57), (.if_icmp .gt 7, 3, 16, 0, 0)]), (12, [(.iconst 1, 1, 0, 0, 1), (.goto 4, 3, 17, 0, 0)]), (16, [(.iconst 0, 1, 0, 0, 0)]), (17, [(.ireturn, 1, 1, 0, 0)])]
def pg_b44 : List (Nat × List am_E) := [(0, [(.aload_n 0, 1, 0, 0, 0), (.getfield 38, 3, 5, 5, 0), (.aload_n 0, 1, 0, 0, 0), (.getfield 26, 3, 5, 2, 0), (.if_icmp .ge 30, 3, 38, 0, 0)]), (11, [(.aload_n 0, 1, 0, 0, 0), (.getfield 18, 3, 5, 1, 1), (.aload_n 0, 1, 0, 0, 0), (.getfield 38, 3, 5, 5, 0), (.iaload, 1, 0, 0, 0), (.bipush 32, 2, 0, 0, 32), (.if_icmp .ne 16, 3, 38, 0, 0)]), (25, [(.aload_n 0, 1, 0, 0, 0), (.dup, 1, 0, 0, 0), (.getfield 38, 3, 5, 5, 0), (.iconst 1, 1, 0, 0, 1), (.iadd, 1, 0, 0, 0), (.putfield 38, 3, 5, 5, 0), (.goto (-35), 3, 0, 0, 0)]), (38, [(.return_, 1, 0, 0, 0)])]
def pg_b45 : List (Nat × List am_E) := [(0, [(.aload_n 0, 1, 0, 0, 0), (.iload_n 1, 1, 1, 0, 0), (.putfield 35, 3, 5, 4, 0), (.aload_n 0, 1, 0, 0, 0), (.iload_n 2, 1, 2, 0, 0), (.putfield 22, 3, 5, 3, 0), (.return_, 1, 0, 0, 0)])]
def pg_b46 : List (Nat × List am_E) := [(0, [(.aload_n 0, 1, 0, 0, 0), (.invokespecial 3, 3, 0, 1, 1), (.aload_n 0, 1, 0, 0, 0), (.bipush 6, 2, 0, 0, 6), (.newarray .int, 2, 0, 0, 0)]), (9, [(.putfield 9, 3, 6, 1, 1)]), (12, [(.aload_n 0, 1, 0, 0, 0), (.bipush 6, 2, 0, 0, 6), (.newarray .int, 2, 0, 0, 0)]), (17, [(.putfield 15, 3, 6, 2, 1)]), (20, [(.aload_n 0, 1, 0, 0, 0), (.bipush 6, 2, 0, 0, 6), (.newarray .int, 2, 0, 0, 0)]), (25, [(.putfield 18, 3, 6, 3, 1)]), (28, [(.aload_n 0, 1, 0, 0, 0), (.aload_n 1, 1, 1, 0, 0), (.putfield 21, 3, 6, 0, 1)]), (33, [(.return_, 1, 0, 0, 0)])]
def pg_b47 : List (Nat × List am_E) := [(0, [(.aload_n 0, 1, 0, 0, 0), (.iconst 0, 1, 0, 0, 0), (.putfield 25, 3, 6, 4, 0), (.return_, 1, 0, 0, 0)])]
def pg_b48 : List (Nat × List am_E) := [(0, [(.aload_n 0, 1, 0, 0, 0), (.getfield 25, 3, 6, 4, 0), (.bipush 6, 2, 0, 0, 6), (.if_icmp .ge 33, 3, 39, 0, 0)]), (9, [(.aload_n 0, 1, 0, 0, 0), (.getfield 9, 3, 6, 1, 1), (.aload_n 0, 1, 0, 0, 0), (.getfield 25, 3, 6, 4, 0), (.iload_n 1, 1, 1, 0, 0), (.iastore, 1, 0, 0, 0), (.aload_n 0, 1, 0, 0, 0), (.getfield 15, 3, 6, 2, 1), (.aload_n 0, 1, 0, 0, 0), (.getfield 25, 3, 6, 4, 0), (.iload_n 2, 1, 2, 0, 0), (.iastore, 1, 0, 0, 0), (.aload_n 0, 1, 0, 0, 0), (.dup, 1, 0, 0, 0), (.getfield 25, 3, 6, 4, 0), (.iconst 1, 1, 0, 0, 1), (.iadd, 1, 0, 0, 0), (.putfield 25, 3, 6, 4, 0)]), (39, [(.return_, 1, 0, 0, 0)])]
def pg_b49 : List (Nat × List am_E) := [(0, [(.aload_n 0, 1, 0, 0, 0), (.getfield 21, 3, 6, 0, 1), (.getfield 29, 3, 4, 4, 1), (.iload_n 2, 1, 2, 0, 0), (.iaload, 1, 0, 0, 0), (.iconst 1, 1, 0, 0, 1), (.isub, 1, 0, 0, 0), (.istore_n 3, 1, 3, 0, 0), (.aload_n 0, 1, 0, 0, 0), (.getfield 21, 3, 6, 0, 1), (.getfield 34, 3, 4, 3, 1), (.iload_n 2, 1, 2, 0, 0), (.iaload, 1, 0, 0, 0), (.istore 4, 2, 4, 0, 0), (.iload 4, 2, 4, 0, 0), (.ifCond .ne 7, 3, 32, 0, 0)]), (28, [(.iload_n 3, 1, 3, 0, 0), (.goto 11, 3, 40, 0, 0)]), (32, [(.iload_n 3, 1, 3, 0, 0), (.iload_n 1, 1, 1, 0, 0), (.iload 4, 2, 4, 0, 0), (.idiv, 1, 0, 0, 0), (.invokestatic 37, 3, 0, 2, 4)]), (40, [(.ireturn, 1, 0, 0, 0)])]
def pg_b50 : List (Nat × List am_E) := [(0, [(.iconst 0, 1, 0, 0, 0), (.istore_n 2, 1, 2, 0, 0)]), (2, [(.iload_n 2, 1, 2, 0, 0), (.aload_n 0, 1, 0, 0, 0), (.getfield 25, 3, 6, 4, 0), (.if_icmp .ge 31, 3, 38, 0, 0)]), (10, [(.aload_n 0, 1, 0, 0, 0), (.iload_n 1, 1, 1, 0, 0), (.aload_n 0, 1, 0, 0, 0), (.getfield 9, 3, 6, 1, 1), (.iload_n 2, 1, 2, 0, 0), (.iaload, 1, 0, 0, 0), (.invokevirtual 43, 3, 49, 3, 6)]), (21, [(.aload_n 0, 1, 0, 0, 0), (.getfield 15, 3, 6, 2, 1), (.iload_n 2, 1, 2, 0, 0), (.iaload, 1, 0, 0, 0), (.if_icmp .eq 5, 3, 32, 0, 0)]), (30, [(.iconst 0, 1, 0, 0, 0), (.ireturn, 1, 1, 0, 0)]), (32, [(.iinc 2 1, 3, 2, 0, 1), (.goto (-33), 3, 2, 0, 0)]), (38, [(.iconst 1, 1, 0, 0, 1), (.ireturn, 1, 1, 0, 0)])]
def pg_b51 : List (Nat × List am_E) := [(0, [(.iconst 0, 1, 0, 0, 0), (.istore_n 1, 1, 1, 0, 0), (.iconst 0, 1, 0, 0, 0), (.istore_n 2, 1, 2, 0, 0)]), (4, [(.iload_n 2, 1, 2, 0, 0), (.bipush 9, 2, 0, 0, 9), (.if_icmp .gt 23, 3, 30, 0, 0)]), (10, [(.aload_n 0, 1, 0, 0, 0), (.iload_n 2, 1, 2, 0, 0), (.invokevirtual 46, 3, 50, 2, 6)]), (15, [(.ifCond .eq 9, 3, 24, 0, 0)]), (18, [(.iload_n 1, 1, 1, 0, 0), (.iconst 1, 1, 0, 0, 1), (.iload_n 2, 1, 2, 0, 0), (.ishl, 1, 0, 0, 0), (.ior, 1, 0, 0, 0), (.istore_n 1, 1, 1, 0, 0)]), (24, [(.iinc 2 1, 3, 2, 0, 1), (.goto (-23), 3, 4, 0, 0)]), (30, [(.iload_n 1, 1, 1, 0, 0), (.ireturn, 1, 0, 0, 0)])]
def pg_b52 : List (Nat × List am_E) := [(0, [(.aload_n 0, 1, 0, 0, 0), (.invokevirtual 50, 3, 51, 1, 6)]), (4, [(.istore_n 1, 1, 1, 0, 0), (.iconst (-1), 1, 0, 0, (-1)), (.istore_n 2, 1, 2, 0, 0), (.iload_n 1, 1, 1, 0, 0), (.invokestatic 54, 3, 178, 1, 0)]), (11, [(.istore_n 3, 1, 3, 0, 0), (.iconst 0, 1, 0, 0, 0), (.istore 4, 2, 4, 0, 0)]), (15, [(.iload 4, 2, 4, 0, 0), (.aload_n 0, 1, 0, 0, 0), (.getfield 21, 3, 6, 0, 1), (.getfield 60, 3, 4, 1, 0), (.if_icmp .ge 30, 3, 54, 0, 0)]), (27, [(.aload_n 0, 1, 0, 0, 0), (.iload_n 1, 1, 1, 0, 0), (.iload 4, 2, 4, 0, 0), (.invokevirtual 62, 3, 53, 3, 6)]), (34, [(.istore 5, 2, 5, 0, 0), (.iload 5, 2, 5, 0, 0), (.iload_n 3, 1, 3, 0, 0), (.if_icmp .ge 9, 3, 48, 0, 0)]), (42, [(.iload 5, 2, 5, 0, 0), (.istore_n 3, 1, 3, 0, 0), (.iload 4, 2, 4, 0, 0), (.istore_n 2, 1, 2, 0, 0)]), (48, [(.iinc 4 1, 3, 4, 0, 1), (.goto (-36), 3, 15, 0, 0)]), (54, [(.iload_n 2, 1, 2, 0, 0), (.ireturn, 1, 0, 0, 0)])]
def pg_b53 : List (Nat × List am_E) := [(0, [(.iconst 0, 1, 0, 0, 0), (.istore_n 3, 1, 3, 0, 0)]), (2, [(.iload_n 3, 1, 3, 0, 0), (.bipush 6, 2, 0, 0, 6), (.if_icmp .ge 16, 3, 21, 0, 0)]), (8, [(.aload_n 0, 1, 0, 0, 0), (.getfield 18, 3, 6, 3, 1), (.iload_n 3, 1, 3, 0, 0), (.iconst 0, 1, 0, 0, 0), (.iastore, 1, 0, 0, 0), (.iinc 3 1, 3, 3, 0, 1), (.goto (-16), 3, 2, 0, 0)]), (21, [(.iconst 0, 1, 0, 0, 0), (.istore_n 3, 1, 3, 0, 0), (.iconst 0, 1, 0, 0, 0), (.istore 4, 2, 4, 0, 0)]), (26, [(.iload 4, 2, 4, 0, 0), (.bipush 9, 2, 0, 0, 9), (.if_icmp .gt 50, 3, 80, 0, 0)]), (33, [(.iload_n 1, 1, 1, 0, 0), (.iload 4, 2, 4, 0, 0), (.ishr, 1, 0, 0, 0), (.iconst 1, 1, 0, 0, 1), (.iand, 1, 0, 0, 0), (.ifCond .eq 35, 3, 74, 0, 0)]), (42, [(.aload_n 0, 1, 0, 0, 0), (.iload 4, 2, 4, 0, 0), (.iload_n 2, 1, 2, 0, 0), (.invokevirtual 43, 3, 49, 3, 6)]), (49, [(.istore 5, 2, 5, 0, 0), (.aload_n 0, 1, 0, 0, 0), (.getfield 18, 3, 6, 3, 1), (.iload 5, 2, 5, 0, 0), (.dup2, 1, 0, 0, 0), (.iaload, 1, 0, 0, 0), (.iconst 1, 1, 0, 0, 1), (.iadd, 1, 0, 0, 0), (.iastore, 1, 0, 0, 0), (.iload_n 3, 1, 3, 0, 0), (.aload_n 0, 1, 0, 0, 0), (.getfield 18, 3, 6, 3, 1), (.iload 5, 2, 5, 0, 0), (.iaload, 1, 0, 0, 0), (.invokestatic 65, 3, 0, 2, 3), (.istore_n 3, 1, 3, 0, 0)]), (74, [(.iinc 4 1, 3, 4, 0, 1), (.goto (-51), 3, 26, 0, 0)]), (80, [(.iload_n 3, 1, 3, 0, 0), (.ireturn, 1, 0, 0, 0)])]
def pg_b54 : List (Nat × List am_E) := [(0, [(.aload_n 0, 1, 0, 0, 0), (.invokespecial 3, 3, 0, 1, 1), (.aload_n 0, 1, 0, 0, 0), (.bipush 8, 2, 0, 0, 8), (.newarray .int, 2, 0, 0, 0)]), (9, [(.putfield 9, 3, 7, 0, 1)]), (12, [(.return_, 1, 0, 0, 0)])]
def pg_b55 : List (Nat × List am_E) := [(0, [(.iconst 0, 1, 0, 0, 0), (.istore 4, 2, 4, 0, 0)]), (3, [(.iload 4, 2, 4, 0, 0), (.bipush 8, 2, 0, 0, 8), (.if_icmp .ge 17, 3, 24, 0, 0)]), (10, [(.aload_n 0, 1, 0, 0, 0), (.getfield 9, 3, 7, 0, 1), (.iload 4, 2, 4, 0, 0), (.iconst 0, 1, 0, 0, 0), (.iastore, 1, 0, 0, 0), (.iinc 4 1, 3, 4, 0, 1), (.goto (-18), 3, 3, 0, 0)]), (24, [(.iconst 0, 1, 0, 0, 0), (.istore 4, 2, 4, 0, 0)]), (27, [(.iload 4, 2, 4, 0, 0), (.aload_n 1, 1, 1, 0, 0), (.getfield 15, 3, 3, 0, 1), (.getfield 21, 3, 4, 1, 0), (.if_icmp .ge 23, 3, 59, 0, 0)]), (39, [(.iload 4, 2, 4, 0, 0), (.iload_n 3, 1, 3, 0, 0), (.if_icmp .eq 11, 3, 53, 0, 0)]), (45, [(.aload_n 0, 1, 0, 0, 0), (.aload_n 1, 1, 1, 0, 0), (.iload_n 2, 1, 2, 0, 0), (.iload 4, 2, 4, 0, 0), (.invokevirtual 27, 3, 56, 4, 7)]), (53, [(.iinc 4 1, 3, 4, 0, 1), (.goto (-29), 3, 27, 0, 0)]), (59, [(.return_, 1, 0, 0, 0)])]
def pg_b56 : List (Nat × List am_E) := [(0, [(.iconst 0, 1, 0, 0, 0), (.istore 4, 2, 4, 0, 0), (.aload_n 1, 1, 1, 0, 0), (.getfield 15, 3, 3, 0, 1), (.getfield 31, 3, 4, 4, 1), (.iload_n 3, 1, 3, 0, 0), (.iaload, 1, 0, 0, 0), (.iconst 1, 1, 0, 0, 1), (.isub, 1, 0, 0, 0), (.istore 5, 2, 5, 0, 0)]), (16, [(.iload 5, 2, 5, 0, 0), (.ifCond .le 57, 3, 75, 0, 0)]), (21, [(.aload_n 1, 1, 1, 0, 0), (.iload_n 2, 1, 2, 0, 0), (.iload_n 3, 1, 3, 0, 0), (.iload 5, 2, 5, 0, 0), (.invokevirtual 34, 3, 20, 4, 3)]), (29, [(.ifCond .eq 18, 3, 47, 0, 0)]), (32, [(.iload 4, 2, 4, 0, 0), (.iconst 1, 1, 0, 0, 1), (.aload_n 1, 1, 1, 0, 0), (.iload_n 3, 1, 3, 0, 0), (.iload 5, 2, 5, 0, 0), (.invokevirtual 38, 3, 15, 3, 3)]), (42, [(.ishl, 1, 0, 0, 0), (.ior, 1, 0, 0, 0), (.goto 4, 3, 48, 0, 0)]), (47, [(.iconst 0, 1, 0, 0, 0)]), (48, [(.istore 4, 2, 4, 0, 0), (.aload_n 0, 1, 0, 0, 0), (.getfield 9, 3, 7, 0, 1), (.aload_n 1, 1, 1, 0, 0), (.iload_n 3, 1, 3, 0, 0), (.iload 5, 2, 5, 0, 0), (.iconst 1, 1, 0, 0, 1), (.isub, 1, 0, 0, 0), (.invokevirtual 38, 3, 15, 3, 3)]), (63, [(.dup2, 1, 0, 0, 0), (.iaload, 1, 0, 0, 0), (.iload 4, 2, 4, 0, 0), (.ior, 1, 0, 0, 0), (.iastore, 1, 0, 0, 0), (.iinc 5 (-1), 3, 5, 0, (-1)), (.goto (-56), 3, 16, 0, 0)]), (75, [(.return_, 1, 0, 0, 0)])]
def pg_b57 : List (Nat × List am_E) := [(0, [(.iload_n 1, 1, 1, 0, 0), (.istore_n 2, 1, 2, 0, 0), (.iconst 0, 1, 0, 0, 0), (.istore_n 3, 1, 3, 0, 0)]), (4, [(.iload_n 3, 1, 3, 0, 0), (.bipush 8, 2, 0, 0, 8), (.if_icmp .ge 26, 3, 33, 0, 0)]), (10, [(.iload_n 1, 1, 1, 0, 0), (.iload_n 3, 1, 3, 0, 0), (.ishr, 1, 0, 0, 0), (.iconst 1, 1, 0, 0, 1), (.iand, 1, 0, 0, 0), (.ifCond .eq 12, 3, 27, 0, 0)]), (18, [(.iload_n 2, 1, 2, 0, 0), (.aload_n 0, 1, 0, 0, 0), (.getfield 9, 3, 7, 0, 1), (.iload_n 3, 1, 3, 0, 0), (.iaload, 1, 0, 0, 0), (.ior, 1, 0, 0, 0), (.istore_n 2, 1, 2, 0, 0)]), (27, [(.iinc 3 1, 3, 3, 0, 1), (.goto (-26), 3, 4, 0, 0)]), (33, [(.iload_n 2, 1, 2, 0, 0), (.ireturn, 1, 0, 0, 0)])]
def pg_b58 : List (Nat × List am_E) := [(0, [(.iload_n 1, 1, 1, 0, 0), (.istore_n 2, 1, 2, 0, 0), (.iconst 1, 1, 0, 0, 1), (.istore_n 3, 1, 3, 0, 0)]), (4, [(.iload_n 3, 1, 3, 0, 0), (.bipush 8, 2, 0, 0, 8), (.if_icmp .ge 15, 3, 22, 0, 0)]), (10, [(.aload_n 0, 1, 0, 0, 0), (.iload_n 2, 1, 2, 0, 0), (.invokevirtual 42, 3, 57, 2, 7)]), (15, [(.istore_n 2, 1, 2, 0, 0), (.iinc 3 1, 3, 3, 0, 1), (.goto (-15), 3, 4, 0, 0)]), (22, [(.iload_n 2, 1, 2, 0, 0), (.ireturn, 1, 0, 0, 0)])]
def pg_b59 : List (Nat × List am_E) := [(0, [(.iload_n 1, 1, 1, 0, 0), (.istore_n 3, 1, 3, 0, 0), (.iconst 0, 1, 0, 0, 0), (.istore 4, 2, 4, 0, 0)]), (5, [(.iload 4, 2, 4, 0, 0), (.bipush 8, 2, 0, 0, 8), (.if_icmp .ge 26, 3, 35, 0, 0)]), (12, [(.iload_n 3, 1, 3, 0, 0), (.iload_n 2, 1, 2, 0, 0), (.ishr, 1, 0, 0, 0), (.iconst 1, 1, 0, 0, 1), (.iand, 1, 0, 0, 0), (.ifCond .eq 6, 3, 23, 0, 0)]), (20, [(.iload 4, 2, 4, 0, 0), (.ireturn, 1, 0, 0, 0)]), (23, [(.aload_n 0, 1, 0, 0, 0), (.iload_n 3, 1, 3, 0, 0), (.invokevirtual 42, 3, 57, 2, 7)]), (28, [(.istore_n 3, 1, 3, 0, 0), (.iinc 4 1, 3, 4, 0, 1), (.goto (-27), 3, 5, 0, 0)]), (35, [(.iconst (-1), 1, 0, 0, (-1)), (.ireturn, 1, 0, 0, 0)])]
def pg_b60 : List (Nat × List am_E) := [(0, [(.iload 4, 2, 4, 0, 0), (.iconst 1, 1, 0, 0, 1), (.if_icmp .ge 5, 3, 8, 0, 0)]), (6, [(.iconst (-1), 1, 0, 0, (-1)), (.ireturn, 1, 0, 0, 0)]), (8, [(.iconst 0, 1, 0, 0, 0), (.istore 5, 2, 5, 0, 0)]), (11, [(.iload 5, 2, 5, 0, 0), (.aload_n 1, 1, 1, 0, 0), (.getfield 15, 3, 3, 0, 1), (.getfield 21, 3, 4, 1, 0), (.if_icmp .ge 32, 3, 52, 0, 0)]), (23, [(.aload_n 0, 1, 0, 0, 0), (.aload_n 0, 1, 0, 0, 0), (.aload_n 1, 1, 1, 0, 0), (.iload_n 2, 1, 2, 0, 0), (.iload 5, 2, 5, 0, 0), (.invokevirtual 46, 3, 61, 4, 7)]), (32, [(.iload_n 3, 1, 3, 0, 0), (.invokevirtual 50, 3, 59, 3, 7)]), (36, [(.iload 4, 2, 4, 0, 0), (.iconst 1, 1, 0, 0, 1), (.isub, 1, 0, 0, 0), (.if_icmp .ne 6, 3, 46, 0, 0)]), (43, [(.iload 5, 2, 5, 0, 0), (.ireturn, 1, 0, 0, 0)]), (46, [(.iinc 5 1, 3, 5, 0, 1), (.goto (-38), 3, 11, 0, 0)]), (52, [(.iconst (-1), 1, 0, 0, (-1)), (.ireturn, 1, 0, 0, 0)])]
def pg_b61 : List (Nat × List am_E) := [(0, [(.aload_n 1, 1, 1, 0, 0), (.iload_n 3, 1, 3, 0, 0), (.aload_n 1, 1, 1, 0, 0), (.getfield 53, 3, 3, 2, 1), (.iload_n 2, 1, 2, 0, 0), (.iaload, 1, 0, 0, 0), (.invokevirtual 56, 3, 17, 3, 3)]), (11, [(.istore 4, 2, 4, 0, 0), (.iconst 0, 1, 0, 0, 0), (.istore 5, 2, 5, 0, 0), (.iload 4, 2, 4, 0, 0), (.iconst (-1), 1, 0, 0, (-1)), (.if_icmp .eq 54, 3, 73, 0, 0)]), (22, [(.iload 4, 2, 4, 0, 0), (.iconst 1, 1, 0, 0, 1), (.iadd, 1, 0, 0, 0), (.istore 6, 2, 6, 0, 0)]), (28, [(.iload 6, 2, 6, 0, 0), (.aload_n 1, 1, 1, 0, 0), (.getfield 15, 3, 3, 0, 1), (.getfield 31, 3, 4, 4, 1), (.iload_n 3, 1, 3, 0, 0), (.iaload, 1, 0, 0, 0), (.if_icmp .ge 34, 3, 73, 0, 0)]), (42, [(.aload_n 1, 1, 1, 0, 0), (.iload_n 2, 1, 2, 0, 0), (.iload_n 3, 1, 3, 0, 0), (.iload 6, 2, 6, 0, 0), (.invokevirtual 34, 3, 20, 4, 3)]), (50, [(.ifCond .eq 23, 3, 73, 0, 0)]), (53, [(.iload 5, 2, 5, 0, 0), (.iconst 1, 1, 0, 0, 1), (.aload_n 1, 1, 1, 0, 0), (.iload_n 3, 1, 3, 0, 0), (.iload 6, 2, 6, 0, 0), (.invokevirtual 38, 3, 15, 3, 3)]), (63, [(.ishl, 1, 0, 0, 0), (.ior, 1, 0, 0, 0), (.istore 5, 2, 5, 0, 0), (.iinc 6 1, 3, 6, 0, 1), (.goto (-42), 3, 28, 0, 0)]), (73, [(.iload 5, 2, 5, 0, 0), (.ireturn, 1, 0, 0, 0)])]
def pg_b62 : List (Nat × List am_E) := [(0, [(.iconst 0, 1, 0, 0, 0), (.istore_n 2, 1, 2, 0, 0), (.iconst 0, 1, 0, 0, 0), (.istore_n 3, 1, 3, 0, 0)]), (4, [(.iload_n 3, 1, 3, 0, 0), (.aload_n 1, 1, 1, 0, 0), (.getfield 15, 3, 3, 0, 1), (.getfield 59, 3, 4, 0, 0), (.if_icmp .ge 39, 3, 51, 0, 0)]), (15, [(.aload_n 1, 1, 1, 0, 0), (.iload_n 3, 1, 3, 0, 0), (.invokevirtual 62, 3, 12, 2, 3)]), (20, [(.ifCond .eq 25, 3, 45, 0, 0)]), (23, [(.aload_n 0, 1, 0, 0, 0), (.aload_n 1, 1, 1, 0, 0), (.iload_n 3, 1, 3, 0, 0), (.iconst (-1), 1, 0, 0, (-1)), (.invokevirtual 66, 3, 55, 4, 7)]), (30, [(.iload_n 2, 1, 2, 0, 0), (.aload_n 0, 1, 0, 0, 0), (.iconst 1, 1, 0, 0, 1), (.iload_n 3, 1, 3, 0, 0), (.ishl, 1, 0, 0, 0), (.invokevirtual 69, 3, 58, 2, 7)]), (38, [(.invokestatic 72, 3, 178, 1, 0)]), (41, [(.iconst 1, 1, 0, 0, 1), (.isub, 1, 0, 0, 0), (.iadd, 1, 0, 0, 0), (.istore_n 2, 1, 2, 0, 0)]), (45, [(.iinc 3 1, 3, 3, 0, 1), (.goto (-44), 3, 4, 0, 0)]), (51, [(.iload_n 2, 1, 2, 0, 0), (.ireturn, 1, 0, 0, 0)])]
def pg_b63 : List (Nat × List am_E) := [(0, [(.aload_n 0, 1, 0, 0, 0), (.invokespecial 1, 3, 0, 1, 1), (.aload_n 0, 1, 0, 0, 0), (.new 7, 3, 4, 6, 0)]), (8, [(.dup, 1, 0, 0, 0), (.invokespecial 9, 3, 29, 1, 0)]), (12, [(.putfield 10, 3, 8, 0, 1)]), (15, [(.aload_n 0, 1, 0, 0, 0), (.new 16, 3, 5, 7, 0)]), (19, [(.dup, 1, 0, 0, 0), (.invokespecial 18, 3, 32, 1, 0)]), (23, [(.putfield 19, 3, 8, 1, 1)]), (26, [(.aload_n 0, 1, 0, 0, 0), (.new 23, 3, 3, 7, 0)]), (30, [(.dup, 1, 0, 0, 0), (.aload_n 0, 1, 0, 0, 0), (.getfield 10, 3, 8, 0, 1), (.invokespecial 25, 3, 9, 2, 0)]), (38, [(.putfield 28, 3, 8, 2, 1)]), (41, [(.aload_n 0, 1, 0, 0, 0), (.new 23, 3, 3, 7, 0)]), (45, [(.dup, 1, 0, 0, 0), (.aload_n 0, 1, 0, 0, 0), (.getfield 10, 3, 8, 0, 1), (.invokespecial 25, 3, 9, 2, 0)]), (53, [(.putfield 32, 3, 8, 3, 1)]), (56, [(.aload_n 0, 1, 0, 0, 0), (.new 35, 3, 1, 3, 0)]), (60, [(.dup, 1, 0, 0, 0), (.aload_n 0, 1, 0, 0, 0), (.getfield 10, 3, 8, 0, 1), (.invokespecial 37, 3, 4, 2, 0)]), (68, [(.putfield 38, 3, 8, 4, 1)]), (71, [(.aload_n 0, 1, 0, 0, 0), (.new 42, 3, 7, 1, 0)]), (75, [(.dup, 1, 0, 0, 0), (.invokespecial 44, 3, 54, 1, 0)]), (79, [(.putfield 45, 3, 8, 5, 1)]), (82, [(.aload_n 0, 1, 0, 0, 0), (.new 49, 3, 6, 5, 0)]), (86, [(.dup, 1, 0, 0, 0), (.aload_n 0, 1, 0, 0, 0), (.getfield 10, 3, 8, 0, 1), (.invokespecial 51, 3, 46, 2, 0)]), (94, [(.putfield 52, 3, 8, 6, 1)]), (97, [(.aload_n 0, 1, 0, 0, 0), (.new 56, 3, 0, 3, 0)]), (101, [(.dup, 1, 0, 0, 0), (.invokespecial 58, 3, 0, 1, 0)]), (105, [(.putfield 59, 3, 8, 7, 1)]), (108, [(.aload_n 0, 1, 0, 0, 0), (.iconst 2, 1, 0, 0, 2), (.anewarray 63, 3, 3, 0, 0)]), (113, [(.putfield 65, 3, 8, 8, 1)]), (116, [(.iconst 0, 1, 0, 0, 0), (.istore_n 1, 1, 1, 0, 0)]), (118, [(.iload_n 1, 1, 1, 0, 0), (.iconst 2, 1, 0, 0, 2), (.if_icmp .ge 26, 3, 146, 0, 0)]), (123, [(.aload_n 0, 1, 0, 0, 0), (.getfield 65, 3, 8, 8, 1), (.iload_n 1, 1, 1, 0, 0), (.new 63, 3, 2, 3, 0)]), (131, [(.dup, 1, 0, 0, 0), (.aload_n 0, 1, 0, 0, 0), (.getfield 10, 3, 8, 0, 1), (.invokespecial 69, 3, 8, 2, 0)]), (139, [(.aastore, 1, 0, 0, 0), (.iinc 1 1, 3, 1, 0, 1), (.goto (-25), 3, 118, 0, 0)]), (146, [(.aload_n 0, 1, 0, 0, 0), (.iconst (-1), 1, 0, 0, (-1)), (.putfield 70, 3, 8, 9, 0)]), (151, [(.return_, 1, 0, 0, 0)])]
def pg_b64 : List (Nat × List am_E) := [(0, [(.iload_n 1, 1, 1, 0, 0), (.ifCond .lt 10, 3, 11, 0, 0)]), (4, [(.iload_n 1, 1, 1, 0, 0), (.sipush 255, 3, 0, 0, 255), (.if_icmp .le 6, 3, 14, 0, 0)]), (11, [(.ldc 74, 2, 0, 0, (-1000000002)), (.ireturn, 1, 0, 0, 0)]), (14, [(.aload_n 0, 1, 0, 0, 0), (.getfield 19, 3, 8, 1, 1), (.getfield 75, 3, 5, 2, 0), (.sipush 200, 3, 0, 0, 200), (.if_icmp .lt 6, 3, 30, 0, 0)]), (27, [(.ldc 78, 2, 0, 0, (-1000000004)), (.ireturn, 1, 0, 0, 0)]), (30, [(.aload_n 0, 1, 0, 0, 0), (.getfield 19, 3, 8, 1, 1), (.iload_n 1, 1, 1, 0, 0), (.invokevirtual 79, 3, 33, 2, 5)]), (38, [(.aload_n 0, 1, 0, 0, 0), (.getfield 19, 3, 8, 1, 1), (.getfield 75, 3, 5, 2, 0), (.ireturn, 1, 0, 0, 0)])]
def pg_b65 : List (Nat × List am_E) := [(0, [(.aload_n 0, 1, 0, 0, 0), (.getfield 19, 3, 8, 1, 1), (.invokevirtual 83, 3, 34, 1, 5)]), (7, [(.istore_n 1, 1, 1, 0, 0), (.aload_n 0, 1, 0, 0, 0), (.aload_n 0, 1, 0, 0, 0), (.getfield 19, 3, 8, 1, 1), (.getfield 87, 3, 5, 3, 0), (.putfield 70, 3, 8, 9, 0), (.iload_n 1, 1, 1, 0, 0), (.ifCond .eq 8, 3, 28, 0, 0)]), (23, [(.bipush (-10), 2, 0, 0, (-10)), (.iload_n 1, 1, 1, 0, 0), (.isub, 1, 0, 0, 0), (.ireturn, 1, 0, 0, 0)]), (28, [(.aload_n 0, 1, 0, 0, 0), (.getfield 10, 3, 8, 0, 1), (.aload_n 0, 1, 0, 0, 0), (.getfield 19, 3, 8, 1, 1), (.getfield 88, 3, 5, 0, 1), (.invokevirtual 91, 3, 30, 2, 4)]), (42, [(.aload_n 0, 1, 0, 0, 0), (.getfield 28, 3, 8, 2, 1), (.invokevirtual 94, 3, 10, 1, 3)]), (49, [(.aload_n 0, 1, 0, 0, 0), (.getfield 38, 3, 8, 4, 1), (.invokevirtual 97, 3, 5, 1, 1)]), (56, [(.aload_n 0, 1, 0, 0, 0), (.getfield 52, 3, 8, 6, 1), (.invokevirtual 100, 3, 47, 1, 6)]), (63, [(.aload_n 0, 1, 0, 0, 0), (.getfield 59, 3, 8, 7, 1), (.invokevirtual 101, 3, 1, 1, 0)]), (70, [(.iconst 0, 1, 0, 0, 0), (.istore_n 2, 1, 2, 0, 0)]), (72, [(.iload_n 2, 1, 2, 0, 0), (.iconst 2, 1, 0, 0, 2), (.if_icmp .ge 19, 3, 93, 0, 0)]), (77, [(.aload_n 0, 1, 0, 0, 0), (.getfield 65, 3, 8, 8, 1), (.iload_n 2, 1, 2, 0, 0), (.aaload, 1, 0, 0, 0), (.iconst 0, 1, 0, 0, 0), (.putfield 102, 3, 2, 2, 2), (.iinc 2 1, 3, 2, 0, 1), (.goto (-18), 3, 72, 0, 0)]), (93, [(.aload_n 0, 1, 0, 0, 0), (.getfield 10, 3, 8, 0, 1), (.getfield 106, 3, 4, 0, 0), (.ireturn, 1, 0, 0, 0)])]
def pg_b66 : List (Nat × List am_E) := [(0, [(.aload_n 0, 1, 0, 0, 0), (.getfield 70, 3, 8, 9, 0), (.ireturn, 1, 0, 0, 0)])]
def pg_b67 : List (Nat × List am_E) := [(0, [(.iload_n 1, 1, 1, 0, 0), (.tableswitch 151 0 10 #[59, 67, 75, 83, 91, 99, 107, 119, 127, 135, 143], 59, 0, 0, 0)]), (60, [(.aload_n 0, 1, 0, 0, 0), (.getfield 10, 3, 8, 0, 1), (.getfield 106, 3, 4, 0, 0), (.ireturn, 1, 0, 0, 0)]), (68, [(.aload_n 0, 1, 0, 0, 0), (.getfield 10, 3, 8, 0, 1), (.getfield 109, 3, 4, 1, 0), (.ireturn, 1, 0, 0, 0)]), (76, [(.aload_n 0, 1, 0, 0, 0), (.getfield 19, 3, 8, 1, 1), (.getfield 75, 3, 5, 2, 0), (.ireturn, 1, 0, 0, 0)]), (84, [(.aload_n 0, 1, 0, 0, 0), (.getfield 28, 3, 8, 2, 1), (.getfield 112, 3, 3, 6, 0), (.ireturn, 1, 0, 0, 0)]), (92, [(.aload_n 0, 1, 0, 0, 0), (.getfield 28, 3, 8, 2, 1), (.getfield 115, 3, 3, 5, 0), (.ireturn, 1, 0, 0, 0)]), (100, [(.aload_n 0, 1, 0, 0, 0), (.getfield 28, 3, 8, 2, 1), (.getfield 118, 3, 3, 4, 0), (.ireturn, 1, 0, 0, 0)]), (108, [(.aload_n 0, 1, 0, 0, 0), (.getfield 45, 3, 8, 5, 1), (.aload_n 0, 1, 0, 0, 0), (.getfield 28, 3, 8, 2, 1), (.invokevirtual 121, 3, 62, 2, 7)]), (119, [(.ireturn, 1, 0, 0, 0)]), (120, [(.aload_n 0, 1, 0, 0, 0), (.getfield 28, 3, 8, 2, 1), (.invokevirtual 125, 3, 14, 1, 3)]), (127, [(.ireturn, 1, 0, 0, 0)]), (128, [(.aload_n 0, 1, 0, 0, 0), (.getfield 52, 3, 8, 6, 1), (.getfield 128, 3, 6, 4, 0), (.ireturn, 1, 0, 0, 0)]), (136, [(.aload_n 0, 1, 0, 0, 0), (.getfield 59, 3, 8, 7, 1), (.getfield 131, 3, 0, 2, 0), (.ireturn, 1, 0, 0, 0)]), (144, [(.aload_n 0, 1, 0, 0, 0), (.getfield 38, 3, 8, 4, 1), (.getfield 132, 3, 1, 2, 0), (.ireturn, 1, 0, 0, 0)]), (152, [(.ldc 74, 2, 0, 0, (-1000000002)), (.ireturn, 1, 0, 0, 0)])]
def pg_b68 : List (Nat × List am_E) := [(0, [(.aload_n 0, 1, 0, 0, 0), (.iload_n 1, 1, 1, 0, 0), (.invokevirtual 133, 3, 95, 2, 8)]), (5, [(.ifCond .eq 11, 3, 16, 0, 0)]), (8, [(.aload_n 0, 1, 0, 0, 0), (.iload_n 2, 1, 2, 0, 0), (.invokevirtual 133, 3, 95, 2, 8)]), (13, [(.ifCond .ne 6, 3, 19, 0, 0)]), (16, [(.ldc 137, 2, 0, 0, (-1000000001)), (.ireturn, 1, 0, 0, 0)]), (19, [(.aload_n 0, 1, 0, 0, 0), (.getfield 28, 3, 8, 2, 1), (.iload_n 1, 1, 1, 0, 0), (.iload_n 2, 1, 2, 0, 0), (.invokevirtual 138, 3, 13, 3, 3)]), (28, [(.ireturn, 1, 0, 0, 0)])]
def pg_b69 : List (Nat × List am_E) := [(0, [(.aload_n 0, 1, 0, 0, 0), (.iload_n 1, 1, 1, 0, 0), (.invokevirtual 133, 3, 95, 2, 8)]), (5, [(.ifCond .ne 6, 3, 11, 0, 0)]), (8, [(.ldc 137, 2, 0, 0, (-1000000001)), (.ireturn, 1, 0, 0, 0)]), (11, [(.aload_n 0, 1, 0, 0, 0), (.getfield 28, 3, 8, 2, 1), (.getfield 142, 3, 3, 2, 1), (.iload_n 1, 1, 1, 0, 0), (.iaload, 1, 0, 0, 0), (.ireturn, 1, 0, 0, 0)])]
def pg_b70 : List (Nat × List am_E) := [(0, [(.aload_n 0, 1, 0, 0, 0), (.iload_n 1, 1, 1, 0, 0), (.invokevirtual 146, 3, 96, 2, 8)]), (5, [(.ifCond .ne 6, 3, 11, 0, 0)]), (8, [(.ldc 137, 2, 0, 0, (-1000000001)), (.ireturn, 1, 0, 0, 0)]), (11, [(.iload_n 2, 1, 2, 0, 0), (.bipush (-2), 2, 0, 0, (-2)), (.if_icmp .ne 13, 3, 27, 0, 0)]), (17, [(.aload_n 0, 1, 0, 0, 0), (.getfield 10, 3, 8, 0, 1), (.getfield 149, 3, 4, 3, 1), (.iload_n 1, 1, 1, 0, 0), (.iaload, 1, 0, 0, 0), (.ireturn, 1, 0, 0, 0)]), (27, [(.iload_n 2, 1, 2, 0, 0), (.iconst (-1), 1, 0, 0, (-1)), (.if_icmp .ne 13, 3, 42, 0, 0)]), (32, [(.aload_n 0, 1, 0, 0, 0), (.getfield 10, 3, 8, 0, 1), (.getfield 152, 3, 4, 4, 1), (.iload_n 1, 1, 1, 0, 0), (.iaload, 1, 0, 0, 0), (.ireturn, 1, 0, 0, 0)]), (42, [(.aload_n 0, 1, 0, 0, 0), (.iload_n 1, 1, 1, 0, 0), (.iload_n 2, 1, 2, 0, 0), (.invokevirtual 155, 3, 97, 3, 8)]), (48, [(.ifCond .ne 6, 3, 54, 0, 0)]), (51, [(.ldc 74, 2, 0, 0, (-1000000002)), (.ireturn, 1, 0, 0, 0)]), (54, [(.aload_n 0, 1, 0, 0, 0), (.getfield 28, 3, 8, 2, 1), (.iload_n 1, 1, 1, 0, 0), (.iload_n 2, 1, 2, 0, 0), (.invokevirtual 159, 3, 15, 3, 3)]), (63, [(.ireturn, 1, 0, 0, 0)])]
def pg_b71 : List (Nat × List am_E) := [(0, [(.aload_n 0, 1, 0, 0, 0), (.iload_n 1, 1, 1, 0, 0), (.invokevirtual 133, 3, 95, 2, 8)]), (5, [(.ifCond .eq 11, 3, 16, 0, 0)]), (8, [(.aload_n 0, 1, 0, 0, 0), (.iload_n 2, 1, 2, 0, 0), (.invokevirtual 146, 3, 96, 2, 8)]), (13, [(.ifCond .ne 6, 3, 19, 0, 0)]), (16, [(.ldc 137, 2, 0, 0, (-1000000001)), (.ireturn, 1, 0, 0, 0)]), (19, [(.iload_n 3, 1, 3, 0, 0), (.iconst 1, 1, 0, 0, 1), (.if_icmp .lt 8, 3, 29, 0, 0)]), (24, [(.iload_n 3, 1, 3, 0, 0), (.iconst 5, 1, 0, 0, 5), (.if_icmp .le 6, 3, 32, 0, 0)]), (29, [(.ldc 74, 2, 0, 0, (-1000000002)), (.ireturn, 1, 0, 0, 0)]), (32, [(.aload_n 0, 1, 0, 0, 0), (.getfield 28, 3, 8, 2, 1), (.iload_n 1, 1, 1, 0, 0), (.iload_n 2, 1, 2, 0, 0), (.invokevirtual 162, 3, 18, 3, 3)]), (41, [(.ifCond .ne 6, 3, 47, 0, 0)]), (44, [(.ldc 165, 2, 0, 0, (-1000000003)), (.ireturn, 1, 0, 0, 0)]), (47, [(.aload_n 0, 1, 0, 0, 0), (.getfield 38, 3, 8, 4, 1), (.aload_n 0, 1, 0, 0, 0), (.getfield 28, 3, 8, 2, 1), (.invokevirtual 166, 3, 6, 2, 1)]), (58, [(.aload_n 0, 1, 0, 0, 0), (.getfield 28, 3, 8, 2, 1), (.iload_n 1, 1, 1, 0, 0), (.iload_n 2, 1, 2, 0, 0), (.iload_n 3, 1, 3, 0, 0), (.invokevirtual 170, 3, 22, 4, 3)]), (68, [(.aload_n 0, 1, 0, 0, 0), (.getfield 28, 3, 8, 2, 1), (.getfield 142, 3, 3, 2, 1), (.iload_n 1, 1, 1, 0, 0), (.iaload, 1, 0, 0, 0), (.ireturn, 1, 0, 0, 0)])]
def pg_b72 : List (Nat × List am_E) := [(0, [(.aload_n 0, 1, 0, 0, 0), (.iload_n 1, 1, 1, 0, 0), (.invokevirtual 133, 3, 95, 2, 8)]), (5, [(.ifCond .eq 11, 3, 16, 0, 0)]), (8, [(.aload_n 0, 1, 0, 0, 0), (.iload_n 2, 1, 2, 0, 0), (.invokevirtual 146, 3, 96, 2, 8)]), (13, [(.ifCond .ne 6, 3, 19, 0, 0)]), (16, [(.ldc 137, 2, 0, 0, (-1000000001)), (.ireturn, 1, 0, 0, 0)]), (19, [(.aload_n 0, 1, 0, 0, 0), (.getfield 28, 3, 8, 2, 1), (.iload_n 1, 1, 1, 0, 0), (.iload_n 2, 1, 2, 0, 0), (.invokevirtual 162, 3, 18, 3, 3)]), (28, [(.ifCond .ne 6, 3, 34, 0, 0)]), (31, [(.ldc 165, 2, 0, 0, (-1000000003)), (.ireturn, 1, 0, 0, 0)]), (34, [(.aload_n 0, 1, 0, 0, 0), (.getfield 38, 3, 8, 4, 1), (.aload_n 0, 1, 0, 0, 0), (.getfield 28, 3, 8, 2, 1), (.invokevirtual 166, 3, 6, 2, 1)]), (45, [(.aload_n 0, 1, 0, 0, 0), (.getfield 28, 3, 8, 2, 1), (.iload_n 1, 1, 1, 0, 0), (.iload_n 2, 1, 2, 0, 0), (.invokevirtual 174, 3, 23, 3, 3)]), (54, [(.aload_n 0, 1, 0, 0, 0), (.getfield 28, 3, 8, 2, 1), (.iload_n 1, 1, 1, 0, 0), (.aload_n 0, 1, 0, 0, 0), (.getfield 28, 3, 8, 2, 1), (.getfield 142, 3, 3, 2, 1), (.iload_n 1, 1, 1, 0, 0), (.iaload, 1, 0, 0, 0), (.invokevirtual 138, 3, 13, 3, 3)]), (71, [(.ireturn, 1, 0, 0, 0)])]
def pg_b73 : List (Nat × List am_E) := [(0, [(.aload_n 0, 1, 0, 0, 0), (.iload_n 1, 1, 1, 0, 0), (.invokevirtual 178, 3, 99, 2, 8)]), (5, [(.istore_n 2, 1, 2, 0, 0), (.iload_n 2, 1, 2, 0, 0), (.ifCond .eq 5, 3, 12, 0, 0)]), (10, [(.iload_n 2, 1, 2, 0, 0), (.ireturn, 1, 0, 0, 0)]), (12, [(.iconst 0, 1, 0, 0, 0), (.istore_n 3, 1, 3, 0, 0)]), (14, [(.iload_n 3, 1, 3, 0, 0), (.iload_n 1, 1, 1, 0, 0), (.if_icmp .ge 28, 3, 44, 0, 0)]), (19, [(.aload_n 0, 1, 0, 0, 0), (.getfield 38, 3, 8, 4, 1), (.aload_n 0, 1, 0, 0, 0), (.getfield 28, 3, 8, 2, 1), (.invokevirtual 166, 3, 6, 2, 1)]), (30, [(.aload_n 0, 1, 0, 0, 0), (.getfield 28, 3, 8, 2, 1), (.invokevirtual 182, 3, 25, 1, 3)]), (37, [(.pop, 1, 0, 0, 0), (.iinc 3 1, 3, 3, 0, 1), (.goto (-27), 3, 14, 0, 0)]), (44, [(.aload_n 0, 1, 0, 0, 0), (.getfield 28, 3, 8, 2, 1), (.invokevirtual 125, 3, 14, 1, 3)]), (51, [(.ireturn, 1, 0, 0, 0)])]
def pg_b74 : List (Nat × List am_E) := [(0, [(.aload_n 0, 1, 0, 0, 0), (.iload_n 1, 1, 1, 0, 0), (.invokevirtual 146, 3, 96, 2, 8)]), (5, [(.ifCond .eq 11, 3, 16, 0, 0)]), (8, [(.aload_n 0, 1, 0, 0, 0), (.iload_n 2, 1, 2, 0, 0), (.invokevirtual 133, 3, 95, 2, 8)]), (13, [(.ifCond .ne 6, 3, 19, 0, 0)]), (16, [(.ldc 137, 2, 0, 0, (-1000000001)), (.ireturn, 1, 0, 0, 0)]), (19, [(.aload_n 0, 1, 0, 0, 0), (.getfield 28, 3, 8, 2, 1), (.iload_n 1, 1, 1, 0, 0), (.iload_n 2, 1, 2, 0, 0), (.invokevirtual 186, 3, 16, 3, 3)]), (28, [(.iconst (-1), 1, 0, 0, (-1)), (.if_icmp .eq 6, 3, 35, 0, 0)]), (32, [(.ldc 165, 2, 0, 0, (-1000000003)), (.ireturn, 1, 0, 0, 0)]), (35, [(.aload_n 0, 1, 0, 0, 0), (.getfield 38, 3, 8, 4, 1), (.aload_n 0, 1, 0, 0, 0), (.getfield 28, 3, 8, 2, 1), (.invokevirtual 166, 3, 6, 2, 1)]), (46, [(.aload_n 0, 1, 0, 0, 0), (.getfield 28, 3, 8, 2, 1), (.getfield 189, 3, 3, 3, 1), (.iload_n 1, 1, 1, 0, 0), (.iaload, 1, 0, 0, 0), (.istore_n 3, 1, 3, 0, 0), (.aload_n 0, 1, 0, 0, 0), (.getfield 28, 3, 8, 2, 1), (.getfield 189, 3, 3, 3, 1), (.iload_n 1, 1, 1, 0, 0), (.iload_n 2, 1, 2, 0, 0), (.iastore, 1, 0, 0, 0), (.iload_n 3, 1, 3, 0, 0), (.ireturn, 1, 0, 0, 0)])]
def pg_b75 : List (Nat × List am_E) := [(0, [(.aload_n 0, 1, 0, 0, 0), (.iload_n 1, 1, 1, 0, 0), (.invokevirtual 133, 3, 95, 2, 8)]), (5, [(.ifCond .ne 6, 3, 11, 0, 0)]), (8, [(.ldc 137, 2, 0, 0, (-1000000001)), (.ireturn, 1, 0, 0, 0)]), (11, [(.aload_n 0, 1, 0, 0, 0), (.getfield 28, 3, 8, 2, 1), (.iload_n 1, 1, 1, 0, 0), (.invokevirtual 192, 3, 12, 2, 3)]), (19, [(.ifCond .ne 6, 3, 25, 0, 0)]), (22, [(.ldc 165, 2, 0, 0, (-1000000003)), (.ireturn, 1, 0, 0, 0)]), (25, [(.aload_n 0, 1, 0, 0, 0), (.getfield 38, 3, 8, 4, 1), (.aload_n 0, 1, 0, 0, 0), (.getfield 28, 3, 8, 2, 1), (.invokevirtual 166, 3, 6, 2, 1)]), (36, [(.aload_n 0, 1, 0, 0, 0), (.getfield 28, 3, 8, 2, 1), (.dup, 1, 0, 0, 0), (.getfield 118, 3, 3, 4, 0), (.iconst 1, 1, 0, 0, 1), (.iload_n 1, 1, 1, 0, 0), (.ishl, 1, 0, 0, 0), (.ior, 1, 0, 0, 0), (.putfield 118, 3, 3, 4, 0), (.aload_n 0, 1, 0, 0, 0), (.getfield 28, 3, 8, 2, 1), (.getfield 118, 3, 3, 4, 0), (.invokestatic 195, 3, 178, 1, 0)]), (61, [(.ireturn, 1, 0, 0, 0)])]
def pg_b76 : List (Nat × List am_E) := [(0, [(.aload_n 0, 1, 0, 0, 0), (.iload_n 1, 1, 1, 0, 0), (.invokevirtual 178, 3, 99, 2, 8)]), (5, [(.istore_n 2, 1, 2, 0, 0), (.iload_n 2, 1, 2, 0, 0), (.ifCond .eq 5, 3, 12, 0, 0)]), (10, [(.iload_n 2, 1, 2, 0, 0), (.ireturn, 1, 0, 0, 0)]), (12, [(.iconst 0, 1, 0, 0, 0), (.istore_n 3, 1, 3, 0, 0)]), (14, [(.iload_n 3, 1, 3, 0, 0), (.iload_n 1, 1, 1, 0, 0), (.if_icmp .ge 24, 3, 40, 0, 0)]), (19, [(.aload_n 0, 1, 0, 0, 0), (.getfield 38, 3, 8, 4, 1), (.aload_n 0, 1, 0, 0, 0), (.getfield 28, 3, 8, 2, 1), (.invokevirtual 166, 3, 6, 2, 1)]), (30, [(.aload_n 0, 1, 0, 0, 0), (.invokevirtual 200, 3, 101, 1, 8)]), (34, [(.iinc 3 1, 3, 3, 0, 1), (.goto (-23), 3, 14, 0, 0)]), (40, [(.aload_n 0, 1, 0, 0, 0), (.getfield 28, 3, 8, 2, 1), (.getfield 115, 3, 3, 5, 0), (.ireturn, 1, 0, 0, 0)])]
def pg_b77 : List (Nat × List am_E) := [(0, [(.iload_n 1, 1, 1, 0, 0), (.iconst 1, 1, 0, 0, 1), (.if_icmp .lt 9, 3, 11, 0, 0)]), (5, [(.iload_n 1, 1, 1, 0, 0), (.bipush 30, 2, 0, 0, 30), (.if_icmp .le 6, 3, 14, 0, 0)]), (11, [(.ldc 74, 2, 0, 0, (-1000000002)), (.ireturn, 1, 0, 0, 0)]), (14, [(.iload_n 1, 1, 1, 0, 0), (.aload_n 0, 1, 0, 0, 0), (.getfield 38, 3, 8, 4, 1), (.getfield 132, 3, 1, 2, 0), (.if_icmp .le 6, 3, 28, 0, 0)]), (25, [(.ldc 165, 2, 0, 0, (-1000000003)), (.ireturn, 1, 0, 0, 0)]), (28, [(.aload_n 0, 1, 0, 0, 0), (.getfield 38, 3, 8, 4, 1), (.aload_n 0, 1, 0, 0, 0), (.getfield 28, 3, 8, 2, 1), (.iload_n 1, 1, 1, 0, 0), (.invokevirtual 203, 3, 7, 3, 1)]), (40, [(.aload_n 0, 1, 0, 0, 0), (.getfield 28, 3, 8, 2, 1), (.getfield 112, 3, 3, 6, 0), (.ireturn, 1, 0, 0, 0)])]
def pg_b78 : List (Nat × List am_E) := [(0, [(.aload_n 0, 1, 0, 0, 0), (.iload_n 1, 1, 1, 0, 0), (.invokevirtual 133, 3, 95, 2, 8)]), (5, [(.ifCond .eq 11, 3, 16, 0, 0)]), (8, [(.aload_n 0, 1, 0, 0, 0), (.iload_n 2, 1, 2, 0, 0), (.invokevirtual 133, 3, 95, 2, 8)]), (13, [(.ifCond .ne 6, 3, 19, 0, 0)]), (16, [(.ldc 137, 2, 0, 0, (-1000000001)), (.ireturn, 1, 0, 0, 0)]), (19, [(.iload_n 3, 1, 3, 0, 0), (.ifCond .lt 8, 3, 28, 0, 0)]), (23, [(.iload_n 3, 1, 3, 0, 0), (.iconst 1, 1, 0, 0, 1), (.if_icmp .le 6, 3, 31, 0, 0)]), (28, [(.ldc 74, 2, 0, 0, (-1000000002)), (.ireturn, 1, 0, 0, 0)]), (31, [(.aload_n 0, 1, 0, 0, 0), (.getfield 28, 3, 8, 2, 1), (.iload_n 1, 1, 1, 0, 0), (.invokevirtual 192, 3, 12, 2, 3)]), (39, [(.ifCond .ne 6, 3, 45, 0, 0)]), (42, [(.ldc 165, 2, 0, 0, (-1000000003)), (.ireturn, 1, 0, 0, 0)]), (45, [(.aload_n 0, 1, 0, 0, 0), (.getfield 45, 3, 8, 5, 1), (.aload_n 0, 1, 0, 0, 0), (.getfield 28, 3, 8, 2, 1), (.iload_n 1, 1, 1, 0, 0), (.iconst (-1), 1, 0, 0, (-1)), (.invokevirtual 207, 3, 55, 4, 7)]), (58, [(.aload_n 0, 1, 0, 0, 0), (.getfield 45, 3, 8, 5, 1), (.iconst 1, 1, 0, 0, 1), (.aload_n 0, 1, 0, 0, 0), (.getfield 28, 3, 8, 2, 1), (.getfield 142, 3, 3, 2, 1), (.iload_n 1, 1, 1, 0, 0), (.iaload, 1, 0, 0, 0), (.ishl, 1, 0, 0, 0), (.iload_n 2, 1, 2, 0, 0), (.invokevirtual 211, 3, 59, 3, 7)]), (77, [(.istore 4, 2, 4, 0, 0), (.iload_n 3, 1, 3, 0, 0), (.ifCond .ne 8, 3, 88, 0, 0)]), (83, [(.iload 4, 2, 4, 0, 0), (.goto 18, 3, 103, 0, 0)]), (88, [(.aload_n 0, 1, 0, 0, 0), (.getfield 45, 3, 8, 5, 1), (.aload_n 0, 1, 0, 0, 0), (.getfield 28, 3, 8, 2, 1), (.iload_n 1, 1, 1, 0, 0), (.iload_n 2, 1, 2, 0, 0), (.iload 4, 2, 4, 0, 0), (.invokevirtual 214, 3, 60, 5, 7)]), (103, [(.ireturn, 1, 0, 0, 0)])]
def pg_b79 : List (Nat × List am_E) := [(0, [(.aload_n 0, 1, 0, 0, 0), (.iload_n 1, 1, 1, 0, 0), (.invokevirtual 133, 3, 95, 2, 8)]), (5, [(.ifCond .ne 6, 3, 11, 0, 0)]), (8, [(.ldc 137, 2, 0, 0, (-1000000001)), (.ireturn, 1, 0, 0, 0)]), (11, [(.aload_n 0, 1, 0, 0, 0), (.getfield 28, 3, 8, 2, 1), (.iload_n 1, 1, 1, 0, 0), (.invokevirtual 192, 3, 12, 2, 3)]), (19, [(.ifCond .ne 6, 3, 25, 0, 0)]), (22, [(.ldc 165, 2, 0, 0, (-1000000003)), (.ireturn, 1, 0, 0, 0)]), (25, [(.aload_n 0, 1, 0, 0, 0), (.getfield 45, 3, 8, 5, 1), (.aload_n 0, 1, 0, 0, 0), (.getfield 28, 3, 8, 2, 1), (.iload_n 1, 1, 1, 0, 0), (.iconst (-1), 1, 0, 0, (-1)), (.invokevirtual 207, 3, 55, 4, 7)]), (38, [(.aload_n 0, 1, 0, 0, 0), (.getfield 45, 3, 8, 5, 1), (.iconst 1, 1, 0, 0, 1), (.aload_n 0, 1, 0, 0, 0), (.getfield 28, 3, 8, 2, 1), (.getfield 142, 3, 3, 2, 1), (.iload_n 1, 1, 1, 0, 0), (.iaload, 1, 0, 0, 0), (.ishl, 1, 0, 0, 0), (.invokevirtual 218, 3, 58, 2, 7)]), (56, [(.ireturn, 1, 0, 0, 0)])]
def pg_b80 : List (Nat × List am_E) := [(0, [(.aload_n 0, 1, 0, 0, 0), (.iload_n 1, 1, 1, 0, 0), (.invokevirtual 133, 3, 95, 2, 8)]), (5, [(.ifCond .eq 11, 3, 16, 0, 0)]), (8, [(.aload_n 0, 1, 0, 0, 0), (.iload_n 2, 1, 2, 0, 0), (.invokevirtual 133, 3, 95, 2, 8)]), (13, [(.ifCond .ne 6, 3, 19, 0, 0)]), (16, [(.ldc 137, 2, 0, 0, (-1000000001)), (.ireturn, 1, 0, 0, 0)]), (19, [(.aload_n 0, 1, 0, 0, 0), (.getfield 28, 3, 8, 2, 1), (.iload_n 1, 1, 1, 0, 0), (.invokevirtual 192, 3, 12, 2, 3)]), (27, [(.ifCond .ne 6, 3, 33, 0, 0)]), (30, [(.ldc 165, 2, 0, 0, (-1000000003)), (.ireturn, 1, 0, 0, 0)]), (33, [(.aload_n 0, 1, 0, 0, 0), (.getfield 28, 3, 8, 2, 1), (.getfield 142, 3, 3, 2, 1), (.iload_n 1, 1, 1, 0, 0), (.iaload, 1, 0, 0, 0), (.iload_n 2, 1, 2, 0, 0), (.if_icmp .eq 13, 3, 56, 0, 0)]), (46, [(.aload_n 0, 1, 0, 0, 0), (.iload_n 1, 1, 1, 0, 0), (.iload_n 2, 1, 2, 0, 0), (.iconst (-1), 1, 0, 0, (-1)), (.invokevirtual 221, 3, 100, 4, 8)]), (53, [(.ifCond .ne 5, 3, 58, 0, 0)]), (56, [(.iconst 0, 1, 0, 0, 0), (.ireturn, 1, 0, 0, 0)]), (58, [(.iconst 0, 1, 0, 0, 0), (.istore_n 3, 1, 3, 0, 0), (.iconst 0, 1, 0, 0, 0), (.istore 4, 2, 4, 0, 0)]), (63, [(.iload 4, 2, 4, 0, 0), (.aload_n 0, 1, 0, 0, 0), (.getfield 10, 3, 8, 0, 1), (.getfield 109, 3, 4, 1, 0), (.if_icmp .ge 27, 3, 99, 0, 0)]), (75, [(.aload_n 0, 1, 0, 0, 0), (.iload_n 1, 1, 1, 0, 0), (.iload_n 2, 1, 2, 0, 0), (.iload 4, 2, 4, 0, 0), (.invokevirtual 221, 3, 100, 4, 8)]), (83, [(.ifCond .ne 10, 3, 93, 0, 0)]), (86, [(.iload_n 3, 1, 3, 0, 0), (.iconst 1, 1, 0, 0, 1), (.iload 4, 2, 4, 0, 0), (.ishl, 1, 0, 0, 0), (.ior, 1, 0, 0, 0), (.istore_n 3, 1, 3, 0, 0)]), (93, [(.iinc 4 1, 3, 4, 0, 1), (.goto (-33), 3, 63, 0, 0)]), (99, [(.iload_n 3, 1, 3, 0, 0), (.ireturn, 1, 0, 0, 0)])]
def pg_b81 : List (Nat × List am_E) := [(0, [(.aload_n 0, 1, 0, 0, 0), (.iload_n 1, 1, 1, 0, 0), (.invokevirtual 133, 3, 95, 2, 8)]), (5, [(.ifCond .eq 16, 3, 21, 0, 0)]), (8, [(.aload_n 0, 1, 0, 0, 0), (.iload_n 2, 1, 2, 0, 0), (.invokevirtual 133, 3, 95, 2, 8)]), (13, [(.ifCond .eq 8, 3, 21, 0, 0)]), (16, [(.iload_n 1, 1, 1, 0, 0), (.iload_n 2, 1, 2, 0, 0), (.if_icmp .ne 6, 3, 24, 0, 0)]), (21, [(.ldc 137, 2, 0, 0, (-1000000001)), (.ireturn, 1, 0, 0, 0)]), (24, [(.iload_n 3, 1, 3, 0, 0), (.ifCond .lt 8, 3, 33, 0, 0)]), (28, [(.iload_n 3, 1, 3, 0, 0), (.iconst 1, 1, 0, 0, 1), (.if_icmp .le 6, 3, 36, 0, 0)]), (33, [(.ldc 74, 2, 0, 0, (-1000000002)), (.ireturn, 1, 0, 0, 0)]), (36, [(.iconst (-1), 1, 0, 0, (-1)), (.istore 4, 2, 4, 0, 0), (.iconst (-1), 1, 0, 0, (-1)), (.istore 5, 2, 5, 0, 0), (.iconst 0, 1, 0, 0, 0), (.istore 6, 2, 6, 0, 0)]), (45, [(.iload 6, 2, 6, 0, 0), (.aload_n 0, 1, 0, 0, 0), (.getfield 10, 3, 8, 0, 1), (.getfield 109, 3, 4, 1, 0), (.if_icmp .ge 49, 3, 103, 0, 0)]), (57, [(.aload_n 0, 1, 0, 0, 0), (.getfield 28, 3, 8, 2, 1), (.iload_n 1, 1, 1, 0, 0), (.iload_n 2, 1, 2, 0, 0), (.iload 6, 2, 6, 0, 0), (.invokevirtual 225, 3, 21, 4, 3)]), (68, [(.istore 7, 2, 7, 0, 0), (.iload 7, 2, 7, 0, 0), (.iconst (-1), 1, 0, 0, (-1)), (.if_icmp .eq 24, 3, 97, 0, 0)]), (76, [(.iload 4, 2, 4, 0, 0), (.iconst (-1), 1, 0, 0, (-1)), (.if_icmp .eq 10, 3, 89, 0, 0)]), (82, [(.iload 7, 2, 7, 0, 0), (.iload 4, 2, 4, 0, 0), (.if_icmp .ge 11, 3, 97, 0, 0)]), (89, [(.iload 7, 2, 7, 0, 0), (.istore 4, 2, 4, 0, 0), (.iload 6, 2, 6, 0, 0), (.istore 5, 2, 5, 0, 0)]), (97, [(.iinc 6 1, 3, 6, 0, 1), (.goto (-55), 3, 45, 0, 0)]), (103, [(.iload_n 3, 1, 3, 0, 0), (.ifCond .ne 8, 3, 112, 0, 0)]), (107, [(.iload 4, 2, 4, 0, 0), (.goto 5, 3, 114, 0, 0)]), (112, [(.iload 5, 2, 5, 0, 0)]), (114, [(.ireturn, 1, 0, 0, 0)])]
def pg_b82 : List (Nat × List am_E) := [(0, [(.aload_n 0, 1, 0, 0, 0), (.iload_n 1, 1, 1, 0, 0), (.invokevirtual 133, 3, 95, 2, 8)]), (5, [(.ifCond .ne 6, 3, 11, 0, 0)]), (8, [(.ldc 137, 2, 0, 0, (-1000000001)), (.ireturn, 1, 0, 0, 0)]), (11, [(.iconst 0, 1, 0, 0, 0), (.istore_n 2, 1, 2, 0, 0), (.iconst 0, 1, 0, 0, 0), (.istore_n 3, 1, 3, 0, 0)]), (15, [(.iload_n 3, 1, 3, 0, 0), (.aload_n 0, 1, 0, 0, 0), (.getfield 10, 3, 8, 0, 1), (.getfield 106, 3, 4, 0, 0), (.if_icmp .ge 39, 3, 62, 0, 0)]), (26, [(.aload_n 0, 1, 0, 0, 0), (.getfield 28, 3, 8, 2, 1), (.iload_n 3, 1, 3, 0, 0), (.invokevirtual 192, 3, 12, 2, 3)]), (34, [(.ifCond .eq 22, 3, 56, 0, 0)]), (37, [(.aload_n 0, 1, 0, 0, 0), (.getfield 28, 3, 8, 2, 1), (.getfield 142, 3, 3, 2, 1), (.iload_n 3, 1, 3, 0, 0), (.iaload, 1, 0, 0, 0), (.iload_n 1, 1, 1, 0, 0), (.if_icmp .ne 9, 3, 56, 0, 0)]), (50, [(.iload_n 2, 1, 2, 0, 0), (.iconst 1, 1, 0, 0, 1), (.iload_n 3, 1, 3, 0, 0), (.ishl, 1, 0, 0, 0), (.ior, 1, 0, 0, 0), (.istore_n 2, 1, 2, 0, 0)]), (56, [(.iinc 3 1, 3, 3, 0, 1), (.goto (-44), 3, 15, 0, 0)]), (62, [(.iload_n 2, 1, 2, 0, 0), (.ireturn, 1, 0, 0, 0)])]
def pg_b83 : List (Nat × List am_E) := [(0, [(.iconst (-1), 1, 0, 0, (-1)), (.istore_n 1, 1, 1, 0, 0), (.iconst (-1), 1, 0, 0, (-1)), (.istore_n 2, 1, 2, 0, 0), (.aload_n 0, 1, 0, 0, 0), (.getfield 32, 3, 8, 3, 1), (.aload_n 0, 1, 0, 0, 0), (.getfield 28, 3, 8, 2, 1), (.invokevirtual 229, 3, 11, 2, 3)]), (15, [(.iconst 0, 1, 0, 0, 0), (.istore_n 3, 1, 3, 0, 0)]), (17, [(.iload_n 3, 1, 3, 0, 0), (.aload_n 0, 1, 0, 0, 0), (.getfield 10, 3, 8, 0, 1), (.getfield 109, 3, 4, 1, 0), (.if_icmp .ge 126, 3, 151, 0, 0)]), (28, [(.iconst 0, 1, 0, 0, 0), (.istore 4, 2, 4, 0, 0)]), (31, [(.iload 4, 2, 4, 0, 0), (.aload_n 0, 1, 0, 0, 0), (.getfield 10, 3, 8, 0, 1), (.getfield 106, 3, 4, 0, 0), (.if_icmp .ge 87, 3, 127, 0, 0)]), (43, [(.iload 4, 2, 4, 0, 0), (.aload_n 0, 1, 0, 0, 0), (.getfield 28, 3, 8, 2, 1), (.getfield 189, 3, 3, 3, 1), (.iload_n 3, 1, 3, 0, 0), (.iaload, 1, 0, 0, 0), (.if_icmp .eq 20, 3, 74, 0, 0)]), (57, [(.aload_n 0, 1, 0, 0, 0), (.getfield 28, 3, 8, 2, 1), (.iload_n 3, 1, 3, 0, 0), (.iload 4, 2, 4, 0, 0), (.invokevirtual 186, 3, 16, 3, 3)]), (67, [(.iconst (-1), 1, 0, 0, (-1)), (.if_icmp .eq 6, 3, 74, 0, 0)]), (71, [(.goto 50, 3, 121, 0, 0)]), (74, [(.aload_n 0, 1, 0, 0, 0), (.getfield 32, 3, 8, 3, 1), (.getfield 189, 3, 3, 3, 1), (.iload_n 3, 1, 3, 0, 0), (.iload 4, 2, 4, 0, 0), (.iastore, 1, 0, 0, 0), (.aload_n 0, 1, 0, 0, 0), (.getfield 45, 3, 8, 5, 1), (.aload_n 0, 1, 0, 0, 0), (.getfield 32, 3, 8, 3, 1), (.invokevirtual 121, 3, 62, 2, 7)]), (96, [(.istore 5, 2, 5, 0, 0), (.iload 5, 2, 5, 0, 0), (.iload_n 2, 1, 2, 0, 0), (.if_icmp .le 20, 3, 121, 0, 0)]), (104, [(.iload 5, 2, 5, 0, 0), (.istore_n 2, 1, 2, 0, 0), (.bipush 100, 2, 0, 0, 100), (.iload 5, 2, 5, 0, 0), (.imul, 1, 0, 0, 0), (.bipush 10, 2, 0, 0, 10), (.iload_n 3, 1, 3, 0, 0), (.imul, 1, 0, 0, 0), (.iadd, 1, 0, 0, 0), (.iload 4, 2, 4, 0, 0), (.iadd, 1, 0, 0, 0), (.istore_n 1, 1, 1, 0, 0)]), (121, [(.iinc 4 1, 3, 4, 0, 1), (.goto (-93), 3, 31, 0, 0)]), (127, [(.aload_n 0, 1, 0, 0, 0), (.getfield 32, 3, 8, 3, 1), (.getfield 189, 3, 3, 3, 1), (.iload_n 3, 1, 3, 0, 0), (.aload_n 0, 1, 0, 0, 0), (.getfield 28, 3, 8, 2, 1), (.getfield 189, 3, 3, 3, 1), (.iload_n 3, 1, 3, 0, 0), (.iaload, 1, 0, 0, 0), (.iastore, 1, 0, 0, 0), (.iinc 3 1, 3, 3, 0, 1), (.goto (-131), 3, 17, 0, 0)]), (151, [(.iload_n 1, 1, 1, 0, 0), (.ireturn, 1, 0, 0, 0)])]
def pg_b84 : List (Nat × List am_E) := [(0, [(.aload_n 0, 1, 0, 0, 0), (.getfield 32, 3, 8, 3, 1), (.aload_n 0, 1, 0, 0, 0), (.getfield 28, 3, 8, 2, 1), (.invokevirtual 229, 3, 11, 2, 3)]), (11, [(.aload_n 0, 1, 0, 0, 0), (.getfield 32, 3, 8, 3, 1), (.invokevirtual 231, 3, 26, 1, 3)]), (18, [(.iconst 0, 1, 0, 0, 0), (.istore_n 1, 1, 1, 0, 0)]), (20, [(.iload_n 1, 1, 1, 0, 0), (.bipush 99, 2, 0, 0, 99), (.if_icmp .ge 28, 3, 51, 0, 0)]), (26, [(.aload_n 0, 1, 0, 0, 0), (.getfield 32, 3, 8, 3, 1), (.invokevirtual 234, 3, 27, 1, 3)]), (33, [(.aload_n 0, 1, 0, 0, 0), (.getfield 32, 3, 8, 3, 1), (.invokevirtual 182, 3, 25, 1, 3)]), (40, [(.ifCond .ne 5, 3, 45, 0, 0)]), (43, [(.iload_n 1, 1, 1, 0, 0), (.ireturn, 1, 0, 0, 0)]), (45, [(.iinc 1 1, 3, 1, 0, 1), (.goto (-28), 3, 20, 0, 0)]), (51, [(.iload_n 1, 1, 1, 0, 0), (.ireturn, 1, 0, 0, 0)])]
def pg_b85 : List (Nat × List am_E) := [(0, [(.iload_n 1, 1, 1, 0, 0), (.ifCond .lt 20, 3, 21, 0, 0)]), (4, [(.iload_n 1, 1, 1, 0, 0), (.bipush 60, 2, 0, 0, 60), (.if_icmp .gt 14, 3, 21, 0, 0)]), (10, [(.iload_n 2, 1, 2, 0, 0), (.ifCond .lt 10, 3, 21, 0, 0)]), (14, [(.iload_n 2, 1, 2, 0, 0), (.sipush 1000, 3, 0, 0, 1000), (.if_icmp .le 6, 3, 24, 0, 0)]), (21, [(.ldc 74, 2, 0, 0, (-1000000002)), (.ireturn, 1, 0, 0, 0)]), (24, [(.ldc2_w 237, 3, 0, 0, 1000000000), (.lstore_n 3, 1, 3, 0, 0), (.iconst 0, 1, 0, 0, 0), (.istore 5, 2, 5, 0, 0)]), (31, [(.iload 5, 2, 5, 0, 0), (.iload_n 1, 1, 1, 0, 0), (.if_icmp .ge 22, 3, 56, 0, 0)]), (37, [(.lload_n 3, 1, 3, 0, 0), (.sipush 1000, 3, 0, 0, 1000), (.iload_n 2, 1, 2, 0, 0), (.isub, 1, 0, 0, 0), (.i2l, 1, 0, 0, 0), (.lmul, 1, 0, 0, 0), (.ldc2_w 239, 3, 0, 0, 1000), (.ldiv, 1, 0, 0, 0), (.lstore_n 3, 1, 3, 0, 0), (.iinc 5 1, 3, 5, 0, 1), (.goto (-22), 3, 31, 0, 0)]), (56, [(.lload_n 3, 1, 3, 0, 0), (.l2i, 1, 0, 0, 0), (.ireturn, 1, 0, 0, 0)])]
def pg_b86 : List (Nat × List am_E) := [(0, [(.aload_n 0, 1, 0, 0, 0), (.iload_n 1, 1, 1, 0, 0), (.invokevirtual 146, 3, 96, 2, 8)]), (5, [(.ifCond .ne 6, 3, 11, 0, 0)]), (8, [(.ldc 137, 2, 0, 0, (-1000000001)), (.ireturn, 1, 0, 0, 0)]), (11, [(.aload_n 0, 1, 0, 0, 0), (.iload_n 1, 1, 1, 0, 0), (.iload_n 2, 1, 2, 0, 0), (.invokevirtual 155, 3, 97, 3, 8)]), (17, [(.ifCond .ne 6, 3, 23, 0, 0)]), (20, [(.ldc 74, 2, 0, 0, (-1000000002)), (.ireturn, 1, 0, 0, 0)]), (23, [(.aload_n 0, 1, 0, 0, 0), (.getfield 52, 3, 8, 6, 1), (.getfield 128, 3, 6, 4, 0), (.bipush 6, 2, 0, 0, 6), (.if_icmp .lt 6, 3, 38, 0, 0)]), (35, [(.ldc 78, 2, 0, 0, (-1000000004)), (.ireturn, 1, 0, 0, 0)]), (38, [(.aload_n 0, 1, 0, 0, 0), (.getfield 52, 3, 8, 6, 1), (.iload_n 1, 1, 1, 0, 0), (.iload_n 2, 1, 2, 0, 0), (.invokevirtual 241, 3, 48, 3, 6)]), (47, [(.aload_n 0, 1, 0, 0, 0), (.getfield 52, 3, 8, 6, 1), (.getfield 128, 3, 6, 4, 0), (.ireturn, 1, 0, 0, 0)])]
def pg_b87 : List (Nat × List am_E) := [(0, [(.aload_n 0, 1, 0, 0, 0), (.getfield 52, 3, 8, 6, 1), (.invokevirtual 243, 3, 51, 1, 6)]), (7, [(.ireturn, 1, 0, 0, 0)])]
def pg_b88 : List (Nat × List am_E) := [(0, [(.aload_n 0, 1, 0, 0, 0), (.getfield 52, 3, 8, 6, 1), (.invokevirtual 246, 3, 52, 1, 6)]), (7, [(.ireturn, 1, 0, 0, 0)])]
def pg_b89 : List (Nat × List am_E) := [(0, [(.aload_n 0, 1, 0, 0, 0), (.iload_n 1, 1, 1, 0, 0), (.invokevirtual 133, 3, 95, 2, 8)]), (5, [(.ifCond .eq 11, 3, 16, 0, 0)]), (8, [(.aload_n 0, 1, 0, 0, 0), (.iload_n 2, 1, 2, 0, 0), (.invokevirtual 133, 3, 95, 2, 8)]), (13, [(.ifCond .ne 6, 3, 19, 0, 0)]), (16, [(.ldc 137, 2, 0, 0, (-1000000001)), (.ireturn, 1, 0, 0, 0)]), (19, [(.aload_n 0, 1, 0, 0, 0), (.getfield 59, 3, 8, 7, 1), (.getfield 131, 3, 0, 2, 0), (.bipush 20, 2, 0, 0, 20), (.if_icmp .lt 6, 3, 34, 0, 0)]), (31, [(.ldc 78, 2, 0, 0, (-1000000004)), (.ireturn, 1, 0, 0, 0)]), (34, [(.aload_n 0, 1, 0, 0, 0), (.getfield 59, 3, 8, 7, 1), (.iload_n 1, 1, 1, 0, 0), (.iload_n 2, 1, 2, 0, 0), (.invokevirtual 249, 3, 2, 3, 0)]), (43, [(.aload_n 0, 1, 0, 0, 0), (.getfield 59, 3, 8, 7, 1), (.getfield 131, 3, 0, 2, 0), (.ireturn, 1, 0, 0, 0)])]
def pg_b90 : List (Nat × List am_E) := [(0, [(.aload_n 0, 1, 0, 0, 0), (.getfield 59, 3, 8, 7, 1), (.aload_n 0, 1, 0, 0, 0), (.getfield 28, 3, 8, 2, 1), (.invokevirtual 250, 3, 3, 2, 0)]), (11, [(.ireturn, 1, 0, 0, 0)])]
def pg_b91 : List (Nat × List am_E) := [(0, [(.aload_n 0, 1, 0, 0, 0), (.getfield 52, 3, 8, 6, 1), (.getfield 128, 3, 6, 4, 0), (.aload_n 0, 1, 0, 0, 0), (.getfield 59, 3, 8, 7, 1), (.getfield 131, 3, 0, 2, 0), (.iadd, 1, 0, 0, 0), (.istore_n 1, 1, 1, 0, 0), (.aload_n 0, 1, 0, 0, 0), (.getfield 52, 3, 8, 6, 1), (.invokevirtual 100, 3, 47, 1, 6)]), (23, [(.aload_n 0, 1, 0, 0, 0), (.getfield 59, 3, 8, 7, 1), (.invokevirtual 101, 3, 1, 1, 0)]), (30, [(.iload_n 1, 1, 1, 0, 0), (.ireturn, 1, 0, 0, 0)])]
def pg_b92 : List (Nat × List am_E) := [(0, [(.iload_n 1, 1, 1, 0, 0), (.ifCond .ge 6, 3, 7, 0, 0)]), (4, [(.ldc 74, 2, 0, 0, (-1000000002)), (.ireturn, 1, 0, 0, 0)]), (7, [(.aload_n 0, 1, 0, 0, 0), (.getfield 253, 3, 8, 10, 0), (.istore_n 2, 1, 2, 0, 0), (.aload_n 0, 1, 0, 0, 0), (.iload_n 1, 1, 1, 0, 0), (.putfield 253, 3, 8, 10, 0), (.iload_n 2, 1, 2, 0, 0), (.ireturn, 1, 0, 0, 0)])]
def pg_b93 : List (Nat × List am_E) := [(0, [(.aload_n 0, 1, 0, 0, 0), (.iload_n 1, 1, 1, 0, 0), (.invokevirtual 256, 3, 98, 2, 8)]), (5, [(.ifCond .ne 6, 3, 11, 0, 0)]), (8, [(.ldc 137, 2, 0, 0, (-1000000001)), (.ireturn, 1, 0, 0, 0)]), (11, [(.aload_n 0, 1, 0, 0, 0), (.getfield 65, 3, 8, 8, 1), (.iload_n 1, 1, 1, 0, 0), (.aaload, 1, 0, 0, 0), (.getfield 259, 3, 2, 0, 1), (.aload_n 0, 1, 0, 0, 0), (.getfield 28, 3, 8, 2, 1), (.invokevirtual 229, 3, 11, 2, 3)]), (27, [(.aload_n 0, 1, 0, 0, 0), (.getfield 65, 3, 8, 8, 1), (.iload_n 1, 1, 1, 0, 0), (.aaload, 1, 0, 0, 0), (.aload_n 0, 1, 0, 0, 0), (.getfield 253, 3, 8, 10, 0), (.putfield 260, 3, 2, 1, 0), (.aload_n 0, 1, 0, 0, 0), (.getfield 65, 3, 8, 8, 1), (.iload_n 1, 1, 1, 0, 0), (.aaload, 1, 0, 0, 0), (.iconst 1, 1, 0, 0, 1), (.putfield 102, 3, 2, 2, 2), (.aload_n 0, 1, 0, 0, 0), (.getfield 38, 3, 8, 4, 1), (.invokevirtual 97, 3, 5, 1, 1)]), (57, [(.iconst 1, 1, 0, 0, 1), (.ireturn, 1, 0, 0, 0)])]
def pg_b94 : List (Nat × List am_E) := [(0, [(.aload_n 0, 1, 0, 0, 0), (.iload_n 1, 1, 1, 0, 0), (.invokevirtual 256, 3, 98, 2, 8)]), (5, [(.ifCond .ne 6, 3, 11, 0, 0)]), (8, [(.ldc 137, 2, 0, 0, (-1000000001)), (.ireturn, 1, 0, 0, 0)]), (11, [(.aload_n 0, 1, 0, 0, 0), (.getfield 65, 3, 8, 8, 1), (.iload_n 1, 1, 1, 0, 0), (.aaload, 1, 0, 0, 0), (.getfield 102, 3, 2, 2, 2), (.ifCond .ne 6, 3, 26, 0, 0)]), (23, [(.ldc 165, 2, 0, 0, (-1000000003)), (.ireturn, 1, 0, 0, 0)]), (26, [(.aload_n 0, 1, 0, 0, 0), (.getfield 28, 3, 8, 2, 1), (.aload_n 0, 1, 0, 0, 0), (.getfield 65, 3, 8, 8, 1), (.iload_n 1, 1, 1, 0, 0), (.aaload, 1, 0, 0, 0), (.getfield 259, 3, 2, 0, 1), (.invokevirtual 229, 3, 11, 2, 3)]), (42, [(.aload_n 0, 1, 0, 0, 0), (.aload_n 0, 1, 0, 0, 0), (.getfield 65, 3, 8, 8, 1), (.iload_n 1, 1, 1, 0, 0), (.aaload, 1, 0, 0, 0), (.getfield 260, 3, 2, 1, 0), (.putfield 253, 3, 8, 10, 0), (.aload_n 0, 1, 0, 0, 0), (.getfield 38, 3, 8, 4, 1), (.invokevirtual 97, 3, 5, 1, 1)]), (62, [(.iconst 1, 1, 0, 0, 1), (.ireturn, 1, 0, 0, 0)])]
def pg_b95 : List (Nat × List am_E) := [(0, [(.iload_n 1, 1, 1, 0, 0), (.ifCond .lt 18, 3, 19, 0, 0)]), (4, [(.iload_n 1, 1, 1, 0, 0), (.aload_n 0, 1, 0, 0, 0), (.getfield 10, 3, 8, 0, 1), (.getfield 106, 3, 4, 0, 0), (.if_icmp .ge 7, 3, 19, 0, 0)]), (15, [(.iconst 1, 1, 0, 0, 1), (.goto 4, 3, 20, 0, 0)]), (19, [(.iconst 0, 1, 0, 0, 0)]), (20, [(.ireturn, 1, 1, 0, 0)])]
def pg_b96 : List (Nat × List am_E) := [(0, [(.iload_n 1, 1, 1, 0, 0), (.ifCond .lt 18, 3, 19, 0, 0)]), (4, [(.iload_n 1, 1, 1, 0, 0), (.aload_n 0, 1, 0, 0, 0), (.getfield 10, 3, 8, 0, 1), (.getfield 109, 3, 4, 1, 0), (.if_icmp .ge 7, 3, 19, 0, 0)]), (15, [(.iconst 1, 1, 0, 0, 1), (.goto 4, 3, 20, 0, 0)]), (19, [(.iconst 0, 1, 0, 0, 0)]), (20, [(.ireturn, 1, 1, 0, 0)])]
def pg_b97 : List (Nat × List am_E) := [(0, [(.iload_n 2, 1, 2, 0, 0), (.ifCond .lt 20, 3, 21, 0, 0)]), (4, [(.iload_n 2, 1, 2, 0, 0), (.aload_n 0, 1, 0, 0, 0), (.getfield 10, 3, 8, 0, 1), (.getfield 152, 3, 4, 4, 1), (.iload_n 1, 1, 1, 0, 0), (.iaload, 1, 0, 0, 0), (.if_icmp .ge 7, 3, 21, 0, 0)]), (17, [(.iconst 1, 1, 0, 0, 1), (.goto 4, 3, 22, 0, 0)]), (21, [(.iconst 0, 1, 0, 0, 0)]), (22, [(.ireturn, 1, 1, 0, 0)])]
def pg_b98 : List (Nat × List am_E) := [(0, [(.iload_n 1, 1, 1, 0, 0), (.ifCond .lt 12, 3, 13, 0, 0)]), (4, [(.iload_n 1, 1, 1, 0, 0), (.iconst 2, 1, 0, 0, 2), (.if_icmp .ge 7, 3, 13, 0, 0)]), (9, [(.iconst 1, 1, 0, 0, 1), (.goto 4, 3, 14, 0, 0)]), (13, [(.iconst 0, 1, 0, 0, 0)]), (14, [(.ireturn, 1, 1, 0, 0)])]
def pg_b99 : List (Nat × List am_E) := [(0, [(.iload_n 1, 1, 1, 0, 0), (.iconst 1, 1, 0, 0, 1), (.if_icmp .lt 9, 3, 11, 0, 0)]), (5, [(.iload_n 1, 1, 1, 0, 0), (.bipush 30, 2, 0, 0, 30), (.if_icmp .le 6, 3, 14, 0, 0)]), (11, [(.ldc 74, 2, 0, 0, (-1000000002)), (.ireturn, 1, 0, 0, 0)]), (14, [(.aload_n 0, 1, 0, 0, 0), (.getfield 10, 3, 8, 0, 1), (.getfield 106, 3, 4, 0, 0), (.ifCond .ne 6, 3, 27, 0, 0)]), (24, [(.ldc 165, 2, 0, 0, (-1000000003)), (.ireturn, 1, 0, 0, 0)]), (27, [(.aload_n 0, 1, 0, 0, 0), (.getfield 28, 3, 8, 2, 1), (.getfield 112, 3, 3, 6, 0), (.sipush 9000, 3, 0, 0, 9000), (.if_icmp .le 8, 3, 45, 0, 0)]), (40, [(.ldc 78, 2, 0, 0, (-1000000004)), (.goto 4, 3, 46, 0, 0)]), (45, [(.iconst 0, 1, 0, 0, 0)]), (46, [(.ireturn, 1, 0, 0, 0)])]
def pg_b100 : List (Nat × List am_E) := [(0, [(.aload_n 0, 1, 0, 0, 0), (.getfield 45, 3, 8, 5, 1), (.aload_n 0, 1, 0, 0, 0), (.getfield 28, 3, 8, 2, 1), (.iload_n 1, 1, 1, 0, 0), (.iload_n 3, 1, 3, 0, 0), (.invokevirtual 207, 3, 55, 4, 7)]), (13, [(.aload_n 0, 1, 0, 0, 0), (.getfield 45, 3, 8, 5, 1), (.iconst 1, 1, 0, 0, 1), (.aload_n 0, 1, 0, 0, 0), (.getfield 28, 3, 8, 2, 1), (.getfield 142, 3, 3, 2, 1), (.iload_n 1, 1, 1, 0, 0), (.iaload, 1, 0, 0, 0), (.ishl, 1, 0, 0, 0), (.iload_n 2, 1, 2, 0, 0), (.invokevirtual 211, 3, 59, 3, 7)]), (32, [(.iconst (-1), 1, 0, 0, (-1)), (.if_icmp .eq 7, 3, 40, 0, 0)]), (36, [(.iconst 1, 1, 0, 0, 1), (.goto 4, 3, 41, 0, 0)]), (40, [(.iconst 0, 1, 0, 0, 0)]), (41, [(.ireturn, 1, 1, 0, 0)])]
def pg_b101 : List (Nat × List am_E) := [(0, [(.iconst 0, 1, 0, 0, 0), (.istore_n 1, 1, 1, 0, 0)]), (2, [(.iload_n 1, 1, 1, 0, 0), (.aload_n 0, 1, 0, 0, 0), (.getfield 10, 3, 8, 0, 1), (.getfield 106, 3, 4, 0, 0), (.if_icmp .ge 35, 3, 45, 0, 0)]), (13, [(.aload_n 0, 1, 0, 0, 0), (.getfield 28, 3, 8, 2, 1), (.iload_n 1, 1, 1, 0, 0), (.invokevirtual 192, 3, 12, 2, 3)]), (21, [(.ifCond .eq 18, 3, 39, 0, 0)]), (24, [(.aload_n 0, 1, 0, 0, 0), (.getfield 10, 3, 8, 0, 1), (.getfield 109, 3, 4, 1, 0), (.ifCond .le 8, 3, 39, 0, 0)]), (34, [(.aload_n 0, 1, 0, 0, 0), (.iload_n 1, 1, 1, 0, 0), (.invokevirtual 261, 3, 102, 2, 8)]), (39, [(.iinc 1 1, 3, 1, 0, 1), (.goto (-40), 3, 2, 0, 0)]), (45, [(.aload_n 0, 1, 0, 0, 0), (.getfield 28, 3, 8, 2, 1), (.invokevirtual 182, 3, 25, 1, 3)]), (52, [(.pop, 1, 0, 0, 0), (.return_, 1, 0, 0, 0)])]
def pg_b102 : List (Nat × List am_E) := [(0, [(.aload_n 0, 1, 0, 0, 0), (.aload_n 0, 1, 0, 0, 0), (.getfield 10, 3, 8, 0, 1), (.getfield 109, 3, 4, 1, 0), (.invokevirtual 264, 3, 103, 2, 8)]), (11, [(.istore_n 2, 1, 2, 0, 0), (.aload_n 0, 1, 0, 0, 0), (.bipush 20, 2, 0, 0, 20), (.invokevirtual 264, 3, 103, 2, 8)]), (18, [(.istore_n 3, 1, 3, 0, 0), (.aload_n 0, 1, 0, 0, 0), (.getfield 28, 3, 8, 2, 1), (.iload_n 1, 1, 1, 0, 0), (.iload_n 2, 1, 2, 0, 0), (.invokevirtual 162, 3, 18, 3, 3)]), (28, [(.ifCond .ne 4, 3, 32, 0, 0)]), (31, [(.return_, 1, 0, 0, 0)]), (32, [(.iload_n 3, 1, 3, 0, 0), (.ifCond .ne 15, 3, 48, 0, 0)]), (36, [(.aload_n 0, 1, 0, 0, 0), (.getfield 28, 3, 8, 2, 1), (.iload_n 1, 1, 1, 0, 0), (.iload_n 2, 1, 2, 0, 0), (.invokevirtual 174, 3, 23, 3, 3)]), (45, [(.goto 13, 3, 58, 0, 0)]), (48, [(.aload_n 0, 1, 0, 0, 0), (.getfield 28, 3, 8, 2, 1), (.iload_n 1, 1, 1, 0, 0), (.iload_n 2, 1, 2, 0, 0), (.iconst 5, 1, 0, 0, 5), (.invokevirtual 170, 3, 22, 4, 3)]), (58, [(.return_, 1, 0, 0, 0)])]
def pg_b103 : List (Nat × List am_E) := [(0, [(.aload_n 0, 1, 0, 0, 0), (.aload_n 0, 1, 0, 0, 0), (.getfield 253, 3, 8, 10, 0), (.i2l, 1, 0, 0, 0), (.ldc2_w 267, 3, 0, 0, 1103515245), (.lmul, 1, 0, 0, 0), (.ldc2_w 269, 3, 0, 0, 12345), (.ladd, 1, 0, 0, 0), (.ldc2_w 271, 3, 0, 0, 2147483648), (.lrem, 1, 0, 0, 0), (.l2i, 1, 0, 0, 0), (.putfield 253, 3, 8, 10, 0), (.iload_n 1, 1, 1, 0, 0), (.ifCond .le 16, 3, 39, 0, 0)]), (26, [(.aload_n 0, 1, 0, 0, 0), (.getfield 253, 3, 8, 10, 0), (.ldc_w 273, 3, 0, 0, 65536), (.idiv, 1, 0, 0, 0), (.iload_n 1, 1, 1, 0, 0), (.irem, 1, 0, 0, 0), (.goto 4, 3, 40, 0, 0)]), (39, [(.iconst 0, 1, 0, 0, 0)]), (40, [(.ireturn, 1, 0, 0, 0)])]
def pg_b104 : List (Nat × List am_E) := [(0, [(.aload_n 0, 1, 0, 0, 0), (.invokespecial 1, 3, 0, 1, 1), (.aload_n 0, 1, 0, 0, 0), (.sipush 2788, 3, 0, 0, 2788), (.newarray .int, 2, 0, 0, 0)]), (10, [(.putfield 7, 3, 9, 0, 1)]), (13, [(.aload_n 0, 1, 0, 0, 0), (.iconst 2, 1, 0, 0, 2), (.newarray .boolean, 2, 1, 0, 0)]), (17, [(.putfield 13, 3, 9, 1, 1)]), (20, [(.aload_n 0, 1, 0, 0, 0), (.sipush 128, 3, 0, 0, 128), (.newarray .int, 2, 0, 0, 0)]), (26, [(.putfield 17, 3, 9, 2, 1)]), (29, [(.aload_n 0, 1, 0, 0, 0), (.bipush 72, 2, 0, 0, 72), (.newarray .int, 2, 0, 0, 0)]), (34, [(.putfield 20, 3, 9, 3, 1)]), (37, [(.aload_n 0, 1, 0, 0, 0), (.bipush 12, 2, 0, 0, 12), (.newarray .int, 2, 0, 0, 0)]), (42, [(.putfield 23, 3, 9, 4, 1)]), (45, [(.aload_n 0, 1, 0, 0, 0), (.bipush 12, 2, 0, 0, 12), (.newarray .int, 2, 0, 0, 0)]), (50, [(.putfield 26, 3, 9, 5, 1)]), (53, [(.aload_n 0, 1, 0, 0, 0), (.sipush 200, 3, 0, 0, 200), (.newarray .int, 2, 0, 0, 0)]), (59, [(.putfield 29, 3, 9, 10, 1)]), (62, [(.aload_n 0, 1, 0, 0, 0), (.iconst (-1), 1, 0, 0, (-1)), (.putfield 32, 3, 9, 15, 0)]), (67, [(.aload_n 0, 1, 0, 0, 0), (.bipush 8, 2, 0, 0, 8), (.newarray .int, 2, 0, 0, 0)]), (72, [(.putfield 36, 3, 9, 17, 1)]), (75, [(.aload_n 0, 1, 0, 0, 0), (.bipush 6, 2, 0, 0, 6), (.newarray .int, 2, 0, 0, 0)]), (80, [(.putfield 39, 3, 9, 18, 1)]), (83, [(.aload_n 0, 1, 0, 0, 0), (.bipush 6, 2, 0, 0, 6), (.newarray .int, 2, 0, 0, 0)]), (88, [(.putfield 42, 3, 9, 19, 1)]), (91, [(.aload_n 0, 1, 0, 0, 0), (.bipush 20, 2, 0, 0, 20), (.newarray .int, 2, 0, 0, 0)]), (96, [(.putfield 45, 3, 9, 21, 1)]), (99, [(.aload_n 0, 1, 0, 0, 0), (.bipush 20, 2, 0, 0, 20), (.newarray .int, 2, 0, 0, 0)]), (104, [(.putfield 48, 3, 9, 22, 1)]), (107, [(.return_, 1, 0, 0, 0)])]
def pg_b105 : List (Nat × List am_E) := [(0, [(.lload_n 0, 1, 0, 0, 0), (.lload_n 2, 1, 2, 0, 0), (.lcmp, 1, 0, 0, 0), (.ifCond .lt 14, 3, 17, 0, 0)]), (6, [(.lload_n 0, 1, 0, 0, 0), (.lload 4, 2, 4, 0, 0), (.lcmp, 1, 0, 0, 0), (.ifCond .gt 7, 3, 17, 0, 0)]), (13, [(.iconst 1, 1, 0, 0, 1), (.goto 4, 3, 18, 0, 0)]), (17, [(.iconst 0, 1, 0, 0, 0)]), (18, [(.ireturn, 1, 1, 0, 0)])]
def pg_b106 : List (Nat × List am_E) := [(0, [(.iload_n 0, 1, 0, 0, 0), (.ifCond .eq 7, 3, 8, 0, 0)]), (4, [(.iconst 1, 1, 0, 0, 1), (.goto 4, 3, 9, 0, 0)]), (8, [(.iconst 0, 1, 0, 0, 0)]), (9, [(.ireturn, 1, 0, 0, 0)])]
def pg_b107 : List (Nat × List am_E) := [(0, [(.iload_n 0, 1, 0, 0, 0), (.iload_n 1, 1, 1, 0, 0), (.ishr, 1, 0, 0, 0), (.iconst 1, 1, 0, 0, 1), (.iand, 1, 0, 0, 0), (.iconst 1, 1, 0, 0, 1), (.if_icmp .ne 7, 3, 13, 0, 0)]), (9, [(.iconst 1, 1, 0, 0, 1), (.goto 4, 3, 14, 0, 0)]), (13, [(.iconst 0, 1, 0, 0, 0)]), (14, [(.ireturn, 1, 1, 0, 0)])]
def pg_b108 : List (Nat × List am_E) := [(0, [(.iload_n 1, 1, 1, 0, 0), (.i2l, 1, 0, 0, 0), (.lconst 0, 1, 0, 0, 0), (.ldc2_w 51, 3, 0, 0, 255), (.invokestatic 53, 3, 105, 3, 0)]), (9, [(.ifCond .ne 6, 3, 15, 0, 0)]), (12, [(.ldc 57, 2, 0, 0, (-1000000002)), (.ireturn, 1, 0, 0, 0)]), (15, [(.aload_n 0, 1, 0, 0, 0), (.getfield 58, 3, 9, 11, 0), (.sipush 200, 3, 0, 0, 200), (.if_icmp .ne 6, 3, 28, 0, 0)]), (25, [(.ldc 61, 2, 0, 0, (-1000000004)), (.ireturn, 1, 0, 0, 0)]), (28, [(.aload_n 0, 1, 0, 0, 0), (.getfield 29, 3, 9, 10, 1), (.aload_n 0, 1, 0, 0, 0), (.getfield 58, 3, 9, 11, 0), (.iload_n 1, 1, 1, 0, 0), (.iastore, 1, 0, 0, 0), (.aload_n 0, 1, 0, 0, 0), (.dup, 1, 0, 0, 0), (.getfield 58, 3, 9, 11, 0), (.iconst 1, 1, 0, 0, 1), (.iadd, 1, 0, 0, 0), (.putfield 58, 3, 9, 11, 0), (.aload_n 0, 1, 0, 0, 0), (.getfield 58, 3, 9, 11, 0), (.ireturn, 1, 0, 0, 0)])]
def pg_b109 : List (Nat × List am_E) := [(0, [(.aload_n 0, 1, 0, 0, 0), (.getfield 62, 3, 9, 12, 0), (.aload_n 0, 1, 0, 0, 0), (.getfield 58, 3, 9, 11, 0), (.if_icmp .ge 30, 3, 38, 0, 0)]), (11, [(.aload_n 0, 1, 0, 0, 0), (.getfield 29, 3, 9, 10, 1), (.aload_n 0, 1, 0, 0, 0), (.getfield 62, 3, 9, 12, 0), (.iaload, 1, 0, 0, 0), (.bipush 32, 2, 0, 0, 32), (.if_icmp .ne 16, 3, 38, 0, 0)]), (25, [(.aload_n 0, 1, 0, 0, 0), (.dup, 1, 0, 0, 0), (.getfield 62, 3, 9, 12, 0), (.iconst 1, 1, 0, 0, 1), (.iadd, 1, 0, 0, 0), (.putfield 62, 3, 9, 12, 0), (.goto (-35), 3, 0, 0, 0)]), (38, [(.aload_n 0, 1, 0, 0, 0), (.getfield 62, 3, 9, 12, 0), (.aload_n 0, 1, 0, 0, 0), (.getfield 58, 3, 9, 11, 0), (.if_icmp .ge 15, 3, 61, 0, 0)]), (49, [(.aload_n 0, 1, 0, 0, 0), (.getfield 29, 3, 9, 10, 1), (.aload_n 0, 1, 0, 0, 0), (.getfield 62, 3, 9, 12, 0), (.iaload, 1, 0, 0, 0), (.goto 4, 3, 62, 0, 0)]), (61, [(.iconst (-1), 1, 0, 0, (-1))]), (62, [(.ireturn, 1, 0, 0, 0)])]
def pg_b110 : List (Nat × List am_E) := [(0, [(.iload_n 1, 1, 1, 0, 0), (.ifCond .ne 20, 3, 21, 0, 0)]), (4, [(.aload_n 0, 1, 0, 0, 0), (.getfield 65, 3, 9, 14, 0), (.ifCond .ne 13, 3, 21, 0, 0)]), (11, [(.aload_n 0, 1, 0, 0, 0), (.iload_n 2, 1, 2, 0, 0), (.putfield 65, 3, 9, 14, 0), (.aload_n 0, 1, 0, 0, 0), (.iload_n 3, 1, 3, 0, 0), (.putfield 32, 3, 9, 15, 0)]), (21, [(.aload_n 0, 1, 0, 0, 0), (.getfield 65, 3, 9, 14, 0), (.ifCond .ne 7, 3, 32, 0, 0)]), (28, [(.iconst 1, 1, 0, 0, 1), (.goto 4, 3, 33, 0, 0)]), (32, [(.iconst 0, 1, 0, 0, 0)]), (33, [(.ireturn, 1, 1, 0, 0)])]
def pg_b111 : List (Nat × List am_E) := [(0, [(.aload_n 0, 1, 0, 0, 0), (.getfield 65, 3, 9, 14, 0), (.ifCond .le 5, 3, 9, 0, 0)]), (7, [(.iconst 0, 1, 0, 0, 0), (.ireturn, 1, 0, 0, 0)]), (9, [(.aload_n 0, 1, 0, 0, 0), (.invokevirtual 68, 3, 109, 1, 9)]), (13, [(.istore_n 1, 1, 1, 0, 0), (.aload_n 0, 1, 0, 0, 0), (.aload_n 0, 1, 0, 0, 0), (.getfield 62, 3, 9, 12, 0), (.putfield 72, 3, 9, 13, 0), (.aload_n 0, 1, 0, 0, 0), (.iload_n 1, 1, 1, 0, 0), (.i2l, 1, 0, 0, 0), (.ldc2_w 75, 3, 0, 0, 48), (.ldc2_w 77, 3, 0, 0, 57), (.invokestatic 53, 3, 105, 3, 0)]), (34, [(.iconst 1, 1, 0, 0, 1), (.aload_n 0, 1, 0, 0, 0), (.getfield 62, 3, 9, 12, 0), (.invokevirtual 79, 3, 110, 4, 9)]), (42, [(.ifCond .ne 5, 3, 47, 0, 0)]), (45, [(.iconst 0, 1, 0, 0, 0), (.ireturn, 1, 0, 0, 0)]), (47, [(.iconst 0, 1, 0, 0, 0), (.istore_n 2, 1, 2, 0, 0)]), (49, [(.aload_n 0, 1, 0, 0, 0), (.getfield 62, 3, 9, 12, 0), (.aload_n 0, 1, 0, 0, 0), (.getfield 58, 3, 9, 11, 0), (.if_icmp .ge 66, 3, 123, 0, 0)]), (60, [(.aload_n 0, 1, 0, 0, 0), (.getfield 29, 3, 9, 10, 1), (.aload_n 0, 1, 0, 0, 0), (.getfield 62, 3, 9, 12, 0), (.iaload, 1, 0, 0, 0), (.i2l, 1, 0, 0, 0), (.ldc2_w 75, 3, 0, 0, 48), (.ldc2_w 77, 3, 0, 0, 57), (.invokestatic 53, 3, 105, 3, 0)]), (79, [(.ifCond .eq 44, 3, 123, 0, 0)]), (82, [(.iload_n 2, 1, 2, 0, 0), (.ldc 83, 2, 0, 0, 99999), (.if_icmp .le 7, 3, 92, 0, 0)]), (88, [(.iload_n 2, 1, 2, 0, 0), (.goto 20, 3, 109, 0, 0)]), (92, [(.bipush 10, 2, 0, 0, 10), (.iload_n 2, 1, 2, 0, 0), (.imul, 1, 0, 0, 0), (.aload_n 0, 1, 0, 0, 0), (.getfield 29, 3, 9, 10, 1), (.aload_n 0, 1, 0, 0, 0), (.getfield 62, 3, 9, 12, 0), (.iaload, 1, 0, 0, 0), (.iadd, 1, 0, 0, 0), (.bipush 48, 2, 0, 0, 48), (.isub, 1, 0, 0, 0)]), (109, [(.istore_n 2, 1, 2, 0, 0), (.aload_n 0, 1, 0, 0, 0), (.dup, 1, 0, 0, 0), (.getfield 62, 3, 9, 12, 0), (.iconst 1, 1, 0, 0, 1), (.iadd, 1, 0, 0, 0), (.putfield 62, 3, 9, 12, 0), (.goto (-71), 3, 49, 0, 0)]), (123, [(.aload_n 0, 1, 0, 0, 0), (.aload_n 0, 1, 0, 0, 0), (.getfield 62, 3, 9, 12, 0), (.aload_n 0, 1, 0, 0, 0), (.getfield 72, 3, 9, 13, 0), (.isub, 1, 0, 0, 0), (.iconst 4, 1, 0, 0, 4), (.if_icmp .ge 7, 3, 141, 0, 0)]), (137, [(.iconst 1, 1, 0, 0, 1), (.goto 4, 3, 142, 0, 0)]), (141, [(.iconst 0, 1, 0, 0, 0)]), (142, [(.iconst 2, 1, 0, 0, 2), (.aload_n 0, 1, 0, 0, 0), (.getfield 72, 3, 9, 13, 0), (.invokevirtual 79, 3, 110, 4, 9)]), (150, [(.istore_n 3, 1, 3, 0, 0), (.iload_n 2, 1, 2, 0, 0), (.ireturn, 1, 0, 0, 0)])]
def pg_b112 : List (Nat × List am_E) := [(0, [(.aload_n 0, 1, 0, 0, 0), (.invokevirtual 84, 3, 111, 1, 9)]), (4, [(.istore_n 3, 1, 3, 0, 0), (.aload_n 0, 1, 0, 0, 0), (.aload_n 0, 1, 0, 0, 0), (.getfield 65, 3, 9, 14, 0), (.ifCond .gt 15, 3, 25, 0, 0)]), (13, [(.iload_n 3, 1, 3, 0, 0), (.i2l, 1, 0, 0, 0), (.iload_n 1, 1, 1, 0, 0), (.i2l, 1, 0, 0, 0), (.iload_n 2, 1, 2, 0, 0), (.i2l, 1, 0, 0, 0), (.invokestatic 53, 3, 105, 3, 0)]), (22, [(.ifCond .eq 7, 3, 29, 0, 0)]), (25, [(.iconst 1, 1, 0, 0, 1), (.goto 4, 3, 30, 0, 0)]), (29, [(.iconst 0, 1, 0, 0, 0)]), (30, [(.iconst 2, 1, 0, 0, 2), (.aload_n 0, 1, 0, 0, 0), (.getfield 72, 3, 9, 13, 0), (.invokevirtual 79, 3, 110, 4, 9)]), (38, [(.istore 4, 2, 4, 0, 0), (.aload_n 0, 1, 0, 0, 0), (.getfield 65, 3, 9, 14, 0), (.ifCond .le 7, 3, 51, 0, 0)]), (47, [(.iconst 0, 1, 0, 0, 0), (.goto 4, 3, 52, 0, 0)]), (51, [(.iload_n 3, 1, 3, 0, 0)]), (52, [(.ireturn, 1, 0, 0, 0)])]
def pg_b113 : List (Nat × List am_E) := [(0, [(.aload_n 0, 1, 0, 0, 0), (.aload_n 0, 1, 0, 0, 0), (.getfield 65, 3, 9, 14, 0), (.ifCond .gt 12, 3, 17, 0, 0)]), (8, [(.aload_n 0, 1, 0, 0, 0), (.invokevirtual 68, 3, 109, 1, 9)]), (12, [(.bipush 44, 2, 0, 0, 44), (.if_icmp .ne 7, 3, 21, 0, 0)]), (17, [(.iconst 1, 1, 0, 0, 1), (.goto 4, 3, 22, 0, 0)]), (21, [(.iconst 0, 1, 0, 0, 0)]), (22, [(.iconst 1, 1, 0, 0, 1), (.aload_n 0, 1, 0, 0, 0), (.getfield 62, 3, 9, 12, 0), (.invokevirtual 79, 3, 110, 4, 9)]), (30, [(.ifCond .eq 13, 3, 43, 0, 0)]), (33, [(.aload_n 0, 1, 0, 0, 0), (.dup, 1, 0, 0, 0), (.getfield 62, 3, 9, 12, 0), (.iconst 1, 1, 0, 0, 1), (.iadd, 1, 0, 0, 0), (.putfield 62, 3, 9, 12, 0)]), (43, [(.return_, 1, 0, 0, 0)])]
def pg_b114 : List (Nat × List am_E) := [(0, [(.aload_n 0, 1, 0, 0, 0), (.aload_n 0, 1, 0, 0, 0), (.getfield 87, 3, 9, 7, 0), (.bipush 8, 2, 0, 0, 8), (.if_icmp .ge 7, 3, 14, 0, 0)]), (10, [(.iconst 1, 1, 0, 0, 1), (.goto 4, 3, 15, 0, 0)]), (14, [(.iconst 0, 1, 0, 0, 0)]), (15, [(.iconst 3, 1, 0, 0, 3), (.iload_n 1, 1, 1, 0, 0), (.invokevirtual 79, 3, 110, 4, 9)]), (20, [(.ifCond .ne 4, 3, 24, 0, 0)]), (23, [(.return_, 1, 0, 0, 0)]), (24, [(.aload_n 0, 1, 0, 0, 0), (.getfield 87, 3, 9, 7, 0), (.istore_n 2, 1, 2, 0, 0), (.iconst 0, 1, 0, 0, 0), (.istore_n 3, 1, 3, 0, 0)]), (31, [(.iload_n 3, 1, 3, 0, 0), (.iload_n 2, 1, 2, 0, 0), (.if_icmp .ge 58, 3, 91, 0, 0)]), (36, [(.iload_n 3, 1, 3, 0, 0), (.ifCond .le 7, 3, 44, 0, 0)]), (40, [(.aload_n 0, 1, 0, 0, 0), (.invokevirtual 90, 3, 113, 1, 9)]), (44, [(.aload_n 0, 1, 0, 0, 0), (.iconst 0, 1, 0, 0, 0), (.bipush 9, 2, 0, 0, 9), (.invokevirtual 93, 3, 112, 3, 9)]), (51, [(.istore 4, 2, 4, 0, 0), (.aload_n 0, 1, 0, 0, 0), (.getfield 17, 3, 9, 2, 1), (.bipush 64, 2, 0, 0, 64), (.bipush 8, 2, 0, 0, 8), (.iload_n 2, 1, 2, 0, 0), (.imul, 1, 0, 0, 0), (.iadd, 1, 0, 0, 0), (.iload_n 3, 1, 3, 0, 0), (.iadd, 1, 0, 0, 0), (.iload 4, 2, 4, 0, 0), (.iastore, 1, 0, 0, 0), (.aload_n 0, 1, 0, 0, 0), (.getfield 17, 3, 9, 2, 1), (.bipush 64, 2, 0, 0, 64), (.bipush 8, 2, 0, 0, 8), (.iload_n 3, 1, 3, 0, 0), (.imul, 1, 0, 0, 0), (.iadd, 1, 0, 0, 0), (.iload_n 2, 1, 2, 0, 0), (.iadd, 1, 0, 0, 0), (.iload 4, 2, 4, 0, 0), (.iastore, 1, 0, 0, 0), (.iinc 3 1, 3, 3, 0, 1), (.goto (-57), 3, 31, 0, 0)]), (91, [(.aload_n 0, 1, 0, 0, 0), (.getfield 17, 3, 9, 2, 1), (.bipush 64, 2, 0, 0, 64), (.bipush 9, 2, 0, 0, 9), (.iload_n 2, 1, 2, 0, 0), (.imul, 1, 0, 0, 0), (.iadd, 1, 0, 0, 0), (.bipush 9, 2, 0, 0, 9), (.iastore, 1, 0, 0, 0), (.aload_n 0, 1, 0, 0, 0), (.dup, 1, 0, 0, 0), (.getfield 87, 3, 9, 7, 0), (.iconst 1, 1, 0, 0, 1), (.iadd, 1, 0, 0, 0), (.putfield 87, 3, 9, 7, 0), (.return_, 1, 0, 0, 0)])]
def pg_b115 : List (Nat × List am_E) := [(0, [(.aload_n 0, 1, 0, 0, 0), (.iconst 0, 1, 0, 0, 0), (.aload_n 0, 1, 0, 0, 0), (.getfield 87, 3, 9, 7, 0), (.iconst 1, 1, 0, 0, 1), (.isub, 1, 0, 0, 0), (.invokevirtual 93, 3, 112, 3, 9)]), (11, [(.istore_n 2, 1, 2, 0, 0), (.aload_n 0, 1, 0, 0, 0), (.aload_n 0, 1, 0, 0, 0), (.getfield 65, 3, 9, 14, 0), (.ifCond .gt 11, 3, 28, 0, 0)]), (20, [(.iload_n 1, 1, 1, 0, 0), (.iload_n 2, 1, 2, 0, 0), (.invokestatic 97, 3, 107, 2, 0)]), (25, [(.ifCond .ne 7, 3, 32, 0, 0)]), (28, [(.iconst 1, 1, 0, 0, 1), (.goto 4, 3, 33, 0, 0)]), (32, [(.iconst 0, 1, 0, 0, 0)]), (33, [(.iconst 4, 1, 0, 0, 4), (.aload_n 0, 1, 0, 0, 0), (.getfield 72, 3, 9, 13, 0), (.invokevirtual 79, 3, 110, 4, 9)]), (41, [(.istore_n 3, 1, 3, 0, 0), (.iload_n 2, 1, 2, 0, 0), (.ireturn, 1, 0, 0, 0)])]
def pg_b116 : List (Nat × List am_E) := [(0, [(.aload_n 0, 1, 0, 0, 0), (.aload_n 0, 1, 0, 0, 0), (.getfield 101, 3, 9, 9, 0), (.bipush 6, 2, 0, 0, 6), (.if_icmp .ge 7, 3, 14, 0, 0)]), (10, [(.iconst 1, 1, 0, 0, 1), (.goto 4, 3, 15, 0, 0)]), (14, [(.iconst 0, 1, 0, 0, 0)]), (15, [(.iconst 3, 1, 0, 0, 3), (.iload_n 1, 1, 1, 0, 0), (.invokevirtual 79, 3, 110, 4, 9)]), (20, [(.ifCond .ne 4, 3, 24, 0, 0)]), (23, [(.return_, 1, 0, 0, 0)]), (24, [(.bipush 6, 2, 0, 0, 6), (.aload_n 0, 1, 0, 0, 0), (.getfield 101, 3, 9, 9, 0), (.iadd, 1, 0, 0, 0), (.istore_n 2, 1, 2, 0, 0), (.aload_n 0, 1, 0, 0, 0), (.getfield 26, 3, 9, 5, 1), (.iload_n 2, 1, 2, 0, 0), (.aload_n 0, 1, 0, 0, 0), (.iconst 0, 1, 0, 0, 0), (.iconst 3, 1, 0, 0, 3), (.invokevirtual 93, 3, 112, 3, 9)]), (43, [(.iastore, 1, 0, 0, 0), (.iconst 0, 1, 0, 0, 0), (.istore_n 3, 1, 3, 0, 0), (.iconst 0, 1, 0, 0, 0), (.istore 4, 2, 4, 0, 0), (.aload_n 0, 1, 0, 0, 0), (.getfield 65, 3, 9, 14, 0), (.ifCond .ne 7, 3, 60, 0, 0)]), (56, [(.iconst 1, 1, 0, 0, 1), (.goto 4, 3, 61, 0, 0)]), (60, [(.iconst 0, 1, 0, 0, 0)]), (61, [(.istore 5, 2, 5, 0, 0)]), (63, [(.iload 5, 2, 5, 0, 0), (.ifCond .eq 164, 3, 229, 0, 0)]), (68, [(.aload_n 0, 1, 0, 0, 0), (.iload_n 3, 1, 3, 0, 0), (.invokevirtual 104, 3, 115, 2, 9)]), (73, [(.istore 6, 2, 6, 0, 0), (.iload_n 3, 1, 3, 0, 0), (.iconst 1, 1, 0, 0, 1), (.iload 6, 2, 6, 0, 0), (.ishl, 1, 0, 0, 0), (.ior, 1, 0, 0, 0), (.istore_n 3, 1, 3, 0, 0), (.aload_n 0, 1, 0, 0, 0), (.getfield 20, 3, 9, 3, 1), (.bipush 6, 2, 0, 0, 6), (.iload_n 2, 1, 2, 0, 0), (.imul, 1, 0, 0, 0), (.iload 4, 2, 4, 0, 0), (.iadd, 1, 0, 0, 0), (.iload 6, 2, 6, 0, 0), (.iastore, 1, 0, 0, 0), (.iinc 4 1, 3, 4, 0, 1), (.aload_n 0, 1, 0, 0, 0), (.invokevirtual 68, 3, 109, 1, 9)]), (103, [(.bipush 44, 2, 0, 0, 44), (.if_icmp .ne 7, 3, 112, 0, 0)]), (108, [(.iconst 1, 1, 0, 0, 1), (.goto 4, 3, 113, 0, 0)]), (112, [(.iconst 0, 1, 0, 0, 0)]), (113, [(.istore 7, 2, 7, 0, 0), (.aload_n 0, 1, 0, 0, 0), (.aload_n 0, 1, 0, 0, 0), (.getfield 65, 3, 9, 14, 0), (.ifCond .gt 14, 3, 134, 0, 0)]), (123, [(.iload 7, 2, 7, 0, 0), (.ifCond .ne 9, 3, 134, 0, 0)]), (128, [(.iload 4, 2, 4, 0, 0), (.iconst 1, 1, 0, 0, 1), (.if_icmp .le 7, 3, 138, 0, 0)]), (134, [(.iconst 1, 1, 0, 0, 1), (.goto 4, 3, 139, 0, 0)]), (138, [(.iconst 0, 1, 0, 0, 0)]), (139, [(.iconst 1, 1, 0, 0, 1), (.aload_n 0, 1, 0, 0, 0), (.getfield 62, 3, 9, 12, 0), (.invokevirtual 79, 3, 110, 4, 9)]), (147, [(.istore 8, 2, 8, 0, 0), (.aload_n 0, 1, 0, 0, 0), (.getfield 65, 3, 9, 14, 0), (.ifCond .ne 12, 3, 165, 0, 0)]), (156, [(.iload 7, 2, 7, 0, 0), (.ifCond .eq 7, 3, 165, 0, 0)]), (161, [(.iconst 1, 1, 0, 0, 1), (.goto 4, 3, 166, 0, 0)]), (165, [(.iconst 0, 1, 0, 0, 0)]), (166, [(.istore 5, 2, 5, 0, 0), (.iload 5, 2, 5, 0, 0), (.ifCond .eq 37, 3, 207, 0, 0)]), (173, [(.aload_n 0, 1, 0, 0, 0), (.iload 4, 2, 4, 0, 0), (.bipush 6, 2, 0, 0, 6), (.if_icmp .ge 7, 3, 185, 0, 0)]), (181, [(.iconst 1, 1, 0, 0, 1), (.goto 4, 3, 186, 0, 0)]), (185, [(.iconst 0, 1, 0, 0, 0)]), (186, [(.iconst 1, 1, 0, 0, 1), (.aload_n 0, 1, 0, 0, 0), (.getfield 62, 3, 9, 12, 0), (.invokevirtual 79, 3, 110, 4, 9)]), (194, [(.ifCond .eq 13, 3, 207, 0, 0)]), (197, [(.aload_n 0, 1, 0, 0, 0), (.dup, 1, 0, 0, 0), (.getfield 62, 3, 9, 12, 0), (.iconst 1, 1, 0, 0, 1), (.iadd, 1, 0, 0, 0), (.putfield 62, 3, 9, 12, 0)]), (207, [(.iload 5, 2, 5, 0, 0), (.ifCond .eq 14, 3, 223, 0, 0)]), (212, [(.aload_n 0, 1, 0, 0, 0), (.getfield 65, 3, 9, 14, 0), (.ifCond .ne 7, 3, 223, 0, 0)]), (219, [(.iconst 1, 1, 0, 0, 1), (.goto 4, 3, 224, 0, 0)]), (223, [(.iconst 0, 1, 0, 0, 0)]), (224, [(.istore 5, 2, 5, 0, 0), (.goto (-163), 3, 63, 0, 0)]), (229, [(.aload_n 0, 1, 0, 0, 0), (.getfield 23, 3, 9, 4, 1), (.iload_n 2, 1, 2, 0, 0), (.iload 4, 2, 4, 0, 0), (.iastore, 1, 0, 0, 0), (.aload_n 0, 1, 0, 0, 0), (.dup, 1, 0, 0, 0), (.getfield 101, 3, 9, 9, 0), (.iconst 1, 1, 0, 0, 1), (.iadd, 1, 0, 0, 0), (.putfield 101, 3, 9, 9, 0), (.return_, 1, 0, 0, 0)])]
def pg_b117 : List (Nat × List am_E) := [(0, [(.aload_n 0, 1, 0, 0, 0), (.invokevirtual 68, 3, 109, 1, 9)]), (4, [(.istore_n 1, 1, 1, 0, 0), (.aload_n 0, 1, 0, 0, 0), (.getfield 62, 3, 9, 12, 0), (.istore_n 2, 1, 2, 0, 0), (.aload_n 0, 1, 0, 0, 0), (.dup, 1, 0, 0, 0), (.getfield 62, 3, 9, 12, 0), (.iconst 1, 1, 0, 0, 1), (.iadd, 1, 0, 0, 0), (.putfield 62, 3, 9, 12, 0), (.iload_n 1, 1, 1, 0, 0), (.bipush 112, 2, 0, 0, 112), (.if_icmp .ne 11, 3, 34, 0, 0)]), (26, [(.aload_n 0, 1, 0, 0, 0), (.iload_n 2, 1, 2, 0, 0), (.invokevirtual 108, 3, 114, 2, 9)]), (31, [(.goto 28, 3, 59, 0, 0)]), (34, [(.aload_n 0, 1, 0, 0, 0), (.iload_n 1, 1, 1, 0, 0), (.bipush 108, 2, 0, 0, 108), (.if_icmp .ne 7, 3, 45, 0, 0)]), (41, [(.iconst 1, 1, 0, 0, 1), (.goto 4, 3, 46, 0, 0)]), (45, [(.iconst 0, 1, 0, 0, 0)]), (46, [(.iconst 1, 1, 0, 0, 1), (.iload_n 2, 1, 2, 0, 0), (.invokevirtual 79, 3, 110, 4, 9)]), (51, [(.ifCond .eq 8, 3, 59, 0, 0)]), (54, [(.aload_n 0, 1, 0, 0, 0), (.iload_n 2, 1, 2, 0, 0), (.invokevirtual 112, 3, 116, 2, 9)]), (59, [(.return_, 1, 0, 0, 0)])]
def pg_b118 : List (Nat × List am_E) := [(0, [(.aload_n 0, 1, 0, 0, 0), (.iconst 0, 1, 0, 0, 0), (.putfield 62, 3, 9, 12, 0), (.aload_n 0, 1, 0, 0, 0), (.iconst 0, 1, 0, 0, 0), (.putfield 65, 3, 9, 14, 0), (.aload_n 0, 1, 0, 0, 0), (.iconst (-1), 1, 0, 0, (-1)), (.putfield 32, 3, 9, 15, 0), (.aload_n 0, 1, 0, 0, 0), (.iconst 0, 1, 0, 0, 0), (.putfield 87, 3, 9, 7, 0), (.aload_n 0, 1, 0, 0, 0), (.iconst 0, 1, 0, 0, 0), (.putfield 101, 3, 9, 9, 0)]), (25, [(.aload_n 0, 1, 0, 0, 0), (.getfield 65, 3, 9, 14, 0), (.ifCond .ne 60, 3, 89, 0, 0)]), (32, [(.aload_n 0, 1, 0, 0, 0), (.invokevirtual 68, 3, 109, 1, 9)]), (36, [(.ifCond .lt 53, 3, 89, 0, 0)]), (39, [(.aload_n 0, 1, 0, 0, 0), (.invokevirtual 115, 3, 117, 1, 9)]), (43, [(.aload_n 0, 1, 0, 0, 0), (.getfield 65, 3, 9, 14, 0), (.ifCond .ne (-22), 3, 25, 0, 0)]), (50, [(.aload_n 0, 1, 0, 0, 0), (.aload_n 0, 1, 0, 0, 0), (.invokevirtual 68, 3, 109, 1, 9)]), (55, [(.bipush 59, 2, 0, 0, 59), (.if_icmp .ne 7, 3, 64, 0, 0)]), (60, [(.iconst 1, 1, 0, 0, 1), (.goto 4, 3, 65, 0, 0)]), (64, [(.iconst 0, 1, 0, 0, 0)]), (65, [(.iconst 1, 1, 0, 0, 1), (.aload_n 0, 1, 0, 0, 0), (.getfield 62, 3, 9, 12, 0), (.invokevirtual 79, 3, 110, 4, 9)]), (73, [(.ifCond .eq (-48), 3, 25, 0, 0)]), (76, [(.aload_n 0, 1, 0, 0, 0), (.dup, 1, 0, 0, 0), (.getfield 62, 3, 9, 12, 0), (.iconst 1, 1, 0, 0, 1), (.iadd, 1, 0, 0, 0), (.putfield 62, 3, 9, 12, 0), (.goto (-61), 3, 25, 0, 0)]), (89, [(.aload_n 0, 1, 0, 0, 0), (.iconst 0, 1, 0, 0, 0), (.putfield 58, 3, 9, 11, 0), (.aload_n 0, 1, 0, 0, 0), (.getfield 65, 3, 9, 14, 0), (.ifCond .le 11, 3, 109, 0, 0)]), (101, [(.bipush (-10), 2, 0, 0, (-10)), (.aload_n 0, 1, 0, 0, 0), (.getfield 65, 3, 9, 14, 0), (.isub, 1, 0, 0, 0), (.ireturn, 1, 0, 0, 0)]), (109, [(.aload_n 0, 1, 0, 0, 0), (.invokevirtual 118, 3, 119, 1, 9)]), (113, [(.aload_n 0, 1, 0, 0, 0), (.getfield 121, 3, 9, 6, 0), (.ireturn, 1, 0, 0, 0)])]
def pg_b119 : List (Nat × List am_E) := [(0, [(.aload_n 0, 1, 0, 0, 0), (.aload_n 0, 1, 0, 0, 0), (.getfield 87, 3, 9, 7, 0), (.putfield 121, 3, 9, 6, 0), (.aload_n 0, 1, 0, 0, 0), (.aload_n 0, 1, 0, 0, 0), (.getfield 101, 3, 9, 9, 0), (.putfield 124, 3, 9, 8, 0), (.iconst 0, 1, 0, 0, 0), (.istore_n 1, 1, 1, 0, 0)]), (18, [(.iload_n 1, 1, 1, 0, 0), (.bipush 64, 2, 0, 0, 64), (.if_icmp .ge 24, 3, 45, 0, 0)]), (24, [(.aload_n 0, 1, 0, 0, 0), (.getfield 7, 3, 9, 0, 1), (.iload_n 1, 1, 1, 0, 0), (.aload_n 0, 1, 0, 0, 0), (.getfield 17, 3, 9, 2, 1), (.bipush 64, 2, 0, 0, 64), (.iload_n 1, 1, 1, 0, 0), (.iadd, 1, 0, 0, 0), (.iaload, 1, 0, 0, 0), (.iastore, 1, 0, 0, 0), (.iinc 1 1, 3, 1, 0, 1), (.goto (-24), 3, 18, 0, 0)]), (45, [(.iconst 0, 1, 0, 0, 0), (.istore_n 1, 1, 1, 0, 0)]), (47, [(.iload_n 1, 1, 1, 0, 0), (.bipush 8, 2, 0, 0, 8), (.if_icmp .ge 19, 3, 69, 0, 0)]), (53, [(.aload_n 0, 1, 0, 0, 0), (.getfield 7, 3, 9, 0, 1), (.bipush 64, 2, 0, 0, 64), (.iload_n 1, 1, 1, 0, 0), (.iadd, 1, 0, 0, 0), (.iload_n 1, 1, 1, 0, 0), (.iastore, 1, 0, 0, 0), (.iinc 1 1, 3, 1, 0, 1), (.goto (-19), 3, 47, 0, 0)]), (69, [(.iconst 0, 1, 0, 0, 0), (.istore_n 1, 1, 1, 0, 0)]), (71, [(.iload_n 1, 1, 1, 0, 0), (.bipush 6, 2, 0, 0, 6), (.if_icmp .ge 117, 3, 191, 0, 0)]), (77, [(.aload_n 0, 1, 0, 0, 0), (.getfield 23, 3, 9, 4, 1), (.iload_n 1, 1, 1, 0, 0), (.aload_n 0, 1, 0, 0, 0), (.getfield 23, 3, 9, 4, 1), (.bipush 6, 2, 0, 0, 6), (.iload_n 1, 1, 1, 0, 0), (.iadd, 1, 0, 0, 0), (.iaload, 1, 0, 0, 0), (.iastore, 1, 0, 0, 0), (.aload_n 0, 1, 0, 0, 0), (.getfield 26, 3, 9, 5, 1), (.iload_n 1, 1, 1, 0, 0), (.aload_n 0, 1, 0, 0, 0), (.getfield 26, 3, 9, 5, 1), (.bipush 6, 2, 0, 0, 6), (.iload_n 1, 1, 1, 0, 0), (.iadd, 1, 0, 0, 0), (.iaload, 1, 0, 0, 0), (.iastore, 1, 0, 0, 0), (.iconst 0, 1, 0, 0, 0), (.istore_n 2, 1, 2, 0, 0)]), (109, [(.iload_n 2, 1, 2, 0, 0), (.bipush 6, 2, 0, 0, 6), (.if_icmp .ge 34, 3, 146, 0, 0)]), (115, [(.aload_n 0, 1, 0, 0, 0), (.getfield 20, 3, 9, 3, 1), (.bipush 6, 2, 0, 0, 6), (.iload_n 1, 1, 1, 0, 0), (.imul, 1, 0, 0, 0), (.iload_n 2, 1, 2, 0, 0), (.iadd, 1, 0, 0, 0), (.aload_n 0, 1, 0, 0, 0), (.getfield 20, 3, 9, 3, 1), (.bipush 6, 2, 0, 0, 6), (.bipush 6, 2, 0, 0, 6), (.iload_n 1, 1, 1, 0, 0), (.iadd, 1, 0, 0, 0), (.imul, 1, 0, 0, 0), (.iload_n 2, 1, 2, 0, 0), (.iadd, 1, 0, 0, 0), (.iaload, 1, 0, 0, 0), (.iastore, 1, 0, 0, 0), (.iinc 2 1, 3, 2, 0, 1), (.goto (-34), 3, 109, 0, 0)]), (146, [(.aload_n 0, 1, 0, 0, 0), (.getfield 7, 3, 9, 0, 1), (.bipush 72, 2, 0, 0, 72), (.iload_n 1, 1, 1, 0, 0), (.iadd, 1, 0, 0, 0), (.iload_n 1, 1, 1, 0, 0), (.aload_n 0, 1, 0, 0, 0), (.getfield 124, 3, 9, 8, 0), (.if_icmp .ge 24, 3, 183, 0, 0)]), (162, [(.aload_n 0, 1, 0, 0, 0), (.getfield 20, 3, 9, 3, 1), (.bipush 6, 2, 0, 0, 6), (.iload_n 1, 1, 1, 0, 0), (.imul, 1, 0, 0, 0), (.aload_n 0, 1, 0, 0, 0), (.getfield 23, 3, 9, 4, 1), (.iload_n 1, 1, 1, 0, 0), (.iaload, 1, 0, 0, 0), (.iadd, 1, 0, 0, 0), (.iconst 1, 1, 0, 0, 1), (.isub, 1, 0, 0, 0), (.iaload, 1, 0, 0, 0), (.goto 4, 3, 184, 0, 0)]), (183, [(.iconst 0, 1, 0, 0, 0)]), (184, [(.iastore, 1, 0, 0, 0), (.iinc 1 1, 3, 1, 0, 1), (.goto (-117), 3, 71, 0, 0)]), (191, [(.aload_n 0, 1, 0, 0, 0), (.getfield 7, 3, 9, 0, 1), (.bipush 78, 2, 0, 0, 78), (.iconst 0, 1, 0, 0, 0), (.iastore, 1, 0, 0, 0), (.aload_n 0, 1, 0, 0, 0), (.getfield 7, 3, 9, 0, 1), (.bipush 79, 2, 0, 0, 79), (.iconst 0, 1, 0, 0, 0), (.iastore, 1, 0, 0, 0), (.aload_n 0, 1, 0, 0, 0), (.getfield 7, 3, 9, 0, 1), (.bipush 80, 2, 0, 0, 80), (.iconst 0, 1, 0, 0, 0), (.iastore, 1, 0, 0, 0), (.aload_n 0, 1, 0, 0, 0), (.iconst 0, 1, 0, 0, 0), (.putfield 127, 3, 9, 20, 0), (.aload_n 0, 1, 0, 0, 0), (.iconst 0, 1, 0, 0, 0), (.putfield 130, 3, 9, 23, 0), (.aload_n 0, 1, 0, 0, 0), (.iconst 0, 1, 0, 0, 0), (.putfield 133, 3, 9, 16, 0), (.aload_n 0, 1, 0, 0, 0), (.getfield 13, 3, 9, 1, 1), (.iconst 0, 1, 0, 0, 0), (.iconst 0, 1, 0, 0, 0), (.bastore, 1, 0, 0, 0), (.aload_n 0, 1, 0, 0, 0), (.getfield 13, 3, 9, 1, 1), (.iconst 1, 1, 0, 0, 1), (.iconst 0, 1, 0, 0, 0), (.bastore, 1, 0, 0, 0), (.return_, 1, 0, 0, 0)])]
def pg_b120 : List (Nat × List am_E) := [(0, [(.aload_n 0, 1, 0, 0, 0), (.getfield 32, 3, 9, 15, 0), (.ireturn, 1, 0, 0, 0)])]
def pg_b121 : List (Nat × List am_E) := [(0, [(.iload_n 1, 1, 1, 0, 0), (.i2l, 1, 0, 0, 0), (.lconst 0, 1, 0, 0, 0), (.aload_n 0, 1, 0, 0, 0), (.getfield 121, 3, 9, 6, 0), (.iconst 1, 1, 0, 0, 1), (.isub, 1, 0, 0, 0), (.i2l, 1, 0, 0, 0), (.invokestatic 53, 3, 105, 3, 0)]), (13, [(.ireturn, 1, 1, 0, 0)])]
def pg_b122 : List (Nat × List am_E) := [(0, [(.iload_n 1, 1, 1, 0, 0), (.i2l, 1, 0, 0, 0), (.lconst 0, 1, 0, 0, 0), (.aload_n 0, 1, 0, 0, 0), (.getfield 124, 3, 9, 8, 0), (.iconst 1, 1, 0, 0, 1), (.isub, 1, 0, 0, 0), (.i2l, 1, 0, 0, 0), (.invokestatic 53, 3, 105, 3, 0)]), (13, [(.ireturn, 1, 1, 0, 0)])]
def pg_b123 : List (Nat × List am_E) := [(0, [(.aload_n 0, 1, 0, 0, 0), (.getfield 7, 3, 9, 0, 1), (.iload_n 1, 1, 1, 0, 0), (.bipush 8, 2, 0, 0, 8), (.iload_n 2, 1, 2, 0, 0), (.imul, 1, 0, 0, 0), (.iadd, 1, 0, 0, 0), (.iload_n 3, 1, 3, 0, 0), (.iadd, 1, 0, 0, 0), (.iaload, 1, 0, 0, 0), (.ireturn, 1, 0, 0, 0)])]
def pg_b124 : List (Nat × List am_E) := [(0, [(.iload_n 2, 1, 2, 0, 0), (.iload_n 3, 1, 3, 0, 0), (.if_icmp .eq 19, 3, 21, 0, 0)]), (5, [(.aload_n 0, 1, 0, 0, 0), (.iload_n 1, 1, 1, 0, 0), (.iload_n 2, 1, 2, 0, 0), (.iload_n 3, 1, 3, 0, 0), (.invokevirtual 136, 3, 123, 4, 9)]), (12, [(.bipush 9, 2, 0, 0, 9), (.if_icmp .ge 7, 3, 21, 0, 0)]), (17, [(.iconst 1, 1, 0, 0, 1), (.goto 4, 3, 22, 0, 0)]), (21, [(.iconst 0, 1, 0, 0, 0)]), (22, [(.istore 4, 2, 4, 0, 0), (.aload_n 0, 1, 0, 0, 0), (.getfield 7, 3, 9, 0, 1), (.iload_n 1, 1, 1, 0, 0), (.bipush 8, 2, 0, 0, 8), (.iload_n 2, 1, 2, 0, 0), (.imul, 1, 0, 0, 0), (.iadd, 1, 0, 0, 0), (.iload_n 3, 1, 3, 0, 0), (.iadd, 1, 0, 0, 0), (.dup2, 1, 0, 0, 0), (.iaload, 1, 0, 0, 0), (.iload 4, 2, 4, 0, 0), (.invokestatic 140, 3, 106, 1, 0)]), (43, [(.iadd, 1, 0, 0, 0), (.iastore, 1, 0, 0, 0), (.aload_n 0, 1, 0, 0, 0), (.getfield 7, 3, 9, 0, 1), (.iload_n 1, 1, 1, 0, 0), (.bipush 8, 2, 0, 0, 8), (.iload_n 3, 1, 3, 0, 0), (.imul, 1, 0, 0, 0), (.iadd, 1, 0, 0, 0), (.iload_n 2, 1, 2, 0, 0), (.iadd, 1, 0, 0, 0), (.dup2, 1, 0, 0, 0), (.iaload, 1, 0, 0, 0), (.iload 4, 2, 4, 0, 0), (.invokestatic 140, 3, 106, 1, 0)]), (64, [(.iadd, 1, 0, 0, 0), (.iastore, 1, 0, 0, 0), (.iload 4, 2, 4, 0, 0), (.ireturn, 1, 1, 0, 0)])]
def pg_b125 : List (Nat × List am_E) := [(0, [(.iload_n 3, 1, 3, 0, 0), (.aload_n 0, 1, 0, 0, 0), (.getfield 23, 3, 9, 4, 1), (.iload_n 2, 1, 2, 0, 0), (.iaload, 1, 0, 0, 0), (.iconst 1, 1, 0, 0, 1), (.isub, 1, 0, 0, 0), (.if_icmp .ne 17, 3, 26, 0, 0)]), (12, [(.aload_n 0, 1, 0, 0, 0), (.getfield 7, 3, 9, 0, 1), (.iload_n 1, 1, 1, 0, 0), (.bipush 72, 2, 0, 0, 72), (.iadd, 1, 0, 0, 0), (.iload_n 2, 1, 2, 0, 0), (.iadd, 1, 0, 0, 0), (.iaload, 1, 0, 0, 0), (.goto 14, 3, 37, 0, 0)]), (26, [(.aload_n 0, 1, 0, 0, 0), (.getfield 20, 3, 9, 3, 1), (.bipush 6, 2, 0, 0, 6), (.iload_n 2, 1, 2, 0, 0), (.imul, 1, 0, 0, 0), (.iload_n 3, 1, 3, 0, 0), (.iadd, 1, 0, 0, 0), (.iaload, 1, 0, 0, 0)]), (37, [(.ireturn, 1, 0, 0, 0)])]
def pg_b126 : List (Nat × List am_E) := [(0, [(.iconst 0, 1, 0, 0, 0), (.istore 4, 2, 4, 0, 0)]), (3, [(.iload 4, 2, 4, 0, 0), (.aload_n 0, 1, 0, 0, 0), (.getfield 23, 3, 9, 4, 1), (.iload_n 2, 1, 2, 0, 0), (.iaload, 1, 0, 0, 0), (.if_icmp .ge 24, 3, 35, 0, 0)]), (14, [(.aload_n 0, 1, 0, 0, 0), (.iload_n 1, 1, 1, 0, 0), (.iload_n 2, 1, 2, 0, 0), (.iload 4, 2, 4, 0, 0), (.invokevirtual 144, 3, 125, 4, 9)]), (22, [(.iload_n 3, 1, 3, 0, 0), (.if_icmp .ne 6, 3, 29, 0, 0)]), (26, [(.iload 4, 2, 4, 0, 0), (.ireturn, 1, 0, 0, 0)]), (29, [(.iinc 4 1, 3, 4, 0, 1), (.goto (-29), 3, 3, 0, 0)]), (35, [(.iconst (-1), 1, 0, 0, (-1)), (.ireturn, 1, 0, 0, 0)])]
def pg_b127 : List (Nat × List am_E) := [(0, [(.aload_n 0, 1, 0, 0, 0), (.iload_n 1, 1, 1, 0, 0), (.iload_n 2, 1, 2, 0, 0), (.iload_n 3, 1, 3, 0, 0), (.invokevirtual 147, 3, 126, 4, 9)]), (7, [(.istore 4, 2, 4, 0, 0), (.iload 4, 2, 4, 0, 0), (.iconst (-1), 1, 0, 0, (-1)), (.if_icmp .eq 20, 3, 32, 0, 0)]), (15, [(.iload 4, 2, 4, 0, 0), (.aload_n 0, 1, 0, 0, 0), (.getfield 23, 3, 9, 4, 1), (.iload_n 2, 1, 2, 0, 0), (.iaload, 1, 0, 0, 0), (.iconst 1, 1, 0, 0, 1), (.isub, 1, 0, 0, 0), (.if_icmp .ge 7, 3, 32, 0, 0)]), (28, [(.iconst 1, 1, 0, 0, 1), (.goto 4, 3, 33, 0, 0)]), (32, [(.iconst 0, 1, 0, 0, 0)]), (33, [(.ireturn, 1, 1, 0, 0)])]
def pg_b128 : List (Nat × List am_E) := [(0, [(.iload 4, 2, 4, 0, 0), (.istore 6, 2, 6, 0, 0), (.iconst 1, 1, 0, 0, 1), (.istore 7, 2, 7, 0, 0)]), (7, [(.iload 7, 2, 7, 0, 0), (.ifCond .eq 76, 3, 85, 0, 0)]), (12, [(.iload 6, 2, 6, 0, 0), (.aload_n 0, 1, 0, 0, 0), (.getfield 23, 3, 9, 4, 1), (.iload_n 3, 1, 3, 0, 0), (.iaload, 1, 0, 0, 0), (.iconst 1, 1, 0, 0, 1), (.isub, 1, 0, 0, 0), (.if_icmp .ge 63, 3, 85, 0, 0)]), (25, [(.iload 6, 2, 6, 0, 0), (.iload 4, 2, 4, 0, 0), (.isub, 1, 0, 0, 0), (.iload 5, 2, 5, 0, 0), (.if_icmp .ge 53, 3, 85, 0, 0)]), (35, [(.aload_n 0, 1, 0, 0, 0), (.iload_n 1, 1, 1, 0, 0), (.iload_n 2, 1, 2, 0, 0), (.aload_n 0, 1, 0, 0, 0), (.iload_n 1, 1, 1, 0, 0), (.iload_n 3, 1, 3, 0, 0), (.iload 6, 2, 6, 0, 0), (.iconst 1, 1, 0, 0, 1), (.iadd, 1, 0, 0, 0), (.invokevirtual 144, 3, 125, 4, 9)]), (48, [(.invokevirtual 136, 3, 123, 4, 9)]), (51, [(.iload 6, 2, 6, 0, 0), (.iconst 1, 1, 0, 0, 1), (.iadd, 1, 0, 0, 0), (.aload_n 0, 1, 0, 0, 0), (.getfield 26, 3, 9, 5, 1), (.iload_n 3, 1, 3, 0, 0), (.iaload, 1, 0, 0, 0), (.imul, 1, 0, 0, 0), (.if_icmp .lt 7, 3, 69, 0, 0)]), (65, [(.iconst 1, 1, 0, 0, 1), (.goto 4, 3, 70, 0, 0)]), (69, [(.iconst 0, 1, 0, 0, 0)]), (70, [(.istore 7, 2, 7, 0, 0), (.iload 6, 2, 6, 0, 0), (.iload 7, 2, 7, 0, 0), (.invokestatic 140, 3, 106, 1, 0)]), (79, [(.iadd, 1, 0, 0, 0), (.istore 6, 2, 6, 0, 0), (.goto (-75), 3, 7, 0, 0)]), (85, [(.iload 6, 2, 6, 0, 0), (.ireturn, 1, 0, 0, 0)])]
def pg_b129 : List (Nat × List am_E) := [(0, [(.aload_n 0, 1, 0, 0, 0), (.getfield 7, 3, 9, 0, 1), (.iload_n 1, 1, 1, 0, 0), (.bipush 78, 2, 0, 0, 78), (.iadd, 1, 0, 0, 0), (.iaload, 1, 0, 0, 0), (.iload_n 2, 1, 2, 0, 0), (.invokestatic 97, 3, 107, 2, 0)]), (13, [(.ireturn, 1, 1, 0, 0)])]
def pg_b130 : List (Nat × List am_E) := [(0, [(.iconst 0, 1, 0, 0, 0), (.istore_n 1, 1, 1, 0, 0), (.iconst 0, 1, 0, 0, 0), (.istore_n 2, 1, 2, 0, 0)]), (4, [(.iload_n 2, 1, 2, 0, 0), (.aload_n 0, 1, 0, 0, 0), (.getfield 121, 3, 9, 6, 0), (.if_icmp .ge 37, 3, 46, 0, 0)]), (12, [(.iload_n 2, 1, 2, 0, 0), (.iconst 1, 1, 0, 0, 1), (.iadd, 1, 0, 0, 0), (.istore_n 3, 1, 3, 0, 0)]), (16, [(.iload_n 3, 1, 3, 0, 0), (.aload_n 0, 1, 0, 0, 0), (.getfield 121, 3, 9, 6, 0), (.if_icmp .ge 19, 3, 40, 0, 0)]), (24, [(.iload_n 1, 1, 1, 0, 0), (.aload_n 0, 1, 0, 0, 0), (.iconst 0, 1, 0, 0, 0), (.iload_n 2, 1, 2, 0, 0), (.iload_n 3, 1, 3, 0, 0), (.invokevirtual 136, 3, 123, 4, 9)]), (32, [(.iadd, 1, 0, 0, 0), (.istore_n 1, 1, 1, 0, 0), (.iinc 3 1, 3, 3, 0, 1), (.goto (-21), 3, 16, 0, 0)]), (40, [(.iinc 2 1, 3, 2, 0, 1), (.goto (-39), 3, 4, 0, 0)]), (46, [(.iload_n 1, 1, 1, 0, 0), (.ireturn, 1, 0, 0, 0)])]
def pg_b131 : List (Nat × List am_E) := [(0, [(.iload_n 1, 1, 1, 0, 0), (.tableswitch 124 0 10 #[59, 64, 69, 74, 82, 90, 98, 104, 109, 114, 119], 59, 0, 0, 0)]), (60, [(.aload_n 0, 1, 0, 0, 0), (.getfield 121, 3, 9, 6, 0), (.ireturn, 1, 0, 0, 0)]), (65, [(.aload_n 0, 1, 0, 0, 0), (.getfield 124, 3, 9, 8, 0), (.ireturn, 1, 0, 0, 0)]), (70, [(.aload_n 0, 1, 0, 0, 0), (.getfield 58, 3, 9, 11, 0), (.ireturn, 1, 0, 0, 0)]), (75, [(.aload_n 0, 1, 0, 0, 0), (.getfield 7, 3, 9, 0, 1), (.bipush 79, 2, 0, 0, 79), (.iaload, 1, 0, 0, 0), (.ireturn, 1, 0, 0, 0)]), (83, [(.aload_n 0, 1, 0, 0, 0), (.getfield 7, 3, 9, 0, 1), (.bipush 80, 2, 0, 0, 80), (.iaload, 1, 0, 0, 0), (.ireturn, 1, 0, 0, 0)]), (91, [(.aload_n 0, 1, 0, 0, 0), (.getfield 7, 3, 9, 0, 1), (.bipush 78, 2, 0, 0, 78), (.iaload, 1, 0, 0, 0), (.ireturn, 1, 0, 0, 0)]), (99, [(.aload_n 0, 1, 0, 0, 0), (.iconst 0, 1, 0, 0, 0), (.invokevirtual 150, 3, 161, 2, 9)]), (104, [(.ireturn, 1, 0, 0, 0)]), (105, [(.aload_n 0, 1, 0, 0, 0), (.invokevirtual 153, 3, 130, 1, 9)]), (109, [(.ireturn, 1, 0, 0, 0)]), (110, [(.aload_n 0, 1, 0, 0, 0), (.getfield 127, 3, 9, 20, 0), (.ireturn, 1, 0, 0, 0)]), (115, [(.aload_n 0, 1, 0, 0, 0), (.getfield 130, 3, 9, 23, 0), (.ireturn, 1, 0, 0, 0)]), (120, [(.aload_n 0, 1, 0, 0, 0), (.getfield 133, 3, 9, 16, 0), (.ireturn, 1, 0, 0, 0)]), (125, [(.ldc 57, 2, 0, 0, (-1000000002)), (.ireturn, 1, 0, 0, 0)])]
def pg_b132 : List (Nat × List am_E) := [(0, [(.aload_n 0, 1, 0, 0, 0), (.iload_n 1, 1, 1, 0, 0), (.invokevirtual 156, 3, 121, 2, 9)]), (5, [(.ifCond .eq 21, 3, 26, 0, 0)]), (8, [(.aload_n 0, 1, 0, 0, 0), (.iload_n 2, 1, 2, 0, 0), (.invokevirtual 156, 3, 121, 2, 9)]), (13, [(.ifCond .eq 13, 3, 26, 0, 0)]), (16, [(.aload_n 0, 1, 0, 0, 0), (.iconst 0, 1, 0, 0, 0), (.iload_n 1, 1, 1, 0, 0), (.iload_n 2, 1, 2, 0, 0), (.invokevirtual 136, 3, 123, 4, 9)]), (23, [(.goto 5, 3, 28, 0, 0)]), (26, [(.ldc 160, 2, 0, 0, (-1000000001))]), (28, [(.ireturn, 1, 0, 0, 0)])]
def pg_b133 : List (Nat × List am_E) := [(0, [(.aload_n 0, 1, 0, 0, 0), (.iload_n 1, 1, 1, 0, 0), (.invokevirtual 156, 3, 121, 2, 9)]), (5, [(.ifCond .eq 15, 3, 20, 0, 0)]), (8, [(.aload_n 0, 1, 0, 0, 0), (.getfield 7, 3, 9, 0, 1), (.bipush 64, 2, 0, 0, 64), (.iload_n 1, 1, 1, 0, 0), (.iadd, 1, 0, 0, 0), (.iaload, 1, 0, 0, 0), (.goto 5, 3, 22, 0, 0)]), (20, [(.ldc 160, 2, 0, 0, (-1000000001))]), (22, [(.ireturn, 1, 0, 0, 0)])]
def pg_b134 : List (Nat × List am_E) := [(0, [(.aload_n 0, 1, 0, 0, 0), (.iload_n 1, 1, 1, 0, 0), (.invokevirtual 161, 3, 122, 2, 9)]), (5, [(.ifCond .ne 6, 3, 11, 0, 0)]), (8, [(.ldc 160, 2, 0, 0, (-1000000001)), (.ireturn, 1, 0, 0, 0)]), (11, [(.iload_n 2, 1, 2, 0, 0), (.iconst (-1), 1, 0, 0, (-1)), (.if_icmp .ne 10, 3, 23, 0, 0)]), (16, [(.aload_n 0, 1, 0, 0, 0), (.getfield 23, 3, 9, 4, 1), (.iload_n 1, 1, 1, 0, 0), (.iaload, 1, 0, 0, 0), (.ireturn, 1, 0, 0, 0)]), (23, [(.iload_n 2, 1, 2, 0, 0), (.bipush (-2), 2, 0, 0, (-2)), (.if_icmp .ne 12, 3, 38, 0, 0)]), (29, [(.aload_n 0, 1, 0, 0, 0), (.getfield 26, 3, 9, 5, 1), (.iload_n 1, 1, 1, 0, 0), (.iaload, 1, 0, 0, 0), (.goto 33, 3, 68, 0, 0)]), (38, [(.iload_n 2, 1, 2, 0, 0), (.i2l, 1, 0, 0, 0), (.lconst 0, 1, 0, 0, 0), (.aload_n 0, 1, 0, 0, 0), (.getfield 23, 3, 9, 4, 1), (.iload_n 1, 1, 1, 0, 0), (.iaload, 1, 0, 0, 0), (.iconst 1, 1, 0, 0, 1), (.isub, 1, 0, 0, 0), (.i2l, 1, 0, 0, 0), (.invokestatic 53, 3, 105, 3, 0)]), (53, [(.ifCond .eq 13, 3, 66, 0, 0)]), (56, [(.aload_n 0, 1, 0, 0, 0), (.iconst 0, 1, 0, 0, 0), (.iload_n 1, 1, 1, 0, 0), (.iload_n 2, 1, 2, 0, 0), (.invokevirtual 144, 3, 125, 4, 9)]), (63, [(.goto 5, 3, 68, 0, 0)]), (66, [(.ldc 57, 2, 0, 0, (-1000000002))]), (68, [(.ireturn, 1, 0, 0, 0)])]
def pg_b135 : List (Nat × List am_E) := [(0, [(.iconst 0, 1, 0, 0, 0), (.istore_n 3, 1, 3, 0, 0)]), (2, [(.iload_n 3, 1, 3, 0, 0), (.bipush 82, 2, 0, 0, 82), (.if_icmp .ge 25, 3, 30, 0, 0)]), (8, [(.aload_n 0, 1, 0, 0, 0), (.getfield 7, 3, 9, 0, 1), (.iload_n 2, 1, 2, 0, 0), (.iload_n 3, 1, 3, 0, 0), (.iadd, 1, 0, 0, 0), (.aload_n 0, 1, 0, 0, 0), (.getfield 7, 3, 9, 0, 1), (.iload_n 1, 1, 1, 0, 0), (.iload_n 3, 1, 3, 0, 0), (.iadd, 1, 0, 0, 0), (.iaload, 1, 0, 0, 0), (.iastore, 1, 0, 0, 0), (.iinc 3 1, 3, 3, 0, 1), (.goto (-25), 3, 2, 0, 0)]), (30, [(.return_, 1, 0, 0, 0)])]
def pg_b136 : List (Nat × List am_E) := [(0, [(.aload_n 0, 1, 0, 0, 0), (.getfield 133, 3, 9, 16, 0), (.bipush 30, 2, 0, 0, 30), (.if_icmp .ne 49, 3, 55, 0, 0)]), (9, [(.iconst 1, 1, 0, 0, 1), (.istore_n 1, 1, 1, 0, 0)]), (11, [(.iload_n 1, 1, 1, 0, 0), (.bipush 30, 2, 0, 0, 30), (.if_icmp .ge 31, 3, 45, 0, 0)]), (17, [(.aload_n 0, 1, 0, 0, 0), (.sipush 328, 3, 0, 0, 328), (.bipush 82, 2, 0, 0, 82), (.iload_n 1, 1, 1, 0, 0), (.imul, 1, 0, 0, 0), (.iadd, 1, 0, 0, 0), (.sipush 328, 3, 0, 0, 328), (.bipush 82, 2, 0, 0, 82), (.iload_n 1, 1, 1, 0, 0), (.iconst 1, 1, 0, 0, 1), (.isub, 1, 0, 0, 0), (.imul, 1, 0, 0, 0), (.iadd, 1, 0, 0, 0), (.invokevirtual 164, 3, 135, 3, 9)]), (39, [(.iinc 1 1, 3, 1, 0, 1), (.goto (-31), 3, 11, 0, 0)]), (45, [(.aload_n 0, 1, 0, 0, 0), (.dup, 1, 0, 0, 0), (.getfield 133, 3, 9, 16, 0), (.iconst 1, 1, 0, 0, 1), (.isub, 1, 0, 0, 0), (.putfield 133, 3, 9, 16, 0)]), (55, [(.aload_n 0, 1, 0, 0, 0), (.iconst 0, 1, 0, 0, 0), (.sipush 328, 3, 0, 0, 328), (.bipush 82, 2, 0, 0, 82), (.aload_n 0, 1, 0, 0, 0), (.getfield 133, 3, 9, 16, 0), (.imul, 1, 0, 0, 0), (.iadd, 1, 0, 0, 0), (.invokevirtual 164, 3, 135, 3, 9)]), (71, [(.aload_n 0, 1, 0, 0, 0), (.dup, 1, 0, 0, 0), (.getfield 133, 3, 9, 16, 0), (.iconst 1, 1, 0, 0, 1), (.iadd, 1, 0, 0, 0), (.putfield 133, 3, 9, 16, 0), (.return_, 1, 0, 0, 0)])]
def pg_b137 : List (Nat × List am_E) := [(0, [(.aload_n 0, 1, 0, 0, 0), (.iload_n 1, 1, 1, 0, 0), (.iload_n 2, 1, 2, 0, 0), (.iload_n 3, 1, 3, 0, 0), (.aload_n 0, 1, 0, 0, 0), (.iload_n 1, 1, 1, 0, 0), (.iload_n 3, 1, 3, 0, 0), (.aload_n 0, 1, 0, 0, 0), (.getfield 7, 3, 9, 0, 1), (.iload_n 1, 1, 1, 0, 0), (.bipush 64, 2, 0, 0, 64), (.iadd, 1, 0, 0, 0), (.iload_n 2, 1, 2, 0, 0), (.iadd, 1, 0, 0, 0), (.iaload, 1, 0, 0, 0), (.invokevirtual 147, 3, 126, 4, 9)]), (21, [(.iload 4, 2, 4, 0, 0), (.invokevirtual 168, 3, 128, 6, 9)]), (26, [(.istore 5, 2, 5, 0, 0), (.aload_n 0, 1, 0, 0, 0), (.getfield 7, 3, 9, 0, 1), (.iload_n 1, 1, 1, 0, 0), (.bipush 64, 2, 0, 0, 64), (.iadd, 1, 0, 0, 0), (.iload_n 2, 1, 2, 0, 0), (.iadd, 1, 0, 0, 0), (.aload_n 0, 1, 0, 0, 0), (.iload_n 1, 1, 1, 0, 0), (.iload_n 3, 1, 3, 0, 0), (.iload 5, 2, 5, 0, 0), (.invokevirtual 144, 3, 125, 4, 9)]), (46, [(.iastore, 1, 0, 0, 0), (.aload_n 0, 1, 0, 0, 0), (.getfield 7, 3, 9, 0, 1), (.iload_n 1, 1, 1, 0, 0), (.bipush 80, 2, 0, 0, 80), (.iadd, 1, 0, 0, 0), (.dup2, 1, 0, 0, 0), (.iaload, 1, 0, 0, 0), (.iconst 1, 1, 0, 0, 1), (.iadd, 1, 0, 0, 0), (.iastore, 1, 0, 0, 0), (.return_, 1, 0, 0, 0)])]
def pg_b138 : List (Nat × List am_E) := [(0, [(.aload_n 0, 1, 0, 0, 0), (.getfield 7, 3, 9, 0, 1), (.iload_n 1, 1, 1, 0, 0), (.bipush 72, 2, 0, 0, 72), (.iadd, 1, 0, 0, 0), (.iload_n 3, 1, 3, 0, 0), (.iadd, 1, 0, 0, 0), (.iaload, 1, 0, 0, 0), (.istore 4, 2, 4, 0, 0), (.aload_n 0, 1, 0, 0, 0), (.getfield 7, 3, 9, 0, 1), (.iload_n 1, 1, 1, 0, 0), (.bipush 64, 2, 0, 0, 64), (.iadd, 1, 0, 0, 0), (.iload_n 2, 1, 2, 0, 0), (.iadd, 1, 0, 0, 0), (.iload 4, 2, 4, 0, 0), (.iastore, 1, 0, 0, 0), (.aload_n 0, 1, 0, 0, 0), (.getfield 7, 3, 9, 0, 1), (.iload_n 1, 1, 1, 0, 0), (.bipush 80, 2, 0, 0, 80), (.iadd, 1, 0, 0, 0), (.dup2, 1, 0, 0, 0), (.iaload, 1, 0, 0, 0), (.iconst 1, 1, 0, 0, 1), (.iadd, 1, 0, 0, 0), (.iastore, 1, 0, 0, 0), (.aload_n 0, 1, 0, 0, 0), (.iload_n 1, 1, 1, 0, 0), (.iload 4, 2, 4, 0, 0), (.invokevirtual 172, 3, 129, 3, 9)]), (46, [(.ifCond .ne 13, 3, 59, 0, 0)]), (49, [(.aload_n 0, 1, 0, 0, 0), (.iload_n 1, 1, 1, 0, 0), (.iload_n 2, 1, 2, 0, 0), (.iload 4, 2, 4, 0, 0), (.invokevirtual 175, 3, 124, 4, 9)]), (57, [(.istore 5, 2, 5, 0, 0)]), (59, [(.return_, 1, 0, 0, 0)])]
def pg_b139 : List (Nat × List am_E) := [(0, [(.aload_n 0, 1, 0, 0, 0), (.iload_n 1, 1, 1, 0, 0), (.invokevirtual 156, 3, 121, 2, 9)]), (5, [(.ifCond .eq 11, 3, 16, 0, 0)]), (8, [(.aload_n 0, 1, 0, 0, 0), (.iload_n 2, 1, 2, 0, 0), (.invokevirtual 161, 3, 122, 2, 9)]), (13, [(.ifCond .ne 6, 3, 19, 0, 0)]), (16, [(.ldc 160, 2, 0, 0, (-1000000001)), (.ireturn, 1, 0, 0, 0)]), (19, [(.iload_n 3, 1, 3, 0, 0), (.i2l, 1, 0, 0, 0), (.lconst 1, 1, 0, 0, 1), (.ldc2_w 179, 3, 0, 0, 5), (.invokestatic 53, 3, 105, 3, 0)]), (28, [(.ifCond .ne 6, 3, 34, 0, 0)]), (31, [(.ldc 57, 2, 0, 0, (-1000000002)), (.ireturn, 1, 0, 0, 0)]), (34, [(.aload_n 0, 1, 0, 0, 0), (.iconst 0, 1, 0, 0, 0), (.iload_n 1, 1, 1, 0, 0), (.invokevirtual 172, 3, 129, 3, 9)]), (40, [(.ifCond .ne 21, 3, 61, 0, 0)]), (43, [(.aload_n 0, 1, 0, 0, 0), (.iconst 0, 1, 0, 0, 0), (.iload_n 2, 1, 2, 0, 0), (.aload_n 0, 1, 0, 0, 0), (.getfield 7, 3, 9, 0, 1), (.bipush 64, 2, 0, 0, 64), (.iload_n 1, 1, 1, 0, 0), (.iadd, 1, 0, 0, 0), (.iaload, 1, 0, 0, 0), (.invokevirtual 181, 3, 127, 4, 9)]), (58, [(.ifCond .ne 6, 3, 64, 0, 0)]), (61, [(.ldc 184, 2, 0, 0, (-1000000003)), (.ireturn, 1, 0, 0, 0)]), (64, [(.aload_n 0, 1, 0, 0, 0), (.invokevirtual 185, 3, 136, 1, 9)]), (68, [(.aload_n 0, 1, 0, 0, 0), (.iconst 0, 1, 0, 0, 0), (.iload_n 1, 1, 1, 0, 0), (.iload_n 2, 1, 2, 0, 0), (.iload_n 3, 1, 3, 0, 0), (.invokevirtual 188, 3, 137, 5, 9)]), (76, [(.aload_n 0, 1, 0, 0, 0), (.getfield 7, 3, 9, 0, 1), (.bipush 64, 2, 0, 0, 64), (.iload_n 1, 1, 1, 0, 0), (.iadd, 1, 0, 0, 0), (.iaload, 1, 0, 0, 0), (.ireturn, 1, 0, 0, 0)])]
def pg_b140 : List (Nat × List am_E) := [(0, [(.aload_n 0, 1, 0, 0, 0), (.iload_n 1, 1, 1, 0, 0), (.invokevirtual 156, 3, 121, 2, 9)]), (5, [(.ifCond .eq 11, 3, 16, 0, 0)]), (8, [(.aload_n 0, 1, 0, 0, 0), (.iload_n 2, 1, 2, 0, 0), (.invokevirtual 161, 3, 122, 2, 9)]), (13, [(.ifCond .ne 6, 3, 19, 0, 0)]), (16, [(.ldc 160, 2, 0, 0, (-1000000001)), (.ireturn, 1, 0, 0, 0)]), (19, [(.aload_n 0, 1, 0, 0, 0), (.iconst 0, 1, 0, 0, 0), (.iload_n 1, 1, 1, 0, 0), (.invokevirtual 172, 3, 129, 3, 9)]), (25, [(.ifCond .ne 21, 3, 46, 0, 0)]), (28, [(.aload_n 0, 1, 0, 0, 0), (.iconst 0, 1, 0, 0, 0), (.iload_n 2, 1, 2, 0, 0), (.aload_n 0, 1, 0, 0, 0), (.getfield 7, 3, 9, 0, 1), (.bipush 64, 2, 0, 0, 64), (.iload_n 1, 1, 1, 0, 0), (.iadd, 1, 0, 0, 0), (.iaload, 1, 0, 0, 0), (.invokevirtual 181, 3, 127, 4, 9)]), (43, [(.ifCond .ne 6, 3, 49, 0, 0)]), (46, [(.ldc 184, 2, 0, 0, (-1000000003)), (.ireturn, 1, 0, 0, 0)]), (49, [(.aload_n 0, 1, 0, 0, 0), (.invokevirtual 185, 3, 136, 1, 9)]), (53, [(.aload_n 0, 1, 0, 0, 0), (.iconst 0, 1, 0, 0, 0), (.iload_n 1, 1, 1, 0, 0), (.iload_n 2, 1, 2, 0, 0), (.invokevirtual 192, 3, 138, 4, 9)]), (60, [(.aload_n 0, 1, 0, 0, 0), (.iconst 0, 1, 0, 0, 0), (.iload_n 1, 1, 1, 0, 0), (.aload_n 0, 1, 0, 0, 0), (.getfield 7, 3, 9, 0, 1), (.bipush 64, 2, 0, 0, 64), (.iload_n 1, 1, 1, 0, 0), (.iadd, 1, 0, 0, 0), (.iaload, 1, 0, 0, 0), (.invokevirtual 136, 3, 123, 4, 9)]), (75, [(.ireturn, 1, 0, 0, 0)])]
def pg_b141 : List (Nat × List am_E) := [(0, [(.iconst 0, 1, 0, 0, 0), (.istore_n 2, 1, 2, 0, 0), (.iconst 0, 1, 0, 0, 0), (.istore_n 3, 1, 3, 0, 0)]), (4, [(.iload_n 3, 1, 3, 0, 0), (.aload_n 0, 1, 0, 0, 0), (.getfield 121, 3, 9, 6, 0), (.if_icmp .ge 107, 3, 116, 0, 0)]), (12, [(.iload_n 3, 1, 3, 0, 0), (.iconst 1, 1, 0, 0, 1), (.iadd, 1, 0, 0, 0), (.istore 4, 2, 4, 0, 0)]), (17, [(.iload 4, 2, 4, 0, 0), (.aload_n 0, 1, 0, 0, 0), (.getfield 121, 3, 9, 6, 0), (.if_icmp .ge 87, 3, 110, 0, 0)]), (26, [(.aload_n 0, 1, 0, 0, 0), (.iload_n 1, 1, 1, 0, 0), (.iload_n 3, 1, 3, 0, 0), (.invokevirtual 172, 3, 129, 3, 9)]), (32, [(.ifCond .ne 43, 3, 75, 0, 0)]), (35, [(.aload_n 0, 1, 0, 0, 0), (.iload_n 1, 1, 1, 0, 0), (.iload 4, 2, 4, 0, 0), (.invokevirtual 172, 3, 129, 3, 9)]), (42, [(.ifCond .ne 33, 3, 75, 0, 0)]), (45, [(.aload_n 0, 1, 0, 0, 0), (.getfield 7, 3, 9, 0, 1), (.iload_n 1, 1, 1, 0, 0), (.bipush 64, 2, 0, 0, 64), (.iadd, 1, 0, 0, 0), (.iload_n 3, 1, 3, 0, 0), (.iadd, 1, 0, 0, 0), (.iaload, 1, 0, 0, 0), (.aload_n 0, 1, 0, 0, 0), (.getfield 7, 3, 9, 0, 1), (.iload_n 1, 1, 1, 0, 0), (.bipush 64, 2, 0, 0, 64), (.iadd, 1, 0, 0, 0), (.iload 4, 2, 4, 0, 0), (.iadd, 1, 0, 0, 0), (.iaload, 1, 0, 0, 0), (.if_icmp .ne 7, 3, 75, 0, 0)]), (71, [(.iconst 1, 1, 0, 0, 1), (.goto 4, 3, 76, 0, 0)]), (75, [(.iconst 0, 1, 0, 0, 0)]), (76, [(.istore 5, 2, 5, 0, 0), (.iload 5, 2, 5, 0, 0), (.ifCond .eq 14, 3, 94, 0, 0)]), (83, [(.aload_n 0, 1, 0, 0, 0), (.iload_n 1, 1, 1, 0, 0), (.iload_n 3, 1, 3, 0, 0), (.iload 4, 2, 4, 0, 0), (.invokevirtual 175, 3, 124, 4, 9)]), (91, [(.ifCond .ne 7, 3, 98, 0, 0)]), (94, [(.iload_n 2, 1, 2, 0, 0), (.ifCond .eq 7, 3, 102, 0, 0)]), (98, [(.iconst 1, 1, 0, 0, 1), (.goto 4, 3, 103, 0, 0)]), (102, [(.iconst 0, 1, 0, 0, 0)]), (103, [(.istore_n 2, 1, 2, 0, 0), (.iinc 4 1, 3, 4, 0, 1), (.goto (-90), 3, 17, 0, 0)]), (110, [(.iinc 3 1, 3, 3, 0, 1), (.goto (-109), 3, 4, 0, 0)]), (116, [(.iconst 0, 1, 0, 0, 0), (.istore_n 3, 1, 3, 0, 0)]), (118, [(.iload_n 3, 1, 3, 0, 0), (.aload_n 0, 1, 0, 0, 0), (.getfield 121, 3, 9, 6, 0), (.if_icmp .ge 44, 3, 167, 0, 0)]), (126, [(.aload_n 0, 1, 0, 0, 0), (.getfield 7, 3, 9, 0, 1), (.iload_n 1, 1, 1, 0, 0), (.bipush 64, 2, 0, 0, 64), (.iadd, 1, 0, 0, 0), (.iload_n 3, 1, 3, 0, 0), (.iadd, 1, 0, 0, 0), (.aload_n 0, 1, 0, 0, 0), (.iload_n 1, 1, 1, 0, 0), (.iload_n 3, 1, 3, 0, 0), (.invokevirtual 172, 3, 129, 3, 9)]), (142, [(.ifCond .eq 17, 3, 159, 0, 0)]), (145, [(.aload_n 0, 1, 0, 0, 0), (.getfield 7, 3, 9, 0, 1), (.iload_n 1, 1, 1, 0, 0), (.bipush 64, 2, 0, 0, 64), (.iadd, 1, 0, 0, 0), (.iload_n 3, 1, 3, 0, 0), (.iadd, 1, 0, 0, 0), (.iaload, 1, 0, 0, 0), (.goto 4, 3, 160, 0, 0)]), (159, [(.iload_n 3, 1, 3, 0, 0)]), (160, [(.iastore, 1, 0, 0, 0), (.iinc 3 1, 3, 3, 0, 1), (.goto (-46), 3, 118, 0, 0)]), (167, [(.aload_n 0, 1, 0, 0, 0), (.getfield 7, 3, 9, 0, 1), (.iload_n 1, 1, 1, 0, 0), (.bipush 79, 2, 0, 0, 79), (.iadd, 1, 0, 0, 0), (.dup2, 1, 0, 0, 0), (.iaload, 1, 0, 0, 0), (.iconst 1, 1, 0, 0, 1), (.iadd, 1, 0, 0, 0), (.iastore, 1, 0, 0, 0), (.iload_n 2, 1, 2, 0, 0), (.ireturn, 1, 1, 0, 0)])]
def pg_b142 : List (Nat × List am_E) := [(0, [(.iload_n 1, 1, 1, 0, 0), (.i2l, 1, 0, 0, 0), (.lconst 1, 1, 0, 0, 1), (.ldc2_w 196, 3, 0, 0, 30), (.invokestatic 53, 3, 105, 3, 0)]), (9, [(.ifCond .ne 6, 3, 15, 0, 0)]), (12, [(.ldc 57, 2, 0, 0, (-1000000002)), (.ireturn, 1, 0, 0, 0)]), (15, [(.aload_n 0, 1, 0, 0, 0), (.getfield 121, 3, 9, 6, 0), (.ifCond .ne 8, 3, 27, 0, 0)]), (22, [(.ldc 184, 2, 0, 0, (-1000000003)), (.goto 22, 3, 46, 0, 0)]), (27, [(.aload_n 0, 1, 0, 0, 0), (.getfield 7, 3, 9, 0, 1), (.bipush 79, 2, 0, 0, 79), (.iaload, 1, 0, 0, 0), (.sipush 9000, 3, 0, 0, 9000), (.if_icmp .le 8, 3, 45, 0, 0)]), (40, [(.ldc 61, 2, 0, 0, (-1000000004)), (.goto 4, 3, 46, 0, 0)]), (45, [(.iconst 0, 1, 0, 0, 0)]), (46, [(.ireturn, 1, 0, 0, 0)])]
def pg_b143 : List (Nat × List am_E) := [(0, [(.aload_n 0, 1, 0, 0, 0), (.iload_n 1, 1, 1, 0, 0), (.invokevirtual 198, 3, 142, 2, 9)]), (5, [(.istore_n 2, 1, 2, 0, 0), (.iload_n 2, 1, 2, 0, 0), (.ifCond .ge 5, 3, 12, 0, 0)]), (10, [(.iload_n 2, 1, 2, 0, 0), (.ireturn, 1, 0, 0, 0)]), (12, [(.iconst 0, 1, 0, 0, 0), (.istore_n 3, 1, 3, 0, 0)]), (14, [(.iload_n 3, 1, 3, 0, 0), (.iload_n 1, 1, 1, 0, 0), (.if_icmp .ge 20, 3, 36, 0, 0)]), (19, [(.aload_n 0, 1, 0, 0, 0), (.invokevirtual 185, 3, 136, 1, 9)]), (23, [(.aload_n 0, 1, 0, 0, 0), (.iconst 0, 1, 0, 0, 0), (.invokevirtual 201, 3, 141, 2, 9)]), (28, [(.istore 4, 2, 4, 0, 0), (.iinc 3 1, 3, 3, 0, 1), (.goto (-19), 3, 14, 0, 0)]), (36, [(.aload_n 0, 1, 0, 0, 0), (.invokevirtual 153, 3, 130, 1, 9)]), (40, [(.ireturn, 1, 0, 0, 0)])]
def pg_b144 : List (Nat × List am_E) := [(0, [(.aload_n 0, 1, 0, 0, 0), (.iload_n 1, 1, 1, 0, 0), (.invokevirtual 161, 3, 122, 2, 9)]), (5, [(.ifCond .eq 11, 3, 16, 0, 0)]), (8, [(.aload_n 0, 1, 0, 0, 0), (.iload_n 2, 1, 2, 0, 0), (.invokevirtual 156, 3, 121, 2, 9)]), (13, [(.ifCond .ne 6, 3, 19, 0, 0)]), (16, [(.ldc 160, 2, 0, 0, (-1000000001)), (.ireturn, 1, 0, 0, 0)]), (19, [(.aload_n 0, 1, 0, 0, 0), (.iconst 0, 1, 0, 0, 0), (.iload_n 1, 1, 1, 0, 0), (.iload_n 2, 1, 2, 0, 0), (.invokevirtual 147, 3, 126, 4, 9)]), (26, [(.iconst (-1), 1, 0, 0, (-1)), (.if_icmp .eq 6, 3, 33, 0, 0)]), (30, [(.ldc 184, 2, 0, 0, (-1000000003)), (.ireturn, 1, 0, 0, 0)]), (33, [(.aload_n 0, 1, 0, 0, 0), (.invokevirtual 185, 3, 136, 1, 9)]), (37, [(.aload_n 0, 1, 0, 0, 0), (.getfield 7, 3, 9, 0, 1), (.bipush 72, 2, 0, 0, 72), (.iload_n 1, 1, 1, 0, 0), (.iadd, 1, 0, 0, 0), (.iaload, 1, 0, 0, 0), (.istore_n 3, 1, 3, 0, 0), (.aload_n 0, 1, 0, 0, 0), (.getfield 7, 3, 9, 0, 1), (.bipush 72, 2, 0, 0, 72), (.iload_n 1, 1, 1, 0, 0), (.iadd, 1, 0, 0, 0), (.iload_n 2, 1, 2, 0, 0), (.iastore, 1, 0, 0, 0), (.iload_n 3, 1, 3, 0, 0), (.ireturn, 1, 0, 0, 0)])]
def pg_b145 : List (Nat × List am_E) := [(0, [(.aload_n 0, 1, 0, 0, 0), (.iload_n 1, 1, 1, 0, 0), (.invokevirtual 156, 3, 121, 2, 9)]), (5, [(.ifCond .ne 6, 3, 11, 0, 0)]), (8, [(.ldc 160, 2, 0, 0, (-1000000001)), (.ireturn, 1, 0, 0, 0)]), (11, [(.aload_n 0, 1, 0, 0, 0), (.iconst 0, 1, 0, 0, 0), (.iload_n 1, 1, 1, 0, 0), (.invokevirtual 172, 3, 129, 3, 9)]), (17, [(.ifCond .eq 6, 3, 23, 0, 0)]), (20, [(.ldc 184, 2, 0, 0, (-1000000003)), (.ireturn, 1, 0, 0, 0)]), (23, [(.aload_n 0, 1, 0, 0, 0), (.invokevirtual 185, 3, 136, 1, 9)]), (27, [(.aload_n 0, 1, 0, 0, 0), (.getfield 7, 3, 9, 0, 1), (.bipush 78, 2, 0, 0, 78), (.dup2, 1, 0, 0, 0), (.iaload, 1, 0, 0, 0), (.iconst 1, 1, 0, 0, 1), (.iload_n 1, 1, 1, 0, 0), (.ishl, 1, 0, 0, 0), (.ior, 1, 0, 0, 0), (.iastore, 1, 0, 0, 0), (.iconst 0, 1, 0, 0, 0), (.istore_n 2, 1, 2, 0, 0), (.iconst 0, 1, 0, 0, 0), (.istore_n 3, 1, 3, 0, 0)]), (44, [(.iload_n 3, 1, 3, 0, 0), (.aload_n 0, 1, 0, 0, 0), (.getfield 121, 3, 9, 6, 0), (.if_icmp .ge 21, 3, 70, 0, 0)]), (52, [(.iload_n 2, 1, 2, 0, 0), (.aload_n 0, 1, 0, 0, 0), (.iconst 0, 1, 0, 0, 0), (.iload_n 3, 1, 3, 0, 0), (.invokevirtual 172, 3, 129, 3, 9)]), (59, [(.invokestatic 140, 3, 106, 1, 0)]), (62, [(.iadd, 1, 0, 0, 0), (.istore_n 2, 1, 2, 0, 0), (.iinc 3 1, 3, 3, 0, 1), (.goto (-23), 3, 44, 0, 0)]), (70, [(.iload_n 2, 1, 2, 0, 0), (.ireturn, 1, 0, 0, 0)])]
def pg_b146 : List (Nat × List am_E) := [(0, [(.aload_n 0, 1, 0, 0, 0), (.getfield 7, 3, 9, 0, 1), (.bipush 81, 2, 0, 0, 81), (.aload_n 0, 1, 0, 0, 0), (.getfield 7, 3, 9, 0, 1), (.bipush 81, 2, 0, 0, 81), (.iaload, 1, 0, 0, 0), (.i2l, 1, 0, 0, 0), (.ldc2_w 204, 3, 0, 0, 1103515245), (.lmul, 1, 0, 0, 0), (.ldc2_w 206, 3, 0, 0, 12345), (.ladd, 1, 0, 0, 0), (.ldc2_w 208, 3, 0, 0, 2147483648), (.lrem, 1, 0, 0, 0), (.l2i, 1, 0, 0, 0), (.iastore, 1, 0, 0, 0), (.aload_n 0, 1, 0, 0, 0), (.getfield 7, 3, 9, 0, 1), (.bipush 81, 2, 0, 0, 81), (.iaload, 1, 0, 0, 0), (.ldc 210, 2, 0, 0, 65536), (.idiv, 1, 0, 0, 0), (.iload_n 1, 1, 1, 0, 0), (.irem, 1, 0, 0, 0), (.ireturn, 1, 0, 0, 0)])]
def pg_b147 : List (Nat × List am_E) := [(0, [(.iconst 0, 1, 0, 0, 0), (.istore_n 1, 1, 1, 0, 0)]), (2, [(.iload_n 1, 1, 1, 0, 0), (.aload_n 0, 1, 0, 0, 0), (.getfield 121, 3, 9, 6, 0), (.if_icmp .ge 99, 3, 106, 0, 0)]), (10, [(.aload_n 0, 1, 0, 0, 0), (.iconst 0, 1, 0, 0, 0), (.iload_n 1, 1, 1, 0, 0), (.invokevirtual 172, 3, 129, 3, 9)]), (16, [(.ifCond .ne 84, 3, 100, 0, 0)]), (19, [(.aload_n 0, 1, 0, 0, 0), (.getfield 124, 3, 9, 8, 0), (.ifCond .le 77, 3, 100, 0, 0)]), (26, [(.aload_n 0, 1, 0, 0, 0), (.aload_n 0, 1, 0, 0, 0), (.getfield 124, 3, 9, 8, 0), (.invokevirtual 211, 3, 146, 2, 9)]), (34, [(.istore_n 2, 1, 2, 0, 0), (.aload_n 0, 1, 0, 0, 0), (.bipush 20, 2, 0, 0, 20), (.invokevirtual 211, 3, 146, 2, 9)]), (41, [(.istore_n 3, 1, 3, 0, 0), (.aload_n 0, 1, 0, 0, 0), (.iconst 0, 1, 0, 0, 0), (.iload_n 2, 1, 2, 0, 0), (.aload_n 0, 1, 0, 0, 0), (.getfield 7, 3, 9, 0, 1), (.bipush 64, 2, 0, 0, 64), (.iload_n 1, 1, 1, 0, 0), (.iadd, 1, 0, 0, 0), (.iaload, 1, 0, 0, 0), (.invokevirtual 181, 3, 127, 4, 9)]), (57, [(.ifCond .eq 17, 3, 74, 0, 0)]), (60, [(.iload_n 3, 1, 3, 0, 0), (.ifCond .ne 13, 3, 74, 0, 0)]), (64, [(.aload_n 0, 1, 0, 0, 0), (.iconst 0, 1, 0, 0, 0), (.iload_n 1, 1, 1, 0, 0), (.iload_n 2, 1, 2, 0, 0), (.invokevirtual 192, 3, 138, 4, 9)]), (71, [(.goto 29, 3, 100, 0, 0)]), (74, [(.aload_n 0, 1, 0, 0, 0), (.iconst 0, 1, 0, 0, 0), (.iload_n 2, 1, 2, 0, 0), (.aload_n 0, 1, 0, 0, 0), (.getfield 7, 3, 9, 0, 1), (.bipush 64, 2, 0, 0, 64), (.iload_n 1, 1, 1, 0, 0), (.iadd, 1, 0, 0, 0), (.iaload, 1, 0, 0, 0), (.invokevirtual 181, 3, 127, 4, 9)]), (89, [(.ifCond .eq 11, 3, 100, 0, 0)]), (92, [(.aload_n 0, 1, 0, 0, 0), (.iconst 0, 1, 0, 0, 0), (.iload_n 1, 1, 1, 0, 0), (.iload_n 2, 1, 2, 0, 0), (.iconst 5, 1, 0, 0, 5), (.invokevirtual 188, 3, 137, 5, 9)]), (100, [(.iinc 1 1, 3, 1, 0, 1), (.goto (-101), 3, 2, 0, 0)]), (106, [(.aload_n 0, 1, 0, 0, 0), (.iconst 0, 1, 0, 0, 0), (.invokevirtual 201, 3, 141, 2, 9)]), (111, [(.istore_n 1, 1, 1, 0, 0), (.return_, 1, 0, 0, 0)])]
def pg_b148 : List (Nat × List am_E) := [(0, [(.aload_n 0, 1, 0, 0, 0), (.iload_n 1, 1, 1, 0, 0), (.invokevirtual 198, 3, 142, 2, 9)]), (5, [(.istore_n 2, 1, 2, 0, 0), (.iload_n 2, 1, 2, 0, 0), (.ifCond .ge 5, 3, 12, 0, 0)]), (10, [(.iload_n 2, 1, 2, 0, 0), (.ireturn, 1, 0, 0, 0)]), (12, [(.iconst 0, 1, 0, 0, 0), (.istore_n 3, 1, 3, 0, 0)]), (14, [(.iload_n 3, 1, 3, 0, 0), (.iload_n 1, 1, 1, 0, 0), (.if_icmp .ge 17, 3, 33, 0, 0)]), (19, [(.aload_n 0, 1, 0, 0, 0), (.invokevirtual 185, 3, 136, 1, 9)]), (23, [(.aload_n 0, 1, 0, 0, 0), (.invokevirtual 214, 3, 147, 1, 9)]), (27, [(.iinc 3 1, 3, 3, 0, 1), (.goto (-16), 3, 14, 0, 0)]), (33, [(.aload_n 0, 1, 0, 0, 0), (.getfield 7, 3, 9, 0, 1), (.bipush 80, 2, 0, 0, 80), (.iaload, 1, 0, 0, 0), (.ireturn, 1, 0, 0, 0)])]
def pg_b149 : List (Nat × List am_E) := [(0, [(.iload_n 1, 1, 1, 0, 0), (.i2l, 1, 0, 0, 0), (.lconst 1, 1, 0, 0, 1), (.ldc2_w 196, 3, 0, 0, 30), (.invokestatic 53, 3, 105, 3, 0)]), (9, [(.ifCond .ne 6, 3, 15, 0, 0)]), (12, [(.ldc 57, 2, 0, 0, (-1000000002)), (.ireturn, 1, 0, 0, 0)]), (15, [(.iload_n 1, 1, 1, 0, 0), (.aload_n 0, 1, 0, 0, 0), (.getfield 133, 3, 9, 16, 0), (.if_icmp .le 6, 3, 26, 0, 0)]), (23, [(.ldc 184, 2, 0, 0, (-1000000003)), (.ireturn, 1, 0, 0, 0)]), (26, [(.aload_n 0, 1, 0, 0, 0), (.dup, 1, 0, 0, 0), (.getfield 133, 3, 9, 16, 0), (.iload_n 1, 1, 1, 0, 0), (.isub, 1, 0, 0, 0), (.putfield 133, 3, 9, 16, 0), (.aload_n 0, 1, 0, 0, 0), (.getfield 7, 3, 9, 0, 1), (.bipush 81, 2, 0, 0, 81), (.iaload, 1, 0, 0, 0), (.istore_n 2, 1, 2, 0, 0), (.aload_n 0, 1, 0, 0, 0), (.sipush 328, 3, 0, 0, 328), (.bipush 82, 2, 0, 0, 82), (.aload_n 0, 1, 0, 0, 0), (.getfield 133, 3, 9, 16, 0), (.imul, 1, 0, 0, 0), (.iadd, 1, 0, 0, 0), (.iconst 0, 1, 0, 0, 0), (.invokevirtual 164, 3, 135, 3, 9)]), (60, [(.aload_n 0, 1, 0, 0, 0), (.getfield 7, 3, 9, 0, 1), (.bipush 81, 2, 0, 0, 81), (.iload_n 2, 1, 2, 0, 0), (.iastore, 1, 0, 0, 0), (.aload_n 0, 1, 0, 0, 0), (.getfield 7, 3, 9, 0, 1), (.bipush 79, 2, 0, 0, 79), (.iaload, 1, 0, 0, 0), (.ireturn, 1, 0, 0, 0)])]
def pg_b150 : List (Nat × List am_E) := [(0, [(.iconst 0, 1, 0, 0, 0), (.istore 5, 2, 5, 0, 0)]), (3, [(.iload 5, 2, 5, 0, 0), (.bipush 8, 2, 0, 0, 8), (.if_icmp .ge 28, 3, 35, 0, 0)]), (10, [(.aload_n 0, 1, 0, 0, 0), (.getfield 36, 3, 9, 17, 1), (.iload 5, 2, 5, 0, 0), (.iload 5, 2, 5, 0, 0), (.iload_n 3, 1, 3, 0, 0), (.if_icmp .ne 7, 3, 26, 0, 0)]), (22, [(.iconst 0, 1, 0, 0, 0), (.goto 5, 3, 28, 0, 0)]), (26, [(.ldc 217, 2, 0, 0, 99999999)]), (28, [(.iastore, 1, 0, 0, 0), (.iinc 5 1, 3, 5, 0, 1), (.goto (-29), 3, 3, 0, 0)]), (35, [(.iconst 0, 1, 0, 0, 0), (.istore 5, 2, 5, 0, 0)]), (38, [(.iload 5, 2, 5, 0, 0), (.aload_n 0, 1, 0, 0, 0), (.getfield 121, 3, 9, 6, 0), (.if_icmp .ge 91, 3, 135, 0, 0)]), (47, [(.iconst 0, 1, 0, 0, 0), (.istore 6, 2, 6, 0, 0)]), (50, [(.iload 6, 2, 6, 0, 0), (.aload_n 0, 1, 0, 0, 0), (.getfield 121, 3, 9, 6, 0), (.if_icmp .ge 73, 3, 129, 0, 0)]), (59, [(.iconst 0, 1, 0, 0, 0), (.istore 7, 2, 7, 0, 0)]), (62, [(.iload 7, 2, 7, 0, 0), (.aload_n 0, 1, 0, 0, 0), (.getfield 124, 3, 9, 8, 0), (.if_icmp .ge 55, 3, 123, 0, 0)]), (71, [(.aload_n 0, 1, 0, 0, 0), (.getfield 36, 3, 9, 17, 1), (.iload 6, 2, 6, 0, 0), (.iaload, 1, 0, 0, 0), (.iload 5, 2, 5, 0, 0), (.if_icmp .ne 43, 3, 123, 0, 0)]), (83, [(.iload 4, 2, 4, 0, 0), (.iload 7, 2, 7, 0, 0), (.invokestatic 97, 3, 107, 2, 0)]), (90, [(.ifCond .eq 27, 3, 117, 0, 0)]), (93, [(.aload_n 0, 1, 0, 0, 0), (.iload_n 1, 1, 1, 0, 0), (.iload 7, 2, 7, 0, 0), (.iload 6, 2, 6, 0, 0), (.invokevirtual 181, 3, 127, 4, 9)]), (102, [(.ifCond .eq 15, 3, 117, 0, 0)]), (105, [(.aload_n 0, 1, 0, 0, 0), (.iload_n 1, 1, 1, 0, 0), (.iload_n 2, 1, 2, 0, 0), (.iload 7, 2, 7, 0, 0), (.iload 6, 2, 6, 0, 0), (.iload 5, 2, 5, 0, 0), (.invokevirtual 218, 3, 151, 6, 9)]), (117, [(.iinc 7 1, 3, 7, 0, 1), (.goto (-58), 3, 62, 0, 0)]), (123, [(.iinc 6 1, 3, 6, 0, 1), (.goto (-76), 3, 50, 0, 0)]), (129, [(.iinc 5 1, 3, 5, 0, 1), (.goto (-94), 3, 38, 0, 0)]), (135, [(.return_, 1, 0, 0, 0)])]
def pg_b151 : List (Nat × List am_E) := [(0, [(.aload_n 0, 1, 0, 0, 0), (.iload_n 1, 1, 1, 0, 0), (.iload_n 3, 1, 3, 0, 0), (.iload 4, 2, 4, 0, 0), (.invokevirtual 147, 3, 126, 4, 9)]), (8, [(.istore 6, 2, 6, 0, 0), (.aload_n 0, 1, 0, 0, 0), (.iload_n 1, 1, 1, 0, 0), (.iload_n 2, 1, 2, 0, 0), (.iload_n 3, 1, 3, 0, 0), (.iload 6, 2, 6, 0, 0), (.iconst 5, 1, 0, 0, 5), (.invokevirtual 168, 3, 128, 6, 9)]), (20, [(.istore 7, 2, 7, 0, 0), (.iload 6, 2, 6, 0, 0), (.iconst 1, 1, 0, 0, 1), (.iadd, 1, 0, 0, 0), (.istore 8, 2, 8, 0, 0)]), (28, [(.iload 8, 2, 8, 0, 0), (.iload 7, 2, 7, 0, 0), (.if_icmp .gt 54, 3, 86, 0, 0)]), (35, [(.aload_n 0, 1, 0, 0, 0), (.iload_n 1, 1, 1, 0, 0), (.iload_n 3, 1, 3, 0, 0), (.iload 8, 2, 8, 0, 0), (.invokevirtual 144, 3, 125, 4, 9)]), (43, [(.istore 9, 2, 9, 0, 0), (.aload_n 0, 1, 0, 0, 0), (.getfield 36, 3, 9, 17, 1), (.iload 9, 2, 9, 0, 0), (.iload 5, 2, 5, 0, 0), (.iconst 1, 1, 0, 0, 1), (.iadd, 1, 0, 0, 0), (.aload_n 0, 1, 0, 0, 0), (.getfield 36, 3, 9, 17, 1), (.iload 9, 2, 9, 0, 0), (.iaload, 1, 0, 0, 0), (.if_icmp .ge 10, 3, 72, 0, 0)]), (65, [(.iload 5, 2, 5, 0, 0), (.iconst 1, 1, 0, 0, 1), (.iadd, 1, 0, 0, 0), (.goto 10, 3, 79, 0, 0)]), (72, [(.aload_n 0, 1, 0, 0, 0), (.getfield 36, 3, 9, 17, 1), (.iload 9, 2, 9, 0, 0), (.iaload, 1, 0, 0, 0)]), (79, [(.iastore, 1, 0, 0, 0), (.iinc 8 1, 3, 8, 0, 1), (.goto (-55), 3, 28, 0, 0)]), (86, [(.return_, 1, 0, 0, 0)])]
def pg_b152 : List (Nat × List am_E) := [(0, [(.iconst 1, 1, 0, 0, 1), (.aload_n 0, 1, 0, 0, 0), (.getfield 124, 3, 9, 8, 0), (.ishl, 1, 0, 0, 0), (.iconst 1, 1, 0, 0, 1), (.isub, 1, 0, 0, 0), (.ireturn, 1, 0, 0, 0)])]
def pg_b153 : List (Nat × List am_E) := [(0, [(.aload_n 0, 1, 0, 0, 0), (.iload_n 1, 1, 1, 0, 0), (.invokevirtual 156, 3, 121, 2, 9)]), (5, [(.ifCond .eq 11, 3, 16, 0, 0)]), (8, [(.aload_n 0, 1, 0, 0, 0), (.iload_n 2, 1, 2, 0, 0), (.invokevirtual 156, 3, 121, 2, 9)]), (13, [(.ifCond .ne 6, 3, 19, 0, 0)]), (16, [(.ldc 160, 2, 0, 0, (-1000000001)), (.ireturn, 1, 0, 0, 0)]), (19, [(.iload_n 3, 1, 3, 0, 0), (.i2l, 1, 0, 0, 0), (.lconst 0, 1, 0, 0, 0), (.lconst 1, 1, 0, 0, 1), (.invokestatic 53, 3, 105, 3, 0)]), (26, [(.ifCond .ne 6, 3, 32, 0, 0)]), (29, [(.ldc 57, 2, 0, 0, (-1000000002)), (.ireturn, 1, 0, 0, 0)]), (32, [(.aload_n 0, 1, 0, 0, 0), (.iconst 0, 1, 0, 0, 0), (.iload_n 1, 1, 1, 0, 0), (.invokevirtual 172, 3, 129, 3, 9)]), (38, [(.ifCond .eq 6, 3, 44, 0, 0)]), (41, [(.ldc 184, 2, 0, 0, (-1000000003)), (.ireturn, 1, 0, 0, 0)]), (44, [(.aload_n 0, 1, 0, 0, 0), (.iconst 0, 1, 0, 0, 0), (.iload_n 1, 1, 1, 0, 0), (.aload_n 0, 1, 0, 0, 0), (.getfield 7, 3, 9, 0, 1), (.bipush 64, 2, 0, 0, 64), (.iload_n 1, 1, 1, 0, 0), (.iadd, 1, 0, 0, 0), (.iaload, 1, 0, 0, 0), (.aload_n 0, 1, 0, 0, 0), (.invokevirtual 222, 3, 152, 1, 9)]), (60, [(.invokevirtual 225, 3, 150, 5, 9)]), (63, [(.aload_n 0, 1, 0, 0, 0), (.getfield 36, 3, 9, 17, 1), (.iload_n 2, 1, 2, 0, 0), (.iaload, 1, 0, 0, 0), (.istore 4, 2, 4, 0, 0), (.iload_n 3, 1, 3, 0, 0), (.ifCond .eq 15, 3, 87, 0, 0)]), (75, [(.iload 4, 2, 4, 0, 0), (.ldc 217, 2, 0, 0, 99999999), (.if_icmp .eq 8, 3, 87, 0, 0)]), (82, [(.iload 4, 2, 4, 0, 0), (.ifCond .ne 22, 3, 106, 0, 0)]), (87, [(.iload 4, 2, 4, 0, 0), (.ldc 217, 2, 0, 0, 99999999), (.if_icmp .eq 8, 3, 99, 0, 0)]), (94, [(.iload_n 3, 1, 3, 0, 0), (.iconst 1, 1, 0, 0, 1), (.if_icmp .ne 7, 3, 103, 0, 0)]), (99, [(.iconst (-1), 1, 0, 0, (-1)), (.goto 5, 3, 105, 0, 0)]), (103, [(.iload 4, 2, 4, 0, 0)]), (105, [(.ireturn, 1, 0, 0, 0)]), (106, [(.iconst 0, 1, 0, 0, 0), (.istore 5, 2, 5, 0, 0)]), (109, [(.iload 5, 2, 5, 0, 0), (.aload_n 0, 1, 0, 0, 0), (.getfield 124, 3, 9, 8, 0), (.if_icmp .ge 25, 3, 140, 0, 0)]), (118, [(.aload_n 0, 1, 0, 0, 0), (.iload_n 1, 1, 1, 0, 0), (.iload_n 2, 1, 2, 0, 0), (.iload 5, 2, 5, 0, 0), (.iload 4, 2, 4, 0, 0), (.invokevirtual 228, 3, 154, 5, 9)]), (128, [(.ifCond .eq 6, 3, 134, 0, 0)]), (131, [(.iload 5, 2, 5, 0, 0), (.ireturn, 1, 0, 0, 0)]), (134, [(.iinc 5 1, 3, 5, 0, 1), (.goto (-28), 3, 109, 0, 0)]), (140, [(.iconst (-1), 1, 0, 0, (-1)), (.ireturn, 1, 0, 0, 0)])]
def pg_b154 : List (Nat × List am_E) := [(0, [(.aload_n 0, 1, 0, 0, 0), (.iconst 0, 1, 0, 0, 0), (.iload_n 3, 1, 3, 0, 0), (.aload_n 0, 1, 0, 0, 0), (.getfield 7, 3, 9, 0, 1), (.bipush 64, 2, 0, 0, 64), (.iload_n 1, 1, 1, 0, 0), (.iadd, 1, 0, 0, 0), (.iaload, 1, 0, 0, 0), (.invokevirtual 181, 3, 127, 4, 9)]), (15, [(.ifCond .ne 5, 3, 20, 0, 0)]), (18, [(.iconst 0, 1, 0, 0, 0), (.ireturn, 1, 1, 0, 0)]), (20, [(.aload_n 0, 1, 0, 0, 0), (.iconst 0, 1, 0, 0, 0), (.iload_n 3, 1, 3, 0, 0), (.aload_n 0, 1, 0, 0, 0), (.getfield 7, 3, 9, 0, 1), (.bipush 64, 2, 0, 0, 64), (.iload_n 1, 1, 1, 0, 0), (.iadd, 1, 0, 0, 0), (.iaload, 1, 0, 0, 0), (.invokevirtual 147, 3, 126, 4, 9)]), (35, [(.istore 5, 2, 5, 0, 0), (.aload_n 0, 1, 0, 0, 0), (.iconst 0, 1, 0, 0, 0), (.iload_n 1, 1, 1, 0, 0), (.iload_n 3, 1, 3, 0, 0), (.iload 5, 2, 5, 0, 0), (.iconst 5, 1, 0, 0, 5), (.invokevirtual 168, 3, 128, 6, 9)]), (47, [(.istore 6, 2, 6, 0, 0), (.iconst 0, 1, 0, 0, 0), (.istore 7, 2, 7, 0, 0), (.iload 5, 2, 5, 0, 0), (.iconst 1, 1, 0, 0, 1), (.iadd, 1, 0, 0, 0), (.istore 8, 2, 8, 0, 0)]), (58, [(.iload 8, 2, 8, 0, 0), (.iload 6, 2, 6, 0, 0), (.if_icmp .gt 52, 3, 114, 0, 0)]), (65, [(.aload_n 0, 1, 0, 0, 0), (.iconst 0, 1, 0, 0, 0), (.iload_n 1, 1, 1, 0, 0), (.aload_n 0, 1, 0, 0, 0), (.iconst 0, 1, 0, 0, 0), (.iload_n 3, 1, 3, 0, 0), (.iload 8, 2, 8, 0, 0), (.invokevirtual 144, 3, 125, 4, 9)]), (76, [(.aload_n 0, 1, 0, 0, 0), (.invokevirtual 222, 3, 152, 1, 9)]), (80, [(.invokevirtual 225, 3, 150, 5, 9)]), (83, [(.iload 7, 2, 7, 0, 0), (.ifCond .ne 16, 3, 101, 0, 0)]), (88, [(.aload_n 0, 1, 0, 0, 0), (.getfield 36, 3, 9, 17, 1), (.iload_n 2, 1, 2, 0, 0), (.iaload, 1, 0, 0, 0), (.iload 4, 2, 4, 0, 0), (.iconst 1, 1, 0, 0, 1), (.isub, 1, 0, 0, 0), (.if_icmp .ne 7, 3, 105, 0, 0)]), (101, [(.iconst 1, 1, 0, 0, 1), (.goto 4, 3, 106, 0, 0)]), (105, [(.iconst 0, 1, 0, 0, 0)]), (106, [(.istore 7, 2, 7, 0, 0), (.iinc 8 1, 3, 8, 0, 1), (.goto (-53), 3, 58, 0, 0)]), (114, [(.iload 7, 2, 7, 0, 0), (.ireturn, 1, 1, 0, 0)])]
def pg_b155 : List (Nat × List am_E) := [(0, [(.aload_n 0, 1, 0, 0, 0), (.iload_n 1, 1, 1, 0, 0), (.iload_n 2, 1, 2, 0, 0), (.iload_n 3, 1, 3, 0, 0), (.aload_n 0, 1, 0, 0, 0), (.invokevirtual 222, 3, 152, 1, 9)]), (8, [(.invokevirtual 225, 3, 150, 5, 9)]), (11, [(.iconst 0, 1, 0, 0, 0), (.istore 4, 2, 4, 0, 0), (.iconst 0, 1, 0, 0, 0), (.istore 5, 2, 5, 0, 0)]), (17, [(.iload 5, 2, 5, 0, 0), (.aload_n 0, 1, 0, 0, 0), (.getfield 121, 3, 9, 6, 0), (.if_icmp .ge 37, 3, 60, 0, 0)]), (26, [(.iload 4, 2, 4, 0, 0), (.aload_n 0, 1, 0, 0, 0), (.getfield 36, 3, 9, 17, 1), (.iload 5, 2, 5, 0, 0), (.iaload, 1, 0, 0, 0), (.ldc 217, 2, 0, 0, 99999999), (.if_icmp .ge 7, 3, 44, 0, 0)]), (40, [(.iconst 1, 1, 0, 0, 1), (.goto 4, 3, 45, 0, 0)]), (44, [(.iconst 0, 1, 0, 0, 0)]), (45, [(.invokestatic 140, 3, 106, 1, 0)]), (48, [(.iload 5, 2, 5, 0, 0), (.ishl, 1, 0, 0, 0), (.ior, 1, 0, 0, 0), (.istore 4, 2, 4, 0, 0), (.iinc 5 1, 3, 5, 0, 1), (.goto (-40), 3, 17, 0, 0)]), (60, [(.iload 4, 2, 4, 0, 0), (.ireturn, 1, 0, 0, 0)])]
def pg_b156 : List (Nat × List am_E) := [(0, [(.aload_n 0, 1, 0, 0, 0), (.iload_n 1, 1, 1, 0, 0), (.invokevirtual 156, 3, 121, 2, 9)]), (5, [(.ifCond .ne 6, 3, 11, 0, 0)]), (8, [(.ldc 160, 2, 0, 0, (-1000000001)), (.ireturn, 1, 0, 0, 0)]), (11, [(.aload_n 0, 1, 0, 0, 0), (.iconst 0, 1, 0, 0, 0), (.iload_n 1, 1, 1, 0, 0), (.invokevirtual 172, 3, 129, 3, 9)]), (17, [(.ifCond .eq 8, 3, 25, 0, 0)]), (20, [(.ldc 184, 2, 0, 0, (-1000000003)), (.goto 18, 3, 40, 0, 0)]), (25, [(.aload_n 0, 1, 0, 0, 0), (.iconst 0, 1, 0, 0, 0), (.iload_n 1, 1, 1, 0, 0), (.aload_n 0, 1, 0, 0, 0), (.getfield 7, 3, 9, 0, 1), (.bipush 64, 2, 0, 0, 64), (.iload_n 1, 1, 1, 0, 0), (.iadd, 1, 0, 0, 0), (.iaload, 1, 0, 0, 0), (.invokevirtual 232, 3, 155, 4, 9)]), (40, [(.ireturn, 1, 0, 0, 0)])]
def pg_b157 : List (Nat × List am_E) := [(0, [(.aload_n 0, 1, 0, 0, 0), (.iload_n 1, 1, 1, 0, 0), (.invokevirtual 156, 3, 121, 2, 9)]), (5, [(.ifCond .eq 11, 3, 16, 0, 0)]), (8, [(.aload_n 0, 1, 0, 0, 0), (.iload_n 2, 1, 2, 0, 0), (.invokevirtual 156, 3, 121, 2, 9)]), (13, [(.ifCond .ne 6, 3, 19, 0, 0)]), (16, [(.ldc 160, 2, 0, 0, (-1000000001)), (.ireturn, 1, 0, 0, 0)]), (19, [(.aload_n 0, 1, 0, 0, 0), (.iconst 0, 1, 0, 0, 0), (.iload_n 1, 1, 1, 0, 0), (.invokevirtual 172, 3, 129, 3, 9)]), (25, [(.ifCond .eq 6, 3, 31, 0, 0)]), (28, [(.ldc 184, 2, 0, 0, (-1000000003)), (.ireturn, 1, 0, 0, 0)]), (31, [(.aload_n 0, 1, 0, 0, 0), (.iconst 0, 1, 0, 0, 0), (.iload_n 1, 1, 1, 0, 0), (.aload_n 0, 1, 0, 0, 0), (.getfield 7, 3, 9, 0, 1), (.bipush 64, 2, 0, 0, 64), (.iload_n 1, 1, 1, 0, 0), (.iadd, 1, 0, 0, 0), (.iaload, 1, 0, 0, 0), (.aload_n 0, 1, 0, 0, 0), (.invokevirtual 222, 3, 152, 1, 9)]), (47, [(.invokevirtual 225, 3, 150, 5, 9)]), (50, [(.aload_n 0, 1, 0, 0, 0), (.getfield 36, 3, 9, 17, 1), (.iload_n 2, 1, 2, 0, 0), (.iaload, 1, 0, 0, 0), (.ldc 217, 2, 0, 0, 99999999), (.if_icmp .ge 7, 3, 65, 0, 0)]), (61, [(.iconst 1, 1, 0, 0, 1), (.goto 4, 3, 66, 0, 0)]), (65, [(.iconst 0, 1, 0, 0, 0)]), (66, [(.istore_n 3, 1, 3, 0, 0), (.iconst 0, 1, 0, 0, 0), (.istore 4, 2, 4, 0, 0), (.iconst 0, 1, 0, 0, 0), (.istore 5, 2, 5, 0, 0)]), (73, [(.iload 5, 2, 5, 0, 0), (.aload_n 0, 1, 0, 0, 0), (.getfield 124, 3, 9, 8, 0), (.if_icmp .ge 66, 3, 145, 0, 0)]), (82, [(.iload_n 3, 1, 3, 0, 0), (.ifCond .eq 62, 3, 145, 0, 0)]), (86, [(.aload_n 0, 1, 0, 0, 0), (.iconst 0, 1, 0, 0, 0), (.iload_n 1, 1, 1, 0, 0), (.aload_n 0, 1, 0, 0, 0), (.getfield 7, 3, 9, 0, 1), (.bipush 64, 2, 0, 0, 64), (.iload_n 1, 1, 1, 0, 0), (.iadd, 1, 0, 0, 0), (.iaload, 1, 0, 0, 0), (.aload_n 0, 1, 0, 0, 0), (.invokevirtual 222, 3, 152, 1, 9)]), (102, [(.iconst 1, 1, 0, 0, 1), (.iload 5, 2, 5, 0, 0), (.ishl, 1, 0, 0, 0), (.iconst (-1), 1, 0, 0, (-1)), (.ixor, 1, 0, 0, 0), (.iand, 1, 0, 0, 0), (.invokevirtual 225, 3, 150, 5, 9)]), (112, [(.iload 4, 2, 4, 0, 0), (.aload_n 0, 1, 0, 0, 0), (.getfield 36, 3, 9, 17, 1), (.iload_n 2, 1, 2, 0, 0), (.iaload, 1, 0, 0, 0), (.ldc 217, 2, 0, 0, 99999999), (.if_icmp .ne 7, 3, 129, 0, 0)]), (125, [(.iconst 1, 1, 0, 0, 1), (.goto 4, 3, 130, 0, 0)]), (129, [(.iconst 0, 1, 0, 0, 0)]), (130, [(.invokestatic 140, 3, 106, 1, 0)]), (133, [(.iload 5, 2, 5, 0, 0), (.ishl, 1, 0, 0, 0), (.ior, 1, 0, 0, 0), (.istore 4, 2, 4, 0, 0), (.iinc 5 1, 3, 5, 0, 1), (.goto (-69), 3, 73, 0, 0)]), (145, [(.iload 4, 2, 4, 0, 0), (.ireturn, 1, 0, 0, 0)])]
def pg_b158 : List (Nat × List am_E) := [(0, [(.aload_n 0, 1, 0, 0, 0), (.iconst 0, 1, 0, 0, 0), (.iload_n 3, 1, 3, 0, 0), (.aload_n 0, 1, 0, 0, 0), (.getfield 7, 3, 9, 0, 1), (.bipush 64, 2, 0, 0, 64), (.iload_n 1, 1, 1, 0, 0), (.iadd, 1, 0, 0, 0), (.iaload, 1, 0, 0, 0), (.invokevirtual 147, 3, 126, 4, 9)]), (15, [(.istore 4, 2, 4, 0, 0), (.aload_n 0, 1, 0, 0, 0), (.iconst 0, 1, 0, 0, 0), (.iload_n 3, 1, 3, 0, 0), (.iload_n 2, 1, 2, 0, 0), (.invokevirtual 147, 3, 126, 4, 9)]), (24, [(.istore 5, 2, 5, 0, 0), (.iload 4, 2, 4, 0, 0), (.iconst (-1), 1, 0, 0, (-1)), (.if_icmp .eq 16, 3, 45, 0, 0)]), (32, [(.iload 5, 2, 5, 0, 0), (.iconst (-1), 1, 0, 0, (-1)), (.if_icmp .eq 10, 3, 45, 0, 0)]), (38, [(.iload 5, 2, 5, 0, 0), (.iload 4, 2, 4, 0, 0), (.if_icmp .gt 6, 3, 48, 0, 0)]), (45, [(.ldc 217, 2, 0, 0, 99999999), (.ireturn, 1, 0, 0, 0)]), (48, [(.iconst 0, 1, 0, 0, 0), (.istore 6, 2, 6, 0, 0), (.iload 4, 2, 4, 0, 0), (.iconst 1, 1, 0, 0, 1), (.iadd, 1, 0, 0, 0), (.istore 7, 2, 7, 0, 0)]), (57, [(.iload 7, 2, 7, 0, 0), (.iload 5, 2, 5, 0, 0), (.if_icmp .gt 51, 3, 112, 0, 0)]), (64, [(.iload 7, 2, 7, 0, 0), (.aload_n 0, 1, 0, 0, 0), (.getfield 26, 3, 9, 5, 1), (.iload_n 3, 1, 3, 0, 0), (.iaload, 1, 0, 0, 0), (.imul, 1, 0, 0, 0), (.aload_n 0, 1, 0, 0, 0), (.iconst 0, 1, 0, 0, 0), (.iload_n 1, 1, 1, 0, 0), (.aload_n 0, 1, 0, 0, 0), (.iconst 0, 1, 0, 0, 0), (.iload_n 3, 1, 3, 0, 0), (.iload 7, 2, 7, 0, 0), (.invokevirtual 144, 3, 125, 4, 9)]), (84, [(.invokevirtual 136, 3, 123, 4, 9)]), (87, [(.isub, 1, 0, 0, 0), (.istore 8, 2, 8, 0, 0), (.iload 6, 2, 6, 0, 0), (.iload 8, 2, 8, 0, 0), (.ifCond .le 8, 3, 102, 0, 0)]), (97, [(.iload 8, 2, 8, 0, 0), (.goto 4, 3, 103, 0, 0)]), (102, [(.iconst 0, 1, 0, 0, 0)]), (103, [(.iadd, 1, 0, 0, 0), (.istore 6, 2, 6, 0, 0), (.iinc 7 1, 3, 7, 0, 1), (.goto (-52), 3, 57, 0, 0)]), (112, [(.iload 6, 2, 6, 0, 0), (.ireturn, 1, 0, 0, 0)])]
def pg_b159 : List (Nat × List am_E) := [(0, [(.aload_n 0, 1, 0, 0, 0), (.iload_n 1, 1, 1, 0, 0), (.invokevirtual 156, 3, 121, 2, 9)]), (5, [(.ifCond .eq 16, 3, 21, 0, 0)]), (8, [(.aload_n 0, 1, 0, 0, 0), (.iload_n 2, 1, 2, 0, 0), (.invokevirtual 156, 3, 121, 2, 9)]), (13, [(.ifCond .eq 8, 3, 21, 0, 0)]), (16, [(.iload_n 1, 1, 1, 0, 0), (.iload_n 2, 1, 2, 0, 0), (.if_icmp .ne 6, 3, 24, 0, 0)]), (21, [(.ldc 160, 2, 0, 0, (-1000000001)), (.ireturn, 1, 0, 0, 0)]), (24, [(.iload_n 3, 1, 3, 0, 0), (.i2l, 1, 0, 0, 0), (.lconst 0, 1, 0, 0, 0), (.lconst 1, 1, 0, 0, 1), (.invokestatic 53, 3, 105, 3, 0)]), (31, [(.ifCond .ne 6, 3, 37, 0, 0)]), (34, [(.ldc 57, 2, 0, 0, (-1000000002)), (.ireturn, 1, 0, 0, 0)]), (37, [(.iconst (-1), 1, 0, 0, (-1)), (.istore 4, 2, 4, 0, 0), (.ldc 217, 2, 0, 0, 99999999), (.istore 5, 2, 5, 0, 0), (.iconst 0, 1, 0, 0, 0), (.istore 6, 2, 6, 0, 0)]), (47, [(.iload 6, 2, 6, 0, 0), (.aload_n 0, 1, 0, 0, 0), (.getfield 124, 3, 9, 8, 0), (.if_icmp .ge 51, 3, 104, 0, 0)]), (56, [(.aload_n 0, 1, 0, 0, 0), (.iload_n 1, 1, 1, 0, 0), (.iload_n 2, 1, 2, 0, 0), (.iload 6, 2, 6, 0, 0), (.invokevirtual 235, 3, 158, 4, 9)]), (64, [(.istore 7, 2, 7, 0, 0), (.iload 7, 2, 7, 0, 0), (.iload 5, 2, 5, 0, 0), (.if_icmp .ge 8, 3, 78, 0, 0)]), (73, [(.iload 6, 2, 6, 0, 0), (.goto 5, 3, 80, 0, 0)]), (78, [(.iload 4, 2, 4, 0, 0)]), (80, [(.istore 4, 2, 4, 0, 0), (.iload 7, 2, 7, 0, 0), (.iload 5, 2, 5, 0, 0), (.if_icmp .ge 8, 3, 94, 0, 0)]), (89, [(.iload 7, 2, 7, 0, 0), (.goto 5, 3, 96, 0, 0)]), (94, [(.iload 5, 2, 5, 0, 0)]), (96, [(.istore 5, 2, 5, 0, 0), (.iinc 6 1, 3, 6, 0, 1), (.goto (-54), 3, 47, 0, 0)]), (104, [(.iload 4, 2, 4, 0, 0), (.iconst (-1), 1, 0, 0, (-1)), (.if_icmp .eq 8, 3, 115, 0, 0)]), (110, [(.iload_n 3, 1, 3, 0, 0), (.iconst 1, 1, 0, 0, 1), (.if_icmp .ne 8, 3, 120, 0, 0)]), (115, [(.iload 4, 2, 4, 0, 0), (.goto 5, 3, 122, 0, 0)]), (120, [(.iload 5, 2, 5, 0, 0)]), (122, [(.ireturn, 1, 0, 0, 0)])]
def pg_b160 : List (Nat × List am_E) := [(0, [(.aload_n 0, 1, 0, 0, 0), (.iload_n 1, 1, 1, 0, 0), (.invokevirtual 156, 3, 121, 2, 9)]), (5, [(.ifCond .ne 6, 3, 11, 0, 0)]), (8, [(.ldc 160, 2, 0, 0, (-1000000001)), (.ireturn, 1, 0, 0, 0)]), (11, [(.iconst 0, 1, 0, 0, 0), (.istore_n 2, 1, 2, 0, 0), (.iconst 0, 1, 0, 0, 0), (.istore_n 3, 1, 3, 0, 0)]), (15, [(.iload_n 3, 1, 3, 0, 0), (.aload_n 0, 1, 0, 0, 0), (.getfield 121, 3, 9, 6, 0), (.if_icmp .ge 44, 3, 64, 0, 0)]), (23, [(.iload_n 2, 1, 2, 0, 0), (.aload_n 0, 1, 0, 0, 0), (.iconst 0, 1, 0, 0, 0), (.iload_n 3, 1, 3, 0, 0), (.invokevirtual 172, 3, 129, 3, 9)]), (30, [(.ifCond .ne 20, 3, 50, 0, 0)]), (33, [(.aload_n 0, 1, 0, 0, 0), (.getfield 7, 3, 9, 0, 1), (.bipush 64, 2, 0, 0, 64), (.iload_n 3, 1, 3, 0, 0), (.iadd, 1, 0, 0, 0), (.iaload, 1, 0, 0, 0), (.iload_n 1, 1, 1, 0, 0), (.if_icmp .ne 7, 3, 50, 0, 0)]), (46, [(.iconst 1, 1, 0, 0, 1), (.goto 4, 3, 51, 0, 0)]), (50, [(.iconst 0, 1, 0, 0, 0)]), (51, [(.invokestatic 140, 3, 106, 1, 0)]), (54, [(.iload_n 3, 1, 3, 0, 0), (.ishl, 1, 0, 0, 0), (.ior, 1, 0, 0, 0), (.istore_n 2, 1, 2, 0, 0), (.iinc 3 1, 3, 3, 0, 1), (.goto (-46), 3, 15, 0, 0)]), (64, [(.iload_n 2, 1, 2, 0, 0), (.ireturn, 1, 0, 0, 0)])]
def pg_b161 : List (Nat × List am_E) := [(0, [(.iconst 0, 1, 0, 0, 0), (.istore_n 2, 1, 2, 0, 0), (.iconst 0, 1, 0, 0, 0), (.istore_n 3, 1, 3, 0, 0)]), (4, [(.iload_n 3, 1, 3, 0, 0), (.aload_n 0, 1, 0, 0, 0), (.getfield 121, 3, 9, 6, 0), (.if_icmp .ge 76, 3, 85, 0, 0)]), (12, [(.aload_n 0, 1, 0, 0, 0), (.iload_n 1, 1, 1, 0, 0), (.iload_n 3, 1, 3, 0, 0), (.invokevirtual 172, 3, 129, 3, 9)]), (18, [(.ifCond .eq 7, 3, 25, 0, 0)]), (21, [(.iconst 0, 1, 0, 0, 0), (.goto 10, 3, 32, 0, 0)]), (25, [(.aload_n 0, 1, 0, 0, 0), (.iload_n 1, 1, 1, 0, 0), (.iload_n 3, 1, 3, 0, 0), (.iload_n 3, 1, 3, 0, 0), (.invokevirtual 232, 3, 155, 4, 9)]), (32, [(.istore 4, 2, 4, 0, 0), (.iconst 0, 1, 0, 0, 0), (.istore 5, 2, 5, 0, 0)]), (37, [(.iload 5, 2, 5, 0, 0), (.aload_n 0, 1, 0, 0, 0), (.getfield 121, 3, 9, 6, 0), (.if_icmp .ge 36, 3, 79, 0, 0)]), (46, [(.iload_n 2, 1, 2, 0, 0), (.iload 5, 2, 5, 0, 0), (.iload_n 3, 1, 3, 0, 0), (.if_icmp .eq 17, 3, 67, 0, 0)]), (53, [(.iload 4, 2, 4, 0, 0), (.iload 5, 2, 5, 0, 0), (.invokestatic 97, 3, 107, 2, 0)]), (60, [(.ifCond .eq 7, 3, 67, 0, 0)]), (63, [(.iconst 1, 1, 0, 0, 1), (.goto 4, 3, 68, 0, 0)]), (67, [(.iconst 0, 1, 0, 0, 0)]), (68, [(.invokestatic 140, 3, 106, 1, 0)]), (71, [(.iadd, 1, 0, 0, 0), (.istore_n 2, 1, 2, 0, 0), (.iinc 5 1, 3, 5, 0, 1), (.goto (-39), 3, 37, 0, 0)]), (79, [(.iinc 3 1, 3, 3, 0, 1), (.goto (-78), 3, 4, 0, 0)]), (85, [(.iload_n 2, 1, 2, 0, 0), (.ireturn, 1, 0, 0, 0)])]
def pg_b162 : List (Nat × List am_E) := [(0, [(.iconst 1, 1, 0, 0, 1), (.istore_n 3, 1, 3, 0, 0), (.iconst 0, 1, 0, 0, 0), (.istore 4, 2, 4, 0, 0)]), (5, [(.iload 4, 2, 4, 0, 0), (.aload_n 0, 1, 0, 0, 0), (.getfield 23, 3, 9, 4, 1), (.iload_n 1, 1, 1, 0, 0), (.iaload, 1, 0, 0, 0), (.iconst 1, 1, 0, 0, 1), (.isub, 1, 0, 0, 0), (.if_icmp .ge 31, 3, 46, 0, 0)]), (18, [(.iload_n 3, 1, 3, 0, 0), (.ifCond .eq 19, 3, 38, 0, 0)]), (22, [(.aload_n 0, 1, 0, 0, 0), (.iconst 0, 1, 0, 0, 0), (.iload_n 1, 1, 1, 0, 0), (.iload 4, 2, 4, 0, 0), (.invokevirtual 144, 3, 125, 4, 9)]), (30, [(.iload_n 2, 1, 2, 0, 0), (.if_icmp .eq 7, 3, 38, 0, 0)]), (34, [(.iconst 1, 1, 0, 0, 1), (.goto 4, 3, 39, 0, 0)]), (38, [(.iconst 0, 1, 0, 0, 0)]), (39, [(.istore_n 3, 1, 3, 0, 0), (.iinc 4 1, 3, 4, 0, 1), (.goto (-38), 3, 5, 0, 0)]), (46, [(.iload_n 3, 1, 3, 0, 0), (.ireturn, 1, 1, 0, 0)])]
def pg_b163 : List (Nat × List am_E) := [(0, [(.iconst (-1), 1, 0, 0, (-1)), (.istore_n 1, 1, 1, 0, 0), (.iconst (-1), 1, 0, 0, (-1)), (.istore_n 2, 1, 2, 0, 0), (.aload_n 0, 1, 0, 0, 0), (.iconst 0, 1, 0, 0, 0), (.bipush 82, 2, 0, 0, 82), (.invokevirtual 164, 3, 135, 3, 9)]), (11, [(.iconst 0, 1, 0, 0, 0), (.istore_n 3, 1, 3, 0, 0)]), (13, [(.iload_n 3, 1, 3, 0, 0), (.aload_n 0, 1, 0, 0, 0), (.getfield 124, 3, 9, 8, 0), (.if_icmp .ge 113, 3, 131, 0, 0)]), (21, [(.iconst 0, 1, 0, 0, 0), (.istore 4, 2, 4, 0, 0)]), (24, [(.iload 4, 2, 4, 0, 0), (.aload_n 0, 1, 0, 0, 0), (.getfield 121, 3, 9, 6, 0), (.if_icmp .ge 76, 3, 106, 0, 0)]), (33, [(.aload_n 0, 1, 0, 0, 0), (.iload_n 3, 1, 3, 0, 0), (.iload 4, 2, 4, 0, 0), (.invokevirtual 238, 3, 162, 3, 9)]), (40, [(.ifCond .eq 60, 3, 100, 0, 0)]), (43, [(.aload_n 0, 1, 0, 0, 0), (.getfield 7, 3, 9, 0, 1), (.sipush 154, 3, 0, 0, 154), (.iload_n 3, 1, 3, 0, 0), (.iadd, 1, 0, 0, 0), (.iload 4, 2, 4, 0, 0), (.iastore, 1, 0, 0, 0), (.aload_n 0, 1, 0, 0, 0), (.bipush 82, 2, 0, 0, 82), (.invokevirtual 150, 3, 161, 2, 9)]), (61, [(.istore 5, 2, 5, 0, 0), (.iload 5, 2, 5, 0, 0), (.iload_n 2, 1, 2, 0, 0), (.if_icmp .le 19, 3, 85, 0, 0)]), (69, [(.bipush 100, 2, 0, 0, 100), (.iload 5, 2, 5, 0, 0), (.imul, 1, 0, 0, 0), (.bipush 10, 2, 0, 0, 10), (.iload_n 3, 1, 3, 0, 0), (.imul, 1, 0, 0, 0), (.iadd, 1, 0, 0, 0), (.iload 4, 2, 4, 0, 0), (.iadd, 1, 0, 0, 0), (.goto 4, 3, 86, 0, 0)]), (85, [(.iload_n 1, 1, 1, 0, 0)]), (86, [(.istore_n 1, 1, 1, 0, 0), (.iload 5, 2, 5, 0, 0), (.iload_n 2, 1, 2, 0, 0), (.if_icmp .le 8, 3, 98, 0, 0)]), (93, [(.iload 5, 2, 5, 0, 0), (.goto 4, 3, 99, 0, 0)]), (98, [(.iload_n 2, 1, 2, 0, 0)]), (99, [(.istore_n 2, 1, 2, 0, 0)]), (100, [(.iinc 4 1, 3, 4, 0, 1), (.goto (-79), 3, 24, 0, 0)]), (106, [(.aload_n 0, 1, 0, 0, 0), (.getfield 7, 3, 9, 0, 1), (.sipush 154, 3, 0, 0, 154), (.iload_n 3, 1, 3, 0, 0), (.iadd, 1, 0, 0, 0), (.aload_n 0, 1, 0, 0, 0), (.getfield 7, 3, 9, 0, 1), (.bipush 72, 2, 0, 0, 72), (.iload_n 3, 1, 3, 0, 0), (.iadd, 1, 0, 0, 0), (.iaload, 1, 0, 0, 0), (.iastore, 1, 0, 0, 0), (.iinc 3 1, 3, 3, 0, 1), (.goto (-115), 3, 13, 0, 0)]), (131, [(.iload_n 1, 1, 1, 0, 0), (.ireturn, 1, 0, 0, 0)])]
def pg_b164 : List (Nat × List am_E) := [(0, [(.iconst 0, 1, 0, 0, 0), (.istore_n 2, 1, 2, 0, 0)]), (2, [(.iload_n 2, 1, 2, 0, 0), (.aload_n 0, 1, 0, 0, 0), (.getfield 124, 3, 9, 8, 0), (.if_icmp .ge 67, 3, 74, 0, 0)]), (10, [(.aload_n 0, 1, 0, 0, 0), (.bipush 82, 2, 0, 0, 82), (.iload_n 2, 1, 2, 0, 0), (.iload_n 1, 1, 1, 0, 0), (.invokevirtual 181, 3, 127, 4, 9)]), (18, [(.ifCond .eq 50, 3, 68, 0, 0)]), (21, [(.aload_n 0, 1, 0, 0, 0), (.bipush 82, 2, 0, 0, 82), (.iload_n 2, 1, 2, 0, 0), (.iload_n 1, 1, 1, 0, 0), (.invokevirtual 147, 3, 126, 4, 9)]), (29, [(.istore_n 3, 1, 3, 0, 0), (.aload_n 0, 1, 0, 0, 0), (.bipush 82, 2, 0, 0, 82), (.iload_n 1, 1, 1, 0, 0), (.iload_n 2, 1, 2, 0, 0), (.iload_n 3, 1, 3, 0, 0), (.iconst 5, 1, 0, 0, 5), (.invokevirtual 168, 3, 128, 6, 9)]), (40, [(.istore 4, 2, 4, 0, 0), (.iload 4, 2, 4, 0, 0), (.iload_n 3, 1, 3, 0, 0), (.if_icmp .le 23, 3, 68, 0, 0)]), (48, [(.aload_n 0, 1, 0, 0, 0), (.getfield 7, 3, 9, 0, 1), (.sipush 146, 3, 0, 0, 146), (.iload_n 1, 1, 1, 0, 0), (.iadd, 1, 0, 0, 0), (.aload_n 0, 1, 0, 0, 0), (.bipush 82, 2, 0, 0, 82), (.iload_n 2, 1, 2, 0, 0), (.iload 4, 2, 4, 0, 0), (.invokevirtual 144, 3, 125, 4, 9)]), (66, [(.iastore, 1, 0, 0, 0), (.return_, 1, 0, 0, 0)]), (68, [(.iinc 2 1, 3, 2, 0, 1), (.goto (-69), 3, 2, 0, 0)]), (74, [(.return_, 1, 0, 0, 0)])]
def pg_b165 : List (Nat × List am_E) := [(0, [(.aload_n 0, 1, 0, 0, 0), (.iconst 0, 1, 0, 0, 0), (.bipush 82, 2, 0, 0, 82), (.invokevirtual 164, 3, 135, 3, 9)]), (7, [(.iconst 0, 1, 0, 0, 0), (.istore_n 1, 1, 1, 0, 0), (.iconst 1, 1, 0, 0, 1), (.istore_n 2, 1, 2, 0, 0)]), (11, [(.iload_n 2, 1, 2, 0, 0), (.ifCond .eq 84, 3, 96, 0, 0)]), (15, [(.iload_n 1, 1, 1, 0, 0), (.bipush 99, 2, 0, 0, 99), (.if_icmp .ge 78, 3, 96, 0, 0)]), (21, [(.iconst 0, 1, 0, 0, 0), (.istore_n 3, 1, 3, 0, 0)]), (23, [(.iload_n 3, 1, 3, 0, 0), (.aload_n 0, 1, 0, 0, 0), (.getfield 121, 3, 9, 6, 0), (.if_icmp .ge 20, 3, 48, 0, 0)]), (31, [(.aload_n 0, 1, 0, 0, 0), (.getfield 7, 3, 9, 0, 1), (.sipush 146, 3, 0, 0, 146), (.iload_n 3, 1, 3, 0, 0), (.iadd, 1, 0, 0, 0), (.iload_n 3, 1, 3, 0, 0), (.iastore, 1, 0, 0, 0), (.iinc 3 1, 3, 3, 0, 1), (.goto (-22), 3, 23, 0, 0)]), (48, [(.iconst 0, 1, 0, 0, 0), (.istore_n 3, 1, 3, 0, 0)]), (50, [(.iload_n 3, 1, 3, 0, 0), (.aload_n 0, 1, 0, 0, 0), (.getfield 121, 3, 9, 6, 0), (.if_icmp .ge 24, 3, 79, 0, 0)]), (58, [(.aload_n 0, 1, 0, 0, 0), (.bipush 82, 2, 0, 0, 82), (.iload_n 3, 1, 3, 0, 0), (.invokevirtual 172, 3, 129, 3, 9)]), (65, [(.ifCond .ne 8, 3, 73, 0, 0)]), (68, [(.aload_n 0, 1, 0, 0, 0), (.iload_n 3, 1, 3, 0, 0), (.invokevirtual 241, 3, 164, 2, 9)]), (73, [(.iinc 3 1, 3, 3, 0, 1), (.goto (-26), 3, 50, 0, 0)]), (79, [(.aload_n 0, 1, 0, 0, 0), (.bipush 82, 2, 0, 0, 82), (.invokevirtual 201, 3, 141, 2, 9)]), (85, [(.istore_n 2, 1, 2, 0, 0), (.iload_n 1, 1, 1, 0, 0), (.iload_n 2, 1, 2, 0, 0), (.invokestatic 140, 3, 106, 1, 0)]), (91, [(.iadd, 1, 0, 0, 0), (.istore_n 1, 1, 1, 0, 0), (.goto (-82), 3, 11, 0, 0)]), (96, [(.iload_n 1, 1, 1, 0, 0), (.ireturn, 1, 0, 0, 0)])]
def pg_b166 : List (Nat × List am_E) := [(0, [(.iload_n 1, 1, 1, 0, 0), (.i2l, 1, 0, 0, 0), (.lconst 0, 1, 0, 0, 0), (.ldc2_w 244, 3, 0, 0, 60), (.invokestatic 53, 3, 105, 3, 0)]), (9, [(.ifCond .eq 15, 3, 24, 0, 0)]), (12, [(.iload_n 2, 1, 2, 0, 0), (.i2l, 1, 0, 0, 0), (.lconst 0, 1, 0, 0, 0), (.ldc2_w 246, 3, 0, 0, 1000), (.invokestatic 53, 3, 105, 3, 0)]), (21, [(.ifCond .ne 6, 3, 27, 0, 0)]), (24, [(.ldc 57, 2, 0, 0, (-1000000002)), (.ireturn, 1, 0, 0, 0)]), (27, [(.ldc2_w 248, 3, 0, 0, 1000000000), (.lstore_n 3, 1, 3, 0, 0), (.iconst 0, 1, 0, 0, 0), (.istore 5, 2, 5, 0, 0)]), (34, [(.iload 5, 2, 5, 0, 0), (.iload_n 1, 1, 1, 0, 0), (.if_icmp .ge 22, 3, 59, 0, 0)]), (40, [(.lload_n 3, 1, 3, 0, 0), (.sipush 1000, 3, 0, 0, 1000), (.iload_n 2, 1, 2, 0, 0), (.isub, 1, 0, 0, 0), (.i2l, 1, 0, 0, 0), (.lmul, 1, 0, 0, 0), (.ldc2_w 246, 3, 0, 0, 1000), (.ldiv, 1, 0, 0, 0), (.lstore_n 3, 1, 3, 0, 0), (.iinc 5 1, 3, 5, 0, 1), (.goto (-22), 3, 34, 0, 0)]), (59, [(.lload_n 3, 1, 3, 0, 0), (.l2i, 1, 0, 0, 0), (.ireturn, 1, 0, 0, 0)])]
def pg_b167 : List (Nat × List am_E) := [(0, [(.aload_n 0, 1, 0, 0, 0), (.iload_n 1, 1, 1, 0, 0), (.invokevirtual 161, 3, 122, 2, 9)]), (5, [(.ifCond .ne 6, 3, 11, 0, 0)]), (8, [(.ldc 160, 2, 0, 0, (-1000000001)), (.ireturn, 1, 0, 0, 0)]), (11, [(.iload_n 2, 1, 2, 0, 0), (.i2l, 1, 0, 0, 0), (.lconst 0, 1, 0, 0, 0), (.aload_n 0, 1, 0, 0, 0), (.getfield 23, 3, 9, 4, 1), (.iload_n 1, 1, 1, 0, 0), (.iaload, 1, 0, 0, 0), (.iconst 1, 1, 0, 0, 1), (.isub, 1, 0, 0, 0), (.i2l, 1, 0, 0, 0), (.invokestatic 53, 3, 105, 3, 0)]), (26, [(.ifCond .ne 6, 3, 32, 0, 0)]), (29, [(.ldc 57, 2, 0, 0, (-1000000002)), (.ireturn, 1, 0, 0, 0)]), (32, [(.aload_n 0, 1, 0, 0, 0), (.getfield 127, 3, 9, 20, 0), (.bipush 6, 2, 0, 0, 6), (.if_icmp .ne 6, 3, 44, 0, 0)]), (41, [(.ldc 61, 2, 0, 0, (-1000000004)), (.ireturn, 1, 0, 0, 0)]), (44, [(.aload_n 0, 1, 0, 0, 0), (.getfield 39, 3, 9, 18, 1), (.aload_n 0, 1, 0, 0, 0), (.getfield 127, 3, 9, 20, 0), (.iload_n 1, 1, 1, 0, 0), (.iastore, 1, 0, 0, 0), (.aload_n 0, 1, 0, 0, 0), (.getfield 42, 3, 9, 19, 1), (.aload_n 0, 1, 0, 0, 0), (.getfield 127, 3, 9, 20, 0), (.iload_n 2, 1, 2, 0, 0), (.iastore, 1, 0, 0, 0), (.aload_n 0, 1, 0, 0, 0), (.dup, 1, 0, 0, 0), (.getfield 127, 3, 9, 20, 0), (.iconst 1, 1, 0, 0, 1), (.iadd, 1, 0, 0, 0), (.putfield 127, 3, 9, 20, 0), (.aload_n 0, 1, 0, 0, 0), (.getfield 127, 3, 9, 20, 0), (.ireturn, 1, 0, 0, 0)])]
def pg_b168 : List (Nat × List am_E) := [(0, [(.iconst 0, 1, 0, 0, 0), (.istore_n 3, 1, 3, 0, 0)]), (2, [(.iload_n 3, 1, 3, 0, 0), (.aload_n 0, 1, 0, 0, 0), (.getfield 23, 3, 9, 4, 1), (.iload_n 1, 1, 1, 0, 0), (.iaload, 1, 0, 0, 0), (.iconst 1, 1, 0, 0, 1), (.isub, 1, 0, 0, 0), (.if_icmp .ge 23, 3, 34, 0, 0)]), (14, [(.iload_n 2, 1, 2, 0, 0), (.iload_n 3, 1, 3, 0, 0), (.iconst 1, 1, 0, 0, 1), (.iadd, 1, 0, 0, 0), (.aload_n 0, 1, 0, 0, 0), (.getfield 26, 3, 9, 5, 1), (.iload_n 1, 1, 1, 0, 0), (.iaload, 1, 0, 0, 0), (.imul, 1, 0, 0, 0), (.if_icmp .lt 9, 3, 34, 0, 0)]), (28, [(.iinc 3 1, 3, 3, 0, 1), (.goto (-29), 3, 2, 0, 0)]), (34, [(.iload_n 3, 1, 3, 0, 0), (.ireturn, 1, 0, 0, 0)])]
def pg_b169 : List (Nat × List am_E) := [(0, [(.iconst 0, 1, 0, 0, 0), (.istore_n 1, 1, 1, 0, 0), (.iconst 0, 1, 0, 0, 0), (.istore_n 2, 1, 2, 0, 0)]), (4, [(.iload_n 2, 1, 2, 0, 0), (.bipush 10, 2, 0, 0, 10), (.if_icmp .ge 70, 3, 77, 0, 0)]), (10, [(.iconst 1, 1, 0, 0, 1), (.istore_n 3, 1, 3, 0, 0), (.iconst 0, 1, 0, 0, 0), (.istore 4, 2, 4, 0, 0)]), (15, [(.iload 4, 2, 4, 0, 0), (.aload_n 0, 1, 0, 0, 0), (.getfield 127, 3, 9, 20, 0), (.if_icmp .ge 41, 3, 62, 0, 0)]), (24, [(.iload_n 3, 1, 3, 0, 0), (.ifCond .eq 29, 3, 54, 0, 0)]), (28, [(.aload_n 0, 1, 0, 0, 0), (.aload_n 0, 1, 0, 0, 0), (.getfield 39, 3, 9, 18, 1), (.iload 4, 2, 4, 0, 0), (.iaload, 1, 0, 0, 0), (.iload_n 2, 1, 2, 0, 0), (.invokevirtual 250, 3, 168, 3, 9)]), (40, [(.aload_n 0, 1, 0, 0, 0), (.getfield 42, 3, 9, 19, 1), (.iload 4, 2, 4, 0, 0), (.iaload, 1, 0, 0, 0), (.if_icmp .ne 7, 3, 54, 0, 0)]), (50, [(.iconst 1, 1, 0, 0, 1), (.goto 4, 3, 55, 0, 0)]), (54, [(.iconst 0, 1, 0, 0, 0)]), (55, [(.istore_n 3, 1, 3, 0, 0), (.iinc 4 1, 3, 4, 0, 1), (.goto (-44), 3, 15, 0, 0)]), (62, [(.iload_n 1, 1, 1, 0, 0), (.iload_n 3, 1, 3, 0, 0), (.invokestatic 140, 3, 106, 1, 0)]), (67, [(.iload_n 2, 1, 2, 0, 0), (.ishl, 1, 0, 0, 0), (.ior, 1, 0, 0, 0), (.istore_n 1, 1, 1, 0, 0), (.iinc 2 1, 3, 2, 0, 1), (.goto (-70), 3, 4, 0, 0)]), (77, [(.iload_n 1, 1, 1, 0, 0), (.ireturn, 1, 0, 0, 0)])]
def pg_b170 : List (Nat × List am_E) := [(0, [(.iconst 0, 1, 0, 0, 0), (.istore_n 3, 1, 3, 0, 0), (.iconst 0, 1, 0, 0, 0), (.istore 4, 2, 4, 0, 0)]), (5, [(.iload 4, 2, 4, 0, 0), (.bipush 6, 2, 0, 0, 6), (.if_icmp .ge 75, 3, 84, 0, 0)]), (12, [(.iconst 0, 1, 0, 0, 0), (.istore 5, 2, 5, 0, 0), (.iconst 0, 1, 0, 0, 0), (.istore 6, 2, 6, 0, 0)]), (18, [(.iload 6, 2, 6, 0, 0), (.bipush 10, 2, 0, 0, 10), (.if_icmp .ge 43, 3, 65, 0, 0)]), (25, [(.iload 5, 2, 5, 0, 0), (.iload_n 2, 1, 2, 0, 0), (.iload 6, 2, 6, 0, 0), (.invokestatic 97, 3, 107, 2, 0)]), (33, [(.ifCond .eq 19, 3, 52, 0, 0)]), (36, [(.aload_n 0, 1, 0, 0, 0), (.iload_n 1, 1, 1, 0, 0), (.iload 6, 2, 6, 0, 0), (.invokevirtual 250, 3, 168, 3, 9)]), (43, [(.iload 4, 2, 4, 0, 0), (.if_icmp .ne 7, 3, 52, 0, 0)]), (48, [(.iconst 1, 1, 0, 0, 1), (.goto 4, 3, 53, 0, 0)]), (52, [(.iconst 0, 1, 0, 0, 0)]), (53, [(.invokestatic 140, 3, 106, 1, 0)]), (56, [(.iadd, 1, 0, 0, 0), (.istore 5, 2, 5, 0, 0), (.iinc 6 1, 3, 6, 0, 1), (.goto (-44), 3, 18, 0, 0)]), (65, [(.iload 5, 2, 5, 0, 0), (.iload_n 3, 1, 3, 0, 0), (.if_icmp .le 8, 3, 76, 0, 0)]), (71, [(.iload 5, 2, 5, 0, 0), (.goto 4, 3, 77, 0, 0)]), (76, [(.iload_n 3, 1, 3, 0, 0)]), (77, [(.istore_n 3, 1, 3, 0, 0), (.iinc 4 1, 3, 4, 0, 1), (.goto (-76), 3, 5, 0, 0)]), (84, [(.iload_n 3, 1, 3, 0, 0), (.ireturn, 1, 0, 0, 0)])]
def pg_b171 : List (Nat × List am_E) := [(0, [(.aload_n 0, 1, 0, 0, 0), (.invokevirtual 253, 3, 169, 1, 9)]), (4, [(.istore_n 1, 1, 1, 0, 0), (.iconst 0, 1, 0, 0, 0), (.istore_n 2, 1, 2, 0, 0), (.iconst 0, 1, 0, 0, 0), (.istore_n 3, 1, 3, 0, 0)]), (9, [(.iload_n 3, 1, 3, 0, 0), (.bipush 10, 2, 0, 0, 10), (.if_icmp .ge 17, 3, 29, 0, 0)]), (15, [(.iload_n 2, 1, 2, 0, 0), (.iload_n 1, 1, 1, 0, 0), (.iload_n 3, 1, 3, 0, 0), (.ishr, 1, 0, 0, 0), (.iconst 1, 1, 0, 0, 1), (.iand, 1, 0, 0, 0), (.iadd, 1, 0, 0, 0), (.istore_n 2, 1, 2, 0, 0), (.iinc 3 1, 3, 3, 0, 1), (.goto (-17), 3, 9, 0, 0)]), (29, [(.iconst (-1), 1, 0, 0, (-1)), (.istore_n 3, 1, 3, 0, 0), (.iconst 0, 1, 0, 0, 0), (.istore 4, 2, 4, 0, 0)]), (34, [(.iload 4, 2, 4, 0, 0), (.aload_n 0, 1, 0, 0, 0), (.getfield 124, 3, 9, 8, 0), (.if_icmp .ge 44, 3, 84, 0, 0)]), (43, [(.aload_n 0, 1, 0, 0, 0), (.iload 4, 2, 4, 0, 0), (.iload_n 1, 1, 1, 0, 0), (.invokevirtual 256, 3, 170, 3, 9)]), (50, [(.istore 5, 2, 5, 0, 0), (.iload 5, 2, 5, 0, 0), (.iload_n 2, 1, 2, 0, 0), (.if_icmp .ge 8, 3, 63, 0, 0)]), (58, [(.iload 4, 2, 4, 0, 0), (.goto 4, 3, 64, 0, 0)]), (63, [(.iload_n 3, 1, 3, 0, 0)]), (64, [(.istore_n 3, 1, 3, 0, 0), (.iload 5, 2, 5, 0, 0), (.iload_n 2, 1, 2, 0, 0), (.if_icmp .ge 8, 3, 76, 0, 0)]), (71, [(.iload 5, 2, 5, 0, 0), (.goto 4, 3, 77, 0, 0)]), (76, [(.iload_n 2, 1, 2, 0, 0)]), (77, [(.istore_n 2, 1, 2, 0, 0), (.iinc 4 1, 3, 4, 0, 1), (.goto (-47), 3, 34, 0, 0)]), (84, [(.iload_n 3, 1, 3, 0, 0), (.ireturn, 1, 0, 0, 0)])]
def pg_b172 : List (Nat × List am_E) := [(0, [(.aload_n 0, 1, 0, 0, 0), (.iload_n 1, 1, 1, 0, 0), (.invokevirtual 156, 3, 121, 2, 9)]), (5, [(.ifCond .eq 11, 3, 16, 0, 0)]), (8, [(.aload_n 0, 1, 0, 0, 0), (.iload_n 2, 1, 2, 0, 0), (.invokevirtual 156, 3, 121, 2, 9)]), (13, [(.ifCond .ne 6, 3, 19, 0, 0)]), (16, [(.ldc 160, 2, 0, 0, (-1000000001)), (.ireturn, 1, 0, 0, 0)]), (19, [(.aload_n 0, 1, 0, 0, 0), (.getfield 130, 3, 9, 23, 0), (.bipush 20, 2, 0, 0, 20), (.if_icmp .ne 6, 3, 31, 0, 0)]), (28, [(.ldc 61, 2, 0, 0, (-1000000004)), (.ireturn, 1, 0, 0, 0)]), (31, [(.aload_n 0, 1, 0, 0, 0), (.getfield 45, 3, 9, 21, 1), (.aload_n 0, 1, 0, 0, 0), (.getfield 130, 3, 9, 23, 0), (.iload_n 1, 1, 1, 0, 0), (.iastore, 1, 0, 0, 0), (.aload_n 0, 1, 0, 0, 0), (.getfield 48, 3, 9, 22, 1), (.aload_n 0, 1, 0, 0, 0), (.getfield 130, 3, 9, 23, 0), (.iload_n 2, 1, 2, 0, 0), (.iastore, 1, 0, 0, 0), (.aload_n 0, 1, 0, 0, 0), (.dup, 1, 0, 0, 0), (.getfield 130, 3, 9, 23, 0), (.iconst 1, 1, 0, 0, 1), (.iadd, 1, 0, 0, 0), (.putfield 130, 3, 9, 23, 0), (.aload_n 0, 1, 0, 0, 0), (.getfield 130, 3, 9, 23, 0), (.ireturn, 1, 0, 0, 0)])]
def pg_b173 : List (Nat × List am_E) := [(0, [(.iconst 0, 1, 0, 0, 0), (.istore_n 1, 1, 1, 0, 0)]), (2, [(.iload_n 1, 1, 1, 0, 0), (.aload_n 0, 1, 0, 0, 0), (.getfield 130, 3, 9, 23, 0), (.if_icmp .ge 34, 3, 41, 0, 0)]), (10, [(.aload_n 0, 1, 0, 0, 0), (.getfield 7, 3, 9, 0, 1), (.bipush 64, 2, 0, 0, 64), (.aload_n 0, 1, 0, 0, 0), (.getfield 45, 3, 9, 21, 1), (.iload_n 1, 1, 1, 0, 0), (.iaload, 1, 0, 0, 0), (.iadd, 1, 0, 0, 0), (.iaload, 1, 0, 0, 0), (.aload_n 0, 1, 0, 0, 0), (.getfield 48, 3, 9, 22, 1), (.iload_n 1, 1, 1, 0, 0), (.iaload, 1, 0, 0, 0), (.if_icmp .eq 5, 3, 35, 0, 0)]), (33, [(.iload_n 1, 1, 1, 0, 0), (.ireturn, 1, 0, 0, 0)]), (35, [(.iinc 1 1, 3, 1, 0, 1), (.goto (-36), 3, 2, 0, 0)]), (41, [(.iconst (-1), 1, 0, 0, (-1)), (.ireturn, 1, 0, 0, 0)])]
def pg_b174 : List (Nat × List am_E) := [(0, [(.aload_n 0, 1, 0, 0, 0), (.getfield 127, 3, 9, 20, 0), (.aload_n 0, 1, 0, 0, 0), (.getfield 130, 3, 9, 23, 0), (.iadd, 1, 0, 0, 0), (.istore_n 1, 1, 1, 0, 0), (.aload_n 0, 1, 0, 0, 0), (.iconst 0, 1, 0, 0, 0), (.putfield 127, 3, 9, 20, 0), (.aload_n 0, 1, 0, 0, 0), (.iconst 0, 1, 0, 0, 0), (.putfield 130, 3, 9, 23, 0), (.iload_n 1, 1, 1, 0, 0), (.ireturn, 1, 0, 0, 0)])]
def pg_b175 : List (Nat × List am_E) := [(0, [(.iload_n 1, 1, 1, 0, 0), (.ifCond .ge 6, 3, 7, 0, 0)]), (4, [(.ldc 57, 2, 0, 0, (-1000000002)), (.ireturn, 1, 0, 0, 0)]), (7, [(.aload_n 0, 1, 0, 0, 0), (.getfield 7, 3, 9, 0, 1), (.bipush 81, 2, 0, 0, 81), (.iaload, 1, 0, 0, 0), (.istore_n 2, 1, 2, 0, 0), (.aload_n 0, 1, 0, 0, 0), (.getfield 7, 3, 9, 0, 1), (.bipush 81, 2, 0, 0, 81), (.iload_n 1, 1, 1, 0, 0), (.iastore, 1, 0, 0, 0), (.iload_n 2, 1, 2, 0, 0), (.ireturn, 1, 0, 0, 0)])]
def pg_b176 : List (Nat × List am_E) := [(0, [(.iload_n 1, 1, 1, 0, 0), (.i2l, 1, 0, 0, 0), (.lconst 0, 1, 0, 0, 0), (.lconst 1, 1, 0, 0, 1), (.invokestatic 53, 3, 105, 3, 0)]), (7, [(.ifCond .ne 6, 3, 13, 0, 0)]), (10, [(.ldc 160, 2, 0, 0, (-1000000001)), (.ireturn, 1, 0, 0, 0)]), (13, [(.aload_n 0, 1, 0, 0, 0), (.iconst 0, 1, 0, 0, 0), (.sipush 164, 3, 0, 0, 164), (.bipush 82, 2, 0, 0, 82), (.iload_n 1, 1, 1, 0, 0), (.imul, 1, 0, 0, 0), (.iadd, 1, 0, 0, 0), (.invokevirtual 164, 3, 135, 3, 9)]), (26, [(.aload_n 0, 1, 0, 0, 0), (.getfield 13, 3, 9, 1, 1), (.iload_n 1, 1, 1, 0, 0), (.iconst 1, 1, 0, 0, 1), (.bastore, 1, 0, 0, 0), (.aload_n 0, 1, 0, 0, 0), (.iconst 0, 1, 0, 0, 0), (.putfield 133, 3, 9, 16, 0), (.iconst 1, 1, 0, 0, 1), (.ireturn, 1, 0, 0, 0)])]
def pg_b177 : List (Nat × List am_E) := [(0, [(.iload_n 1, 1, 1, 0, 0), (.i2l, 1, 0, 0, 0), (.lconst 0, 1, 0, 0, 0), (.lconst 1, 1, 0, 0, 1), (.invokestatic 53, 3, 105, 3, 0)]), (7, [(.ifCond .ne 6, 3, 13, 0, 0)]), (10, [(.ldc 160, 2, 0, 0, (-1000000001)), (.ireturn, 1, 0, 0, 0)]), (13, [(.aload_n 0, 1, 0, 0, 0), (.getfield 13, 3, 9, 1, 1), (.iload_n 1, 1, 1, 0, 0), (.baload, 1, 0, 0, 0), (.ifCond .ne 6, 3, 25, 0, 0)]), (22, [(.ldc 184, 2, 0, 0, (-1000000003)), (.ireturn, 1, 0, 0, 0)]), (25, [(.aload_n 0, 1, 0, 0, 0), (.sipush 164, 3, 0, 0, 164), (.bipush 82, 2, 0, 0, 82), (.iload_n 1, 1, 1, 0, 0), (.imul, 1, 0, 0, 0), (.iadd, 1, 0, 0, 0), (.iconst 0, 1, 0, 0, 0), (.invokevirtual 164, 3, 135, 3, 9)]), (38, [(.aload_n 0, 1, 0, 0, 0), (.iconst 0, 1, 0, 0, 0), (.putfield 133, 3, 9, 16, 0), (.iconst 1, 1, 0, 0, 1), (.ireturn, 1, 0, 0, 0)])]
def pg_b178 : List (Nat × List am_E) := [(0, [(.iload_n 0, 1, 0, 0, 0), (.iload_n 0, 1, 0, 0, 0), (.iconst 1, 1, 0, 0, 1), (.iushr, 1, 0, 0, 0), (.ldc_w 265, 3, 0, 0, 1431655765), (.iand, 1, 0, 0, 0), (.isub, 1, 0, 0, 0), (.istore_n 0, 1, 0, 0, 0), (.iload_n 0, 1, 0, 0, 0), (.ldc_w 266, 3, 0, 0, 858993459), (.iand, 1, 0, 0, 0), (.iload_n 0, 1, 0, 0, 0), (.iconst 2, 1, 0, 0, 2), (.iushr, 1, 0, 0, 0), (.ldc_w 266, 3, 0, 0, 858993459), (.iand, 1, 0, 0, 0), (.iadd, 1, 0, 0, 0), (.istore_n 0, 1, 0, 0, 0), (.iload_n 0, 1, 0, 0, 0), (.iload_n 0, 1, 0, 0, 0), (.iconst 4, 1, 0, 0, 4), (.iushr, 1, 0, 0, 0), (.iadd, 1, 0, 0, 0), (.ldc_w 267, 3, 0, 0, 252645135), (.iand, 1, 0, 0, 0), (.istore_n 0, 1, 0, 0, 0), (.iload_n 0, 1, 0, 0, 0), (.iload_n 0, 1, 0, 0, 0), (.bipush 8, 2, 0, 0, 8), (.iushr, 1, 0, 0, 0), (.iadd, 1, 0, 0, 0), (.istore_n 0, 1, 0, 0, 0), (.iload_n 0, 1, 0, 0, 0), (.iload_n 0, 1, 0, 0, 0), (.bipush 16, 2, 0, 0, 16), (.iushr, 1, 0, 0, 0), (.iadd, 1, 0, 0, 0), (.istore_n 0, 1, 0, 0, 0), (.iload_n 0, 1, 0, 0, 0), (.bipush 63, 2, 0, 0, 63), (.iand, 1, 0, 0, 0), (.ireturn, 1, 0, 0, 0)])]
def pg_b179 : List (Nat × List am_E) := [(0, [(.new 7, 3, 8, 11, 0), (.dup, 1, 0, 0, 0), (.invokespecial 9, 3, 63, 1, 0)]), (7, [(.astore_n 1, 1, 1, 0, 0), (.new 10, 3, 9, 24, 0), (.dup, 1, 0, 0, 0), (.invokespecial 12, 3, 104, 1, 0)]), (15, [(.astore_n 2, 1, 2, 0, 0), (.iconst 0, 1, 0, 0, 0), (.istore_n 3, 1, 3, 0, 0)]), (18, [(.iload_n 3, 1, 3, 0, 0), (.aload_n 0, 1, 0, 0, 0), (.arraylength, 1, 0, 0, 0), (.iconst 4, 1, 0, 0, 4), (.isub, 1, 0, 0, 0), (.if_icmp .gt 928, 3, 951, 0, 0)]), (26, [(.aload_n 0, 1, 0, 0, 0), (.iload_n 3, 1, 3, 0, 0), (.iaload, 1, 0, 0, 0), (.bipush 31, 2, 0, 0, 31), (.iand, 1, 0, 0, 0), (.tableswitch 913 0 30 #[140, 163, 176, 189, 212, 245, 268, 301, 344, 377, 400, 433, 456, 479, 502, 545, 568, 601, 644, 667, 680, 693, 726, 759, 772, 785, 818, 831, 844, 867, 890], 140, 0, 0, 0)]), (172, [(.aload_n 1, 1, 1, 0, 0), (.aload_n 0, 1, 0, 0, 0), (.iload_n 3, 1, 3, 0, 0), (.iconst 1, 1, 0, 0, 1), (.iadd, 1, 0, 0, 0), (.iaload, 1, 0, 0, 0), (.invokevirtual 13, 3, 64, 2, 8)]), (181, [(.aload_n 2, 1, 2, 0, 0), (.aload_n 0, 1, 0, 0, 0), (.iload_n 3, 1, 3, 0, 0), (.iconst 1, 1, 0, 0, 1), (.iadd, 1, 0, 0, 0), (.iaload, 1, 0, 0, 0), (.invokevirtual 17, 3, 108, 2, 9)]), (190, [(.if_icmp .eq 755, 3, 945, 0, 0)]), (193, [(.iconst 0, 1, 0, 0, 0), (.ireturn, 1, 1, 0, 0)]), (195, [(.aload_n 1, 1, 1, 0, 0), (.invokevirtual 18, 3, 65, 1, 8)]), (199, [(.aload_n 2, 1, 2, 0, 0), (.invokevirtual 22, 3, 118, 1, 9)]), (203, [(.if_icmp .eq 742, 3, 945, 0, 0)]), (206, [(.iconst 0, 1, 0, 0, 0), (.ireturn, 1, 1, 0, 0)]), (208, [(.aload_n 1, 1, 1, 0, 0), (.invokevirtual 23, 3, 66, 1, 8)]), (212, [(.aload_n 2, 1, 2, 0, 0), (.invokevirtual 26, 3, 120, 1, 9)]), (216, [(.if_icmp .eq 729, 3, 945, 0, 0)]), (219, [(.iconst 0, 1, 0, 0, 0), (.ireturn, 1, 1, 0, 0)]), (221, [(.aload_n 1, 1, 1, 0, 0), (.aload_n 0, 1, 0, 0, 0), (.iload_n 3, 1, 3, 0, 0), (.iconst 1, 1, 0, 0, 1), (.iadd, 1, 0, 0, 0), (.iaload, 1, 0, 0, 0), (.invokevirtual 27, 3, 67, 2, 8)]), (230, [(.aload_n 2, 1, 2, 0, 0), (.aload_n 0, 1, 0, 0, 0), (.iload_n 3, 1, 3, 0, 0), (.iconst 1, 1, 0, 0, 1), (.iadd, 1, 0, 0, 0), (.iaload, 1, 0, 0, 0), (.invokevirtual 30, 3, 131, 2, 9)]), (239, [(.if_icmp .eq 706, 3, 945, 0, 0)]), (242, [(.iconst 0, 1, 0, 0, 0), (.ireturn, 1, 1, 0, 0)]), (244, [(.aload_n 1, 1, 1, 0, 0), (.aload_n 0, 1, 0, 0, 0), (.iload_n 3, 1, 3, 0, 0), (.iconst 1, 1, 0, 0, 1), (.iadd, 1, 0, 0, 0), (.iaload, 1, 0, 0, 0), (.aload_n 0, 1, 0, 0, 0), (.iload_n 3, 1, 3, 0, 0), (.iconst 2, 1, 0, 0, 2), (.iadd, 1, 0, 0, 0), (.iaload, 1, 0, 0, 0), (.invokevirtual 31, 3, 68, 3, 8)]), (258, [(.aload_n 2, 1, 2, 0, 0), (.aload_n 0, 1, 0, 0, 0), (.iload_n 3, 1, 3, 0, 0), (.iconst 1, 1, 0, 0, 1), (.iadd, 1, 0, 0, 0), (.iaload, 1, 0, 0, 0), (.aload_n 0, 1, 0, 0, 0), (.iload_n 3, 1, 3, 0, 0), (.iconst 2, 1, 0, 0, 2), (.iadd, 1, 0, 0, 0), (.iaload, 1, 0, 0, 0), (.invokevirtual 35, 3, 132, 3, 9)]), (272, [(.if_icmp .eq 673, 3, 945, 0, 0)]), (275, [(.iconst 0, 1, 0, 0, 0), (.ireturn, 1, 1, 0, 0)]), (277, [(.aload_n 1, 1, 1, 0, 0), (.aload_n 0, 1, 0, 0, 0), (.iload_n 3, 1, 3, 0, 0), (.iconst 1, 1, 0, 0, 1), (.iadd, 1, 0, 0, 0), (.iaload, 1, 0, 0, 0), (.invokevirtual 36, 3, 69, 2, 8)]), (286, [(.aload_n 2, 1, 2, 0, 0), (.aload_n 0, 1, 0, 0, 0), (.iload_n 3, 1, 3, 0, 0), (.iconst 1, 1, 0, 0, 1), (.iadd, 1, 0, 0, 0), (.iaload, 1, 0, 0, 0), (.invokevirtual 39, 3, 133, 2, 9)]), (295, [(.if_icmp .eq 650, 3, 945, 0, 0)]), (298, [(.iconst 0, 1, 0, 0, 0), (.ireturn, 1, 1, 0, 0)]), (300, [(.aload_n 1, 1, 1, 0, 0), (.aload_n 0, 1, 0, 0, 0), (.iload_n 3, 1, 3, 0, 0), (.iconst 1, 1, 0, 0, 1), (.iadd, 1, 0, 0, 0), (.iaload, 1, 0, 0, 0), (.aload_n 0, 1, 0, 0, 0), (.iload_n 3, 1, 3, 0, 0), (.iconst 2, 1, 0, 0, 2), (.iadd, 1, 0, 0, 0), (.iaload, 1, 0, 0, 0), (.invokevirtual 40, 3, 70, 3, 8)]), (314, [(.aload_n 2, 1, 2, 0, 0), (.aload_n 0, 1, 0, 0, 0), (.iload_n 3, 1, 3, 0, 0), (.iconst 1, 1, 0, 0, 1), (.iadd, 1, 0, 0, 0), (.iaload, 1, 0, 0, 0), (.aload_n 0, 1, 0, 0, 0), (.iload_n 3, 1, 3, 0, 0), (.iconst 2, 1, 0, 0, 2), (.iadd, 1, 0, 0, 0), (.iaload, 1, 0, 0, 0), (.invokevirtual 43, 3, 134, 3, 9)]), (328, [(.if_icmp .eq 617, 3, 945, 0, 0)]), (331, [(.iconst 0, 1, 0, 0, 0), (.ireturn, 1, 1, 0, 0)]), (333, [(.aload_n 1, 1, 1, 0, 0), (.aload_n 0, 1, 0, 0, 0), (.iload_n 3, 1, 3, 0, 0), (.iconst 1, 1, 0, 0, 1), (.iadd, 1, 0, 0, 0), (.iaload, 1, 0, 0, 0), (.aload_n 0, 1, 0, 0, 0), (.iload_n 3, 1, 3, 0, 0), (.iconst 2, 1, 0, 0, 2), (.iadd, 1, 0, 0, 0), (.iaload, 1, 0, 0, 0), (.aload_n 0, 1, 0, 0, 0), (.iload_n 3, 1, 3, 0, 0), (.iconst 3, 1, 0, 0, 3), (.iadd, 1, 0, 0, 0), (.iaload, 1, 0, 0, 0), (.invokevirtual 44, 3, 71, 4, 8)]), (352, [(.aload_n 2, 1, 2, 0, 0), (.aload_n 0, 1, 0, 0, 0), (.iload_n 3, 1, 3, 0, 0), (.iconst 1, 1, 0, 0, 1), (.iadd, 1, 0, 0, 0), (.iaload, 1, 0, 0, 0), (.aload_n 0, 1, 0, 0, 0), (.iload_n 3, 1, 3, 0, 0), (.iconst 2, 1, 0, 0, 2), (.iadd, 1, 0, 0, 0), (.iaload, 1, 0, 0, 0), (.aload_n 0, 1, 0, 0, 0), (.iload_n 3, 1, 3, 0, 0), (.iconst 3, 1, 0, 0, 3), (.iadd, 1, 0, 0, 0), (.iaload, 1, 0, 0, 0), (.invokevirtual 48, 3, 139, 4, 9)]), (371, [(.if_icmp .eq 574, 3, 945, 0, 0)]), (374, [(.iconst 0, 1, 0, 0, 0), (.ireturn, 1, 1, 0, 0)]), (376, [(.aload_n 1, 1, 1, 0, 0), (.aload_n 0, 1, 0, 0, 0), (.iload_n 3, 1, 3, 0, 0), (.iconst 1, 1, 0, 0, 1), (.iadd, 1, 0, 0, 0), (.iaload, 1, 0, 0, 0), (.aload_n 0, 1, 0, 0, 0), (.iload_n 3, 1, 3, 0, 0), (.iconst 2, 1, 0, 0, 2), (.iadd, 1, 0, 0, 0), (.iaload, 1, 0, 0, 0), (.invokevirtual 49, 3, 72, 3, 8)]), (390, [(.aload_n 2, 1, 2, 0, 0), (.aload_n 0, 1, 0, 0, 0), (.iload_n 3, 1, 3, 0, 0), (.iconst 1, 1, 0, 0, 1), (.iadd, 1, 0, 0, 0), (.iaload, 1, 0, 0, 0), (.aload_n 0, 1, 0, 0, 0), (.iload_n 3, 1, 3, 0, 0), (.iconst 2, 1, 0, 0, 2), (.iadd, 1, 0, 0, 0), (.iaload, 1, 0, 0, 0), (.invokevirtual 52, 3, 140, 3, 9)]), (404, [(.if_icmp .eq 541, 3, 945, 0, 0)]), (407, [(.iconst 0, 1, 0, 0, 0), (.ireturn, 1, 1, 0, 0)]), (409, [(.aload_n 1, 1, 1, 0, 0), (.aload_n 0, 1, 0, 0, 0), (.iload_n 3, 1, 3, 0, 0), (.iconst 1, 1, 0, 0, 1), (.iadd, 1, 0, 0, 0), (.iaload, 1, 0, 0, 0), (.invokevirtual 53, 3, 73, 2, 8)]), (418, [(.aload_n 2, 1, 2, 0, 0), (.aload_n 0, 1, 0, 0, 0), (.iload_n 3, 1, 3, 0, 0), (.iconst 1, 1, 0, 0, 1), (.iadd, 1, 0, 0, 0), (.iaload, 1, 0, 0, 0), (.invokevirtual 56, 3, 143, 2, 9)]), (427, [(.if_icmp .eq 518, 3, 945, 0, 0)]), (430, [(.iconst 0, 1, 0, 0, 0), (.ireturn, 1, 1, 0, 0)]), (432, [(.aload_n 1, 1, 1, 0, 0), (.aload_n 0, 1, 0, 0, 0), (.iload_n 3, 1, 3, 0, 0), (.iconst 1, 1, 0, 0, 1), (.iadd, 1, 0, 0, 0), (.iaload, 1, 0, 0, 0), (.aload_n 0, 1, 0, 0, 0), (.iload_n 3, 1, 3, 0, 0), (.iconst 2, 1, 0, 0, 2), (.iadd, 1, 0, 0, 0), (.iaload, 1, 0, 0, 0), (.invokevirtual 57, 3, 74, 3, 8)]), (446, [(.aload_n 2, 1, 2, 0, 0), (.aload_n 0, 1, 0, 0, 0), (.iload_n 3, 1, 3, 0, 0), (.iconst 1, 1, 0, 0, 1), (.iadd, 1, 0, 0, 0), (.iaload, 1, 0, 0, 0), (.aload_n 0, 1, 0, 0, 0), (.iload_n 3, 1, 3, 0, 0), (.iconst 2, 1, 0, 0, 2), (.iadd, 1, 0, 0, 0), (.iaload, 1, 0, 0, 0), (.invokevirtual 60, 3, 144, 3, 9)]), (460, [(.if_icmp .eq 485, 3, 945, 0, 0)]), (463, [(.iconst 0, 1, 0, 0, 0), (.ireturn, 1, 1, 0, 0)]), (465, [(.aload_n 1, 1, 1, 0, 0), (.aload_n 0, 1, 0, 0, 0), (.iload_n 3, 1, 3, 0, 0), (.iconst 1, 1, 0, 0, 1), (.iadd, 1, 0, 0, 0), (.iaload, 1, 0, 0, 0), (.invokevirtual 61, 3, 75, 2, 8)]), (474, [(.aload_n 2, 1, 2, 0, 0), (.aload_n 0, 1, 0, 0, 0), (.iload_n 3, 1, 3, 0, 0), (.iconst 1, 1, 0, 0, 1), (.iadd, 1, 0, 0, 0), (.iaload, 1, 0, 0, 0), (.invokevirtual 64, 3, 145, 2, 9)]), (483, [(.if_icmp .eq 462, 3, 945, 0, 0)]), (486, [(.iconst 0, 1, 0, 0, 0), (.ireturn, 1, 1, 0, 0)]), (488, [(.aload_n 1, 1, 1, 0, 0), (.aload_n 0, 1, 0, 0, 0), (.iload_n 3, 1, 3, 0, 0), (.iconst 1, 1, 0, 0, 1), (.iadd, 1, 0, 0, 0), (.iaload, 1, 0, 0, 0), (.invokevirtual 65, 3, 76, 2, 8)]), (497, [(.aload_n 2, 1, 2, 0, 0), (.aload_n 0, 1, 0, 0, 0), (.iload_n 3, 1, 3, 0, 0), (.iconst 1, 1, 0, 0, 1), (.iadd, 1, 0, 0, 0), (.iaload, 1, 0, 0, 0), (.invokevirtual 68, 3, 148, 2, 9)]), (506, [(.if_icmp .eq 439, 3, 945, 0, 0)]), (509, [(.iconst 0, 1, 0, 0, 0), (.ireturn, 1, 1, 0, 0)]), (511, [(.aload_n 1, 1, 1, 0, 0), (.aload_n 0, 1, 0, 0, 0), (.iload_n 3, 1, 3, 0, 0), (.iconst 1, 1, 0, 0, 1), (.iadd, 1, 0, 0, 0), (.iaload, 1, 0, 0, 0), (.invokevirtual 69, 3, 77, 2, 8)]), (520, [(.aload_n 2, 1, 2, 0, 0), (.aload_n 0, 1, 0, 0, 0), (.iload_n 3, 1, 3, 0, 0), (.iconst 1, 1, 0, 0, 1), (.iadd, 1, 0, 0, 0), (.iaload, 1, 0, 0, 0), (.invokevirtual 72, 3, 149, 2, 9)]), (529, [(.if_icmp .eq 416, 3, 945, 0, 0)]), (532, [(.iconst 0, 1, 0, 0, 0), (.ireturn, 1, 1, 0, 0)]), (534, [(.aload_n 1, 1, 1, 0, 0), (.aload_n 0, 1, 0, 0, 0), (.iload_n 3, 1, 3, 0, 0), (.iconst 1, 1, 0, 0, 1), (.iadd, 1, 0, 0, 0), (.iaload, 1, 0, 0, 0), (.aload_n 0, 1, 0, 0, 0), (.iload_n 3, 1, 3, 0, 0), (.iconst 2, 1, 0, 0, 2), (.iadd, 1, 0, 0, 0), (.iaload, 1, 0, 0, 0), (.aload_n 0, 1, 0, 0, 0), (.iload_n 3, 1, 3, 0, 0), (.iconst 3, 1, 0, 0, 3), (.iadd, 1, 0, 0, 0), (.iaload, 1, 0, 0, 0), (.invokevirtual 73, 3, 78, 4, 8)]), (553, [(.aload_n 2, 1, 2, 0, 0), (.aload_n 0, 1, 0, 0, 0), (.iload_n 3, 1, 3, 0, 0), (.iconst 1, 1, 0, 0, 1), (.iadd, 1, 0, 0, 0), (.iaload, 1, 0, 0, 0), (.aload_n 0, 1, 0, 0, 0), (.iload_n 3, 1, 3, 0, 0), (.iconst 2, 1, 0, 0, 2), (.iadd, 1, 0, 0, 0), (.iaload, 1, 0, 0, 0), (.aload_n 0, 1, 0, 0, 0), (.iload_n 3, 1, 3, 0, 0), (.iconst 3, 1, 0, 0, 3), (.iadd, 1, 0, 0, 0), (.iaload, 1, 0, 0, 0), (.invokevirtual 76, 3, 153, 4, 9)]), (572, [(.if_icmp .eq 373, 3, 945, 0, 0)]), (575, [(.iconst 0, 1, 0, 0, 0), (.ireturn, 1, 1, 0, 0)]), (577, [(.aload_n 1, 1, 1, 0, 0), (.aload_n 0, 1, 0, 0, 0), (.iload_n 3, 1, 3, 0, 0), (.iconst 1, 1, 0, 0, 1), (.iadd, 1, 0, 0, 0), (.iaload, 1, 0, 0, 0), (.invokevirtual 77, 3, 79, 2, 8)]), (586, [(.aload_n 2, 1, 2, 0, 0), (.aload_n 0, 1, 0, 0, 0), (.iload_n 3, 1, 3, 0, 0), (.iconst 1, 1, 0, 0, 1), (.iadd, 1, 0, 0, 0), (.iaload, 1, 0, 0, 0), (.invokevirtual 80, 3, 156, 2, 9)]), (595, [(.if_icmp .eq 350, 3, 945, 0, 0)]), (598, [(.iconst 0, 1, 0, 0, 0), (.ireturn, 1, 1, 0, 0)]), (600, [(.aload_n 1, 1, 1, 0, 0), (.aload_n 0, 1, 0, 0, 0), (.iload_n 3, 1, 3, 0, 0), (.iconst 1, 1, 0, 0, 1), (.iadd, 1, 0, 0, 0), (.iaload, 1, 0, 0, 0), (.aload_n 0, 1, 0, 0, 0), (.iload_n 3, 1, 3, 0, 0), (.iconst 2, 1, 0, 0, 2), (.iadd, 1, 0, 0, 0), (.iaload, 1, 0, 0, 0), (.invokevirtual 81, 3, 80, 3, 8)]), (614, [(.aload_n 2, 1, 2, 0, 0), (.aload_n 0, 1, 0, 0, 0), (.iload_n 3, 1, 3, 0, 0), (.iconst 1, 1, 0, 0, 1), (.iadd, 1, 0, 0, 0), (.iaload, 1, 0, 0, 0), (.aload_n 0, 1, 0, 0, 0), (.iload_n 3, 1, 3, 0, 0), (.iconst 2, 1, 0, 0, 2), (.iadd, 1, 0, 0, 0), (.iaload, 1, 0, 0, 0), (.invokevirtual 84, 3, 157, 3, 9)]), (628, [(.if_icmp .eq 317, 3, 945, 0, 0)]), (631, [(.iconst 0, 1, 0, 0, 0), (.ireturn, 1, 1, 0, 0)]), (633, [(.aload_n 1, 1, 1, 0, 0), (.aload_n 0, 1, 0, 0, 0), (.iload_n 3, 1, 3, 0, 0), (.iconst 1, 1, 0, 0, 1), (.iadd, 1, 0, 0, 0), (.iaload, 1, 0, 0, 0), (.aload_n 0, 1, 0, 0, 0), (.iload_n 3, 1, 3, 0, 0), (.iconst 2, 1, 0, 0, 2), (.iadd, 1, 0, 0, 0), (.iaload, 1, 0, 0, 0), (.aload_n 0, 1, 0, 0, 0), (.iload_n 3, 1, 3, 0, 0), (.iconst 3, 1, 0, 0, 3), (.iadd, 1, 0, 0, 0), (.iaload, 1, 0, 0, 0), (.invokevirtual 85, 3, 81, 4, 8)]), (652, [(.aload_n 2, 1, 2, 0, 0), (.aload_n 0, 1, 0, 0, 0), (.iload_n 3, 1, 3, 0, 0), (.iconst 1, 1, 0, 0, 1), (.iadd, 1, 0, 0, 0), (.iaload, 1, 0, 0, 0), (.aload_n 0, 1, 0, 0, 0), (.iload_n 3, 1, 3, 0, 0), (.iconst 2, 1, 0, 0, 2), (.iadd, 1, 0, 0, 0), (.iaload, 1, 0, 0, 0), (.aload_n 0, 1, 0, 0, 0), (.iload_n 3, 1, 3, 0, 0), (.iconst 3, 1, 0, 0, 3), (.iadd, 1, 0, 0, 0), (.iaload, 1, 0, 0, 0), (.invokevirtual 88, 3, 159, 4, 9)]), (671, [(.if_icmp .eq 274, 3, 945, 0, 0)]), (674, [(.iconst 0, 1, 0, 0, 0), (.ireturn, 1, 1, 0, 0)]), (676, [(.aload_n 1, 1, 1, 0, 0), (.aload_n 0, 1, 0, 0, 0), (.iload_n 3, 1, 3, 0, 0), (.iconst 1, 1, 0, 0, 1), (.iadd, 1, 0, 0, 0), (.iaload, 1, 0, 0, 0), (.invokevirtual 89, 3, 82, 2, 8)]), (685, [(.aload_n 2, 1, 2, 0, 0), (.aload_n 0, 1, 0, 0, 0), (.iload_n 3, 1, 3, 0, 0), (.iconst 1, 1, 0, 0, 1), (.iadd, 1, 0, 0, 0), (.iaload, 1, 0, 0, 0), (.invokevirtual 92, 3, 160, 2, 9)]), (694, [(.if_icmp .eq 251, 3, 945, 0, 0)]), (697, [(.iconst 0, 1, 0, 0, 0), (.ireturn, 1, 1, 0, 0)]), (699, [(.aload_n 1, 1, 1, 0, 0), (.invokevirtual 93, 3, 83, 1, 8)]), (703, [(.aload_n 2, 1, 2, 0, 0), (.invokevirtual 96, 3, 163, 1, 9)]), (707, [(.if_icmp .eq 238, 3, 945, 0, 0)]), (710, [(.iconst 0, 1, 0, 0, 0), (.ireturn, 1, 1, 0, 0)]), (712, [(.aload_n 1, 1, 1, 0, 0), (.invokevirtual 97, 3, 84, 1, 8)]), (716, [(.aload_n 2, 1, 2, 0, 0), (.invokevirtual 100, 3, 165, 1, 9)]), (720, [(.if_icmp .eq 225, 3, 945, 0, 0)]), (723, [(.iconst 0, 1, 0, 0, 0), (.ireturn, 1, 1, 0, 0)]), (725, [(.aload_n 1, 1, 1, 0, 0), (.aload_n 0, 1, 0, 0, 0), (.iload_n 3, 1, 3, 0, 0), (.iconst 1, 1, 0, 0, 1), (.iadd, 1, 0, 0, 0), (.iaload, 1, 0, 0, 0), (.aload_n 0, 1, 0, 0, 0), (.iload_n 3, 1, 3, 0, 0), (.iconst 2, 1, 0, 0, 2), (.iadd, 1, 0, 0, 0), (.iaload, 1, 0, 0, 0), (.invokevirtual 101, 3, 85, 3, 8)]), (739, [(.aload_n 2, 1, 2, 0, 0), (.aload_n 0, 1, 0, 0, 0), (.iload_n 3, 1, 3, 0, 0), (.iconst 1, 1, 0, 0, 1), (.iadd, 1, 0, 0, 0), (.iaload, 1, 0, 0, 0), (.aload_n 0, 1, 0, 0, 0), (.iload_n 3, 1, 3, 0, 0), (.iconst 2, 1, 0, 0, 2), (.iadd, 1, 0, 0, 0), (.iaload, 1, 0, 0, 0), (.invokevirtual 104, 3, 166, 3, 9)]), (753, [(.if_icmp .eq 192, 3, 945, 0, 0)]), (756, [(.iconst 0, 1, 0, 0, 0), (.ireturn, 1, 1, 0, 0)]), (758, [(.aload_n 1, 1, 1, 0, 0), (.aload_n 0, 1, 0, 0, 0), (.iload_n 3, 1, 3, 0, 0), (.iconst 1, 1, 0, 0, 1), (.iadd, 1, 0, 0, 0), (.iaload, 1, 0, 0, 0), (.aload_n 0, 1, 0, 0, 0), (.iload_n 3, 1, 3, 0, 0), (.iconst 2, 1, 0, 0, 2), (.iadd, 1, 0, 0, 0), (.iaload, 1, 0, 0, 0), (.invokevirtual 105, 3, 86, 3, 8)]), (772, [(.aload_n 2, 1, 2, 0, 0), (.aload_n 0, 1, 0, 0, 0), (.iload_n 3, 1, 3, 0, 0), (.iconst 1, 1, 0, 0, 1), (.iadd, 1, 0, 0, 0), (.iaload, 1, 0, 0, 0), (.aload_n 0, 1, 0, 0, 0), (.iload_n 3, 1, 3, 0, 0), (.iconst 2, 1, 0, 0, 2), (.iadd, 1, 0, 0, 0), (.iaload, 1, 0, 0, 0), (.invokevirtual 108, 3, 167, 3, 9)]), (786, [(.if_icmp .eq 159, 3, 945, 0, 0)]), (789, [(.iconst 0, 1, 0, 0, 0), (.ireturn, 1, 1, 0, 0)]), (791, [(.aload_n 1, 1, 1, 0, 0), (.invokevirtual 109, 3, 87, 1, 8)]), (795, [(.aload_n 2, 1, 2, 0, 0), (.invokevirtual 112, 3, 169, 1, 9)]), (799, [(.if_icmp .eq 146, 3, 945, 0, 0)]), (802, [(.iconst 0, 1, 0, 0, 0), (.ireturn, 1, 1, 0, 0)]), (804, [(.aload_n 1, 1, 1, 0, 0), (.invokevirtual 113, 3, 88, 1, 8)]), (808, [(.aload_n 2, 1, 2, 0, 0), (.invokevirtual 116, 3, 171, 1, 9)]), (812, [(.if_icmp .eq 133, 3, 945, 0, 0)]), (815, [(.iconst 0, 1, 0, 0, 0), (.ireturn, 1, 1, 0, 0)]), (817, [(.aload_n 1, 1, 1, 0, 0), (.aload_n 0, 1, 0, 0, 0), (.iload_n 3, 1, 3, 0, 0), (.iconst 1, 1, 0, 0, 1), (.iadd, 1, 0, 0, 0), (.iaload, 1, 0, 0, 0), (.aload_n 0, 1, 0, 0, 0), (.iload_n 3, 1, 3, 0, 0), (.iconst 2, 1, 0, 0, 2), (.iadd, 1, 0, 0, 0), (.iaload, 1, 0, 0, 0), (.invokevirtual 117, 3, 89, 3, 8)]), (831, [(.aload_n 2, 1, 2, 0, 0), (.aload_n 0, 1, 0, 0, 0), (.iload_n 3, 1, 3, 0, 0), (.iconst 1, 1, 0, 0, 1), (.iadd, 1, 0, 0, 0), (.iaload, 1, 0, 0, 0), (.aload_n 0, 1, 0, 0, 0), (.iload_n 3, 1, 3, 0, 0), (.iconst 2, 1, 0, 0, 2), (.iadd, 1, 0, 0, 0), (.iaload, 1, 0, 0, 0), (.invokevirtual 120, 3, 172, 3, 9)]), (845, [(.if_icmp .eq 100, 3, 945, 0, 0)]), (848, [(.iconst 0, 1, 0, 0, 0), (.ireturn, 1, 1, 0, 0)]), (850, [(.aload_n 1, 1, 1, 0, 0), (.invokevirtual 121, 3, 90, 1, 8)]), (854, [(.aload_n 2, 1, 2, 0, 0), (.invokevirtual 124, 3, 173, 1, 9)]), (858, [(.if_icmp .eq 87, 3, 945, 0, 0)]), (861, [(.iconst 0, 1, 0, 0, 0), (.ireturn, 1, 1, 0, 0)]), (863, [(.aload_n 1, 1, 1, 0, 0), (.invokevirtual 125, 3, 91, 1, 8)]), (867, [(.aload_n 2, 1, 2, 0, 0), (.invokevirtual 128, 3, 174, 1, 9)]), (871, [(.if_icmp .eq 74, 3, 945, 0, 0)]), (874, [(.iconst 0, 1, 0, 0, 0), (.ireturn, 1, 1, 0, 0)]), (876, [(.aload_n 1, 1, 1, 0, 0), (.aload_n 0, 1, 0, 0, 0), (.iload_n 3, 1, 3, 0, 0), (.iconst 1, 1, 0, 0, 1), (.iadd, 1, 0, 0, 0), (.iaload, 1, 0, 0, 0), (.invokevirtual 129, 3, 92, 2, 8)]), (885, [(.aload_n 2, 1, 2, 0, 0), (.aload_n 0, 1, 0, 0, 0), (.iload_n 3, 1, 3, 0, 0), (.iconst 1, 1, 0, 0, 1), (.iadd, 1, 0, 0, 0), (.iaload, 1, 0, 0, 0), (.invokevirtual 132, 3, 175, 2, 9)]), (894, [(.if_icmp .eq 51, 3, 945, 0, 0)]), (897, [(.iconst 0, 1, 0, 0, 0), (.ireturn, 1, 1, 0, 0)]), (899, [(.aload_n 1, 1, 1, 0, 0), (.aload_n 0, 1, 0, 0, 0), (.iload_n 3, 1, 3, 0, 0), (.iconst 1, 1, 0, 0, 1), (.iadd, 1, 0, 0, 0), (.iaload, 1, 0, 0, 0), (.invokevirtual 133, 3, 93, 2, 8)]), (908, [(.aload_n 2, 1, 2, 0, 0), (.aload_n 0, 1, 0, 0, 0), (.iload_n 3, 1, 3, 0, 0), (.iconst 1, 1, 0, 0, 1), (.iadd, 1, 0, 0, 0), (.iaload, 1, 0, 0, 0), (.invokevirtual 136, 3, 176, 2, 9)]), (917, [(.if_icmp .eq 28, 3, 945, 0, 0)]), (920, [(.iconst 0, 1, 0, 0, 0), (.ireturn, 1, 1, 0, 0)]), (922, [(.aload_n 1, 1, 1, 0, 0), (.aload_n 0, 1, 0, 0, 0), (.iload_n 3, 1, 3, 0, 0), (.iconst 1, 1, 0, 0, 1), (.iadd, 1, 0, 0, 0), (.iaload, 1, 0, 0, 0), (.invokevirtual 137, 3, 94, 2, 8)]), (931, [(.aload_n 2, 1, 2, 0, 0), (.aload_n 0, 1, 0, 0, 0), (.iload_n 3, 1, 3, 0, 0), (.iconst 1, 1, 0, 0, 1), (.iadd, 1, 0, 0, 0), (.iaload, 1, 0, 0, 0), (.invokevirtual 140, 3, 177, 2, 9)]), (940, [(.if_icmp .eq 5, 3, 945, 0, 0)]), (943, [(.iconst 0, 1, 0, 0, 0), (.ireturn, 1, 1, 0, 0)]), (945, [(.iinc 3 4, 3, 3, 0, 4), (.goto (-930), 3, 18, 0, 0)]), (951, [(.iconst 1, 1, 0, 0, 1), (.ireturn, 1, 1, 0, 0)])]
/-- name, code, locals, answer, owner, height, longs' places, blocks -/
abbrev pg_R : Type := MethodName × ByteArray × Nat × Option FieldType × Nat × Nat × List Nat × List (Nat × List am_E)
def pg_m0 : pg_R := (⟨"PersonLines$Book", "<init>", "()V"⟩, prog_2_method_1_code, 1, none, 0, 1, [], pg_b0)
def pg_m1 : pg_R := (⟨"PersonLines$Book", "clear", "()V"⟩, prog_2_method_2_code, 1, none, 0, 0, [], pg_b1)
def pg_m2 : pg_R := (⟨"PersonLines$Book", "add", "(II)V"⟩, prog_2_method_3_code, 3, none, 0, 0, [], pg_b2)
def pg_m3 : pg_R := (⟨"PersonLines$Book", "firstWrong", "(LPersonLines$Life;)I"⟩, prog_2_method_4_code, 3, some .int, 0, 0, [], pg_b3)
def pg_m4 : pg_R := (⟨"PersonLines$History", "<init>", "(LPersonLines$Plan;)V"⟩, prog_3_method_1_code, 3, none, 1, 2, [], pg_b4)
def pg_m5 : pg_R := (⟨"PersonLines$History", "clear", "()V"⟩, prog_3_method_2_code, 1, none, 1, 0, [], pg_b5)
def pg_m6 : pg_R := (⟨"PersonLines$History", "remember", "(LPersonLines$Life;)V"⟩, prog_3_method_3_code, 2, none, 1, 2, [], pg_b6)
def pg_m7 : pg_R := (⟨"PersonLines$History", "bringBack", "(LPersonLines$Life;I)V"⟩, prog_3_method_4_code, 3, none, 1, 2, [], pg_b7)
def pg_m8 : pg_R := (⟨"PersonLines$Image", "<init>", "(LPersonLines$Plan;)V"⟩, prog_4_method_1_code, 2, none, 2, 2, [], pg_b8)
def pg_m9 : pg_R := (⟨"PersonLines$Life", "<init>", "(LPersonLines$Plan;)V"⟩, prog_5_method_1_code, 2, none, 3, 1, [], pg_b9)
def pg_m10 : pg_R := (⟨"PersonLines$Life", "begin", "()V"⟩, prog_5_method_2_code, 2, none, 3, 2, [], pg_b10)
def pg_m11 : pg_R := (⟨"PersonLines$Life", "copyFrom", "(LPersonLines$Life;)V"⟩, prog_5_method_3_code, 2, none, 3, 1, [], pg_b11)
def pg_m12 : pg_R := (⟨"PersonLines$Life", "lives", "(I)Z"⟩, prog_5_method_4_code, 2, some .boolean, 3, 0, [], pg_b12)
def pg_m13 : pg_R := (⟨"PersonLines$Life", "nearness", "(II)I"⟩, prog_5_method_5_code, 3, some .int, 3, 0, [], pg_b13)
def pg_m14 : pg_R := (⟨"PersonLines$Life", "together", "()I"⟩, prog_5_method_6_code, 4, some .int, 3, 1, [], pg_b14)
def pg_m15 : pg_R := (⟨"PersonLines$Life", "stop", "(II)I"⟩, prog_5_method_7_code, 3, some .int, 3, 0, [], pg_b15)
def pg_m16 : pg_R := (⟨"PersonLines$Life", "placeOf", "(II)I"⟩, prog_5_method_8_code, 4, some .int, 3, 1, [], pg_b16)
def pg_m17 : pg_R := (⟨"PersonLines$Life", "boardingPlace", "(II)I"⟩, prog_5_method_9_code, 4, some .int, 3, 2, [], pg_b17)
def pg_m18 : pg_R := (⟨"PersonLines$Life", "mayBoard", "(II)Z"⟩, prog_5_method_10_code, 3, some .boolean, 3, 3, [], pg_b18)
def pg_m19 : pg_R := (⟨"PersonLines$Life", "lackAt", "(III)I"⟩, prog_5_method_11_code, 4, some .int, 3, 1, [], pg_b19)
def pg_m20 : pg_R := (⟨"PersonLines$Life", "mayGoOn", "(III)Z"⟩, prog_5_method_12_code, 4, some .boolean, 3, 2, [], pg_b20)
def pg_m21 : pg_R := (⟨"PersonLines$Life", "lackOn", "(III)I"⟩, prog_5_method_13_code, 8, some .int, 3, 3, [], pg_b21)
def pg_m22 : pg_R := (⟨"PersonLines$Life", "carry", "(III)V"⟩, prog_5_method_14_code, 6, none, 3, 3, [], pg_b22)
def pg_m23 : pg_R := (⟨"PersonLines$Life", "carryAsleep", "(II)V"⟩, prog_5_method_15_code, 3, none, 3, 2, [], pg_b23)
def pg_m24 : pg_R := (⟨"PersonLines$Life", "bringNearer", "(II)Z"⟩, prog_5_method_16_code, 4, some .boolean, 3, 1, [], pg_b24)
def pg_m25 : pg_R := (⟨"PersonLines$Life", "dawn", "()Z"⟩, prog_5_method_17_code, 4, some .boolean, 3, 2, [], pg_b25)
def pg_m26 : pg_R := (⟨"PersonLines$Life", "sendHome", "()V"⟩, prog_5_method_18_code, 2, none, 3, 1, [], pg_b26)
def pg_m27 : pg_R := (⟨"PersonLines$Life", "goVisiting", "()V"⟩, prog_5_method_19_code, 3, none, 3, 4, [], pg_b27)
def pg_m28 : pg_R := (⟨"PersonLines$Life", "visitingLine", "(I)I"⟩, prog_5_method_20_code, 4, some .int, 3, 3, [], pg_b28)
def pg_m29 : pg_R := (⟨"PersonLines$Plan", "<init>", "()V"⟩, prog_6_method_1_code, 1, none, 4, 1, [], pg_b29)
def pg_m30 : pg_R := (⟨"PersonLines$Plan", "copyFrom", "(LPersonLines$Plan;)V"⟩, prog_6_method_2_code, 2, none, 4, 1, [], pg_b30)
def pg_m31 : pg_R := (⟨"PersonLines$Plan", "putNearness", "(III)V"⟩, prog_6_method_3_code, 4, none, 4, 0, [], pg_b31)
def pg_m32 : pg_R := (⟨"PersonLines$Reader", "<init>", "()V"⟩, prog_7_method_1_code, 1, none, 5, 2, [], pg_b32)
def pg_m33 : pg_R := (⟨"PersonLines$Reader", "add", "(I)V"⟩, prog_7_method_2_code, 2, none, 5, 0, [], pg_b33)
def pg_m34 : pg_R := (⟨"PersonLines$Reader", "read", "()I"⟩, prog_7_method_3_code, 2, some .int, 5, 5, [], pg_b34)
def pg_m35 : pg_R := (⟨"PersonLines$Reader", "readClause", "()V"⟩, prog_7_method_4_code, 1, none, 5, 4, [], pg_b35)
def pg_m36 : pg_R := (⟨"PersonLines$Reader", "readPerson", "()V"⟩, prog_7_method_5_code, 4, none, 5, 2, [], pg_b36)
def pg_m37 : pg_R := (⟨"PersonLines$Reader", "readLine", "()V"⟩, prog_7_method_6_code, 4, none, 5, 3, [], pg_b37)
def pg_m38 : pg_R := (⟨"PersonLines$Reader", "readStops", "(I)I"⟩, prog_7_method_7_code, 4, some .int, 5, 2, [], pg_b38)
def pg_m39 : pg_R := (⟨"PersonLines$Reader", "isAmongFirst", "(III)Z"⟩, prog_7_method_8_code, 5, some .boolean, 5, 0, [], pg_b39)
def pg_m40 : pg_R := (⟨"PersonLines$Reader", "isNext", "(I)Z"⟩, prog_7_method_9_code, 2, some .boolean, 5, 0, [], pg_b40)
def pg_m41 : pg_R := (⟨"PersonLines$Reader", "take", "(I)Z"⟩, prog_7_method_10_code, 2, some .boolean, 5, 1, [], pg_b41)
def pg_m42 : pg_R := (⟨"PersonLines$Reader", "takeNumber", "(I)I"⟩, prog_7_method_11_code, 4, some .int, 5, 1, [], pg_b42)
def pg_m43 : pg_R := (⟨"PersonLines$Reader", "isFigure", "(I)Z"⟩, prog_7_method_12_code, 2, some .boolean, 5, 0, [], pg_b43)
def pg_m44 : pg_R := (⟨"PersonLines$Reader", "skipBlanks", "()V"⟩, prog_7_method_13_code, 1, none, 5, 0, [], pg_b44)
def pg_m45 : pg_R := (⟨"PersonLines$Reader", "mark", "(II)V"⟩, prog_7_method_14_code, 3, none, 5, 0, [], pg_b45)
def pg_m46 : pg_R := (⟨"PersonLines$Sightings", "<init>", "(LPersonLines$Plan;)V"⟩, prog_8_method_1_code, 2, none, 6, 1, [], pg_b46)
def pg_m47 : pg_R := (⟨"PersonLines$Sightings", "clear", "()V"⟩, prog_8_method_2_code, 1, none, 6, 0, [], pg_b47)
def pg_m48 : pg_R := (⟨"PersonLines$Sightings", "add", "(II)V"⟩, prog_8_method_3_code, 3, none, 6, 0, [], pg_b48)
def pg_m49 : pg_R := (⟨"PersonLines$Sightings", "stopBy", "(II)I"⟩, prog_8_method_4_code, 5, some .int, 6, 1, [], pg_b49)
def pg_m50 : pg_R := (⟨"PersonLines$Sightings", "fits", "(I)Z"⟩, prog_8_method_5_code, 3, some .boolean, 6, 2, [], pg_b50)
def pg_m51 : pg_R := (⟨"PersonLines$Sightings", "fitting", "()I"⟩, prog_8_method_6_code, 3, some .int, 6, 3, [], pg_b51)
def pg_m52 : pg_R := (⟨"PersonLines$Sightings", "bestParting", "()I"⟩, prog_8_method_7_code, 6, some .int, 6, 4, [], pg_b52)
def pg_m53 : pg_R := (⟨"PersonLines$Sightings", "greatestPart", "(II)I"⟩, prog_8_method_8_code, 6, some .int, 6, 2, [], pg_b53)
def pg_m54 : pg_R := (⟨"PersonLines$Walks", "<init>", "()V"⟩, prog_9_method_1_code, 1, none, 7, 1, [], pg_b54)
def pg_m55 : pg_R := (⟨"PersonLines$Walks", "lay", "(LPersonLines$Life;II)V"⟩, prog_9_method_2_code, 5, none, 7, 4, [], pg_b55)
def pg_m56 : pg_R := (⟨"PersonLines$Walks", "layLine", "(LPersonLines$Life;II)V"⟩, prog_9_method_3_code, 6, none, 7, 3, [], pg_b56)
def pg_m57 : pg_R := (⟨"PersonLines$Walks", "widened", "(I)I"⟩, prog_9_method_4_code, 4, some .int, 7, 0, [], pg_b57)
def pg_m58 : pg_R := (⟨"PersonLines$Walks", "closure", "(I)I"⟩, prog_9_method_5_code, 4, some .int, 7, 1, [], pg_b58)
def pg_m59 : pg_R := (⟨"PersonLines$Walks", "fewest", "(II)I"⟩, prog_9_method_6_code, 5, some .int, 7, 1, [], pg_b59)
def pg_m60 : pg_R := (⟨"PersonLines$Walks", "firstLine", "(LPersonLines$Life;III)I"⟩, prog_9_method_7_code, 6, some .int, 7, 4, [], pg_b60)
def pg_m61 : pg_R := (⟨"PersonLines$Walks", "byOneRide", "(LPersonLines$Life;II)I"⟩, prog_9_method_8_code, 7, some .int, 7, 3, [], pg_b61)
def pg_m62 : pg_R := (⟨"PersonLines$Walks", "pairs", "(LPersonLines$Life;)I"⟩, prog_9_method_9_code, 4, some .int, 7, 5, [], pg_b62)
def pg_m63 : pg_R := (⟨"PersonLines", "<init>", "()V"⟩, prog_1_method_1_code, 2, none, 8, 3, [], pg_b63)
def pg_m64 : pg_R := (⟨"PersonLines", "feed", "(I)I"⟩, prog_1_method_2_code, 2, some .int, 8, 1, [], pg_b64)
def pg_m65 : pg_R := (⟨"PersonLines", "town", "()I"⟩, prog_1_method_3_code, 3, some .int, 8, 6, [], pg_b65)
def pg_m66 : pg_R := (⟨"PersonLines", "fault", "()I"⟩, prog_1_method_4_code, 1, some .int, 8, 0, [], pg_b66)
def pg_m67 : pg_R := (⟨"PersonLines", "told", "(I)I"⟩, prog_1_method_5_code, 2, some .int, 8, 6, [], pg_b67)
def pg_m68 : pg_R := (⟨"PersonLines", "near", "(II)I"⟩, prog_1_method_6_code, 3, some .int, 8, 1, [], pg_b68)
def pg_m69 : pg_R := (⟨"PersonLines", "at", "(I)I"⟩, prog_1_method_7_code, 2, some .int, 8, 1, [], pg_b69)
def pg_m70 : pg_R := (⟨"PersonLines", "line", "(II)I"⟩, prog_1_method_8_code, 3, some .int, 8, 1, [], pg_b70)
def pg_m71 : pg_R := (⟨"PersonLines", "ride", "(III)I"⟩, prog_1_method_9_code, 4, some .int, 8, 4, [], pg_b71)
def pg_m72 : pg_R := (⟨"PersonLines", "sleep", "(II)I"⟩, prog_1_method_10_code, 3, some .int, 8, 4, [], pg_b72)
def pg_m73 : pg_R := (⟨"PersonLines", "morning", "(I)I"⟩, prog_1_method_11_code, 4, some .int, 8, 3, [], pg_b73)
def pg_m74 : pg_R := (⟨"PersonLines", "end", "(II)I"⟩, prog_1_method_12_code, 4, some .int, 8, 3, [], pg_b74)
def pg_m75 : pg_R := (⟨"PersonLines", "die", "(I)I"⟩, prog_1_method_13_code, 2, some .int, 8, 3, [], pg_b75)
def pg_m76 : pg_R := (⟨"PersonLines", "drift", "(I)I"⟩, prog_1_method_14_code, 4, some .int, 8, 6, [], pg_b76)
def pg_m77 : pg_R := (⟨"PersonLines", "undo", "(I)I"⟩, prog_1_method_15_code, 2, some .int, 8, 3, [], pg_b77)
def pg_m78 : pg_R := (⟨"PersonLines", "ways", "(III)I"⟩, prog_1_method_16_code, 5, some .int, 8, 5, [], pg_b78)
def pg_m79 : pg_R := (⟨"PersonLines", "reached", "(I)I"⟩, prog_1_method_17_code, 2, some .int, 8, 5, [], pg_b79)
def pg_m80 : pg_R := (⟨"PersonLines", "cuts", "(II)I"⟩, prog_1_method_18_code, 5, some .int, 8, 6, [], pg_b80)
def pg_m81 : pg_R := (⟨"PersonLines", "lacks", "(III)I"⟩, prog_1_method_19_code, 8, some .int, 8, 4, [], pg_b81)
def pg_m82 : pg_R := (⟨"PersonLines", "meet", "(I)I"⟩, prog_1_method_20_code, 4, some .int, 8, 1, [], pg_b82)
def pg_m83 : pg_R := (⟨"PersonLines", "bestEnd", "()I"⟩, prog_1_method_21_code, 6, some .int, 8, 6, [], pg_b83)
def pg_m84 : pg_R := (⟨"PersonLines", "warm", "()I"⟩, prog_1_method_22_code, 2, some .int, 8, 5, [], pg_b84)
def pg_m85 : pg_R := (⟨"PersonLines", "names", "(II)I"⟩, prog_1_method_23_code, 6, some .int, 8, 0, [3], pg_b85)
def pg_m86 : pg_R := (⟨"PersonLines", "see", "(II)I"⟩, prog_1_method_24_code, 3, some .int, 8, 1, [], pg_b86)
def pg_m87 : pg_R := (⟨"PersonLines", "could", "()I"⟩, prog_1_method_25_code, 1, some .int, 8, 4, [], pg_b87)
def pg_m88 : pg_R := (⟨"PersonLines", "lookAt", "()I"⟩, prog_1_method_26_code, 1, some .int, 8, 5, [], pg_b88)
def pg_m89 : pg_R := (⟨"PersonLines", "write", "(II)I"⟩, prog_1_method_27_code, 3, some .int, 8, 1, [], pg_b89)
def pg_m90 : pg_R := (⟨"PersonLines", "judge", "()I"⟩, prog_1_method_28_code, 1, some .int, 8, 1, [], pg_b90)
def pg_m91 : pg_R := (⟨"PersonLines", "tear", "()I"⟩, prog_1_method_29_code, 2, some .int, 8, 1, [], pg_b91)
def pg_m92 : pg_R := (⟨"PersonLines", "seed", "(I)I"⟩, prog_1_method_30_code, 3, some .int, 8, 0, [], pg_b92)
def pg_m93 : pg_R := (⟨"PersonLines", "keep", "(I)I"⟩, prog_1_method_31_code, 2, some .int, 8, 2, [], pg_b93)
def pg_m94 : pg_R := (⟨"PersonLines", "goBack", "(I)I"⟩, prog_1_method_32_code, 2, some .int, 8, 2, [], pg_b94)
def pg_m95 : pg_R := (⟨"PersonLines", "isPerson", "(I)Z"⟩, prog_1_method_33_code, 2, some .boolean, 8, 0, [], pg_b95)
def pg_m96 : pg_R := (⟨"PersonLines", "isLine", "(I)Z"⟩, prog_1_method_34_code, 2, some .boolean, 8, 0, [], pg_b96)
def pg_m97 : pg_R := (⟨"PersonLines", "isStop", "(II)Z"⟩, prog_1_method_35_code, 3, some .boolean, 8, 0, [], pg_b97)
def pg_m98 : pg_R := (⟨"PersonLines", "isImage", "(I)Z"⟩, prog_1_method_36_code, 2, some .boolean, 8, 0, [], pg_b98)
def pg_m99 : pg_R := (⟨"PersonLines", "refusalOfDays", "(I)I"⟩, prog_1_method_37_code, 2, some .int, 8, 0, [], pg_b99)
def pg_m100 : pg_R := (⟨"PersonLines", "comesWithout", "(III)Z"⟩, prog_1_method_38_code, 4, some .boolean, 8, 5, [], pg_b100)
def pg_m101 : pg_R := (⟨"PersonLines", "passDayByDraws", "()V"⟩, prog_1_method_39_code, 2, none, 8, 5, [], pg_b101)
def pg_m102 : pg_R := (⟨"PersonLines", "rideByDraws", "(I)V"⟩, prog_1_method_40_code, 4, none, 8, 4, [], pg_b102)
def pg_m103 : pg_R := (⟨"PersonLines", "draw", "(I)I"⟩, prog_1_method_41_code, 2, some .int, 8, 0, [], pg_b103)
def pg_m104 : pg_R := (⟨"PersonLinesModel", "<init>", "()V"⟩, prog_11_method_1_code, 1, none, 9, 1, [], pg_b104)
def pg_m105 : pg_R := (⟨"PersonLinesModel", "in", "(JJJ)Z"⟩, prog_11_method_3_code, 6, some .boolean, 9, 0, [0, 2, 4], pg_b105)
def pg_m106 : pg_R := (⟨"PersonLinesModel", "one", "(Z)I"⟩, prog_11_method_4_code, 1, some .int, 9, 0, [], pg_b106)
def pg_m107 : pg_R := (⟨"PersonLinesModel", "has", "(II)Z"⟩, prog_11_method_5_code, 2, some .boolean, 9, 0, [], pg_b107)
def pg_m108 : pg_R := (⟨"PersonLinesModel", "feed", "(I)I"⟩, prog_11_method_6_code, 2, some .int, 9, 1, [], pg_b108)
def pg_m109 : pg_R := (⟨"PersonLinesModel", "here", "()I"⟩, prog_11_method_7_code, 1, some .int, 9, 0, [], pg_b109)
def pg_m110 : pg_R := (⟨"PersonLinesModel", "want", "(ZII)Z"⟩, prog_11_method_8_code, 4, some .boolean, 9, 0, [], pg_b110)
def pg_m111 : pg_R := (⟨"PersonLinesModel", "takeNumber", "()I"⟩, prog_11_method_9_code, 4, some .int, 9, 1, [], pg_b111)
def pg_m112 : pg_R := (⟨"PersonLinesModel", "takeIn", "(II)I"⟩, prog_11_method_10_code, 5, some .int, 9, 2, [], pg_b112)
def pg_m113 : pg_R := (⟨"PersonLinesModel", "comma", "()V"⟩, prog_11_method_11_code, 1, none, 9, 1, [], pg_b113)
def pg_m114 : pg_R := (⟨"PersonLinesModel", "takePerson", "(I)V"⟩, prog_11_method_12_code, 5, none, 9, 3, [], pg_b114)
def pg_m115 : pg_R := (⟨"PersonLinesModel", "takeStop", "(I)I"⟩, prog_11_method_13_code, 4, some .int, 9, 3, [], pg_b115)
def pg_m116 : pg_R := (⟨"PersonLinesModel", "takeLine", "(I)V"⟩, prog_11_method_14_code, 9, none, 9, 4, [], pg_b116)
def pg_m117 : pg_R := (⟨"PersonLinesModel", "takeClause", "()V"⟩, prog_11_method_15_code, 3, none, 9, 5, [], pg_b117)
def pg_m118 : pg_R := (⟨"PersonLinesModel", "town", "()I"⟩, prog_11_method_16_code, 1, some .int, 9, 6, [], pg_b118)
def pg_m119 : pg_R := (⟨"PersonLinesModel", "take", "()V"⟩, prog_11_method_17_code, 3, none, 9, 0, [], pg_b119)
def pg_m120 : pg_R := (⟨"PersonLinesModel", "fault", "()I"⟩, prog_11_method_18_code, 1, some .int, 9, 0, [], pg_b120)
def pg_m121 : pg_R := (⟨"PersonLinesModel", "isPerson", "(I)Z"⟩, prog_11_method_19_code, 2, some .boolean, 9, 1, [], pg_b121)
def pg_m122 : pg_R := (⟨"PersonLinesModel", "isLine", "(I)Z"⟩, prog_11_method_20_code, 2, some .boolean, 9, 1, [], pg_b122)
def pg_m123 : pg_R := (⟨"PersonLinesModel", "nearIn", "(III)I"⟩, prog_11_method_21_code, 4, some .int, 9, 0, [], pg_b123)
def pg_m124 : pg_R := (⟨"PersonLinesModel", "nearer", "(III)Z"⟩, prog_11_method_22_code, 5, some .boolean, 9, 1, [], pg_b124)
def pg_m125 : pg_R := (⟨"PersonLinesModel", "stopIn", "(III)I"⟩, prog_11_method_23_code, 4, some .int, 9, 0, [], pg_b125)
def pg_m126 : pg_R := (⟨"PersonLinesModel", "whereIn", "(III)I"⟩, prog_11_method_24_code, 5, some .int, 9, 1, [], pg_b126)
def pg_m127 : pg_R := (⟨"PersonLinesModel", "canBoard", "(III)Z"⟩, prog_11_method_25_code, 5, some .boolean, 9, 2, [], pg_b127)
def pg_m128 : pg_R := (⟨"PersonLinesModel", "farIn", "(IIIII)I"⟩, prog_11_method_26_code, 8, some .int, 9, 1, [], pg_b128)
def pg_m129 : pg_R := (⟨"PersonLinesModel", "isDead", "(II)Z"⟩, prog_11_method_27_code, 3, some .boolean, 9, 1, [], pg_b129)
def pg_m130 : pg_R := (⟨"PersonLinesModel", "allNear", "()I"⟩, prog_11_method_28_code, 4, some .int, 9, 1, [], pg_b130)
def pg_m131 : pg_R := (⟨"PersonLinesModel", "told", "(I)I"⟩, prog_11_method_29_code, 2, some .int, 9, 6, [], pg_b131)
def pg_m132 : pg_R := (⟨"PersonLinesModel", "near", "(II)I"⟩, prog_11_method_30_code, 3, some .int, 9, 2, [], pg_b132)
def pg_m133 : pg_R := (⟨"PersonLinesModel", "at", "(I)I"⟩, prog_11_method_31_code, 2, some .int, 9, 2, [], pg_b133)
def pg_m134 : pg_R := (⟨"PersonLinesModel", "line", "(II)I"⟩, prog_11_method_32_code, 3, some .int, 9, 2, [], pg_b134)
def pg_m135 : pg_R := (⟨"PersonLinesModel", "copy", "(II)V"⟩, prog_11_method_33_code, 4, none, 9, 0, [], pg_b135)
def pg_m136 : pg_R := (⟨"PersonLinesModel", "remember", "()V"⟩, prog_11_method_34_code, 2, none, 9, 1, [], pg_b136)
def pg_m137 : pg_R := (⟨"PersonLinesModel", "rideIn", "(IIII)V"⟩, prog_11_method_35_code, 6, none, 9, 2, [], pg_b137)
def pg_m138 : pg_R := (⟨"PersonLinesModel", "sleepIn", "(III)V"⟩, prog_11_method_36_code, 6, none, 9, 2, [], pg_b138)
def pg_m139 : pg_R := (⟨"PersonLinesModel", "ride", "(III)I"⟩, prog_11_method_37_code, 4, some .int, 9, 3, [], pg_b139)
def pg_m140 : pg_R := (⟨"PersonLinesModel", "sleep", "(II)I"⟩, prog_11_method_38_code, 3, some .int, 9, 3, [], pg_b140)
def pg_m141 : pg_R := (⟨"PersonLinesModel", "morningIn", "(I)Z"⟩, prog_11_method_39_code, 6, some .boolean, 9, 2, [], pg_b141)
def pg_m142 : pg_R := (⟨"PersonLinesModel", "refusedDays", "(I)I"⟩, prog_11_method_40_code, 2, some .int, 9, 1, [], pg_b142)
def pg_m143 : pg_R := (⟨"PersonLinesModel", "morning", "(I)I"⟩, prog_11_method_41_code, 5, some .int, 9, 3, [], pg_b143)
def pg_m144 : pg_R := (⟨"PersonLinesModel", "end", "(II)I"⟩, prog_11_method_42_code, 4, some .int, 9, 2, [], pg_b144)
def pg_m145 : pg_R := (⟨"PersonLinesModel", "die", "(I)I"⟩, prog_11_method_43_code, 4, some .int, 9, 2, [], pg_b145)
def pg_m146 : pg_R := (⟨"PersonLinesModel", "draw", "(I)I"⟩, prog_11_method_44_code, 2, some .int, 9, 0, [], pg_b146)
def pg_m147 : pg_R := (⟨"PersonLinesModel", "dayByDraws", "()V"⟩, prog_11_method_45_code, 4, none, 9, 3, [], pg_b147)
def pg_m148 : pg_R := (⟨"PersonLinesModel", "drift", "(I)I"⟩, prog_11_method_46_code, 4, some .int, 9, 4, [], pg_b148)
def pg_m149 : pg_R := (⟨"PersonLinesModel", "undo", "(I)I"⟩, prog_11_method_47_code, 3, some .int, 9, 1, [], pg_b149)
def pg_m150 : pg_R := (⟨"PersonLinesModel", "layWays", "(IIII)V"⟩, prog_11_method_48_code, 8, none, 9, 3, [], pg_b150)
def pg_m151 : pg_R := (⟨"PersonLinesModel", "goOn", "(IIIII)V"⟩, prog_11_method_49_code, 10, none, 9, 2, [], pg_b151)
def pg_m152 : pg_R := (⟨"PersonLinesModel", "allLines", "()I"⟩, prog_11_method_50_code, 1, some .int, 9, 0, [], pg_b152)
def pg_m153 : pg_R := (⟨"PersonLinesModel", "ways", "(III)I"⟩, prog_11_method_51_code, 6, some .int, 9, 5, [], pg_b153)
def pg_m154 : pg_R := (⟨"PersonLinesModel", "leads", "(IIII)Z"⟩, prog_11_method_52_code, 9, some .boolean, 9, 4, [], pg_b154)
def pg_m155 : pg_R := (⟨"PersonLinesModel", "reachedIn", "(III)I"⟩, prog_11_method_53_code, 6, some .int, 9, 4, [], pg_b155)
def pg_m156 : pg_R := (⟨"PersonLinesModel", "reached", "(I)I"⟩, prog_11_method_54_code, 2, some .int, 9, 5, [], pg_b156)
def pg_m157 : pg_R := (⟨"PersonLinesModel", "cuts", "(II)I"⟩, prog_11_method_55_code, 6, some .int, 9, 4, [], pg_b157)
def pg_m158 : pg_R := (⟨"PersonLinesModel", "lacksBy", "(III)I"⟩, prog_11_method_56_code, 9, some .int, 9, 2, [], pg_b158)
def pg_m159 : pg_R := (⟨"PersonLinesModel", "lacks", "(III)I"⟩, prog_11_method_57_code, 8, some .int, 9, 3, [], pg_b159)
def pg_m160 : pg_R := (⟨"PersonLinesModel", "meet", "(I)I"⟩, prog_11_method_58_code, 4, some .int, 9, 2, [], pg_b160)
def pg_m161 : pg_R := (⟨"PersonLinesModel", "pairsIn", "(I)I"⟩, prog_11_method_59_code, 6, some .int, 9, 5, [], pg_b161)
def pg_m162 : pg_R := (⟨"PersonLinesModel", "mayEnd", "(II)Z"⟩, prog_11_method_60_code, 5, some .boolean, 9, 1, [], pg_b162)
def pg_m163 : pg_R := (⟨"PersonLinesModel", "bestEnd", "()I"⟩, prog_11_method_61_code, 6, some .int, 9, 6, [], pg_b163)
def pg_m164 : pg_R := (⟨"PersonLinesModel", "rideOut", "(I)V"⟩, prog_11_method_62_code, 5, none, 9, 3, [], pg_b164)
def pg_m165 : pg_R := (⟨"PersonLinesModel", "warm", "()I"⟩, prog_11_method_63_code, 4, some .int, 9, 4, [], pg_b165)
def pg_m166 : pg_R := (⟨"PersonLinesModel", "names", "(II)I"⟩, prog_11_method_64_code, 6, some .int, 9, 1, [3], pg_b166)
def pg_m167 : pg_R := (⟨"PersonLinesModel", "see", "(II)I"⟩, prog_11_method_65_code, 3, some .int, 9, 2, [], pg_b167)
def pg_m168 : pg_R := (⟨"PersonLinesModel", "getsOff", "(II)I"⟩, prog_11_method_66_code, 4, some .int, 9, 0, [], pg_b168)
def pg_m169 : pg_R := (⟨"PersonLinesModel", "could", "()I"⟩, prog_11_method_67_code, 5, some .int, 9, 1, [], pg_b169)
def pg_m170 : pg_R := (⟨"PersonLinesModel", "greatestPart", "(II)I"⟩, prog_11_method_68_code, 7, some .int, 9, 1, [], pg_b170)
def pg_m171 : pg_R := (⟨"PersonLinesModel", "lookAt", "()I"⟩, prog_11_method_69_code, 6, some .int, 9, 2, [], pg_b171)
def pg_m172 : pg_R := (⟨"PersonLinesModel", "write", "(II)I"⟩, prog_11_method_70_code, 3, some .int, 9, 2, [], pg_b172)
def pg_m173 : pg_R := (⟨"PersonLinesModel", "judge", "()I"⟩, prog_11_method_71_code, 2, some .int, 9, 0, [], pg_b173)
def pg_m174 : pg_R := (⟨"PersonLinesModel", "tear", "()I"⟩, prog_11_method_72_code, 2, some .int, 9, 0, [], pg_b174)
def pg_m175 : pg_R := (⟨"PersonLinesModel", "seed", "(I)I"⟩, prog_11_method_73_code, 3, some .int, 9, 0, [], pg_b175)
def pg_m176 : pg_R := (⟨"PersonLinesModel", "keep", "(I)I"⟩, prog_11_method_74_code, 2, some .int, 9, 1, [], pg_b176)
def pg_m177 : pg_R := (⟨"PersonLinesModel", "goBack", "(I)I"⟩, prog_11_method_75_code, 2, some .int, 9, 1, [], pg_b177)
def pg_m178 : pg_R := (⟨"java/lang/Integer", "bitCount", "(I)I"⟩, prog_12_method_49_code, 1, some .int, 11, 0, [], pg_b178)
def pg_m179 : pg_R := (⟨"PersonLinesLaw", "law", "([I)Z"⟩, code, 4, some .boolean, 10, 7, [], pg_b179)
def pg_ms : List pg_R := [pg_m0, pg_m1, pg_m2, pg_m3, pg_m4, pg_m5, pg_m6, pg_m7, pg_m8, pg_m9, pg_m10, pg_m11, pg_m12, pg_m13, pg_m14, pg_m15, pg_m16, pg_m17, pg_m18, pg_m19, pg_m20, pg_m21, pg_m22, pg_m23, pg_m24, pg_m25, pg_m26, pg_m27, pg_m28, pg_m29, pg_m30, pg_m31, pg_m32, pg_m33, pg_m34, pg_m35, pg_m36, pg_m37, pg_m38, pg_m39, pg_m40, pg_m41, pg_m42, pg_m43, pg_m44, pg_m45, pg_m46, pg_m47, pg_m48, pg_m49, pg_m50, pg_m51, pg_m52, pg_m53, pg_m54, pg_m55, pg_m56, pg_m57, pg_m58, pg_m59, pg_m60, pg_m61, pg_m62, pg_m63, pg_m64, pg_m65, pg_m66, pg_m67, pg_m68, pg_m69, pg_m70, pg_m71, pg_m72, pg_m73, pg_m74, pg_m75, pg_m76, pg_m77, pg_m78, pg_m79, pg_m80, pg_m81, pg_m82, pg_m83, pg_m84, pg_m85, pg_m86, pg_m87, pg_m88, pg_m89, pg_m90, pg_m91, pg_m92, pg_m93, pg_m94, pg_m95, pg_m96, pg_m97, pg_m98, pg_m99, pg_m100, pg_m101, pg_m102, pg_m103, pg_m104, pg_m105, pg_m106, pg_m107, pg_m108, pg_m109, pg_m110, pg_m111, pg_m112, pg_m113, pg_m114, pg_m115, pg_m116, pg_m117, pg_m118, pg_m119, pg_m120, pg_m121, pg_m122, pg_m123, pg_m124, pg_m125, pg_m126, pg_m127, pg_m128, pg_m129, pg_m130, pg_m131, pg_m132, pg_m133, pg_m134, pg_m135, pg_m136, pg_m137, pg_m138, pg_m139, pg_m140, pg_m141, pg_m142, pg_m143, pg_m144, pg_m145, pg_m146, pg_m147, pg_m148, pg_m149, pg_m150, pg_m151, pg_m152, pg_m153, pg_m154, pg_m155, pg_m156, pg_m157, pg_m158, pg_m159, pg_m160, pg_m161, pg_m162, pg_m163, pg_m164, pg_m165, pg_m166, pg_m167, pg_m168, pg_m169, pg_m170, pg_m171, pg_m172, pg_m173, pg_m174, pg_m175, pg_m176, pg_m177, pg_m178, pg_m179]
def pg_m (z : Nat) : pg_R := pg_ms.getD z pg_m0
def pg_y (z : Nat) : MethodName := (pg_m z).1
def pg_c (z : Nat) : ByteArray := (pg_m z).2.1
def pg_mx (z : Nat) : Nat := (pg_m z).2.2.1
def pg_rt (z : Nat) : Option FieldType := (pg_m z).2.2.2.1
def pg_oc (z : Nat) : Nat := (pg_m z).2.2.2.2.1
def pg_ht (z : Nat) : Nat := (pg_m z).2.2.2.2.2.1
def pg_lg (z : Nat) : List Nat := (pg_m z).2.2.2.2.2.2.1
def pg_bs (z : Nat) : List (Nat × List am_E) := (pg_m z).2.2.2.2.2.2.2
def pg_cn (k : Nat) : String := pg_own.getD k ""
def pg_look (pc : Nat) : List (Nat × List am_E) → Option (List am_E)
  | [] => none
  | q :: l => if q.1 = pc then some q.2 else pg_look pc l
def pg_blk (z pc : Nat) : Option (List am_E) := pg_look pc (pg_bs z)
/-- the locals at a method's entry -/
def pg_spread : List am_V → am_L
  | [] => []
  | .inr (.inl x) :: l => some (.inr (.inl x)) :: none :: pg_spread l
  | v :: l => some v :: pg_spread l
def pg_ent (z : Nat) (as : List am_V) : am_L := pg_spread as ++ List.replicate (pg_mx z - (pg_spread as).length) none
def pg_lok (lg : List Nat) : Nat → am_L → Bool
  | _, [] => true
  | i, some (.inr (.inl _)) :: l => lg.contains i && pg_lok lg (i + 1) l
  | i, _ :: l => pg_lok lg (i + 1) l
/-- the arguments fit the method: longs where it has longs, not too many -/
def pg_aok (z : Nat) (as : List am_V) : Bool := pg_lok (pg_lg z) 0 (pg_spread as) && Nat.ble (pg_spread as).length (pg_mx z)
end
section
/-! RUNS: by fuel, then their limit, which satisfies its own equation -/
def am_in (z : Nat) (as : List am_V) (x : Option am_Z) : Option am_Z := match pg_aok z as with
  | true => x
  | false => none
theorem am_in_some {z : Nat} {as : List am_V} {x : Option am_Z} {r : am_Z} (h : am_in z as x = some r) : pg_aok z as = true ∧ x = some r := by
  unfold am_in at h
  cases hk : pg_aok z as with
  | true => rw [hk] at h; exact ⟨rfl, h⟩
  | false => rw [hk] at h; cases h
theorem am_in_t {z : Nat} {as : List am_V} {x : Option am_Z} (h : pg_aok z as = true) : am_in z as x = x := by unfold am_in; rw [h]
noncomputable def am_run : Nat → Nat → am_J
  | 0, _, _, _, _, _, _ => none
  | f + 1, z, pc, ls, st, S, M => match pg_blk z pc with
    | none => none
    | some is => am_RB (am_run f z) (fun z as S M => am_in z as (am_run f z 0 (pg_ent z as) [] S M)) is pc ls st S M
noncomputable def am_lim (g : Nat → Option am_Z) : Option am_Z := @dite _ (∃ (f : Nat) (r : am_Z), g f = some r) (Classical.propDecidable _) (fun h => some (Classical.choose (Classical.choose_spec h))) (fun _ => none)
theorem am_lim_none {g : Nat → Option am_Z} (h : ¬ ∃ (f : Nat) (r : am_Z), g f = some r) : am_lim g = none := by unfold am_lim; exact dif_neg h
theorem am_lim_ex {g : Nat → Option am_Z} {r : am_Z} (h : am_lim g = some r) : ∃ f, g f = some r := by
  by_cases hx : ∃ (f : Nat) (r : am_Z), g f = some r
  · unfold am_lim at h
    rw [dif_pos hx] at h
    have h1 := Classical.choose_spec (Classical.choose_spec hx)
    rw [Option.some.inj h] at h1
    exact ⟨_, h1⟩
  · rw [am_lim_none hx] at h; cases h
theorem am_lim_of {g : Nat → Option am_Z} (hm : ∀ (f f' : Nat) (r : am_Z), f ≤ f' → g f = some r → g f' = some r) {r : am_Z} {f : Nat} (h : g f = some r) : am_lim g = some r := by
  have hx : ∃ (f : Nat) (r : am_Z), g f = some r := ⟨f, r, h⟩
  unfold am_lim
  rw [dif_pos hx]
  have h1 := Classical.choose_spec (Classical.choose_spec hx)
  have a := hm _ (max f (Classical.choose hx)) _ (Nat.le_max_right _ _) h1
  have b := hm _ (max f (Classical.choose hx)) _ (Nat.le_max_left _ _) h
  rw [a] at b
  exact b
theorem am_then_some {o : Option am_Z} {f : Option am_V → am_S → am_M → Option am_Z} {r : am_Z} (h : am_then o f = some r) : ∃ v S M, o = some (v, S, M) ∧ f v S M = some r := by
  cases o with
  | none => cases h
  | some q => obtain ⟨v, S, M⟩ := q; exact ⟨v, S, M, rfl, h⟩
theorem am_cif_some {c : Prop} {x y : Option am_Z} {r : am_Z} (h : am_cif c x y = some r) : (c ∧ x = some r) ∨ (¬ c ∧ y = some r) := by
  by_cases hc : c
  · rw [am_cif_t hc] at h; exact Or.inl ⟨hc, h⟩
  · rw [am_cif_f hc] at h; exact Or.inr ⟨hc, h⟩
/-- more answers ahead: the same answer -/
theorem am_do_mono {J J' : am_J} {C C' : am_C} {K K' : am_L → am_K → am_S → am_M → Option am_Z} (hJ : ∀ pc ls st S M r, J pc ls st S M = some r → J' pc ls st S M = some r) (hC : ∀ z as S M r, C z as S M = some r → C' z as S M = some r) (hK : ∀ ls st S M r, K ls st S M = some r → K' ls st S M = some r)
    {nx : Nat} {ls : am_L} {S : am_S} {M : am_M} {a : am_A} {r : am_Z} (h : am_do J C K nx ls S M a = some r) : am_do J' C' K' nx ls S M a = some r := by
  match a, h with
  | .inl (ls', st', M'), h => exact hK _ _ _ _ _ h
  | .inr (.inl (c, t, ls', st')), h =>
    show am_cif c (J' t ls' st' S M) (K' ls' st' S M) = some r
    rcases am_cif_some (show am_cif c (J t ls' st' S M) (K ls' st' S M) = some r from h) with ⟨h1, h2⟩ | ⟨h1, h2⟩
    · rw [am_cif_t h1]; exact hJ _ _ _ _ _ _ h2
    · rw [am_cif_f h1]; exact hK _ _ _ _ _ h2
  | .inr (.inr (.inl (t, ls', st'))), h => exact hJ _ _ _ _ _ _ h
  | .inr (.inr (.inr (.inl v))), h => exact h
  | .inr (.inr (.inr (.inr (.inl (z, as, st'))))), h =>
    obtain ⟨v, S1, M1, h1, h2⟩ := am_then_some (show am_then (C z as S M) (fun r S' M' => J nx ls (am_push r st') S' M') = some r from h)
    show am_then (C' z as S M) (fun r S' M' => J' nx ls (am_push r st') S' M') = some r
    rw [hC _ _ _ _ _ h1]
    exact hJ _ _ _ _ _ _ h2
  | .inr (.inr (.inr (.inr (.inr (.inl (t, x, n, st')))))), h => exact hK _ _ _ _ _ h
  | .inr (.inr (.inr (.inr (.inr (.inr (k, j, v, st')))))), h => exact hK _ _ _ _ _ h
theorem am_RB_mono {J J' : am_J} {C C' : am_C} (hJ : ∀ pc ls st S M r, J pc ls st S M = some r → J' pc ls st S M = some r) (hC : ∀ z as S M r, C z as S M = some r → C' z as S M = some r) :
    ∀ (is : List am_E) (pc : Nat) (ls : am_L) (st : am_K) (S : am_S) (M : am_M) (r : am_Z), am_RB J C is pc ls st S M = some r → am_RB J' C' is pc ls st S M = some r := by
  intro is
  induction is with
  | nil => intro pc ls st S M r h; exact hJ _ _ _ _ _ _ h
  | cons e is ih =>
    intro pc ls st S M r h
    unfold am_RB am_fin at h ⊢
    cases hs : am_step e pc ls st S M with
    | inl a => rw [hs] at h; exact am_do_mono hJ hC (fun ls st S M r h => ih _ ls st S M r h) h
    | inr q =>
      obtain ⟨g, a⟩ := q
      rw [hs] at h
      obtain ⟨hg, h⟩ := am_ck_some (show am_ck g _ = some r from h)
      show am_ck g _ = some r
      rw [am_ck_t hg]
      exact am_do_mono hJ hC (fun ls st S M r h => ih _ ls st S M r h) h
theorem am_run_mono1 : ∀ (f z pc : Nat) (ls : am_L) (st : am_K) (S : am_S) (M : am_M) (r : am_Z), am_run f z pc ls st S M = some r → am_run (f + 1) z pc ls st S M = some r := by
  intro f
  induction f with
  | zero => intro z pc ls st S M r h; cases h
  | succ f ih =>
    intro z pc ls st S M r h
    unfold am_run at h ⊢
    cases hb : pg_blk z pc with
    | none => rw [hb] at h; cases h
    | some is =>
      rw [hb] at h
      exact am_RB_mono (fun pc ls st S M r h => ih z pc ls st S M r h) (fun z as S M r h => by obtain ⟨h1, h2⟩ := am_in_some h; exact (am_in_t h1).trans (ih z 0 _ _ S M r h2)) is pc ls st S M r h
theorem am_run_mono {f f' : Nat} (hf : f ≤ f') {z pc : Nat} {ls : am_L} {st : am_K} {S : am_S} {M : am_M} {r : am_Z} (h : am_run f z pc ls st S M = some r) : am_run f' z pc ls st S M = some r := by
  induction f' with
  | zero =>
    have : f = 0 := by omega
    rw [this] at h; exact h
  | succ f' ih =>
    rcases Nat.lt_or_ge f' f with h1 | h1
    · have : f = f' + 1 := by omega
      rw [this] at h; exact h
    · exact am_run_mono1 _ _ _ _ _ _ _ _ (ih h1)
/-- the run without fuel -/
noncomputable def am_R (z pc : Nat) (ls : am_L) (st : am_K) (S : am_S) (M : am_M) : Option am_Z := am_lim (fun f => am_run f z pc ls st S M)
noncomputable def am_call (z : Nat) (as : List am_V) (S : am_S) (M : am_M) : Option am_Z := am_in z as (am_R z 0 (pg_ent z as) [] S M)
theorem am_R_of {f z pc : Nat} {ls : am_L} {st : am_K} {S : am_S} {M : am_M} {r : am_Z} (h : am_run f z pc ls st S M = some r) : am_R z pc ls st S M = some r := am_lim_of (fun _ _ _ hf h => am_run_mono hf h) h
theorem am_R_ex {z pc : Nat} {ls : am_L} {st : am_K} {S : am_S} {M : am_M} {r : am_Z} (h : am_R z pc ls st S M = some r) : ∃ f, am_run f z pc ls st S M = some r := am_lim_ex h
/-- a block over the limits comes to its end over some fuel -/
theorem am_do_cont {z nx : Nat} {ls : am_L} {S : am_S} {M : am_M} {a : am_A} {r : am_Z} {K : am_L → am_K → am_S → am_M → Option am_Z} {K' : Nat → am_L → am_K → am_S → am_M → Option am_Z} (hK : ∀ ls st S M r, K ls st S M = some r → ∃ f, K' f ls st S M = some r) (hm : ∀ f f' ls st S M r, f ≤ f' → K' f ls st S M = some r → K' f' ls st S M = some r)
    (h : am_do (am_R z) am_call K nx ls S M a = some r) : ∃ f, am_do (am_run f z) (fun z as S M => am_in z as (am_run f z 0 (pg_ent z as) [] S M)) (K' f) nx ls S M a = some r := by
  match a, h with
  | .inl (ls', st', M'), h => exact hK _ _ _ _ _ h
  | .inr (.inl (c, t, ls', st')), h =>
    rcases am_cif_some (show am_cif c (am_R z t ls' st' S M) (K ls' st' S M) = some r from h) with ⟨h1, h2⟩ | ⟨h1, h2⟩
    · obtain ⟨f, hf⟩ := am_R_ex h2
      refine ⟨f, ?_⟩
      show am_cif c _ _ = some r
      rw [am_cif_t h1]; exact hf
    · obtain ⟨f, hf⟩ := hK _ _ _ _ _ h2
      refine ⟨f, ?_⟩
      show am_cif c _ _ = some r
      rw [am_cif_f h1]; exact hf
  | .inr (.inr (.inl (t, ls', st'))), h => exact am_R_ex h
  | .inr (.inr (.inr (.inl v))), h => exact ⟨0, h⟩
  | .inr (.inr (.inr (.inr (.inl (y, as, st'))))), h =>
    obtain ⟨v, S1, M1, h1, h2⟩ := am_then_some (show am_then (am_call y as S M) (fun r S' M' => am_R z nx ls (am_push r st') S' M') = some r from h)
    obtain ⟨h0, h1⟩ := am_in_some h1
    obtain ⟨f1, hf1⟩ := am_R_ex h1
    obtain ⟨f2, hf2⟩ := am_R_ex h2
    refine ⟨max f1 f2, ?_⟩
    show am_then (am_in y as (am_run (max f1 f2) y 0 (pg_ent y as) [] S M)) (fun r S' M' => am_run (max f1 f2) z nx ls (am_push r st') S' M') = some r
    rw [am_in_t h0, am_run_mono (Nat.le_max_left f1 f2) hf1]
    exact am_run_mono (Nat.le_max_right f1 f2) hf2
  | .inr (.inr (.inr (.inr (.inr (.inl (t, x, n, st')))))), h => exact hK _ _ _ _ _ h
  | .inr (.inr (.inr (.inr (.inr (.inr (k, j, v, st')))))), h => exact hK _ _ _ _ _ h
theorem am_RB_cont (z : Nat) : ∀ (is : List am_E) (pc : Nat) (ls : am_L) (st : am_K) (S : am_S) (M : am_M) (r : am_Z), am_RB (am_R z) am_call is pc ls st S M = some r → ∃ f, am_RB (am_run f z) (fun z as S M => am_in z as (am_run f z 0 (pg_ent z as) [] S M)) is pc ls st S M = some r := by
  intro is
  induction is with
  | nil => intro pc ls st S M r h; exact am_R_ex h
  | cons e is ih =>
    intro pc ls st S M r h
    have hm : ∀ (f f' : Nat) (ls : am_L) (st : am_K) (S : am_S) (M : am_M) (r : am_Z), f ≤ f' → am_RB (am_run f z) (fun z as S M => am_in z as (am_run f z 0 (pg_ent z as) [] S M)) is (pc + e.2.1) ls st S M = some r → am_RB (am_run f' z) (fun z as S M => am_in z as (am_run f' z 0 (pg_ent z as) [] S M)) is (pc + e.2.1) ls st S M = some r :=
      fun f f' ls st S M r hf h => am_RB_mono (fun _ _ _ _ _ _ h => am_run_mono hf h) (fun _ _ _ _ _ h => by obtain ⟨h1, h2⟩ := am_in_some h; exact (am_in_t h1).trans (am_run_mono hf h2)) is _ ls st S M r h
    unfold am_RB am_fin at h
    cases hs : am_step e pc ls st S M with
    | inl a =>
      rw [hs] at h
      obtain ⟨f, hf⟩ := am_do_cont (K' := fun f ls st S M => am_RB (am_run f z) (fun z as S M => am_in z as (am_run f z 0 (pg_ent z as) [] S M)) is (pc + e.2.1) ls st S M) (fun ls st S M r h => ih _ ls st S M r h) hm h
      refine ⟨f, ?_⟩
      unfold am_RB am_fin
      rw [hs]; exact hf
    | inr q =>
      obtain ⟨g, a⟩ := q
      rw [hs] at h
      obtain ⟨hg, h⟩ := am_ck_some (show am_ck g _ = some r from h)
      obtain ⟨f, hf⟩ := am_do_cont (K' := fun f ls st S M => am_RB (am_run f z) (fun z as S M => am_in z as (am_run f z 0 (pg_ent z as) [] S M)) is (pc + e.2.1) ls st S M) (fun ls st S M r h => ih _ ls st S M r h) hm h
      refine ⟨f, ?_⟩
      unfold am_RB am_fin
      rw [hs]
      show am_ck g _ = some r
      rw [am_ck_t hg]; exact hf
/-- THE EQUATION OF A RUN, block by block -/
theorem am_at {z pc : Nat} {is : List am_E} (hb : pg_blk z pc = some is) (ls : am_L) (st : am_K) (S : am_S) (M : am_M) : am_R z pc ls st S M = am_RB (am_R z) am_call is pc ls st S M := by
  have h1 : ∀ r, am_RB (am_R z) am_call is pc ls st S M = some r → am_R z pc ls st S M = some r := by
    intro r h
    obtain ⟨f, hf⟩ := am_RB_cont z is pc ls st S M r h
    refine am_R_of (f := f + 1) ?_
    unfold am_run
    rw [hb]; exact hf
  have h2 : ∀ r, am_R z pc ls st S M = some r → am_RB (am_R z) am_call is pc ls st S M = some r := by
    intro r h
    obtain ⟨f, hf⟩ := am_R_ex h
    cases f with
    | zero => cases hf
    | succ f =>
      unfold am_run at hf
      rw [hb] at hf
      exact am_RB_mono (fun _ _ _ _ _ _ h => am_R_of h) (fun _ _ _ _ _ h => by obtain ⟨h1, h2⟩ := am_in_some h; exact (am_in_t h1).trans (am_R_of h2)) is pc ls st S M r hf
  cases hx : am_RB (am_R z) am_call is pc ls st S M with
  | some r => exact h1 r hx
  | none =>
    cases hy : am_R z pc ls st S M with
    | none => rfl
    | some r => rw [h2 r hy] at hx; cases hx
theorem am_call_eq {z : Nat} {as : List am_V} (h : pg_aok z as = true) (S : am_S) (M : am_M) : am_call z as S M = am_R z 0 (pg_ent z as) [] S M := am_in_t h
end
section
/-! STATIC CHECKS: what the tables say of each link; each instruction is what its block says -/
def pg_fT (c k : Nat) : String × String × String × Bool := (pg_cls.getD c ("", pg_T0, 0)).2.1 k
def pg_nf (c : Nat) : Nat := (pg_cls.getD c ("", pg_T0, 0)).2.2
def pg_ft (c k : Nat) : FieldType := (pg_tys.getD c pg_t0) k
theorem pg_in {α : Type} {l : List (α × Nat)} {f : α → Cond} (h : l.all (fun q => decide (lw_tbl[q.2]? = some (f q.1))) = true) : ∀ q ∈ l, f q.1 ∈ lw_tbl := by
  intro q hq
  have h1 := List.all_eq_true.mp h q hq
  exact List.mem_of_getElem? (of_decide_eq_true h1)
theorem pg_key {α : Type} [DecidableEq α] {l : List (α × Nat)} {f : α → Cond} (h : l.all (fun q => decide (lw_tbl[q.2]? = some (f q.1))) = true) {x : α} (hx : l.any (fun q => decide (q.1 = x)) = true) : f x ∈ lw_tbl := by
  obtain ⟨q, h1, h2⟩ := List.any_eq_true.mp hx
  have h3 := pg_in h q h1
  rw [of_decide_eq_true h2] at h3
  exact h3
def pg_fl : List ((Nat × Nat × Nat × Nat) × Nat) := [((0, 9, 0, 0), 264), ((0, 15, 0, 1), 265), ((0, 18, 0, 2), 266), ((0, 22, 3, 2), 179), ((1, 11, 1, 0), 214), ((1, 20, 1, 2), 216), ((1, 24, 1, 1), 215), ((2, 12, 2, 0), 284), ((3, 9, 3, 1), 177), ((3, 15, 3, 2), 178), ((3, 18, 3, 3), 182), ((3, 21, 3, 0), 175), ((3, 25, 4, 2), 107), ((3, 34, 4, 1), 101), ((3, 38, 4, 5), 120), ((3, 41, 4, 4), 114), ((3, 44, 3, 4), 184), ((3, 47, 3, 5), 186), ((3, 50, 3, 6), 188), ((3, 56, 4, 0), 98), ((3, 75, 4, 3), 112), ((4, 9, 4, 2), 106), ((4, 15, 4, 3), 108), ((4, 18, 4, 4), 113), ((4, 21, 4, 5), 119), ((4, 24, 4, 0), 95), ((4, 28, 4, 1), 100), ((5, 12, 5, 0), 144), ((5, 18, 5, 1), 146), ((5, 22, 5, 3), 149), ((5, 26, 5, 2), 147), ((5, 29, 4, 0), 96), ((5, 32, 4, 1), 103), ((5, 35, 5, 4), 151), ((5, 38, 5, 5), 152), ((5, 75, 4, 3), 110), ((5, 78, 4, 4), 117), ((5, 85, 5, 6), 153), ((5, 88, 4, 5), 121), ((6, 9, 6, 1), 242), ((6, 15, 6, 2), 243), ((6, 18, 6, 3), 244), ((6, 21, 6, 0), 241), ((6, 25, 6, 4), 245), ((6, 29, 4, 4), 116), ((6, 34, 4, 3), 109), ((6, 60, 4, 1), 105), ((7, 9, 7, 0), 231), ((7, 15, 3, 0), 176), ((7, 21, 4, 1), 102), ((7, 31, 4, 4), 115), ((7, 53, 3, 2), 181), ((7, 59, 4, 0), 99), ((8, 10, 8, 0), 295), ((8, 19, 8, 1), 296), ((8, 28, 8, 2), 297), ((8, 32, 8, 3), 298), ((8, 38, 8, 4), 299), ((8, 45, 8, 5), 300), ((8, 52, 8, 6), 301), ((8, 59, 8, 7), 302), ((8, 65, 8, 8), 303), ((8, 70, 8, 9), 304), ((8, 75, 5, 2), 148), ((8, 87, 5, 3), 150), ((8, 88, 5, 0), 145), ((8, 102, 2, 2), 287), ((8, 106, 4, 0), 97), ((8, 109, 4, 1), 104), ((8, 112, 3, 6), 189), ((8, 115, 3, 5), 187), ((8, 118, 3, 4), 185), ((8, 128, 6, 4), 246), ((8, 131, 0, 2), 267), ((8, 132, 1, 2), 217), ((8, 142, 3, 2), 180), ((8, 149, 4, 3), 111), ((8, 152, 4, 4), 118), ((8, 189, 3, 3), 183), ((8, 253, 8, 10), 305), ((8, 259, 2, 0), 285), ((8, 260, 2, 1), 286), ((9, 7, 9, 0), 760), ((9, 13, 9, 1), 761), ((9, 17, 9, 2), 762), ((9, 20, 9, 3), 763), ((9, 23, 9, 4), 764), ((9, 26, 9, 5), 765), ((9, 29, 9, 10), 770), ((9, 32, 9, 15), 775), ((9, 36, 9, 17), 777), ((9, 39, 9, 18), 778), ((9, 42, 9, 19), 779), ((9, 45, 9, 21), 781), ((9, 48, 9, 22), 782), ((9, 58, 9, 11), 771), ((9, 62, 9, 12), 772), ((9, 65, 9, 14), 774), ((9, 72, 9, 13), 773), ((9, 87, 9, 7), 767), ((9, 101, 9, 9), 769), ((9, 121, 9, 6), 766), ((9, 124, 9, 8), 768), ((9, 127, 9, 20), 780), ((9, 130, 9, 23), 783), ((9, 133, 9, 16), 776)]
def pg_fC (q : (Nat × Nat × Nat × Nat)) : Cond := .fieldLink (pg_cn q.1) q.2.1 (pg_cn q.2.2.1) (pg_fT q.2.2.1 q.2.2.2).2.1 (pg_fT q.2.2.1 q.2.2.2).2.2.1
set_option maxRecDepth 100000 in
theorem pg_fl_ok : pg_fl.all (fun q => decide (lw_tbl[q.2]? = some (pg_fC q.1))) = true := by decide +kernel
def pg_ml : List ((Nat × Nat × Nat) × Nat) := [((1, 17, 9), 213), ((1, 27, 11), 534), ((2, 9, 9), 283), ((3, 53, 26), 407), ((3, 59, 13), 460), ((3, 62, 15), 456), ((3, 65, 16), 525), ((3, 68, 12), 411), ((3, 72, 17), 521), ((3, 83, 19), 452), ((3, 87, 20), 545), ((3, 91, 24), 554), ((3, 95, 28), 667), ((3, 99, 22), 671), ((5, 41, 44), 347), ((5, 44, 35), 351), ((5, 47, 40), 355), ((5, 51, 36), 359), ((5, 54, 37), 383), ((5, 57, 45), 363), ((5, 61, 41), 367), ((5, 64, 42), 371), ((5, 68, 31), 379), ((5, 72, 38), 387), ((5, 81, 39), 391), ((5, 91, 43), 375), ((6, 43, 49), 698), ((6, 46, 50), 694), ((6, 50, 51), 711), ((6, 54, 178), 712), ((6, 62, 53), 713), ((7, 27, 56), 444), ((7, 34, 20), 448), ((7, 38, 15), 467), ((7, 42, 57), 472), ((7, 46, 61), 622), ((7, 50, 59), 627), ((7, 56, 17), 626), ((7, 62, 12), 439), ((7, 66, 55), 440), ((7, 69, 58), 468), ((7, 72, 178), 476), ((8, 25, 9), 171), ((8, 37, 4), 207), ((8, 51, 46), 237), ((8, 69, 8), 278), ((8, 79, 33), 335), ((8, 83, 34), 343), ((8, 91, 30), 395), ((8, 94, 10), 402), ((8, 97, 5), 415), ((8, 100, 47), 419), ((8, 101, 1), 423), ((8, 121, 62), 435), ((8, 125, 14), 482), ((8, 133, 95), 490), ((8, 138, 13), 495), ((8, 146, 96), 504), ((8, 155, 97), 508), ((8, 159, 15), 512), ((8, 162, 18), 517), ((8, 166, 6), 530), ((8, 170, 22), 541), ((8, 174, 23), 550), ((8, 178, 99), 562), ((8, 182, 25), 566), ((8, 186, 16), 574), ((8, 192, 12), 579), ((8, 195, 178), 580), ((8, 200, 101), 585), ((8, 203, 7), 605), ((8, 207, 55), 613), ((8, 211, 59), 614), ((8, 214, 60), 618), ((8, 218, 58), 632), ((8, 221, 100), 637), ((8, 225, 21), 645), ((8, 229, 11), 657), ((8, 231, 26), 662), ((8, 234, 27), 663), ((8, 241, 48), 682), ((8, 243, 51), 690), ((8, 246, 52), 707), ((8, 249, 2), 722), ((8, 250, 3), 730), ((8, 256, 98), 746), ((8, 261, 102), 589), ((8, 264, 103), 593), ((9, 53, 105), 839), ((9, 68, 109), 848), ((9, 79, 110), 860), ((9, 84, 111), 872), ((9, 90, 113), 864), ((9, 93, 112), 868), ((9, 97, 107), 887), ((9, 104, 115), 883), ((9, 108, 114), 856), ((9, 112, 116), 879), ((9, 115, 117), 852), ((9, 118, 119), 890), ((9, 136, 123), 943), ((9, 140, 106), 947), ((9, 144, 125), 931), ((9, 147, 126), 927), ((9, 150, 161), 902), ((9, 153, 130), 950), ((9, 156, 121), 958), ((9, 161, 122), 971), ((9, 164, 135), 985), ((9, 168, 128), 939), ((9, 172, 129), 906), ((9, 175, 124), 1001), ((9, 181, 127), 923), ((9, 185, 136), 981), ((9, 188, 137), 989), ((9, 192, 138), 997), ((9, 198, 142), 1009), ((9, 201, 141), 1014), ((9, 211, 146), 1034), ((9, 214, 147), 1030), ((9, 218, 151), 935), ((9, 222, 152), 914), ((9, 225, 150), 918), ((9, 228, 154), 1050), ((9, 232, 155), 910), ((9, 235, 158), 1066), ((9, 238, 162), 1078), ((9, 241, 164), 1086), ((9, 250, 168), 1105), ((9, 253, 169), 1113), ((9, 256, 170), 1114), ((10, 9, 63), 83), ((10, 12, 104), 756), ((10, 13, 64), 329), ((10, 17, 108), 834), ((10, 18, 65), 339), ((10, 22, 118), 844), ((10, 23, 66), 427), ((10, 26, 120), 894), ((10, 27, 67), 431), ((10, 30, 131), 898), ((10, 31, 68), 486), ((10, 35, 132), 954), ((10, 36, 69), 496), ((10, 39, 133), 963), ((10, 40, 70), 500), ((10, 43, 134), 967), ((10, 44, 71), 513), ((10, 48, 139), 975), ((10, 49, 72), 546), ((10, 52, 140), 993), ((10, 53, 73), 558), ((10, 56, 143), 1005), ((10, 57, 74), 570), ((10, 60, 144), 1018), ((10, 61, 75), 575), ((10, 64, 145), 1022), ((10, 65, 76), 581), ((10, 68, 148), 1026), ((10, 69, 77), 601), ((10, 72, 149), 1042), ((10, 73, 78), 609), ((10, 76, 153), 1046), ((10, 77, 79), 628), ((10, 80, 156), 1054), ((10, 81, 80), 633), ((10, 84, 157), 1058), ((10, 85, 81), 641), ((10, 88, 159), 1062), ((10, 89, 82), 649), ((10, 92, 160), 1070), ((10, 93, 83), 653), ((10, 96, 163), 1074), ((10, 97, 84), 658), ((10, 100, 165), 1082), ((10, 101, 85), 672), ((10, 104, 166), 1090), ((10, 105, 86), 678), ((10, 108, 167), 1097), ((10, 109, 87), 686), ((10, 112, 169), 1101), ((10, 113, 88), 703), ((10, 116, 171), 1109), ((10, 117, 89), 718), ((10, 120, 172), 1118), ((10, 121, 90), 726), ((10, 124, 173), 1122), ((10, 125, 91), 734), ((10, 128, 174), 1126), ((10, 129, 92), 738), ((10, 132, 175), 1130), ((10, 133, 93), 742), ((10, 136, 176), 1134), ((10, 137, 94), 750), ((10, 140, 177), 1138)]
def pg_mC (q : (Nat × Nat × Nat)) : Cond := .methodLink (pg_cn q.1) q.2.1 (pg_y q.2.2)
set_option maxRecDepth 100000 in
theorem pg_ml_ok : pg_ml.all (fun q => decide (lw_tbl[q.2]? = some (pg_mC q.1))) = true := by decide +kernel
def pg_xl : List ((Nat × Nat × Nat) × Nat) := [((5, 11, 29), 143), ((8, 9, 29), 91), ((8, 18, 32), 138), ((8, 44, 54), 227), ((8, 58, 0), 260)]
def pg_xC (q : (Nat × Nat × Nat)) : Cond := .methodLinkNest (pg_cn q.1) q.2.1 (pg_y q.2.2) "PersonLines"
set_option maxRecDepth 100000 in
theorem pg_xl_ok : pg_xl.all (fun q => decide (lw_tbl[q.2]? = some (pg_xC q.1))) = true := by decide +kernel
def pg_ol : List ((Nat × Nat) × Nat) := [((0, 3), 263), ((1, 3), 210), ((2, 1), 281), ((3, 3), 174), ((4, 3), 94), ((5, 3), 141), ((6, 3), 240), ((7, 3), 230), ((8, 1), 86), ((9, 1), 759)]
def pg_oC (q : (Nat × Nat)) : Cond := .methodLink (pg_cn q.1) q.2 objectInit
set_option maxRecDepth 100000 in
theorem pg_ol_ok : pg_ol.all (fun q => decide (lw_tbl[q.2]? = some (pg_oC q.1))) = true := by decide +kernel
def pg_al : List ((Nat × Nat) × Nat) := [((3, 28), 406), ((4, 31), 399)]
def pg_aC (q : (Nat × Nat)) : Cond := .methodLink (pg_cn q.1) q.2 arraycopyName
set_option maxRecDepth 100000 in
theorem pg_al_ok : pg_al.all (fun q => decide (lw_tbl[q.2]? = some (pg_aC q.1))) = true := by decide +kernel
def pg_xx : List ((Nat × Nat) × Nat) := [((3, 78), 464), ((6, 65), 717)]
def pg_xxC (q : (Nat × Nat)) : Cond := .methodLink (pg_cn q.1) q.2 Lib.Math.max.name
set_option maxRecDepth 100000 in
theorem pg_xx_ok : pg_xx.all (fun q => decide (lw_tbl[q.2]? = some (pg_xxC q.1))) = true := by decide +kernel
def pg_xn : List ((Nat × Nat) × Nat) := [((1, 31), 538), ((6, 37), 702)]
def pg_xnC (q : (Nat × Nat)) : Cond := .methodLink (pg_cn q.1) q.2 Lib.Math.min.name
set_option maxRecDepth 100000 in
theorem pg_xn_ok : pg_xn.all (fun q => decide (lw_tbl[q.2]? = some (pg_xnC q.1))) = true := by decide +kernel
def pg_kl : List ((Nat × Nat × Int) × Nat) := [((8, 74, -1000000002), 333), ((8, 78, -1000000004), 334), ((8, 137, -1000000001), 494), ((8, 165, -1000000003), 529), ((8, 273, 65536), 600), ((9, 57, -1000000002), 842), ((9, 61, -1000000004), 843), ((9, 83, 99999), 878), ((9, 160, -1000000001), 962), ((9, 184, -1000000003), 980), ((9, 210, 65536), 1041), ((9, 217, 99999999), 922), ((11, 265, 1431655765), 479), ((11, 266, 858993459), 480), ((11, 267, 252645135), 481)]
def pg_kC (q : (Nat × Nat × Int)) : Cond := .constant (pg_cn q.1) q.2.1 (Int32.ofInt q.2.2)
set_option maxRecDepth 100000 in
theorem pg_kl_ok : pg_kl.all (fun q => decide (lw_tbl[q.2]? = some (pg_kC q.1))) = true := by decide +kernel
def pg_jl : List ((Nat × Nat × Int) × Nat) := [((8, 237, 1000000000), 676), ((8, 239, 1000), 677), ((8, 267, 1103515245), 597), ((8, 269, 12345), 598), ((8, 271, 2147483648), 599), ((9, 51, 255), 838), ((9, 75, 48), 876), ((9, 77, 57), 877), ((9, 179, 5), 979), ((9, 196, 30), 1013), ((9, 204, 1103515245), 1038), ((9, 206, 12345), 1039), ((9, 208, 2147483648), 1040), ((9, 244, 60), 1094), ((9, 246, 1000), 1095), ((9, 248, 1000000000), 1096)]
def pg_jC (q : (Nat × Nat × Int)) : Cond := .constantLong (pg_cn q.1) q.2.1 (Int64.ofInt q.2.2)
set_option maxRecDepth 100000 in
theorem pg_jl_ok : pg_jl.all (fun q => decide (lw_tbl[q.2]? = some (pg_jC q.1))) = true := by decide +kernel
def pg_nl : List ((Nat × Nat × Nat) × Nat) := [((1, 9, 3), 211), ((2, 7, 3), 282), ((5, 9, 4), 142), ((8, 7, 4), 89), ((8, 16, 5), 136), ((8, 23, 3), 169), ((8, 35, 1), 205), ((8, 42, 7), 225), ((8, 49, 6), 235), ((8, 56, 0), 258), ((8, 63, 2), 275), ((10, 7, 8), 81), ((10, 10, 9), 754)]
def pg_nC (q : (Nat × Nat × Nat)) : Cond := .classLink (pg_cn q.1) q.2.1 (pg_cn q.2.2)
set_option maxRecDepth 100000 in
theorem pg_nl_ok : pg_nl.all (fun q => decide (lw_tbl[q.2]? = some (pg_nC q.1))) = true := by decide +kernel
def pg_ql : List ((Nat × Nat × Nat) × Nat) := [((1, 9, 2), 211), ((8, 63, 3), 275)]
def pg_qC (q : (Nat × Nat × Nat)) : Cond := .classLink (pg_cn q.1) q.2.1 (if q.2.2 = 2 then "PersonLines$Life" else "PersonLines$Image")
set_option maxRecDepth 100000 in
theorem pg_ql_ok : pg_ql.all (fun q => decide (lw_tbl[q.2]? = some (pg_qC q.1))) = true := by decide +kernel
def pg_il : List (Nat × Nat) := [(0, 259), (1, 206), (2, 277), (3, 170), (4, 90), (5, 137), (6, 236), (7, 226), (8, 82), (9, 755)]
def pg_iC (q : Nat) : Cond := .instantiable (pg_cn q) (pg_nf q)
set_option maxRecDepth 100000 in
theorem pg_il_ok : pg_il.all (fun q => decide (lw_tbl[q.2]? = some (pg_iC q.1))) = true := by decide +kernel
def pg_zl : List (Nat × Nat) := [(0, 75), (1, 72), (2, 76), (3, 71), (4, 69), (5, 70), (6, 74), (7, 73), (8, 68), (9, 77), (10, 67), (11, 80), (12, 79)]
def pg_zC (q : Nat) : Cond := .initialized (pg_cn q)
set_option maxRecDepth 100000 in
theorem pg_zl_ok : pg_zl.all (fun q => decide (lw_tbl[q.2]? = some (pg_zC q.1))) = true := by decide +kernel
def pg_vl : List (Nat × Nat) := [(0, 261), (1, 424), (2, 723), (3, 731), (4, 208), (5, 416), (6, 531), (7, 606), (8, 279), (9, 172), (10, 403), (11, 535), (12, 412), (13, 461), (14, 483), (15, 457), (16, 526), (17, 522), (18, 518), (19, 453), (20, 449), (21, 646), (22, 542), (23, 551), (24, 556), (25, 567), (26, 408), (27, 664), (28, 669), (29, 92), (30, 396), (31, 380), (32, 139), (33, 336), (34, 344), (35, 353), (36, 361), (37, 385), (38, 389), (39, 393), (40, 357), (41, 369), (42, 373), (43, 377), (44, 349), (45, 365), (46, 238), (47, 420), (48, 683), (49, 700), (50, 696), (51, 691), (52, 708), (53, 715), (54, 228), (55, 441), (56, 446), (57, 474), (58, 469), (59, 615), (60, 619), (61, 624), (62, 436), (63, 84), (64, 330), (65, 340), (66, 428), (67, 432), (68, 487), (69, 497), (70, 501), (71, 514), (72, 547), (73, 559), (74, 571), (75, 576), (76, 582), (77, 602), (78, 610), (79, 629), (80, 634), (81, 642), (82, 650), (83, 654), (84, 659), (85, 673), (86, 679), (87, 687), (88, 704), (89, 719), (90, 727), (91, 735), (92, 739), (93, 743), (94, 751), (95, 492), (96, 506), (97, 510), (98, 748), (99, 564), (100, 639), (101, 587), (102, 591), (103, 595), (104, 757), (108, 835), (109, 850), (110, 862), (111, 874), (112, 870), (113, 866), (114, 858), (115, 885), (116, 881), (117, 854), (118, 845), (119, 892), (120, 895), (121, 960), (122, 973), (123, 945), (124, 1003), (125, 933), (126, 929), (127, 925), (128, 941), (129, 908), (130, 952), (131, 899), (132, 955), (133, 964), (134, 968), (135, 987), (136, 983), (137, 991), (138, 999), (139, 976), (140, 994), (141, 1016), (142, 1011), (143, 1006), (144, 1019), (145, 1023), (146, 1036), (147, 1032), (148, 1027), (149, 1043), (150, 920), (151, 937), (152, 916), (153, 1047), (154, 1052), (155, 912), (156, 1055), (157, 1059), (158, 1068), (159, 1063), (160, 1071), (161, 904), (162, 1080), (163, 1075), (164, 1088), (165, 1083), (166, 1091), (167, 1098), (168, 1107), (169, 1102), (170, 1116), (171, 1110), (172, 1119), (173, 1123), (174, 1127), (175, 1131), (176, 1135), (177, 1139)]
def pg_vC (q : Nat) : Cond := .instanceMethod (pg_y q)
set_option maxRecDepth 100000 in
theorem pg_vl_ok : pg_vl.all (fun q => decide (lw_tbl[q.2]? = some (pg_vC q.1))) = true := by decide +kernel
def pg_sl : List (Nat × Nat) := [(105, 840), (106, 948), (107, 888), (178, 477)]
def pg_sC (q : Nat) : Cond := .static (pg_y q)
set_option maxRecDepth 100000 in
theorem pg_sl_ok : pg_sl.all (fun q => decide (lw_tbl[q.2]? = some (pg_sC q.1))) = true := by decide +kernel
def pg_el : List (Nat × Nat) := [(1, 425), (2, 724), (3, 732), (5, 417), (6, 532), (7, 607), (10, 404), (11, 536), (12, 413), (13, 462), (14, 484), (15, 458), (16, 527), (17, 523), (18, 519), (19, 454), (20, 450), (21, 647), (22, 543), (23, 552), (24, 16), (25, 568), (26, 409), (27, 665), (28, 23), (30, 397), (31, 381), (33, 337), (34, 345), (35, 1), (36, 3), (37, 8), (38, 9), (39, 10), (40, 2), (41, 5), (42, 6), (43, 7), (44, 0), (45, 4), (47, 421), (48, 684), (49, 25), (50, 24), (51, 692), (52, 709), (53, 26), (55, 442), (56, 11), (57, 12), (58, 470), (59, 616), (60, 620), (61, 21), (62, 437), (64, 331), (65, 341), (66, 429), (67, 433), (68, 488), (69, 498), (70, 502), (71, 515), (72, 548), (73, 560), (74, 572), (75, 577), (76, 583), (77, 603), (78, 611), (79, 630), (80, 635), (81, 643), (82, 651), (83, 655), (84, 660), (85, 674), (86, 680), (87, 688), (88, 705), (89, 720), (90, 728), (91, 736), (92, 740), (93, 744), (94, 752), (95, 13), (96, 14), (97, 15), (98, 27), (99, 17), (100, 22), (101, 18), (102, 19), (103, 20), (108, 836), (109, 28), (110, 31), (111, 34), (112, 33), (113, 32), (114, 30), (115, 36), (116, 35), (117, 29), (118, 846), (119, 37), (120, 896), (121, 50), (122, 51), (123, 48), (124, 56), (125, 45), (126, 44), (127, 43), (128, 47), (129, 39), (130, 49), (131, 900), (132, 956), (133, 965), (134, 969), (135, 53), (136, 52), (137, 54), (138, 55), (139, 977), (140, 995), (141, 58), (142, 57), (143, 1007), (144, 1020), (145, 1024), (146, 60), (147, 59), (148, 1028), (149, 1044), (150, 42), (151, 46), (152, 41), (153, 1048), (154, 61), (155, 40), (156, 1056), (157, 1060), (158, 62), (159, 1064), (160, 1072), (161, 38), (162, 63), (163, 1076), (164, 64), (165, 1084), (166, 1092), (167, 1099), (168, 65), (169, 1103), (170, 66), (171, 1111), (172, 1120), (173, 1124), (174, 1128), (175, 1132), (176, 1136), (177, 1140)]
def pg_eC (q : Nat) : Cond := .selects (pg_cn (pg_oc q)) (pg_y q) (pg_y q)
set_option maxRecDepth 100000 in
theorem pg_el_ok : pg_el.all (fun q => decide (lw_tbl[q.2]? = some (pg_eC q.1))) = true := by decide +kernel
theorem pg_w_oi : Cond.instanceMethod objectInit ∈ lw_tbl := List.mem_of_getElem? (i := 87) (by decide +kernel)
theorem pg_w_oc : Cond.code objectInit ⟨#[0xb1]⟩ 1 none ∈ lw_tbl := List.mem_of_getElem? (i := 88) (by decide +kernel)
theorem pg_w_an : Cond.native arraycopyName ∈ lw_tbl := List.mem_of_getElem? (i := 401) (by decide +kernel)
theorem pg_w_as : Cond.static arraycopyName ∈ lw_tbl := List.mem_of_getElem? (i := 400) (by decide +kernel)
theorem pg_w_ai : Cond.initialized "java/lang/System" ∈ lw_tbl := List.mem_of_getElem? (i := 78) (by decide +kernel)
theorem pg_w_ci : Cond.arrayClass .int ∈ lw_tbl := List.mem_of_getElem? (i := 135) (by decide +kernel)
theorem pg_w_cz : Cond.arrayClass .boolean ∈ lw_tbl := List.mem_of_getElem? (i := 833) (by decide +kernel)
theorem pg_w_ol : Cond.arrayOver (.object "PersonLines$Life") ∈ lw_tbl := List.mem_of_getElem? (i := 212) (by decide +kernel)
theorem pg_w_om : Cond.arrayOver (.object "PersonLines$Image") ∈ lw_tbl := List.mem_of_getElem? (i := 276) (by decide +kernel)
theorem pg_w_xs : Cond.static Lib.Math.max.name ∈ lw_tbl := List.mem_of_getElem? (i := 465) (by decide +kernel)
theorem pg_w_ns : Cond.static Lib.Math.min.name ∈ lw_tbl := List.mem_of_getElem? (i := 539) (by decide +kernel)
theorem pg_w_mi : Cond.initialized "java/lang/Math" ∈ lw_tbl := List.mem_of_getElem? (i := 79) (by decide +kernel)
theorem pg_w_xc : Cond.code Lib.Math.max.name Lib.Math.max.code 2 (some .int) ∈ lw_tbl := List.mem_of_getElem? (i := 466) (by decide +kernel)
theorem pg_w_nc : Cond.code Lib.Math.min.name Lib.Math.min.code 2 (some .int) ∈ lw_tbl := List.mem_of_getElem? (i := 540) (by decide +kernel)
theorem pg_u0 : ∀ w ∈ u_ws (pg_cn 0) pg_T0 3, w ∈ lw_tbl := by decide +kernel
theorem pg_u1 : ∀ w ∈ u_ws (pg_cn 1) pg_T1 3, w ∈ lw_tbl := by decide +kernel
theorem pg_u2 : ∀ w ∈ u_ws (pg_cn 2) pg_T2 3, w ∈ lw_tbl := by decide +kernel
theorem pg_u3 : ∀ w ∈ u_ws (pg_cn 3) pg_T3 7, w ∈ lw_tbl := by decide +kernel
theorem pg_u4 : ∀ w ∈ u_ws (pg_cn 4) pg_T4 6, w ∈ lw_tbl := by decide +kernel
theorem pg_u5 : ∀ w ∈ u_ws (pg_cn 5) pg_T5 7, w ∈ lw_tbl := by decide +kernel
theorem pg_u6 : ∀ w ∈ u_ws (pg_cn 6) pg_T6 5, w ∈ lw_tbl := by decide +kernel
theorem pg_u7 : ∀ w ∈ u_ws (pg_cn 7) pg_T7 1, w ∈ lw_tbl := by decide +kernel
theorem pg_u8 : ∀ w ∈ u_ws (pg_cn 8) pg_T8 11, w ∈ lw_tbl := by decide +kernel
theorem pg_u9 : ∀ w ∈ u_ws (pg_cn 9) pg_T9 24, w ∈ lw_tbl := by decide +kernel
def pg_isr (c k : Nat) : Bool := match pg_ft c k with
  | .object _ => true
  | .array _ => true
  | _ => false
/-- the words that hold through a run: good ones, and those of nest mates -/
def pg_gw (w : Cond) : Bool := match w with
  | .methodLinkNest _ _ _ _ => true
  | w => goodWord w
def pg_len (i : Instr) : Nat := match i with
  | .iconst _ | .lconst _ | .iload_n _ | .lload_n _ | .aload_n _ | .istore_n _ | .lstore_n _ | .astore_n _ => 1
  | .bipush _ | .ldc _ | .iload _ | .lload _ | .istore _ | .newarray _ => 2
  | .sipush _ | .ldc_w _ | .ldc2_w _ | .iinc _ _ | .goto _ | .if_icmp _ _ | .ifCond _ _ | .anewarray _ | .new _ | .getfield _ | .putfield _ | .invokevirtual _ | .invokespecial _ | .invokestatic _ => 3
  | _ => 1
/-- a one-slot store at a may not touch a long -/
def pg_s1 (z a : Nat) : Bool := decide (a < pg_mx z) && !(pg_lg z).contains a && (decide (a = 0) || !(pg_lg z).contains (a - 1))
def pg_pn (z : Nat) : Option Nat := (parseMethodDescriptor (pg_y z).desc).map (fun d => d.parameters.length)
/-- what is looked at in an instruction beside its decoding -/
def pg_okA (z pc : Nat) (e : am_E) : Bool := match e with
  | (i, n, a, b, v) => match i with
    | .iconst k => decide (k = v)
    | .bipush k => decide ((Int8.ofInt k).toInt32 = Int32.ofInt v)
    | .sipush k => decide ((Int16.ofInt k).toInt32 = Int32.ofInt v)
    | .ldc k => pg_kl.any (fun q => decide (q.1 = (pg_oc z, k, v)))
    | .ldc_w k => pg_kl.any (fun q => decide (q.1 = (pg_oc z, k, v)))
    | .ldc2_w k => pg_jl.any (fun q => decide (q.1 = (pg_oc z, k, v)))
    | .lconst k => decide (((k : Nat) : Int) = v)
    | .iload_n k => decide ((k : Nat) = a)
    | .iload k => decide (k = a)
    | .lload_n k => decide ((k : Nat) = a)
    | .lload k => decide (k = a)
    | .aload_n k => decide ((k : Nat) = a)
    | .istore_n k => decide ((k : Nat) = a) && pg_s1 z a
    | .istore k => decide (k = a) && pg_s1 z a
    | .astore_n k => decide ((k : Nat) = a) && pg_s1 z a
    | .lstore_n k => decide ((k : Nat) = a) && decide (a + 1 < pg_mx z) && (pg_lg z).contains a && (decide (a = 0) || !(pg_lg z).contains (a - 1))
    | .iinc k x => decide (k = a) && decide (x = v) && pg_s1 z a
    | .goto x => decide ((pc : Int) + x = (a : Int))
    | .if_icmp _ x => decide ((pc : Int) + x = (a : Int))
    | .ifCond _ x => decide ((pc : Int) + x = (a : Int))
    | .tableswitch d lo hi offs => decide (0 ≤ (pc : Int) + d) && offs.all (fun x => decide (0 ≤ (pc : Int) + x)) && decide ((offs.size : Int) = hi - lo + 1)
    | .newarray t => (decide (t = .int) && decide (a = 0)) || (decide (t = .boolean) && decide (a = 1))
    | .anewarray k => pg_ql.any (fun q => decide (q.1 = (pg_oc z, k, a))) && (decide (a = 2) || decide (a = 3))
    | .new k => pg_nl.any (fun q => decide (q.1 = (pg_oc z, k, a))) && decide (a < 10) && decide (b = pg_nf a)
    | .getfield k => pg_fl.any (fun q => decide (q.1 = (pg_oc z, k, a, b))) && decide (a < 10) && decide (b < pg_nf a) && decide ((v = 1) ↔ (pg_isr a b = true))
    | .putfield k => pg_fl.any (fun q => decide (q.1 = (pg_oc z, k, a, b))) && decide (a < 10) && decide (b < pg_nf a) && decide ((v = 1) ↔ (pg_isr a b = true)) && decide (v = 1 → (pg_fT a b).2.2.2 = true ∧ (pg_y z).name = "<init>" ∧ pg_oc z = a) && decide (¬ v = 1 → (pg_fT a b).2.2.2 = false ∧ (pg_ft a b = .int ∨ pg_ft a b = .boolean ∧ v = 2))
    | .invokevirtual k => pg_ml.any (fun q => decide (q.1 = (pg_oc z, k, a))) && decide (a < 179) && decide (v = (pg_oc a : Int)) && decide (pg_ht a < pg_ht z) && decide (0 < b) && decide (pg_pn a = some (b - 1)) && pg_el.any (fun q => decide (q.1 = a)) && pg_vl.any (fun q => decide (q.1 = a))
    | .invokespecial k => if v = 1 then pg_ol.any (fun q => decide (q.1 = (pg_oc z, k))) && decide (1 ≤ pg_ht z) else (pg_ml.any (fun q => decide (q.1 = (pg_oc z, k, a))) || pg_xl.any (fun q => decide (q.1 = (pg_oc z, k, a)))) && decide (a < 179) && decide (pg_ht a < pg_ht z) && decide (0 < b) && decide (pg_pn a = some (b - 1)) && decide ((pg_y a).name = "<init>") && pg_vl.any (fun q => decide (q.1 = a)) && decide (pg_rt a = none)
    | .invokestatic k => if v = 2 then pg_al.any (fun q => decide (q.1 = (pg_oc z, k))) && decide (1 ≤ pg_ht z) else if v = 3 then pg_xx.any (fun q => decide (q.1 = (pg_oc z, k))) && decide (1 ≤ pg_ht z) else if v = 4 then pg_xn.any (fun q => decide (q.1 = (pg_oc z, k))) && decide (1 ≤ pg_ht z) else pg_ml.any (fun q => decide (q.1 = (pg_oc z, k, a))) && decide (a < 179) && decide (pg_ht a < pg_ht z) && decide (pg_pn a = some b) && pg_sl.any (fun q => decide (q.1 = a))
    | .ireturn => (decide (a = 1) && decide (pg_rt z = some .boolean)) || (decide (a = 0) && decide (pg_rt z = some .int))
    | .return_ => decide (pg_rt z = none)
    | _ => true
def pg_isT (i : Instr) : Bool := match i with
  | .tableswitch _ _ _ _ => true
  | _ => false
def pg_okE (z pc : Nat) (e : am_E) : Bool := decide (decode (pg_c z) pc = .ok (e.1, e.2.1)) && (pg_isT e.1 || decide (e.2.1 = pg_len e.1)) && pg_okA z pc e
def pg_okL (z : Nat) : Nat → List am_E → Bool
  | _, [] => true
  | pc, e :: is => pg_okE z pc e && pg_okL z (pc + e.2.1) is
def pg_okM (z : Nat) : Bool := (pg_bs z).all (fun q => pg_okL z q.1 q.2)
/-- what is looked at in a method -/
def pg_okY (z : Nat) : Bool := plainName (pg_y z).cls && decide (pg_cn (pg_oc z) = (pg_y z).cls) && decide ((pg_y z).cls ≠ "java/lang/invoke/MethodHandle" ∧ (pg_y z).cls ≠ "java/lang/invoke/VarHandle") && decide (pg_mx z ≤ 10) && decide (pg_oc z < 13) && decide (pg_ht z ≤ 8)
set_option maxRecDepth 100000 in
theorem pg_okY_all : (List.range 180).all pg_okY = true := by decide +kernel
/-- the code words, by their places -/
theorem pg_cd0 : Cond.code (pg_y 0) (pg_c 0) (pg_mx 0) (pg_rt 0) ∈ lw_tbl := List.mem_append_right _ (List.mem_append_left _ (List.mem_of_getElem? (i := 195) rfl : _ ∈ tables_1_1))
theorem pg_cd1 : Cond.code (pg_y 1) (pg_c 1) (pg_mx 1) (pg_rt 1) ∈ lw_tbl := List.mem_append_right _ (List.mem_append_right _ (List.mem_append_left _ (List.mem_of_getElem? (i := 119) rfl : _ ∈ tables_1_2)))
theorem pg_cd2 : Cond.code (pg_y 2) (pg_c 2) (pg_mx 2) (pg_rt 2) ∈ lw_tbl := List.mem_append_right _ (List.mem_append_right _ (List.mem_append_right _ (List.mem_append_left _ (List.mem_of_getElem? (i := 178) rfl : _ ∈ tables_1_3))))
theorem pg_cd3 : Cond.code (pg_y 3) (pg_c 3) (pg_mx 3) (pg_rt 3) ∈ lw_tbl := List.mem_append_right _ (List.mem_append_right _ (List.mem_append_right _ (List.mem_append_left _ (List.mem_of_getElem? (i := 186) rfl : _ ∈ tables_1_3))))
theorem pg_cd4 : Cond.code (pg_y 4) (pg_c 4) (pg_mx 4) (pg_rt 4) ∈ lw_tbl := List.mem_append_right _ (List.mem_append_left _ (List.mem_of_getElem? (i := 142) rfl : _ ∈ tables_1_1))
theorem pg_cd5 : Cond.code (pg_y 5) (pg_c 5) (pg_mx 5) (pg_rt 5) ∈ lw_tbl := List.mem_append_right _ (List.mem_append_right _ (List.mem_append_left _ (List.mem_of_getElem? (i := 111) rfl : _ ∈ tables_1_2)))
theorem pg_cd6 : Cond.code (pg_y 6) (pg_c 6) (pg_mx 6) (pg_rt 6) ∈ lw_tbl := List.mem_append_right _ (List.mem_append_right _ (List.mem_append_left _ (List.mem_of_getElem? (i := 226) rfl : _ ∈ tables_1_2)))
theorem pg_cd7 : Cond.code (pg_y 7) (pg_c 7) (pg_mx 7) (pg_rt 7) ∈ lw_tbl := List.mem_append_right _ (List.mem_append_right _ (List.mem_append_right _ (List.mem_append_left _ (List.mem_of_getElem? (i := 61) rfl : _ ∈ tables_1_3))))
theorem pg_cd8 : Cond.code (pg_y 8) (pg_c 8) (pg_mx 8) (pg_rt 8) ∈ lw_tbl := List.mem_append_right _ (List.mem_append_left _ (List.mem_of_getElem? (i := 213) rfl : _ ∈ tables_1_1))
theorem pg_cd9 : Cond.code (pg_y 9) (pg_c 9) (pg_mx 9) (pg_rt 9) ∈ lw_tbl := List.mem_append_right _ (List.mem_append_left _ (List.mem_of_getElem? (i := 106) rfl : _ ∈ tables_1_1))
theorem pg_cd10 : Cond.code (pg_y 10) (pg_c 10) (pg_mx 10) (pg_rt 10) ∈ lw_tbl := List.mem_append_right _ (List.mem_append_right _ (List.mem_append_left _ (List.mem_of_getElem? (i := 98) rfl : _ ∈ tables_1_2)))
theorem pg_cd11 : Cond.code (pg_y 11) (pg_c 11) (pg_mx 11) (pg_rt 11) ∈ lw_tbl := List.mem_append_right _ (List.mem_append_right _ (List.mem_append_left _ (List.mem_of_getElem? (i := 230) rfl : _ ∈ tables_1_2)))
theorem pg_cd12 : Cond.code (pg_y 12) (pg_c 12) (pg_mx 12) (pg_rt 12) ∈ lw_tbl := List.mem_append_right _ (List.mem_append_right _ (List.mem_append_left _ (List.mem_of_getElem? (i := 107) rfl : _ ∈ tables_1_2)))
theorem pg_cd13 : Cond.code (pg_y 13) (pg_c 13) (pg_mx 13) (pg_rt 13) ∈ lw_tbl := List.mem_append_right _ (List.mem_append_right _ (List.mem_append_left _ (List.mem_of_getElem? (i := 156) rfl : _ ∈ tables_1_2)))
theorem pg_cd14 : Cond.code (pg_y 14) (pg_c 14) (pg_mx 14) (pg_rt 14) ∈ lw_tbl := List.mem_append_right _ (List.mem_append_right _ (List.mem_append_left _ (List.mem_of_getElem? (i := 178) rfl : _ ∈ tables_1_2)))
theorem pg_cd15 : Cond.code (pg_y 15) (pg_c 15) (pg_mx 15) (pg_rt 15) ∈ lw_tbl := List.mem_append_right _ (List.mem_append_right _ (List.mem_append_left _ (List.mem_of_getElem? (i := 152) rfl : _ ∈ tables_1_2)))
theorem pg_cd16 : Cond.code (pg_y 16) (pg_c 16) (pg_mx 16) (pg_rt 16) ∈ lw_tbl := List.mem_append_right _ (List.mem_append_right _ (List.mem_append_left _ (List.mem_of_getElem? (i := 221) rfl : _ ∈ tables_1_2)))
theorem pg_cd17 : Cond.code (pg_y 17) (pg_c 17) (pg_mx 17) (pg_rt 17) ∈ lw_tbl := List.mem_append_right _ (List.mem_append_right _ (List.mem_append_left _ (List.mem_of_getElem? (i := 217) rfl : _ ∈ tables_1_2)))
theorem pg_cd18 : Cond.code (pg_y 18) (pg_c 18) (pg_mx 18) (pg_rt 18) ∈ lw_tbl := List.mem_append_right _ (List.mem_append_right _ (List.mem_append_left _ (List.mem_of_getElem? (i := 213) rfl : _ ∈ tables_1_2)))
theorem pg_cd19 : Cond.code (pg_y 19) (pg_c 19) (pg_mx 19) (pg_rt 19) ∈ lw_tbl := List.mem_append_right _ (List.mem_append_right _ (List.mem_append_left _ (List.mem_of_getElem? (i := 148) rfl : _ ∈ tables_1_2)))
theorem pg_cd20 : Cond.code (pg_y 20) (pg_c 20) (pg_mx 20) (pg_rt 20) ∈ lw_tbl := List.mem_append_right _ (List.mem_append_right _ (List.mem_append_left _ (List.mem_of_getElem? (i := 144) rfl : _ ∈ tables_1_2)))
theorem pg_cd21 : Cond.code (pg_y 21) (pg_c 21) (pg_mx 21) (pg_rt 21) ∈ lw_tbl := List.mem_append_right _ (List.mem_append_right _ (List.mem_append_right _ (List.mem_append_left _ (List.mem_of_getElem? (i := 101) rfl : _ ∈ tables_1_3))))
theorem pg_cd22 : Cond.code (pg_y 22) (pg_c 22) (pg_mx 22) (pg_rt 22) ∈ lw_tbl := List.mem_append_right _ (List.mem_append_right _ (List.mem_append_left _ (List.mem_of_getElem? (i := 237) rfl : _ ∈ tables_1_2)))
theorem pg_cd23 : Cond.code (pg_y 23) (pg_c 23) (pg_mx 23) (pg_rt 23) ∈ lw_tbl := List.mem_append_right _ (List.mem_append_right _ (List.mem_append_right _ (List.mem_append_left _ (List.mem_of_getElem? (i := 6) rfl : _ ∈ tables_1_3))))
theorem pg_cd24 : Cond.code (pg_y 24) (pg_c 24) (pg_mx 24) (pg_rt 24) ∈ lw_tbl := List.mem_append_right _ (List.mem_append_right _ (List.mem_append_right _ (List.mem_append_left _ (List.mem_of_getElem? (i := 10) rfl : _ ∈ tables_1_3))))
theorem pg_cd25 : Cond.code (pg_y 25) (pg_c 25) (pg_mx 25) (pg_rt 25) ∈ lw_tbl := List.mem_append_right _ (List.mem_append_right _ (List.mem_append_right _ (List.mem_append_left _ (List.mem_of_getElem? (i := 22) rfl : _ ∈ tables_1_3))))
theorem pg_cd26 : Cond.code (pg_y 26) (pg_c 26) (pg_mx 26) (pg_rt 26) ∈ lw_tbl := List.mem_append_right _ (List.mem_append_right _ (List.mem_append_left _ (List.mem_of_getElem? (i := 103) rfl : _ ∈ tables_1_2)))
theorem pg_cd27 : Cond.code (pg_y 27) (pg_c 27) (pg_mx 27) (pg_rt 27) ∈ lw_tbl := List.mem_append_right _ (List.mem_append_right _ (List.mem_append_right _ (List.mem_append_left _ (List.mem_of_getElem? (i := 119) rfl : _ ∈ tables_1_3))))
theorem pg_cd28 : Cond.code (pg_y 28) (pg_c 28) (pg_mx 28) (pg_rt 28) ∈ lw_tbl := List.mem_append_right _ (List.mem_append_right _ (List.mem_append_right _ (List.mem_append_left _ (List.mem_of_getElem? (i := 123) rfl : _ ∈ tables_1_3))))
theorem pg_cd29 : Cond.code (pg_y 29) (pg_c 29) (pg_mx 29) (pg_rt 29) ∈ lw_tbl := List.mem_append_right _ (List.mem_append_left _ (List.mem_of_getElem? (i := 26) rfl : _ ∈ tables_1_1))
theorem pg_cd30 : Cond.code (pg_y 30) (pg_c 30) (pg_mx 30) (pg_rt 30) ∈ lw_tbl := List.mem_append_right _ (List.mem_append_right _ (List.mem_append_left _ (List.mem_of_getElem? (i := 91) rfl : _ ∈ tables_1_2)))
theorem pg_cd31 : Cond.code (pg_y 31) (pg_c 31) (pg_mx 31) (pg_rt 31) ∈ lw_tbl := List.mem_append_right _ (List.mem_append_right _ (List.mem_append_left _ (List.mem_of_getElem? (i := 75) rfl : _ ∈ tables_1_2)))
theorem pg_cd32 : Cond.code (pg_y 32) (pg_c 32) (pg_mx 32) (pg_rt 32) ∈ lw_tbl := List.mem_append_right _ (List.mem_append_left _ (List.mem_of_getElem? (i := 73) rfl : _ ∈ tables_1_1))
theorem pg_cd33 : Cond.code (pg_y 33) (pg_c 33) (pg_mx 33) (pg_rt 33) ∈ lw_tbl := List.mem_append_right _ (List.mem_append_right _ (List.mem_append_left _ (List.mem_of_getElem? (i := 31) rfl : _ ∈ tables_1_2)))
theorem pg_cd34 : Cond.code (pg_y 34) (pg_c 34) (pg_mx 34) (pg_rt 34) ∈ lw_tbl := List.mem_append_right _ (List.mem_append_right _ (List.mem_append_left _ (List.mem_of_getElem? (i := 39) rfl : _ ∈ tables_1_2)))
theorem pg_cd35 : Cond.code (pg_y 35) (pg_c 35) (pg_mx 35) (pg_rt 35) ∈ lw_tbl := List.mem_append_right _ (List.mem_append_right _ (List.mem_append_left _ (List.mem_of_getElem? (i := 47) rfl : _ ∈ tables_1_2)))
theorem pg_cd36 : Cond.code (pg_y 36) (pg_c 36) (pg_mx 36) (pg_rt 36) ∈ lw_tbl := List.mem_append_right _ (List.mem_append_right _ (List.mem_append_left _ (List.mem_of_getElem? (i := 55) rfl : _ ∈ tables_1_2)))
theorem pg_cd37 : Cond.code (pg_y 37) (pg_c 37) (pg_mx 37) (pg_rt 37) ∈ lw_tbl := List.mem_append_right _ (List.mem_append_right _ (List.mem_append_left _ (List.mem_of_getElem? (i := 79) rfl : _ ∈ tables_1_2)))
theorem pg_cd38 : Cond.code (pg_y 38) (pg_c 38) (pg_mx 38) (pg_rt 38) ∈ lw_tbl := List.mem_append_right _ (List.mem_append_right _ (List.mem_append_left _ (List.mem_of_getElem? (i := 83) rfl : _ ∈ tables_1_2)))
theorem pg_cd39 : Cond.code (pg_y 39) (pg_c 39) (pg_mx 39) (pg_rt 39) ∈ lw_tbl := List.mem_append_right _ (List.mem_append_right _ (List.mem_append_left _ (List.mem_of_getElem? (i := 87) rfl : _ ∈ tables_1_2)))
theorem pg_cd40 : Cond.code (pg_y 40) (pg_c 40) (pg_mx 40) (pg_rt 40) ∈ lw_tbl := List.mem_append_right _ (List.mem_append_right _ (List.mem_append_left _ (List.mem_of_getElem? (i := 51) rfl : _ ∈ tables_1_2)))
theorem pg_cd41 : Cond.code (pg_y 41) (pg_c 41) (pg_mx 41) (pg_rt 41) ∈ lw_tbl := List.mem_append_right _ (List.mem_append_right _ (List.mem_append_left _ (List.mem_of_getElem? (i := 63) rfl : _ ∈ tables_1_2)))
theorem pg_cd42 : Cond.code (pg_y 42) (pg_c 42) (pg_mx 42) (pg_rt 42) ∈ lw_tbl := List.mem_append_right _ (List.mem_append_right _ (List.mem_append_left _ (List.mem_of_getElem? (i := 67) rfl : _ ∈ tables_1_2)))
theorem pg_cd43 : Cond.code (pg_y 43) (pg_c 43) (pg_mx 43) (pg_rt 43) ∈ lw_tbl := List.mem_append_right _ (List.mem_append_right _ (List.mem_append_left _ (List.mem_of_getElem? (i := 71) rfl : _ ∈ tables_1_2)))
theorem pg_cd44 : Cond.code (pg_y 44) (pg_c 44) (pg_mx 44) (pg_rt 44) ∈ lw_tbl := List.mem_append_right _ (List.mem_append_right _ (List.mem_append_left _ (List.mem_of_getElem? (i := 43) rfl : _ ∈ tables_1_2)))
theorem pg_cd45 : Cond.code (pg_y 45) (pg_c 45) (pg_mx 45) (pg_rt 45) ∈ lw_tbl := List.mem_append_right _ (List.mem_append_right _ (List.mem_append_left _ (List.mem_of_getElem? (i := 59) rfl : _ ∈ tables_1_2)))
theorem pg_cd46 : Cond.code (pg_y 46) (pg_c 46) (pg_mx 46) (pg_rt 46) ∈ lw_tbl := List.mem_append_right _ (List.mem_append_left _ (List.mem_of_getElem? (i := 172) rfl : _ ∈ tables_1_1))
theorem pg_cd47 : Cond.code (pg_y 47) (pg_c 47) (pg_mx 47) (pg_rt 47) ∈ lw_tbl := List.mem_append_right _ (List.mem_append_right _ (List.mem_append_left _ (List.mem_of_getElem? (i := 115) rfl : _ ∈ tables_1_2)))
theorem pg_cd48 : Cond.code (pg_y 48) (pg_c 48) (pg_mx 48) (pg_rt 48) ∈ lw_tbl := List.mem_append_right _ (List.mem_append_right _ (List.mem_append_right _ (List.mem_append_left _ (List.mem_of_getElem? (i := 138) rfl : _ ∈ tables_1_3))))
theorem pg_cd49 : Cond.code (pg_y 49) (pg_c 49) (pg_mx 49) (pg_rt 49) ∈ lw_tbl := List.mem_append_right _ (List.mem_append_right _ (List.mem_append_right _ (List.mem_append_left _ (List.mem_of_getElem? (i := 154) rfl : _ ∈ tables_1_3))))
theorem pg_cd50 : Cond.code (pg_y 50) (pg_c 50) (pg_mx 50) (pg_rt 50) ∈ lw_tbl := List.mem_append_right _ (List.mem_append_right _ (List.mem_append_right _ (List.mem_append_left _ (List.mem_of_getElem? (i := 150) rfl : _ ∈ tables_1_3))))
theorem pg_cd51 : Cond.code (pg_y 51) (pg_c 51) (pg_mx 51) (pg_rt 51) ∈ lw_tbl := List.mem_append_right _ (List.mem_append_right _ (List.mem_append_right _ (List.mem_append_left _ (List.mem_of_getElem? (i := 146) rfl : _ ∈ tables_1_3))))
theorem pg_cd52 : Cond.code (pg_y 52) (pg_c 52) (pg_mx 52) (pg_rt 52) ∈ lw_tbl := List.mem_append_right _ (List.mem_append_right _ (List.mem_append_right _ (List.mem_append_left _ (List.mem_of_getElem? (i := 163) rfl : _ ∈ tables_1_3))))
theorem pg_cd53 : Cond.code (pg_y 53) (pg_c 53) (pg_mx 53) (pg_rt 53) ∈ lw_tbl := List.mem_append_right _ (List.mem_append_right _ (List.mem_append_right _ (List.mem_append_left _ (List.mem_of_getElem? (i := 169) rfl : _ ∈ tables_1_3))))
theorem pg_cd54 : Cond.code (pg_y 54) (pg_c 54) (pg_mx 54) (pg_rt 54) ∈ lw_tbl := List.mem_append_right _ (List.mem_append_left _ (List.mem_of_getElem? (i := 162) rfl : _ ∈ tables_1_1))
theorem pg_cd55 : Cond.code (pg_y 55) (pg_c 55) (pg_mx 55) (pg_rt 55) ∈ lw_tbl := List.mem_append_right _ (List.mem_append_right _ (List.mem_append_left _ (List.mem_of_getElem? (i := 136) rfl : _ ∈ tables_1_2)))
theorem pg_cd56 : Cond.code (pg_y 56) (pg_c 56) (pg_mx 56) (pg_rt 56) ∈ lw_tbl := List.mem_append_right _ (List.mem_append_right _ (List.mem_append_left _ (List.mem_of_getElem? (i := 140) rfl : _ ∈ tables_1_2)))
theorem pg_cd57 : Cond.code (pg_y 57) (pg_c 57) (pg_mx 57) (pg_rt 57) ∈ lw_tbl := List.mem_append_right _ (List.mem_append_right _ (List.mem_append_left _ (List.mem_of_getElem? (i := 168) rfl : _ ∈ tables_1_2)))
theorem pg_cd58 : Cond.code (pg_y 58) (pg_c 58) (pg_mx 58) (pg_rt 58) ∈ lw_tbl := List.mem_append_right _ (List.mem_append_right _ (List.mem_append_left _ (List.mem_of_getElem? (i := 164) rfl : _ ∈ tables_1_2)))
theorem pg_cd59 : Cond.code (pg_y 59) (pg_c 59) (pg_mx 59) (pg_rt 59) ∈ lw_tbl := List.mem_append_right _ (List.mem_append_right _ (List.mem_append_right _ (List.mem_append_left _ (List.mem_of_getElem? (i := 70) rfl : _ ∈ tables_1_3))))
theorem pg_cd60 : Cond.code (pg_y 60) (pg_c 60) (pg_mx 60) (pg_rt 60) ∈ lw_tbl := List.mem_append_right _ (List.mem_append_right _ (List.mem_append_right _ (List.mem_append_left _ (List.mem_of_getElem? (i := 74) rfl : _ ∈ tables_1_3))))
theorem pg_cd61 : Cond.code (pg_y 61) (pg_c 61) (pg_mx 61) (pg_rt 61) ∈ lw_tbl := List.mem_append_right _ (List.mem_append_right _ (List.mem_append_right _ (List.mem_append_left _ (List.mem_of_getElem? (i := 78) rfl : _ ∈ tables_1_3))))
theorem pg_cd62 : Cond.code (pg_y 62) (pg_c 62) (pg_mx 62) (pg_rt 62) ∈ lw_tbl := List.mem_append_right _ (List.mem_append_right _ (List.mem_append_left _ (List.mem_of_getElem? (i := 131) rfl : _ ∈ tables_1_2)))
theorem pg_cd63 : Cond.code (pg_y 63) (pg_c 63) (pg_mx 63) (pg_rt 63) ∈ lw_tbl := List.mem_append_right _ (List.mem_append_left _ (List.mem_of_getElem? (i := 18) rfl : _ ∈ tables_1_1))
theorem pg_cd64 : Cond.code (pg_y 64) (pg_c 64) (pg_mx 64) (pg_rt 64) ∈ lw_tbl := List.mem_append_right _ (List.mem_append_right _ (List.mem_append_left _ (List.mem_of_getElem? (i := 25) rfl : _ ∈ tables_1_2)))
theorem pg_cd65 : Cond.code (pg_y 65) (pg_c 65) (pg_mx 65) (pg_rt 65) ∈ lw_tbl := List.mem_append_right _ (List.mem_append_right _ (List.mem_append_left _ (List.mem_of_getElem? (i := 35) rfl : _ ∈ tables_1_2)))
theorem pg_cd66 : Cond.code (pg_y 66) (pg_c 66) (pg_mx 66) (pg_rt 66) ∈ lw_tbl := List.mem_append_right _ (List.mem_append_right _ (List.mem_append_left _ (List.mem_of_getElem? (i := 123) rfl : _ ∈ tables_1_2)))
theorem pg_cd67 : Cond.code (pg_y 67) (pg_c 67) (pg_mx 67) (pg_rt 67) ∈ lw_tbl := List.mem_append_right _ (List.mem_append_right _ (List.mem_append_left _ (List.mem_of_getElem? (i := 127) rfl : _ ∈ tables_1_2)))
theorem pg_cd68 : Cond.code (pg_y 68) (pg_c 68) (pg_mx 68) (pg_rt 68) ∈ lw_tbl := List.mem_append_right _ (List.mem_append_right _ (List.mem_append_left _ (List.mem_of_getElem? (i := 182) rfl : _ ∈ tables_1_2)))
theorem pg_cd69 : Cond.code (pg_y 69) (pg_c 69) (pg_mx 69) (pg_rt 69) ∈ lw_tbl := List.mem_append_right _ (List.mem_append_right _ (List.mem_append_left _ (List.mem_of_getElem? (i := 192) rfl : _ ∈ tables_1_2)))
theorem pg_cd70 : Cond.code (pg_y 70) (pg_c 70) (pg_mx 70) (pg_rt 70) ∈ lw_tbl := List.mem_append_right _ (List.mem_append_right _ (List.mem_append_left _ (List.mem_of_getElem? (i := 196) rfl : _ ∈ tables_1_2)))
theorem pg_cd71 : Cond.code (pg_y 71) (pg_c 71) (pg_mx 71) (pg_rt 71) ∈ lw_tbl := List.mem_append_right _ (List.mem_append_right _ (List.mem_append_left _ (List.mem_of_getElem? (i := 209) rfl : _ ∈ tables_1_2)))
theorem pg_cd72 : Cond.code (pg_y 72) (pg_c 72) (pg_mx 72) (pg_rt 72) ∈ lw_tbl := List.mem_append_right _ (List.mem_append_right _ (List.mem_append_right _ (List.mem_append_left _ (List.mem_of_getElem? (i := 2) rfl : _ ∈ tables_1_3))))
theorem pg_cd73 : Cond.code (pg_y 73) (pg_c 73) (pg_mx 73) (pg_rt 73) ∈ lw_tbl := List.mem_append_right _ (List.mem_append_right _ (List.mem_append_right _ (List.mem_append_left _ (List.mem_of_getElem? (i := 14) rfl : _ ∈ tables_1_3))))
theorem pg_cd74 : Cond.code (pg_y 74) (pg_c 74) (pg_mx 74) (pg_rt 74) ∈ lw_tbl := List.mem_append_right _ (List.mem_append_right _ (List.mem_append_right _ (List.mem_append_left _ (List.mem_of_getElem? (i := 26) rfl : _ ∈ tables_1_3))))
theorem pg_cd75 : Cond.code (pg_y 75) (pg_c 75) (pg_mx 75) (pg_rt 75) ∈ lw_tbl := List.mem_append_right _ (List.mem_append_right _ (List.mem_append_right _ (List.mem_append_left _ (List.mem_of_getElem? (i := 31) rfl : _ ∈ tables_1_3))))
theorem pg_cd76 : Cond.code (pg_y 76) (pg_c 76) (pg_mx 76) (pg_rt 76) ∈ lw_tbl := List.mem_append_right _ (List.mem_append_right _ (List.mem_append_right _ (List.mem_append_left _ (List.mem_of_getElem? (i := 37) rfl : _ ∈ tables_1_3))))
theorem pg_cd77 : Cond.code (pg_y 77) (pg_c 77) (pg_mx 77) (pg_rt 77) ∈ lw_tbl := List.mem_append_right _ (List.mem_append_right _ (List.mem_append_right _ (List.mem_append_left _ (List.mem_of_getElem? (i := 57) rfl : _ ∈ tables_1_3))))
theorem pg_cd78 : Cond.code (pg_y 78) (pg_c 78) (pg_mx 78) (pg_rt 78) ∈ lw_tbl := List.mem_append_right _ (List.mem_append_right _ (List.mem_append_right _ (List.mem_append_left _ (List.mem_of_getElem? (i := 65) rfl : _ ∈ tables_1_3))))
theorem pg_cd79 : Cond.code (pg_y 79) (pg_c 79) (pg_mx 79) (pg_rt 79) ∈ lw_tbl := List.mem_append_right _ (List.mem_append_right _ (List.mem_append_right _ (List.mem_append_left _ (List.mem_of_getElem? (i := 84) rfl : _ ∈ tables_1_3))))
theorem pg_cd80 : Cond.code (pg_y 80) (pg_c 80) (pg_mx 80) (pg_rt 80) ∈ lw_tbl := List.mem_append_right _ (List.mem_append_right _ (List.mem_append_right _ (List.mem_append_left _ (List.mem_of_getElem? (i := 89) rfl : _ ∈ tables_1_3))))
theorem pg_cd81 : Cond.code (pg_y 81) (pg_c 81) (pg_mx 81) (pg_rt 81) ∈ lw_tbl := List.mem_append_right _ (List.mem_append_right _ (List.mem_append_right _ (List.mem_append_left _ (List.mem_of_getElem? (i := 97) rfl : _ ∈ tables_1_3))))
theorem pg_cd82 : Cond.code (pg_y 82) (pg_c 82) (pg_mx 82) (pg_rt 82) ∈ lw_tbl := List.mem_append_right _ (List.mem_append_right _ (List.mem_append_right _ (List.mem_append_left _ (List.mem_of_getElem? (i := 105) rfl : _ ∈ tables_1_3))))
theorem pg_cd83 : Cond.code (pg_y 83) (pg_c 83) (pg_mx 83) (pg_rt 83) ∈ lw_tbl := List.mem_append_right _ (List.mem_append_right _ (List.mem_append_right _ (List.mem_append_left _ (List.mem_of_getElem? (i := 109) rfl : _ ∈ tables_1_3))))
theorem pg_cd84 : Cond.code (pg_y 84) (pg_c 84) (pg_mx 84) (pg_rt 84) ∈ lw_tbl := List.mem_append_right _ (List.mem_append_right _ (List.mem_append_right _ (List.mem_append_left _ (List.mem_of_getElem? (i := 114) rfl : _ ∈ tables_1_3))))
theorem pg_cd85 : Cond.code (pg_y 85) (pg_c 85) (pg_mx 85) (pg_rt 85) ∈ lw_tbl := List.mem_append_right _ (List.mem_append_right _ (List.mem_append_right _ (List.mem_append_left _ (List.mem_of_getElem? (i := 128) rfl : _ ∈ tables_1_3))))
theorem pg_cd86 : Cond.code (pg_y 86) (pg_c 86) (pg_mx 86) (pg_rt 86) ∈ lw_tbl := List.mem_append_right _ (List.mem_append_right _ (List.mem_append_right _ (List.mem_append_left _ (List.mem_of_getElem? (i := 134) rfl : _ ∈ tables_1_3))))
theorem pg_cd87 : Cond.code (pg_y 87) (pg_c 87) (pg_mx 87) (pg_rt 87) ∈ lw_tbl := List.mem_append_right _ (List.mem_append_right _ (List.mem_append_right _ (List.mem_append_left _ (List.mem_of_getElem? (i := 142) rfl : _ ∈ tables_1_3))))
theorem pg_cd88 : Cond.code (pg_y 88) (pg_c 88) (pg_mx 88) (pg_rt 88) ∈ lw_tbl := List.mem_append_right _ (List.mem_append_right _ (List.mem_append_right _ (List.mem_append_left _ (List.mem_of_getElem? (i := 159) rfl : _ ∈ tables_1_3))))
theorem pg_cd89 : Cond.code (pg_y 89) (pg_c 89) (pg_mx 89) (pg_rt 89) ∈ lw_tbl := List.mem_append_right _ (List.mem_append_right _ (List.mem_append_right _ (List.mem_append_left _ (List.mem_of_getElem? (i := 174) rfl : _ ∈ tables_1_3))))
theorem pg_cd90 : Cond.code (pg_y 90) (pg_c 90) (pg_mx 90) (pg_rt 90) ∈ lw_tbl := List.mem_append_right _ (List.mem_append_right _ (List.mem_append_right _ (List.mem_append_left _ (List.mem_of_getElem? (i := 182) rfl : _ ∈ tables_1_3))))
theorem pg_cd91 : Cond.code (pg_y 91) (pg_c 91) (pg_mx 91) (pg_rt 91) ∈ lw_tbl := List.mem_append_right _ (List.mem_append_right _ (List.mem_append_right _ (List.mem_append_left _ (List.mem_of_getElem? (i := 190) rfl : _ ∈ tables_1_3))))
theorem pg_cd92 : Cond.code (pg_y 92) (pg_c 92) (pg_mx 92) (pg_rt 92) ∈ lw_tbl := List.mem_append_right _ (List.mem_append_right _ (List.mem_append_right _ (List.mem_append_left _ (List.mem_of_getElem? (i := 194) rfl : _ ∈ tables_1_3))))
theorem pg_cd93 : Cond.code (pg_y 93) (pg_c 93) (pg_mx 93) (pg_rt 93) ∈ lw_tbl := List.mem_append_right _ (List.mem_append_right _ (List.mem_append_right _ (List.mem_append_left _ (List.mem_of_getElem? (i := 198) rfl : _ ∈ tables_1_3))))
theorem pg_cd94 : Cond.code (pg_y 94) (pg_c 94) (pg_mx 94) (pg_rt 94) ∈ lw_tbl := List.mem_append_right _ (List.mem_append_right _ (List.mem_append_right _ (List.mem_append_left _ (List.mem_of_getElem? (i := 206) rfl : _ ∈ tables_1_3))))
theorem pg_cd95 : Cond.code (pg_y 95) (pg_c 95) (pg_mx 95) (pg_rt 95) ∈ lw_tbl := List.mem_append_right _ (List.mem_append_right _ (List.mem_append_left _ (List.mem_of_getElem? (i := 186) rfl : _ ∈ tables_1_2)))
theorem pg_cd96 : Cond.code (pg_y 96) (pg_c 96) (pg_mx 96) (pg_rt 96) ∈ lw_tbl := List.mem_append_right _ (List.mem_append_right _ (List.mem_append_left _ (List.mem_of_getElem? (i := 200) rfl : _ ∈ tables_1_2)))
theorem pg_cd97 : Cond.code (pg_y 97) (pg_c 97) (pg_mx 97) (pg_rt 97) ∈ lw_tbl := List.mem_append_right _ (List.mem_append_right _ (List.mem_append_left _ (List.mem_of_getElem? (i := 204) rfl : _ ∈ tables_1_2)))
theorem pg_cd98 : Cond.code (pg_y 98) (pg_c 98) (pg_mx 98) (pg_rt 98) ∈ lw_tbl := List.mem_append_right _ (List.mem_append_right _ (List.mem_append_right _ (List.mem_append_left _ (List.mem_of_getElem? (i := 202) rfl : _ ∈ tables_1_3))))
theorem pg_cd99 : Cond.code (pg_y 99) (pg_c 99) (pg_mx 99) (pg_rt 99) ∈ lw_tbl := List.mem_append_right _ (List.mem_append_right _ (List.mem_append_right _ (List.mem_append_left _ (List.mem_of_getElem? (i := 18) rfl : _ ∈ tables_1_3))))
theorem pg_cd100 : Cond.code (pg_y 100) (pg_c 100) (pg_mx 100) (pg_rt 100) ∈ lw_tbl := List.mem_append_right _ (List.mem_append_right _ (List.mem_append_right _ (List.mem_append_left _ (List.mem_of_getElem? (i := 93) rfl : _ ∈ tables_1_3))))
theorem pg_cd101 : Cond.code (pg_y 101) (pg_c 101) (pg_mx 101) (pg_rt 101) ∈ lw_tbl := List.mem_append_right _ (List.mem_append_right _ (List.mem_append_right _ (List.mem_append_left _ (List.mem_of_getElem? (i := 41) rfl : _ ∈ tables_1_3))))
theorem pg_cd102 : Cond.code (pg_y 102) (pg_c 102) (pg_mx 102) (pg_rt 102) ∈ lw_tbl := List.mem_append_right _ (List.mem_append_right _ (List.mem_append_right _ (List.mem_append_left _ (List.mem_of_getElem? (i := 45) rfl : _ ∈ tables_1_3))))
theorem pg_cd103 : Cond.code (pg_y 103) (pg_c 103) (pg_mx 103) (pg_rt 103) ∈ lw_tbl := List.mem_append_right _ (List.mem_append_right _ (List.mem_append_right _ (List.mem_append_left _ (List.mem_of_getElem? (i := 49) rfl : _ ∈ tables_1_3))))
theorem pg_cd104 : Cond.code (pg_y 104) (pg_c 104) (pg_mx 104) (pg_rt 104) ∈ lw_tbl := List.mem_append_right _ (List.mem_append_right _ (List.mem_append_right _ (List.mem_append_left _ (List.mem_of_getElem? (i := 211) rfl : _ ∈ tables_1_3))))
theorem pg_cd105 : Cond.code (pg_y 105) (pg_c 105) (pg_mx 105) (pg_rt 105) ∈ lw_tbl := List.mem_append_right _ (List.mem_append_right _ (List.mem_append_right _ (List.mem_append_right _ (List.mem_append_left _ (List.mem_of_getElem? (i := 54) rfl : _ ∈ tables_1_4)))))
theorem pg_cd106 : Cond.code (pg_y 106) (pg_c 106) (pg_mx 106) (pg_rt 106) ∈ lw_tbl := List.mem_append_right _ (List.mem_append_right _ (List.mem_append_right _ (List.mem_append_right _ (List.mem_append_left _ (List.mem_of_getElem? (i := 162) rfl : _ ∈ tables_1_4)))))
theorem pg_cd107 : Cond.code (pg_y 107) (pg_c 107) (pg_mx 107) (pg_rt 107) ∈ lw_tbl := List.mem_append_right _ (List.mem_append_right _ (List.mem_append_right _ (List.mem_append_right _ (List.mem_append_left _ (List.mem_of_getElem? (i := 102) rfl : _ ∈ tables_1_4)))))
theorem pg_cd108 : Cond.code (pg_y 108) (pg_c 108) (pg_mx 108) (pg_rt 108) ∈ lw_tbl := List.mem_append_right _ (List.mem_append_right _ (List.mem_append_right _ (List.mem_append_right _ (List.mem_append_left _ (List.mem_of_getElem? (i := 50) rfl : _ ∈ tables_1_4)))))
theorem pg_cd109 : Cond.code (pg_y 109) (pg_c 109) (pg_mx 109) (pg_rt 109) ∈ lw_tbl := List.mem_append_right _ (List.mem_append_right _ (List.mem_append_right _ (List.mem_append_right _ (List.mem_append_left _ (List.mem_of_getElem? (i := 64) rfl : _ ∈ tables_1_4)))))
theorem pg_cd110 : Cond.code (pg_y 110) (pg_c 110) (pg_mx 110) (pg_rt 110) ∈ lw_tbl := List.mem_append_right _ (List.mem_append_right _ (List.mem_append_right _ (List.mem_append_right _ (List.mem_append_left _ (List.mem_of_getElem? (i := 76) rfl : _ ∈ tables_1_4)))))
theorem pg_cd111 : Cond.code (pg_y 111) (pg_c 111) (pg_mx 111) (pg_rt 111) ∈ lw_tbl := List.mem_append_right _ (List.mem_append_right _ (List.mem_append_right _ (List.mem_append_right _ (List.mem_append_left _ (List.mem_of_getElem? (i := 88) rfl : _ ∈ tables_1_4)))))
theorem pg_cd112 : Cond.code (pg_y 112) (pg_c 112) (pg_mx 112) (pg_rt 112) ∈ lw_tbl := List.mem_append_right _ (List.mem_append_right _ (List.mem_append_right _ (List.mem_append_right _ (List.mem_append_left _ (List.mem_of_getElem? (i := 84) rfl : _ ∈ tables_1_4)))))
theorem pg_cd113 : Cond.code (pg_y 113) (pg_c 113) (pg_mx 113) (pg_rt 113) ∈ lw_tbl := List.mem_append_right _ (List.mem_append_right _ (List.mem_append_right _ (List.mem_append_right _ (List.mem_append_left _ (List.mem_of_getElem? (i := 80) rfl : _ ∈ tables_1_4)))))
theorem pg_cd114 : Cond.code (pg_y 114) (pg_c 114) (pg_mx 114) (pg_rt 114) ∈ lw_tbl := List.mem_append_right _ (List.mem_append_right _ (List.mem_append_right _ (List.mem_append_right _ (List.mem_append_left _ (List.mem_of_getElem? (i := 72) rfl : _ ∈ tables_1_4)))))
theorem pg_cd115 : Cond.code (pg_y 115) (pg_c 115) (pg_mx 115) (pg_rt 115) ∈ lw_tbl := List.mem_append_right _ (List.mem_append_right _ (List.mem_append_right _ (List.mem_append_right _ (List.mem_append_left _ (List.mem_of_getElem? (i := 99) rfl : _ ∈ tables_1_4)))))
theorem pg_cd116 : Cond.code (pg_y 116) (pg_c 116) (pg_mx 116) (pg_rt 116) ∈ lw_tbl := List.mem_append_right _ (List.mem_append_right _ (List.mem_append_right _ (List.mem_append_right _ (List.mem_append_left _ (List.mem_of_getElem? (i := 95) rfl : _ ∈ tables_1_4)))))
theorem pg_cd117 : Cond.code (pg_y 117) (pg_c 117) (pg_mx 117) (pg_rt 117) ∈ lw_tbl := List.mem_append_right _ (List.mem_append_right _ (List.mem_append_right _ (List.mem_append_right _ (List.mem_append_left _ (List.mem_of_getElem? (i := 68) rfl : _ ∈ tables_1_4)))))
theorem pg_cd118 : Cond.code (pg_y 118) (pg_c 118) (pg_mx 118) (pg_rt 118) ∈ lw_tbl := List.mem_append_right _ (List.mem_append_right _ (List.mem_append_right _ (List.mem_append_right _ (List.mem_append_left _ (List.mem_of_getElem? (i := 60) rfl : _ ∈ tables_1_4)))))
theorem pg_cd119 : Cond.code (pg_y 119) (pg_c 119) (pg_mx 119) (pg_rt 119) ∈ lw_tbl := List.mem_append_right _ (List.mem_append_right _ (List.mem_append_right _ (List.mem_append_right _ (List.mem_append_left _ (List.mem_of_getElem? (i := 106) rfl : _ ∈ tables_1_4)))))
theorem pg_cd120 : Cond.code (pg_y 120) (pg_c 120) (pg_mx 120) (pg_rt 120) ∈ lw_tbl := List.mem_append_right _ (List.mem_append_right _ (List.mem_append_right _ (List.mem_append_right _ (List.mem_append_left _ (List.mem_of_getElem? (i := 110) rfl : _ ∈ tables_1_4)))))
theorem pg_cd121 : Cond.code (pg_y 121) (pg_c 121) (pg_mx 121) (pg_rt 121) ∈ lw_tbl := List.mem_append_right _ (List.mem_append_right _ (List.mem_append_right _ (List.mem_append_right _ (List.mem_append_left _ (List.mem_of_getElem? (i := 174) rfl : _ ∈ tables_1_4)))))
theorem pg_cd122 : Cond.code (pg_y 122) (pg_c 122) (pg_mx 122) (pg_rt 122) ∈ lw_tbl := List.mem_append_right _ (List.mem_append_right _ (List.mem_append_right _ (List.mem_append_right _ (List.mem_append_left _ (List.mem_of_getElem? (i := 187) rfl : _ ∈ tables_1_4)))))
theorem pg_cd123 : Cond.code (pg_y 123) (pg_c 123) (pg_mx 123) (pg_rt 123) ∈ lw_tbl := List.mem_append_right _ (List.mem_append_right _ (List.mem_append_right _ (List.mem_append_right _ (List.mem_append_left _ (List.mem_of_getElem? (i := 159) rfl : _ ∈ tables_1_4)))))
theorem pg_cd124 : Cond.code (pg_y 124) (pg_c 124) (pg_mx 124) (pg_rt 124) ∈ lw_tbl := List.mem_append_right _ (List.mem_append_right _ (List.mem_append_right _ (List.mem_append_right _ (List.mem_append_left _ (List.mem_of_getElem? (i := 217) rfl : _ ∈ tables_1_4)))))
theorem pg_cd125 : Cond.code (pg_y 125) (pg_c 125) (pg_mx 125) (pg_rt 125) ∈ lw_tbl := List.mem_append_right _ (List.mem_append_right _ (List.mem_append_right _ (List.mem_append_right _ (List.mem_append_left _ (List.mem_of_getElem? (i := 147) rfl : _ ∈ tables_1_4)))))
theorem pg_cd126 : Cond.code (pg_y 126) (pg_c 126) (pg_mx 126) (pg_rt 126) ∈ lw_tbl := List.mem_append_right _ (List.mem_append_right _ (List.mem_append_right _ (List.mem_append_right _ (List.mem_append_left _ (List.mem_of_getElem? (i := 143) rfl : _ ∈ tables_1_4)))))
theorem pg_cd127 : Cond.code (pg_y 127) (pg_c 127) (pg_mx 127) (pg_rt 127) ∈ lw_tbl := List.mem_append_right _ (List.mem_append_right _ (List.mem_append_right _ (List.mem_append_right _ (List.mem_append_left _ (List.mem_of_getElem? (i := 139) rfl : _ ∈ tables_1_4)))))
theorem pg_cd128 : Cond.code (pg_y 128) (pg_c 128) (pg_mx 128) (pg_rt 128) ∈ lw_tbl := List.mem_append_right _ (List.mem_append_right _ (List.mem_append_right _ (List.mem_append_right _ (List.mem_append_left _ (List.mem_of_getElem? (i := 155) rfl : _ ∈ tables_1_4)))))
theorem pg_cd129 : Cond.code (pg_y 129) (pg_c 129) (pg_mx 129) (pg_rt 129) ∈ lw_tbl := List.mem_append_right _ (List.mem_append_right _ (List.mem_append_right _ (List.mem_append_right _ (List.mem_append_left _ (List.mem_of_getElem? (i := 122) rfl : _ ∈ tables_1_4)))))
theorem pg_cd130 : Cond.code (pg_y 130) (pg_c 130) (pg_mx 130) (pg_rt 130) ∈ lw_tbl := List.mem_append_right _ (List.mem_append_right _ (List.mem_append_right _ (List.mem_append_right _ (List.mem_append_left _ (List.mem_of_getElem? (i := 166) rfl : _ ∈ tables_1_4)))))
theorem pg_cd131 : Cond.code (pg_y 131) (pg_c 131) (pg_mx 131) (pg_rt 131) ∈ lw_tbl := List.mem_append_right _ (List.mem_append_right _ (List.mem_append_right _ (List.mem_append_right _ (List.mem_append_left _ (List.mem_of_getElem? (i := 114) rfl : _ ∈ tables_1_4)))))
theorem pg_cd132 : Cond.code (pg_y 132) (pg_c 132) (pg_mx 132) (pg_rt 132) ∈ lw_tbl := List.mem_append_right _ (List.mem_append_right _ (List.mem_append_right _ (List.mem_append_right _ (List.mem_append_left _ (List.mem_of_getElem? (i := 170) rfl : _ ∈ tables_1_4)))))
theorem pg_cd133 : Cond.code (pg_y 133) (pg_c 133) (pg_mx 133) (pg_rt 133) ∈ lw_tbl := List.mem_append_right _ (List.mem_append_right _ (List.mem_append_right _ (List.mem_append_right _ (List.mem_append_left _ (List.mem_of_getElem? (i := 179) rfl : _ ∈ tables_1_4)))))
theorem pg_cd134 : Cond.code (pg_y 134) (pg_c 134) (pg_mx 134) (pg_rt 134) ∈ lw_tbl := List.mem_append_right _ (List.mem_append_right _ (List.mem_append_right _ (List.mem_append_right _ (List.mem_append_left _ (List.mem_of_getElem? (i := 183) rfl : _ ∈ tables_1_4)))))
theorem pg_cd135 : Cond.code (pg_y 135) (pg_c 135) (pg_mx 135) (pg_rt 135) ∈ lw_tbl := List.mem_append_right _ (List.mem_append_right _ (List.mem_append_right _ (List.mem_append_right _ (List.mem_append_left _ (List.mem_of_getElem? (i := 201) rfl : _ ∈ tables_1_4)))))
theorem pg_cd136 : Cond.code (pg_y 136) (pg_c 136) (pg_mx 136) (pg_rt 136) ∈ lw_tbl := List.mem_append_right _ (List.mem_append_right _ (List.mem_append_right _ (List.mem_append_right _ (List.mem_append_left _ (List.mem_of_getElem? (i := 197) rfl : _ ∈ tables_1_4)))))
theorem pg_cd137 : Cond.code (pg_y 137) (pg_c 137) (pg_mx 137) (pg_rt 137) ∈ lw_tbl := List.mem_append_right _ (List.mem_append_right _ (List.mem_append_right _ (List.mem_append_right _ (List.mem_append_left _ (List.mem_of_getElem? (i := 205) rfl : _ ∈ tables_1_4)))))
theorem pg_cd138 : Cond.code (pg_y 138) (pg_c 138) (pg_mx 138) (pg_rt 138) ∈ lw_tbl := List.mem_append_right _ (List.mem_append_right _ (List.mem_append_right _ (List.mem_append_right _ (List.mem_append_left _ (List.mem_of_getElem? (i := 213) rfl : _ ∈ tables_1_4)))))
theorem pg_cd139 : Cond.code (pg_y 139) (pg_c 139) (pg_mx 139) (pg_rt 139) ∈ lw_tbl := List.mem_append_right _ (List.mem_append_right _ (List.mem_append_right _ (List.mem_append_right _ (List.mem_append_left _ (List.mem_of_getElem? (i := 191) rfl : _ ∈ tables_1_4)))))
theorem pg_cd140 : Cond.code (pg_y 140) (pg_c 140) (pg_mx 140) (pg_rt 140) ∈ lw_tbl := List.mem_append_right _ (List.mem_append_right _ (List.mem_append_right _ (List.mem_append_right _ (List.mem_append_left _ (List.mem_of_getElem? (i := 209) rfl : _ ∈ tables_1_4)))))
theorem pg_cd141 : Cond.code (pg_y 141) (pg_c 141) (pg_mx 141) (pg_rt 141) ∈ lw_tbl := List.mem_append_right _ (List.mem_append_right _ (List.mem_append_right _ (List.mem_append_right _ (List.mem_append_left _ (List.mem_of_getElem? (i := 230) rfl : _ ∈ tables_1_4)))))
theorem pg_cd142 : Cond.code (pg_y 142) (pg_c 142) (pg_mx 142) (pg_rt 142) ∈ lw_tbl := List.mem_append_right _ (List.mem_append_right _ (List.mem_append_right _ (List.mem_append_right _ (List.mem_append_left _ (List.mem_of_getElem? (i := 225) rfl : _ ∈ tables_1_4)))))
theorem pg_cd143 : Cond.code (pg_y 143) (pg_c 143) (pg_mx 143) (pg_rt 143) ∈ lw_tbl := List.mem_append_right _ (List.mem_append_right _ (List.mem_append_right _ (List.mem_append_right _ (List.mem_append_left _ (List.mem_of_getElem? (i := 221) rfl : _ ∈ tables_1_4)))))
theorem pg_cd144 : Cond.code (pg_y 144) (pg_c 144) (pg_mx 144) (pg_rt 144) ∈ lw_tbl := List.mem_append_right _ (List.mem_append_right _ (List.mem_append_right _ (List.mem_append_right _ (List.mem_append_left _ (List.mem_of_getElem? (i := 234) rfl : _ ∈ tables_1_4)))))
theorem pg_cd145 : Cond.code (pg_y 145) (pg_c 145) (pg_mx 145) (pg_rt 145) ∈ lw_tbl := List.mem_append_right _ (List.mem_append_right _ (List.mem_append_right _ (List.mem_append_right _ (List.mem_append_left _ (List.mem_of_getElem? (i := 238) rfl : _ ∈ tables_1_4)))))
theorem pg_cd146 : Cond.code (pg_y 146) (pg_c 146) (pg_mx 146) (pg_rt 146) ∈ lw_tbl := List.mem_append_right _ (List.mem_append_right _ (List.mem_append_right _ (List.mem_append_right _ (List.mem_append_right _ ((List.mem_of_getElem? (i := 10) rfl : _ ∈ tables_1_5))))))
theorem pg_cd147 : Cond.code (pg_y 147) (pg_c 147) (pg_mx 147) (pg_rt 147) ∈ lw_tbl := List.mem_append_right _ (List.mem_append_right _ (List.mem_append_right _ (List.mem_append_right _ (List.mem_append_right _ ((List.mem_of_getElem? (i := 6) rfl : _ ∈ tables_1_5))))))
theorem pg_cd148 : Cond.code (pg_y 148) (pg_c 148) (pg_mx 148) (pg_rt 148) ∈ lw_tbl := List.mem_append_right _ (List.mem_append_right _ (List.mem_append_right _ (List.mem_append_right _ (List.mem_append_right _ ((List.mem_of_getElem? (i := 2) rfl : _ ∈ tables_1_5))))))
theorem pg_cd149 : Cond.code (pg_y 149) (pg_c 149) (pg_mx 149) (pg_rt 149) ∈ lw_tbl := List.mem_append_right _ (List.mem_append_right _ (List.mem_append_right _ (List.mem_append_right _ (List.mem_append_right _ ((List.mem_of_getElem? (i := 18) rfl : _ ∈ tables_1_5))))))
theorem pg_cd150 : Cond.code (pg_y 150) (pg_c 150) (pg_mx 150) (pg_rt 150) ∈ lw_tbl := List.mem_append_right _ (List.mem_append_right _ (List.mem_append_right _ (List.mem_append_right _ (List.mem_append_left _ (List.mem_of_getElem? (i := 134) rfl : _ ∈ tables_1_4)))))
theorem pg_cd151 : Cond.code (pg_y 151) (pg_c 151) (pg_mx 151) (pg_rt 151) ∈ lw_tbl := List.mem_append_right _ (List.mem_append_right _ (List.mem_append_right _ (List.mem_append_right _ (List.mem_append_left _ (List.mem_of_getElem? (i := 151) rfl : _ ∈ tables_1_4)))))
theorem pg_cd152 : Cond.code (pg_y 152) (pg_c 152) (pg_mx 152) (pg_rt 152) ∈ lw_tbl := List.mem_append_right _ (List.mem_append_right _ (List.mem_append_right _ (List.mem_append_right _ (List.mem_append_left _ (List.mem_of_getElem? (i := 130) rfl : _ ∈ tables_1_4)))))
theorem pg_cd153 : Cond.code (pg_y 153) (pg_c 153) (pg_mx 153) (pg_rt 153) ∈ lw_tbl := List.mem_append_right _ (List.mem_append_right _ (List.mem_append_right _ (List.mem_append_right _ (List.mem_append_right _ ((List.mem_of_getElem? (i := 22) rfl : _ ∈ tables_1_5))))))
theorem pg_cd154 : Cond.code (pg_y 154) (pg_c 154) (pg_mx 154) (pg_rt 154) ∈ lw_tbl := List.mem_append_right _ (List.mem_append_right _ (List.mem_append_right _ (List.mem_append_right _ (List.mem_append_right _ ((List.mem_of_getElem? (i := 26) rfl : _ ∈ tables_1_5))))))
theorem pg_cd155 : Cond.code (pg_y 155) (pg_c 155) (pg_mx 155) (pg_rt 155) ∈ lw_tbl := List.mem_append_right _ (List.mem_append_right _ (List.mem_append_right _ (List.mem_append_right _ (List.mem_append_left _ (List.mem_of_getElem? (i := 126) rfl : _ ∈ tables_1_4)))))
theorem pg_cd156 : Cond.code (pg_y 156) (pg_c 156) (pg_mx 156) (pg_rt 156) ∈ lw_tbl := List.mem_append_right _ (List.mem_append_right _ (List.mem_append_right _ (List.mem_append_right _ (List.mem_append_right _ ((List.mem_of_getElem? (i := 30) rfl : _ ∈ tables_1_5))))))
theorem pg_cd157 : Cond.code (pg_y 157) (pg_c 157) (pg_mx 157) (pg_rt 157) ∈ lw_tbl := List.mem_append_right _ (List.mem_append_right _ (List.mem_append_right _ (List.mem_append_right _ (List.mem_append_right _ ((List.mem_of_getElem? (i := 34) rfl : _ ∈ tables_1_5))))))
theorem pg_cd158 : Cond.code (pg_y 158) (pg_c 158) (pg_mx 158) (pg_rt 158) ∈ lw_tbl := List.mem_append_right _ (List.mem_append_right _ (List.mem_append_right _ (List.mem_append_right _ (List.mem_append_right _ ((List.mem_of_getElem? (i := 42) rfl : _ ∈ tables_1_5))))))
theorem pg_cd159 : Cond.code (pg_y 159) (pg_c 159) (pg_mx 159) (pg_rt 159) ∈ lw_tbl := List.mem_append_right _ (List.mem_append_right _ (List.mem_append_right _ (List.mem_append_right _ (List.mem_append_right _ ((List.mem_of_getElem? (i := 38) rfl : _ ∈ tables_1_5))))))
theorem pg_cd160 : Cond.code (pg_y 160) (pg_c 160) (pg_mx 160) (pg_rt 160) ∈ lw_tbl := List.mem_append_right _ (List.mem_append_right _ (List.mem_append_right _ (List.mem_append_right _ (List.mem_append_right _ ((List.mem_of_getElem? (i := 46) rfl : _ ∈ tables_1_5))))))
theorem pg_cd161 : Cond.code (pg_y 161) (pg_c 161) (pg_mx 161) (pg_rt 161) ∈ lw_tbl := List.mem_append_right _ (List.mem_append_right _ (List.mem_append_right _ (List.mem_append_right _ (List.mem_append_left _ (List.mem_of_getElem? (i := 118) rfl : _ ∈ tables_1_4)))))
theorem pg_cd162 : Cond.code (pg_y 162) (pg_c 162) (pg_mx 162) (pg_rt 162) ∈ lw_tbl := List.mem_append_right _ (List.mem_append_right _ (List.mem_append_right _ (List.mem_append_right _ (List.mem_append_right _ ((List.mem_of_getElem? (i := 54) rfl : _ ∈ tables_1_5))))))
theorem pg_cd163 : Cond.code (pg_y 163) (pg_c 163) (pg_mx 163) (pg_rt 163) ∈ lw_tbl := List.mem_append_right _ (List.mem_append_right _ (List.mem_append_right _ (List.mem_append_right _ (List.mem_append_right _ ((List.mem_of_getElem? (i := 50) rfl : _ ∈ tables_1_5))))))
theorem pg_cd164 : Cond.code (pg_y 164) (pg_c 164) (pg_mx 164) (pg_rt 164) ∈ lw_tbl := List.mem_append_right _ (List.mem_append_right _ (List.mem_append_right _ (List.mem_append_right _ (List.mem_append_right _ ((List.mem_of_getElem? (i := 62) rfl : _ ∈ tables_1_5))))))
theorem pg_cd165 : Cond.code (pg_y 165) (pg_c 165) (pg_mx 165) (pg_rt 165) ∈ lw_tbl := List.mem_append_right _ (List.mem_append_right _ (List.mem_append_right _ (List.mem_append_right _ (List.mem_append_right _ ((List.mem_of_getElem? (i := 58) rfl : _ ∈ tables_1_5))))))
theorem pg_cd166 : Cond.code (pg_y 166) (pg_c 166) (pg_mx 166) (pg_rt 166) ∈ lw_tbl := List.mem_append_right _ (List.mem_append_right _ (List.mem_append_right _ (List.mem_append_right _ (List.mem_append_right _ ((List.mem_of_getElem? (i := 66) rfl : _ ∈ tables_1_5))))))
theorem pg_cd167 : Cond.code (pg_y 167) (pg_c 167) (pg_mx 167) (pg_rt 167) ∈ lw_tbl := List.mem_append_right _ (List.mem_append_right _ (List.mem_append_right _ (List.mem_append_right _ (List.mem_append_right _ ((List.mem_of_getElem? (i := 73) rfl : _ ∈ tables_1_5))))))
theorem pg_cd168 : Cond.code (pg_y 168) (pg_c 168) (pg_mx 168) (pg_rt 168) ∈ lw_tbl := List.mem_append_right _ (List.mem_append_right _ (List.mem_append_right _ (List.mem_append_right _ (List.mem_append_right _ ((List.mem_of_getElem? (i := 81) rfl : _ ∈ tables_1_5))))))
theorem pg_cd169 : Cond.code (pg_y 169) (pg_c 169) (pg_mx 169) (pg_rt 169) ∈ lw_tbl := List.mem_append_right _ (List.mem_append_right _ (List.mem_append_right _ (List.mem_append_right _ (List.mem_append_right _ ((List.mem_of_getElem? (i := 77) rfl : _ ∈ tables_1_5))))))
theorem pg_cd170 : Cond.code (pg_y 170) (pg_c 170) (pg_mx 170) (pg_rt 170) ∈ lw_tbl := List.mem_append_right _ (List.mem_append_right _ (List.mem_append_right _ (List.mem_append_right _ (List.mem_append_right _ ((List.mem_of_getElem? (i := 90) rfl : _ ∈ tables_1_5))))))
theorem pg_cd171 : Cond.code (pg_y 171) (pg_c 171) (pg_mx 171) (pg_rt 171) ∈ lw_tbl := List.mem_append_right _ (List.mem_append_right _ (List.mem_append_right _ (List.mem_append_right _ (List.mem_append_right _ ((List.mem_of_getElem? (i := 85) rfl : _ ∈ tables_1_5))))))
theorem pg_cd172 : Cond.code (pg_y 172) (pg_c 172) (pg_mx 172) (pg_rt 172) ∈ lw_tbl := List.mem_append_right _ (List.mem_append_right _ (List.mem_append_right _ (List.mem_append_right _ (List.mem_append_right _ ((List.mem_of_getElem? (i := 94) rfl : _ ∈ tables_1_5))))))
theorem pg_cd173 : Cond.code (pg_y 173) (pg_c 173) (pg_mx 173) (pg_rt 173) ∈ lw_tbl := List.mem_append_right _ (List.mem_append_right _ (List.mem_append_right _ (List.mem_append_right _ (List.mem_append_right _ ((List.mem_of_getElem? (i := 98) rfl : _ ∈ tables_1_5))))))
theorem pg_cd174 : Cond.code (pg_y 174) (pg_c 174) (pg_mx 174) (pg_rt 174) ∈ lw_tbl := List.mem_append_right _ (List.mem_append_right _ (List.mem_append_right _ (List.mem_append_right _ (List.mem_append_right _ ((List.mem_of_getElem? (i := 102) rfl : _ ∈ tables_1_5))))))
theorem pg_cd175 : Cond.code (pg_y 175) (pg_c 175) (pg_mx 175) (pg_rt 175) ∈ lw_tbl := List.mem_append_right _ (List.mem_append_right _ (List.mem_append_right _ (List.mem_append_right _ (List.mem_append_right _ ((List.mem_of_getElem? (i := 106) rfl : _ ∈ tables_1_5))))))
theorem pg_cd176 : Cond.code (pg_y 176) (pg_c 176) (pg_mx 176) (pg_rt 176) ∈ lw_tbl := List.mem_append_right _ (List.mem_append_right _ (List.mem_append_right _ (List.mem_append_right _ (List.mem_append_right _ ((List.mem_of_getElem? (i := 110) rfl : _ ∈ tables_1_5))))))
theorem pg_cd177 : Cond.code (pg_y 177) (pg_c 177) (pg_mx 177) (pg_rt 177) ∈ lw_tbl := List.mem_append_right _ (List.mem_append_right _ (List.mem_append_right _ (List.mem_append_right _ (List.mem_append_right _ ((List.mem_of_getElem? (i := 114) rfl : _ ∈ tables_1_5))))))
theorem pg_cd178 : Cond.code (pg_y 178) (pg_c 178) (pg_mx 178) (pg_rt 178) ∈ lw_tbl := List.mem_append_right _ (List.mem_append_right _ (List.mem_append_left _ (List.mem_of_getElem? (i := 171) rfl : _ ∈ tables_1_2)))
end
section
/-! each method's blocks are its code -/
set_option maxRecDepth 100000 in
theorem pg_ok_0 : pg_okM 0 = true := by decide +kernel
set_option maxRecDepth 100000 in
theorem pg_ok_1 : pg_okM 1 = true := by decide +kernel
set_option maxRecDepth 100000 in
theorem pg_ok_2 : pg_okM 2 = true := by decide +kernel
set_option maxRecDepth 100000 in
theorem pg_ok_3 : pg_okM 3 = true := by decide +kernel
set_option maxRecDepth 100000 in
theorem pg_ok_4 : pg_okM 4 = true := by decide +kernel
set_option maxRecDepth 100000 in
theorem pg_ok_5 : pg_okM 5 = true := by decide +kernel
set_option maxRecDepth 100000 in
theorem pg_ok_6 : pg_okM 6 = true := by decide +kernel
set_option maxRecDepth 100000 in
theorem pg_ok_7 : pg_okM 7 = true := by decide +kernel
set_option maxRecDepth 100000 in
theorem pg_ok_8 : pg_okM 8 = true := by decide +kernel
set_option maxRecDepth 100000 in
theorem pg_ok_9 : pg_okM 9 = true := by decide +kernel
set_option maxRecDepth 100000 in
theorem pg_ok_10 : pg_okM 10 = true := by decide +kernel
set_option maxRecDepth 100000 in
theorem pg_ok_11 : pg_okM 11 = true := by decide +kernel
set_option maxRecDepth 100000 in
theorem pg_ok_12 : pg_okM 12 = true := by decide +kernel
set_option maxRecDepth 100000 in
theorem pg_ok_13 : pg_okM 13 = true := by decide +kernel
set_option maxRecDepth 100000 in
theorem pg_ok_14 : pg_okM 14 = true := by decide +kernel
set_option maxRecDepth 100000 in
theorem pg_ok_15 : pg_okM 15 = true := by decide +kernel
set_option maxRecDepth 100000 in
theorem pg_ok_16 : pg_okM 16 = true := by decide +kernel
set_option maxRecDepth 100000 in
theorem pg_ok_17 : pg_okM 17 = true := by decide +kernel
set_option maxRecDepth 100000 in
theorem pg_ok_18 : pg_okM 18 = true := by decide +kernel
set_option maxRecDepth 100000 in
theorem pg_ok_19 : pg_okM 19 = true := by decide +kernel
set_option maxRecDepth 100000 in
theorem pg_ok_20 : pg_okM 20 = true := by decide +kernel
set_option maxRecDepth 100000 in
theorem pg_ok_21 : pg_okM 21 = true := by decide +kernel
set_option maxRecDepth 100000 in
theorem pg_ok_22 : pg_okM 22 = true := by decide +kernel
set_option maxRecDepth 100000 in
theorem pg_ok_23 : pg_okM 23 = true := by decide +kernel
set_option maxRecDepth 100000 in
theorem pg_ok_24 : pg_okM 24 = true := by decide +kernel
set_option maxRecDepth 100000 in
theorem pg_ok_25 : pg_okM 25 = true := by decide +kernel
set_option maxRecDepth 100000 in
theorem pg_ok_26 : pg_okM 26 = true := by decide +kernel
set_option maxRecDepth 100000 in
theorem pg_ok_27 : pg_okM 27 = true := by decide +kernel
set_option maxRecDepth 100000 in
theorem pg_ok_28 : pg_okM 28 = true := by decide +kernel
set_option maxRecDepth 100000 in
theorem pg_ok_29 : pg_okM 29 = true := by decide +kernel
set_option maxRecDepth 100000 in
theorem pg_ok_30 : pg_okM 30 = true := by decide +kernel
set_option maxRecDepth 100000 in
theorem pg_ok_31 : pg_okM 31 = true := by decide +kernel
set_option maxRecDepth 100000 in
theorem pg_ok_32 : pg_okM 32 = true := by decide +kernel
set_option maxRecDepth 100000 in
theorem pg_ok_33 : pg_okM 33 = true := by decide +kernel
set_option maxRecDepth 100000 in
theorem pg_ok_34 : pg_okM 34 = true := by decide +kernel
set_option maxRecDepth 100000 in
theorem pg_ok_35 : pg_okM 35 = true := by decide +kernel
set_option maxRecDepth 100000 in
theorem pg_ok_36 : pg_okM 36 = true := by decide +kernel
set_option maxRecDepth 100000 in
theorem pg_ok_37 : pg_okM 37 = true := by decide +kernel
set_option maxRecDepth 100000 in
theorem pg_ok_38 : pg_okM 38 = true := by decide +kernel
set_option maxRecDepth 100000 in
theorem pg_ok_39 : pg_okM 39 = true := by decide +kernel
set_option maxRecDepth 100000 in
theorem pg_ok_40 : pg_okM 40 = true := by decide +kernel
set_option maxRecDepth 100000 in
theorem pg_ok_41 : pg_okM 41 = true := by decide +kernel
set_option maxRecDepth 100000 in
theorem pg_ok_42 : pg_okM 42 = true := by decide +kernel
set_option maxRecDepth 100000 in
theorem pg_ok_43 : pg_okM 43 = true := by decide +kernel
set_option maxRecDepth 100000 in
theorem pg_ok_44 : pg_okM 44 = true := by decide +kernel
set_option maxRecDepth 100000 in
theorem pg_ok_45 : pg_okM 45 = true := by decide +kernel
set_option maxRecDepth 100000 in
theorem pg_ok_46 : pg_okM 46 = true := by decide +kernel
set_option maxRecDepth 100000 in
theorem pg_ok_47 : pg_okM 47 = true := by decide +kernel
set_option maxRecDepth 100000 in
theorem pg_ok_48 : pg_okM 48 = true := by decide +kernel
set_option maxRecDepth 100000 in
theorem pg_ok_49 : pg_okM 49 = true := by decide +kernel
set_option maxRecDepth 100000 in
theorem pg_ok_50 : pg_okM 50 = true := by decide +kernel
set_option maxRecDepth 100000 in
theorem pg_ok_51 : pg_okM 51 = true := by decide +kernel
set_option maxRecDepth 100000 in
theorem pg_ok_52 : pg_okM 52 = true := by decide +kernel
set_option maxRecDepth 100000 in
theorem pg_ok_53 : pg_okM 53 = true := by decide +kernel
set_option maxRecDepth 100000 in
theorem pg_ok_54 : pg_okM 54 = true := by decide +kernel
set_option maxRecDepth 100000 in
theorem pg_ok_55 : pg_okM 55 = true := by decide +kernel
set_option maxRecDepth 100000 in
theorem pg_ok_56 : pg_okM 56 = true := by decide +kernel
set_option maxRecDepth 100000 in
theorem pg_ok_57 : pg_okM 57 = true := by decide +kernel
set_option maxRecDepth 100000 in
theorem pg_ok_58 : pg_okM 58 = true := by decide +kernel
set_option maxRecDepth 100000 in
theorem pg_ok_59 : pg_okM 59 = true := by decide +kernel
set_option maxRecDepth 100000 in
theorem pg_ok_60 : pg_okM 60 = true := by decide +kernel
set_option maxRecDepth 100000 in
theorem pg_ok_61 : pg_okM 61 = true := by decide +kernel
set_option maxRecDepth 100000 in
theorem pg_ok_62 : pg_okM 62 = true := by decide +kernel
set_option maxRecDepth 100000 in
theorem pg_ok_63 : pg_okM 63 = true := by decide +kernel
set_option maxRecDepth 100000 in
theorem pg_ok_64 : pg_okM 64 = true := by decide +kernel
set_option maxRecDepth 100000 in
theorem pg_ok_65 : pg_okM 65 = true := by decide +kernel
set_option maxRecDepth 100000 in
theorem pg_ok_66 : pg_okM 66 = true := by decide +kernel
set_option maxRecDepth 100000 in
theorem pg_ok_67 : pg_okM 67 = true := by decide +kernel
set_option maxRecDepth 100000 in
theorem pg_ok_68 : pg_okM 68 = true := by decide +kernel
set_option maxRecDepth 100000 in
theorem pg_ok_69 : pg_okM 69 = true := by decide +kernel
set_option maxRecDepth 100000 in
theorem pg_ok_70 : pg_okM 70 = true := by decide +kernel
set_option maxRecDepth 100000 in
theorem pg_ok_71 : pg_okM 71 = true := by decide +kernel
set_option maxRecDepth 100000 in
theorem pg_ok_72 : pg_okM 72 = true := by decide +kernel
set_option maxRecDepth 100000 in
theorem pg_ok_73 : pg_okM 73 = true := by decide +kernel
set_option maxRecDepth 100000 in
theorem pg_ok_74 : pg_okM 74 = true := by decide +kernel
set_option maxRecDepth 100000 in
theorem pg_ok_75 : pg_okM 75 = true := by decide +kernel
set_option maxRecDepth 100000 in
theorem pg_ok_76 : pg_okM 76 = true := by decide +kernel
set_option maxRecDepth 100000 in
theorem pg_ok_77 : pg_okM 77 = true := by decide +kernel
set_option maxRecDepth 100000 in
theorem pg_ok_78 : pg_okM 78 = true := by decide +kernel
set_option maxRecDepth 100000 in
theorem pg_ok_79 : pg_okM 79 = true := by decide +kernel
set_option maxRecDepth 100000 in
theorem pg_ok_80 : pg_okM 80 = true := by decide +kernel
set_option maxRecDepth 100000 in
theorem pg_ok_81 : pg_okM 81 = true := by decide +kernel
set_option maxRecDepth 100000 in
theorem pg_ok_82 : pg_okM 82 = true := by decide +kernel
set_option maxRecDepth 100000 in
theorem pg_ok_83 : pg_okM 83 = true := by decide +kernel
set_option maxRecDepth 100000 in
theorem pg_ok_84 : pg_okM 84 = true := by decide +kernel
set_option maxRecDepth 100000 in
theorem pg_ok_85 : pg_okM 85 = true := by decide +kernel
set_option maxRecDepth 100000 in
theorem pg_ok_86 : pg_okM 86 = true := by decide +kernel
set_option maxRecDepth 100000 in
theorem pg_ok_87 : pg_okM 87 = true := by decide +kernel
set_option maxRecDepth 100000 in
theorem pg_ok_88 : pg_okM 88 = true := by decide +kernel
set_option maxRecDepth 100000 in
theorem pg_ok_89 : pg_okM 89 = true := by decide +kernel
set_option maxRecDepth 100000 in
theorem pg_ok_90 : pg_okM 90 = true := by decide +kernel
set_option maxRecDepth 100000 in
theorem pg_ok_91 : pg_okM 91 = true := by decide +kernel
set_option maxRecDepth 100000 in
theorem pg_ok_92 : pg_okM 92 = true := by decide +kernel
set_option maxRecDepth 100000 in
theorem pg_ok_93 : pg_okM 93 = true := by decide +kernel
set_option maxRecDepth 100000 in
theorem pg_ok_94 : pg_okM 94 = true := by decide +kernel
set_option maxRecDepth 100000 in
theorem pg_ok_95 : pg_okM 95 = true := by decide +kernel
set_option maxRecDepth 100000 in
theorem pg_ok_96 : pg_okM 96 = true := by decide +kernel
set_option maxRecDepth 100000 in
theorem pg_ok_97 : pg_okM 97 = true := by decide +kernel
set_option maxRecDepth 100000 in
theorem pg_ok_98 : pg_okM 98 = true := by decide +kernel
set_option maxRecDepth 100000 in
theorem pg_ok_99 : pg_okM 99 = true := by decide +kernel
set_option maxRecDepth 100000 in
theorem pg_ok_100 : pg_okM 100 = true := by decide +kernel
set_option maxRecDepth 100000 in
theorem pg_ok_101 : pg_okM 101 = true := by decide +kernel
set_option maxRecDepth 100000 in
theorem pg_ok_102 : pg_okM 102 = true := by decide +kernel
set_option maxRecDepth 100000 in
theorem pg_ok_103 : pg_okM 103 = true := by decide +kernel
set_option maxRecDepth 100000 in
theorem pg_ok_104 : pg_okM 104 = true := by decide +kernel
set_option maxRecDepth 100000 in
theorem pg_ok_105 : pg_okM 105 = true := by decide +kernel
set_option maxRecDepth 100000 in
theorem pg_ok_106 : pg_okM 106 = true := by decide +kernel
set_option maxRecDepth 100000 in
theorem pg_ok_107 : pg_okM 107 = true := by decide +kernel
set_option maxRecDepth 100000 in
theorem pg_ok_108 : pg_okM 108 = true := by decide +kernel
set_option maxRecDepth 100000 in
theorem pg_ok_109 : pg_okM 109 = true := by decide +kernel
set_option maxRecDepth 100000 in
theorem pg_ok_110 : pg_okM 110 = true := by decide +kernel
set_option maxRecDepth 100000 in
theorem pg_ok_111 : pg_okM 111 = true := by decide +kernel
set_option maxRecDepth 100000 in
theorem pg_ok_112 : pg_okM 112 = true := by decide +kernel
set_option maxRecDepth 100000 in
theorem pg_ok_113 : pg_okM 113 = true := by decide +kernel
set_option maxRecDepth 100000 in
theorem pg_ok_114 : pg_okM 114 = true := by decide +kernel
set_option maxRecDepth 100000 in
theorem pg_ok_115 : pg_okM 115 = true := by decide +kernel
set_option maxRecDepth 100000 in
theorem pg_ok_116 : pg_okM 116 = true := by decide +kernel
set_option maxRecDepth 100000 in
theorem pg_ok_117 : pg_okM 117 = true := by decide +kernel
set_option maxRecDepth 100000 in
theorem pg_ok_118 : pg_okM 118 = true := by decide +kernel
set_option maxRecDepth 100000 in
theorem pg_ok_119 : pg_okM 119 = true := by decide +kernel
set_option maxRecDepth 100000 in
theorem pg_ok_120 : pg_okM 120 = true := by decide +kernel
set_option maxRecDepth 100000 in
theorem pg_ok_121 : pg_okM 121 = true := by decide +kernel
set_option maxRecDepth 100000 in
theorem pg_ok_122 : pg_okM 122 = true := by decide +kernel
set_option maxRecDepth 100000 in
theorem pg_ok_123 : pg_okM 123 = true := by decide +kernel
set_option maxRecDepth 100000 in
theorem pg_ok_124 : pg_okM 124 = true := by decide +kernel
set_option maxRecDepth 100000 in
theorem pg_ok_125 : pg_okM 125 = true := by decide +kernel
set_option maxRecDepth 100000 in
theorem pg_ok_126 : pg_okM 126 = true := by decide +kernel
set_option maxRecDepth 100000 in
theorem pg_ok_127 : pg_okM 127 = true := by decide +kernel
set_option maxRecDepth 100000 in
theorem pg_ok_128 : pg_okM 128 = true := by decide +kernel
set_option maxRecDepth 100000 in
theorem pg_ok_129 : pg_okM 129 = true := by decide +kernel
set_option maxRecDepth 100000 in
theorem pg_ok_130 : pg_okM 130 = true := by decide +kernel
set_option maxRecDepth 100000 in
theorem pg_ok_131 : pg_okM 131 = true := by decide +kernel
set_option maxRecDepth 100000 in
theorem pg_ok_132 : pg_okM 132 = true := by decide +kernel
set_option maxRecDepth 100000 in
theorem pg_ok_133 : pg_okM 133 = true := by decide +kernel
set_option maxRecDepth 100000 in
theorem pg_ok_134 : pg_okM 134 = true := by decide +kernel
set_option maxRecDepth 100000 in
theorem pg_ok_135 : pg_okM 135 = true := by decide +kernel
set_option maxRecDepth 100000 in
theorem pg_ok_136 : pg_okM 136 = true := by decide +kernel
set_option maxRecDepth 100000 in
theorem pg_ok_137 : pg_okM 137 = true := by decide +kernel
set_option maxRecDepth 100000 in
theorem pg_ok_138 : pg_okM 138 = true := by decide +kernel
set_option maxRecDepth 100000 in
theorem pg_ok_139 : pg_okM 139 = true := by decide +kernel
set_option maxRecDepth 100000 in
theorem pg_ok_140 : pg_okM 140 = true := by decide +kernel
set_option maxRecDepth 100000 in
theorem pg_ok_141 : pg_okM 141 = true := by decide +kernel
set_option maxRecDepth 100000 in
theorem pg_ok_142 : pg_okM 142 = true := by decide +kernel
set_option maxRecDepth 100000 in
theorem pg_ok_143 : pg_okM 143 = true := by decide +kernel
set_option maxRecDepth 100000 in
theorem pg_ok_144 : pg_okM 144 = true := by decide +kernel
set_option maxRecDepth 100000 in
theorem pg_ok_145 : pg_okM 145 = true := by decide +kernel
set_option maxRecDepth 100000 in
theorem pg_ok_146 : pg_okM 146 = true := by decide +kernel
set_option maxRecDepth 100000 in
theorem pg_ok_147 : pg_okM 147 = true := by decide +kernel
set_option maxRecDepth 100000 in
theorem pg_ok_148 : pg_okM 148 = true := by decide +kernel
set_option maxRecDepth 100000 in
theorem pg_ok_149 : pg_okM 149 = true := by decide +kernel
set_option maxRecDepth 100000 in
theorem pg_ok_150 : pg_okM 150 = true := by decide +kernel
set_option maxRecDepth 100000 in
theorem pg_ok_151 : pg_okM 151 = true := by decide +kernel
set_option maxRecDepth 100000 in
theorem pg_ok_152 : pg_okM 152 = true := by decide +kernel
set_option maxRecDepth 100000 in
theorem pg_ok_153 : pg_okM 153 = true := by decide +kernel
set_option maxRecDepth 100000 in
theorem pg_ok_154 : pg_okM 154 = true := by decide +kernel
set_option maxRecDepth 100000 in
theorem pg_ok_155 : pg_okM 155 = true := by decide +kernel
set_option maxRecDepth 100000 in
theorem pg_ok_156 : pg_okM 156 = true := by decide +kernel
set_option maxRecDepth 100000 in
theorem pg_ok_157 : pg_okM 157 = true := by decide +kernel
set_option maxRecDepth 100000 in
theorem pg_ok_158 : pg_okM 158 = true := by decide +kernel
set_option maxRecDepth 100000 in
theorem pg_ok_159 : pg_okM 159 = true := by decide +kernel
set_option maxRecDepth 100000 in
theorem pg_ok_160 : pg_okM 160 = true := by decide +kernel
set_option maxRecDepth 100000 in
theorem pg_ok_161 : pg_okM 161 = true := by decide +kernel
set_option maxRecDepth 100000 in
theorem pg_ok_162 : pg_okM 162 = true := by decide +kernel
set_option maxRecDepth 100000 in
theorem pg_ok_163 : pg_okM 163 = true := by decide +kernel
set_option maxRecDepth 100000 in
theorem pg_ok_164 : pg_okM 164 = true := by decide +kernel
set_option maxRecDepth 100000 in
theorem pg_ok_165 : pg_okM 165 = true := by decide +kernel
set_option maxRecDepth 100000 in
theorem pg_ok_166 : pg_okM 166 = true := by decide +kernel
set_option maxRecDepth 100000 in
theorem pg_ok_167 : pg_okM 167 = true := by decide +kernel
set_option maxRecDepth 100000 in
theorem pg_ok_168 : pg_okM 168 = true := by decide +kernel
set_option maxRecDepth 100000 in
theorem pg_ok_169 : pg_okM 169 = true := by decide +kernel
set_option maxRecDepth 100000 in
theorem pg_ok_170 : pg_okM 170 = true := by decide +kernel
set_option maxRecDepth 100000 in
theorem pg_ok_171 : pg_okM 171 = true := by decide +kernel
set_option maxRecDepth 100000 in
theorem pg_ok_172 : pg_okM 172 = true := by decide +kernel
set_option maxRecDepth 100000 in
theorem pg_ok_173 : pg_okM 173 = true := by decide +kernel
set_option maxRecDepth 100000 in
theorem pg_ok_174 : pg_okM 174 = true := by decide +kernel
set_option maxRecDepth 100000 in
theorem pg_ok_175 : pg_okM 175 = true := by decide +kernel
set_option maxRecDepth 100000 in
theorem pg_ok_176 : pg_okM 176 = true := by decide +kernel
set_option maxRecDepth 100000 in
theorem pg_ok_177 : pg_okM 177 = true := by decide +kernel
set_option maxRecDepth 100000 in
theorem pg_ok_178 : pg_okM 178 = true := by decide +kernel
end
section
/-! the law's own blocks, 0 -/
set_option maxRecDepth 100000 in
theorem pg_lw_0 : (((pg_bs 179).drop 0).take 32).all (fun q => pg_okL 179 q.1 q.2) = true := by decide +kernel
end
section
/-! the law's own blocks, 1 -/
set_option maxRecDepth 100000 in
theorem pg_lw_1 : (((pg_bs 179).drop 32).take 32).all (fun q => pg_okL 179 q.1 q.2) = true := by decide +kernel
end
section
/-! the law's own blocks, 2 -/
set_option maxRecDepth 100000 in
theorem pg_lw_2 : (((pg_bs 179).drop 64).take 32).all (fun q => pg_okL 179 q.1 q.2) = true := by decide +kernel
end
section
/-! the law's own blocks, 3 -/
set_option maxRecDepth 100000 in
theorem pg_lw_3 : (((pg_bs 179).drop 96).take 32).all (fun q => pg_okL 179 q.1 q.2) = true := by decide +kernel
end
section
/-! the law's own blocks, 4 -/
set_option maxRecDepth 100000 in
theorem pg_lw_4 : (((pg_bs 179).drop 128).take 32).all (fun q => pg_okL 179 q.1 q.2) = true := by decide +kernel
end
section
/-! all of them -/
theorem pg_all_td {α : Type} {l : List α} {f : α → Bool} (n : Nat) (h1 : (l.take n).all f = true) (h2 : (l.drop n).all f = true) : l.all f = true := by
  rw [← List.take_append_drop n l, List.all_append, h1, h2]; rfl
theorem pg_lr_4 : ((pg_bs 179).drop 128).all (fun q => pg_okL 179 q.1 q.2) = true := pg_all_td 32 pg_lw_4 (by rw [List.drop_drop]; exact rfl)
theorem pg_lr_3 : ((pg_bs 179).drop 96).all (fun q => pg_okL 179 q.1 q.2) = true := pg_all_td 32 pg_lw_3 (by rw [List.drop_drop]; exact pg_lr_4)
theorem pg_lr_2 : ((pg_bs 179).drop 64).all (fun q => pg_okL 179 q.1 q.2) = true := pg_all_td 32 pg_lw_2 (by rw [List.drop_drop]; exact pg_lr_3)
theorem pg_lr_1 : ((pg_bs 179).drop 32).all (fun q => pg_okL 179 q.1 q.2) = true := pg_all_td 32 pg_lw_1 (by rw [List.drop_drop]; exact pg_lr_2)
theorem pg_ok_179 : pg_okM 179 = true := pg_all_td 32 (show ((pg_bs 179).take 32).all (fun q => pg_okL 179 q.1 q.2) = true from pg_lw_0) pg_lr_1
theorem pg_ok_all : ∀ z, z < 180 → pg_okM z = true := by
  intro z hz
  match z, hz with
  | 0, _ => exact pg_ok_0
  | 1, _ => exact pg_ok_1
  | 2, _ => exact pg_ok_2
  | 3, _ => exact pg_ok_3
  | 4, _ => exact pg_ok_4
  | 5, _ => exact pg_ok_5
  | 6, _ => exact pg_ok_6
  | 7, _ => exact pg_ok_7
  | 8, _ => exact pg_ok_8
  | 9, _ => exact pg_ok_9
  | 10, _ => exact pg_ok_10
  | 11, _ => exact pg_ok_11
  | 12, _ => exact pg_ok_12
  | 13, _ => exact pg_ok_13
  | 14, _ => exact pg_ok_14
  | 15, _ => exact pg_ok_15
  | 16, _ => exact pg_ok_16
  | 17, _ => exact pg_ok_17
  | 18, _ => exact pg_ok_18
  | 19, _ => exact pg_ok_19
  | 20, _ => exact pg_ok_20
  | 21, _ => exact pg_ok_21
  | 22, _ => exact pg_ok_22
  | 23, _ => exact pg_ok_23
  | 24, _ => exact pg_ok_24
  | 25, _ => exact pg_ok_25
  | 26, _ => exact pg_ok_26
  | 27, _ => exact pg_ok_27
  | 28, _ => exact pg_ok_28
  | 29, _ => exact pg_ok_29
  | 30, _ => exact pg_ok_30
  | 31, _ => exact pg_ok_31
  | 32, _ => exact pg_ok_32
  | 33, _ => exact pg_ok_33
  | 34, _ => exact pg_ok_34
  | 35, _ => exact pg_ok_35
  | 36, _ => exact pg_ok_36
  | 37, _ => exact pg_ok_37
  | 38, _ => exact pg_ok_38
  | 39, _ => exact pg_ok_39
  | 40, _ => exact pg_ok_40
  | 41, _ => exact pg_ok_41
  | 42, _ => exact pg_ok_42
  | 43, _ => exact pg_ok_43
  | 44, _ => exact pg_ok_44
  | 45, _ => exact pg_ok_45
  | 46, _ => exact pg_ok_46
  | 47, _ => exact pg_ok_47
  | 48, _ => exact pg_ok_48
  | 49, _ => exact pg_ok_49
  | 50, _ => exact pg_ok_50
  | 51, _ => exact pg_ok_51
  | 52, _ => exact pg_ok_52
  | 53, _ => exact pg_ok_53
  | 54, _ => exact pg_ok_54
  | 55, _ => exact pg_ok_55
  | 56, _ => exact pg_ok_56
  | 57, _ => exact pg_ok_57
  | 58, _ => exact pg_ok_58
  | 59, _ => exact pg_ok_59
  | 60, _ => exact pg_ok_60
  | 61, _ => exact pg_ok_61
  | 62, _ => exact pg_ok_62
  | 63, _ => exact pg_ok_63
  | 64, _ => exact pg_ok_64
  | 65, _ => exact pg_ok_65
  | 66, _ => exact pg_ok_66
  | 67, _ => exact pg_ok_67
  | 68, _ => exact pg_ok_68
  | 69, _ => exact pg_ok_69
  | 70, _ => exact pg_ok_70
  | 71, _ => exact pg_ok_71
  | 72, _ => exact pg_ok_72
  | 73, _ => exact pg_ok_73
  | 74, _ => exact pg_ok_74
  | 75, _ => exact pg_ok_75
  | 76, _ => exact pg_ok_76
  | 77, _ => exact pg_ok_77
  | 78, _ => exact pg_ok_78
  | 79, _ => exact pg_ok_79
  | 80, _ => exact pg_ok_80
  | 81, _ => exact pg_ok_81
  | 82, _ => exact pg_ok_82
  | 83, _ => exact pg_ok_83
  | 84, _ => exact pg_ok_84
  | 85, _ => exact pg_ok_85
  | 86, _ => exact pg_ok_86
  | 87, _ => exact pg_ok_87
  | 88, _ => exact pg_ok_88
  | 89, _ => exact pg_ok_89
  | 90, _ => exact pg_ok_90
  | 91, _ => exact pg_ok_91
  | 92, _ => exact pg_ok_92
  | 93, _ => exact pg_ok_93
  | 94, _ => exact pg_ok_94
  | 95, _ => exact pg_ok_95
  | 96, _ => exact pg_ok_96
  | 97, _ => exact pg_ok_97
  | 98, _ => exact pg_ok_98
  | 99, _ => exact pg_ok_99
  | 100, _ => exact pg_ok_100
  | 101, _ => exact pg_ok_101
  | 102, _ => exact pg_ok_102
  | 103, _ => exact pg_ok_103
  | 104, _ => exact pg_ok_104
  | 105, _ => exact pg_ok_105
  | 106, _ => exact pg_ok_106
  | 107, _ => exact pg_ok_107
  | 108, _ => exact pg_ok_108
  | 109, _ => exact pg_ok_109
  | 110, _ => exact pg_ok_110
  | 111, _ => exact pg_ok_111
  | 112, _ => exact pg_ok_112
  | 113, _ => exact pg_ok_113
  | 114, _ => exact pg_ok_114
  | 115, _ => exact pg_ok_115
  | 116, _ => exact pg_ok_116
  | 117, _ => exact pg_ok_117
  | 118, _ => exact pg_ok_118
  | 119, _ => exact pg_ok_119
  | 120, _ => exact pg_ok_120
  | 121, _ => exact pg_ok_121
  | 122, _ => exact pg_ok_122
  | 123, _ => exact pg_ok_123
  | 124, _ => exact pg_ok_124
  | 125, _ => exact pg_ok_125
  | 126, _ => exact pg_ok_126
  | 127, _ => exact pg_ok_127
  | 128, _ => exact pg_ok_128
  | 129, _ => exact pg_ok_129
  | 130, _ => exact pg_ok_130
  | 131, _ => exact pg_ok_131
  | 132, _ => exact pg_ok_132
  | 133, _ => exact pg_ok_133
  | 134, _ => exact pg_ok_134
  | 135, _ => exact pg_ok_135
  | 136, _ => exact pg_ok_136
  | 137, _ => exact pg_ok_137
  | 138, _ => exact pg_ok_138
  | 139, _ => exact pg_ok_139
  | 140, _ => exact pg_ok_140
  | 141, _ => exact pg_ok_141
  | 142, _ => exact pg_ok_142
  | 143, _ => exact pg_ok_143
  | 144, _ => exact pg_ok_144
  | 145, _ => exact pg_ok_145
  | 146, _ => exact pg_ok_146
  | 147, _ => exact pg_ok_147
  | 148, _ => exact pg_ok_148
  | 149, _ => exact pg_ok_149
  | 150, _ => exact pg_ok_150
  | 151, _ => exact pg_ok_151
  | 152, _ => exact pg_ok_152
  | 153, _ => exact pg_ok_153
  | 154, _ => exact pg_ok_154
  | 155, _ => exact pg_ok_155
  | 156, _ => exact pg_ok_156
  | 157, _ => exact pg_ok_157
  | 158, _ => exact pg_ok_158
  | 159, _ => exact pg_ok_159
  | 160, _ => exact pg_ok_160
  | 161, _ => exact pg_ok_161
  | 162, _ => exact pg_ok_162
  | 163, _ => exact pg_ok_163
  | 164, _ => exact pg_ok_164
  | 165, _ => exact pg_ok_165
  | 166, _ => exact pg_ok_166
  | 167, _ => exact pg_ok_167
  | 168, _ => exact pg_ok_168
  | 169, _ => exact pg_ok_169
  | 170, _ => exact pg_ok_170
  | 171, _ => exact pg_ok_171
  | 172, _ => exact pg_ok_172
  | 173, _ => exact pg_ok_173
  | 174, _ => exact pg_ok_174
  | 175, _ => exact pg_ok_175
  | 176, _ => exact pg_ok_176
  | 177, _ => exact pg_ok_177
  | 178, _ => exact pg_ok_178
  | 179, _ => exact pg_ok_179
  | z + 180, h => exact absurd h (by omega)
end
section
/-! HOW THE MACHINE'S HEAP HOLDS AN ABSTRACT STATE -/
/-- the kit's class numbers, the arrays' classes, the address below the first cell, the script's address -/
abbrev sm_G : Type := va_G × (Nat → ClassId) × Nat × Nat
abbrev sm_b (G : sm_G) : Nat := G.2.2.1
abbrev sm_sb (G : sm_G) : Nat := G.2.2.2
abbrev sm_A (G : sm_G) : Nat → Prop := fun q => sm_b G < q
def sm_tys (G : sm_G) : List (ClassId × FieldType) := [(G.2.1 0, .int), (G.2.1 1, .boolean), (G.2.1 2, .object "PersonLines$Life"), (G.2.1 3, .object "PersonLines$Image")]
def sm_o (G : sm_G) (k : Nat) : Option Nat := if k = 0 then none else some (sm_b G + k)
def sm_v (G : sm_G) (v : am_V) : Value := match v with
  | .inl x => .int (Int32.ofInt x)
  | .inr (.inl x) => .long (Int64.ofInt x)
  | .inr (.inr (.inl k)) => va_rf (sm_o G k)
  | .inr (.inr (.inr _)) => .ref (sm_sb G)
def sm_f (G : sm_G) (S : am_S) (M : am_M) (c k : Nat) : List Value := (List.range (pg_nf c)).map (fun j => if pg_isr c j = true then va_rf (sm_o G (am_rf S k (j : Int))) else .int (Int32.ofInt (M k (j : Int))))
def sm_e (G : sm_G) (S : am_S) (M : am_M) (k : Nat) : va_E :=
  if (am_kd S k).1 = 4 then .inr ((am_kd S k).2, sm_f G S M (am_kd S k).2 k)
  else if (am_kd S k).1 < 2 then .inl (G.2.1 (am_kd S k).1, (am_kd S k).2, .inl (fun j => Int32.ofInt (M k (j : Int))))
  else .inl (G.2.1 (am_kd S k).1, (am_kd S k).2, .inr (.inr (.inr (.inr (fun j => sm_o G (am_rf S k (j : Int)))))))
def sm_w (G : sm_G) (S : am_S) (M : am_M) : va_W := (List.range (am_n S)).map (fun k => (sm_b G + (k + 1), sm_e G S M (k + 1)))
theorem sm_o_pos {G : sm_G} {k : Nat} (h : 0 < k) : sm_o G k = some (sm_b G + k) := by unfold sm_o; rw [if_neg (by omega)]
theorem sm_v_r {G : sm_G} {k : Nat} (h : 0 < k) : sm_v G (am_r k) = .ref (sm_b G + k) := by show va_rf (sm_o G k) = _; rw [sm_o_pos h]; rfl
theorem sm_kd_in {S : am_S} {k : Nat} (h : (am_kd S k).1 ≠ 9) : 0 < k ∧ k ≤ am_n S := by
  unfold am_kd at h
  by_cases hk : 0 < k ∧ k ≤ S.2.1.1
  · exact hk
  · rw [if_neg hk] at h; exact absurd rfl h
theorem sm_w_len (G : sm_G) (S : am_S) (M : am_M) : (sm_w G S M).length = am_n S := by simp [sm_w]
theorem sm_w_get {G : sm_G} {S : am_S} {M : am_M} {k : Nat} (h : 0 < k ∧ k ≤ am_n S) : (sm_w G S M)[k - 1]? = some (sm_b G + k, sm_e G S M k) := by
  have h1 : k - 1 < am_n S := by omega
  have h2 : k - 1 + 1 = k := by omega
  simp [sm_w, h1, h2]
theorem sm_w_inv {G : sm_G} {S : am_S} {M : am_M} {i : Nat} {q : Nat × va_E} (h : (sm_w G S M)[i]? = some q) : i < am_n S ∧ q = (sm_b G + (i + 1), sm_e G S M (i + 1)) := by
  have h1 := (List.getElem?_eq_some_iff.mp h).1
  rw [sm_w_len] at h1
  have h2 := sm_w_get (G := G) (S := S) (M := M) (k := i + 1) ⟨by omega, by omega⟩
  rw [show i + 1 - 1 = i by omega, h] at h2
  exact ⟨h1, Option.some.inj h2⟩
theorem sm_D (G : sm_G) (S : am_S) (M : am_M) : va_D (sm_A G) (sm_w G S M) := by
  refine ⟨fun i j x y hi hj hxy => ?_, fun k q hk => ?_⟩
  · obtain ⟨-, rfl⟩ := sm_w_inv hi
    obtain ⟨-, rfl⟩ := sm_w_inv hj
    have : sm_b G + (i + 1) = sm_b G + (j + 1) := hxy
    omega
  · obtain ⟨-, rfl⟩ := sm_w_inv hk
    show sm_b G < sm_b G + (k + 1)
    omega
theorem sm_w_set {G : sm_G} {S S' : am_S} {M M' : am_M} {k : Nat} (hn : am_n S' = am_n S) (hk : 0 < k ∧ k ≤ am_n S) (ho : ∀ j, j ≠ k → sm_e G S' M' j = sm_e G S M j) : (sm_w G S M).set (k - 1) (sm_b G + k, sm_e G S' M' k) = sm_w G S' M' := by
  apply List.ext_getElem?
  intro i
  by_cases hi : i < am_n S
  · have g1 := sm_w_get (G := G) (S := S') (M := M') (k := i + 1) ⟨by omega, by omega⟩
    rw [show i + 1 - 1 = i by omega] at g1
    rw [g1]
    by_cases hik : i = k - 1
    · rw [hik, List.getElem?_set_self (by rw [sm_w_len]; omega), show k - 1 + 1 = k by omega]
    · rw [List.getElem?_set_ne (fun h => hik h.symm)]
      have g2 := sm_w_get (G := G) (S := S) (M := M) (k := i + 1) ⟨by omega, by omega⟩
      rw [show i + 1 - 1 = i by omega] at g2
      rw [g2, ho (i + 1) (by omega)]
  · rw [List.getElem?_eq_none (by rw [List.length_set, sm_w_len]; omega), List.getElem?_eq_none (by rw [sm_w_len]; omega)]
theorem sm_kd_wr (S : am_S) (M : am_M) {k j : Nat} {i v : Int} {G : sm_G} (h : j ≠ k) : sm_e G S (am_wr M k i v) j = sm_e G S M j := by
  have e : ∀ x : Int, am_wr M k i v j x = M j x := fun x => by unfold am_wr; rw [if_neg (fun q => h q.1)]
  unfold sm_e sm_f
  simp only [e]
theorem sm_e_cp (S : am_S) (M : am_M) {a d j : Nat} {sp dp n : Int} {G : sm_G} (h : j ≠ d) : sm_e G S (am_cp M a sp d dp n) j = sm_e G S M j := by
  have e : ∀ x : Int, am_cp M a sp d dp n j x = M j x := fun x => by unfold am_cp; rw [if_neg (fun q => h q.1)]
  unfold sm_e sm_f
  simp only [e]
theorem sm_kd_set (S : am_S) (k : Nat) (i : Int) (v j : Nat) : am_kd (am_set S k i v) j = am_kd S j := rfl
theorem sm_e_set (S : am_S) (M : am_M) {k j v : Nat} {i : Int} {G : sm_G} (h : j ≠ k) : sm_e G (am_set S k i v) M j = sm_e G S M j := by
  have e : ∀ x : Int, am_rf (am_set S k i v) j x = am_rf S j x := fun x => by unfold am_rf am_set; exact if_neg (fun q => h q.1)
  unfold sm_e sm_f
  simp only [e, sm_kd_set]
theorem sm_e_int {G : sm_G} {S : am_S} {M : am_M} {k : Nat} {t : Nat} (h : (am_kd S k).1 = t) (ht : t < 2) : sm_e G S M k = .inl (G.2.1 t, (am_kd S k).2, .inl (fun j => Int32.ofInt (M k (j : Int)))) := by
  unfold sm_e
  rw [if_neg (by omega), if_pos (by omega), h]
theorem sm_e_ref {G : sm_G} {S : am_S} {M : am_M} {k : Nat} {t : Nat} (h : (am_kd S k).1 = t) (ht : t = 2 ∨ t = 3) : sm_e G S M k = .inl (G.2.1 t, (am_kd S k).2, .inr (.inr (.inr (.inr (fun j => sm_o G (am_rf S k (j : Int))))))) := by
  unfold sm_e
  rw [if_neg (by omega), if_neg (by omega), h]
theorem sm_e_obj {G : sm_G} {S : am_S} {M : am_M} {k c : Nat} (h : am_kd S k = (4, c)) : sm_e G S M k = .inr (c, sm_f G S M c k) := by
  unfold sm_e
  rw [h, if_pos rfl]
theorem sm_f_len (G : sm_G) (S : am_S) (M : am_M) (c k : Nat) : (sm_f G S M c k).length = pg_nf c := by simp [sm_f]
theorem sm_f_get {G : sm_G} {S : am_S} {M : am_M} {c k j : Nat} (h : j < pg_nf c) : (sm_f G S M c k)[j]? = some (if pg_isr c j = true then va_rf (sm_o G (am_rf S k (j : Int))) else .int (Int32.ofInt (M k (j : Int)))) := by
  simp [sm_f, h]
theorem sm_f_wr {G : sm_G} {S : am_S} {M : am_M} {c k b : Nat} {x : Int} (h : b < pg_nf c) (hr : ¬ pg_isr c b = true) : (sm_f G S M c k).set b (.int (Int32.ofInt x)) = sm_f G S (am_wr M k (b : Int) x) c k := by
  apply List.ext_getElem?
  intro i
  by_cases hi : i < pg_nf c
  · rw [sm_f_get hi]
    by_cases hib : i = b
    · subst hib
      rw [List.getElem?_set_self (by rw [sm_f_len]; exact hi), if_neg hr]
      unfold am_wr
      rw [if_pos ⟨rfl, rfl⟩]
    · rw [List.getElem?_set_ne (fun h => hib h.symm), sm_f_get hi]
      have e : am_wr M k (b : Int) x k (i : Int) = M k (i : Int) := by unfold am_wr; rw [if_neg (fun q => hib (by have := q.2; omega))]
      rw [e]
  · rw [List.getElem?_eq_none (by rw [List.length_set, sm_f_len]; omega), List.getElem?_eq_none (by rw [sm_f_len]; omega)]
theorem sm_f_sr {G : sm_G} {S : am_S} {M : am_M} {c k b x : Nat} (h : b < pg_nf c) (hr : pg_isr c b = true) : (sm_f G S M c k).set b (va_rf (sm_o G x)) = sm_f G (am_set S k (b : Int) x) M c k := by
  apply List.ext_getElem?
  intro i
  by_cases hi : i < pg_nf c
  · rw [sm_f_get hi]
    by_cases hib : i = b
    · subst hib
      rw [List.getElem?_set_self (by rw [sm_f_len]; exact hi), if_pos hr]
      have e : am_rf (am_set S k (i : Int) x) k (i : Int) = x := by unfold am_rf am_set; exact if_pos ⟨rfl, rfl⟩
      rw [e]
    · rw [List.getElem?_set_ne (fun h => hib h.symm), sm_f_get hi]
      have e : am_rf (am_set S k (b : Int) x) k (i : Int) = am_rf S k (i : Int) := by unfold am_rf am_set; exact if_neg (fun q => hib (by have := q.2; omega))
      rw [e]
  · rw [List.getElem?_eq_none (by rw [List.length_set, sm_f_len]; omega), List.getElem?_eq_none (by rw [sm_f_len]; omega)]
/-! numbers -/
theorem sm_ti {x : Int} (h : am_Ri x) : (Int32.ofInt x).toInt = x := Int32.toInt_ofInt_of_le (by have := h.1; omega) (by have := h.2; omega)
theorem sm_tl {x : Int} (h : am_Rl x) : (Int64.ofInt x).toInt = x := Int64.toInt_ofInt_of_le (by have := h.1; omega) (by have := h.2; omega)
theorem sm_le {x y : Int} (hx : am_Ri x) (hy : am_Ri y) : Int32.ofInt x ≤ Int32.ofInt y ↔ x ≤ y := by rw [Int32.le_iff_toInt_le, sm_ti hx, sm_ti hy]
theorem sm_lt {x y : Int} (hx : am_Ri x) (hy : am_Ri y) : Int32.ofInt x < Int32.ofInt y ↔ x < y := by rw [Int32.lt_iff_toInt_lt, sm_ti hx, sm_ti hy]
theorem sm_eq {x y : Int} (hx : am_Ri x) (hy : am_Ri y) : Int32.ofInt x = Int32.ofInt y ↔ x = y := by rw [← Int32.toInt_inj, sm_ti hx, sm_ti hy]
theorem sm_z : Int32.ofInt 0 = 0 := rfl
theorem sm_R0 : am_Ri 0 := ⟨by omega, by omega⟩
theorem sm_cl {i : Int} (h : 0 ≤ i) (h2 : i ≤ 2147483647) : (Int32.ofInt i).toNatClampNeg = i.toNat := by
  rw [← Int32.toNat_toInt, sm_ti ⟨by omega, h2⟩]
theorem sm_in {i : Int} {n : Nat} (h : 0 ≤ i) (h2 : i < (n : Int)) (h3 : i ≤ 2147483647) : vp_in (Int32.ofInt i) n := by
  rw [vp_in_iff, sm_ti ⟨by omega, h3⟩]
  exact ⟨h, h2⟩
theorem sm_n0 {i : Int} (h : 0 ≤ i) (h2 : i ≤ 2147483647) : ¬ Int32.ofInt i < 0 := by
  rw [← sm_z, sm_lt ⟨by omega, h2⟩ sm_R0]; omega
end
section
/-! locals -/
def sm_L (G : sm_G) (z : Nat) (ls : am_L) (A : Array Slot) : Prop := A.size = pg_mx z ∧ lv_wf A ∧ ∀ (i : Nat) (v : am_V), ls[i]? = some (some v) → A[i]? = some (.val (sm_v G v)) ∧ ((sm_v G v).category = 2 → i ∈ pg_lg z)
def sm_al (G : sm_G) (ls : am_L) : List (Nat × Value) := (List.range ls.length).filterMap (fun i => match ls[i]? with
  | some (some v) => some (i, sm_v G v)
  | _ => none)
theorem sm_al_of {G : sm_G} {ls : am_L} {i : Nat} {v : am_V} (h : ls[i]? = some (some v)) : (i, sm_v G v) ∈ sm_al G ls := by
  unfold sm_al
  rw [List.mem_filterMap]
  refine ⟨i, List.mem_range.mpr (List.getElem?_eq_some_iff.mp h).1, ?_⟩
  rw [h]
theorem sm_al_ex {G : sm_G} {ls : am_L} {q : Nat × Value} (h : q ∈ sm_al G ls) : ∃ v, ls[q.1]? = some (some v) ∧ q.2 = sm_v G v := by
  unfold sm_al at h
  obtain ⟨i, -, h2⟩ := List.mem_filterMap.mp h
  cases hl : ls[i]? with
  | none => rw [hl] at h2; cases h2
  | some o =>
    cases o with
    | none => rw [hl] at h2; cases h2
    | some v =>
      rw [hl] at h2
      cases h2
      exact ⟨v, hl, rfl⟩
theorem sm_has {G : sm_G} {z : Nat} {ls : am_L} {A : Array Slot} (h : sm_L G z ls A) : lv_has A (pg_mx z) (sm_al G ls) := by
  refine ⟨h.1, h.2.1, fun q hq => ?_⟩
  obtain ⟨v, h1, h2⟩ := sm_al_ex hq
  rw [h2]
  exact (h.2.2 _ _ h1).1
theorem sm_s1 {z a : Nat} (h : pg_s1 z a = true) : a < pg_mx z ∧ a ∉ pg_lg z ∧ (a = 0 ∨ a - 1 ∉ pg_lg z) := by
  unfold pg_s1 at h
  simp only [Bool.and_eq_true, decide_eq_true_eq, Bool.or_eq_true, Bool.not_eq_true', List.contains_eq_mem, decide_eq_false_iff_not] at h
  exact ⟨h.1.1, h.1.2, h.2⟩
theorem sm_st1 {G : sm_G} {z a : Nat} {ls : am_L} {A A' : Array Slot} {v : am_V} (h : sm_L G z ls A) (hs : pg_s1 z a = true) (hc : (sm_v G v).category = 1)
    (h' : lv_has A' (pg_mx z) ((a, sm_v G v) :: (sm_al G ls).filter (fun q => !(q.1 == a) && !(q.1 + 1 == a && q.2.category == 2)))) : sm_L G z (ls.set a (some v)) A' := by
  obtain ⟨-, -, s3⟩ := sm_s1 hs
  refine ⟨h'.1, h'.2.1, fun i w hi => ?_⟩
  by_cases hia : i = a
  · subst hia
    have hl : i < ls.length := by
      have := (List.getElem?_eq_some_iff.mp hi).1
      rwa [List.length_set] at this
    rw [List.getElem?_set_self hl] at hi
    cases hi
    exact ⟨h'.2.2 (i, sm_v G v) List.mem_cons_self, fun q => by omega⟩
  · rw [List.getElem?_set_ne (fun q => hia q.symm)] at hi
    obtain ⟨h1, h2⟩ := h.2.2 i w hi
    refine ⟨h'.2.2 (i, sm_v G w) (List.mem_cons_of_mem _ (List.mem_filter.mpr ⟨sm_al_of hi, ?_⟩)), h2⟩
    simp only [Bool.and_eq_true, Bool.not_eq_true', beq_eq_false_iff_ne, ne_eq, Bool.and_eq_false_iff]
    refine ⟨hia, ?_⟩
    by_cases hc2 : (sm_v G w).category = 2
    · refine Or.inl (fun q => ?_)
      have q : i + 1 = a := q
      have := h2 hc2
      rcases s3 with s3 | s3
      · omega
      · exact s3 (by rw [← q]; exact this)
    · exact Or.inr hc2
theorem sm_st2 {G : sm_G} {z a : Nat} {ls : am_L} {A A' : Array Slot} {x : Int} (h : sm_L G z ls A) (ha : a ∈ pg_lg z) (s3 : a = 0 ∨ a - 1 ∉ pg_lg z)
    (h' : lv_has A' (pg_mx z) ((a, Value.long (Int64.ofInt x)) :: (sm_al G ls).filter (fun q => !(q.1 == a) && (!(q.1 == a + 1) && !(q.1 + 1 == a && q.2.category == 2))))) : sm_L G z ((ls.set a (some (am_l x))).set (a + 1) none) A' := by
  refine ⟨h'.1, h'.2.1, fun i w hi => ?_⟩
  by_cases hi1 : i = a + 1
  · subst hi1
    have hl : a + 1 < (ls.set a (some (am_l x))).length := by
      have := (List.getElem?_eq_some_iff.mp hi).1
      rwa [List.length_set] at this
    rw [List.getElem?_set_self hl] at hi
    cases hi
  · rw [List.getElem?_set_ne (fun q => hi1 q.symm)] at hi
    by_cases hia : i = a
    · subst hia
      have hl : i < ls.length := by
        have := (List.getElem?_eq_some_iff.mp hi).1
        rwa [List.length_set] at this
      rw [List.getElem?_set_self hl] at hi
      cases hi
      exact ⟨h'.2.2 (i, Value.long (Int64.ofInt x)) List.mem_cons_self, fun _ => ha⟩
    · rw [List.getElem?_set_ne (fun q => hia q.symm)] at hi
      obtain ⟨h1, h2⟩ := h.2.2 i w hi
      refine ⟨h'.2.2 (i, sm_v G w) (List.mem_cons_of_mem _ (List.mem_filter.mpr ⟨sm_al_of hi, ?_⟩)), h2⟩
      simp only [Bool.and_eq_true, Bool.not_eq_true', beq_eq_false_iff_ne, ne_eq, Bool.and_eq_false_iff]
      refine ⟨hia, hi1, ?_⟩
      by_cases hc2 : (sm_v G w).category = 2
      · refine Or.inl (fun q => ?_)
        have q : i + 1 = a := q
        have := h2 hc2
        rcases s3 with s3 | s3
        · omega
        · exact s3 (by rw [← q]; exact this)
      · exact Or.inr hc2
/-! what holds of the tables, through a run -/
def sm_K (G : sm_G) (U : State) : Prop := (∀ w ∈ lw_tbl, pg_gw w = true → ∀ a : Array Value, w.before a U = true) ∧ va_AO "PersonLines$Life" U ∧ va_AO "PersonLines$Image" U ∧ va_K G.1 pg_cls (sm_tys G) U
theorem sm_gw_moved {w : Cond} (hg : pg_gw w = true) {s U : State} (hW : s.WarmedH U.vm) {a a' : Array Value} (h : w.before a s = true) : w.before a' U = true := by
  by_cases hn : ∃ c i y q, w = .methodLinkNest c i y q
  · obtain ⟨c, i, y, q, rfl⟩ := hn
    exact va_Nw.use rfl (va_Nw.warmM hW (va_Nw.of rfl h))
  · have hgw : goodWord w = true := by
      unfold pg_gw at hg
      split at hg
      · rename_i c i y q
        exact absurd ⟨c, i, y, q, rfl⟩ hn
      · exact hg
    exact word_at hW (good_of_word hgw) h
theorem sm_K_moved {G : sm_G} {s U : State} (hW : s.WarmedH U.vm) (h : sm_K G s) : sm_K G U :=
  ⟨fun w hw hg a => sm_gw_moved hg hW (h.1 w hw hg #[]), h.2.1.moved hW.alike, h.2.2.1.moved hW.alike, h.2.2.2.moved hW.alike⟩
def sm_X (G : sm_G) (S : am_S) (U : State) (H : Heap) : Prop := va_X (sm_sb G) (am_sn S) (fun j => Int32.ofInt (am_sx S (j : Int))) U H ∧ sm_sb G ≤ sm_b G
/-- what holds of a method while it runs -/
def sm_C (p : Program) (R : Room) (s : State) (m : MethodId) (meth : Method) (c : Code) (G : sm_G) (z : Nat) (S0 : am_S) (Fin : am_Z) : Prop :=
  p.tables.exec = Jvm.exec ∧ c.code = pg_c z ∧ c.maxLocals = pg_mx z ∧ s.vm.findClass (pg_cn (pg_oc z)) = some m.cls ∧ ((pg_y z).name = "<init>" → meth.name = "<init>") ∧ sm_K G s ∧ s.heap.size = sm_b G + am_n S0 + 1 ∧ (pg_ht z ≤ R.frames ∧ 30 * pg_ht z ≤ R.locals) ∧ (am_n Fin.2.1 - am_n S0 ≤ R.cells ∧ am_sl Fin.2.1 - am_sl S0 ≤ R.slots) ∧ z < 180 ∧ sm_X G S0 s s.heap
/-- the heap and the locals hold the abstract state -/
def sm_St (s : State) (G : sm_G) (z : Nat) (S0 : am_S) (ls : am_L) (S : am_S) (M : am_M) (H : Heap) (locs : List Loc) (A : Array Slot) : Prop :=
  va_P G.1 pg_cls (sm_w G S M) H ∧ H.size = sm_b G + am_n S + 1 ∧ va_S (sm_A G) s.heap H locs ∧ sm_L G z ls A ∧ am_n S0 ≤ am_n S ∧ am_sl S0 ≤ am_sl S ∧ S.1 = S0.1
/-- from there the machine comes to Q -/
def sm_W (p : Program) (l : Launch) (e : Env) (R : Room) (s : State) (m : MethodId) (args : Array Value) (below : List Frame) (meth : Method) (c : Code) (Q : State → Prop) (G : sm_G) (z : Nat) (S0 : am_S) (pc : Nat) (ls : am_L) (st : am_K) (S : am_S) (M : am_M) : Prop :=
  ∀ (H : Heap) (locs : List Loc) (A : Array Slot), sm_St s G z S0 ls S M H locs A → W p l e R s m args below meth c H locs (am_n S - am_n S0) (am_sl S - am_sl S0) Q (F0 m pc A (st.map (sm_v G)))
section SM1
variable {p : Program} {l : Launch} {e : Env} {R : Room} {s : State} {m : MethodId} {args : Array Value} {below : List Frame} {meth : Method} {c : Code} {Q : State → Prop} {G : sm_G} {z : Nat} {S0 : am_S} {Fin : am_Z} {pc : Nat} {ls : am_L} {st : am_K} {S : am_S} {M : am_M}
theorem sm_tb (C : sm_C p R s m meth c G z S0 Fin) {w : Cond} (hw : w ∈ lw_tbl) (hg : pg_gw w = true) : w.before args s = true := C.2.2.2.2.2.1.1 w hw hg args
theorem sm_iconst (C : sm_C p R s m meth c G z S0 Fin) {k v : Int} (hd : decode (pg_c z) pc = .ok (.iconst k, 1)) (hv : k = v) (kk : sm_W p l e R s m args below meth c Q G z S0 (pc + 1) ls (am_i v :: st) S M) : sm_W p l e R s m args below meth c Q G z S0 pc ls st S M := by
  intro H locs A hs
  subst hv
  exact lv_iconst C.1 C.2.1 hd rfl (kk H locs A hs)
theorem sm_bipush (C : sm_C p R s m meth c G z S0 Fin) {k v : Int} (hd : decode (pg_c z) pc = .ok (.bipush k, 2)) (hv : (Int8.ofInt k).toInt32 = Int32.ofInt v) (kk : sm_W p l e R s m args below meth c Q G z S0 (pc + 2) ls (am_i v :: st) S M) : sm_W p l e R s m args below meth c Q G z S0 pc ls st S M := by
  intro H locs A hs
  exact lv_bipush C.1 C.2.1 hd hv (kk H locs A hs)
theorem sm_sipush (C : sm_C p R s m meth c G z S0 Fin) {k v : Int} (hd : decode (pg_c z) pc = .ok (.sipush k, 3)) (hv : (Int16.ofInt k).toInt32 = Int32.ofInt v) (kk : sm_W p l e R s m args below meth c Q G z S0 (pc + 3) ls (am_i v :: st) S M) : sm_W p l e R s m args below meth c Q G z S0 pc ls st S M := by
  intro H locs A hs
  exact lv_sipush C.1 C.2.1 hd hv (kk H locs A hs)
theorem sm_ldc (C : sm_C p R s m meth c G z S0 Fin) {k : Nat} {v : Int} (hd : decode (pg_c z) pc = .ok (.ldc k, 2)) (hv : pg_kl.any (fun q => decide (q.1 = (pg_oc z, k, v))) = true) (kk : sm_W p l e R s m args below meth c Q G z S0 (pc + 2) ls (am_i v :: st) S M) : sm_W p l e R s m args below meth c Q G z S0 pc ls st S M := by
  intro H locs A hs
  exact lv_ldc C.1 C.2.1 C.2.2.2.1 (sm_tb C (pg_key pg_kl_ok hv) rfl) hd (kk H locs A hs)
theorem sm_ldcw (C : sm_C p R s m meth c G z S0 Fin) {k : Nat} {v : Int} (hd : decode (pg_c z) pc = .ok (.ldc_w k, 3)) (hv : pg_kl.any (fun q => decide (q.1 = (pg_oc z, k, v))) = true) (kk : sm_W p l e R s m args below meth c Q G z S0 (pc + 3) ls (am_i v :: st) S M) : sm_W p l e R s m args below meth c Q G z S0 pc ls st S M := by
  intro H locs A hs
  exact lv_ldcw C.1 C.2.1 C.2.2.2.1 (sm_tb C (pg_key pg_kl_ok hv) rfl) hd (kk H locs A hs)
theorem sm_ldc2 (C : sm_C p R s m meth c G z S0 Fin) {k : Nat} {v : Int} (hd : decode (pg_c z) pc = .ok (.ldc2_w k, 3)) (hv : pg_jl.any (fun q => decide (q.1 = (pg_oc z, k, v))) = true) (kk : sm_W p l e R s m args below meth c Q G z S0 (pc + 3) ls (am_l v :: st) S M) : sm_W p l e R s m args below meth c Q G z S0 pc ls st S M := by
  intro H locs A hs
  exact lv_ldc2 C.1 C.2.1 C.2.2.2.1 (sm_tb C (pg_key pg_jl_ok hv) rfl) hd (kk H locs A hs)
theorem sm_lconst (C : sm_C p R s m meth c G z S0 Fin) {k : _root_.Fin 2} {v : Int} (hd : decode (pg_c z) pc = .ok (.lconst k, 1)) (hv : ((k : Nat) : Int) = v) (kk : sm_W p l e R s m args below meth c Q G z S0 (pc + 1) ls (am_l v :: st) S M) : sm_W p l e R s m args below meth c Q G z S0 pc ls st S M := by
  intro H locs A hs
  subst hv
  exact lv_lconst C.1 C.2.1 hd (Int64.ofInt_eq_ofNat).symm (kk H locs A hs)
theorem sm_iload_n (C : sm_C p R s m meth c G z S0 Fin) {k : _root_.Fin 4} {a : Nat} {x : Int} (hd : decode (pg_c z) pc = .ok (.iload_n k, 1)) (hk : (k : Nat) = a) (hl : ls[a]? = some (some (am_i x))) (kk : sm_W p l e R s m args below meth c Q G z S0 (pc + 1) ls (am_i x :: st) S M) : sm_W p l e R s m args below meth c Q G z S0 pc ls st S M := by
  intro H locs A hs
  exact lv_iload_n C.1 C.2.1 hd hk (hs.2.2.2.1.2.2 _ _ hl).1 (kk H locs A hs)
theorem sm_iload (C : sm_C p R s m meth c G z S0 Fin) {k a : Nat} {x : Int} (hd : decode (pg_c z) pc = .ok (.iload k, 2)) (hk : k = a) (hl : ls[a]? = some (some (am_i x))) (kk : sm_W p l e R s m args below meth c Q G z S0 (pc + 2) ls (am_i x :: st) S M) : sm_W p l e R s m args below meth c Q G z S0 pc ls st S M := by
  intro H locs A hs
  subst hk
  exact lv_iload C.1 C.2.1 hd (hs.2.2.2.1.2.2 _ _ hl).1 (kk H locs A hs)
theorem sm_lload_n (C : sm_C p R s m meth c G z S0 Fin) {k : _root_.Fin 4} {a : Nat} {x : Int} (hd : decode (pg_c z) pc = .ok (.lload_n k, 1)) (hk : (k : Nat) = a) (hl : ls[a]? = some (some (am_l x))) (kk : sm_W p l e R s m args below meth c Q G z S0 (pc + 1) ls (am_l x :: st) S M) : sm_W p l e R s m args below meth c Q G z S0 pc ls st S M := by
  intro H locs A hs
  exact lv_lload_n C.1 C.2.1 hd hk (hs.2.2.2.1.2.2 _ _ hl).1 (kk H locs A hs)
theorem sm_lload (C : sm_C p R s m meth c G z S0 Fin) {k a : Nat} {x : Int} (hd : decode (pg_c z) pc = .ok (.lload k, 2)) (hk : k = a) (hl : ls[a]? = some (some (am_l x))) (kk : sm_W p l e R s m args below meth c Q G z S0 (pc + 2) ls (am_l x :: st) S M) : sm_W p l e R s m args below meth c Q G z S0 pc ls st S M := by
  intro H locs A hs
  subst hk
  exact lv_lload C.1 C.2.1 hd (hs.2.2.2.1.2.2 _ _ hl).1 (kk H locs A hs)
theorem sm_aload_n (C : sm_C p R s m meth c G z S0 Fin) {k : _root_.Fin 4} {a : Nat} {x : Nat ⊕ Unit} (hd : decode (pg_c z) pc = .ok (.aload_n k, 1)) (hk : (k : Nat) = a) (hl : ls[a]? = some (some (.inr (.inr x)))) (kk : sm_W p l e R s m args below meth c Q G z S0 (pc + 1) ls (.inr (.inr x) :: st) S M) : sm_W p l e R s m args below meth c Q G z S0 pc ls st S M := by
  intro H locs A hs
  have h1 := (hs.2.2.2.1.2.2 _ _ hl).1
  have k1 := kk H locs A hs
  cases x with
  | inr u => exact lv_aload_n C.1 C.2.1 hd hk h1 k1
  | inl k0 =>
    by_cases h0 : k0 = 0
    · subst h0
      exact lv_aload_nN C.1 C.2.1 hd hk h1 k1
    · have e : sm_v G (.inr (.inr (.inl k0))) = .ref (sm_b G + k0) := sm_v_r (by omega)
      rw [List.map_cons, e] at k1
      rw [e] at h1
      exact lv_aload_n C.1 C.2.1 hd hk h1 k1
theorem sm_istore_n (C : sm_C p R s m meth c G z S0 Fin) {k : _root_.Fin 4} {a : Nat} {x : Int} (hd : decode (pg_c z) pc = .ok (.istore_n k, 1)) (hk : (k : Nat) = a) (h1 : pg_s1 z a = true) (kk : sm_W p l e R s m args below meth c Q G z S0 (pc + 1) (ls.set a (some (am_i x))) st S M) : sm_W p l e R s m args below meth c Q G z S0 pc ls (am_i x :: st) S M := by
  intro H locs A hs
  exact lv_istore_n C.1 C.2.1 hd hk (sm_has hs.2.2.2.1) (sm_s1 h1).1 rfl (fun A' h' => kk H locs A' ⟨hs.1, hs.2.1, hs.2.2.1, sm_st1 (v := am_i x) hs.2.2.2.1 h1 rfl h', hs.2.2.2.2⟩)
theorem sm_istore (C : sm_C p R s m meth c G z S0 Fin) {k a : Nat} {x : Int} (hd : decode (pg_c z) pc = .ok (.istore k, 2)) (hk : k = a) (h1 : pg_s1 z a = true) (kk : sm_W p l e R s m args below meth c Q G z S0 (pc + 2) (ls.set a (some (am_i x))) st S M) : sm_W p l e R s m args below meth c Q G z S0 pc ls (am_i x :: st) S M := by
  intro H locs A hs
  subst hk
  exact lv_istore C.1 C.2.1 hd (sm_has hs.2.2.2.1) (sm_s1 h1).1 rfl (fun A' h' => kk H locs A' ⟨hs.1, hs.2.1, hs.2.2.1, sm_st1 (v := am_i x) hs.2.2.2.1 h1 rfl h', hs.2.2.2.2⟩)
theorem sm_astore_n (C : sm_C p R s m meth c G z S0 Fin) {k : _root_.Fin 4} {a x : Nat} (hx : 0 < x) (hd : decode (pg_c z) pc = .ok (.astore_n k, 1)) (hk : (k : Nat) = a) (h1 : pg_s1 z a = true) (kk : sm_W p l e R s m args below meth c Q G z S0 (pc + 1) (ls.set a (some (am_r x))) st S M) : sm_W p l e R s m args below meth c Q G z S0 pc ls (am_r x :: st) S M := by
  intro H locs A hs
  have e : sm_v G (am_r x) = .ref (sm_b G + x) := sm_v_r hx
  rw [List.map_cons, e]
  refine lv_astore_n C.1 C.2.1 hd hk (sm_has hs.2.2.2.1) (sm_s1 h1).1 rfl (fun A' h' => kk H locs A' ⟨hs.1, hs.2.1, hs.2.2.1, sm_st1 (v := am_r x) hs.2.2.2.1 h1 (by rw [e]; rfl) ?_, hs.2.2.2.2⟩)
  rw [e]; exact h'
theorem sm_lstore_n (C : sm_C p R s m meth c G z S0 Fin) {k : _root_.Fin 4} {a : Nat} {x : Int} (hd : decode (pg_c z) pc = .ok (.lstore_n k, 1)) (hk : (k : Nat) = a) (ha : a + 1 < pg_mx z) (h1 : a ∈ pg_lg z) (h2 : a = 0 ∨ a - 1 ∉ pg_lg z) (kk : sm_W p l e R s m args below meth c Q G z S0 (pc + 1) ((ls.set a (some (am_l x))).set (a + 1) none) st S M) : sm_W p l e R s m args below meth c Q G z S0 pc ls (am_l x :: st) S M := by
  intro H locs A hs
  exact lv_lstore_n C.1 C.2.1 hd hk (sm_has hs.2.2.2.1) ha rfl (fun A' h' => kk H locs A' ⟨hs.1, hs.2.1, hs.2.2.1, sm_st2 hs.2.2.2.1 h1 h2 h', hs.2.2.2.2⟩)
theorem sm_iinc (C : sm_C p R s m meth c G z S0 Fin) {k a : Nat} {x n v : Int} (hd : decode (pg_c z) pc = .ok (.iinc k n, 3)) (hk : k = a) (hn : n = v) (h1 : pg_s1 z a = true) (hl : ls[a]? = some (some (am_i x))) (kk : sm_W p l e R s m args below meth c Q G z S0 (pc + 3) (ls.set a (some (am_i (x + v)))) st S M) : sm_W p l e R s m args below meth c Q G z S0 pc ls st S M := by
  intro H locs A hs
  subst hk; subst hn
  obtain ⟨j, hj⟩ := List.getElem?_of_mem (sm_al_of (G := G) hl)
  exact lv_iinc (v := Int32.ofInt (x + n)) C.1 C.2.1 hd (sm_has hs.2.2.2.1) hj (Int32.ofInt_add x n).symm (sm_s1 h1).1 rfl (fun A' h' => kk H locs A' ⟨hs.1, hs.2.1, hs.2.2.1, sm_st1 (v := am_i (x + n)) hs.2.2.2.1 h1 rfl h', hs.2.2.2.2⟩)
theorem sm_iadd (C : sm_C p R s m meth c G z S0 Fin) {x y : Int} (hd : decode (pg_c z) pc = .ok (.iadd, 1)) (kk : sm_W p l e R s m args below meth c Q G z S0 (pc + 1) ls (am_i (x + y) :: st) S M) : sm_W p l e R s m args below meth c Q G z S0 pc ls (am_i y :: am_i x :: st) S M := by
  intro H locs A hs
  refine lv_iadd C.1 C.2.1 hd ?_
  rw [← Int32.ofInt_add]; exact kk H locs A hs
theorem sm_isub (C : sm_C p R s m meth c G z S0 Fin) {x y : Int} (hd : decode (pg_c z) pc = .ok (.isub, 1)) (kk : sm_W p l e R s m args below meth c Q G z S0 (pc + 1) ls (am_i (x - y) :: st) S M) : sm_W p l e R s m args below meth c Q G z S0 pc ls (am_i y :: am_i x :: st) S M := by
  intro H locs A hs
  refine lv_isub C.1 C.2.1 hd ?_
  rw [← Int32.ofInt_sub]; exact kk H locs A hs
theorem sm_imul (C : sm_C p R s m meth c G z S0 Fin) {x y : Int} (hd : decode (pg_c z) pc = .ok (.imul, 1)) (kk : sm_W p l e R s m args below meth c Q G z S0 (pc + 1) ls (am_i (x * y) :: st) S M) : sm_W p l e R s m args below meth c Q G z S0 pc ls (am_i y :: am_i x :: st) S M := by
  intro H locs A hs
  refine lv_imul C.1 C.2.1 hd ?_
  rw [← Int32.ofInt_mul]; exact kk H locs A hs
theorem sm_div0 {x y : Int} (h : 0 ≤ x ∧ x ≤ 2147483647 ∧ 0 < y ∧ y ≤ 2147483647) : ¬ Int32.ofInt y = 0 ∧ Int32.ofInt x / Int32.ofInt y = Int32.ofInt (x / y) := by
  have hx : am_Ri x := ⟨by omega, by omega⟩
  have hy : am_Ri y := ⟨by omega, by omega⟩
  have hq0 : 0 ≤ x / y := Int.ediv_nonneg h.1 (by omega)
  have hq1 : x / y ≤ x := Int.ediv_le_self y h.1
  refine ⟨?_, ?_⟩
  · rw [← sm_z, sm_eq hy sm_R0]; omega
  · rw [← Int32.toInt_inj, Int32.toInt_div, sm_ti hx, sm_ti hy, sm_ti ⟨by omega, by omega⟩, Int.tdiv_eq_ediv_of_nonneg h.1]
    exact Int.bmod_eq_of_le (by omega) (by omega)
theorem sm_idiv (C : sm_C p R s m meth c G z S0 Fin) {x y : Int} (h : 0 ≤ x ∧ x ≤ 2147483647 ∧ 0 < y ∧ y ≤ 2147483647) (hd : decode (pg_c z) pc = .ok (.idiv, 1)) (kk : sm_W p l e R s m args below meth c Q G z S0 (pc + 1) ls (am_i (x / y) :: st) S M) : sm_W p l e R s m args below meth c Q G z S0 pc ls (am_i y :: am_i x :: st) S M := by
  intro H locs A hs
  refine lv_idiv C.1 C.2.1 hd (sm_div0 h).1 ?_
  rw [(sm_div0 h).2]; exact kk H locs A hs
theorem sm_irem (C : sm_C p R s m meth c G z S0 Fin) {x y : Int} (h : 0 ≤ x ∧ x ≤ 2147483647 ∧ 0 < y ∧ y ≤ 2147483647) (hd : decode (pg_c z) pc = .ok (.irem, 1)) (kk : sm_W p l e R s m args below meth c Q G z S0 (pc + 1) ls (am_i (x % y) :: st) S M) : sm_W p l e R s m args below meth c Q G z S0 pc ls (am_i y :: am_i x :: st) S M := by
  intro H locs A hs
  refine lv_irem C.1 C.2.1 hd (sm_div0 h).1 ?_
  rw [(sm_div0 h).2, ← Int32.ofInt_mul, ← Int32.ofInt_sub, Int.mul_comm (x / y) y, ← Int.emod_def]; exact kk H locs A hs
theorem sm_iand (C : sm_C p R s m meth c G z S0 Fin) {x y : Int} (hd : decode (pg_c z) pc = .ok (.iand, 1)) (kk : sm_W p l e R s m args below meth c Q G z S0 (pc + 1) ls (am_i (am_and x y) :: st) S M) : sm_W p l e R s m args below meth c Q G z S0 pc ls (am_i y :: am_i x :: st) S M := by
  intro H locs A hs
  refine lv_iand C.1 C.2.1 hd ?_
  have k1 := kk H locs A hs
  rw [List.map_cons, show sm_v G (am_i (am_and x y)) = .int (Int32.ofInt x &&& Int32.ofInt y) from congrArg Value.int (Int32.ofInt_toInt _)] at k1
  exact k1
theorem sm_ior (C : sm_C p R s m meth c G z S0 Fin) {x y : Int} (hd : decode (pg_c z) pc = .ok (.ior, 1)) (kk : sm_W p l e R s m args below meth c Q G z S0 (pc + 1) ls (am_i (am_or x y) :: st) S M) : sm_W p l e R s m args below meth c Q G z S0 pc ls (am_i y :: am_i x :: st) S M := by
  intro H locs A hs
  refine lv_ior C.1 C.2.1 hd ?_
  have k1 := kk H locs A hs
  rw [List.map_cons, show sm_v G (am_i (am_or x y)) = .int (Int32.ofInt x ||| Int32.ofInt y) from congrArg Value.int (Int32.ofInt_toInt _)] at k1
  exact k1
theorem sm_ixor (C : sm_C p R s m meth c G z S0 Fin) {x y : Int} (hd : decode (pg_c z) pc = .ok (.ixor, 1)) (kk : sm_W p l e R s m args below meth c Q G z S0 (pc + 1) ls (am_i (am_xor x y) :: st) S M) : sm_W p l e R s m args below meth c Q G z S0 pc ls (am_i y :: am_i x :: st) S M := by
  intro H locs A hs
  refine lv_ixor C.1 C.2.1 hd ?_
  have k1 := kk H locs A hs
  rw [List.map_cons, show sm_v G (am_i (am_xor x y)) = .int (Int32.ofInt x ^^^ Int32.ofInt y) from congrArg Value.int (Int32.ofInt_toInt _)] at k1
  exact k1
theorem sm_ishl (C : sm_C p R s m meth c G z S0 Fin) {x y : Int} (hd : decode (pg_c z) pc = .ok (.ishl, 1)) (kk : sm_W p l e R s m args below meth c Q G z S0 (pc + 1) ls (am_i (am_shl x y) :: st) S M) : sm_W p l e R s m args below meth c Q G z S0 pc ls (am_i y :: am_i x :: st) S M := by
  intro H locs A hs
  refine lv_ishl C.1 C.2.1 hd ?_
  have k1 := kk H locs A hs
  rw [List.map_cons, show sm_v G (am_i (am_shl x y)) = .int (Int32.ofInt x <<< (Int32.ofInt y &&& 31)) from congrArg Value.int (Int32.ofInt_toInt _)] at k1
  exact k1
theorem sm_ishr (C : sm_C p R s m meth c G z S0 Fin) {x y : Int} (hd : decode (pg_c z) pc = .ok (.ishr, 1)) (kk : sm_W p l e R s m args below meth c Q G z S0 (pc + 1) ls (am_i (am_shr x y) :: st) S M) : sm_W p l e R s m args below meth c Q G z S0 pc ls (am_i y :: am_i x :: st) S M := by
  intro H locs A hs
  refine lv_ishr C.1 C.2.1 hd ?_
  have k1 := kk H locs A hs
  rw [List.map_cons, show sm_v G (am_i (am_shr x y)) = .int (Int32.ofInt x >>> (Int32.ofInt y &&& 31)) from congrArg Value.int (Int32.ofInt_toInt _)] at k1
  exact k1
theorem sm_iushr (C : sm_C p R s m meth c G z S0 Fin) {x y : Int} (hd : decode (pg_c z) pc = .ok (.iushr, 1)) (kk : sm_W p l e R s m args below meth c Q G z S0 (pc + 1) ls (am_i (am_ushr x y) :: st) S M) : sm_W p l e R s m args below meth c Q G z S0 pc ls (am_i y :: am_i x :: st) S M := by
  intro H locs A hs
  have k1 := kk H locs A hs
  exact lv_iushr (v := Int32.ofInt (am_ushr x y)) C.1 C.2.1 hd (Int32.ofInt_toInt _).symm k1
theorem sm_ladd (C : sm_C p R s m meth c G z S0 Fin) {x y : Int} (hd : decode (pg_c z) pc = .ok (.ladd, 1)) (kk : sm_W p l e R s m args below meth c Q G z S0 (pc + 1) ls (am_l (x + y) :: st) S M) : sm_W p l e R s m args below meth c Q G z S0 pc ls (am_l y :: am_l x :: st) S M := by
  intro H locs A hs
  refine lv_ladd C.1 C.2.1 hd ?_
  rw [← Int64.ofInt_add]; exact kk H locs A hs
theorem sm_lmul (C : sm_C p R s m meth c G z S0 Fin) {x y : Int} (hd : decode (pg_c z) pc = .ok (.lmul, 1)) (kk : sm_W p l e R s m args below meth c Q G z S0 (pc + 1) ls (am_l (x * y) :: st) S M) : sm_W p l e R s m args below meth c Q G z S0 pc ls (am_l y :: am_l x :: st) S M := by
  intro H locs A hs
  refine lv_lmul C.1 C.2.1 hd ?_
  rw [← Int64.ofInt_mul]; exact kk H locs A hs
theorem sm_ldiv0 {x y : Int} (h : 0 ≤ x ∧ x ≤ 9223372036854775807 ∧ 0 < y ∧ y ≤ 9223372036854775807) : ¬ Int64.ofInt y = 0 ∧ Int64.ofInt x / Int64.ofInt y = Int64.ofInt (x / y) := by
  have hx : am_Rl x := ⟨by omega, by omega⟩
  have hy : am_Rl y := ⟨by omega, by omega⟩
  have hq0 : 0 ≤ x / y := Int.ediv_nonneg h.1 (by omega)
  have hq1 : x / y ≤ x := Int.ediv_le_self y h.1
  refine ⟨fun h9 => ?_, ?_⟩
  · have h8 := congrArg Int64.toInt h9
    rw [sm_tl hy] at h8
    have h7 : (0 : Int64).toInt = 0 := rfl
    omega
  · rw [← Int64.toInt_inj, Int64.toInt_div, sm_tl hx, sm_tl hy, sm_tl ⟨by omega, by omega⟩, Int.tdiv_eq_ediv_of_nonneg h.1]
    exact Int.bmod_eq_of_le (by omega) (by omega)
theorem sm_ldiv (C : sm_C p R s m meth c G z S0 Fin) {x y : Int} (h : 0 ≤ x ∧ x ≤ 9223372036854775807 ∧ 0 < y ∧ y ≤ 9223372036854775807) (hd : decode (pg_c z) pc = .ok (.ldiv, 1)) (kk : sm_W p l e R s m args below meth c Q G z S0 (pc + 1) ls (am_l (x / y) :: st) S M) : sm_W p l e R s m args below meth c Q G z S0 pc ls (am_l y :: am_l x :: st) S M := by
  intro H locs A hs
  refine lv_ldiv C.1 C.2.1 hd (sm_ldiv0 h).1 ?_
  rw [(sm_ldiv0 h).2]; exact kk H locs A hs
theorem sm_lrem (C : sm_C p R s m meth c G z S0 Fin) {x y : Int} (h : 0 ≤ x ∧ x ≤ 9223372036854775807 ∧ 0 < y ∧ y ≤ 9223372036854775807) (hd : decode (pg_c z) pc = .ok (.lrem, 1)) (kk : sm_W p l e R s m args below meth c Q G z S0 (pc + 1) ls (am_l (x % y) :: st) S M) : sm_W p l e R s m args below meth c Q G z S0 pc ls (am_l y :: am_l x :: st) S M := by
  intro H locs A hs
  refine lv_lrem C.1 C.2.1 hd (sm_ldiv0 h).1 ?_
  rw [(sm_ldiv0 h).2, ← Int64.ofInt_mul, ← Int64.ofInt_sub, Int.mul_comm (x / y) y, ← Int.emod_def]; exact kk H locs A hs
theorem sm_lcmp (C : sm_C p R s m meth c G z S0 Fin) {x y : Int} (h : am_Rl x ∧ am_Rl y) (hd : decode (pg_c z) pc = .ok (.lcmp, 1)) (kk : sm_W p l e R s m args below meth c Q G z S0 (pc + 1) ls (am_i (am_cmp x y) :: st) S M) : sm_W p l e R s m args below meth c Q G z S0 pc ls (am_l y :: am_l x :: st) S M := by
  intro H locs A hs
  refine W.lcmp C.1 C.2.1 hd ?_
  have e : lg_cmp (Int64.ofInt x) (Int64.ofInt y) = Int32.ofInt (am_cmp x y) := by
    have hlt : Int64.ofInt x > Int64.ofInt y ↔ y < x := by
      show Int64.ofInt y < Int64.ofInt x ↔ _
      rw [Int64.lt_iff_toInt_lt, sm_tl h.1, sm_tl h.2]
    have heq : Int64.ofInt x = Int64.ofInt y ↔ x = y := by rw [← Int64.toInt_inj, sm_tl h.1, sm_tl h.2]
    unfold lg_cmp am_cmp
    simp only [hlt, heq]
    by_cases h1 : y < x
    · rw [if_pos h1, if_neg (by omega), if_neg (by omega)]; rfl
    · rw [if_neg h1]
      by_cases h2 : x = y
      · rw [if_pos h2, if_neg (by omega), if_pos h2]; rfl
      · rw [if_neg h2, if_pos (by omega)]; rfl
  rw [e]; exact kk H locs A hs
theorem sm_i2l (C : sm_C p R s m meth c G z S0 Fin) {x : Int} (h : am_Ri x) (hd : decode (pg_c z) pc = .ok (.i2l, 1)) (kk : sm_W p l e R s m args below meth c Q G z S0 (pc + 1) ls (am_l x :: st) S M) : sm_W p l e R s m args below meth c Q G z S0 pc ls (am_i x :: st) S M := by
  intro H locs A hs
  exact lv_i2l (v := Int64.ofInt x) C.1 C.2.1 hd (Int32.toInt64_ofInt (by have := h.1; rw [Int32.toInt_minValue]; omega) (by have := h.2; rw [Int32.toInt_maxValue]; omega)) (kk H locs A hs)
theorem sm_l2i (C : sm_C p R s m meth c G z S0 Fin) {x : Int} (hd : decode (pg_c z) pc = .ok (.l2i, 1)) (kk : sm_W p l e R s m args below meth c Q G z S0 (pc + 1) ls (am_i x :: st) S M) : sm_W p l e R s m args below meth c Q G z S0 pc ls (am_l x :: st) S M := by
  intro H locs A hs
  exact lv_l2i (v := Int32.ofInt x) C.1 C.2.1 hd (Int64.toInt32_ofInt) (kk H locs A hs)
theorem sm_cat1 {v : am_V} (h : ∀ x, v ≠ am_l x) : (sm_v G v).category = 1 := by
  match v with
  | .inl x => rfl
  | .inr (.inl x) => exact absurd rfl (h x)
  | .inr (.inr (.inl k)) =>
    show (va_rf (sm_o G k)).category = 1
    unfold sm_o
    by_cases hk : k = 0
    · rw [if_pos hk]; rfl
    · rw [if_neg hk]; rfl
  | .inr (.inr (.inr u)) => rfl
theorem sm_dup (C : sm_C p R s m meth c G z S0 Fin) {v : am_V} (h : ∀ x, v ≠ am_l x) (hd : decode (pg_c z) pc = .ok (.dup, 1)) (kk : sm_W p l e R s m args below meth c Q G z S0 (pc + 1) ls (v :: v :: st) S M) : sm_W p l e R s m args below meth c Q G z S0 pc ls (v :: st) S M := by
  intro H locs A hs
  exact lv_dup C.1 C.2.1 hd (sm_cat1 h) (kk H locs A hs)
theorem sm_dup2 (C : sm_C p R s m meth c G z S0 Fin) {v w : am_V} (h : ∀ x, v ≠ am_l x) (h2 : ∀ x, w ≠ am_l x) (hd : decode (pg_c z) pc = .ok (.dup2, 1)) (kk : sm_W p l e R s m args below meth c Q G z S0 (pc + 1) ls (v :: w :: v :: w :: st) S M) : sm_W p l e R s m args below meth c Q G z S0 pc ls (v :: w :: st) S M := by
  intro H locs A hs
  exact lv_dup2_11 C.1 C.2.1 hd (sm_cat1 h) (sm_cat1 h2) (kk H locs A hs)
theorem sm_pop (C : sm_C p R s m meth c G z S0 Fin) {v : am_V} (h : ∀ x, v ≠ am_l x) (hd : decode (pg_c z) pc = .ok (.pop, 1)) (kk : sm_W p l e R s m args below meth c Q G z S0 (pc + 1) ls st S M) : sm_W p l e R s m args below meth c Q G z S0 pc ls (v :: st) S M := by
  intro H locs A hs
  exact lv_pop C.1 C.2.1 hd (sm_cat1 h) (kk H locs A hs)
theorem sm_goto (C : sm_C p R s m meth c G z S0 Fin) {x : Int} {a : Nat} (hd : decode (pg_c z) pc = .ok (.goto x, 3)) (ht : (pc : Int) + x = (a : Int)) (kk : sm_W p l e R s m args below meth c Q G z S0 a ls st S M) : sm_W p l e R s m args below meth c Q G z S0 pc ls st S M := by
  intro H locs A hs
  exact lv_goto C.1 C.2.1 hd ht (kk H locs A hs)
end SM1
end
section
/-! branches, arrays, fields, new cells -/
theorem sm_cls_ok : ∀ c, c < 10 → pg_cls[c]? = some (pg_cn c, pg_fT c, pg_nf c) ∧ (∀ w ∈ u_ws (pg_cn c) (pg_fT c) (pg_nf c), w ∈ lw_tbl) ∧ (∀ k, k < pg_nf c → parseFieldDescriptor (pg_fT c k).2.2.1 = some (pg_ft c k)) ∧ (∀ a, a < pg_nf c → ∀ b, b < pg_nf c → a ≠ b → (pg_fT c a).2.1 ≠ (pg_fT c b).2.1) ∧ (∀ k, k < pg_nf c → (pg_fT c k).1 = pg_cn c) := by
  intro c hc
  match c, hc with
  | 0, _ => exact ⟨rfl, pg_u0, by decide +kernel, by decide +kernel, by decide +kernel⟩
  | 1, _ => exact ⟨rfl, pg_u1, by decide +kernel, by decide +kernel, by decide +kernel⟩
  | 2, _ => exact ⟨rfl, pg_u2, by decide +kernel, by decide +kernel, by decide +kernel⟩
  | 3, _ => exact ⟨rfl, pg_u3, by decide +kernel, by decide +kernel, by decide +kernel⟩
  | 4, _ => exact ⟨rfl, pg_u4, by decide +kernel, by decide +kernel, by decide +kernel⟩
  | 5, _ => exact ⟨rfl, pg_u5, by decide +kernel, by decide +kernel, by decide +kernel⟩
  | 6, _ => exact ⟨rfl, pg_u6, by decide +kernel, by decide +kernel, by decide +kernel⟩
  | 7, _ => exact ⟨rfl, pg_u7, by decide +kernel, by decide +kernel, by decide +kernel⟩
  | 8, _ => exact ⟨rfl, pg_u8, by decide +kernel, by decide +kernel, by decide +kernel⟩
  | 9, _ => exact ⟨rfl, pg_u9, by decide +kernel, by decide +kernel, by decide +kernel⟩
  | c + 10, h => exact absurd h (by omega)
theorem sm_u_good {C : String} {T : u_T} {N : Nat} : ∀ w ∈ u_ws C T N, pg_gw w = true := by
  intro w hw
  unfold u_ws at hw
  obtain ⟨k, -, rfl⟩ := List.mem_map.mp hw
  unfold u_lay
  by_cases h : (T k).2.2.2 = true
  · rw [if_pos h]; rfl
  · rw [if_neg h]; rfl
section SM2
variable {p : Program} {l : Launch} {e : Env} {R : Room} {s : State} {m : MethodId} {args : Array Value} {below : List Frame} {meth : Method} {c : Code} {Q : State → Prop} {G : sm_G} {z : Nat} {S0 : am_S} {Fin : am_Z} {pc : Nat} {ls : am_L} {st : am_K} {S : am_S} {M : am_M}
theorem sm_icmp (C : sm_C p R s m meth c G z S0 Fin) {q : ClassFile.Cond} {x y o : Int} {a : Nat} (h : am_Ri x ∧ am_Ri y) (hd : decode (pg_c z) pc = .ok (.if_icmp q o, 3)) (ht : (pc : Int) + o = (a : Int)) {P : Prop}
    (hP : P = match q with | .eq => x = y | .ne => ¬ x = y | .lt => x < y | .ge => y ≤ x | .gt => y < x | .le => x ≤ y)
    (kt : P → sm_W p l e R s m args below meth c Q G z S0 a ls st S M) (kf : ¬ P → sm_W p l e R s m args below meth c Q G z S0 (pc + 3) ls st S M) : sm_W p l e R s m args below meth c Q G z S0 pc ls (am_i y :: am_i x :: st) S M := by
  intro H locs A hs
  subst hP
  cases q with
  | eq => exact lv_icmp_eq C.1 C.2.1 hd ht (fun d => kt ((sm_eq h.1 h.2).mp d) H locs A hs) (fun d => kf (fun g => d ((sm_eq h.1 h.2).mpr g)) H locs A hs)
  | ne => exact lv_icmp_ne C.1 C.2.1 hd ht (fun d => kt (fun g => d ((sm_eq h.1 h.2).mpr g)) H locs A hs) (fun d => kf (fun g => g ((sm_eq h.1 h.2).mp d)) H locs A hs)
  | lt => exact lv_icmp_lt C.1 C.2.1 hd ht (fun d => kt ((sm_lt h.1 h.2).mp d) H locs A hs) (fun d => kf (fun g => d ((sm_lt h.1 h.2).mpr g)) H locs A hs)
  | ge => exact lv_icmp_ge C.1 C.2.1 hd ht (fun d => kt ((sm_le h.2 h.1).mp d) H locs A hs) (fun d => kf (fun g => d ((sm_le h.2 h.1).mpr g)) H locs A hs)
  | gt => exact lv_icmp_gt C.1 C.2.1 hd ht (fun d => kt ((sm_lt h.2 h.1).mp d) H locs A hs) (fun d => kf (fun g => d ((sm_lt h.2 h.1).mpr g)) H locs A hs)
  | le => exact lv_icmp_le C.1 C.2.1 hd ht (fun d => kt ((sm_le h.1 h.2).mp d) H locs A hs) (fun d => kf (fun g => d ((sm_le h.1 h.2).mpr g)) H locs A hs)
theorem sm_if (C : sm_C p R s m meth c G z S0 Fin) {q : ClassFile.Cond} {x o : Int} {a : Nat} (h : am_Ri x) (hd : decode (pg_c z) pc = .ok (.ifCond q o, 3)) (ht : (pc : Int) + o = (a : Int)) {P : Prop}
    (hP : P = match q with | .eq => x = 0 | .ne => ¬ x = 0 | .lt => x < 0 | .ge => 0 ≤ x | .gt => 0 < x | .le => x ≤ 0)
    (kt : P → sm_W p l e R s m args below meth c Q G z S0 a ls st S M) (kf : ¬ P → sm_W p l e R s m args below meth c Q G z S0 (pc + 3) ls st S M) : sm_W p l e R s m args below meth c Q G z S0 pc ls (am_i x :: st) S M := by
  intro H locs A hs
  subst hP
  have e1 : Int32.ofInt x = 0 ↔ x = 0 := sm_eq h sm_R0
  have e2 : Int32.ofInt x < 0 ↔ x < 0 := sm_lt h sm_R0
  have e3 : 0 < Int32.ofInt x ↔ 0 < x := sm_lt sm_R0 h
  have e4 : Int32.ofInt x ≤ 0 ↔ x ≤ 0 := sm_le h sm_R0
  have e5 : 0 ≤ Int32.ofInt x ↔ 0 ≤ x := sm_le sm_R0 h
  cases q with
  | eq => exact lv_if_eq C.1 C.2.1 hd ht (fun d => kt (e1.mp d) H locs A hs) (fun d => kf (fun g => d (e1.mpr g)) H locs A hs)
  | ne => exact lv_if_ne C.1 C.2.1 hd ht (fun d => kt (fun g => d (e1.mpr g)) H locs A hs) (fun d => kf (fun g => g (e1.mp d)) H locs A hs)
  | lt => exact lv_if_lt C.1 C.2.1 hd ht (fun d => kt (e2.mp d) H locs A hs) (fun d => kf (fun g => d (e2.mpr g)) H locs A hs)
  | ge => exact lv_if_ge C.1 C.2.1 hd ht (fun d => kt (e5.mp d) H locs A hs) (fun d => kf (fun g => d (e5.mpr g)) H locs A hs)
  | gt => exact lv_if_gt C.1 C.2.1 hd ht (fun d => kt (e3.mp d) H locs A hs) (fun d => kf (fun g => d (e3.mpr g)) H locs A hs)
  | le => exact lv_if_le C.1 C.2.1 hd ht (fun d => kt (e4.mp d) H locs A hs) (fun d => kf (fun g => d (e4.mpr g)) H locs A hs)
theorem sm_switch (C : sm_C p R s m meth c G z S0 Fin) {d lo hi : Int} {offs : Array Int} {n : Nat} {x : Int} (h : am_Ri x) (hd : decode (pg_c z) pc = .ok (.tableswitch d lo hi offs, n)) (h0 : 0 ≤ (pc : Int) + d) (h1 : ∀ y ∈ offs, 0 ≤ (pc : Int) + y) (h2 : (offs.size : Int) = hi - lo + 1)
    (kk : sm_W p l e R s m args below meth c Q G z S0 (am_sw pc d lo hi offs x) ls st S M) : sm_W p l e R s m args below meth c Q G z S0 pc ls (am_i x :: st) S M := by
  intro H locs A hs
  have k1 := kk H locs A hs
  by_cases ho : x < lo ∨ hi < x
  · have e : ((am_sw pc d lo hi offs x : Nat) : Int) = (pc : Int) + d := by unfold am_sw; rw [if_pos ho]; omega
    exact lv_tableOut C.1 C.2.1 hd (by rw [sm_ti h]; exact ho) e.symm k1
  · have hlt : (x - lo).toNat < offs.size := by omega
    have hg : offs[(x - lo).toNat]? = some offs[(x - lo).toNat] := Array.getElem?_eq_getElem hlt
    have hm := h1 _ (Array.getElem_mem hlt)
    have e : ((am_sw pc d lo hi offs x : Nat) : Int) = (pc : Int) + offs[(x - lo).toNat] := by
      unfold am_sw
      rw [if_neg ho, hg]
      show ((((pc : Int) + offs[(x - lo).toNat]).toNat : Nat) : Int) = _
      omega
    exact lv_tableIn C.1 C.2.1 hd (by rw [sm_ti h]; omega) (by rw [sm_ti h]; omega) (by rw [sm_ti h]; exact hg) e.symm k1
theorem sm_size {H : Heap} {locs : List Loc} {cells slots : Nat} {g : JFrame} (h : H.size ≤ s.heap.size + cells → W p l e R s m args below meth c H locs cells slots Q g) : W p l e R s m args below meth c H locs cells slots Q g :=
  fun T hT X => h (by rw [← hT]; exact X.heapSize) T hT X
/-- a store behind which the world is the list of the new state -/
theorem sm_stored (C : sm_C p R s m meth c G z S0 Fin) {H : Heap} {locs : List Loc} {A : Array Slot} (hs : sm_St s G z S0 ls S M H locs A) {S' : am_S} {M' : am_M} {k : Nat} (hk : 0 < k ∧ k ≤ am_n S) (hn : S'.2.1 = S.2.1) (hS1 : S'.1 = S.1)
    (kk : sm_W p l e R s m args below meth c Q G z S0 pc ls st S' M') {H1 : Heap} {locs1 : List Loc} (hP : va_P G.1 pg_cls (sm_w G S' M') H1) (hS : va_S (sm_A G) s.heap H1 locs1) : W p l e R s m args below meth c H1 locs1 (am_n S - am_n S0) (am_sl S - am_sl S0) Q (F0 m pc A (st.map (sm_v G))) := by
  refine sm_size (fun hz => ?_)
  have e1 : am_n S' = am_n S := congrArg Prod.fst hn
  have e2 : am_sl S' = am_sl S := congrArg Prod.snd hn
  have hl := (hP _ _ (sm_w_get (G := G) (S := S') (M := M') (k := am_n S') ⟨by omega, Nat.le_refl _⟩)).lt
  have hl : sm_b G + am_n S' < H1.size := hl
  have hc := C.2.2.2.2.2.2.1
  have hle := hs.2.2.2.2.1
  have k1 := kk H1 locs1 A ⟨hP, by omega, hS, hs.2.2.2.1, by rw [e1]; exact hs.2.2.2.2.1, by rw [e2]; exact hs.2.2.2.2.2.1, hS1.trans hs.2.2.2.2.2.2⟩
  rw [e1, e2] at k1
  exact k1
theorem sm_alen (C : sm_C p R s m meth c G z S0 Fin) {k : Nat} (h : (am_kd S k).1 < 4) (hd : decode (pg_c z) pc = .ok (.arraylength, 1)) (kk : sm_W p l e R s m args below meth c Q G z S0 (pc + 1) ls (am_i ((am_kd S k).2 : Int) :: st) S M) : sm_W p l e R s m args below meth c Q G z S0 pc ls (am_r k :: st) S M := by
  intro H locs A hs
  have hin := sm_kd_in (S := S) (k := k) (by omega)
  have hg := sm_w_get (G := G) (S := S) (M := M) hin
  rw [List.map_cons, sm_v_r hin.1]
  have k1 := kk H locs A hs
  have hv : Int32.ofNat (am_kd S k).2 = Int32.ofInt ((am_kd S k).2 : Int) := Int32.ofInt_eq_ofNat.symm
  have hcase : (am_kd S k).1 = 0 ∨ (am_kd S k).1 = 1 ∨ (am_kd S k).1 = 2 ∨ (am_kd S k).1 = 3 := by omega
  rcases hcase with h1 | h1 | h1 | h1
  · rw [sm_e_int h1 (by omega)] at hg
    exact va_alen C.1 C.2.1 C.2.2.2.2.2.1.2.2.2 hs.1 (k - 1) 0 hg (ty := .int) rfl hv hd k1
  · rw [sm_e_int h1 (by omega)] at hg
    exact va_alen C.1 C.2.1 C.2.2.2.2.2.1.2.2.2 hs.1 (k - 1) 1 hg (ty := .boolean) rfl hv hd k1
  · rw [sm_e_ref h1 (Or.inl rfl)] at hg
    exact va_alen C.1 C.2.1 C.2.2.2.2.2.1.2.2.2 hs.1 (k - 1) 2 hg (ty := .object "PersonLines$Life") rfl hv hd k1
  · rw [sm_e_ref h1 (Or.inr rfl)] at hg
    exact va_alen C.1 C.2.1 C.2.2.2.2.2.1.2.2.2 hs.1 (k - 1) 3 hg (ty := .object "PersonLines$Image") rfl hv hd k1
theorem sm_sn_eq {S S0 : am_S} (h : S.1 = S0.1) : am_sn S = am_sn S0 ∧ ∀ j, am_sx S j = am_sx S0 j := ⟨congrArg Prod.fst h, fun j => congrFun (congrArg Prod.snd h) j⟩
theorem sm_slen (C : sm_C p R s m meth c G z S0 Fin) {u : Unit} (hd : decode (pg_c z) pc = .ok (.arraylength, 1)) (kk : sm_W p l e R s m args below meth c Q G z S0 (pc + 1) ls (am_i (am_sn S : Int) :: st) S M) : sm_W p l e R s m args below meth c Q G z S0 pc ls (.inr (.inr (.inr u)) :: st) S M := by
  intro H locs A hs
  have k1 := kk H locs A hs
  obtain ⟨hX, hb⟩ := C.2.2.2.2.2.2.2.2.2.2
  refine va_slen C.1 C.2.1 hX (by have := C.2.2.2.2.2.2.1; omega) (Nat.not_lt.mpr hb) hs.2.2.1 hd ?_
  rw [← Int32.ofInt_eq_ofNat, ← (sm_sn_eq hs.2.2.2.2.2.2).1]
  exact k1
theorem sm_sld (C : sm_C p R s m meth c G z S0 Fin) {u : Unit} {i : Int} (h : 0 ≤ i ∧ i < (am_sn S : Int) ∧ i ≤ 2147483647) (hd : decode (pg_c z) pc = .ok (.iaload, 1)) (kk : sm_W p l e R s m args below meth c Q G z S0 (pc + 1) ls (am_i (am_sx S i) :: st) S M) : sm_W p l e R s m args below meth c Q G z S0 pc ls (am_i i :: .inr (.inr (.inr u)) :: st) S M := by
  intro H locs A hs
  have k1 := kk H locs A hs
  obtain ⟨hX, hb⟩ := C.2.2.2.2.2.2.2.2.2.2
  obtain ⟨e1, e2⟩ := sm_sn_eq hs.2.2.2.2.2.2
  refine va_sld C.1 C.2.1 hX (by have := C.2.2.2.2.2.2.1; omega) (Nat.not_lt.mpr hb) hs.2.2.1 (sm_in h.1 (by rw [← e1]; exact h.2.1) h.2.2) hd ?_
  rw [sm_cl h.1 h.2.2, ← e2, show ((i.toNat : Nat) : Int) = i by omega]
  exact k1
theorem sm_iald (C : sm_C p R s m meth c G z S0 Fin) {k : Nat} {i : Int} (h : (am_kd S k).1 = 0 ∧ 0 ≤ i ∧ i < ((am_kd S k).2 : Int) ∧ i ≤ 2147483647) (hd : decode (pg_c z) pc = .ok (.iaload, 1)) (kk : sm_W p l e R s m args below meth c Q G z S0 (pc + 1) ls (am_i (M k i) :: st) S M) : sm_W p l e R s m args below meth c Q G z S0 pc ls (am_i i :: am_r k :: st) S M := by
  intro H locs A hs
  have hin := sm_kd_in (S := S) (k := k) (by omega)
  have hg := sm_w_get (G := G) (S := S) (M := M) hin
  rw [List.map_cons, List.map_cons, sm_v_r hin.1]
  rw [sm_e_int h.1 (by omega)] at hg
  have k1 := kk H locs A hs
  refine va_iald C.1 C.2.1 C.2.2.2.2.2.1.2.2.2 hs.1 (k - 1) 0 hg rfl (sm_in h.2.1 h.2.2.1 h.2.2.2) hd ?_
  rw [sm_cl h.2.1 h.2.2.2, show ((i.toNat : Nat) : Int) = i by omega]
  exact k1
theorem sm_bald (C : sm_C p R s m meth c G z S0 Fin) {k : Nat} {i : Int} (h : (am_kd S k).1 = 1 ∧ 0 ≤ i ∧ i < ((am_kd S k).2 : Int) ∧ i ≤ 2147483647) (hd : decode (pg_c z) pc = .ok (.baload, 1)) (kk : sm_W p l e R s m args below meth c Q G z S0 (pc + 1) ls (am_i (M k i) :: st) S M) : sm_W p l e R s m args below meth c Q G z S0 pc ls (am_i i :: am_r k :: st) S M := by
  intro H locs A hs
  have hin := sm_kd_in (S := S) (k := k) (by omega)
  have hg := sm_w_get (G := G) (S := S) (M := M) hin
  rw [List.map_cons, List.map_cons, sm_v_r hin.1]
  rw [sm_e_int h.1 (by omega)] at hg
  have k1 := kk H locs A hs
  refine va_zald C.1 C.2.1 C.2.2.2.2.2.1.2.2.2 hs.1 (k - 1) 1 hg rfl (sm_in h.2.1 h.2.2.1 h.2.2.2) hd ?_
  rw [sm_cl h.2.1 h.2.2.2, show ((i.toNat : Nat) : Int) = i by omega]
  exact k1
theorem sm_aald (C : sm_C p R s m meth c G z S0 Fin) {k : Nat} {i : Int} (h : ((am_kd S k).1 = 2 ∨ (am_kd S k).1 = 3) ∧ 0 ≤ i ∧ i < ((am_kd S k).2 : Int) ∧ i ≤ 2147483647) (hd : decode (pg_c z) pc = .ok (.aaload, 1)) (kk : sm_W p l e R s m args below meth c Q G z S0 (pc + 1) ls (am_r (am_rf S k i) :: st) S M) : sm_W p l e R s m args below meth c Q G z S0 pc ls (am_i i :: am_r k :: st) S M := by
  intro H locs A hs
  have hin := sm_kd_in (S := S) (k := k) (by omega)
  have hg := sm_w_get (G := G) (S := S) (M := M) hin
  rw [List.map_cons, List.map_cons, sm_v_r hin.1]
  have k1 := kk H locs A hs
  have e : ((i.toNat : Nat) : Int) = i := by omega
  rcases h.1 with h1 | h1
  · rw [sm_e_ref h1 (Or.inl rfl)] at hg
    refine va_aldq C.1 C.2.1 C.2.2.2.2.2.1.2.2.2 hs.1 (k - 1) 2 hg rfl (sm_in h.2.1 h.2.2.1 h.2.2.2) hd ?_
    rw [sm_cl h.2.1 h.2.2.2, e]
    exact k1
  · rw [sm_e_ref h1 (Or.inr rfl)] at hg
    refine va_aldq C.1 C.2.1 C.2.2.2.2.2.1.2.2.2 hs.1 (k - 1) 3 hg rfl (sm_in h.2.1 h.2.2.1 h.2.2.2) hd ?_
    rw [sm_cl h.2.1 h.2.2.2, e]
    exact k1
theorem sm_upd {M : am_M} {k : Nat} {i x : Int} (h : 0 ≤ i ∧ i ≤ 2147483647) : upd (fun j => Int32.ofInt (M k (j : Int))) (Int32.ofInt i).toNatClampNeg (Int32.ofInt x) = (fun j : Nat => Int32.ofInt (am_wr M k i x k (j : Int))) := by
  rw [sm_cl h.1 h.2]
  funext j
  unfold upd am_wr
  by_cases hj : j = i.toNat
  · rw [if_pos hj, if_pos ⟨rfl, by omega⟩]
  · rw [if_neg hj, if_neg (fun q => hj (by have := q.2; omega))]
theorem sm_iast (C : sm_C p R s m meth c G z S0 Fin) {k : Nat} {i x : Int} (h : (am_kd S k).1 = 0 ∧ 0 ≤ i ∧ i < ((am_kd S k).2 : Int) ∧ i ≤ 2147483647) (hd : decode (pg_c z) pc = .ok (.iastore, 1)) (kk : sm_W p l e R s m args below meth c Q G z S0 (pc + 1) ls st S (am_wr M k i x)) : sm_W p l e R s m args below meth c Q G z S0 pc ls (am_i x :: am_i i :: am_r k :: st) S M := by
  intro H locs A hs
  have hin := sm_kd_in (S := S) (k := k) (by omega)
  have hg := sm_w_get (G := G) (S := S) (M := M) hin
  rw [List.map_cons, List.map_cons, List.map_cons, sm_v_r hin.1]
  rw [sm_e_int h.1 (by omega)] at hg
  refine va_iast C.1 C.2.1 C.2.2.2.2.2.1.2.2.2 hs.1 (sm_D G S M) hs.2.2.1 (k - 1) 0 hg rfl (sm_in h.2.1 h.2.2.1 h.2.2.2) hd (fun H1 locs1 hP1 _ hS1 => ?_)
  refine sm_stored C hs hin rfl rfl kk ?_ hS1
  rw [sm_upd ⟨h.2.1, h.2.2.2⟩, ← sm_e_int (G := G) (M := am_wr M k i x) h.1 (by omega), sm_w_set rfl hin (fun j hj => sm_kd_wr S M hj)] at hP1
  exact hP1
theorem sm_bast (C : sm_C p R s m meth c G z S0 Fin) {k : Nat} {i x : Int} (h : (am_kd S k).1 = 1 ∧ 0 ≤ i ∧ i < ((am_kd S k).2 : Int) ∧ i ≤ 2147483647 ∧ (x = 0 ∨ x = 1)) (hd : decode (pg_c z) pc = .ok (.bastore, 1)) (kk : sm_W p l e R s m args below meth c Q G z S0 (pc + 1) ls st S (am_wr M k i x)) : sm_W p l e R s m args below meth c Q G z S0 pc ls (am_i x :: am_i i :: am_r k :: st) S M := by
  intro H locs A hs
  have hin := sm_kd_in (S := S) (k := k) (by omega)
  have hg := sm_w_get (G := G) (S := S) (M := M) hin
  rw [List.map_cons, List.map_cons, List.map_cons, sm_v_r hin.1]
  rw [sm_e_int h.1 (by omega)] at hg
  refine va_zast C.1 C.2.1 C.2.2.2.2.2.1.2.2.2 hs.1 (sm_D G S M) hs.2.2.1 (k - 1) 1 hg rfl (sm_in h.2.1 h.2.2.1 h.2.2.2.1) hd (fun H1 locs1 hP1 _ hS1 => ?_)
  refine sm_stored C hs hin rfl rfl kk ?_ hS1
  have e : vp_nar .boolean (Int32.ofInt x) = Int32.ofInt x := by rcases h.2.2.2.2 with rfl | rfl <;> rfl
  rw [e, sm_upd ⟨h.2.1, h.2.2.2.1⟩, ← sm_e_int (G := G) (M := am_wr M k i x) h.1 (by omega), sm_w_set rfl hin (fun j hj => sm_kd_wr S M hj)] at hP1
  exact hP1
theorem sm_upq {S : am_S} {k x : Nat} {i : Int} (h : 0 ≤ i ∧ i ≤ 2147483647) (hx : 0 < x) : va_up (fun j : Nat => sm_o G (am_rf S k (j : Int))) (Int32.ofInt i).toNatClampNeg (some (sm_b G + x)) = (fun j : Nat => sm_o G (am_rf (am_set S k i x) k (j : Int))) := by
  rw [sm_cl h.1 h.2]
  funext j
  unfold va_up am_rf am_set
  by_cases hj : j = i.toNat
  · rw [if_pos hj]
    show _ = sm_o G (if k = k ∧ (j : Int) = i then x else _)
    rw [if_pos ⟨rfl, by omega⟩, sm_o_pos hx]
  · rw [if_neg hj]
    show _ = sm_o G (if k = k ∧ (j : Int) = i then x else _)
    rw [if_neg (fun q => hj (by have := q.2; omega))]
theorem sm_aast (C : sm_C p R s m meth c G z S0 Fin) {k x : Nat} {i : Int} (h : (((am_kd S k).1 = 2 ∧ am_kd S x = (4, 3)) ∨ ((am_kd S k).1 = 3 ∧ am_kd S x = (4, 2))) ∧ 0 ≤ i ∧ i < ((am_kd S k).2 : Int) ∧ i ≤ 2147483647) (hd : decode (pg_c z) pc = .ok (.aastore, 1)) (kk : sm_W p l e R s m args below meth c Q G z S0 (pc + 1) ls st (am_set S k i x) M) : sm_W p l e R s m args below meth c Q G z S0 pc ls (am_r x :: am_i i :: am_r k :: st) S M := by
  intro H locs A hs
  have hin := sm_kd_in (S := S) (k := k) (by omega)
  have hxn : (am_kd S x).1 ≠ 9 := by rcases h.1 with ⟨-, h1⟩ | ⟨-, h1⟩ <;> rw [h1] <;> decide
  have hix := sm_kd_in hxn
  have hg := sm_w_get (G := G) (S := S) (M := M) hin
  have hgx := sm_w_get (G := G) (S := S) (M := M) hix
  rw [List.map_cons, List.map_cons, List.map_cons, sm_v_r hin.1, sm_v_r hix.1]
  rcases h.1 with ⟨h1, h2⟩ | ⟨h1, h2⟩
  · rw [sm_e_ref h1 (Or.inl rfl)] at hg
    rw [sm_e_obj h2] at hgx
    refine va_astq C.1 C.2.1 C.2.2.2.2.2.1.2.2.2 hs.1 (sm_D G S M) hs.2.2.1 (k - 1) 2 (x - 1) 3 hg rfl hgx (sm_cls_ok 3 (by omega)).1 (sm_in h.2.1 h.2.2.1 h.2.2.2) hd (fun H1 locs1 hP1 _ hS1 => ?_)
    refine sm_stored (S' := am_set S k i x) C hs hin rfl rfl kk ?_ hS1
    rw [sm_upq ⟨h.2.1, h.2.2.2⟩ hix.1] at hP1
    have e : sm_e G (am_set S k i x) M k = _ := sm_e_ref (G := G) (S := am_set S k i x) (M := M) (k := k) (t := 2) h1 (Or.inl rfl)
    rw [sm_kd_set] at e
    rw [← e, sm_w_set (G := G) (S := S) (M := M) (S' := am_set S k i x) (M' := M) rfl hin (fun j hj => sm_e_set S M hj)] at hP1
    exact hP1
  · rw [sm_e_ref h1 (Or.inr rfl)] at hg
    rw [sm_e_obj h2] at hgx
    refine va_astq C.1 C.2.1 C.2.2.2.2.2.1.2.2.2 hs.1 (sm_D G S M) hs.2.2.1 (k - 1) 3 (x - 1) 2 hg rfl hgx (sm_cls_ok 2 (by omega)).1 (sm_in h.2.1 h.2.2.1 h.2.2.2) hd (fun H1 locs1 hP1 _ hS1 => ?_)
    refine sm_stored (S' := am_set S k i x) C hs hin rfl rfl kk ?_ hS1
    rw [sm_upq ⟨h.2.1, h.2.2.2⟩ hix.1] at hP1
    have e : sm_e G (am_set S k i x) M k = _ := sm_e_ref (G := G) (S := am_set S k i x) (M := M) (k := k) (t := 3) h1 (Or.inr rfl)
    rw [sm_kd_set] at e
    rw [← e, sm_w_set (G := G) (S := S) (M := M) (S' := am_set S k i x) (M' := M) rfl hin (fun j hj => sm_e_set S M hj)] at hP1
    exact hP1
theorem sm_fl {k ci b : Nat} (C : sm_C p R s m meth c G z S0 Fin) (hb : b < pg_nf ci) (hc : ci < 10) (hf : pg_fl.any (fun q => decide (q.1 = (pg_oc z, k, ci, b))) = true) : (Cond.fieldLink (pg_cn (pg_oc z)) k (pg_fT ci b).1 (pg_fT ci b).2.1 (pg_fT ci b).2.2.1).before args s = true := by
  rw [(sm_cls_ok ci hc).2.2.2.2 b hb]
  exact sm_tb C (pg_key pg_fl_ok hf) rfl
theorem sm_get (C : sm_C p R s m meth c G z S0 Fin) {k q ci b : Nat} (hk : am_kd S k = (4, ci)) (hc : ci < 10) (hb : b < pg_nf ci) (hf : pg_fl.any (fun r => decide (r.1 = (pg_oc z, q, ci, b))) = true) (hd : decode (pg_c z) pc = .ok (.getfield q, 3)) {v : am_V} (hv : v = if pg_isr ci b = true then am_r (am_rf S k (b : Int)) else am_i (M k (b : Int)))
    (kk : sm_W p l e R s m args below meth c Q G z S0 (pc + 3) ls (v :: st) S M) : sm_W p l e R s m args below meth c Q G z S0 pc ls (am_r k :: st) S M := by
  intro H locs A hs
  have hin := sm_kd_in (S := S) (k := k) (by rw [hk]; show (4 : Nat) ≠ 9; decide)
  have hg := sm_w_get (G := G) (S := S) (M := M) hin
  rw [sm_e_obj hk] at hg
  rw [List.map_cons, sm_v_r hin.1]
  have k1 := kk H locs A hs
  refine va_get C.1 C.2.1 (args := args) (Ts := u_ws (pg_cn ci) (pg_fT ci) (pg_nf ci)) (fun w hw => sm_tb C ((sm_cls_ok ci hc).2.1 w hw) (sm_u_good w hw)) (fun w hw => hw) C.2.2.2.1 C.2.2.2.2.2.1.2.2.2 hs.1 (k - 1) hg (sm_cls_ok ci hc).1 b hb (sm_fl C hb hc hf) (fun _ h9 => h9) (v := sm_v G v) ?_ hd k1
  rw [sm_f_get hb, hv]
  by_cases hr : pg_isr ci b = true
  · rw [if_pos hr, if_pos hr]; rfl
  · rw [if_neg hr, if_neg hr]; rfl
theorem sm_put (C : sm_C p R s m meth c G z S0 Fin) {k q ci b : Nat} {x : Int} (hk : am_kd S k = (4, ci)) (hc : ci < 10) (hb : b < pg_nf ci) (hf : pg_fl.any (fun r => decide (r.1 = (pg_oc z, q, ci, b))) = true) (hd : decode (pg_c z) pc = .ok (.putfield q, 3)) (hr : ¬ pg_isr ci b = true) (hfin : (pg_fT ci b).2.2.2 = false) (hty : pg_ft ci b = .int ∨ pg_ft ci b = .boolean ∧ (x = 0 ∨ x = 1))
    (kk : sm_W p l e R s m args below meth c Q G z S0 (pc + 3) ls st S (am_wr M k (b : Int) x)) : sm_W p l e R s m args below meth c Q G z S0 pc ls (am_i x :: am_r k :: st) S M := by
  intro H locs A hs
  have hin := sm_kd_in (S := S) (k := k) (by rw [hk]; show (4 : Nat) ≠ 9; decide)
  have hg := sm_w_get (G := G) (S := S) (M := M) hin
  rw [sm_e_obj hk] at hg
  rw [List.map_cons, List.map_cons, sm_v_r hin.1]
  obtain ⟨c1, c2, c3, c4, c5⟩ := sm_cls_ok ci hc
  have hnf : narrow (pg_ft ci b) (sm_v G (am_i x)) = sm_v G (am_i x) ∧ fits (pg_ft ci b) (sm_v G (am_i x)) = true := by
    rcases hty with h | ⟨h, rfl | rfl⟩
    · rw [h]; exact ⟨rfl, rfl⟩
    · rw [h]; exact ⟨rfl, rfl⟩
    · rw [h]; exact ⟨rfl, rfl⟩
  refine va_put C.1 C.2.1 (args := args) (Ts := u_ws (pg_cn ci) (pg_fT ci) (pg_nf ci)) (fun w hw => sm_tb C (c2 w hw) (sm_u_good w hw)) (fun w hw => hw) (pg_ft ci) c3 c4 C.2.2.2.1 C.2.2.2.2.2.1.2.2.2 hs.1 (sm_D G S M) hs.2.2.1 (k - 1) hg c1 b hb (sm_fl C hb hc hf) (fun _ h9 => h9) hfin (c3 b hb) hnf.1 hnf.2 (by rw [sm_f_len]; exact hb) hd (fun H1 locs1 hP1 _ hS1 => ?_)
  refine sm_stored C hs hin rfl rfl kk ?_ hS1
  rw [show sm_v G (am_i x) = Value.int (Int32.ofInt x) from rfl, sm_f_wr hb hr, ← sm_e_obj (G := G) (M := am_wr M k (b : Int) x) hk, sm_w_set rfl hin (fun j hj => sm_kd_wr S M hj)] at hP1
  exact hP1
theorem sm_putr (C : sm_C p R s m meth c G z S0 Fin) {k q ci b x : Nat} (hk : am_kd S k = (4, ci)) (hx : 0 < x) (hc : ci < 10) (hb : b < pg_nf ci) (hf : pg_fl.any (fun r => decide (r.1 = (pg_oc z, q, ci, b))) = true) (hd : decode (pg_c z) pc = .ok (.putfield q, 3)) (hr : pg_isr ci b = true) (hfin : (pg_fT ci b).2.2.2 = true) (hnm : (pg_y z).name = "<init>") (hoc : pg_oc z = ci)
    (kk : sm_W p l e R s m args below meth c Q G z S0 (pc + 3) ls st (am_set S k (b : Int) x) M) : sm_W p l e R s m args below meth c Q G z S0 pc ls (am_r x :: am_r k :: st) S M := by
  intro H locs A hs
  have hin := sm_kd_in (S := S) (k := k) (by rw [hk]; show (4 : Nat) ≠ 9; decide)
  have hg := sm_w_get (G := G) (S := S) (M := M) hin
  rw [sm_e_obj hk] at hg
  rw [List.map_cons, List.map_cons, sm_v_r hin.1, sm_v_r hx]
  obtain ⟨c1, c2, c3, c4, c5⟩ := sm_cls_ok ci hc
  have hnf : narrow (pg_ft ci b) (.ref (sm_b G + x)) = .ref (sm_b G + x) ∧ fits (pg_ft ci b) (.ref (sm_b G + x)) = true := by
    unfold pg_isr at hr
    cases hq : pg_ft ci b with
    | object n => exact ⟨rfl, rfl⟩
    | array n => exact ⟨rfl, rfl⟩
    | _ => rw [hq] at hr; cases hr
  refine va_putF C.1 C.2.1 (args := args) (Ts := u_ws (pg_cn ci) (pg_fT ci) (pg_nf ci)) (fun w hw => sm_tb C (c2 w hw) (sm_u_good w hw)) (fun w hw => hw) (pg_ft ci) c3 c4 C.2.2.2.1 C.2.2.2.2.2.1.2.2.2 hs.1 (sm_D G S M) hs.2.2.1 (k - 1) hg c1 b hb (sm_fl C hb hc hf) (fun _ h9 => h9) hfin (C.2.2.2.2.1 hnm) (by rw [c5 b hb, hoc]) (c3 b hb) hnf.1 hnf.2 (by rw [sm_f_len]; exact hb) hd (fun H1 locs1 hP1 _ hS1 => ?_)
  refine sm_stored (S' := am_set S k (b : Int) x) C hs hin rfl rfl kk ?_ hS1
  have e1 : Value.ref (sm_b G + x) = va_rf (sm_o G x) := by rw [sm_o_pos hx]; rfl
  have e2 : sm_e G (am_set S k (b : Int) x) M k = _ := sm_e_obj (G := G) (S := am_set S k (b : Int) x) (M := M) (k := k) hk
  rw [e1, sm_f_sr hb hr, ← e2, sm_w_set (G := G) (S := S) (M := M) (S' := am_set S k (b : Int) x) (M' := M) rfl hin (fun j hj => sm_e_set S M hj)] at hP1
  exact hP1
end SM2
end
section
/-! new cells, array copies, Math, calls -/
theorem sm_e_new (G : sm_G) (S : am_S) (M : am_M) (kd : Nat × Nat) (n : Nat) {j : Nat} (hj : j ≤ am_n S) : sm_e G (am_new S kd n) (am_zr M (am_n S + 1)) j = sm_e G S M j := by
  have hne : ¬ j = S.2.1.1 + 1 := by have : am_n S = S.2.1.1 := rfl; omega
  have e1 : am_kd (am_new S kd n) j = am_kd S j := by
    unfold am_kd am_new
    have h1 : (0 < j ∧ j ≤ S.2.1.1 + 1) ↔ (0 < j ∧ j ≤ S.2.1.1) := by constructor <;> intro h <;> exact ⟨h.1, by omega⟩
    simp only [h1, if_neg hne]
  have e2 : ∀ x : Int, am_rf (am_new S kd n) j x = am_rf S j x := fun x => by unfold am_rf am_new; exact if_neg hne
  have e3 : ∀ x : Int, am_zr M (am_n S + 1) j x = M j x := fun x => by unfold am_zr; exact if_neg hne
  unfold sm_e sm_f
  simp only [e1, e2, e3]
theorem sm_kd_new (S : am_S) (kd : Nat × Nat) (n : Nat) : am_kd (am_new S kd n) (am_n S + 1) = kd := by
  unfold am_kd am_new
  have : 0 < am_n S + 1 ∧ am_n S + 1 ≤ S.2.1.1 + 1 := ⟨by omega, Nat.le_refl _⟩
  rw [if_pos this]
  exact if_pos rfl
theorem sm_w_new (G : sm_G) (S : am_S) (M : am_M) (kd : Nat × Nat) (n : Nat) : sm_w G (am_new S kd n) (am_zr M (am_n S + 1)) = sm_w G S M ++ [(sm_b G + (am_n S + 1), sm_e G (am_new S kd n) (am_zr M (am_n S + 1)) (am_n S + 1))] := by
  have hn : am_n (am_new S kd n) = am_n S + 1 := rfl
  unfold sm_w
  rw [hn, List.range_succ, List.map_append]
  congr 1
  apply List.map_congr_left
  intro k hk
  rw [sm_e_new G S M kd n (by have := List.mem_range.mp hk; omega)]
theorem sm_zr0 (M : am_M) (k : Nat) (j : Int) : am_zr M k k j = 0 := by unfold am_zr; exact if_pos rfl
theorem sm_rf0 (S : am_S) (kd : Nat × Nat) (n : Nat) (j : Int) : am_rf (am_new S kd n) (am_n S + 1) j = 0 := by unfold am_rf am_new; exact if_pos rfl
section SM3
variable {p : Program} {l : Launch} {e : Env} {R : Room} {s : State} {m : MethodId} {args : Array Value} {below : List Frame} {meth : Method} {c : Code} {Q : State → Prop} {G : sm_G} {z : Nat} {S0 : am_S} {Fin : am_Z} {pc : Nat} {ls : am_L} {st : am_K} {S : am_S} {M : am_M}
/-- behind a making: the new cell stands where the abstract one does -/
theorem sm_made (C : sm_C p R s m meth c G z S0 Fin) {H : Heap} {locs : List Loc} {A : Array Slot} (hs : sm_St s G z S0 ls S M H locs A) {kd : Nat × Nat} {n : Nat} {pc' : Nat}
    (kk : sm_W p l e R s m args below meth c Q G z S0 pc' ls (am_r (am_n S + 1) :: st) (am_new S kd n) (am_zr M (am_n S + 1))) {H1 : Heap} {q : Nat} {E : va_E} (hE : E = sm_e G (am_new S kd n) (am_zr M (am_n S + 1)) (am_n S + 1))
    (hP : va_P G.1 pg_cls (sm_w G S M ++ [(q, E)]) H1) (hD : va_D (sm_A G) (sm_w G S M ++ [(q, E)])) (hS : va_S (sm_A G) s.heap H1 locs) : W p l e R s m args below meth c H1 locs (am_n S - am_n S0 + 1) (am_sl S - am_sl S0 + n) Q (F0 m pc' A (.ref q :: st.map (sm_v G))) := by
  refine sm_size (fun hz => ?_)
  have hc := C.2.2.2.2.2.2.1
  have hle := hs.2.2.2.2.1
  have hle2 := hs.2.2.2.2.2.1
  have hlast : (sm_w G S M ++ [(q, E)])[am_n S]? = some (q, E) := by
    rw [List.getElem?_append_right (by rw [sm_w_len]; exact Nat.le_refl _), sm_w_len, Nat.sub_self]; rfl
  have hlt : q < H1.size := (hP _ _ hlast).lt
  have hA : sm_b G < q := hD.2 _ _ hlast
  have hne : ∀ j, j < am_n S → q ≠ sm_b G + (j + 1) := by
    intro j hj hq
    have g := sm_w_get (G := G) (S := S) (M := M) (k := j + 1) ⟨by omega, by omega⟩
    rw [show j + 1 - 1 = j by omega] at g
    have g2 : (sm_w G S M ++ [(q, E)])[j]? = some (sm_b G + (j + 1), sm_e G S M (j + 1)) := by
      rw [List.getElem?_append_left (by rw [sm_w_len]; exact hj)]; exact g
    have := hD.1 _ _ _ _ hlast g2 hq
    omega
  have hq : q = sm_b G + (am_n S + 1) := by
    rcases Nat.lt_or_ge q (sm_b G + (am_n S + 1)) with h1 | h1
    · exact absurd (by omega) (hne (q - sm_b G - 1) (by omega))
    · omega
  subst hq
  have hn1 : am_n (am_new S kd n) = am_n S + 1 := rfl
  have hn2 : am_sl (am_new S kd n) = am_sl S + n := rfl
  have k1 := kk H1 locs A ⟨by rw [sm_w_new, ← hE]; exact hP, by omega, hS, hs.2.2.2.1, by omega, by omega, hs.2.2.2.2.2.2⟩
  rw [hn1, hn2, List.map_cons, sm_v_r (by omega), show am_n S + 1 - am_n S0 = am_n S - am_n S0 + 1 by omega, show am_sl S + n - am_sl S0 = am_sl S - am_sl S0 + n by omega] at k1
  exact k1
theorem sm_room (C : sm_C p R s m meth c G z S0 Fin) {H : Heap} {locs : List Loc} {A : Array Slot} (hs : sm_St s G z S0 ls S M H locs A) {n : Nat} (h1 : am_n S + 1 ≤ am_n Fin.2.1) (h2 : am_sl S + n ≤ am_sl Fin.2.1) : am_n S - am_n S0 + 1 ≤ R.cells ∧ am_sl S - am_sl S0 + n ≤ R.slots := by
  have a := C.2.2.2.2.2.2.2.2.1
  have b := hs.2.2.2.2.1
  have d := hs.2.2.2.2.2.1
  exact ⟨by omega, by omega⟩
theorem sm_new (C : sm_C p R s m meth c G z S0 Fin) {q ci b : Nat} (h1 : am_n S + 1 ≤ am_n Fin.2.1) (h2 : am_sl S + b ≤ am_sl Fin.2.1) (hc : ci < 10) (hb : b = pg_nf ci) (hf : pg_nl.any (fun r => decide (r.1 = (pg_oc z, q, ci))) = true) (hd : decode (pg_c z) pc = .ok (.new q, 3))
    (kk : sm_W p l e R s m args below meth c Q G z S0 (pc + 3) ls (am_r (am_n S + 1) :: st) (am_new S (4, ci) b) (am_zr M (am_n S + 1))) : sm_W p l e R s m args below meth c Q G z S0 pc ls st S M := by
  intro H locs A hs
  subst hb
  obtain ⟨c1, c2, c3, c4, c5⟩ := sm_cls_ok ci hc
  obtain ⟨r1, r2⟩ := sm_room C hs h1 h2
  have hi : pg_il.any (fun q => decide (q.1 = ci)) = true := by
    have : ∀ ci, ci < 10 → pg_il.any (fun q => decide (q.1 = ci)) = true := by decide +kernel
    exact this ci hc
  have hz : pg_zl.any (fun q => decide (q.1 = ci)) = true := by
    have : ∀ ci, ci < 10 → pg_zl.any (fun q => decide (q.1 = ci)) = true := by decide +kernel
    exact this ci hc
  have hA : ∀ q, s.heap.size ≤ q → sm_A G q := fun q h => by have := C.2.2.2.2.2.2.1; show sm_b G < q; omega
  refine va_new (fs := sm_f G (am_new S (4, ci) (pg_nf ci)) (am_zr M (am_n S + 1)) ci (am_n S + 1)) C.1 C.2.1 (args := args) (Ts := u_ws (pg_cn ci) (pg_fT ci) (pg_nf ci)) (fun w hw => sm_tb C (c2 w hw) (sm_u_good w hw)) (fun w hw => hw) (pg_ft ci) c3 C.2.2.2.1 (sm_tb C (pg_key pg_nl_ok hf) rfl) (sm_tb C (pg_key pg_il_ok hi) rfl) (sm_tb C (pg_key pg_zl_ok hz) rfl) C.2.2.2.2.2.1.2.2.2 hs.1 (sm_D G S M) hs.2.2.1 hA c1 ?_ r1 r2 hd (fun q1 H1 hP1 hD1 hS1 => ?_)
  · intro j hj
    have hty : ∀ ci, ci < 10 → ∀ j, j < pg_nf ci → pg_isr ci j = true ∨ pg_ft ci j = .int ∨ pg_ft ci j = .boolean := by decide +kernel
    unfold vp_V
    rw [List.getD_eq_getElem?_getD, sm_f_get hj, sm_zr0, sm_rf0]
    rcases hty ci hc j hj with h | h | h
    · rw [if_pos h]
      unfold pg_isr at h
      cases hq : pg_ft ci j with
      | object n => rfl
      | array n => rfl
      | _ => rw [hq] at h; cases h
    · rw [if_neg (by unfold pg_isr; rw [h]; decide), h]; rfl
    · rw [if_neg (by unfold pg_isr; rw [h]; decide), h]; rfl
  · exact sm_made C hs kk (sm_e_obj (sm_kd_new S (4, ci) (pg_nf ci))).symm hP1 hD1 hS1
theorem sm_newa (C : sm_C p R s m meth c G z S0 Fin) {t : ArrayType} {a : Nat} {n : Int} (h : 0 ≤ n ∧ n ≤ 65536) (h1 : am_n S + 1 ≤ am_n Fin.2.1) (h2 : am_sl S + n.toNat ≤ am_sl Fin.2.1) (ht : (t = .int ∧ a = 0) ∨ (t = .boolean ∧ a = 1)) (hd : decode (pg_c z) pc = .ok (.newarray t, 2))
    (kk : sm_W p l e R s m args below meth c Q G z S0 (pc + 2) ls (am_r (am_n S + 1) :: st) (am_new S (a, n.toNat) n.toNat) (am_zr M (am_n S + 1))) : sm_W p l e R s m args below meth c Q G z S0 pc ls (am_i n :: st) S M := by
  intro H locs A hs
  obtain ⟨r1, r2⟩ := sm_room C hs h1 h2
  have hA : ∀ q, s.heap.size ≤ q → sm_A G q := fun q h => by have := C.2.2.2.2.2.2.1; show sm_b G < q; omega
  have hK := C.2.2.2.2.2.1.2.2.2
  have hz : (fun j : Nat => Int32.ofInt (am_zr M (am_n S + 1) (am_n S + 1) (j : Int))) = fun _ => 0 := by funext j; rw [sm_zr0]; rfl
  rcases ht with ⟨rfl, rfl⟩ | ⟨rfl, rfl⟩
  · refine va_newa (atype := .int) (ty := .int) (a0 := (n.toNat, .inl (fun _ => 0))) C.1 C.2.1 (sm_tb C pg_w_ci rfl) rfl hK hs.1 (sm_D G S M) hs.2.2.1 hA (fun cA => rfl) (sm_n0 h.1 (by omega)) (sm_cl h.1 (by omega)) (by show n.toNat * 4 ≤ 536870912; omega) r1 r2 hd (fun q cA H1 hK1 hP1 hD1 hS1 => ?_)
    have e1 : cA = G.2.1 0 := by
      have a1 := (hK1.2 4 (cA, .int) rfl).2
      have a2 := (hK.2 0 (G.2.1 0, .int) rfl).2
      exact Option.some.inj (a1.symm.trans a2)
    refine sm_made C hs kk ?_ hP1 hD1 hS1
    rw [sm_e_int (t := 0) (by rw [sm_kd_new]) (by omega), sm_kd_new, hz, e1]
  · refine va_newa (atype := .boolean) (ty := .boolean) (a0 := (n.toNat, .inl (fun _ => 0))) C.1 C.2.1 (sm_tb C pg_w_cz rfl) rfl hK hs.1 (sm_D G S M) hs.2.2.1 hA (fun cA => rfl) (sm_n0 h.1 (by omega)) (sm_cl h.1 (by omega)) (by show n.toNat * 1 ≤ 536870912; omega) r1 r2 hd (fun q cA H1 hK1 hP1 hD1 hS1 => ?_)
    have e1 : cA = G.2.1 1 := by
      have a1 := (hK1.2 4 (cA, .boolean) rfl).2
      have a2 := (hK.2 1 (G.2.1 1, .boolean) rfl).2
      exact Option.some.inj (a1.symm.trans a2)
    refine sm_made C hs kk ?_ hP1 hD1 hS1
    rw [sm_e_int (t := 1) (by rw [sm_kd_new]) (by omega), sm_kd_new, hz, e1]
theorem sm_anew (C : sm_C p R s m meth c G z S0 Fin) {q a : Nat} {n : Int} (h : 0 ≤ n ∧ n ≤ 65536) (h1 : am_n S + 1 ≤ am_n Fin.2.1) (h2 : am_sl S + n.toNat ≤ am_sl Fin.2.1) (hf : pg_ql.any (fun r => decide (r.1 = (pg_oc z, q, a))) = true) (ht : a = 2 ∨ a = 3) (hd : decode (pg_c z) pc = .ok (.anewarray q, 3))
    (kk : sm_W p l e R s m args below meth c Q G z S0 (pc + 3) ls (am_r (am_n S + 1) :: st) (am_new S (a, n.toNat) n.toNat) (am_zr M (am_n S + 1))) : sm_W p l e R s m args below meth c Q G z S0 pc ls (am_i n :: st) S M := by
  intro H locs A hs
  obtain ⟨r1, r2⟩ := sm_room C hs h1 h2
  have hA : ∀ q, s.heap.size ≤ q → sm_A G q := fun q h => by have := C.2.2.2.2.2.2.1; show sm_b G < q; omega
  have hK := C.2.2.2.2.2.1.2.2.2
  have hz : ∀ b, (fun j : Nat => sm_o G (am_rf (am_new S (b, n.toNat) n.toNat) (am_n S + 1) (j : Int))) = fun _ => none := fun b => by funext j; rw [sm_rf0]; rfl
  have hw := sm_tb (args := args) C (pg_key pg_ql_ok hf) rfl
  rcases ht with rfl | rfl
  · refine va_newq (C := "PersonLines$Life") C.1 C.2.1 C.2.2.2.1 hw C.2.2.2.2.2.1.2.1 hK hs.1 (sm_D G S M) hs.2.2.1 hA (sm_n0 h.1 (by omega)) (sm_cl h.1 (by omega)) (by omega) r1 r2 hd (fun q cA H1 hK1 hP1 hD1 hS1 => ?_)
    have e1 : cA = G.2.1 2 := by
      obtain ⟨_, _, _, _, _, a1⟩ := (hK1.2 4 (cA, .object "PersonLines$Life") rfl).2
      obtain ⟨_, _, _, _, _, a2⟩ := (hK.2 2 (G.2.1 2, .object "PersonLines$Life") rfl).2
      exact Option.some.inj (a1.symm.trans a2)
    refine sm_made C hs kk ?_ hP1 hD1 hS1
    rw [sm_e_ref (t := 2) (by rw [sm_kd_new]) (Or.inl rfl), sm_kd_new, hz, e1]
  · refine va_newq (C := "PersonLines$Image") C.1 C.2.1 C.2.2.2.1 hw C.2.2.2.2.2.1.2.2.1 hK hs.1 (sm_D G S M) hs.2.2.1 hA (sm_n0 h.1 (by omega)) (sm_cl h.1 (by omega)) (by omega) r1 r2 hd (fun q cA H1 hK1 hP1 hD1 hS1 => ?_)
    have e1 : cA = G.2.1 3 := by
      obtain ⟨_, _, _, _, _, a1⟩ := (hK1.2 4 (cA, .object "PersonLines$Image") rfl).2
      obtain ⟨_, _, _, _, _, a2⟩ := (hK.2 3 (G.2.1 3, .object "PersonLines$Image") rfl).2
      exact Option.some.inj (a1.symm.trans a2)
    refine sm_made C hs kk ?_ hP1 hD1 hS1
    rw [sm_e_ref (t := 3) (by rw [sm_kd_new]) (Or.inr rfl), sm_kd_new, hz, e1]
theorem sm_cats {G : sm_G} : ∀ {st : am_K} {n : Nat}, st.length ≤ n → ((st.map (sm_v G)).map fun v => v.category).sum ≤ 2 * n := by
  intro st
  induction st with
  | nil => intro n _; simp
  | cons v r ih =>
    intro n h
    rw [List.length_cons] at h
    have h1 := ih (n := n - 1) (by omega)
    have h2 : (sm_v G v).category ≤ 2 := by rcases lv_cat (sm_v G v) with q | q <;> omega
    simp only [List.map_cons, List.sum_cons]
    simp only [List.map_map] at h1 ⊢
    omega
theorem sm_copy (C : sm_C p R s m meth c G z S0 Fin) {q a d : Nat} {n dp sp : Int} (hr : st.length ≤ 4) (h : (am_kd S a).1 = 0 ∧ (am_kd S d).1 = 0 ∧ 0 ≤ sp ∧ 0 ≤ dp ∧ 0 ≤ n ∧ sp + n ≤ ((am_kd S a).2 : Int) ∧ dp + n ≤ ((am_kd S d).2 : Int) ∧ sp + n ≤ 2147483647 ∧ dp + n ≤ 2147483647) (hf : pg_al.any (fun r => decide (r.1 = (pg_oc z, q))) = true) (hh : 1 ≤ pg_ht z) (hd : decode (pg_c z) pc = .ok (.invokestatic q, 3))
    (kk : sm_W p l e R s m args below meth c Q G z S0 (pc + 3) ls st S (am_cp M a sp d dp n)) : sm_W p l e R s m args below meth c Q G z S0 pc ls (am_i n :: am_i dp :: am_r d :: am_i sp :: am_r a :: st) S M := by
  intro H locs A hs
  obtain ⟨k1, k2, p1, p2, p3, p4, p5, p6, p7⟩ := h
  have ha := sm_kd_in (S := S) (k := a) (by omega)
  have hb := sm_kd_in (S := S) (k := d) (by omega)
  have ga := sm_w_get (G := G) (S := S) (M := M) ha
  have gb := sm_w_get (G := G) (S := S) (M := M) hb
  rw [sm_e_int k1 (by omega)] at ga
  rw [sm_e_int k2 (by omega)] at gb
  simp only [List.map_cons, sm_v_r ha.1, sm_v_r hb.1]
  have hrm := C.2.2.2.2.2.2.2.1
  have hcat := sm_cats (G := G) hr
  refine va_copyi (ty := .int) C.1 C.2.1 (by rw [C.2.2.1, hs.2.2.2.1.1]) C.2.2.2.1 (sm_tb C (pg_key pg_al_ok hf) rfl) (sm_tb C pg_w_an rfl) (sm_tb C pg_w_as rfl) (sm_tb C pg_w_ai rfl) C.2.2.2.2.2.1.2.2.2 hs.1 (sm_D G S M) hs.2.2.1 (a - 1) (d - 1) 0 0 ga gb rfl rfl rfl (sm_n0 p1 (by omega)) (sm_n0 p2 (by omega)) (sm_n0 p3 (by omega)) (by rw [sm_cl p1 (by omega), sm_cl p3 (by omega)]; omega) (by rw [sm_cl p2 (by omega), sm_cl p3 (by omega)]; omega) (fun i _ => rfl) (by omega) (by show _ + 18 ≤ _; omega) hd (fun H1 locs1 hP1 _ hS1 => ?_)
  refine sm_stored C hs hb rfl rfl kk ?_ hS1
  have ev : va_cpy (fun j : Nat => Int32.ofInt (M a (j : Int))) (fun j : Nat => Int32.ofInt (M d (j : Int))) (Int32.ofInt sp).toNatClampNeg (Int32.ofInt dp).toNatClampNeg (Int32.ofInt n).toNatClampNeg = (fun j : Nat => Int32.ofInt (am_cp M a sp d dp n d (j : Int))) := by
    rw [sm_cl p1 (by omega), sm_cl p2 (by omega), sm_cl p3 (by omega)]
    funext j
    unfold va_cpy am_cp
    by_cases hj : dp.toNat ≤ j ∧ j < dp.toNat + n.toNat
    · rw [if_pos hj, if_pos ⟨rfl, by omega, by omega⟩]
      show Int32.ofInt (M a ((sp.toNat + (j - dp.toNat) : Nat) : Int)) = _
      rw [show ((sp.toNat + (j - dp.toNat) : Nat) : Int) = sp + ((j : Int) - dp) by omega]
    · rw [if_neg hj, if_neg (fun q => hj ⟨by omega, by omega⟩)]
  rw [ev, ← sm_e_int (G := G) (M := am_cp M a sp d dp n) k2 (by omega), sm_w_set rfl hb (fun j hj => sm_e_cp S M hj)] at hP1
  exact hP1
theorem sm_max (C : sm_C p R s m meth c G z S0 Fin) {q : Nat} {x y : Int} (hr : st.length ≤ 4) (h : am_Ri x ∧ am_Ri y) (h1 : am_n S ≤ am_n Fin.2.1) (h2 : am_sl S ≤ am_sl Fin.2.1) (hf : pg_xx.any (fun r => decide (r.1 = (pg_oc z, q))) = true) (hh : 1 ≤ pg_ht z) (hd : decode (pg_c z) pc = .ok (.invokestatic q, 3))
    (kk : sm_W p l e R s m args below meth c Q G z S0 (pc + 3) ls (am_i (max x y) :: st) S M) : sm_W p l e R s m args below meth c Q G z S0 pc ls (am_i y :: am_i x :: st) S M := by
  intro H locs A hs
  have hrm := C.2.2.2.2.2.2.2.1
  have hcr := C.2.2.2.2.2.2.2.2.1
  have hcat := sm_cats (G := G) hr
  have b1 := hs.2.2.2.2.1
  have b2 := hs.2.2.2.2.2.1
  refine va_mmax C.1 C.2.1 (by rw [C.2.2.1, hs.2.2.2.1.1]) C.2.2.2.1 (sm_tb C (pg_key pg_xx_ok hf) rfl) (sm_tb C pg_w_xs rfl) (sm_tb C pg_w_mi rfl) (sm_tb C pg_w_xc rfl) (by omega) (by omega) (by omega) (by omega) hd ?_
  have e1 : (if Int32.ofInt x < Int32.ofInt y then Int32.ofInt y else Int32.ofInt x) = Int32.ofInt (max x y) := by
    by_cases hxy : x < y
    · rw [if_pos ((sm_lt h.1 h.2).mpr hxy), show max x y = y by omega]
    · rw [if_neg (fun g => hxy ((sm_lt h.1 h.2).mp g)), show max x y = x by omega]
  rw [e1]
  exact kk H locs A hs
theorem sm_min (C : sm_C p R s m meth c G z S0 Fin) {q : Nat} {x y : Int} (hr : st.length ≤ 4) (h : am_Ri x ∧ am_Ri y) (h1 : am_n S ≤ am_n Fin.2.1) (h2 : am_sl S ≤ am_sl Fin.2.1) (hf : pg_xn.any (fun r => decide (r.1 = (pg_oc z, q))) = true) (hh : 1 ≤ pg_ht z) (hd : decode (pg_c z) pc = .ok (.invokestatic q, 3))
    (kk : sm_W p l e R s m args below meth c Q G z S0 (pc + 3) ls (am_i (min x y) :: st) S M) : sm_W p l e R s m args below meth c Q G z S0 pc ls (am_i y :: am_i x :: st) S M := by
  intro H locs A hs
  have hrm := C.2.2.2.2.2.2.2.1
  have hcr := C.2.2.2.2.2.2.2.2.1
  have hcat := sm_cats (G := G) hr
  have b1 := hs.2.2.2.2.1
  have b2 := hs.2.2.2.2.2.1
  refine va_mmin C.1 C.2.1 (by rw [C.2.2.1, hs.2.2.2.1.1]) C.2.2.2.1 (sm_tb C (pg_key pg_xn_ok hf) rfl) (sm_tb C pg_w_ns rfl) (sm_tb C pg_w_mi rfl) (sm_tb C pg_w_nc rfl) (by omega) (by omega) (by omega) (by omega) hd ?_
  have e1 : (if Int32.ofInt y < Int32.ofInt x then Int32.ofInt y else Int32.ofInt x) = Int32.ofInt (min x y) := by
    by_cases hxy : y < x
    · rw [if_pos ((sm_lt h.2 h.1).mpr hxy), show min x y = y by omega]
    · rw [if_neg (fun g => hxy ((sm_lt h.2 h.1).mp g)), show min x y = x by omega]
  rw [e1]
  exact kk H locs A hs
theorem sm_objinit (C : sm_C p R s m meth c G z S0 Fin) {q k : Nat} (hk : 0 < k) (hr : st.length ≤ 4) (hf : pg_ol.any (fun r => decide (r.1 = (pg_oc z, q))) = true) (hh : 1 ≤ pg_ht z) (hd : decode (pg_c z) pc = .ok (.invokespecial q, 3))
    (kk : sm_W p l e R s m args below meth c Q G z S0 (pc + 3) ls st S M) : sm_W p l e R s m args below meth c Q G z S0 pc ls (am_r k :: st) S M := by
  intro H locs A hs
  have hrm := C.2.2.2.2.2.2.2.1
  have hcat := sm_cats (G := G) hr
  rw [List.map_cons, sm_v_r hk]
  exact W.objInit C.1 C.2.1 C.2.2.2.1 (sm_tb C (pg_key pg_ol_ok hf) rfl) (sm_tb C pg_w_oi rfl) (sm_tb C pg_w_oc rfl) rfl (by show A.size = _; rw [C.2.2.1, hs.2.2.2.1.1]) rfl hd (by omega) (by show 2 * 0 + _ + 12 ≤ _; omega) (kk H locs A hs)
end SM3
end
section
/-! calls, returns, and the simulation -/
/-- a method's start and end, by abstract states -/
def sm_Pc (G : sm_G) (as : List am_V) (S : am_S) (M : am_M) : Array Value → State → Prop := fun v U => v = (as.map (sm_v G)).toArray ∧ sm_K G U ∧ va_P G.1 pg_cls (sm_w G S M) U.heap ∧ U.heap.size = sm_b G + am_n S + 1 ∧ sm_X G S U U.heap
def sm_Qc (G : sm_G) (r : am_Z) : Array Value → State → Outcome → State → Prop := fun _ st oc t => oc = .returned (r.1.map (sm_v G)) ∧ va_P G.1 pg_cls (sm_w G r.2.1 r.2.2) t.heap ∧ t.heap.size = sm_b G + am_n r.2.1 + 1 ∧ va_F (sm_A G) st t
def sm_rm (z : Nat) (S S' : am_S) : Room := { frames := pg_ht z, cells := am_n S' - am_n S, slots := am_sl S' - am_sl S, locals := 30 * pg_ht z }
def sm_ws (z : Nat) : List Cond := [.code (pg_y z) (pg_c z) (pg_mx z) (pg_rt z)]
def sm_Met (l : Launch) (G : sm_G) (z : Nat) (as : List am_V) (S : am_S) (M : am_M) (r : am_Z) : Prop := Met l (pg_y z) (sm_ws z) (sm_rm z S r.2.1) (sm_Pc G as S M) (sm_Qc G r) (am_n r.2.1 - am_n S) (am_sl r.2.1 - am_sl S) (sm_A G)
theorem sm_blind (G : sm_G) (as : List am_V) (S : am_S) (M : am_M) : FrameBlind (sm_Pc G as S M) := by
  intro a U g mk h
  obtain ⟨h1, h2, h3, h4, h5, h6⟩ := h
  exact ⟨h1, sm_K_moved (s := U) (U := U.calling g mk a) (State.WarmedH.refl U) h2, h3, h4, va_X.moved (u := U) (U := U.calling g mk a) (Vm.Alike.refl U.vm) h5, h6⟩
theorem sm_cd : ∀ z, z < 179 → Cond.code (pg_y z) (pg_c z) (pg_mx z) (pg_rt z) ∈ lw_tbl := by
  intro z hz
  match z, hz with
  | 0, _ => exact pg_cd0
  | 1, _ => exact pg_cd1
  | 2, _ => exact pg_cd2
  | 3, _ => exact pg_cd3
  | 4, _ => exact pg_cd4
  | 5, _ => exact pg_cd5
  | 6, _ => exact pg_cd6
  | 7, _ => exact pg_cd7
  | 8, _ => exact pg_cd8
  | 9, _ => exact pg_cd9
  | 10, _ => exact pg_cd10
  | 11, _ => exact pg_cd11
  | 12, _ => exact pg_cd12
  | 13, _ => exact pg_cd13
  | 14, _ => exact pg_cd14
  | 15, _ => exact pg_cd15
  | 16, _ => exact pg_cd16
  | 17, _ => exact pg_cd17
  | 18, _ => exact pg_cd18
  | 19, _ => exact pg_cd19
  | 20, _ => exact pg_cd20
  | 21, _ => exact pg_cd21
  | 22, _ => exact pg_cd22
  | 23, _ => exact pg_cd23
  | 24, _ => exact pg_cd24
  | 25, _ => exact pg_cd25
  | 26, _ => exact pg_cd26
  | 27, _ => exact pg_cd27
  | 28, _ => exact pg_cd28
  | 29, _ => exact pg_cd29
  | 30, _ => exact pg_cd30
  | 31, _ => exact pg_cd31
  | 32, _ => exact pg_cd32
  | 33, _ => exact pg_cd33
  | 34, _ => exact pg_cd34
  | 35, _ => exact pg_cd35
  | 36, _ => exact pg_cd36
  | 37, _ => exact pg_cd37
  | 38, _ => exact pg_cd38
  | 39, _ => exact pg_cd39
  | 40, _ => exact pg_cd40
  | 41, _ => exact pg_cd41
  | 42, _ => exact pg_cd42
  | 43, _ => exact pg_cd43
  | 44, _ => exact pg_cd44
  | 45, _ => exact pg_cd45
  | 46, _ => exact pg_cd46
  | 47, _ => exact pg_cd47
  | 48, _ => exact pg_cd48
  | 49, _ => exact pg_cd49
  | 50, _ => exact pg_cd50
  | 51, _ => exact pg_cd51
  | 52, _ => exact pg_cd52
  | 53, _ => exact pg_cd53
  | 54, _ => exact pg_cd54
  | 55, _ => exact pg_cd55
  | 56, _ => exact pg_cd56
  | 57, _ => exact pg_cd57
  | 58, _ => exact pg_cd58
  | 59, _ => exact pg_cd59
  | 60, _ => exact pg_cd60
  | 61, _ => exact pg_cd61
  | 62, _ => exact pg_cd62
  | 63, _ => exact pg_cd63
  | 64, _ => exact pg_cd64
  | 65, _ => exact pg_cd65
  | 66, _ => exact pg_cd66
  | 67, _ => exact pg_cd67
  | 68, _ => exact pg_cd68
  | 69, _ => exact pg_cd69
  | 70, _ => exact pg_cd70
  | 71, _ => exact pg_cd71
  | 72, _ => exact pg_cd72
  | 73, _ => exact pg_cd73
  | 74, _ => exact pg_cd74
  | 75, _ => exact pg_cd75
  | 76, _ => exact pg_cd76
  | 77, _ => exact pg_cd77
  | 78, _ => exact pg_cd78
  | 79, _ => exact pg_cd79
  | 80, _ => exact pg_cd80
  | 81, _ => exact pg_cd81
  | 82, _ => exact pg_cd82
  | 83, _ => exact pg_cd83
  | 84, _ => exact pg_cd84
  | 85, _ => exact pg_cd85
  | 86, _ => exact pg_cd86
  | 87, _ => exact pg_cd87
  | 88, _ => exact pg_cd88
  | 89, _ => exact pg_cd89
  | 90, _ => exact pg_cd90
  | 91, _ => exact pg_cd91
  | 92, _ => exact pg_cd92
  | 93, _ => exact pg_cd93
  | 94, _ => exact pg_cd94
  | 95, _ => exact pg_cd95
  | 96, _ => exact pg_cd96
  | 97, _ => exact pg_cd97
  | 98, _ => exact pg_cd98
  | 99, _ => exact pg_cd99
  | 100, _ => exact pg_cd100
  | 101, _ => exact pg_cd101
  | 102, _ => exact pg_cd102
  | 103, _ => exact pg_cd103
  | 104, _ => exact pg_cd104
  | 105, _ => exact pg_cd105
  | 106, _ => exact pg_cd106
  | 107, _ => exact pg_cd107
  | 108, _ => exact pg_cd108
  | 109, _ => exact pg_cd109
  | 110, _ => exact pg_cd110
  | 111, _ => exact pg_cd111
  | 112, _ => exact pg_cd112
  | 113, _ => exact pg_cd113
  | 114, _ => exact pg_cd114
  | 115, _ => exact pg_cd115
  | 116, _ => exact pg_cd116
  | 117, _ => exact pg_cd117
  | 118, _ => exact pg_cd118
  | 119, _ => exact pg_cd119
  | 120, _ => exact pg_cd120
  | 121, _ => exact pg_cd121
  | 122, _ => exact pg_cd122
  | 123, _ => exact pg_cd123
  | 124, _ => exact pg_cd124
  | 125, _ => exact pg_cd125
  | 126, _ => exact pg_cd126
  | 127, _ => exact pg_cd127
  | 128, _ => exact pg_cd128
  | 129, _ => exact pg_cd129
  | 130, _ => exact pg_cd130
  | 131, _ => exact pg_cd131
  | 132, _ => exact pg_cd132
  | 133, _ => exact pg_cd133
  | 134, _ => exact pg_cd134
  | 135, _ => exact pg_cd135
  | 136, _ => exact pg_cd136
  | 137, _ => exact pg_cd137
  | 138, _ => exact pg_cd138
  | 139, _ => exact pg_cd139
  | 140, _ => exact pg_cd140
  | 141, _ => exact pg_cd141
  | 142, _ => exact pg_cd142
  | 143, _ => exact pg_cd143
  | 144, _ => exact pg_cd144
  | 145, _ => exact pg_cd145
  | 146, _ => exact pg_cd146
  | 147, _ => exact pg_cd147
  | 148, _ => exact pg_cd148
  | 149, _ => exact pg_cd149
  | 150, _ => exact pg_cd150
  | 151, _ => exact pg_cd151
  | 152, _ => exact pg_cd152
  | 153, _ => exact pg_cd153
  | 154, _ => exact pg_cd154
  | 155, _ => exact pg_cd155
  | 156, _ => exact pg_cd156
  | 157, _ => exact pg_cd157
  | 158, _ => exact pg_cd158
  | 159, _ => exact pg_cd159
  | 160, _ => exact pg_cd160
  | 161, _ => exact pg_cd161
  | 162, _ => exact pg_cd162
  | 163, _ => exact pg_cd163
  | 164, _ => exact pg_cd164
  | 165, _ => exact pg_cd165
  | 166, _ => exact pg_cd166
  | 167, _ => exact pg_cd167
  | 168, _ => exact pg_cd168
  | 169, _ => exact pg_cd169
  | 170, _ => exact pg_cd170
  | 171, _ => exact pg_cd171
  | 172, _ => exact pg_cd172
  | 173, _ => exact pg_cd173
  | 174, _ => exact pg_cd174
  | 175, _ => exact pg_cd175
  | 176, _ => exact pg_cd176
  | 177, _ => exact pg_cd177
  | 178, _ => exact pg_cd178
  | z + 179, h => exact absurd h (by omega)
theorem sm_okY {z : Nat} (h : z < 180) : plainName (pg_y z).cls = true ∧ pg_cn (pg_oc z) = (pg_y z).cls ∧ ((pg_y z).cls ≠ "java/lang/invoke/MethodHandle" ∧ (pg_y z).cls ≠ "java/lang/invoke/VarHandle") ∧ pg_mx z ≤ 10 ∧ pg_oc z < 13 ∧ pg_ht z ≤ 8 := by
  have h1 := List.all_eq_true.mp pg_okY_all z (List.mem_range.mpr h)
  unfold pg_okY at h1
  simp only [Bool.and_eq_true, decide_eq_true_eq] at h1
  exact ⟨h1.1.1.1.1.1, h1.1.1.1.1.2, h1.1.1.1.2, h1.1.1.2, h1.1.2, h1.2⟩
section SM4
variable {p : Program} {l : Launch} {e : Env} {R : Room} {s : State} {m : MethodId} {args : Array Value} {below : List Frame} {meth : Method} {c : Code} {Q : State → Prop} {G : sm_G} {z : Nat} {S0 : am_S} {Fin : am_Z} {pc : Nat} {ls : am_L} {st : am_K} {S : am_S} {M : am_M}
/-- behind a call -/
theorem sm_back (C : sm_C p R s m meth c G z S0 Fin) {H : Heap} {locs : List Loc} {A : Array Slot} (hs : sm_St s G z S0 ls S M H locs A) {r : am_Z} {st0 : List Value} {a : Array Value} (hn : am_n S ≤ am_n r.2.1 ∧ am_sl S ≤ am_sl r.2.1) (h1 : r.2.1.1 = S.1)
    (hr : va_Run p l e R s m args below meth c H locs (am_n S - am_n S0) (am_sl S - am_sl S0) (am_n r.2.1 - am_n S) (am_sl r.2.1 - am_sl S) (F0 m pc A st0) (st.map (sm_v G)) (sm_Qc G r a) (sm_A G))
    (kk : sm_W p l e R s m args below meth c Q G z S0 (pc + 3) ls (am_push r.1 st) r.2.1 r.2.2) : W p l e R s m args below meth c H locs (am_n S - am_n S0) (am_sl S - am_sl S0) Q (F0 m pc A st0) := by
  intro T hT X
  obtain ⟨v, st₀, t, T', L, h0, X', hL, e1, e2, ⟨hv, hP, hz, hF⟩, stp⟩ := hr T hT X
  have hv : v = r.1.map (sm_v G) := Outcome.returned.inj hv
  subst hv
  have hS := hs.2.2.1
  have hle := hs.2.2.2.2.1
  have hle2 := hs.2.2.2.2.2.1
  obtain ⟨f1, f2⟩ := hF
  rw [h0] at f1 f2
  have hS' : va_S (sm_A G) s.heap T'.heap (locs ++ L) := by
    refine ⟨Nat.le_trans hS.1 (by rw [e1]; exact f1), fun q q1 q2 => ?_, fun q hq => ?_⟩
    · rw [e1, f2 q (Nat.lt_of_lt_of_le q1 hS.1) q2]; exact hS.2.1 q q1 q2
    · rcases List.mem_append.mp hq with h | h
      · exact hS.2.2 q h
      · exact hL q h
  have k1 := kk T'.heap (locs ++ L) A ⟨by rw [e1]; exact hP, by rw [e1]; exact hz, hS', hs.2.2.2.1, by omega, by omega, h1.trans hs.2.2.2.2.2.2⟩
  have ec : am_n r.2.1 - am_n S0 = am_n S - am_n S0 + (am_n r.2.1 - am_n S) := by omega
  have es : am_sl r.2.1 - am_sl S0 = am_sl S - am_sl S0 + (am_sl r.2.1 - am_sl S) := by omega
  rw [ec, es] at k1
  obtain ⟨t2, a1, b1⟩ := k1 T' rfl X'
  refine ⟨t2, stp t2 ?_, b1⟩
  have ef : ({ F0 m pc A st0 with pc := (F0 m pc A st0).pc + 3, stack := (r.1.map (sm_v G)).toList ++ st.map (sm_v G) } : JFrame) = F0 m (pc + 3) A ((am_push r.1 st).map (sm_v G)) := by
    cases r.1 with
    | none => rfl
    | some v => rfl
  rw [ef]
  exact a1
theorem sm_callB (C : sm_C p R s m meth c G z S0 Fin) {y n q : Nat} {r : am_Z} (hy : y < 179) (hh : pg_ht y < pg_ht z) (hp : pg_pn y = some n) (hl : (Cond.methodLink (pg_cn (pg_oc z)) q (pg_y y)).before args s = true) : CallB R s args (pg_cn (pg_oc z)) q (pg_y y) (pg_c y) (pg_mx y) (pg_rt y) (sm_ws y) (sm_rm y S r.2.1) (am_n r.2.1 - am_n S) (am_sl r.2.1 - am_sl S) n := by
  obtain ⟨o1, o2, o3, o4, o5, o6⟩ := sm_okY (z := y) (by omega)
  have hrm := C.2.2.2.2.2.2.2.1
  have hcode := sm_cd y hy
  have hz : pg_zl.any (fun q => decide (q.1 = pg_oc y)) = true := by
    have : ∀ ci, ci < 13 → pg_zl.any (fun q => decide (q.1 = ci)) = true := by decide +kernel
    exact this _ o5
  have hini : (Cond.initialized (pg_y y).cls).before args s = true := by
    have h := sm_tb (args := args) C (pg_key pg_zl_ok hz) rfl
    unfold pg_zC at h
    rw [o2] at h
    exact h
  refine ⟨rfl, rfl, by show pg_ht y + 1 ≤ _; omega, by show 8 + (pg_mx y + 11) + 30 * pg_ht y ≤ _; omega, ?_, List.mem_singleton.mpr rfl, sm_tb C hcode rfl, hini, o3, fun sig h => ?_, hl⟩
  · intro w hw a' U hW
    rw [List.mem_singleton.mp hw]
    exact word_at hW (good_of_word (by rfl)) (sm_tb (args := args) C hcode rfl)
  · unfold pg_pn at hp
    rw [h] at hp
    exact (Option.some.inj hp).symm
theorem sm_pre (C : sm_C p R s m meth c G z S0 Fin) {H : Heap} {locs : List Loc} {A : Array Slot} (hs : sm_St s G z S0 ls S M H locs A) {as : List am_V} : ∀ U : State, U.heap = H → s.WarmedH U.vm → sm_Pc G as S M (as.map (sm_v G)).toArray U := by
  intro U hU hW
  obtain ⟨hX, hb⟩ := C.2.2.2.2.2.2.2.2.2.2
  obtain ⟨e1, e2⟩ := sm_sn_eq hs.2.2.2.2.2.2
  refine ⟨rfl, sm_K_moved hW C.2.2.2.2.2.1, by rw [hU]; exact hs.1, by rw [hU]; exact hs.2.1, ?_, hb⟩
  rw [hU]
  have h1 := (hX.kept (H1 := H) (hs.2.2.1.2.1 _ (by have := C.2.2.2.2.2.2.1; omega) (Nat.not_lt.mpr hb))).moved hW.alike
  have e3 : (fun j : Nat => Int32.ofInt (am_sx S (j : Int))) = fun j : Nat => Int32.ofInt (am_sx S0 (j : Int)) := by funext j; rw [e2]
  rw [e1, e3]
  exact h1
theorem sm_fits (C : sm_C p R s m meth c G z S0 Fin) {H : Heap} {locs : List Loc} {A : Array Slot} (hs : sm_St s G z S0 ls S M H locs A) {r : am_Z} (hn : am_n S ≤ am_n r.2.1 ∧ am_sl S ≤ am_sl r.2.1) (hf : am_n r.2.1 ≤ am_n Fin.2.1 ∧ am_sl r.2.1 ≤ am_sl Fin.2.1) : am_n S - am_n S0 + (am_n r.2.1 - am_n S) ≤ R.cells ∧ am_sl S - am_sl S0 + (am_sl r.2.1 - am_sl S) ≤ R.slots := by
  have a := C.2.2.2.2.2.2.2.2.1
  have b := hs.2.2.2.2.1
  have d := hs.2.2.2.2.2.1
  exact ⟨by omega, by omega⟩
theorem sm_rest {G : sm_G} {st : am_K} {m : MethodId} {pc : Nat} {A : Array Slot} {st0 : List Value} (h : st.length ≤ 4) : 2 * (F0 m pc A st0).monitorRoom + ((st.map (sm_v G)).map fun v => v.category).sum ≤ 8 := lv_room (by have := sm_cats (G := G) h; omega)
theorem sm_callV (C : sm_C p R s m meth c G z S0 Fin) {y q k n : Nat} {as : List am_V} {r : am_Z} (hM : sm_Met l G y (am_r k :: as) S M r) (hk : am_kd S k = (4, pg_oc y)) (hy : y < 179) (hh : pg_ht y < pg_ht z) (hn1 : as.length = n) (hp : pg_pn y = some n) (hf : pg_ml.any (fun t => decide (t.1 = (pg_oc z, q, y))) = true) (hse : pg_el.any (fun t => decide (t.1 = y)) = true) (hin : pg_vl.any (fun t => decide (t.1 = y)) = true) (hc : pg_oc y < 10)
    (hrl : st.length ≤ 4) (hn : am_n S ≤ am_n r.2.1 ∧ am_sl S ≤ am_sl r.2.1) (hN : am_n r.2.1 ≤ am_n Fin.2.1 ∧ am_sl r.2.1 ≤ am_sl Fin.2.1) (h1 : r.2.1.1 = S.1) (hd : decode (pg_c z) pc = .ok (.invokevirtual q, 3))
    (kk : sm_W p l e R s m args below meth c Q G z S0 (pc + 3) ls (am_push r.1 st) r.2.1 r.2.2) : sm_W p l e R s m args below meth c Q G z S0 pc ls (as.reverse ++ am_r k :: st) S M := by
  intro H locs A hs
  have hi := sm_kd_in (S := S) (k := k) (by rw [hk]; show (4 : Nat) ≠ 9; decide)
  have hg := sm_w_get (G := G) (S := S) (M := M) hi
  rw [sm_e_obj hk] at hg
  have hpre := sm_pre C hs (as := am_r k :: as)
  rw [List.map_cons, sm_v_r hi.1] at hpre
  have hrecv := va_recv C.2.2.2.2.2.1.2.2.2 hs.1 (sm_cls_ok (pg_oc y) hc).1 hg
  refine sm_back C hs hn h1 (a := (Value.ref (sm_b G + k) :: as.map (sm_v G)).toArray) ?_ kk
  have hmv := sm_tb (args := args) C (pg_key pg_vl_ok hin) rfl
  have hms := sm_tb (args := args) C (pg_key pg_el_ok hse) rfl
  refine va_runV (As := as.map (sm_v G)) (rest := st.map (sm_v G)) (Ts := []) (b := sm_b G + k) (n := n) (C := pg_cn (pg_oc y)) (nL := pg_mx z) ⟨C.1, C.2.1, C.2.2.1, C.2.2.2.1, fun w hw => by cases hw⟩ hM ⟨sm_callB C hy hh hp (sm_tb C (pg_key pg_ml_ok hf) rfl), hmv, hms⟩ ⟨sm_blind _ _ _ _, hrecv, hpre⟩ rfl (by rw [List.length_map]; exact hn1) hs.2.2.2.1.1 ?_ (sm_rest hrl) hd (sm_fits C hs hn hN)
  show (as.reverse ++ am_r k :: st).map (sm_v G) = _
  rw [List.map_append, List.map_cons, List.map_reverse, sm_v_r hi.1]
theorem sm_callS (C : sm_C p R s m meth c G z S0 Fin) {y q n : Nat} {as : List am_V} {r : am_Z} (hM : sm_Met l G y as S M r) (hy : y < 179) (hh : pg_ht y < pg_ht z) (hn1 : as.length = n) (hp : pg_pn y = some n) (hf : pg_ml.any (fun t => decide (t.1 = (pg_oc z, q, y))) = true) (hin : pg_sl.any (fun t => decide (t.1 = y)) = true)
    (hrl : st.length ≤ 4) (hn : am_n S ≤ am_n r.2.1 ∧ am_sl S ≤ am_sl r.2.1) (hN : am_n r.2.1 ≤ am_n Fin.2.1 ∧ am_sl r.2.1 ≤ am_sl Fin.2.1) (h1 : r.2.1.1 = S.1) (hd : decode (pg_c z) pc = .ok (.invokestatic q, 3))
    (kk : sm_W p l e R s m args below meth c Q G z S0 (pc + 3) ls (am_push r.1 st) r.2.1 r.2.2) : sm_W p l e R s m args below meth c Q G z S0 pc ls (as.reverse ++ st) S M := by
  intro H locs A hs
  refine sm_back C hs hn h1 (a := (as.map (sm_v G)).toArray) ?_ kk
  refine va_runS (As := as.map (sm_v G)) (rest := st.map (sm_v G)) (Ts := []) (n := n) (nL := pg_mx z) ⟨C.1, C.2.1, C.2.2.1, C.2.2.2.1, fun w hw => by cases hw⟩ hM ⟨sm_callB C hy hh hp (sm_tb C (pg_key pg_ml_ok hf) rfl), sm_tb (args := args) C (pg_key pg_sl_ok hin) rfl⟩ ⟨sm_blind _ _ _ _, sm_pre C hs⟩ rfl (by rw [List.length_map]; exact hn1) hs.2.2.2.1.1 ?_ (sm_rest hrl) hd (sm_fits C hs hn hN)
  show (as.reverse ++ st).map (sm_v G) = _
  rw [List.map_append, List.map_reverse]
theorem sm_callI (C : sm_C p R s m meth c G z S0 Fin) {y q k n : Nat} {as : List am_V} {r : am_Z} (hM : sm_Met l G y (am_r k :: as) S M r) (hk : 0 < k) (hy : y < 179) (hh : pg_ht y < pg_ht z) (hn1 : as.length = n) (hp : pg_pn y = some n) (hf : pg_ml.any (fun t => decide (t.1 = (pg_oc z, q, y))) = true ∨ pg_xl.any (fun t => decide (t.1 = (pg_oc z, q, y))) = true) (hin : pg_vl.any (fun t => decide (t.1 = y)) = true) (hnm : (pg_y y).name = "<init>") (hrt : pg_rt y = none)
    (hrl : st.length ≤ 4) (hn : am_n S ≤ am_n r.2.1 ∧ am_sl S ≤ am_sl r.2.1) (hN : am_n r.2.1 ≤ am_n Fin.2.1 ∧ am_sl r.2.1 ≤ am_sl Fin.2.1) (h1 : r.2.1.1 = S.1) (hd : decode (pg_c z) pc = .ok (.invokespecial q, 3))
    (kk : sm_W p l e R s m args below meth c Q G z S0 (pc + 3) ls (am_push r.1 st) r.2.1 r.2.2) : sm_W p l e R s m args below meth c Q G z S0 pc ls (as.reverse ++ am_r k :: st) S M := by
  intro H locs A hs
  have hpre := sm_pre C hs (as := am_r k :: as)
  rw [List.map_cons, sm_v_r hk] at hpre
  refine sm_back C hs hn h1 (a := (Value.ref (sm_b G + k) :: as.map (sm_v G)).toArray) ?_ kk
  have hmv := sm_tb (args := args) C (pg_key pg_vl_ok hin) rfl
  have hst : (F0 m pc A ((as.reverse ++ am_r k :: st).map (sm_v G))).stack = (as.map (sm_v G)).reverse ++ Value.ref (sm_b G + k) :: st.map (sm_v G) := by
    show (as.reverse ++ am_r k :: st).map (sm_v G) = _
    rw [List.map_append, List.map_cons, List.map_reverse, sm_v_r hk]
  rcases hf with hf | hf
  · have hB := sm_callB (r := r) (S := S) (args := args) C hy hh hp (sm_tb C (pg_key pg_ml_ok hf) rfl)
    rw [hrt] at hB
    exact va_runI (As := as.map (sm_v G)) (rest := st.map (sm_v G)) (Ts := []) (b := sm_b G + k) (n := n) (nL := pg_mx z) ⟨C.1, C.2.1, C.2.2.1, C.2.2.2.1, fun w hw => by cases hw⟩ hM ⟨hB, hnm, hmv⟩ ⟨sm_blind _ _ _ _, hpre⟩ rfl (by rw [List.length_map]; exact hn1) hs.2.2.2.1.1 hst (sm_rest hrl) hd (sm_fits C hs hn hN)
  · obtain ⟨o1, o2, o3, o4, o5, o6⟩ := sm_okY (z := y) (by omega)
    have hrm := C.2.2.2.2.2.2.2.1
    have hcode := sm_cd y hy
    have hz : pg_zl.any (fun q => decide (q.1 = pg_oc y)) = true := by
      have : ∀ ci, ci < 13 → pg_zl.any (fun q => decide (q.1 = ci)) = true := by decide +kernel
      exact this _ o5
    have hini : (Cond.initialized (pg_y y).cls).before args s = true := by
      have h := sm_tb (args := args) C (pg_key pg_zl_ok hz) rfl
      unfold pg_zC at h
      rw [o2] at h
      exact h
    have hB : va_CN R s args (pg_cn (pg_oc z)) q (pg_y y) "PersonLines" (pg_c y) (pg_mx y) (pg_rt y) (sm_ws y) (sm_rm y S r.2.1) (am_n r.2.1 - am_n S) (am_sl r.2.1 - am_sl S) n := by
      refine ⟨⟨rfl, rfl, by show pg_ht y + 1 ≤ _; omega, by show 8 + (pg_mx y + 11) + 30 * pg_ht y ≤ _; omega, ?_, List.mem_singleton.mpr rfl⟩, sm_tb C hcode rfl, hini, o3, fun sig h => ?_, sm_tb C (pg_key pg_xl_ok hf) rfl⟩
      · intro w hw a' U hW
        rw [List.mem_singleton.mp hw]
        exact word_at hW (good_of_word (by rfl)) (sm_tb (args := args) C hcode rfl)
      · unfold pg_pn at hp
        rw [h] at hp
        exact (Option.some.inj hp).symm
    rw [hrt] at hB
    exact va_runIN (As := as.map (sm_v G)) (rest := st.map (sm_v G)) (Ts := []) (b := sm_b G + k) (n := n) (nL := pg_mx z) ⟨C.1, C.2.1, C.2.2.1, C.2.2.2.1, fun w hw => by cases hw⟩ hM ⟨hB, hnm, hmv⟩ ⟨sm_blind _ _ _ _, hpre⟩ rfl (by rw [List.length_map]; exact hn1) hs.2.2.2.1.1 hst (sm_rest hrl) hd (sm_fits C hs hn hN)
end SM4
end
section
/-! growth, inversion, and the block's walk -/
def am_gr (S : am_S) (r : am_Z) : Prop := am_n S ≤ am_n r.2.1 ∧ am_sl S ≤ am_sl r.2.1 ∧ r.2.1.1 = S.1
theorem am_do_gr {J : am_J} {C : am_C} {K : am_L → am_K → am_S → am_M → Option am_Z} (hJ : ∀ pc ls st S M r, J pc ls st S M = some r → am_gr S r) (hC : ∀ z as S M r, C z as S M = some r → am_gr S r) (hK : ∀ ls st S M r, K ls st S M = some r → am_gr S r)
    {nx : Nat} {ls : am_L} {S : am_S} {M : am_M} {a : am_A} {r : am_Z} (h : am_do J C K nx ls S M a = some r) : am_gr S r := by
  match a, h with
  | .inl (ls', st', M'), h => exact hK _ _ _ _ _ h
  | .inr (.inl (c, t, ls', st')), h =>
    rcases am_cif_some (show am_cif c (J t ls' st' S M) (K ls' st' S M) = some r from h) with ⟨-, h2⟩ | ⟨-, h2⟩
    · exact hJ _ _ _ _ _ _ h2
    · exact hK _ _ _ _ _ h2
  | .inr (.inr (.inl (t, ls', st'))), h => exact hJ _ _ _ _ _ _ h
  | .inr (.inr (.inr (.inl v))), h =>
    have h : some (v, S, M) = some r := h
    cases h
    exact ⟨Nat.le_refl _, Nat.le_refl _, rfl⟩
  | .inr (.inr (.inr (.inr (.inl (y, as, st'))))), h =>
    obtain ⟨v, S1, M1, h1, h2⟩ := am_then_some (show am_then (C y as S M) (fun r S' M' => J nx ls (am_push r st') S' M') = some r from h)
    have g1 := hC _ _ _ _ _ h1
    have g2 := hJ _ _ _ _ _ _ h2
    exact ⟨Nat.le_trans g1.1 g2.1, Nat.le_trans g1.2.1 g2.2.1, g2.2.2.trans g1.2.2⟩
  | .inr (.inr (.inr (.inr (.inr (.inl (t, x, n, st')))))), h =>
    have g := hK _ _ _ _ _ h
    exact ⟨Nat.le_trans (Nat.le_succ _) g.1, Nat.le_trans (Nat.le_add_right _ n) g.2.1, g.2.2⟩
  | .inr (.inr (.inr (.inr (.inr (.inr (k, j, v, st')))))), h =>
    have g := hK _ _ _ _ _ h
    exact ⟨g.1, g.2.1, g.2.2⟩
theorem am_RB_gr {J : am_J} {C : am_C} (hJ : ∀ pc ls st S M r, J pc ls st S M = some r → am_gr S r) (hC : ∀ z as S M r, C z as S M = some r → am_gr S r) :
    ∀ (is : List am_E) (pc : Nat) (ls : am_L) (st : am_K) (S : am_S) (M : am_M) (r : am_Z), am_RB J C is pc ls st S M = some r → am_gr S r := by
  intro is
  induction is with
  | nil => intro pc ls st S M r h; exact hJ _ _ _ _ _ _ h
  | cons e is ih =>
    intro pc ls st S M r h
    unfold am_RB am_fin at h
    cases hs : am_step e pc ls st S M with
    | inl a => rw [hs] at h; exact am_do_gr hJ hC (fun ls st S M r h => ih _ ls st S M r h) h
    | inr q =>
      obtain ⟨g, a⟩ := q
      rw [hs] at h
      exact am_do_gr hJ hC (fun ls st S M r h => ih _ ls st S M r h) (am_ck_some (show am_ck g _ = some r from h)).2
theorem am_run_gr : ∀ (f z pc : Nat) (ls : am_L) (st : am_K) (S : am_S) (M : am_M) (r : am_Z), am_run f z pc ls st S M = some r → am_gr S r := by
  intro f
  induction f with
  | zero => intro z pc ls st S M r h; cases h
  | succ f ih =>
    intro z pc ls st S M r h
    unfold am_run at h
    cases hb : pg_blk z pc with
    | none => rw [hb] at h; cases h
    | some is =>
      rw [hb] at h
      exact am_RB_gr (fun pc ls st S M r h => ih z pc ls st S M r h) (fun z as S M r h => ih z 0 _ _ S M r (am_in_some h).2) is pc ls st S M r h
section AMI
variable {J : am_J} {C : am_C} {K : am_L → am_K → am_S → am_M → Option am_Z} {nx : Nat} {ls0 : am_L} {S0 : am_S} {M0 : am_M} {st : am_K} {r : am_Z}
theorem am_bad_some {P : Prop} (h : am_fin J C K nx ls0 S0 M0 am_bad = some r) : P := (am_ck_some (show am_ck False _ = some r from h)).1.elim
theorem am_p1_some {F : Int → am_K → am_T} (h : am_fin J C K nx ls0 S0 M0 (am_p1 st F) = some r) : ∃ x t, st = am_i x :: t ∧ am_fin J C K nx ls0 S0 M0 (F x t) = some r := by
  unfold am_p1 at h
  split at h
  · exact ⟨_, _, rfl, h⟩
  · exact am_bad_some h
theorem am_p2_some {F : Int → Int → am_K → am_T} (h : am_fin J C K nx ls0 S0 M0 (am_p2 st F) = some r) : ∃ x y t, st = am_i y :: am_i x :: t ∧ am_fin J C K nx ls0 S0 M0 (F x y t) = some r := by
  unfold am_p2 at h
  split at h
  · exact ⟨_, _, _, rfl, h⟩
  · exact am_bad_some h
theorem am_w1_some {F : Int → am_K → am_T} (h : am_fin J C K nx ls0 S0 M0 (am_w1 st F) = some r) : ∃ x t, st = am_l x :: t ∧ am_fin J C K nx ls0 S0 M0 (F x t) = some r := by
  unfold am_w1 at h
  split at h
  · exact ⟨_, _, rfl, h⟩
  · exact am_bad_some h
theorem am_w2_some {F : Int → Int → am_K → am_T} (h : am_fin J C K nx ls0 S0 M0 (am_w2 st F) = some r) : ∃ x y t, st = am_l y :: am_l x :: t ∧ am_fin J C K nx ls0 S0 M0 (F x y t) = some r := by
  unfold am_w2 at h
  split at h
  · exact ⟨_, _, _, rfl, h⟩
  · exact am_bad_some h
theorem am_pr_some {F : Nat → am_K → am_T} (h : am_fin J C K nx ls0 S0 M0 (am_pr st F) = some r) : ∃ x t, st = am_r x :: t ∧ am_fin J C K nx ls0 S0 M0 (F x t) = some r := by
  unfold am_pr at h
  split at h
  · exact ⟨_, _, rfl, h⟩
  · exact am_bad_some h
theorem am_ld_some {ls : am_L} {a : Nat} {F : am_V → am_T} (h : am_fin J C K nx ls0 S0 M0 (am_ld ls a F) = some r) : ∃ x, ls[a]? = some (some x) ∧ am_fin J C K nx ls0 S0 M0 (F x) = some r := by
  unfold am_ld at h
  split at h
  · rename_i x hx
    exact ⟨x, hx, h⟩
  · exact am_bad_some h
theorem am_if_some {c : Prop} [Decidable c] {x y : am_T} (h : am_fin J C K nx ls0 S0 M0 (if c then x else y) = some r) : (c ∧ am_fin J C K nx ls0 S0 M0 x = some r) ∨ (¬ c ∧ am_fin J C K nx ls0 S0 M0 y = some r) := by
  by_cases hc : c
  · rw [if_pos hc] at h; exact Or.inl ⟨hc, h⟩
  · rw [if_neg hc] at h; exact Or.inr ⟨hc, h⟩
theorem am_gd_some {g : Prop} {a : am_A} (h : am_fin J C K nx ls0 S0 M0 (.inr (g, a)) = some r) : g ∧ am_do J C K nx ls0 S0 M0 a = some r := am_ck_some (show am_ck g _ = some r from h)
theorem am_br_some {c : Prop} {t : Nat} {ls : am_L} (h : am_do J C K nx ls0 S0 M0 (am_br c t ls st) = some r) : (c → J t ls st S0 M0 = some r) ∧ (¬ c → K ls st S0 M0 = some r) := by
  rcases am_cif_some (show am_cif c (J t ls st S0 M0) (K ls st S0 M0) = some r from h) with ⟨h1, h2⟩ | ⟨h1, h2⟩
  · exact ⟨fun _ => h2, fun q => absurd h1 q⟩
  · exact ⟨fun q => absurd q h1, fun _ => h2⟩
end AMI
theorem sm_or {a : Prop} (h : false = true ∨ a) : a := h.resolve_left (fun h => Bool.noConfusion h)
/-- a method's end -/
def sm_Rt (p : Program) (l : Launch) (e : Env) (R : Room) (s : State) (m : MethodId) (args : Array Value) (below : List Frame) (meth : Method) (c : Code) (Q : State → Prop) (G : sm_G) (z : Nat) (S0 : am_S) (Fin : am_Z) : Prop :=
  ∀ (pc : Nat) (H : Heap) (locs : List Loc) (A : Array Slot), va_P G.1 pg_cls (sm_w G Fin.2.1 Fin.2.2) H → H.size = sm_b G + am_n Fin.2.1 + 1 → va_S (sm_A G) s.heap H locs →
    (∀ x : Int, Fin.1 = some (am_i x) → ((pg_rt z = some .boolean ∧ (x = 0 ∨ x = 1)) ∨ pg_rt z = some .int) → decode (pg_c z) pc = .ok (.ireturn, 1) → W p l e R s m args below meth c H locs (am_n Fin.2.1 - am_n S0) (am_sl Fin.2.1 - am_sl S0) Q (F0 m pc A [.int (Int32.ofInt x)])) ∧
    (Fin.1 = none → pg_rt z = none → decode (pg_c z) pc = .ok (.return_, 1) → W p l e R s m args below meth c H locs (am_n Fin.2.1 - am_n S0) (am_sl Fin.2.1 - am_sl S0) Q (F0 m pc A []))
section SM5
variable {p : Program} {l : Launch} {e : Env} {R : Room} {s : State} {m : MethodId} {args : Array Value} {below : List Frame} {meth : Method} {c : Code} {Q : State → Prop} {G : sm_G} {z : Nat} {S0 : am_S} {Fin : am_Z}
set_option maxHeartbeats 4000000 in
theorem sm_RB {J : am_J} {Cc : am_C} (C : sm_C p R s m meth c G z S0 Fin) (hR : sm_Rt p l e R s m args below meth c Q G z S0 Fin)
    (hJ : ∀ pc ls st S M, J pc ls st S M = some Fin → sm_W p l e R s m args below meth c Q G z S0 pc ls st S M) (hJg : ∀ pc ls st S M r, J pc ls st S M = some r → am_gr S r) (hC : ∀ y as S M r, Cc y as S M = some r → y < 179 → pg_ht y < pg_ht z → sm_Met l G y as S M r) (hCg : ∀ y as S M r, Cc y as S M = some r → am_gr S r) :
    ∀ (is : List am_E) (pc : Nat) (ls : am_L) (st : am_K) (S : am_S) (M : am_M), pg_okL z pc is = true → am_RB J Cc is pc ls st S M = some Fin → sm_W p l e R s m args below meth c Q G z S0 pc ls st S M := by
  intro is
  induction is with
  | nil => intro pc ls st S M _ h; exact hJ pc ls st S M h
  | cons e0 is ih =>
    obtain ⟨i, n, a, b, v⟩ := e0
    intro pc ls st S M hok h
    change (pg_okE z pc (i, n, a, b, v) && pg_okL z (pc + n) is) = true at hok
    rw [Bool.and_eq_true] at hok
    obtain ⟨hE, hL⟩ := hok
    change (decide (decode (pg_c z) pc = .ok (i, n)) && (pg_isT i || decide (n = pg_len i)) && pg_okA z pc (i, n, a, b, v)) = true at hE
    simp only [Bool.and_eq_true, Bool.or_eq_true, decide_eq_true_eq] at hE
    obtain ⟨⟨hd, hn⟩, hA⟩ := hE
    have hK : ∀ ls st S M, am_RB J Cc is (pc + n) ls st S M = some Fin → sm_W p l e R s m args below meth c Q G z S0 (pc + n) ls st S M := fun ls st S M h => ih (pc + n) ls st S M hL h
    have hKg : ∀ ls st S M r, am_RB J Cc is (pc + n) ls st S M = some r → am_gr S r := fun ls st S M r h => am_RB_gr hJg hCg is (pc + n) ls st S M r h
    clear ih hL
    change am_fin J Cc (fun ls st S M => am_RB J Cc is (pc + n) ls st S M) (pc + n) ls S M (am_step (i, n, a, b, v) pc ls st S M) = some Fin at h
    cases i
    case iconst k => obtain rfl : n = 1 := sm_or hn; exact sm_iconst C hd (of_decide_eq_true hA) (hK _ _ _ _ h)
    case bipush k => obtain rfl : n = 2 := sm_or hn; exact sm_bipush C hd (of_decide_eq_true hA) (hK _ _ _ _ h)
    case sipush k => obtain rfl : n = 3 := sm_or hn; exact sm_sipush C hd (of_decide_eq_true hA) (hK _ _ _ _ h)
    case ldc k => obtain rfl : n = 2 := sm_or hn; exact sm_ldc C hd hA (hK _ _ _ _ h)
    case ldc_w k => obtain rfl : n = 3 := sm_or hn; exact sm_ldcw C hd hA (hK _ _ _ _ h)
    case ldc2_w k => obtain rfl : n = 3 := sm_or hn; exact sm_ldc2 C hd hA (hK _ _ _ _ h)
    case lconst k => obtain rfl : n = 1 := sm_or hn; exact sm_lconst C hd (of_decide_eq_true hA) (hK _ _ _ _ h)
    case iload_n k =>
      obtain rfl : n = 1 := sm_or hn
      obtain ⟨x, hx, h⟩ := am_ld_some h
      match x, hx, h with
      | .inl x, hx, h => exact sm_iload_n C hd (of_decide_eq_true hA) hx (hK _ _ _ _ h)
      | .inr x, hx, h => exact am_bad_some h
    case iload k =>
      obtain rfl : n = 2 := sm_or hn
      obtain ⟨x, hx, h⟩ := am_ld_some h
      match x, hx, h with
      | .inl x, hx, h => exact sm_iload C hd (of_decide_eq_true hA) hx (hK _ _ _ _ h)
      | .inr x, hx, h => exact am_bad_some h
    case lload_n k =>
      obtain rfl : n = 1 := sm_or hn
      obtain ⟨x, hx, h⟩ := am_ld_some h
      match x, hx, h with
      | .inl x, hx, h => exact am_bad_some h
      | .inr (.inl x), hx, h => exact sm_lload_n C hd (of_decide_eq_true hA) hx (hK _ _ _ _ h)
      | .inr (.inr x), hx, h => exact am_bad_some h
    case lload k =>
      obtain rfl : n = 2 := sm_or hn
      obtain ⟨x, hx, h⟩ := am_ld_some h
      match x, hx, h with
      | .inl x, hx, h => exact am_bad_some h
      | .inr (.inl x), hx, h => exact sm_lload C hd (of_decide_eq_true hA) hx (hK _ _ _ _ h)
      | .inr (.inr x), hx, h => exact am_bad_some h
    case aload_n k =>
      obtain rfl : n = 1 := sm_or hn
      obtain ⟨x, hx, h⟩ := am_ld_some h
      match x, hx, h with
      | .inl x, hx, h => exact am_bad_some h
      | .inr (.inl x), hx, h => exact am_bad_some h
      | .inr (.inr x), hx, h => exact sm_aload_n C hd (of_decide_eq_true hA) hx (hK _ _ _ _ h)
    case istore_n k =>
      obtain rfl : n = 1 := sm_or hn
      obtain ⟨x, t, rfl, h⟩ := am_p1_some h
      have hA : (decide ((k : Nat) = a) && pg_s1 z a) = true := hA
      rw [Bool.and_eq_true] at hA
      exact sm_istore_n C hd (of_decide_eq_true hA.1) hA.2 (hK _ _ _ _ h)
    case istore k =>
      obtain rfl : n = 2 := sm_or hn
      obtain ⟨x, t, rfl, h⟩ := am_p1_some h
      have hA : (decide (k = a) && pg_s1 z a) = true := hA
      rw [Bool.and_eq_true] at hA
      exact sm_istore C hd (of_decide_eq_true hA.1) hA.2 (hK _ _ _ _ h)
    case astore_n k =>
      obtain rfl : n = 1 := sm_or hn
      obtain ⟨x, t, rfl, h⟩ := am_pr_some h
      obtain ⟨hx, h⟩ := am_gd_some h
      have hA : (decide ((k : Nat) = a) && pg_s1 z a) = true := hA
      rw [Bool.and_eq_true] at hA
      exact sm_astore_n C hx hd (of_decide_eq_true hA.1) hA.2 (hK _ _ _ _ h)
    case lstore_n k =>
      obtain rfl : n = 1 := sm_or hn
      obtain ⟨x, t, rfl, h⟩ := am_w1_some h
      have hA : (decide ((k : Nat) = a) && decide (a + 1 < pg_mx z) && (pg_lg z).contains a && (decide (a = 0) || !(pg_lg z).contains (a - 1))) = true := hA
      simp only [Bool.and_eq_true, decide_eq_true_eq, Bool.or_eq_true, Bool.not_eq_true', List.contains_eq_mem, decide_eq_false_iff_not] at hA
      exact sm_lstore_n C hd hA.1.1.1 hA.1.1.2 hA.1.2 hA.2 (hK _ _ _ _ h)
    case iinc k q =>
      obtain rfl : n = 3 := sm_or hn
      obtain ⟨x, hx, h⟩ := am_ld_some h
      have hA : (decide (k = a) && decide (q = v) && pg_s1 z a) = true := hA
      simp only [Bool.and_eq_true, decide_eq_true_eq] at hA
      match x, hx, h with
      | .inl x, hx, h => exact sm_iinc C hd hA.1.1 hA.1.2 hA.2 hx (hK _ _ _ _ h)
      | .inr x, hx, h => exact am_bad_some h
    case iadd => obtain rfl : n = 1 := sm_or hn; obtain ⟨x, y, t, rfl, h⟩ := am_p2_some h; exact sm_iadd C hd (hK _ _ _ _ h)
    case isub => obtain rfl : n = 1 := sm_or hn; obtain ⟨x, y, t, rfl, h⟩ := am_p2_some h; exact sm_isub C hd (hK _ _ _ _ h)
    case imul => obtain rfl : n = 1 := sm_or hn; obtain ⟨x, y, t, rfl, h⟩ := am_p2_some h; exact sm_imul C hd (hK _ _ _ _ h)
    case idiv => obtain rfl : n = 1 := sm_or hn; obtain ⟨x, y, t, rfl, h⟩ := am_p2_some h; obtain ⟨hg, h⟩ := am_gd_some h; exact sm_idiv C hg hd (hK _ _ _ _ h)
    case irem => obtain rfl : n = 1 := sm_or hn; obtain ⟨x, y, t, rfl, h⟩ := am_p2_some h; obtain ⟨hg, h⟩ := am_gd_some h; exact sm_irem C hg hd (hK _ _ _ _ h)
    case iand => obtain rfl : n = 1 := sm_or hn; obtain ⟨x, y, t, rfl, h⟩ := am_p2_some h; exact sm_iand C hd (hK _ _ _ _ h)
    case ior => obtain rfl : n = 1 := sm_or hn; obtain ⟨x, y, t, rfl, h⟩ := am_p2_some h; exact sm_ior C hd (hK _ _ _ _ h)
    case ixor => obtain rfl : n = 1 := sm_or hn; obtain ⟨x, y, t, rfl, h⟩ := am_p2_some h; exact sm_ixor C hd (hK _ _ _ _ h)
    case ishl => obtain rfl : n = 1 := sm_or hn; obtain ⟨x, y, t, rfl, h⟩ := am_p2_some h; exact sm_ishl C hd (hK _ _ _ _ h)
    case ishr => obtain rfl : n = 1 := sm_or hn; obtain ⟨x, y, t, rfl, h⟩ := am_p2_some h; exact sm_ishr C hd (hK _ _ _ _ h)
    case iushr => obtain rfl : n = 1 := sm_or hn; obtain ⟨x, y, t, rfl, h⟩ := am_p2_some h; exact sm_iushr C hd (hK _ _ _ _ h)
    case ladd => obtain rfl : n = 1 := sm_or hn; obtain ⟨x, y, t, rfl, h⟩ := am_w2_some h; exact sm_ladd C hd (hK _ _ _ _ h)
    case lmul => obtain rfl : n = 1 := sm_or hn; obtain ⟨x, y, t, rfl, h⟩ := am_w2_some h; exact sm_lmul C hd (hK _ _ _ _ h)
    case ldiv => obtain rfl : n = 1 := sm_or hn; obtain ⟨x, y, t, rfl, h⟩ := am_w2_some h; obtain ⟨hg, h⟩ := am_gd_some h; exact sm_ldiv C hg hd (hK _ _ _ _ h)
    case lrem => obtain rfl : n = 1 := sm_or hn; obtain ⟨x, y, t, rfl, h⟩ := am_w2_some h; obtain ⟨hg, h⟩ := am_gd_some h; exact sm_lrem C hg hd (hK _ _ _ _ h)
    case lcmp => obtain rfl : n = 1 := sm_or hn; obtain ⟨x, y, t, rfl, h⟩ := am_w2_some h; obtain ⟨hg, h⟩ := am_gd_some h; exact sm_lcmp C hg hd (hK _ _ _ _ h)
    case i2l => obtain rfl : n = 1 := sm_or hn; obtain ⟨x, t, rfl, h⟩ := am_p1_some h; obtain ⟨hg, h⟩ := am_gd_some h; exact sm_i2l C hg hd (hK _ _ _ _ h)
    case l2i => obtain rfl : n = 1 := sm_or hn; obtain ⟨x, t, rfl, h⟩ := am_w1_some h; exact sm_l2i C hd (hK _ _ _ _ h)
    case dup =>
      obtain rfl : n = 1 := sm_or hn
      match st, h with
      | .inl x :: t, h => exact sm_dup C (fun _ q => by cases q) hd (hK _ _ _ _ h)
      | .inr (.inl x) :: t, h => exact am_bad_some h
      | .inr (.inr x) :: t, h => exact sm_dup C (fun _ q => by cases q) hd (hK _ _ _ _ h)
      | [], h => exact am_bad_some h
    case dup2 =>
      obtain rfl : n = 1 := sm_or hn
      match st, h with
      | .inl x :: .inr (.inr y) :: t, h => exact sm_dup2 C (fun _ q => by cases q) (fun _ q => by cases q) hd (hK _ _ _ _ h)
      | .inl x :: .inr (.inl y) :: t, h => exact am_bad_some h
      | .inl x :: .inl y :: t, h => exact am_bad_some h
      | .inl x :: [], h => exact am_bad_some h
      | .inr x :: t, h => exact am_bad_some h
      | [], h => exact am_bad_some h
    case pop => obtain rfl : n = 1 := sm_or hn; obtain ⟨x, t, rfl, h⟩ := am_p1_some h; exact sm_pop C (fun _ q => by cases q) hd (hK _ _ _ _ h)
    case goto x => obtain rfl : n = 3 := sm_or hn; exact sm_goto C hd (of_decide_eq_true hA) (hJ _ _ _ _ _ h)
    case if_icmp q o =>
      obtain rfl : n = 3 := sm_or hn
      obtain ⟨x, y, t, rfl, h⟩ := am_p2_some h
      obtain ⟨hg, h⟩ := am_gd_some h
      cases q
      case eq => obtain ⟨h1, h2⟩ := am_br_some h; exact sm_icmp C hg hd (of_decide_eq_true hA) rfl (fun q => hJ _ _ _ _ _ (h1 q)) (fun q => hK _ _ _ _ (h2 q))
      case ne => obtain ⟨h1, h2⟩ := am_br_some h; exact sm_icmp C hg hd (of_decide_eq_true hA) rfl (fun q => hJ _ _ _ _ _ (h1 q)) (fun q => hK _ _ _ _ (h2 q))
      case lt => obtain ⟨h1, h2⟩ := am_br_some h; exact sm_icmp C hg hd (of_decide_eq_true hA) rfl (fun q => hJ _ _ _ _ _ (h1 q)) (fun q => hK _ _ _ _ (h2 q))
      case ge => obtain ⟨h1, h2⟩ := am_br_some h; exact sm_icmp C hg hd (of_decide_eq_true hA) rfl (fun q => hJ _ _ _ _ _ (h1 q)) (fun q => hK _ _ _ _ (h2 q))
      case gt => obtain ⟨h1, h2⟩ := am_br_some h; exact sm_icmp C hg hd (of_decide_eq_true hA) rfl (fun q => hJ _ _ _ _ _ (h1 q)) (fun q => hK _ _ _ _ (h2 q))
      case le => obtain ⟨h1, h2⟩ := am_br_some h; exact sm_icmp C hg hd (of_decide_eq_true hA) rfl (fun q => hJ _ _ _ _ _ (h1 q)) (fun q => hK _ _ _ _ (h2 q))
    case ifCond q o =>
      obtain rfl : n = 3 := sm_or hn
      obtain ⟨x, t, rfl, h⟩ := am_p1_some h
      obtain ⟨hg, h⟩ := am_gd_some h
      cases q
      case eq => obtain ⟨h1, h2⟩ := am_br_some h; exact sm_if C hg hd (of_decide_eq_true hA) rfl (fun q => hJ _ _ _ _ _ (h1 q)) (fun q => hK _ _ _ _ (h2 q))
      case ne => obtain ⟨h1, h2⟩ := am_br_some h; exact sm_if C hg hd (of_decide_eq_true hA) rfl (fun q => hJ _ _ _ _ _ (h1 q)) (fun q => hK _ _ _ _ (h2 q))
      case lt => obtain ⟨h1, h2⟩ := am_br_some h; exact sm_if C hg hd (of_decide_eq_true hA) rfl (fun q => hJ _ _ _ _ _ (h1 q)) (fun q => hK _ _ _ _ (h2 q))
      case ge => obtain ⟨h1, h2⟩ := am_br_some h; exact sm_if C hg hd (of_decide_eq_true hA) rfl (fun q => hJ _ _ _ _ _ (h1 q)) (fun q => hK _ _ _ _ (h2 q))
      case gt => obtain ⟨h1, h2⟩ := am_br_some h; exact sm_if C hg hd (of_decide_eq_true hA) rfl (fun q => hJ _ _ _ _ _ (h1 q)) (fun q => hK _ _ _ _ (h2 q))
      case le => obtain ⟨h1, h2⟩ := am_br_some h; exact sm_if C hg hd (of_decide_eq_true hA) rfl (fun q => hJ _ _ _ _ _ (h1 q)) (fun q => hK _ _ _ _ (h2 q))
    case tableswitch d lo hi offs =>
      obtain ⟨x, t, rfl, h⟩ := am_p1_some h
      obtain ⟨hg, h⟩ := am_gd_some h
      have hA : (decide (0 ≤ (pc : Int) + d) && offs.all (fun x => decide (0 ≤ (pc : Int) + x)) && decide ((offs.size : Int) = hi - lo + 1)) = true := hA
      simp only [Bool.and_eq_true, decide_eq_true_eq, Array.all_eq_true'] at hA
      exact sm_switch C hg hd hA.1.1 hA.1.2 hA.2 (hJ _ _ _ _ _ h)
    case arraylength =>
      obtain rfl : n = 1 := sm_or hn
      match st, h with
      | .inr (.inr (.inl k)) :: t, h => obtain ⟨hg, h⟩ := am_gd_some h; exact sm_alen C hg hd (hK _ _ _ _ h)
      | .inr (.inr (.inr u)) :: t, h => exact sm_slen C hd (hK _ _ _ _ h)
      | .inr (.inl x) :: t, h => exact am_bad_some h
      | .inl x :: t, h => exact am_bad_some h
      | [], h => exact am_bad_some h
    case iaload =>
      obtain rfl : n = 1 := sm_or hn
      obtain ⟨x, t, rfl, h⟩ := am_p1_some h
      match t, h with
      | .inr (.inr (.inl k)) :: t, h => obtain ⟨hg, h⟩ := am_gd_some h; exact sm_iald C hg hd (hK _ _ _ _ h)
      | .inr (.inr (.inr u)) :: t, h => obtain ⟨hg, h⟩ := am_gd_some h; exact sm_sld C hg hd (hK _ _ _ _ h)
      | .inr (.inl x) :: t, h => exact am_bad_some h
      | .inl x :: t, h => exact am_bad_some h
      | [], h => exact am_bad_some h
    case baload => obtain rfl : n = 1 := sm_or hn; obtain ⟨x, t, rfl, h⟩ := am_p1_some h; obtain ⟨k, t, rfl, h⟩ := am_pr_some h; obtain ⟨hg, h⟩ := am_gd_some h; exact sm_bald C hg hd (hK _ _ _ _ h)
    case aaload => obtain rfl : n = 1 := sm_or hn; obtain ⟨x, t, rfl, h⟩ := am_p1_some h; obtain ⟨k, t, rfl, h⟩ := am_pr_some h; obtain ⟨hg, h⟩ := am_gd_some h; exact sm_aald C hg hd (hK _ _ _ _ h)
    case iastore => obtain rfl : n = 1 := sm_or hn; obtain ⟨x, y, t, rfl, h⟩ := am_p2_some h; obtain ⟨k, t, rfl, h⟩ := am_pr_some h; obtain ⟨hg, h⟩ := am_gd_some h; exact sm_iast C hg hd (hK _ _ _ _ h)
    case bastore => obtain rfl : n = 1 := sm_or hn; obtain ⟨x, y, t, rfl, h⟩ := am_p2_some h; obtain ⟨k, t, rfl, h⟩ := am_pr_some h; obtain ⟨hg, h⟩ := am_gd_some h; exact sm_bast C hg hd (hK _ _ _ _ h)
    case aastore => obtain rfl : n = 1 := sm_or hn; obtain ⟨x, t, rfl, h⟩ := am_pr_some h; obtain ⟨y, t, rfl, h⟩ := am_p1_some h; obtain ⟨k, t, rfl, h⟩ := am_pr_some h; obtain ⟨hg, h⟩ := am_gd_some h; exact sm_aast C hg hd (hK _ _ _ _ h)
    case newarray t =>
      obtain rfl : n = 2 := sm_or hn
      obtain ⟨x, r, rfl, h⟩ := am_p1_some h
      obtain ⟨hg, h⟩ := am_gd_some h
      have hA : ((decide (t = .int) && decide (a = 0)) || (decide (t = .boolean) && decide (a = 1))) = true := hA
      simp only [Bool.and_eq_true, Bool.or_eq_true, decide_eq_true_eq] at hA
      have gr := hKg _ _ _ _ _ h
      exact sm_newa C hg gr.1 gr.2.1 hA hd (hK _ _ _ _ h)
    case anewarray k =>
      obtain rfl : n = 3 := sm_or hn
      obtain ⟨x, r, rfl, h⟩ := am_p1_some h
      obtain ⟨hg, h⟩ := am_gd_some h
      have hA : (pg_ql.any (fun q => decide (q.1 = (pg_oc z, k, a))) && (decide (a = 2) || decide (a = 3))) = true := hA
      rw [Bool.and_eq_true, Bool.or_eq_true, decide_eq_true_eq, decide_eq_true_eq] at hA
      have gr := hKg _ _ _ _ _ h
      exact sm_anew C hg gr.1 gr.2.1 hA.1 hA.2 hd (hK _ _ _ _ h)
    case new k =>
      obtain rfl : n = 3 := sm_or hn
      have hA : (pg_nl.any (fun q => decide (q.1 = (pg_oc z, k, a))) && decide (a < 10) && decide (b = pg_nf a)) = true := hA
      rw [Bool.and_eq_true, Bool.and_eq_true, decide_eq_true_eq, decide_eq_true_eq] at hA
      have gr := hKg _ _ _ _ _ h
      exact sm_new C gr.1 gr.2.1 hA.1.2 hA.2 hA.1.1 hd (hK _ _ _ _ h)
    case getfield k =>
      obtain rfl : n = 3 := sm_or hn
      obtain ⟨x, t, rfl, h⟩ := am_pr_some h
      obtain ⟨hg, h⟩ := am_gd_some h
      have hA : (pg_fl.any (fun q => decide (q.1 = (pg_oc z, k, a, b))) && decide (a < 10) && decide (b < pg_nf a) && decide ((v = 1) ↔ (pg_isr a b = true))) = true := hA
      rw [Bool.and_eq_true, Bool.and_eq_true, Bool.and_eq_true, decide_eq_true_eq, decide_eq_true_eq, decide_eq_true_eq] at hA
      by_cases hv : v = 1
      · rw [if_pos hv] at h
        exact sm_get C hg hA.1.1.2 hA.1.2 hA.1.1.1 hd (by rw [if_pos (hA.2.mp hv)]) (hK _ _ _ _ h)
      · rw [if_neg hv] at h
        exact sm_get C hg hA.1.1.2 hA.1.2 hA.1.1.1 hd (by rw [if_neg (fun q => hv (hA.2.mpr q))]) (hK _ _ _ _ h)
    case putfield k =>
      obtain rfl : n = 3 := sm_or hn
      have hA : (pg_fl.any (fun q => decide (q.1 = (pg_oc z, k, a, b))) && decide (a < 10) && decide (b < pg_nf a) && decide ((v = 1) ↔ (pg_isr a b = true)) && decide (v = 1 → (pg_fT a b).2.2.2 = true ∧ (pg_y z).name = "<init>" ∧ pg_oc z = a) && decide (¬ v = 1 → (pg_fT a b).2.2.2 = false ∧ (pg_ft a b = .int ∨ pg_ft a b = .boolean ∧ v = 2))) = true := hA
      rw [Bool.and_eq_true, Bool.and_eq_true, Bool.and_eq_true, Bool.and_eq_true, Bool.and_eq_true, decide_eq_true_eq, decide_eq_true_eq, decide_eq_true_eq, decide_eq_true_eq, decide_eq_true_eq] at hA
      obtain ⟨⟨⟨⟨⟨f1, f2⟩, f3⟩, f4⟩, f5⟩, f6⟩ := hA
      rcases am_if_some h with ⟨hv, h⟩ | ⟨hv, h⟩
      · obtain ⟨x, t, rfl, h3⟩ := am_pr_some h
        obtain ⟨y, t2, rfl, h4⟩ := am_pr_some h3
        obtain ⟨hg, h5⟩ := am_gd_some h4
        obtain ⟨g1, g2, g3⟩ := f5 hv
        exact sm_putr C hg.1 hg.2 f2 f3 f1 hd (f4.mp hv) g1 g2 g3 (hK _ _ _ _ h5)
      · obtain ⟨x, t, rfl, h3⟩ := am_p1_some h
        obtain ⟨y, t2, rfl, h4⟩ := am_pr_some h3
        obtain ⟨hg, h5⟩ := am_gd_some h4
        obtain ⟨g1, g2⟩ := f6 hv
        exact sm_put C hg.1 f2 f3 f1 hd (fun q => hv (f4.mpr q)) g1 (g2.imp id (fun q => ⟨q.1, hg.2 q.2⟩)) (hK _ _ _ _ h5)
    case invokevirtual k =>
      obtain rfl : n = 3 := sm_or hn
      have hA : (pg_ml.any (fun q => decide (q.1 = (pg_oc z, k, a))) && decide (a < 179) && decide (v = (pg_oc a : Int)) && decide (pg_ht a < pg_ht z) && decide (0 < b) && decide (pg_pn a = some (b - 1)) && pg_el.any (fun q => decide (q.1 = a)) && pg_vl.any (fun q => decide (q.1 = a))) = true := hA
      rw [Bool.and_eq_true, Bool.and_eq_true, Bool.and_eq_true, Bool.and_eq_true, Bool.and_eq_true, Bool.and_eq_true, Bool.and_eq_true, decide_eq_true_eq, decide_eq_true_eq, decide_eq_true_eq, decide_eq_true_eq, decide_eq_true_eq] at hA
      obtain ⟨⟨⟨⟨⟨⟨⟨f1, f2⟩, f3⟩, f4⟩, f5⟩, f6⟩, f7⟩, f8⟩ := hA
      rcases am_if_some h with ⟨hl, h⟩ | ⟨-, h⟩
      · cases hq : (st.take b).reverse with
        | nil => rw [hq] at h; exact am_bad_some h
        | cons w as =>
          rw [hq] at h
          match w, hq, h with
          | .inl x, hq, h => exact am_bad_some h
          | .inr (.inl x), hq, h => exact am_bad_some h
          | .inr (.inr (.inr x)), hq, h => exact am_bad_some h
          | .inr (.inr (.inl x)), hq, h =>
            obtain ⟨hg, h⟩ := am_gd_some h
            obtain ⟨r, S1, M1, h1, h2⟩ := am_then_some (show am_then (Cc a (am_r x :: as) S M) (fun r S' M' => J (pc + 3) ls (am_push r (st.drop b)) S' M') = some Fin from h)
            have e1 : st = as.reverse ++ am_r x :: st.drop b := by
              have e2 : st.take b = as.reverse ++ [am_r x] := by rw [← List.reverse_reverse (st.take b), hq, List.reverse_cons]
              have e3 := List.take_append_drop b st
              rw [e2, List.append_assoc] at e3
              exact e3.symm
            have e4 : as.length = b - 1 := by
              have := congrArg List.length hq
              rw [List.length_reverse, List.length_take, List.length_cons] at this
              omega
            have hgr := hCg _ _ _ _ _ h1
            have hgr2 := hJg _ _ _ _ _ _ h2
            have ev : v.toNat = pg_oc a := by omega
            rw [ev] at hg
            have hoc : pg_oc a < 10 := by
              have hfl : ∀ y, y < 179 → pg_vl.any (fun q => decide (q.1 = y)) = true → pg_oc y < 10 := by decide +kernel
              exact hfl a f2 f8
            rw [e1]
            exact sm_callV C (r := (r, S1, M1)) (hC _ _ _ _ _ h1 f2 f4) hg f2 f4 e4 f6 f1 f7 f8 hoc (by rw [List.length_drop]; omega) ⟨hgr.1, hgr.2.1⟩ ⟨hgr2.1, hgr2.2.1⟩ hgr.2.2 hd (hJ _ _ _ _ _ h2)
      · exact am_bad_some h
    case invokespecial k =>
      obtain rfl : n = 3 := sm_or hn
      rcases am_if_some h with ⟨hv, h⟩ | ⟨hv, h⟩
      · have hA : (if v = 1 then (pg_ol.any (fun q => decide (q.1 = (pg_oc z, k))) && decide (1 ≤ pg_ht z)) else _) = true := hA
        rw [if_pos hv, Bool.and_eq_true, decide_eq_true_eq] at hA
        rcases am_if_some h with ⟨hl, h⟩ | ⟨-, h⟩
        · obtain ⟨x, t, rfl, h⟩ := am_pr_some h
          obtain ⟨hg, h⟩ := am_gd_some h
          rw [List.length_cons] at hl
          exact sm_objinit C hg (by omega) hA.1 hA.2 hd (hK _ _ _ _ h)
        · exact am_bad_some h
      · have hA : (if v = 1 then _ else ((pg_ml.any (fun q => decide (q.1 = (pg_oc z, k, a))) || pg_xl.any (fun q => decide (q.1 = (pg_oc z, k, a)))) && decide (a < 179) && decide (pg_ht a < pg_ht z) && decide (0 < b) && decide (pg_pn a = some (b - 1)) && decide ((pg_y a).name = "<init>") && pg_vl.any (fun q => decide (q.1 = a)) && decide (pg_rt a = none))) = true := hA
        rw [if_neg hv, Bool.and_eq_true, Bool.and_eq_true, Bool.and_eq_true, Bool.and_eq_true, Bool.and_eq_true, Bool.and_eq_true, Bool.and_eq_true, Bool.or_eq_true, decide_eq_true_eq, decide_eq_true_eq, decide_eq_true_eq, decide_eq_true_eq, decide_eq_true_eq, decide_eq_true_eq] at hA
        obtain ⟨⟨⟨⟨⟨⟨⟨f1, f2⟩, f4⟩, f5⟩, f6⟩, f7⟩, f8⟩, f9⟩ := hA
        rcases am_if_some h with ⟨hl, h⟩ | ⟨-, h⟩
        · cases hq : (st.take b).reverse with
          | nil => rw [hq] at h; exact am_bad_some h
          | cons w as =>
            rw [hq] at h
            match w, hq, h with
            | .inl x, hq, h => exact am_bad_some h
            | .inr (.inl x), hq, h => exact am_bad_some h
            | .inr (.inr (.inr x)), hq, h => exact am_bad_some h
            | .inr (.inr (.inl x)), hq, h =>
              obtain ⟨hg, h⟩ := am_gd_some h
              obtain ⟨r, S1, M1, h1, h2⟩ := am_then_some (show am_then (Cc a (am_r x :: as) S M) (fun r S' M' => J (pc + 3) ls (am_push r (st.drop b)) S' M') = some Fin from h)
              have e1 : st = as.reverse ++ am_r x :: st.drop b := by
                have e2 : st.take b = as.reverse ++ [am_r x] := by rw [← List.reverse_reverse (st.take b), hq, List.reverse_cons]
                have e3 := List.take_append_drop b st
                rw [e2, List.append_assoc] at e3
                exact e3.symm
              have e4 : as.length = b - 1 := by
                have := congrArg List.length hq
                rw [List.length_reverse, List.length_take, List.length_cons] at this
                omega
              have hgr := hCg _ _ _ _ _ h1
              have hgr2 := hJg _ _ _ _ _ _ h2
              rw [e1]
              exact sm_callI C (r := (r, S1, M1)) (hC _ _ _ _ _ h1 f2 f4) hg f2 f4 e4 f6 f1 f8 f7 f9 (by rw [List.length_drop]; omega) ⟨hgr.1, hgr.2.1⟩ ⟨hgr2.1, hgr2.2.1⟩ hgr.2.2 hd (hJ _ _ _ _ _ h2)
        · exact am_bad_some h
    case invokestatic k =>
      obtain rfl : n = 3 := sm_or hn
      have hA : (if v = 2 then (pg_al.any (fun q => decide (q.1 = (pg_oc z, k))) && decide (1 ≤ pg_ht z)) else if v = 3 then (pg_xx.any (fun q => decide (q.1 = (pg_oc z, k))) && decide (1 ≤ pg_ht z)) else if v = 4 then (pg_xn.any (fun q => decide (q.1 = (pg_oc z, k))) && decide (1 ≤ pg_ht z)) else (pg_ml.any (fun q => decide (q.1 = (pg_oc z, k, a))) && decide (a < 179) && decide (pg_ht a < pg_ht z) && decide (pg_pn a = some b) && pg_sl.any (fun q => decide (q.1 = a)))) = true := hA
      rcases am_if_some h with ⟨hv, h⟩ | ⟨hv, h⟩
      · rw [if_pos hv, Bool.and_eq_true, decide_eq_true_eq] at hA
        split at h
        · rcases am_if_some h with ⟨hl, h⟩ | ⟨-, h⟩
          · obtain ⟨hg, h⟩ := am_gd_some h
            exact sm_copy C hl hg hA.1 hA.2 hd (hK _ _ _ _ h)
          · exact am_bad_some h
        · exact am_bad_some h
      · rw [if_neg hv] at hA
        rcases am_if_some h with ⟨hv3, h⟩ | ⟨hv3, h⟩
        · rw [if_pos hv3, Bool.and_eq_true, decide_eq_true_eq] at hA
          obtain ⟨x, y, t, rfl, h⟩ := am_p2_some h
          rcases am_if_some h with ⟨hl, h⟩ | ⟨-, h⟩
          · obtain ⟨hg, h⟩ := am_gd_some h
            have gr := hKg _ _ _ _ _ h
            exact sm_max C hl hg gr.1 gr.2.1 hA.1 hA.2 hd (hK _ _ _ _ h)
          · exact am_bad_some h
        · rw [if_neg hv3] at hA
          rcases am_if_some h with ⟨hv4, h⟩ | ⟨hv4, h⟩
          · rw [if_pos hv4, Bool.and_eq_true, decide_eq_true_eq] at hA
            obtain ⟨x, y, t, rfl, h⟩ := am_p2_some h
            rcases am_if_some h with ⟨hl, h⟩ | ⟨-, h⟩
            · obtain ⟨hg, h⟩ := am_gd_some h
              have gr := hKg _ _ _ _ _ h
              exact sm_min C hl hg gr.1 gr.2.1 hA.1 hA.2 hd (hK _ _ _ _ h)
            · exact am_bad_some h
          · rw [if_neg hv4, Bool.and_eq_true, Bool.and_eq_true, Bool.and_eq_true, Bool.and_eq_true, decide_eq_true_eq, decide_eq_true_eq, decide_eq_true_eq] at hA
            obtain ⟨⟨⟨⟨f1, f2⟩, f4⟩, f6⟩, f8⟩ := hA
            rcases am_if_some h with ⟨hl, h⟩ | ⟨-, h⟩
            · obtain ⟨r, S1, M1, h1, h2⟩ := am_then_some (show am_then (Cc a (st.take b).reverse S M) (fun r S' M' => J (pc + 3) ls (am_push r (st.drop b)) S' M') = some Fin from h)
              have e1 : st = (st.take b).reverse.reverse ++ st.drop b := by rw [List.reverse_reverse, List.take_append_drop]
              have e4 : (st.take b).reverse.length = b := by rw [List.length_reverse, List.length_take]; omega
              have hgr := hCg _ _ _ _ _ h1
              have hgr2 := hJg _ _ _ _ _ _ h2
              have key := sm_callS (p := p) (l := l) (e := e) (R := R) (s := s) (m := m) (args := args) (below := below) (meth := meth) (c := c) (Q := Q) (ls := ls) (pc := pc) (st := st.drop b) C (r := (r, S1, M1)) (hC _ _ _ _ _ h1 f2 f4) f2 f4 e4 f6 f1 f8 (by rw [List.length_drop]; omega) ⟨hgr.1, hgr.2.1⟩ ⟨hgr2.1, hgr2.2.1⟩ hgr.2.2 hd (hJ _ _ _ _ _ h2)
              rw [← e1] at key
              exact key
            · exact am_bad_some h
    case ireturn =>
      obtain rfl : n = 1 := sm_or hn
      have hA : ((decide (a = 1) && decide (pg_rt z = some .boolean)) || (decide (a = 0) && decide (pg_rt z = some .int))) = true := hA
      simp only [Bool.and_eq_true, Bool.or_eq_true, decide_eq_true_eq] at hA
      match st, h with
      | [.inl x], h =>
        rcases am_if_some h with ⟨ha, h⟩ | ⟨ha, h⟩
        · obtain ⟨hg, h⟩ := am_gd_some h
          have h : some (some (am_i x), S, M) = some Fin := h
          cases h
          intro H locs A hs
          rcases hA with hA | hA
          · exact (hR pc H locs A hs.1 hs.2.1 hs.2.2.1).1 x rfl (Or.inl ⟨hA.2, hg⟩) hd
          · exact absurd (hA.1.symm.trans ha) (by decide)
        · have h : some (some (am_i x), S, M) = some Fin := h
          cases h
          intro H locs A hs
          rcases hA with hA | hA
          · exact absurd hA.1 ha
          · exact (hR pc H locs A hs.1 hs.2.1 hs.2.2.1).1 x rfl (Or.inr hA.2) hd
      | [], h => exact am_bad_some h
      | .inr x :: t, h => exact am_bad_some h
      | .inl x :: y :: t, h => exact am_bad_some h
    case return_ =>
      obtain rfl : n = 1 := sm_or hn
      match st, h with
      | [], h =>
        have h : some (none, S, M) = some Fin := h
        cases h
        intro H locs A hs
        exact (hR pc H locs A hs.1 hs.2.1 hs.2.2.1).2 rfl (of_decide_eq_true hA) hd
      | x :: t, h => exact am_bad_some h
    all_goals exact am_bad_some h
end SM5
end
section
/-! THE SIMULATION: what the abstract machine answers, the machine answers -/
theorem sm_look {pc : Nat} {is : List am_E} : ∀ {l : List (Nat × List am_E)}, pg_look pc l = some is → (pc, is) ∈ l := by
  intro l
  induction l with
  | nil => intro h; cases h
  | cons q l ih =>
    intro h
    unfold pg_look at h
    by_cases hq : q.1 = pc
    · rw [if_pos hq] at h
      have e : q = (pc, is) := by rw [← hq, ← Option.some.inj h]
      rw [e]; exact List.mem_cons_self
    · rw [if_neg hq] at h
      exact List.mem_cons_of_mem _ (ih h)
theorem sm_okB {z pc : Nat} {is : List am_E} (hz : z < 180) (h : pg_blk z pc = some is) : pg_okL z pc is = true := by
  have h1 := pg_ok_all z hz
  unfold pg_okM at h1
  exact List.all_eq_true.mp h1 _ (sm_look h)
section SM6
variable {p : Program} {l : Launch} {e : Env} {R : Room} {s : State} {m : MethodId} {args : Array Value} {below : List Frame} {meth : Method} {c : Code} {Q : State → Prop} {G : sm_G} {z : Nat} {S0 : am_S} {Fin : am_Z}
theorem sm_run (C : sm_C p R s m meth c G z S0 Fin) (hR : sm_Rt p l e R s m args below meth c Q G z S0 Fin) (hC : ∀ y as S M r, am_call y as S M = some r → y < 179 → pg_ht y < pg_ht z → sm_Met l G y as S M r) :
    ∀ (f pc : Nat) (ls : am_L) (st : am_K) (S : am_S) (M : am_M), am_run f z pc ls st S M = some Fin → sm_W p l e R s m args below meth c Q G z S0 pc ls st S M := by
  intro f
  induction f with
  | zero => intro pc ls st S M h; cases h
  | succ f ih =>
    intro pc ls st S M h
    unfold am_run at h
    cases hb : pg_blk z pc with
    | none => rw [hb] at h; cases h
    | some is =>
      rw [hb] at h
      refine sm_RB C hR (fun pc ls st S M h => ih pc ls st S M h) (fun pc ls st S M r h => am_run_gr f z pc ls st S M r h) (fun y as S M r h h1 h2 => ?_) (fun y as S M r h => am_run_gr f y 0 _ _ S M r (am_in_some h).2) is pc ls st S M (sm_okB C.2.2.2.2.2.2.2.2.2.1 hb) h
      obtain ⟨g1, g2⟩ := am_in_some h
      exact hC y as S M r ((am_in_t g1).trans (am_R_of g2)) h1 h2
end SM6
/-- the locals at a method's entry -/
theorem sm_args_mem {G : sm_G} {lg : List Nat} : ∀ {as : List am_V} {k i : Nat} {v : am_V}, pg_lok lg k (pg_spread as) = true → (pg_spread as)[i]? = some (some v) → (k + i, sm_v G v) ∈ lv_args k (as.map (sm_v G)) ∧ ((sm_v G v).category = 2 → k + i ∈ lg) := by
  intro as
  induction as with
  | nil => intro k i v _ h; simp [pg_spread] at h
  | cons w as ih =>
    intro k i v hok h
    match w, hok, h with
    | .inr (.inl x), hok, h =>
      have hok : (lg.contains k && pg_lok lg (k + 1) (none :: pg_spread as)) = true := hok
      rw [Bool.and_eq_true] at hok
      have hok2 : pg_lok lg (k + 1 + 1) (pg_spread as) = true := hok.2
      have h : (some (.inr (.inl x)) :: none :: pg_spread as)[i]? = some (some v) := h
      show _ ∈ ((k, sm_v G (.inr (.inl x))) :: lv_args (if (sm_v G (.inr (.inl x))).category = 2 then k + 2 else k + 1) (as.map (sm_v G))) ∧ _
      match i, h with
      | 0, h =>
        cases h
        exact ⟨List.mem_cons_self, fun _ => by simpa using hok.1⟩
      | 1, h => cases h
      | i + 2, h =>
        have h3 := ih (k := k + 1 + 1) (i := i) hok2 h
        rw [show k + 1 + 1 + i = k + (i + 2) by omega] at h3
        exact ⟨List.mem_cons_of_mem _ h3.1, h3.2⟩
    | .inl x, hok, h =>
      have hok2 : pg_lok lg (k + 1) (pg_spread as) = true := hok
      have h : (some (.inl x) :: pg_spread as)[i]? = some (some v) := h
      show _ ∈ ((k, sm_v G (.inl x)) :: lv_args (if (sm_v G (.inl x)).category = 2 then k + 2 else k + 1) (as.map (sm_v G))) ∧ _
      match i, h with
      | 0, h =>
        cases h
        exact ⟨List.mem_cons_self, fun q => absurd q (show ¬ (1 : Nat) = 2 by decide)⟩
      | i + 1, h =>
        have h3 := ih (k := k + 1) (i := i) hok2 h
        rw [show k + 1 + i = k + (i + 1) by omega] at h3
        exact ⟨List.mem_cons_of_mem _ h3.1, h3.2⟩
    | .inr (.inr x), hok, h =>
      have hok2 : pg_lok lg (k + 1) (pg_spread as) = true := hok
      have h : (some (.inr (.inr x)) :: pg_spread as)[i]? = some (some v) := h
      have hcat : (sm_v G (.inr (.inr x))).category = 1 := sm_cat1 (fun _ q => by cases q)
      show _ ∈ ((k, sm_v G (.inr (.inr x))) :: lv_args (if (sm_v G (.inr (.inr x))).category = 2 then k + 2 else k + 1) (as.map (sm_v G))) ∧ _
      rw [if_neg (by omega)]
      match i, h with
      | 0, h =>
        cases h
        exact ⟨List.mem_cons_self, fun q => absurd q (by omega)⟩
      | i + 1, h =>
        have h3 := ih (k := k + 1) (i := i) hok2 h
        rw [show k + 1 + i = k + (i + 1) by omega] at h3
        exact ⟨List.mem_cons_of_mem _ h3.1, h3.2⟩
theorem sm_spread_len {G : sm_G} : ∀ (as : List am_V), (lg_sl (as.map (sm_v G))).length = (pg_spread as).length := by
  intro as
  induction as with
  | nil => rfl
  | cons w as ih =>
    have e : lg_sl ((w :: as).map (sm_v G)) = (if (sm_v G w).category = 2 then [.val (sm_v G w), .second] else [.val (sm_v G w)]) ++ lg_sl (as.map (sm_v G)) := by
      unfold lg_sl
      rw [List.map_cons, List.flatMap_cons]
    rw [e, List.length_append, ih]
    match w with
    | .inr (.inl x) =>
      show (if (2 : Nat) = 2 then [_, _] else [_]).length + _ = (pg_spread as).length + 1 + 1
      rw [if_pos rfl]
      show 2 + _ = _
      omega
    | .inl x =>
      show (if (1 : Nat) = 2 then [_, _] else [_]).length + _ = (pg_spread as).length + 1
      rw [if_neg (by decide)]
      show 1 + _ = _
      omega
    | .inr (.inr x) =>
      rw [if_neg (by rw [sm_cat1 (fun _ q => by cases q)]; decide)]
      show 1 + _ = (pg_spread as).length + 1
      omega
theorem sm_entry {G : sm_G} {z : Nat} {as : List am_V} (h : pg_aok z as = true) : sm_L G z (pg_ent z as) ((lg_sl (as.map (sm_v G)) ++ List.replicate (pg_mx z - (lg_sl (as.map (sm_v G))).length) Slot.unset).toArray) := by
  unfold pg_aok at h
  rw [Bool.and_eq_true] at h
  have hle : (pg_spread as).length ≤ pg_mx z := Nat.le_of_ble_eq_true h.2
  have hh := lv_entry (as.map (sm_v G)) (n := pg_mx z) (by rw [sm_spread_len]; exact hle)
  refine ⟨hh.1, hh.2.1, fun i v hi => ?_⟩
  unfold pg_ent at hi
  have hi2 : (pg_spread as)[i]? = some (some v) := by
    by_cases hl : i < (pg_spread as).length
    · rw [List.getElem?_append_left hl] at hi; exact hi
    · rw [List.getElem?_append_right (by omega), List.getElem?_replicate] at hi
      by_cases h9 : i - (pg_spread as).length < pg_mx z - (pg_spread as).length
      · rw [if_pos h9] at hi; cases hi
      · rw [if_neg h9] at hi; cases hi
  have h3 := sm_args_mem (G := G) (k := 0) h.1 hi2
  rw [Nat.zero_add] at h3
  exact ⟨hh.2.2 _ h3.1, h3.2⟩
/-- EVERY METHOD KEEPS ITS ABSTRACT CONTRACT -/
theorem sm_main (l : Launch) (G : sm_G) : ∀ (h z : Nat), pg_ht z < h → z < 179 → ∀ (as : List am_V) (S : am_S) (M : am_M) (r : am_Z), am_call z as S M = some r → sm_Met l G z as S M r := by
  intro h
  induction h with
  | zero => intro z hz; exact absurd hz (by omega)
  | succ h ih =>
    intro z hz hz2 as S M r hc
    obtain ⟨haok, hc⟩ := am_in_some hc
    obtain ⟨f, hf⟩ := am_R_ex hc
    obtain ⟨o1, o2, o3, o4, o5, o6⟩ := sm_okY (z := z) (by omega)
    have hgr := am_run_gr f z 0 _ _ S M r hf
    refine Met.ofW (cc := pg_c z) (maxL := pg_mx z) (ret := pg_rt z) o1 rfl ?_
    intro p e s m args below meth c s₁ B hml hv
    obtain ⟨rfl, hK, hP, hsz, hX⟩ := hv
    have hname := name_of_methodNamed B.named B.method
    have hown : s.vm.findClass (pg_cn (pg_oc z)) = some m.cls := by rw [o2]; exact findClass_of_methodNamed B.named
    have C : sm_C p (sm_rm z S r.2.1) s m meth c G z S r := ⟨B.exec, B.bytes, hml, hown, fun h => hname.1.trans h, hK, hsz, ⟨Nat.le_refl _, Nat.le_refl _⟩, ⟨Nat.le_refl _, Nat.le_refl _⟩, by omega, hX⟩
    rw [lg_entry_eq]
    have hlocks := B.notSynchronized
    have hret := B.returns
    have hR : sm_Rt p l e (sm_rm z S r.2.1) s m ((as.map (sm_v G)).toArray) below meth c (MQ below (sm_Qc G r) ((as.map (sm_v G)).toArray) s (am_n r.2.1 - am_n S) (am_sl r.2.1 - am_sl S) (sm_A G)) G z S r := by
      intro pc H locs A hP1 hz1 hS1
      refine ⟨fun x hx hrt hd => ?_, fun hx hrt hd => ?_⟩
      · have hq : ∀ t : State, t.heap = H → s.WarmedH t.vm → sm_Qc G r ((as.map (sm_v G)).toArray) s (.returned (some (.int (Int32.ofInt x)))) t := fun t ht _ => ⟨by rw [hx]; rfl, by rw [ht]; exact hP1, by rw [ht]; exact hz1, hS1.F ht⟩
        rcases hrt with ⟨hrt, hx01⟩ | hrt
        · refine W.zret (ty := .boolean) B.exec B.bytes (hret.trans hrt) ?_ hq hS1.2.2 hd
          rcases hx01 with rfl | rfl <;> rfl
        · exact W.iret B.exec B.bytes (hret.trans hrt) hq hS1.2.2 hd
      · exact W.vret B.exec B.bytes (hret.trans hrt) (fun t ht _ => ⟨by rw [hx]; rfl, by rw [ht]; exact hP1, by rw [ht]; exact hz1, hS1.F ht⟩) hS1.2.2 hd
    have key := sm_run C hR (fun y as S M r hc h1 h2 => ih y (by omega) h1 as S M r hc) f 0 (pg_ent z as) [] S M hf s.heap [] _ ⟨hP, hsz, va_S.rf, sm_entry haok, Nat.le_refl _, Nat.le_refl _, rfl⟩
    rw [Nat.sub_self, Nat.sub_self] at key
    exact key
end
section
/-! THE CLAIM OUT OF ONE WALK OF THE LAW'S BODY. Your part is whole_start (and what it stands on); all else here is the same for every law, but numbers. -/
def R_law : String := "PersonLinesLaw"
def lw_P (b : Addr) (xs : List Int32) (args : Array Value) (s : State) : Prop := args = #[.ref b] ∧ s.IntsAt b xs ∧ xs.length ≤ 256 ∧ (Jvm.Cond.and given_1 narrow_1).before args s = true
def lw_Q (_ : Array Value) (s : State) (o : Outcome) (t : State) : Prop := o = .returned (some (.int 1)) ∧ Framed s o t [] 600000 7302250
def lw_Z (below : List Frame) (a : Array Value) (s : State) : State → Prop := fun t => ∃ o, t.status = .running ∧ Ended t below o ∧ lw_Q a s o t
/-- the law's own end, with 1 on the stack, nothing written that was there before, its room as the claim has it -/
theorem lw_ret {p : Program} {l : Launch} {e : Env} {s : State} {m : MethodId} {below : List Frame} {meth : Method} {c : Code} {b : Nat} (hx : p.tables.exec = Jvm.exec) (hb : c.code = code) (hr : meth.sig.returnType = ret) (hlocks : meth.locks = false) {pc : Nat} {H : Heap} {ls : Array Slot} (hdg : decode code pc = .ok (.ireturn, 1)) : W p l e room_1 s m #[Value.ref b] below meth c H [] 600000 7302250 (lw_Z below #[Value.ref b] s) (F0 m pc ls [.int 1]) := by
  intro T hT X
  obtain ⟨fs, hret, hrun, hended, hW, hframe⟩ := X.leave (v := some (.int 1)) (hlocks := hlocks) (fun h => by rw [hr] at h; cases h)
  have hmeth' : T.vm.method? m = some meth := X.method'
  refine ⟨T.setFrames fs, ?_, .returned (some (.int 1)), hrun, hended, rfl, ⟨_, rfl⟩, hW, hframe⟩
  jvm_step X.here [X.here.top, hx, hb, hdg, hmeth', hr, ret, narrow_b1]
  (try refine ⟨rfl, ?_⟩); (try refine ⟨rfl, ?_⟩)
  first | (intro acts; rw [hret _ acts rfl rfl rfl]) | rw [hret _ _ rfl rfl rfl]
  exact Steps.refl _
/-- what holds at the law's entry: the machine, the code, the tables' words (any of lw_tbl by 'hts w (by decide +kernel)'), the script of L ints xs at the cell b, what the Statement gives of the start (any of its parts by flat_of_before) -/
def lw_At (p : Program) (s : State) (m : MethodId) (meth : Method) (c : Code) (b L : Nat) (xs : Nat → Int32) : Prop :=
  p.tables.exec = Jvm.exec ∧ c.code = code ∧ meth.sig.returnType = ret ∧ c.maxLocals = 4 ∧ s.vm.findClass R_law = some m.cls ∧ (∀ w ∈ lw_tbl, w.before #[Value.ref b] s = true) ∧ va_X b L xs s s.heap ∧ b < s.heap.size ∧ meth.locks = false ∧ (Jvm.Cond.and given_1 narrow_1).before #[Value.ref b] s = true
/-- the abstract start: nothing made yet -/
def lw_S0 (L : Nat) (xs : Int → Int) : am_S := ((L, xs), (0, 0), (fun _ => (0, 0)), (fun _ _ => 0))
theorem lw_K {s : State} {b : Nat} (hts : ∀ w ∈ lw_tbl, w.before #[Value.ref b] s = true) (q : Nat) : ∃ G : sm_G, sm_K G s ∧ sm_b G = q ∧ sm_sb G = b := by
  have hall : ∀ w ∈ lw_tbl, pg_gw w = true → ∀ a : Array Value, w.before a s = true := fun w hw hg a => sm_gw_moved hg (State.WarmedH.refl s) (hts w hw)
  have hk : ∀ c : Nat, ∃ d : ClassId × (Nat → Nat), c < 10 → u_Kn s (pg_cn c) (pg_fT c) (pg_nf c) d.1 d.2 := by
    intro c
    by_cases hc : c < 10
    · have hi : pg_il.any (fun q => decide (q.1 = c)) = true := by
        have : ∀ ci, ci < 10 → pg_il.any (fun q => decide (q.1 = ci)) = true := by decide +kernel
        exact this c hc
      obtain ⟨cC, iS, h⟩ := u_known (C := pg_cn c) (T := pg_fT c) (N := pg_nf c) (n := pg_nf c) hts (sm_cls_ok c hc).2.1 (hts _ (pg_key pg_il_ok hi))
      exact ⟨(cC, iS), fun _ => h⟩
    · exact ⟨(0, fun _ => 0), fun h => absurd h hc⟩
  obtain ⟨d, hd⟩ := Classical.axiomOfChoice hk
  have hAr : ∀ ty : FieldType, (Cond.arrayClass ty).before #[Value.ref b] s = true → (ty = .int ∨ ty = .boolean) → ∃ cA : ClassId, ArrOfT s cA ty ∧ va_RA s cA ty := by
    intro ty h hty
    obtain ⟨cA, kA, comp, h1, h2, h3⟩ := Cond.arrayClass_spec h
    refine ⟨cA, fun n z => ⟨fun k h => (by cases h), kA, h2, comp, h3⟩, ?_⟩
    rcases hty with rfl | rfl <;> exact h1
  have hOv : ∀ C : String, (Cond.arrayOver (.object C)).before #[Value.ref b] s = true → ∃ cA : ClassId, ArrOfT s cA (.object C) ∧ va_RA s cA (.object C) := by
    intro C h
    obtain ⟨comp, cA, kA, h1, h2, h3, h4, h5⟩ := Cond.arrayOver_spec h
    exact ⟨cA, fun n z => ⟨fun k h => (by cases h), kA, h3, comp, h4⟩, kA, comp, h3, h4, h1, h5⟩
  obtain ⟨a0, p0⟩ := hAr .int (hts _ pg_w_ci) (Or.inl rfl)
  obtain ⟨a1, p1⟩ := hAr .boolean (hts _ pg_w_cz) (Or.inr rfl)
  obtain ⟨a2, p2⟩ := hOv "PersonLines$Life" (hts _ pg_w_ol)
  obtain ⟨a3, p3⟩ := hOv "PersonLines$Image" (hts _ pg_w_om)
  refine ⟨((fun c => (d c).1, fun c => (d c).2), (fun k => if k = 0 then a0 else if k = 1 then a1 else if k = 2 then a2 else a3), q, b), ⟨hall, hts _ pg_w_ol, hts _ pg_w_om, ?_, ?_⟩, rfl, rfl⟩
  · intro c w hw
    have hc : c < 10 := by
      have h1 := (List.getElem?_eq_some_iff.mp hw).1
      exact h1
    have e := (sm_cls_ok c hc).1
    have e2 := Option.some.inj (hw.symm.trans e)
    rw [e2]
    exact hd c hc
  · intro k w hw
    match k, hw with
    | 0, hw => cases hw; exact p0
    | 1, hw => cases hw; exact p1
    | 2, hw => cases hw; exact p2
    | 3, hw => cases hw; exact p3
    | k + 4, hw => simp [sm_tys] at hw
/-- THE LAW'S WALK out of its abstract run -/
theorem lw_sim {p : Program} {e : Env} {s : State} {m : MethodId} {below : List Frame} {meth : Method} {c : Code} (l : Launch) {b L : Nat} {xs : Nat → Int32} (C0 : lw_At p s m meth c b L xs) {S' : am_S} {M' : am_M}
    (h : am_R 179 0 [some am_q, none, none, none] [] (lw_S0 L (fun j => (xs j.toNat).toInt)) (fun _ _ => 0) = some (some (am_i 1), S', M')) (h1 : am_n S' ≤ 600000) (h2 : am_sl S' ≤ 7302250) : W p l e room_1 s m #[Value.ref b] below meth c s.heap [] 0 0 (lw_Z below #[Value.ref b] s) (entryFrame m ([Value.ref b] : List Value).toArray 4) := by
  obtain ⟨hx, hb, hr, hml, hown, hts, hX, hbl, hlocks, hgv⟩ := id C0
  obtain ⟨G, hK, hG1, hG2⟩ := lw_K hts (s.heap.size - 1)
  obtain ⟨f, hf⟩ := am_R_ex h
  have hA : ∀ q, sm_A G q → s.heap.size ≤ q := fun q hq => by have hq : sm_b G < q := hq; omega
  have hXX : sm_X G (lw_S0 L (fun j => (xs j.toNat).toInt)) s s.heap := by
    refine ⟨?_, by omega⟩
    rw [hG2]
    have e1 : (fun j : Nat => Int32.ofInt (am_sx (lw_S0 L (fun j => (xs j.toNat).toInt)) (j : Int))) = xs := by
      funext j
      show Int32.ofInt ((xs ((j : Int).toNat)).toInt) = xs j
      rw [Int32.ofInt_toInt, Int.toNat_natCast]
    rw [e1]
    exact hX
  have C : sm_C p room_1 s m meth c G 179 (lw_S0 L (fun j => (xs j.toNat).toInt)) (some (am_i 1), S', M') :=
    ⟨hx, hb, hml, hown, fun h => absurd h (by decide), hK, by show s.heap.size = sm_b G + 0 + 1; omega, ⟨by decide, by decide⟩, ⟨by show am_n S' - 0 ≤ 600000; omega, by show am_sl S' - 0 ≤ 7302250; omega⟩, by omega, hXX⟩
  have hR : sm_Rt p l e room_1 s m #[Value.ref b] below meth c (lw_Z below #[Value.ref b] s) G 179 (lw_S0 L (fun j => (xs j.toNat).toInt)) (some (am_i 1), S', M') := by
    intro pc H locs A hP1 hz1 hS1
    refine ⟨fun x hx1 hrt hd => ?_, fun hx1 => by cases hx1⟩
    cases hx1
    refine va_forget (fun q hq => hA _ (hS1.2.2 q hq)) ?_
    refine W.widen (k := 600000) (n := 7302250) (by show am_n S' - 0 ≤ _; omega) (by show am_sl S' - 0 ≤ _; omega) ?_
    exact lw_ret hx hb hr hlocks hd
  have hE : sm_L G 179 (pg_ent 179 [am_q]) _ := sm_entry (G := G) (z := 179) (as := [am_q]) (by rfl)
  have ev : ([am_q] : List am_V).map (sm_v G) = [Value.ref b] := by show [Value.ref (sm_sb G)] = _; rw [hG2]
  rw [ev] at hE
  have key := sm_run C hR (fun y as S M r hc h1 h2 => sm_main l G (pg_ht y + 1) y (by omega) h1 as S M r hc) f 0 [some am_q, none, none, none] [] _ _ hf s.heap [] _ ⟨fun k q hk => by simp [sm_w, lw_S0, am_n] at hk, by show s.heap.size = sm_b G + 0 + 1; omega, va_S.rf, hE, Nat.le_refl _, Nat.le_refl _, rfl⟩
  rw [lg_entry_eq]
  exact key
end
