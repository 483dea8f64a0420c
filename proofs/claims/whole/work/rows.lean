section
-- ===== PART A: goes FIRST, ahead of the names: the tables' words, and 'selects' of the private methods out of them =====
/-- a private method of a class that the tables say can be made, by its rows of tables_1 -/
def lw_okq (q : MethodName × Nat) : Prop := (q.1.cls ≠ "java/lang/invoke/MethodHandle" ∧ q.1.cls ≠ "java/lang/invoke/VarHandle") ∧ Cond.instantiable q.1.cls q.2 ∈ tables_1 ∧ Cond.privateMethod q.1 ∈ tables_1 ∧ Cond.instanceMethod q.1 ∈ tables_1
theorem lw_p0 : lw_okq (⟨"PerilSeat$Reader", "readClause", "()Z"⟩, 7) := ⟨⟨by decide +kernel, by decide +kernel⟩, List.mem_of_getElem? (i := 21) (by decide +kernel), List.mem_of_getElem? (i := 315) (by decide +kernel), List.mem_of_getElem? (i := 316) (by decide +kernel)⟩
theorem lw_p1 : lw_okq (⟨"PerilSeat$Reader", "wordThatStandsHere", "()I"⟩, 7) := ⟨⟨by decide +kernel, by decide +kernel⟩, List.mem_of_getElem? (i := 21) (by decide +kernel), List.mem_of_getElem? (i := 326) (by decide +kernel), List.mem_of_getElem? (i := 327) (by decide +kernel)⟩
theorem lw_p2 : lw_okq (⟨"PerilSeat$Reader", "mostFirst", "(I)I"⟩, 7) := ⟨⟨by decide +kernel, by decide +kernel⟩, List.mem_of_getElem? (i := 21) (by decide +kernel), List.mem_of_getElem? (i := 345) (by decide +kernel), List.mem_of_getElem? (i := 346) (by decide +kernel)⟩
theorem lw_p3 : lw_okq (⟨"PerilSeat$Reader", "mostSecond", "(I)I"⟩, 7) := ⟨⟨by decide +kernel, by decide +kernel⟩, List.mem_of_getElem? (i := 21) (by decide +kernel), List.mem_of_getElem? (i := 349) (by decide +kernel), List.mem_of_getElem? (i := 350) (by decide +kernel)⟩
theorem lw_p4 : lw_okq (⟨"PerilSeat$Reader", "tally", "()V"⟩, 7) := ⟨⟨by decide +kernel, by decide +kernel⟩, List.mem_of_getElem? (i := 21) (by decide +kernel), List.mem_of_getElem? (i := 353) (by decide +kernel), List.mem_of_getElem? (i := 354) (by decide +kernel)⟩
theorem lw_p5 : lw_okq (⟨"PerilSeat$Told", "layTable", "(I)V"⟩, 11) := ⟨⟨by decide +kernel, by decide +kernel⟩, List.mem_of_getElem? (i := 79) (by decide +kernel), List.mem_of_getElem? (i := 361) (by decide +kernel), List.mem_of_getElem? (i := 362) (by decide +kernel)⟩
theorem lw_p6 : lw_okq (⟨"PerilSeat$Told", "makePeace", "()V"⟩, 11) := ⟨⟨by decide +kernel, by decide +kernel⟩, List.mem_of_getElem? (i := 79) (by decide +kernel), List.mem_of_getElem? (i := 365) (by decide +kernel), List.mem_of_getElem? (i := 366) (by decide +kernel)⟩
theorem lw_p7 : lw_okq (⟨"PerilSeat$Told", "nameSeat", "(III)V"⟩, 11) := ⟨⟨by decide +kernel, by decide +kernel⟩, List.mem_of_getElem? (i := 79) (by decide +kernel), List.mem_of_getElem? (i := 369) (by decide +kernel), List.mem_of_getElem? (i := 370) (by decide +kernel)⟩
theorem lw_p8 : lw_okq (⟨"PerilSeat$Told", "addKnight", "(III)V"⟩, 11) := ⟨⟨by decide +kernel, by decide +kernel⟩, List.mem_of_getElem? (i := 79) (by decide +kernel), List.mem_of_getElem? (i := 373) (by decide +kernel), List.mem_of_getElem? (i := 374) (by decide +kernel)⟩
theorem lw_p9 : lw_okq (⟨"PerilSeat$Told", "makeEnemies", "(II)V"⟩, 11) := ⟨⟨by decide +kernel, by decide +kernel⟩, List.mem_of_getElem? (i := 79) (by decide +kernel), List.mem_of_getElem? (i := 377) (by decide +kernel), List.mem_of_getElem? (i := 378) (by decide +kernel)⟩
theorem lw_p10 : lw_okq (⟨"PerilSeat", "isSeat", "(I)Z"⟩, 7) := ⟨⟨by decide +kernel, by decide +kernel⟩, List.mem_of_getElem? (i := 13) (by decide +kernel), List.mem_of_getElem? (i := 405) (by decide +kernel), List.mem_of_getElem? (i := 406) (by decide +kernel)⟩
theorem lw_p11 : lw_okq (⟨"PerilSeat", "isKnight", "(I)Z"⟩, 7) := ⟨⟨by decide +kernel, by decide +kernel⟩, List.mem_of_getElem? (i := 13) (by decide +kernel), List.mem_of_getElem? (i := 425) (by decide +kernel), List.mem_of_getElem? (i := 426) (by decide +kernel)⟩
theorem lw_p12 : lw_okq (⟨"PerilSeat", "fitsNow", "(II)Z"⟩, 7) := ⟨⟨by decide +kernel, by decide +kernel⟩, List.mem_of_getElem? (i := 13) (by decide +kernel), List.mem_of_getElem? (i := 441) (by decide +kernel), List.mem_of_getElem? (i := 442) (by decide +kernel)⟩
theorem lw_p13 : lw_okq (⟨"PerilSeat", "whoIsWrong", "()I"⟩, 7) := ⟨⟨by decide +kernel, by decide +kernel⟩, List.mem_of_getElem? (i := 13) (by decide +kernel), List.mem_of_getElem? (i := 496) (by decide +kernel), List.mem_of_getElem? (i := 497) (by decide +kernel)⟩
theorem lw_p14 : lw_okq (⟨"PerilSeat", "isInPeril", "(II)Z"⟩, 7) := ⟨⟨by decide +kernel, by decide +kernel⟩, List.mem_of_getElem? (i := 13) (by decide +kernel), List.mem_of_getElem? (i := 500) (by decide +kernel), List.mem_of_getElem? (i := 501) (by decide +kernel)⟩
theorem lw_p15 : lw_okq (⟨"PerilSeat", "changeRenown", "(I)V"⟩, 7) := ⟨⟨by decide +kernel, by decide +kernel⟩, List.mem_of_getElem? (i := 13) (by decide +kernel), List.mem_of_getElem? (i := 504) (by decide +kernel), List.mem_of_getElem? (i := 505) (by decide +kernel)⟩
def lw_privs_1 : List (MethodName × Nat) := [(⟨"PerilSeat$Reader", "readClause", "()Z"⟩, 7), (⟨"PerilSeat$Reader", "wordThatStandsHere", "()I"⟩, 7), (⟨"PerilSeat$Reader", "mostFirst", "(I)I"⟩, 7), (⟨"PerilSeat$Reader", "mostSecond", "(I)I"⟩, 7), (⟨"PerilSeat$Reader", "tally", "()V"⟩, 7), (⟨"PerilSeat$Told", "layTable", "(I)V"⟩, 11), (⟨"PerilSeat$Told", "makePeace", "()V"⟩, 11), (⟨"PerilSeat$Told", "nameSeat", "(III)V"⟩, 11), (⟨"PerilSeat$Told", "addKnight", "(III)V"⟩, 11), (⟨"PerilSeat$Told", "makeEnemies", "(II)V"⟩, 11), (⟨"PerilSeat", "isSeat", "(I)Z"⟩, 7), (⟨"PerilSeat", "isKnight", "(I)Z"⟩, 7), (⟨"PerilSeat", "fitsNow", "(II)Z"⟩, 7), (⟨"PerilSeat", "whoIsWrong", "()I"⟩, 7), (⟨"PerilSeat", "isInPeril", "(II)Z"⟩, 7), (⟨"PerilSeat", "changeRenown", "(I)V"⟩, 7)]
theorem lw_r1 : ∀ q ∈ lw_privs_1, lw_okq q := List.forall_mem_cons.mpr ⟨lw_p0, List.forall_mem_cons.mpr ⟨lw_p1, List.forall_mem_cons.mpr ⟨lw_p2, List.forall_mem_cons.mpr ⟨lw_p3, List.forall_mem_cons.mpr ⟨lw_p4, List.forall_mem_cons.mpr ⟨lw_p5, List.forall_mem_cons.mpr ⟨lw_p6, List.forall_mem_cons.mpr ⟨lw_p7, List.forall_mem_cons.mpr ⟨lw_p8, List.forall_mem_cons.mpr ⟨lw_p9, List.forall_mem_cons.mpr ⟨lw_p10, List.forall_mem_cons.mpr ⟨lw_p11, List.forall_mem_cons.mpr ⟨lw_p12, List.forall_mem_cons.mpr ⟨lw_p13, List.forall_mem_cons.mpr ⟨lw_p14, List.forall_mem_cons.mpr ⟨lw_p15, fun _ h => absurd h List.not_mem_nil⟩⟩⟩⟩⟩⟩⟩⟩⟩⟩⟩⟩⟩⟩⟩⟩
theorem lw_p16 : lw_okq (⟨"PerilSeat", "whoSitsBehind", "(I)I"⟩, 7) := ⟨⟨by decide +kernel, by decide +kernel⟩, List.mem_of_getElem? (i := 13) (by decide +kernel), List.mem_of_getElem? (i := 508) (by decide +kernel), List.mem_of_getElem? (i := 509) (by decide +kernel)⟩
theorem lw_p17 : lw_okq (⟨"PerilSeat", "areEnemies", "(II)Z"⟩, 7) := ⟨⟨by decide +kernel, by decide +kernel⟩, List.mem_of_getElem? (i := 13) (by decide +kernel), List.mem_of_getElem? (i := 515) (by decide +kernel), List.mem_of_getElem? (i := 516) (by decide +kernel)⟩
theorem lw_p18 : lw_okq (⟨"PerilSeat", "spreadNews", "()V"⟩, 7) := ⟨⟨by decide +kernel, by decide +kernel⟩, List.mem_of_getElem? (i := 13) (by decide +kernel), List.mem_of_getElem? (i := 526) (by decide +kernel), List.mem_of_getElem? (i := 527) (by decide +kernel)⟩
theorem lw_p19 : lw_okq (⟨"PerilSeat", "prepareSearch", "(I)V"⟩, 7) := ⟨⟨by decide +kernel, by decide +kernel⟩, List.mem_of_getElem? (i := 13) (by decide +kernel), List.mem_of_getElem? (i := 551) (by decide +kernel), List.mem_of_getElem? (i := 552) (by decide +kernel)⟩
theorem lw_p20 : lw_okq (⟨"PerilSeat$Search", "waysFrom", "(II)I"⟩, 9) := ⟨⟨by decide +kernel, by decide +kernel⟩, List.mem_of_getElem? (i := 228) (by decide +kernel), List.mem_of_getElem? (i := 559) (by decide +kernel), List.mem_of_getElem? (i := 560) (by decide +kernel)⟩
theorem lw_p21 : lw_okq (⟨"PerilSeat$Search", "freeSeats", "(II)I"⟩, 9) := ⟨⟨by decide +kernel, by decide +kernel⟩, List.mem_of_getElem? (i := 228) (by decide +kernel), List.mem_of_getElem? (i := 564) (by decide +kernel), List.mem_of_getElem? (i := 565) (by decide +kernel)⟩
theorem lw_p22 : lw_okq (⟨"PerilSeat$Search", "besides", "(I)I"⟩, 9) := ⟨⟨by decide +kernel, by decide +kernel⟩, List.mem_of_getElem? (i := 228) (by decide +kernel), List.mem_of_getElem? (i := 568) (by decide +kernel), List.mem_of_getElem? (i := 569) (by decide +kernel)⟩
theorem lw_p23 : lw_okq (⟨"PerilSeat$Search", "firstFrom", "(II)Z"⟩, 9) := ⟨⟨by decide +kernel, by decide +kernel⟩, List.mem_of_getElem? (i := 228) (by decide +kernel), List.mem_of_getElem? (i := 583) (by decide +kernel), List.mem_of_getElem? (i := 584) (by decide +kernel)⟩
theorem lw_p24 : lw_okq (⟨"PerilSeat$Search", "fewestFrom", "(IIII)I"⟩, 9) := ⟨⟨by decide +kernel, by decide +kernel⟩, List.mem_of_getElem? (i := 228) (by decide +kernel), List.mem_of_getElem? (i := 595) (by decide +kernel), List.mem_of_getElem? (i := 596) (by decide +kernel)⟩
theorem lw_p25 : lw_okq (⟨"PerilSeat", "whoKnows", "(I)I"⟩, 7) := ⟨⟨by decide +kernel, by decide +kernel⟩, List.mem_of_getElem? (i := 13) (by decide +kernel), List.mem_of_getElem? (i := 603) (by decide +kernel), List.mem_of_getElem? (i := 604) (by decide +kernel)⟩
theorem lw_p26 : lw_okq (⟨"PerilSeat$Search", "mostFrom", "(IIII)I"⟩, 9) := ⟨⟨by decide +kernel, by decide +kernel⟩, List.mem_of_getElem? (i := 228) (by decide +kernel), List.mem_of_getElem? (i := 612) (by decide +kernel), List.mem_of_getElem? (i := 613) (by decide +kernel)⟩
theorem lw_p27 : lw_okq (⟨"PerilSeat$Search", "knowAfterwards", "(II)I"⟩, 9) := ⟨⟨by decide +kernel, by decide +kernel⟩, List.mem_of_getElem? (i := 228) (by decide +kernel), List.mem_of_getElem? (i := 616) (by decide +kernel), List.mem_of_getElem? (i := 617) (by decide +kernel)⟩
theorem lw_p28 : lw_okq (⟨"PerilSeat", "quarrels", "()I"⟩, 7) := ⟨⟨by decide +kernel, by decide +kernel⟩, List.mem_of_getElem? (i := 13) (by decide +kernel), List.mem_of_getElem? (i := 625) (by decide +kernel), List.mem_of_getElem? (i := 626) (by decide +kernel)⟩
theorem lw_p29 : lw_okq (⟨"PerilSeat$Witness", "isWorld", "(LPerilSeat$Told;III)Z"⟩, 9) := ⟨⟨by decide +kernel, by decide +kernel⟩, List.mem_of_getElem? (i := 188) (by decide +kernel), List.mem_of_getElem? (i := 650) (by decide +kernel), List.mem_of_getElem? (i := 651) (by decide +kernel)⟩
theorem lw_p30 : lw_okq (⟨"PerilSeatModel", "begins", "()V"⟩, 38) := ⟨⟨by decide +kernel, by decide +kernel⟩, List.mem_of_getElem? (i := 683) (by decide +kernel), List.mem_of_getElem? (i := 689) (by decide +kernel), List.mem_of_getElem? (i := 690) (by decide +kernel)⟩
theorem lw_p31 : lw_okq (⟨"PerilSeatModel", "reads", "()V"⟩, 38) := ⟨⟨by decide +kernel, by decide +kernel⟩, List.mem_of_getElem? (i := 683) (by decide +kernel), List.mem_of_getElem? (i := 823) (by decide +kernel), List.mem_of_getElem? (i := 824) (by decide +kernel)⟩
def lw_privs_2 : List (MethodName × Nat) := [(⟨"PerilSeat", "whoSitsBehind", "(I)I"⟩, 7), (⟨"PerilSeat", "areEnemies", "(II)Z"⟩, 7), (⟨"PerilSeat", "spreadNews", "()V"⟩, 7), (⟨"PerilSeat", "prepareSearch", "(I)V"⟩, 7), (⟨"PerilSeat$Search", "waysFrom", "(II)I"⟩, 9), (⟨"PerilSeat$Search", "freeSeats", "(II)I"⟩, 9), (⟨"PerilSeat$Search", "besides", "(I)I"⟩, 9), (⟨"PerilSeat$Search", "firstFrom", "(II)Z"⟩, 9), (⟨"PerilSeat$Search", "fewestFrom", "(IIII)I"⟩, 9), (⟨"PerilSeat", "whoKnows", "(I)I"⟩, 7), (⟨"PerilSeat$Search", "mostFrom", "(IIII)I"⟩, 9), (⟨"PerilSeat$Search", "knowAfterwards", "(II)I"⟩, 9), (⟨"PerilSeat", "quarrels", "()I"⟩, 7), (⟨"PerilSeat$Witness", "isWorld", "(LPerilSeat$Told;III)Z"⟩, 9), (⟨"PerilSeatModel", "begins", "()V"⟩, 38), (⟨"PerilSeatModel", "reads", "()V"⟩, 38)]
theorem lw_r2 : ∀ q ∈ lw_privs_2, lw_okq q := List.forall_mem_cons.mpr ⟨lw_p16, List.forall_mem_cons.mpr ⟨lw_p17, List.forall_mem_cons.mpr ⟨lw_p18, List.forall_mem_cons.mpr ⟨lw_p19, List.forall_mem_cons.mpr ⟨lw_p20, List.forall_mem_cons.mpr ⟨lw_p21, List.forall_mem_cons.mpr ⟨lw_p22, List.forall_mem_cons.mpr ⟨lw_p23, List.forall_mem_cons.mpr ⟨lw_p24, List.forall_mem_cons.mpr ⟨lw_p25, List.forall_mem_cons.mpr ⟨lw_p26, List.forall_mem_cons.mpr ⟨lw_p27, List.forall_mem_cons.mpr ⟨lw_p28, List.forall_mem_cons.mpr ⟨lw_p29, List.forall_mem_cons.mpr ⟨lw_p30, List.forall_mem_cons.mpr ⟨lw_p31, fun _ h => absurd h List.not_mem_nil⟩⟩⟩⟩⟩⟩⟩⟩⟩⟩⟩⟩⟩⟩⟩⟩
theorem lw_p32 : lw_okq (⟨"PerilSeatModel", "next", "()V"⟩, 38) := ⟨⟨by decide +kernel, by decide +kernel⟩, List.mem_of_getElem? (i := 683) (by decide +kernel), List.mem_of_getElem? (i := 827) (by decide +kernel), List.mem_of_getElem? (i := 828) (by decide +kernel)⟩
theorem lw_p33 : lw_okq (⟨"PerilSeatModel", "letterAt", "(I)I"⟩, 38) := ⟨⟨by decide +kernel, by decide +kernel⟩, List.mem_of_getElem? (i := 683) (by decide +kernel), List.mem_of_getElem? (i := 831) (by decide +kernel), List.mem_of_getElem? (i := 832) (by decide +kernel)⟩
theorem lw_p34 : lw_okq (⟨"PerilSeatModel", "readClause", "()V"⟩, 38) := ⟨⟨by decide +kernel, by decide +kernel⟩, List.mem_of_getElem? (i := 683) (by decide +kernel), List.mem_of_getElem? (i := 841) (by decide +kernel), List.mem_of_getElem? (i := 842) (by decide +kernel)⟩
theorem lw_p35 : lw_okq (⟨"PerilSeatModel", "wordOf", "()I"⟩, 38) := ⟨⟨by decide +kernel, by decide +kernel⟩, List.mem_of_getElem? (i := 683) (by decide +kernel), List.mem_of_getElem? (i := 845) (by decide +kernel), List.mem_of_getElem? (i := 846) (by decide +kernel)⟩
theorem lw_p36 : lw_okq (⟨"PerilSeatModel", "spells", "(IIIII)Z"⟩, 38) := ⟨⟨by decide +kernel, by decide +kernel⟩, List.mem_of_getElem? (i := 683) (by decide +kernel), List.mem_of_getElem? (i := 849) (by decide +kernel), List.mem_of_getElem? (i := 850) (by decide +kernel)⟩
theorem lw_p37 : lw_okq (⟨"PerilSeatModel", "otherWord", "()I"⟩, 38) := ⟨⟨by decide +kernel, by decide +kernel⟩, List.mem_of_getElem? (i := 683) (by decide +kernel), List.mem_of_getElem? (i := 853) (by decide +kernel), List.mem_of_getElem? (i := 854) (by decide +kernel)⟩
theorem lw_p38 : lw_okq (⟨"PerilSeatModel", "readTable", "()V"⟩, 38) := ⟨⟨by decide +kernel, by decide +kernel⟩, List.mem_of_getElem? (i := 683) (by decide +kernel), List.mem_of_getElem? (i := 857) (by decide +kernel), List.mem_of_getElem? (i := 858) (by decide +kernel)⟩
theorem lw_p39 : lw_okq (⟨"PerilSeatModel", "number", "(II)I"⟩, 38) := ⟨⟨by decide +kernel, by decide +kernel⟩, List.mem_of_getElem? (i := 683) (by decide +kernel), List.mem_of_getElem? (i := 861) (by decide +kernel), List.mem_of_getElem? (i := 862) (by decide +kernel)⟩
theorem lw_p40 : lw_okq (⟨"PerilSeatModel", "laysTable", "(I)V"⟩, 38) := ⟨⟨by decide +kernel, by decide +kernel⟩, List.mem_of_getElem? (i := 683) (by decide +kernel), List.mem_of_getElem? (i := 865) (by decide +kernel), List.mem_of_getElem? (i := 866) (by decide +kernel)⟩
theorem lw_p41 : lw_okq (⟨"PerilSeatModel", "readName", "(I)V"⟩, 38) := ⟨⟨by decide +kernel, by decide +kernel⟩, List.mem_of_getElem? (i := 683) (by decide +kernel), List.mem_of_getElem? (i := 869) (by decide +kernel), List.mem_of_getElem? (i := 870) (by decide +kernel)⟩
theorem lw_p42 : lw_okq (⟨"PerilSeatModel", "readKnight", "(I)V"⟩, 38) := ⟨⟨by decide +kernel, by decide +kernel⟩, List.mem_of_getElem? (i := 683) (by decide +kernel), List.mem_of_getElem? (i := 873) (by decide +kernel), List.mem_of_getElem? (i := 874) (by decide +kernel)⟩
theorem lw_p43 : lw_okq (⟨"PerilSeatModel", "readEnemies", "()V"⟩, 38) := ⟨⟨by decide +kernel, by decide +kernel⟩, List.mem_of_getElem? (i := 683) (by decide +kernel), List.mem_of_getElem? (i := 877) (by decide +kernel), List.mem_of_getElem? (i := 878) (by decide +kernel)⟩
theorem lw_p44 : lw_okq (⟨"PerilSeatModel", "readPeril", "()V"⟩, 38) := ⟨⟨by decide +kernel, by decide +kernel⟩, List.mem_of_getElem? (i := 683) (by decide +kernel), List.mem_of_getElem? (i := 881) (by decide +kernel), List.mem_of_getElem? (i := 882) (by decide +kernel)⟩
theorem lw_p45 : lw_okq (⟨"PerilSeatModel", "isSeat", "(I)Z"⟩, 38) := ⟨⟨by decide +kernel, by decide +kernel⟩, List.mem_of_getElem? (i := 683) (by decide +kernel), List.mem_of_getElem? (i := 893) (by decide +kernel), List.mem_of_getElem? (i := 894) (by decide +kernel)⟩
theorem lw_p46 : lw_okq (⟨"PerilSeatModel", "sitter", "(I)I"⟩, 38) := ⟨⟨by decide +kernel, by decide +kernel⟩, List.mem_of_getElem? (i := 683) (by decide +kernel), List.mem_of_getElem? (i := 897) (by decide +kernel), List.mem_of_getElem? (i := 898) (by decide +kernel)⟩
theorem lw_p47 : lw_okq (⟨"PerilSeatModel", "perilOn", "()I"⟩, 38) := ⟨⟨by decide +kernel, by decide +kernel⟩, List.mem_of_getElem? (i := 683) (by decide +kernel), List.mem_of_getElem? (i := 901) (by decide +kernel), List.mem_of_getElem? (i := 902) (by decide +kernel)⟩
def lw_privs_3 : List (MethodName × Nat) := [(⟨"PerilSeatModel", "next", "()V"⟩, 38), (⟨"PerilSeatModel", "letterAt", "(I)I"⟩, 38), (⟨"PerilSeatModel", "readClause", "()V"⟩, 38), (⟨"PerilSeatModel", "wordOf", "()I"⟩, 38), (⟨"PerilSeatModel", "spells", "(IIIII)Z"⟩, 38), (⟨"PerilSeatModel", "otherWord", "()I"⟩, 38), (⟨"PerilSeatModel", "readTable", "()V"⟩, 38), (⟨"PerilSeatModel", "number", "(II)I"⟩, 38), (⟨"PerilSeatModel", "laysTable", "(I)V"⟩, 38), (⟨"PerilSeatModel", "readName", "(I)V"⟩, 38), (⟨"PerilSeatModel", "readKnight", "(I)V"⟩, 38), (⟨"PerilSeatModel", "readEnemies", "()V"⟩, 38), (⟨"PerilSeatModel", "readPeril", "()V"⟩, 38), (⟨"PerilSeatModel", "isSeat", "(I)Z"⟩, 38), (⟨"PerilSeatModel", "sitter", "(I)I"⟩, 38), (⟨"PerilSeatModel", "perilOn", "()I"⟩, 38)]
theorem lw_r3 : ∀ q ∈ lw_privs_3, lw_okq q := List.forall_mem_cons.mpr ⟨lw_p32, List.forall_mem_cons.mpr ⟨lw_p33, List.forall_mem_cons.mpr ⟨lw_p34, List.forall_mem_cons.mpr ⟨lw_p35, List.forall_mem_cons.mpr ⟨lw_p36, List.forall_mem_cons.mpr ⟨lw_p37, List.forall_mem_cons.mpr ⟨lw_p38, List.forall_mem_cons.mpr ⟨lw_p39, List.forall_mem_cons.mpr ⟨lw_p40, List.forall_mem_cons.mpr ⟨lw_p41, List.forall_mem_cons.mpr ⟨lw_p42, List.forall_mem_cons.mpr ⟨lw_p43, List.forall_mem_cons.mpr ⟨lw_p44, List.forall_mem_cons.mpr ⟨lw_p45, List.forall_mem_cons.mpr ⟨lw_p46, List.forall_mem_cons.mpr ⟨lw_p47, fun _ h => absurd h List.not_mem_nil⟩⟩⟩⟩⟩⟩⟩⟩⟩⟩⟩⟩⟩⟩⟩⟩
theorem lw_p48 : lw_okq (⟨"PerilSeatModel", "isKnight", "(I)Z"⟩, 38) := ⟨⟨by decide +kernel, by decide +kernel⟩, List.mem_of_getElem? (i := 683) (by decide +kernel), List.mem_of_getElem? (i := 909) (by decide +kernel), List.mem_of_getElem? (i := 910) (by decide +kernel)⟩
theorem lw_p49 : lw_okq (⟨"PerilSeatModel", "fits", "(II)Z"⟩, 38) := ⟨⟨by decide +kernel, by decide +kernel⟩, List.mem_of_getElem? (i := 683) (by decide +kernel), List.mem_of_getElem? (i := 920) (by decide +kernel), List.mem_of_getElem? (i := 921) (by decide +kernel)⟩
theorem lw_p50 : lw_okq (⟨"PerilSeatModel", "fitsBy", "(III)Z"⟩, 38) := ⟨⟨by decide +kernel, by decide +kernel⟩, List.mem_of_getElem? (i := 683) (by decide +kernel), List.mem_of_getElem? (i := 924) (by decide +kernel), List.mem_of_getElem? (i := 925) (by decide +kernel)⟩
theorem lw_p51 : lw_okq (⟨"PerilSeatModel", "isThere", "(I)Z"⟩, 38) := ⟨⟨by decide +kernel, by decide +kernel⟩, List.mem_of_getElem? (i := 683) (by decide +kernel), List.mem_of_getElem? (i := 932) (by decide +kernel), List.mem_of_getElem? (i := 933) (by decide +kernel)⟩
theorem lw_p52 : lw_okq (⟨"PerilSeatModel", "remembers", "()V"⟩, 38) := ⟨⟨by decide +kernel, by decide +kernel⟩, List.mem_of_getElem? (i := 683) (by decide +kernel), List.mem_of_getElem? (i := 940) (by decide +kernel), List.mem_of_getElem? (i := 941) (by decide +kernel)⟩
theorem lw_p53 : lw_okq (⟨"PerilSeatModel", "sitting", "()I"⟩, 38) := ⟨⟨by decide +kernel, by decide +kernel⟩, List.mem_of_getElem? (i := 683) (by decide +kernel), List.mem_of_getElem? (i := 944) (by decide +kernel), List.mem_of_getElem? (i := 945) (by decide +kernel)⟩
theorem lw_p54 : lw_okq (⟨"PerilSeatModel", "allRise", "()V"⟩, 38) := ⟨⟨by decide +kernel, by decide +kernel⟩, List.mem_of_getElem? (i := 683) (by decide +kernel), List.mem_of_getElem? (i := 955) (by decide +kernel), List.mem_of_getElem? (i := 956) (by decide +kernel)⟩
theorem lw_p55 : lw_okq (⟨"PerilSeatModel", "wrongs", "()I"⟩, 38) := ⟨⟨by decide +kernel, by decide +kernel⟩, List.mem_of_getElem? (i := 683) (by decide +kernel), List.mem_of_getElem? (i := 967) (by decide +kernel), List.mem_of_getElem? (i := 968) (by decide +kernel)⟩
theorem lw_p56 : lw_okq (⟨"PerilSeatModel", "isWrong", "(II)Z"⟩, 38) := ⟨⟨by decide +kernel, by decide +kernel⟩, List.mem_of_getElem? (i := 683) (by decide +kernel), List.mem_of_getElem? (i := 971) (by decide +kernel), List.mem_of_getElem? (i := 972) (by decide +kernel)⟩
theorem lw_p57 : lw_okq (⟨"PerilSeatModel", "beside", "(II)I"⟩, 38) := ⟨⟨by decide +kernel, by decide +kernel⟩, List.mem_of_getElem? (i := 683) (by decide +kernel), List.mem_of_getElem? (i := 975) (by decide +kernel), List.mem_of_getElem? (i := 976) (by decide +kernel)⟩
theorem lw_p58 : lw_okq (⟨"PerilSeatModel", "areEnemies", "(II)Z"⟩, 38) := ⟨⟨by decide +kernel, by decide +kernel⟩, List.mem_of_getElem? (i := 683) (by decide +kernel), List.mem_of_getElem? (i := 979) (by decide +kernel), List.mem_of_getElem? (i := 980) (by decide +kernel)⟩
theorem lw_p59 : lw_okq (⟨"PerilSeatModel", "findSeatings", "(I)V"⟩, 38) := ⟨⟨by decide +kernel, by decide +kernel⟩, List.mem_of_getElem? (i := 683) (by decide +kernel), List.mem_of_getElem? (i := 999) (by decide +kernel), List.mem_of_getElem? (i := 1000) (by decide +kernel)⟩
theorem lw_p60 : lw_okq (⟨"PerilSeatModel", "nextThere", "(II)I"⟩, 38) := ⟨⟨by decide +kernel, by decide +kernel⟩, List.mem_of_getElem? (i := 683) (by decide +kernel), List.mem_of_getElem? (i := 1003) (by decide +kernel), List.mem_of_getElem? (i := 1004) (by decide +kernel)⟩
theorem lw_p61 : lw_okq (⟨"PerilSeatModel", "finds", "(I)V"⟩, 38) := ⟨⟨by decide +kernel, by decide +kernel⟩, List.mem_of_getElem? (i := 683) (by decide +kernel), List.mem_of_getElem? (i := 1007) (by decide +kernel), List.mem_of_getElem? (i := 1008) (by decide +kernel)⟩
theorem lw_p62 : lw_okq (⟨"PerilSeatModel", "sitterBy", "(I)I"⟩, 38) := ⟨⟨by decide +kernel, by decide +kernel⟩, List.mem_of_getElem? (i := 683) (by decide +kernel), List.mem_of_getElem? (i := 1011) (by decide +kernel), List.mem_of_getElem? (i := 1012) (by decide +kernel)⟩
theorem lw_p63 : lw_okq (⟨"PerilSeatModel", "maySit", "(II)Z"⟩, 38) := ⟨⟨by decide +kernel, by decide +kernel⟩, List.mem_of_getElem? (i := 683) (by decide +kernel), List.mem_of_getElem? (i := 1015) (by decide +kernel), List.mem_of_getElem? (i := 1016) (by decide +kernel)⟩
def lw_privs_4 : List (MethodName × Nat) := [(⟨"PerilSeatModel", "isKnight", "(I)Z"⟩, 38), (⟨"PerilSeatModel", "fits", "(II)Z"⟩, 38), (⟨"PerilSeatModel", "fitsBy", "(III)Z"⟩, 38), (⟨"PerilSeatModel", "isThere", "(I)Z"⟩, 38), (⟨"PerilSeatModel", "remembers", "()V"⟩, 38), (⟨"PerilSeatModel", "sitting", "()I"⟩, 38), (⟨"PerilSeatModel", "allRise", "()V"⟩, 38), (⟨"PerilSeatModel", "wrongs", "()I"⟩, 38), (⟨"PerilSeatModel", "isWrong", "(II)Z"⟩, 38), (⟨"PerilSeatModel", "beside", "(II)I"⟩, 38), (⟨"PerilSeatModel", "areEnemies", "(II)Z"⟩, 38), (⟨"PerilSeatModel", "findSeatings", "(I)V"⟩, 38), (⟨"PerilSeatModel", "nextThere", "(II)I"⟩, 38), (⟨"PerilSeatModel", "finds", "(I)V"⟩, 38), (⟨"PerilSeatModel", "sitterBy", "(I)I"⟩, 38), (⟨"PerilSeatModel", "maySit", "(II)Z"⟩, 38)]
theorem lw_r4 : ∀ q ∈ lw_privs_4, lw_okq q := List.forall_mem_cons.mpr ⟨lw_p48, List.forall_mem_cons.mpr ⟨lw_p49, List.forall_mem_cons.mpr ⟨lw_p50, List.forall_mem_cons.mpr ⟨lw_p51, List.forall_mem_cons.mpr ⟨lw_p52, List.forall_mem_cons.mpr ⟨lw_p53, List.forall_mem_cons.mpr ⟨lw_p54, List.forall_mem_cons.mpr ⟨lw_p55, List.forall_mem_cons.mpr ⟨lw_p56, List.forall_mem_cons.mpr ⟨lw_p57, List.forall_mem_cons.mpr ⟨lw_p58, List.forall_mem_cons.mpr ⟨lw_p59, List.forall_mem_cons.mpr ⟨lw_p60, List.forall_mem_cons.mpr ⟨lw_p61, List.forall_mem_cons.mpr ⟨lw_p62, List.forall_mem_cons.mpr ⟨lw_p63, fun _ h => absurd h List.not_mem_nil⟩⟩⟩⟩⟩⟩⟩⟩⟩⟩⟩⟩⟩⟩⟩⟩
theorem lw_p64 : lw_okq (⟨"PerilSeatModel", "isWorld", "(III)Z"⟩, 38) := ⟨⟨by decide +kernel, by decide +kernel⟩, List.mem_of_getElem? (i := 683) (by decide +kernel), List.mem_of_getElem? (i := 1047) (by decide +kernel), List.mem_of_getElem? (i := 1048) (by decide +kernel)⟩
theorem lw_p65 : lw_okq (⟨"PerilSeatModel", "dangers", "(II)I"⟩, 38) := ⟨⟨by decide +kernel, by decide +kernel⟩, List.mem_of_getElem? (i := 683) (by decide +kernel), List.mem_of_getElem? (i := 1055) (by decide +kernel), List.mem_of_getElem? (i := 1056) (by decide +kernel)⟩
def lw_privs_5 : List (MethodName × Nat) := [(⟨"PerilSeatModel", "isWorld", "(III)Z"⟩, 38), (⟨"PerilSeatModel", "dangers", "(II)I"⟩, 38)]
theorem lw_r5 : ∀ q ∈ lw_privs_5, lw_okq q := List.forall_mem_cons.mpr ⟨lw_p64, List.forall_mem_cons.mpr ⟨lw_p65, fun _ h => absurd h List.not_mem_nil⟩⟩
def lw_privs : List (MethodName × Nat) := lw_privs_1 ++ (lw_privs_2 ++ (lw_privs_3 ++ (lw_privs_4 ++ (lw_privs_5))))
def lw_tbl : List Cond := k2_sels lw_privs ++ tables_1
theorem lw_privs_ok : ∀ q ∈ lw_privs, lw_okq q := by
  show ∀ q ∈ lw_privs_1 ++ (lw_privs_2 ++ (lw_privs_3 ++ (lw_privs_4 ++ (lw_privs_5)))), lw_okq q
  exact List.forall_mem_append.mpr ⟨lw_r1, List.forall_mem_append.mpr ⟨lw_r2, List.forall_mem_append.mpr ⟨lw_r3, List.forall_mem_append.mpr ⟨lw_r4, lw_r5⟩⟩⟩⟩
end
section
def RX0 : String := "PerilSeat$Evening"
def TX0 : u_T := fun k => match k with
  | 0 => ("PerilSeat$Evening", "day", "I", false)
  | 1 => ("PerilSeat$Evening", "there", "I", false)
  | 2 => ("PerilSeat$Evening", "renown", "[I", true)
  | 3 => ("PerilSeat$Evening", "news", "[I", true)
  | _ => ("PerilSeat$Evening", "place", "[I", true)
def tyX0 : Nat → FieldType := fun k => match k with
  | 0 => .int
  | 1 => .int
  | 2 => .array .int
  | 3 => .array .int
  | _ => .array .int
theorem nmX0 : ∀ a, a < 5 → ∀ b, b < 5 → a ≠ b → (TX0 a).2.1 ≠ (TX0 b).2.1 := by decide +kernel
theorem tyX0_ok : ∀ k, k < 5 → parseFieldDescriptor (TX0 k).2.2.1 = some (tyX0 k) := by decide +kernel
abbrev cX0_init : ByteArray := prog_2_method_1_code
def yX0_init : MethodName := ⟨RX0, "<init>", "()V"⟩
abbrev cX0_begin : ByteArray := prog_2_method_2_code
def yX0_begin : MethodName := ⟨RX0, "begin", "(LPerilSeat$Told;)V"⟩
abbrev cX0_copy : ByteArray := prog_2_method_3_code
def yX0_copy : MethodName := ⟨RX0, "copy", "(LPerilSeat$Evening;)V"⟩
abbrev cX0_allRise : ByteArray := prog_2_method_4_code
def yX0_allRise : MethodName := ⟨RX0, "allRise", "()V"⟩
abbrev cX0_whoSitsOn : ByteArray := prog_2_method_5_code
def yX0_whoSitsOn : MethodName := ⟨RX0, "whoSitsOn", "(I)I"⟩
abbrev cX0_whoSit : ByteArray := prog_2_method_6_code
def yX0_whoSit : MethodName := ⟨RX0, "whoSit", "()I"⟩
def RX1 : String := "PerilSeat$Memory"
def TX1 : u_T := fun k => match k with
  | 0 => ("PerilSeat$Memory", "past", "[LPerilSeat$Evening;", true)
  | 1 => ("PerilSeat$Memory", "kept", "[LPerilSeat$Evening;", true)
  | 2 => ("PerilSeat$Memory", "undoable", "I", false)
  | 3 => ("PerilSeat$Memory", "isKept", "I", false)
  | _ => ("PerilSeat$Memory", "next", "I", false)
def tyX1 : Nat → FieldType := fun k => match k with
  | 0 => .array (.object "PerilSeat$Evening")
  | 1 => .array (.object "PerilSeat$Evening")
  | 2 => .int
  | 3 => .int
  | _ => .int
theorem nmX1 : ∀ a, a < 5 → ∀ b, b < 5 → a ≠ b → (TX1 a).2.1 ≠ (TX1 b).2.1 := by decide +kernel
theorem tyX1_ok : ∀ k, k < 5 → parseFieldDescriptor (TX1 k).2.2.1 = some (tyX1 k) := by decide +kernel
abbrev cX1_init : ByteArray := prog_3_method_1_code
def yX1_init : MethodName := ⟨RX1, "<init>", "()V"⟩
abbrev cX1_clear : ByteArray := prog_3_method_2_code
def yX1_clear : MethodName := ⟨RX1, "clear", "()V"⟩
abbrev cX1_remember : ByteArray := prog_3_method_3_code
def yX1_remember : MethodName := ⟨RX1, "remember", "(LPerilSeat$Evening;)V"⟩
abbrev cX1_recall : ByteArray := prog_3_method_4_code
def yX1_recall : MethodName := ⟨RX1, "recall", "(LPerilSeat$Evening;)V"⟩
def RX2 : String := "PerilSeat$Reader"
def TX2 : u_T := fun k => match k with
  | 0 => ("PerilSeat$Reader", "scroll", "LPerilSeat$Scroll;", true)
  | 1 => ("PerilSeat$Reader", "clauses", "I", false)
  | 2 => ("PerilSeat$Reader", "seats", "I", false)
  | 3 => ("PerilSeat$Reader", "knights", "I", false)
  | 4 => ("PerilSeat$Reader", "word", "I", false)
  | 5 => ("PerilSeat$Reader", "first", "I", false)
  | _ => ("PerilSeat$Reader", "second", "I", false)
def tyX2 : Nat → FieldType := fun k => match k with
  | 0 => .object "PerilSeat$Scroll"
  | 1 => .int
  | 2 => .int
  | 3 => .int
  | 4 => .int
  | 5 => .int
  | _ => .int
theorem nmX2 : ∀ a, a < 7 → ∀ b, b < 7 → a ≠ b → (TX2 a).2.1 ≠ (TX2 b).2.1 := by decide +kernel
theorem tyX2_ok : ∀ k, k < 7 → parseFieldDescriptor (TX2 k).2.2.1 = some (tyX2 k) := by decide +kernel
abbrev cX2_init : ByteArray := prog_4_method_1_code
def yX2_init : MethodName := ⟨RX2, "<init>", "()V"⟩
abbrev cX2_read : ByteArray := prog_4_method_2_code
def yX2_read : MethodName := ⟨RX2, "read", "(LPerilSeat$Told;Z)I"⟩
abbrev cX2_readClause : ByteArray := prog_4_method_3_code
def yX2_readClause : MethodName := ⟨RX2, "readClause", "()Z"⟩
abbrev cX2_tally : ByteArray := prog_4_method_4_code
def yX2_tally : MethodName := ⟨RX2, "tally", "()V"⟩
abbrev cX2_wordThatStandsHere : ByteArray := prog_4_method_5_code
def yX2_wordThatStandsHere : MethodName := ⟨RX2, "wordThatStandsHere", "()I"⟩
abbrev cX2_isKnightWord : ByteArray := prog_4_method_6_code
def yX2_isKnightWord : MethodName := ⟨RX2, "isKnightWord", "(I)Z"⟩
abbrev cX2_numbersBehind : ByteArray := prog_4_method_7_code
def yX2_numbersBehind : MethodName := ⟨RX2, "numbersBehind", "(I)I"⟩
abbrev cX2_leastNumber : ByteArray := prog_4_method_8_code
def yX2_leastNumber : MethodName := ⟨RX2, "leastNumber", "(I)I"⟩
abbrev cX2_mostFirst : ByteArray := prog_4_method_9_code
def yX2_mostFirst : MethodName := ⟨RX2, "mostFirst", "(I)I"⟩
abbrev cX2_mostSecond : ByteArray := prog_4_method_10_code
def yX2_mostSecond : MethodName := ⟨RX2, "mostSecond", "(I)I"⟩
def RX3 : String := "PerilSeat$Scroll"
def TX3 : u_T := fun k => match k with
  | 0 => ("PerilSeat$Scroll", "letters", "[I", true)
  | 1 => ("PerilSeat$Scroll", "length", "I", false)
  | 2 => ("PerilSeat$Scroll", "token", "I", false)
  | 3 => ("PerilSeat$Scroll", "begin", "I", false)
  | _ => ("PerilSeat$Scroll", "end", "I", false)
def tyX3 : Nat → FieldType := fun k => match k with
  | 0 => .array .int
  | 1 => .int
  | 2 => .int
  | 3 => .int
  | _ => .int
theorem nmX3 : ∀ a, a < 5 → ∀ b, b < 5 → a ≠ b → (TX3 a).2.1 ≠ (TX3 b).2.1 := by decide +kernel
theorem tyX3_ok : ∀ k, k < 5 → parseFieldDescriptor (TX3 k).2.2.1 = some (tyX3 k) := by decide +kernel
abbrev cX3_init : ByteArray := prog_5_method_1_code
def yX3_init : MethodName := ⟨RX3, "<init>", "()V"⟩
abbrev cX3_add : ByteArray := prog_5_method_2_code
def yX3_add : MethodName := ⟨RX3, "add", "(I)V"⟩
abbrev cX3_rewind : ByteArray := prog_5_method_3_code
def yX3_rewind : MethodName := ⟨RX3, "rewind", "()V"⟩
abbrev cX3_advance : ByteArray := prog_5_method_4_code
def yX3_advance : MethodName := ⟨RX3, "advance", "()V"⟩
abbrev cX3_tokenOf : ByteArray := prog_5_method_5_code
def yX3_tokenOf : MethodName := ⟨RX3, "tokenOf", "(I)I"⟩
abbrev cX3_isSemicolon : ByteArray := prog_5_method_6_code
def yX3_isSemicolon : MethodName := ⟨RX3, "isSemicolon", "()Z"⟩
abbrev cX3_number : ByteArray := prog_5_method_7_code
def yX3_number : MethodName := ⟨RX3, "number", "()I"⟩
def RX4 : String := "PerilSeat$Search"
def TX4 : u_T := fun k => match k with
  | 0 => ("PerilSeat$Search", "seats", "I", false)
  | 1 => ("PerilSeat$Search", "knights", "I", false)
  | 2 => ("PerilSeat$Search", "there", "I", false)
  | 3 => ("PerilSeat$Search", "good", "[I", true)
  | 4 => ("PerilSeat$Search", "enemies", "[I", true)
  | 5 => ("PerilSeat$Search", "place", "[I", true)
  | 6 => ("PerilSeat$Search", "row", "[I", true)
  | 7 => ("PerilSeat$Search", "knowers", "I", false)
  | _ => ("PerilSeat$Search", "mostThatCan", "I", false)
def tyX4 : Nat → FieldType := fun k => match k with
  | 0 => .int
  | 1 => .int
  | 2 => .int
  | 3 => .array .int
  | 4 => .array .int
  | 5 => .array .int
  | 6 => .array .int
  | 7 => .int
  | _ => .int
theorem nmX4 : ∀ a, a < 9 → ∀ b, b < 9 → a ≠ b → (TX4 a).2.1 ≠ (TX4 b).2.1 := by decide +kernel
theorem tyX4_ok : ∀ k, k < 9 → parseFieldDescriptor (TX4 k).2.2.1 = some (tyX4 k) := by decide +kernel
abbrev cX4_init : ByteArray := prog_6_method_1_code
def yX4_init : MethodName := ⟨RX4, "<init>", "()V"⟩
abbrev cX4_ways : ByteArray := prog_6_method_2_code
def yX4_ways : MethodName := ⟨RX4, "ways", "()I"⟩
abbrev cX4_first : ByteArray := prog_6_method_3_code
def yX4_first : MethodName := ⟨RX4, "first", "()Z"⟩
abbrev cX4_fewestAway : ByteArray := prog_6_method_4_code
def yX4_fewestAway : MethodName := ⟨RX4, "fewestAway", "()I"⟩
abbrev cX4_mostKnow : ByteArray := prog_6_method_5_code
def yX4_mostKnow : MethodName := ⟨RX4, "mostKnow", "(I)I"⟩
abbrev cX4_waysFrom : ByteArray := prog_6_method_6_code
def yX4_waysFrom : MethodName := ⟨RX4, "waysFrom", "(II)I"⟩
abbrev cX4_firstFrom : ByteArray := prog_6_method_7_code
def yX4_firstFrom : MethodName := ⟨RX4, "firstFrom", "(II)Z"⟩
abbrev cX4_fewestFrom : ByteArray := prog_6_method_8_code
def yX4_fewestFrom : MethodName := ⟨RX4, "fewestFrom", "(IIII)I"⟩
abbrev cX4_mostFrom : ByteArray := prog_6_method_9_code
def yX4_mostFrom : MethodName := ⟨RX4, "mostFrom", "(IIII)I"⟩
abbrev cX4_knowAfterwards : ByteArray := prog_6_method_10_code
def yX4_knowAfterwards : MethodName := ⟨RX4, "knowAfterwards", "(II)I"⟩
abbrev cX4_freeSeats : ByteArray := prog_6_method_11_code
def yX4_freeSeats : MethodName := ⟨RX4, "freeSeats", "(II)I"⟩
abbrev cX4_besides : ByteArray := prog_6_method_12_code
def yX4_besides : MethodName := ⟨RX4, "besides", "(I)I"⟩
def RX5 : String := "PerilSeat$Told"
def TX5 : u_T := fun k => match k with
  | 0 => ("PerilSeat$Told", "seats", "I", false)
  | 1 => ("PerilSeat$Told", "knights", "I", false)
  | 2 => ("PerilSeat$Told", "nameKind", "[I", true)
  | 3 => ("PerilSeat$Told", "nameNumber", "[I", true)
  | 4 => ("PerilSeat$Told", "kind", "[I", true)
  | 5 => ("PerilSeat$Told", "renown", "[I", true)
  | 6 => ("PerilSeat$Told", "house", "[I", true)
  | 7 => ("PerilSeat$Told", "enemies", "[I", true)
  | 8 => ("PerilSeat$Told", "perilSeat", "I", false)
  | 9 => ("PerilSeat$Told", "perilStep", "I", false)
  | _ => ("PerilSeat$Told", "meant", "I", false)
def tyX5 : Nat → FieldType := fun k => match k with
  | 0 => .int
  | 1 => .int
  | 2 => .array .int
  | 3 => .array .int
  | 4 => .array .int
  | 5 => .array .int
  | 6 => .array .int
  | 7 => .array .int
  | 8 => .int
  | 9 => .int
  | _ => .int
theorem nmX5 : ∀ a, a < 11 → ∀ b, b < 11 → a ≠ b → (TX5 a).2.1 ≠ (TX5 b).2.1 := by decide +kernel
theorem tyX5_ok : ∀ k, k < 11 → parseFieldDescriptor (TX5 k).2.2.1 = some (tyX5 k) := by decide +kernel
abbrev cX5_init : ByteArray := prog_7_method_1_code
def yX5_init : MethodName := ⟨RX5, "<init>", "()V"⟩
abbrev cX5_obey : ByteArray := prog_7_method_2_code
def yX5_obey : MethodName := ⟨RX5, "obey", "(III)V"⟩
abbrev cX5_layTable : ByteArray := prog_7_method_3_code
def yX5_layTable : MethodName := ⟨RX5, "layTable", "(I)V"⟩
abbrev cX5_nameSeat : ByteArray := prog_7_method_4_code
def yX5_nameSeat : MethodName := ⟨RX5, "nameSeat", "(III)V"⟩
abbrev cX5_addKnight : ByteArray := prog_7_method_5_code
def yX5_addKnight : MethodName := ⟨RX5, "addKnight", "(III)V"⟩
abbrev cX5_makeEnemies : ByteArray := prog_7_method_6_code
def yX5_makeEnemies : MethodName := ⟨RX5, "makeEnemies", "(II)V"⟩
abbrev cX5_makePeace : ByteArray := prog_7_method_7_code
def yX5_makePeace : MethodName := ⟨RX5, "makePeace", "()V"⟩
abbrev cX5_pairsOfEnemies : ByteArray := prog_7_method_8_code
def yX5_pairsOfEnemies : MethodName := ⟨RX5, "pairsOfEnemies", "()I"⟩
abbrev cX5_perilOn : ByteArray := prog_7_method_9_code
def yX5_perilOn : MethodName := ⟨RX5, "perilOn", "(I)I"⟩
abbrev cX5_perilFrom : ByteArray := prog_7_method_10_code
def yX5_perilFrom : MethodName := ⟨RX5, "perilFrom", "(III)I"⟩
abbrev cX5_fits : ByteArray := prog_7_method_11_code
def yX5_fits : MethodName := ⟨RX5, "fits", "(III)Z"⟩
def RX6 : String := "PerilSeat$Witness"
def TX6 : u_T := fun k => match k with
  | 0 => ("PerilSeat$Witness", "knight", "[I", true)
  | 1 => ("PerilSeat$Witness", "seat", "[I", true)
  | 2 => ("PerilSeat$Witness", "day", "[I", true)
  | 3 => ("PerilSeat$Witness", "taken", "[Z", true)
  | 4 => ("PerilSeat$Witness", "sights", "I", false)
  | 5 => ("PerilSeat$Witness", "worlds", "I", false)
  | 6 => ("PerilSeat$Witness", "where", "I", false)
  | 7 => ("PerilSeat$Witness", "forWhom", "I", false)
  | _ => ("PerilSeat$Witness", "risk", "[I", true)
def tyX6 : Nat → FieldType := fun k => match k with
  | 0 => .array .int
  | 1 => .array .int
  | 2 => .array .int
  | 3 => .array .boolean
  | 4 => .int
  | 5 => .int
  | 6 => .int
  | 7 => .int
  | _ => .array .int
theorem nmX6 : ∀ a, a < 9 → ∀ b, b < 9 → a ≠ b → (TX6 a).2.1 ≠ (TX6 b).2.1 := by decide +kernel
theorem tyX6_ok : ∀ k, k < 9 → parseFieldDescriptor (TX6 k).2.2.1 = some (tyX6 k) := by decide +kernel
abbrev cX6_init : ByteArray := prog_8_method_1_code
def yX6_init : MethodName := ⟨RX6, "<init>", "()V"⟩
abbrev cX6_note : ByteArray := prog_8_method_2_code
def yX6_note : MethodName := ⟨RX6, "note", "(IIIZ)V"⟩
abbrev cX6_survey : ByteArray := prog_8_method_3_code
def yX6_survey : MethodName := ⟨RX6, "survey", "(LPerilSeat$Told;II)V"⟩
abbrev cX6_isWorld : ByteArray := prog_8_method_4_code
def yX6_isWorld : MethodName := ⟨RX6, "isWorld", "(LPerilSeat$Told;III)Z"⟩
def RX7 : String := "PerilSeat"
def TX7 : u_T := fun k => match k with
  | 0 => ("PerilSeat", "reader", "LPerilSeat$Reader;", true)
  | 1 => ("PerilSeat", "told", "LPerilSeat$Told;", true)
  | 2 => ("PerilSeat", "now", "LPerilSeat$Evening;", true)
  | 3 => ("PerilSeat", "memory", "LPerilSeat$Memory;", true)
  | 4 => ("PerilSeat", "witness", "LPerilSeat$Witness;", true)
  | 5 => ("PerilSeat", "search", "LPerilSeat$Search;", true)
  | _ => ("PerilSeat", "heard", "[I", true)
def tyX7 : Nat → FieldType := fun k => match k with
  | 0 => .object "PerilSeat$Reader"
  | 1 => .object "PerilSeat$Told"
  | 2 => .object "PerilSeat$Evening"
  | 3 => .object "PerilSeat$Memory"
  | 4 => .object "PerilSeat$Witness"
  | 5 => .object "PerilSeat$Search"
  | _ => .array .int
theorem nmX7 : ∀ a, a < 7 → ∀ b, b < 7 → a ≠ b → (TX7 a).2.1 ≠ (TX7 b).2.1 := by decide +kernel
theorem tyX7_ok : ∀ k, k < 7 → parseFieldDescriptor (TX7 k).2.2.1 = some (tyX7 k) := by decide +kernel
abbrev cX7_init : ByteArray := prog_1_method_1_code
def yX7_init : MethodName := ⟨RX7, "<init>", "()V"⟩
abbrev cX7_write : ByteArray := prog_1_method_2_code
def yX7_write : MethodName := ⟨RX7, "write", "(I)I"⟩
abbrev cX7_erase : ByteArray := prog_1_method_3_code
def yX7_erase : MethodName := ⟨RX7, "erase", "()I"⟩
abbrev cX7_fault : ByteArray := prog_1_method_4_code
def yX7_fault : MethodName := ⟨RX7, "fault", "()I"⟩
abbrev cX7_table : ByteArray := prog_1_method_5_code
def yX7_table : MethodName := ⟨RX7, "table", "()I"⟩
abbrev cX7_seat : ByteArray := prog_1_method_6_code
def yX7_seat : MethodName := ⟨RX7, "seat", "(II)I"⟩
abbrev cX7_knight : ByteArray := prog_1_method_7_code
def yX7_knight : MethodName := ⟨RX7, "knight", "(II)I"⟩
abbrev cX7_as : ByteArray := prog_1_method_8_code
def yX7_as : MethodName := ⟨RX7, "as", "(II)I"⟩
abbrev cX7_seatAs : ByteArray := prog_1_method_9_code
def yX7_seatAs : MethodName := ⟨RX7, "seatAs", "(II)I"⟩
abbrev cX7_sit : ByteArray := prog_1_method_10_code
def yX7_sit : MethodName := ⟨RX7, "sit", "(II)I"⟩
abbrev cX7_rise : ByteArray := prog_1_method_11_code
def yX7_rise : MethodName := ⟨RX7, "rise", "()I"⟩
abbrev cX7_tell : ByteArray := prog_1_method_12_code
def yX7_tell : MethodName := ⟨RX7, "tell", "(II)I"⟩
abbrev cX7_feast : ByteArray := prog_1_method_13_code
def yX7_feast : MethodName := ⟨RX7, "feast", "()I"⟩
abbrev cX7_undo : ByteArray := prog_1_method_14_code
def yX7_undo : MethodName := ⟨RX7, "undo", "()I"⟩
abbrev cX7_keep : ByteArray := prog_1_method_15_code
def yX7_keep : MethodName := ⟨RX7, "keep", "(I)I"⟩
abbrev cX7_back : ByteArray := prog_1_method_16_code
def yX7_back : MethodName := ⟨RX7, "back", "(I)I"⟩
abbrev cX7_seatings : ByteArray := prog_1_method_17_code
def yX7_seatings : MethodName := ⟨RX7, "seatings", "()I"⟩
abbrev cX7_seatOf : ByteArray := prog_1_method_18_code
def yX7_seatOf : MethodName := ⟨RX7, "seatOf", "(I)I"⟩
abbrev cX7_moved : ByteArray := prog_1_method_19_code
def yX7_moved : MethodName := ⟨RX7, "moved", "()I"⟩
abbrev cX7_knows : ByteArray := prog_1_method_20_code
def yX7_knows : MethodName := ⟨RX7, "knows", "(I)I"⟩
abbrev cX7_judge : ByteArray := prog_1_method_21_code
def yX7_judge : MethodName := ⟨RX7, "judge", "(I)I"⟩
abbrev cX7_seen : ByteArray := prog_1_method_22_code
def yX7_seen : MethodName := ⟨RX7, "seen", "(IIII)I"⟩
abbrev cX7_forget : ByteArray := prog_1_method_23_code
def yX7_forget : MethodName := ⟨RX7, "forget", "()I"⟩
abbrev cX7_worlds : ByteArray := prog_1_method_24_code
def yX7_worlds : MethodName := ⟨RX7, "worlds", "(I)I"⟩
abbrev cX7_safest : ByteArray := prog_1_method_25_code
def yX7_safest : MethodName := ⟨RX7, "safest", "(II)I"⟩
abbrev cX7_quests : ByteArray := prog_1_method_26_code
def yX7_quests : MethodName := ⟨RX7, "quests", "(IIIII)J"⟩
abbrev cX7_lent : ByteArray := prog_1_method_27_code
def yX7_lent : MethodName := ⟨RX7, "lent", "(I)I"⟩
abbrev cX7_count : ByteArray := prog_1_method_28_code
def yX7_count : MethodName := ⟨RX7, "count", "(I)I"⟩
abbrev cX7_isSeat : ByteArray := prog_1_method_29_code
def yX7_isSeat : MethodName := ⟨RX7, "isSeat", "(I)Z"⟩
abbrev cX7_isKnight : ByteArray := prog_1_method_30_code
def yX7_isKnight : MethodName := ⟨RX7, "isKnight", "(I)Z"⟩
abbrev cX7_isNews : ByteArray := prog_1_method_31_code
def yX7_isNews : MethodName := ⟨RX7, "isNews", "(I)Z"⟩
abbrev cX7_has : ByteArray := prog_1_method_32_code
def yX7_has : MethodName := ⟨RX7, "has", "(II)Z"⟩
abbrev cX7_behind : ByteArray := prog_1_method_33_code
def yX7_behind : MethodName := ⟨RX7, "behind", "(II)I"⟩
abbrev cX7_ahead : ByteArray := prog_1_method_34_code
def yX7_ahead : MethodName := ⟨RX7, "ahead", "(II)I"⟩
abbrev cX7_isOfKind : ByteArray := prog_1_method_35_code
def yX7_isOfKind : MethodName := ⟨RX7, "isOfKind", "([III)Z"⟩
abbrev cX7_fitsNow : ByteArray := prog_1_method_36_code
def yX7_fitsNow : MethodName := ⟨RX7, "fitsNow", "(II)Z"⟩
abbrev cX7_isInPeril : ByteArray := prog_1_method_37_code
def yX7_isInPeril : MethodName := ⟨RX7, "isInPeril", "(II)Z"⟩
abbrev cX7_whoIsWrong : ByteArray := prog_1_method_38_code
def yX7_whoIsWrong : MethodName := ⟨RX7, "whoIsWrong", "()I"⟩
abbrev cX7_whoKnows : ByteArray := prog_1_method_39_code
def yX7_whoKnows : MethodName := ⟨RX7, "whoKnows", "(I)I"⟩
abbrev cX7_areEnemies : ByteArray := prog_1_method_40_code
def yX7_areEnemies : MethodName := ⟨RX7, "areEnemies", "(II)Z"⟩
abbrev cX7_whoSitsBehind : ByteArray := prog_1_method_41_code
def yX7_whoSitsBehind : MethodName := ⟨RX7, "whoSitsBehind", "(I)I"⟩
abbrev cX7_quarrels : ByteArray := prog_1_method_42_code
def yX7_quarrels : MethodName := ⟨RX7, "quarrels", "()I"⟩
abbrev cX7_changeRenown : ByteArray := prog_1_method_43_code
def yX7_changeRenown : MethodName := ⟨RX7, "changeRenown", "(I)V"⟩
abbrev cX7_spreadNews : ByteArray := prog_1_method_44_code
def yX7_spreadNews : MethodName := ⟨RX7, "spreadNews", "()V"⟩
abbrev cX7_prepareSearch : ByteArray := prog_1_method_45_code
def yX7_prepareSearch : MethodName := ⟨RX7, "prepareSearch", "(I)V"⟩
abbrev cX7_power : ByteArray := prog_1_method_46_code
def yX7_power : MethodName := ⟨RX7, "power", "(II)J"⟩
abbrev cX7_commonDivisor : ByteArray := prog_1_method_47_code
def yX7_commonDivisor : MethodName := ⟨RX7, "commonDivisor", "(JJ)J"⟩
def RX8 : String := "PerilSeatModel"
def TX8 : u_T := fun k => match k with
  | 0 => ("PerilSeatModel", "seats", "I", false)
  | 1 => ("PerilSeatModel", "name", "[I", true)
  | 2 => ("PerilSeatModel", "knights", "I", false)
  | 3 => ("PerilSeatModel", "knight", "[I", true)
  | 4 => ("PerilSeatModel", "enemies", "[I", true)
  | 5 => ("PerilSeatModel", "perilFrom", "I", false)
  | 6 => ("PerilSeatModel", "perilStep", "I", false)
  | 7 => ("PerilSeatModel", "meant", "I", false)
  | 8 => ("PerilSeatModel", "st", "[I", true)
  | 9 => ("PerilSeatModel", "acts", "I", false)
  | 10 => ("PerilSeatModel", "was", "[I", true)
  | 11 => ("PerilSeatModel", "kept", "[I", true)
  | 12 => ("PerilSeatModel", "isKept", "[Z", true)
  | 13 => ("PerilSeatModel", "seens", "I", false)
  | 14 => ("PerilSeatModel", "seen", "[I", true)
  | 15 => ("PerilSeatModel", "text", "[I", true)
  | 16 => ("PerilSeatModel", "texted", "I", false)
  | 17 => ("PerilSeatModel", "at", "I", false)
  | 18 => ("PerilSeatModel", "place", "I", false)
  | 19 => ("PerilSeatModel", "token", "I", false)
  | 20 => ("PerilSeatModel", "value", "I", false)
  | 21 => ("PerilSeatModel", "isWell", "Z", false)
  | 22 => ("PerilSeatModel", "clauses", "I", false)
  | 23 => ("PerilSeatModel", "saidSeats", "I", false)
  | 24 => ("PerilSeatModel", "saidName", "[I", true)
  | 25 => ("PerilSeatModel", "saidKnights", "I", false)
  | 26 => ("PerilSeatModel", "saidKnight", "[I", true)
  | 27 => ("PerilSeatModel", "saidEnemies", "[I", true)
  | 28 => ("PerilSeatModel", "saidFrom", "I", false)
  | 29 => ("PerilSeatModel", "saidStep", "I", false)
  | 30 => ("PerilSeatModel", "saidMeant", "I", false)
  | 31 => ("PerilSeatModel", "heard", "[I", true)
  | 32 => ("PerilSeatModel", "sits", "[I", true)
  | 33 => ("PerilSeatModel", "lentSeat", "I", false)
  | 34 => ("PerilSeatModel", "found", "I", false)
  | 35 => ("PerilSeatModel", "first", "[I", true)
  | 36 => ("PerilSeatModel", "fewest", "I", false)
  | _ => ("PerilSeatModel", "mostKnow", "I", false)
def tyX8 : Nat → FieldType := fun k => match k with
  | 0 => .int
  | 1 => .array .int
  | 2 => .int
  | 3 => .array .int
  | 4 => .array .int
  | 5 => .int
  | 6 => .int
  | 7 => .int
  | 8 => .array .int
  | 9 => .int
  | 10 => .array .int
  | 11 => .array .int
  | 12 => .array .boolean
  | 13 => .int
  | 14 => .array .int
  | 15 => .array .int
  | 16 => .int
  | 17 => .int
  | 18 => .int
  | 19 => .int
  | 20 => .int
  | 21 => .boolean
  | 22 => .int
  | 23 => .int
  | 24 => .array .int
  | 25 => .int
  | 26 => .array .int
  | 27 => .array .int
  | 28 => .int
  | 29 => .int
  | 30 => .int
  | 31 => .array .int
  | 32 => .array .int
  | 33 => .int
  | 34 => .int
  | 35 => .array .int
  | 36 => .int
  | _ => .int
theorem nmX8 : ∀ a, a < 38 → ∀ b, b < 38 → a ≠ b → (TX8 a).2.1 ≠ (TX8 b).2.1 := by decide +kernel
theorem tyX8_ok : ∀ k, k < 38 → parseFieldDescriptor (TX8 k).2.2.1 = some (tyX8 k) := by decide +kernel
abbrev cX8_init : ByteArray := prog_10_method_1_code
def yX8_init : MethodName := ⟨RX8, "<init>", "()V"⟩
abbrev cX8_begins : ByteArray := prog_10_method_3_code
def yX8_begins : MethodName := ⟨RX8, "begins", "()V"⟩
abbrev cX8_in : ByteArray := prog_10_method_4_code
def yX8_in : MethodName := ⟨RX8, "in", "(III)Z"⟩
abbrev cX8_has : ByteArray := prog_10_method_5_code
def yX8_has : MethodName := ⟨RX8, "has", "(II)Z"⟩
abbrev cX8_bits : ByteArray := prog_10_method_6_code
def yX8_bits : MethodName := ⟨RX8, "bits", "(I)I"⟩
abbrev cX8_isSeat : ByteArray := prog_10_method_7_code
def yX8_isSeat : MethodName := ⟨RX8, "isSeat", "(I)Z"⟩
abbrev cX8_isKnight : ByteArray := prog_10_method_8_code
def yX8_isKnight : MethodName := ⟨RX8, "isKnight", "(I)Z"⟩
abbrev cX8_isThere : ByteArray := prog_10_method_9_code
def yX8_isThere : MethodName := ⟨RX8, "isThere", "(I)Z"⟩
abbrev cX8_write : ByteArray := prog_10_method_10_code
def yX8_write : MethodName := ⟨RX8, "write", "(I)I"⟩
abbrev cX8_erase : ByteArray := prog_10_method_11_code
def yX8_erase : MethodName := ⟨RX8, "erase", "()I"⟩
abbrev cX8_letterAt : ByteArray := prog_10_method_12_code
def yX8_letterAt : MethodName := ⟨RX8, "letterAt", "(I)I"⟩
abbrev cX8_isSmall : ByteArray := prog_10_method_13_code
def yX8_isSmall : MethodName := ⟨RX8, "isSmall", "(I)Z"⟩
abbrev cX8_isFigure : ByteArray := prog_10_method_14_code
def yX8_isFigure : MethodName := ⟨RX8, "isFigure", "(I)Z"⟩
abbrev cX8_next : ByteArray := prog_10_method_15_code
def yX8_next : MethodName := ⟨RX8, "next", "()V"⟩
abbrev cX8_spells : ByteArray := prog_10_method_16_code
def yX8_spells : MethodName := ⟨RX8, "spells", "(IIIII)Z"⟩
abbrev cX8_wordOf : ByteArray := prog_10_method_17_code
def yX8_wordOf : MethodName := ⟨RX8, "wordOf", "()I"⟩
abbrev cX8_otherWord : ByteArray := prog_10_method_18_code
def yX8_otherWord : MethodName := ⟨RX8, "otherWord", "()I"⟩
abbrev cX8_number : ByteArray := prog_10_method_19_code
def yX8_number : MethodName := ⟨RX8, "number", "(II)I"⟩
abbrev cX8_laysTable : ByteArray := prog_10_method_20_code
def yX8_laysTable : MethodName := ⟨RX8, "laysTable", "(I)V"⟩
abbrev cX8_readTable : ByteArray := prog_10_method_21_code
def yX8_readTable : MethodName := ⟨RX8, "readTable", "()V"⟩
abbrev cX8_readName : ByteArray := prog_10_method_22_code
def yX8_readName : MethodName := ⟨RX8, "readName", "(I)V"⟩
abbrev cX8_readKnight : ByteArray := prog_10_method_23_code
def yX8_readKnight : MethodName := ⟨RX8, "readKnight", "(I)V"⟩
abbrev cX8_readEnemies : ByteArray := prog_10_method_24_code
def yX8_readEnemies : MethodName := ⟨RX8, "readEnemies", "()V"⟩
abbrev cX8_readPeril : ByteArray := prog_10_method_25_code
def yX8_readPeril : MethodName := ⟨RX8, "readPeril", "()V"⟩
abbrev cX8_readClause : ByteArray := prog_10_method_26_code
def yX8_readClause : MethodName := ⟨RX8, "readClause", "()V"⟩
abbrev cX8_reads : ByteArray := prog_10_method_27_code
def yX8_reads : MethodName := ⟨RX8, "reads", "()V"⟩
abbrev cX8_fault : ByteArray := prog_10_method_28_code
def yX8_fault : MethodName := ⟨RX8, "fault", "()I"⟩
abbrev cX8_table : ByteArray := prog_10_method_29_code
def yX8_table : MethodName := ⟨RX8, "table", "()I"⟩
abbrev cX8_fitsBy : ByteArray := prog_10_method_30_code
def yX8_fitsBy : MethodName := ⟨RX8, "fitsBy", "(III)Z"⟩
abbrev cX8_fits : ByteArray := prog_10_method_31_code
def yX8_fits : MethodName := ⟨RX8, "fits", "(II)Z"⟩
abbrev cX8_perilOn : ByteArray := prog_10_method_32_code
def yX8_perilOn : MethodName := ⟨RX8, "perilOn", "()I"⟩
abbrev cX8_isWrong : ByteArray := prog_10_method_33_code
def yX8_isWrong : MethodName := ⟨RX8, "isWrong", "(II)Z"⟩
abbrev cX8_sitter : ByteArray := prog_10_method_34_code
def yX8_sitter : MethodName := ⟨RX8, "sitter", "(I)I"⟩
abbrev cX8_seat : ByteArray := prog_10_method_35_code
def yX8_seat : MethodName := ⟨RX8, "seat", "(II)I"⟩
abbrev cX8_knight : ByteArray := prog_10_method_36_code
def yX8_knight : MethodName := ⟨RX8, "knight", "(II)I"⟩
abbrev cX8_as : ByteArray := prog_10_method_37_code
def yX8_as : MethodName := ⟨RX8, "as", "(II)I"⟩
abbrev cX8_seatAs : ByteArray := prog_10_method_38_code
def yX8_seatAs : MethodName := ⟨RX8, "seatAs", "(II)I"⟩
abbrev cX8_remembers : ByteArray := prog_10_method_39_code
def yX8_remembers : MethodName := ⟨RX8, "remembers", "()V"⟩
abbrev cX8_sitting : ByteArray := prog_10_method_40_code
def yX8_sitting : MethodName := ⟨RX8, "sitting", "()I"⟩
abbrev cX8_allRise : ByteArray := prog_10_method_41_code
def yX8_allRise : MethodName := ⟨RX8, "allRise", "()V"⟩
abbrev cX8_sit : ByteArray := prog_10_method_42_code
def yX8_sit : MethodName := ⟨RX8, "sit", "(II)I"⟩
abbrev cX8_rise : ByteArray := prog_10_method_43_code
def yX8_rise : MethodName := ⟨RX8, "rise", "()I"⟩
abbrev cX8_tell : ByteArray := prog_10_method_44_code
def yX8_tell : MethodName := ⟨RX8, "tell", "(II)I"⟩
abbrev cX8_beside : ByteArray := prog_10_method_45_code
def yX8_beside : MethodName := ⟨RX8, "beside", "(II)I"⟩
abbrev cX8_areEnemies : ByteArray := prog_10_method_46_code
def yX8_areEnemies : MethodName := ⟨RX8, "areEnemies", "(II)Z"⟩
abbrev cX8_wrongs : ByteArray := prog_10_method_47_code
def yX8_wrongs : MethodName := ⟨RX8, "wrongs", "()I"⟩
abbrev cX8_feast : ByteArray := prog_10_method_48_code
def yX8_feast : MethodName := ⟨RX8, "feast", "()I"⟩
abbrev cX8_undo : ByteArray := prog_10_method_49_code
def yX8_undo : MethodName := ⟨RX8, "undo", "()I"⟩
abbrev cX8_keep : ByteArray := prog_10_method_50_code
def yX8_keep : MethodName := ⟨RX8, "keep", "(I)I"⟩
abbrev cX8_back : ByteArray := prog_10_method_51_code
def yX8_back : MethodName := ⟨RX8, "back", "(I)I"⟩
abbrev cX8_sitterBy : ByteArray := prog_10_method_52_code
def yX8_sitterBy : MethodName := ⟨RX8, "sitterBy", "(I)I"⟩
abbrev cX8_maySit : ByteArray := prog_10_method_53_code
def yX8_maySit : MethodName := ⟨RX8, "maySit", "(II)Z"⟩
abbrev cX8_finds : ByteArray := prog_10_method_54_code
def yX8_finds : MethodName := ⟨RX8, "finds", "(I)V"⟩
abbrev cX8_nextThere : ByteArray := prog_10_method_55_code
def yX8_nextThere : MethodName := ⟨RX8, "nextThere", "(II)I"⟩
abbrev cX8_findSeatings : ByteArray := prog_10_method_56_code
def yX8_findSeatings : MethodName := ⟨RX8, "findSeatings", "(I)V"⟩
abbrev cX8_seatings : ByteArray := prog_10_method_57_code
def yX8_seatings : MethodName := ⟨RX8, "seatings", "()I"⟩
abbrev cX8_seatOf : ByteArray := prog_10_method_58_code
def yX8_seatOf : MethodName := ⟨RX8, "seatOf", "(I)I"⟩
abbrev cX8_moved : ByteArray := prog_10_method_59_code
def yX8_moved : MethodName := ⟨RX8, "moved", "()I"⟩
abbrev cX8_knows : ByteArray := prog_10_method_60_code
def yX8_knows : MethodName := ⟨RX8, "knows", "(I)I"⟩
abbrev cX8_judge : ByteArray := prog_10_method_61_code
def yX8_judge : MethodName := ⟨RX8, "judge", "(I)I"⟩
abbrev cX8_seen : ByteArray := prog_10_method_62_code
def yX8_seen : MethodName := ⟨RX8, "seen", "(IIII)I"⟩
abbrev cX8_forget : ByteArray := prog_10_method_63_code
def yX8_forget : MethodName := ⟨RX8, "forget", "()I"⟩
abbrev cX8_isWorld : ByteArray := prog_10_method_64_code
def yX8_isWorld : MethodName := ⟨RX8, "isWorld", "(III)Z"⟩
abbrev cX8_worlds : ByteArray := prog_10_method_65_code
def yX8_worlds : MethodName := ⟨RX8, "worlds", "(I)I"⟩
abbrev cX8_dangers : ByteArray := prog_10_method_66_code
def yX8_dangers : MethodName := ⟨RX8, "dangers", "(II)I"⟩
abbrev cX8_safest : ByteArray := prog_10_method_67_code
def yX8_safest : MethodName := ⟨RX8, "safest", "(II)I"⟩
abbrev cX8_quests : ByteArray := prog_10_method_68_code
def yX8_quests : MethodName := ⟨RX8, "quests", "(IIIII)J"⟩
abbrev cX8_lent : ByteArray := prog_10_method_69_code
def yX8_lent : MethodName := ⟨RX8, "lent", "(I)I"⟩
abbrev cX8_count : ByteArray := prog_10_method_70_code
def yX8_count : MethodName := ⟨RX8, "count", "(I)I"⟩
def RJ6 : String := "java/lang/Integer"
abbrev cJ6_bitCount_0f7a4 : ByteArray := prog_11_method_49_code
def yJ6_bitCount_0f7a4 : MethodName := ⟨RJ6, "bitCount", "(I)I"⟩
def RJ9 : String := "java/lang/Math"
abbrev cJ9_max_7cf53 : ByteArray := prog_12_method_65_code
def yJ9_max_7cf53 : MethodName := ⟨RJ9, "max", "(II)I"⟩
abbrev cJ9_min_7cf53 : ByteArray := prog_12_method_69_code
def yJ9_min_7cf53 : MethodName := ⟨RJ9, "min", "(II)I"⟩
def RL : String := "PerilSeatLaw"
abbrev cL_law : ByteArray := code
def yL_law : MethodName := ⟨RL, "law", "([I)Z"⟩
abbrev vwCl : List vw_C := [(RX0, TX0, 5), (RX1, TX1, 5), (RX2, TX2, 7), (RX3, TX3, 5), (RX4, TX4, 9), (RX5, TX5, 11), (RX6, TX6, 9), (RX7, TX7, 7), (RX8, TX8, 38)]
end
section
/-- an int memory: by cell and place -/
abbrev pw_m : Type := Nat → Nat → Int32
def pw_up (m : pw_m) (c k : Nat) (v : Int32) : pw_m := fun c' => if c' = c then upd (m c) k v else m c'
/-- a cell's shape: an object (its class, its fields: an int, or the number of a cell) or an array (0 of ints, 1 of booleans, 2 of Evenings; its length; the first Evening's cell) -/
abbrev pw_s : Type := (Nat × List (Option Nat)) ⊕ (Nat × Nat × Nat)
def pw_shp : Nat → Option pw_s
  | 0 => some (.inl (7, [some 1, some 4, some 42, some 11, some 14, some 20, some 25]))
  | 1 => some (.inl (2, [some 2, none, none, none, none, none, none]))
  | 2 => some (.inl (3, [some 3, none, none, none, none]))
  | 3 => some (.inr (0, 160, 0))
  | 4 => some (.inl (5, [none, none, some 5, some 6, some 7, some 8, some 9, some 10, none, none, none]))
  | 5 => some (.inr (0, 8, 0))
  | 6 => some (.inr (0, 8, 0))
  | 7 => some (.inr (0, 6, 0))
  | 8 => some (.inr (0, 6, 0))
  | 9 => some (.inr (0, 6, 0))
  | 10 => some (.inr (0, 6, 0))
  | 11 => some (.inl (1, [some 12, some 13, none, none, none]))
  | 12 => some (.inr (2, 8, 46))
  | 13 => some (.inr (2, 2, 78))
  | 14 => some (.inl (6, [some 15, some 16, some 17, some 18, none, none, none, none, some 19]))
  | 15 => some (.inr (0, 8, 0))
  | 16 => some (.inr (0, 8, 0))
  | 17 => some (.inr (0, 8, 0))
  | 18 => some (.inr (1, 8, 0))
  | 19 => some (.inr (0, 8, 0))
  | 20 => some (.inl (4, [none, none, none, some 21, some 22, some 23, some 24, none, none]))
  | 21 => some (.inr (0, 6, 0))
  | 22 => some (.inr (0, 6, 0))
  | 23 => some (.inr (0, 6, 0))
  | 24 => some (.inr (0, 6, 0))
  | 25 => some (.inr (0, 6, 0))
  | 26 => some (.inl (8, [none, some 27, none, some 28, some 29, none, none, none, some 30, none, some 31, some 32, some 33, none, some 34, some 35, none, none, none, none, none, none, none, none, some 36, none, some 37, some 38, none, none, none, some 39, some 40, none, none, some 41, none, none]))
  | 27 => some (.inr (0, 16, 0))
  | 28 => some (.inr (0, 18, 0))
  | 29 => some (.inr (0, 6, 0))
  | 30 => some (.inr (0, 20, 0))
  | 31 => some (.inr (0, 160, 0))
  | 32 => some (.inr (0, 40, 0))
  | 33 => some (.inr (1, 2, 0))
  | 34 => some (.inr (0, 32, 0))
  | 35 => some (.inr (0, 160, 0))
  | 36 => some (.inr (0, 16, 0))
  | 37 => some (.inr (0, 18, 0))
  | 38 => some (.inr (0, 6, 0))
  | 39 => some (.inr (0, 6, 0))
  | 40 => some (.inr (0, 6, 0))
  | 41 => some (.inr (0, 6, 0))
  | 42 => some (.inl (0, [none, none, some 43, some 44, some 45]))
  | 43 => some (.inr (0, 6, 0))
  | 44 => some (.inr (0, 6, 0))
  | 45 => some (.inr (0, 6, 0))
  | 46 => some (.inl (0, [none, none, some 47, some 48, some 49]))
  | 47 => some (.inr (0, 6, 0))
  | 48 => some (.inr (0, 6, 0))
  | 49 => some (.inr (0, 6, 0))
  | 50 => some (.inl (0, [none, none, some 51, some 52, some 53]))
  | 51 => some (.inr (0, 6, 0))
  | 52 => some (.inr (0, 6, 0))
  | 53 => some (.inr (0, 6, 0))
  | 54 => some (.inl (0, [none, none, some 55, some 56, some 57]))
  | 55 => some (.inr (0, 6, 0))
  | 56 => some (.inr (0, 6, 0))
  | 57 => some (.inr (0, 6, 0))
  | 58 => some (.inl (0, [none, none, some 59, some 60, some 61]))
  | 59 => some (.inr (0, 6, 0))
  | 60 => some (.inr (0, 6, 0))
  | 61 => some (.inr (0, 6, 0))
  | 62 => some (.inl (0, [none, none, some 63, some 64, some 65]))
  | 63 => some (.inr (0, 6, 0))
  | 64 => some (.inr (0, 6, 0))
  | 65 => some (.inr (0, 6, 0))
  | 66 => some (.inl (0, [none, none, some 67, some 68, some 69]))
  | 67 => some (.inr (0, 6, 0))
  | 68 => some (.inr (0, 6, 0))
  | 69 => some (.inr (0, 6, 0))
  | 70 => some (.inl (0, [none, none, some 71, some 72, some 73]))
  | 71 => some (.inr (0, 6, 0))
  | 72 => some (.inr (0, 6, 0))
  | 73 => some (.inr (0, 6, 0))
  | 74 => some (.inl (0, [none, none, some 75, some 76, some 77]))
  | 75 => some (.inr (0, 6, 0))
  | 76 => some (.inr (0, 6, 0))
  | 77 => some (.inr (0, 6, 0))
  | 78 => some (.inl (0, [none, none, some 79, some 80, some 81]))
  | 79 => some (.inr (0, 6, 0))
  | 80 => some (.inr (0, 6, 0))
  | 81 => some (.inr (0, 6, 0))
  | 82 => some (.inl (0, [none, none, some 83, some 84, some 85]))
  | 83 => some (.inr (0, 6, 0))
  | 84 => some (.inr (0, 6, 0))
  | 85 => some (.inr (0, 6, 0))
  | _ => none
/-- class names by number -/
def pw_on : Nat → String
  | 0 => RX0
  | 1 => RX1
  | 2 => RX2
  | 3 => RX3
  | 4 => RX4
  | 5 => RX5
  | 6 => RX6
  | 7 => RX7
  | 8 => RX8
  | 9 => RL
  | 10 => RJ6
  | 11 => RJ9
  | _ => ""
/-- fields by class and entry of its pool: class of the object, place among its fields, place of the word -/
def pw_ft : List (Nat × Nat × Nat × Nat × Nat) := [(7, 10, 7, 0, 334), (7, 19, 7, 1, 335), (7, 26, 7, 2, 336), (7, 33, 7, 3, 337), (7, 40, 7, 4, 338), (7, 47, 7, 5, 339), (7, 51, 7, 6, 340), (7, 55, 2, 0, 121), (7, 59, 3, 1, 101), (7, 80, 6, 4, 264), (7, 83, 2, 1, 123), (7, 90, 5, 2, 160), (7, 93, 5, 3, 162), (7, 100, 0, 0, 205), (7, 109, 5, 4, 164), (7, 112, 0, 2, 209), (7, 115, 5, 6, 168), (7, 118, 5, 7, 170), (7, 121, 0, 1, 207), (7, 128, 0, 3, 211), (7, 131, 0, 4, 213), (7, 141, 5, 0, 153), (7, 150, 5, 1, 158), (7, 181, 1, 2, 238), (7, 187, 1, 1, 236), (7, 194, 1, 3, 240), (7, 207, 4, 5, 310), (7, 228, 6, 5, 266), (7, 231, 6, 6, 268), (7, 234, 6, 7, 270), (7, 237, 6, 8, 272), (7, 265, 5, 10, 174), (7, 286, 4, 0, 300), (7, 287, 4, 1, 302), (7, 288, 4, 2, 304), (7, 289, 4, 3, 306), (7, 292, 4, 4, 308), (7, 293, 4, 6, 312), (0, 9, 0, 2, 208), (0, 15, 0, 3, 210), (0, 18, 0, 4, 212), (0, 21, 0, 0, 204), (0, 25, 5, 1, 154), (0, 30, 0, 1, 206), (0, 33, 5, 5, 166), (1, 11, 1, 0, 234), (1, 17, 1, 1, 235), (1, 21, 1, 2, 237), (1, 25, 1, 3, 239), (1, 28, 1, 4, 241), (2, 12, 2, 0, 120), (2, 21, 5, 0, 150), (2, 27, 2, 2, 124), (2, 28, 5, 1, 155), (2, 31, 2, 3, 125), (2, 32, 2, 1, 122), (2, 39, 3, 3, 104), (2, 42, 2, 4, 126), (2, 45, 2, 5, 127), (2, 48, 2, 6, 128), (2, 58, 3, 2, 102), (2, 95, 3, 4, 107), (2, 98, 3, 0, 99), (3, 9, 3, 0, 98), (3, 15, 3, 1, 100), (3, 19, 3, 2, 103), (3, 22, 3, 3, 105), (3, 25, 3, 4, 106), (4, 9, 4, 3, 305), (4, 15, 4, 4, 307), (4, 18, 4, 5, 309), (4, 21, 4, 6, 311), (4, 36, 4, 7, 313), (4, 40, 4, 2, 303), (4, 54, 4, 8, 314), (4, 60, 4, 1, 301), (4, 69, 4, 0, 299), (5, 9, 5, 2, 159), (5, 15, 5, 3, 161), (5, 18, 5, 4, 163), (5, 21, 5, 5, 165), (5, 24, 5, 6, 167), (5, 27, 5, 7, 169), (5, 30, 5, 10, 173), (5, 49, 5, 8, 171), (5, 52, 5, 9, 172), (5, 58, 5, 0, 151), (5, 61, 5, 1, 156), (6, 9, 6, 0, 259), (6, 15, 6, 1, 260), (6, 18, 6, 2, 261), (6, 21, 6, 3, 262), (6, 25, 6, 8, 271), (6, 28, 6, 4, 263), (6, 32, 6, 5, 265), (6, 35, 6, 6, 267), (6, 38, 6, 7, 269), (6, 41, 5, 0, 152), (6, 50, 5, 1, 157), (8, 7, 8, 1, 759), (8, 13, 8, 3, 761), (8, 16, 8, 4, 762), (8, 19, 8, 7, 765), (8, 23, 8, 8, 766), (8, 26, 8, 10, 768), (8, 29, 8, 11, 769), (8, 32, 8, 12, 770), (8, 36, 8, 14, 772), (8, 39, 8, 15, 773), (8, 42, 8, 24, 782), (8, 45, 8, 26, 784), (8, 48, 8, 27, 785), (8, 51, 8, 31, 789), (8, 54, 8, 32, 790), (8, 57, 8, 33, 791), (8, 60, 8, 35, 793), (8, 66, 8, 2, 760), (8, 69, 8, 9, 767), (8, 72, 8, 13, 771), (8, 75, 8, 0, 758), (8, 90, 8, 16, 774), (8, 93, 8, 17, 775), (8, 100, 8, 18, 776), (8, 103, 8, 20, 778), (8, 106, 8, 19, 777), (8, 123, 8, 21, 779), (8, 130, 8, 23, 781), (8, 133, 8, 25, 783), (8, 136, 8, 28, 786), (8, 139, 8, 29, 787), (8, 142, 8, 30, 788), (8, 171, 8, 5, 763), (8, 174, 8, 6, 764), (8, 177, 8, 22, 780), (8, 231, 8, 34, 792), (8, 234, 8, 36, 794), (8, 237, 8, 37, 795)]
end
section
/-! the world: cells by their numbers at addresses ad; what a method's state is -/
def pw_tv (ad : Nat → Nat) : Value → Value
  | .ref a => .ref (ad a)
  | v => v
def pw_tq (ad : Nat → Nat) (q : Nat × Value) : Nat × Value := (q.1, pw_tv ad q.2)
def pw_fv (ad : Nat → Nat) (m : pw_m) (c : Nat) (q : Option Nat × Nat) : Value := match q.1 with
  | none => .int (m c q.2)
  | some r => .ref (ad r)
def pw_cel (ad : Nat → Nat) (cI cZ cE : ClassId) (m : pw_m) (c : Nat) : va_E := match pw_shp c with
  | some (.inl o) => .inr (o.1, o.2.zipIdx.map (pw_fv ad m c))
  | some (.inr (0, n, _)) => .inl (cI, n, .inl (m c))
  | some (.inr (1, n, _)) => .inl (cZ, n, .inl (m c))
  | some (.inr (_, n, b)) => .inl (cE, n, .inr (.inr (.inr (.inr (fun j => some (ad (b + 4 * j)))))))
  | none => .inr (0, [])
def pw_cs (ad : Nat → Nat) (cI cZ cE : ClassId) (m : pw_m) : va_W := (List.range 86).map (fun c => (ad c, pw_cel ad cI cZ cE m c))
theorem pw_cs_at {ad : Nat → Nat} {cI cZ cE : ClassId} {m : pw_m} {c : Nat} (h : c < 86) : (pw_cs ad cI cZ cE m)[c]? = some (ad c, pw_cel ad cI cZ cE m c) := by
  simp [pw_cs, h]
theorem pw_cel_o {ad : Nat → Nat} {cI cZ cE : ClassId} {m : pw_m} {c : Nat} {o : Nat × List (Option Nat)} (h : pw_shp c = some (.inl o)) : pw_cel ad cI cZ cE m c = .inr (o.1, o.2.zipIdx.map (pw_fv ad m c)) := by
  simp [pw_cel, h]
theorem pw_cel_i {ad : Nat → Nat} {cI cZ cE : ClassId} {m : pw_m} {c n b : Nat} (h : pw_shp c = some (.inr (0, n, b))) : pw_cel ad cI cZ cE m c = .inl (cI, n, .inl (m c)) := by
  simp [pw_cel, h]
theorem pw_cel_z {ad : Nat → Nat} {cI cZ cE : ClassId} {m : pw_m} {c n b : Nat} (h : pw_shp c = some (.inr (1, n, b))) : pw_cel ad cI cZ cE m c = .inl (cZ, n, .inl (m c)) := by
  simp [pw_cel, h]
theorem pw_cel_e {ad : Nat → Nat} {cI cZ cE : ClassId} {m : pw_m} {c n b : Nat} (h : pw_shp c = some (.inr (2, n, b))) : pw_cel ad cI cZ cE m c = .inl (cE, n, .inr (.inr (.inr (.inr (fun j => some (ad (b + 4 * j))))))) := by
  simp [pw_cel, h]
theorem pw_up_ne {m : pw_m} {c k c' : Nat} {v : Int32} (h : c' ≠ c) : pw_up m c k v c' = m c' := by simp [pw_up, h]
theorem pw_up_eq {m : pw_m} {c k : Nat} {v : Int32} : pw_up m c k v c = upd (m c) k v := by simp [pw_up]
theorem pw_fv_congr {ad : Nat → Nat} {m m' : pw_m} {c : Nat} (h : m c = m' c) : pw_fv ad m c = pw_fv ad m' c := by
  funext q
  simp [pw_fv, h]
theorem pw_cel_congr {ad : Nat → Nat} {cI cZ cE : ClassId} {m m' : pw_m} {c : Nat} (h : m c = m' c) : pw_cel ad cI cZ cE m c = pw_cel ad cI cZ cE m' c := by
  unfold pw_cel
  rw [pw_fv_congr (ad := ad) h, h]
theorem pw_cs_set {ad : Nat → Nat} {cI cZ cE : ClassId} {m m' : pw_m} {c : Nat} {e : va_E} (he : pw_cel ad cI cZ cE m' c = e) (h : ∀ c', c' ≠ c → m c' = m' c') : (pw_cs ad cI cZ cE m).set c (ad c, e) = pw_cs ad cI cZ cE m' := by
  subst he
  apply List.ext_getElem?
  intro i
  rw [List.getElem?_set]
  by_cases hi : i < 86
  · rw [pw_cs_at hi, pw_cs_at hi]
    by_cases hc : c = i
    · subst hc
      simp [pw_cs, hi]
    · rw [if_neg hc, pw_cel_congr (h i (fun q => hc q.symm))]
  · have hl : ∀ mm : pw_m, (pw_cs ad cI cZ cE mm).length = 86 := fun mm => by simp [pw_cs]
    rw [List.getElem?_eq_none (by rw [hl]; omega), List.getElem?_eq_none (by rw [hl]; omega)]
    by_cases hc : c = i
    · subst hc
      simp [hl, hi]
    · rw [if_neg hc]
theorem pw_fs_set {ad : Nat → Nat} {m : pw_m} {c k : Nat} {v : Int32} {fs : List (Option Nat)} (hk : fs[k]? = some none) : (fs.zipIdx.map (pw_fv ad m c)).set k (.int v) = fs.zipIdx.map (pw_fv ad (pw_up m c k v) c) := by
  apply List.ext_getElem?
  intro i
  rw [List.getElem?_set, List.getElem?_map, List.getElem?_map, List.getElem?_zipIdx]
  have hlt : k < fs.length := (List.getElem?_eq_some_iff.mp hk).1
  by_cases hi : k = i
  · subst hi
    have h2 : fs[k] = none := (List.getElem?_eq_some_iff.mp hk).2
    simp [h2, pw_fv, pw_up_eq, upd, hlt]
  · rw [if_neg hi]
    cases hq : fs[i]? with
    | none => rfl
    | some f =>
      cases f with
      | none =>
        simp [pw_fv, pw_up_eq, upd]
        exact fun q => absurd q.symm hi
      | some r => simp [pw_fv]
theorem pw_fs_at {ad : Nat → Nat} {m : pw_m} {c k : Nat} {fs : List (Option Nat)} {f : Option Nat} (hk : fs[k]? = some f) : (fs.zipIdx.map (pw_fv ad m c))[k]? = some (pw_fv ad m c (f, k)) := by
  rw [List.getElem?_map, List.getElem?_zipIdx, hk]
  simp
/-- tables that nobody writes: 90, 91, 92 the class's own, 93 the script -/
def pw_k0 (j : Nat) : Int32 := ([-1, 0, 0, 1] : List Int32).getD j 0
def pw_k1 (j : Nat) : Int32 := ([-1, 0, 1, 1, 0, 0] : List Int32).getD j 0
def pw_k2 (j : Nat) : Int32 := ([116, 97, 98, 108, 101, 46, 103, 111, 108, 100, 46, 109, 101, 101, 107, 46, 107, 105, 110, 46, 109, 111, 117, 114, 110, 105, 110, 103, 46, 107, 110, 105, 103, 104, 116, 46, 115, 113, 117, 105, 114, 101, 46, 107, 105, 110, 103, 46, 101, 110, 101, 109, 105, 101, 115, 46, 112, 101, 114, 105, 108, 46, 109, 101, 97, 110, 116, 46, 112, 101, 97, 99, 101, 46] : List Int32).getD j 0
def pw_T (ad : Nat → Nat) (X : Nat × (Nat → Int32)) (A : Nat → Prop) (U : State) (H : Heap) : Prop :=
  (va_Z RX7 "OVER_KNIGHTS" "[I" (.ref (ad 90)) A U H ∧ va_T .int (ad 90) 4 (fun j => .int (pw_k0 j)) A U H) ∧
  (va_Z RX7 "OVER_NAMES" "[I" (.ref (ad 91)) A U H ∧ va_T .int (ad 91) 6 (fun j => .int (pw_k1 j)) A U H) ∧
  (va_Z RX2 "WORDS" "[C" (.ref (ad 92)) A U H ∧ va_T .char (ad 92) 74 (fun j => .int (pw_k2 j)) A U H) ∧
  (X.1 = 0 ∨ X.1 < 2 ^ 31 ∧ va_T .int (ad 93) X.1 (fun j => .int (X.2 j)) A U H)
theorem pw_T.moved {ad : Nat → Nat} {X : Nat × (Nat → Int32)} {A : Nat → Prop} {u U : State} {H : Heap} (hvm : u.vm.Alike U.vm) (h : pw_T ad X A u H) : pw_T ad X A U H :=
  ⟨⟨h.1.1.moved hvm, h.1.2.moved hvm⟩, ⟨h.2.1.1.moved hvm, h.2.1.2.moved hvm⟩, ⟨h.2.2.1.1.moved hvm, h.2.2.1.2.moved hvm⟩, h.2.2.2.imp id (fun q => ⟨q.1, q.2.moved hvm⟩)⟩
theorem pw_T.kept {ad : Nat → Nat} {X : Nat × (Nat → Int32)} {A : Nat → Prop} {U : State} {H H1 : Heap} (h : pw_T ad X A U H) (hq : ∀ a : Nat, a < H.size → ¬ A a → H1[a]? = H[a]?) : pw_T ad X A U H1 :=
  ⟨⟨h.1.1.kept hq, h.1.2.kept hq⟩, ⟨h.2.1.1.kept hq, h.2.1.2.kept hq⟩, ⟨h.2.2.1.1.kept hq, h.2.2.1.2.kept hq⟩, h.2.2.2.imp id (fun q => ⟨q.1, q.2.kept hq⟩)⟩
theorem pw_T.narrow {ad : Nat → Nat} {X : Nat × (Nat → Int32)} {A B : Nat → Prop} {U : State} {H : Heap} (h : pw_T ad X A U H) (hAB : ∀ q, B q → A q) : pw_T ad X B U H :=
  ⟨⟨h.1.1.narrow hAB, h.1.2.narrow hAB⟩, ⟨h.2.1.1.narrow hAB, h.2.1.2.narrow hAB⟩, ⟨h.2.2.1.1.narrow hAB, h.2.2.1.2.narrow hAB⟩, h.2.2.2.imp id (fun q => ⟨q.1, q.2.narrow hAB⟩)⟩
theorem pw_T.noX {ad : Nat → Nat} {X : Nat × (Nat → Int32)} {A : Nat → Prop} {U : State} {H : Heap} (h : pw_T ad X A U H) (f : Nat → Int32) : pw_T ad (0, f) A U H := ⟨h.1, h.2.1, h.2.2.1, Or.inl rfl⟩
/-- a method: its class's number, its code, its locals, its answer's type -/
abbrev pw_M : Type := Nat × ByteArray × Nat × Option FieldType
abbrev pw_ty (cI cZ cE : ClassId) : List (ClassId × FieldType) := [(cI, .int), (cZ, .boolean), (cE, .object RX0)]
/-- the words that a call hands on -/
def pw_tb : List Cond := lw_tbl.filter goodWord
theorem pw_tb_in {w : Cond} {i : Nat} (h : lw_tbl[i]? = some w) (hg : goodWord w = true) : w ∈ pw_tb := List.mem_filter.mpr ⟨List.mem_of_getElem? h, hg⟩
/-- links to a nest mate's private methods -/
def pw_nl : List (String × Nat × MethodName × String) := [(RX4, 63, yX7_has, RX7), (RX4, 81, yX7_behind, RX7), (RX4, 84, yX7_ahead, RX7)]
def pw_N (U : State) : Prop := ∀ q ∈ pw_nl, va_Nw (.methodLinkNest q.1 q.2.1 q.2.2.1 q.2.2.2) U
theorem pw_N.warm {s U : State} (hW : s.WarmedH U.vm) (h : pw_N s) : pw_N U := fun q hq => va_Nw.warmM hW (h q hq)
theorem pw_N.same {u U : State} (hv : u.vm = U.vm) (h : pw_N u) : pw_N U := fun q hq => va_Nw.same rfl hv (h q hq)
/-- where a method runs -/
abbrev pw_X : Type := Program × Launch × Env × Room × State × MethodId × Array Value × List Frame × Method × Code × va_G × (Nat → Nat) × (ClassId × ClassId × ClassId) × (Nat → Prop) × (Nat × (Nat → Int32)) × (Nat × Nat)
def pw_C (x : pw_X) (M : pw_M) (d : Nat) : Prop := match x with
  | (p, _, _, R, s, m, args, _, meth, c, D, ad, (cI, cZ, cE), A, X, (nc, ns)) =>
    p.tables.exec = Jvm.exec ∧ c.code = M.2.1 ∧ c.maxLocals = M.2.2.1 ∧ s.vm.findClass (pw_on M.1) = some m.cls ∧ (∀ w ∈ pw_tb, w.before args s = true) ∧ meth.sig.returnType = M.2.2.2 ∧ meth.locks = false ∧ (d ≤ R.frames ∧ 64 * d ≤ R.locals ∧ nc ≤ R.cells ∧ ns ≤ R.slots) ∧ va_K D vwCl (pw_ty cI cZ cE) s ∧ pw_T ad X A s s.heap ∧ (∀ q, s.heap.size ≤ q → A q) ∧ pw_N s
def pw_H (x : pw_X) (mm : pw_m) (H : Heap) (locs : List Loc) : Prop := match x with
  | (_, _, _, _, s, _, _, _, _, _, D, ad, (cI, cZ, cE), A, _, _) => va_P D vwCl (pw_cs ad cI cZ cE mm) H ∧ va_D A (pw_cs ad cI cZ cE mm) ∧ va_S A s.heap H locs
def pw_W (x : pw_X) (M : pw_M) (Z : State → Prop) (pc : Nat) (lv : List (Nat × Value)) (st : List Value) (H : Heap) (locs : List Loc) : Prop := match x with
  | (p, l, e, R, s, m, args, below, meth, c, _, ad, _, _, _, (nc, ns)) => ∀ ls : Array Slot, lv_has ls M.2.2.1 (lv.map (pw_tq ad)) → W p l e R s m args below meth c H locs nc ns Z (F0 m pc ls (st.map (pw_tv ad)))
/-- the judgement: from here, whatever the heap is that holds mm, the machine comes to Z -/
def pw_V (x : pw_X) (M : pw_M) (d : Nat) (Z : State → Prop) (pc : Nat) (lv : List (Nat × Value)) (st : List Value) (mm : pw_m) : Prop :=
  pw_C x M d → ∀ (H : Heap) (locs : List Loc), pw_H x mm H locs → pw_W x M Z pc lv st H locs
end
section
/-! straight stretches of code, run over the pure state -/
def pw_lk : List (Nat × Value) → Nat → Option Value
  | [], _ => none
  | q :: r, i => if q.1 = i then some q.2 else pw_lk r i
theorem pw_lk_mem {lv : List (Nat × Value)} {i : Nat} {v : Value} (h : pw_lk lv i = some v) : (i, v) ∈ lv := by
  induction lv with
  | nil => cases h
  | cons q r ih =>
    unfold pw_lk at h
    split at h
    · rename_i hq
      cases h
      rw [← hq]
      exact List.mem_cons_self
    · exact List.mem_cons_of_mem _ (ih h)
def pw_s1 (lv : List (Nat × Value)) (i : Nat) (v : Value) : List (Nat × Value) := (i, v) :: lv.filter (fun q => !(q.1 == i) && !(q.1 + 1 == i && q.2.category == 2))
def pw_s2 (lv : List (Nat × Value)) (i : Nat) (v : Value) : List (Nat × Value) := (i, v) :: lv.filter (fun q => !(q.1 == i) && (!(q.1 == i + 1) && !(q.1 + 1 == i && q.2.category == 2)))
theorem pw_tv_cat (ad : Nat → Nat) (v : Value) : (pw_tv ad v).category = v.category := by cases v <;> rfl
theorem pw_s1_map {ad : Nat → Nat} {lv : List (Nat × Value)} {i : Nat} {v : Value} : (i, pw_tv ad v) :: (lv.map (pw_tq ad)).filter (fun q => !(q.1 == i) && !(q.1 + 1 == i && q.2.category == 2)) = (pw_s1 lv i v).map (pw_tq ad) := by
  unfold pw_s1
  rw [List.map_cons, List.filter_map]
  congr 3
  funext q
  simp [pw_tq, pw_tv_cat]
theorem pw_s2_map {ad : Nat → Nat} {lv : List (Nat × Value)} {i : Nat} {v : Value} : (i, pw_tv ad v) :: (lv.map (pw_tq ad)).filter (fun q => !(q.1 == i) && (!(q.1 == i + 1) && !(q.1 + 1 == i && q.2.category == 2))) = (pw_s2 lv i v).map (pw_tq ad) := by
  unfold pw_s2
  rw [List.map_cons, List.filter_map]
  congr 3
  funext q
  simp [pw_tq, pw_tv_cat]
def pw_ia (X : Nat × (Nat → Int32)) (m : pw_m) (c : Nat) : Option (Nat × (Nat → Int32)) := match pw_shp c with
  | some (.inr (0, n, _)) => some (n, m c)
  | some _ => none
  | none => if c = 90 then some (4, pw_k0) else if c = 91 then some (6, pw_k1) else if c = 93 then some X else none
def pw_w1 (X : Nat × (Nat → Int32)) (i : Instr) (lv : List (Nat × Value)) (st : List Value) (m : pw_m) (k : List (Nat × Value) → List Value → pw_m → Prop) : Prop := match i with
  | .iconst n => k lv (.int (Int32.ofInt n) :: st) m
  | .jsr n => k lv (.long (Int64.ofInt n) :: st) m
  | .iload i => match pw_lk lv i with | some (.int x) => k lv (.int x :: st) m | _ => False
  | .lload i => match pw_lk lv i with | some (.long x) => k lv (.long x :: st) m | _ => False
  | .aload i => match pw_lk lv i with | some (.ref x) => k lv (.ref x :: st) m | _ => False
  | .istore i => match st with | .int x :: r => k (pw_s1 lv i (.int x)) r m | _ => False
  | .lstore i => match st with | .long x :: r => k (pw_s2 lv i (.long x)) r m | _ => False
  | .astore i => match st with | .ref x :: r => k (pw_s1 lv i (.ref x)) r m | _ => False
  | .iinc i n => match pw_lk lv i with | some (.int x) => k (pw_s1 lv i (.int (x + Int32.ofInt n))) st m | _ => False
  | .iadd => match st with | .int y :: .int x :: r => k lv (.int (x + y) :: r) m | _ => False
  | .isub => match st with | .int y :: .int x :: r => k lv (.int (x - y) :: r) m | _ => False
  | .imul => match st with | .int y :: .int x :: r => k lv (.int (x * y) :: r) m | _ => False
  | .iand => match st with | .int y :: .int x :: r => k lv (.int (x &&& y) :: r) m | _ => False
  | .ior => match st with | .int y :: .int x :: r => k lv (.int (x ||| y) :: r) m | _ => False
  | .ixor => match st with | .int y :: .int x :: r => k lv (.int (x ^^^ y) :: r) m | _ => False
  | .ishl => match st with | .int y :: .int x :: r => k lv (.int (x <<< (y &&& 31)) :: r) m | _ => False
  | .ishr => match st with | .int y :: .int x :: r => k lv (.int (x >>> (y &&& 31)) :: r) m | _ => False
  | .iushr => match st with | .int y :: .int x :: r => k lv (.int ((x.toUInt32 >>> (y.toUInt32 &&& Int32.toUInt32 31)).toInt32) :: r) m | _ => False
  | .idiv => match st with | .int y :: .int x :: r => ¬ y = 0 ∧ k lv (.int (x / y) :: r) m | _ => False
  | .irem => match st with | .int y :: .int x :: r => ¬ y = 0 ∧ k lv (.int (x - x / y * y) :: r) m | _ => False
  | .ladd => match st with | .long y :: .long x :: r => k lv (.long (x + y) :: r) m | _ => False
  | .lmul => match st with | .long y :: .long x :: r => k lv (.long (x * y) :: r) m | _ => False
  | .ldiv => match st with | .long y :: .long x :: r => ¬ y = 0 ∧ k lv (.long (x / y) :: r) m | _ => False
  | .lrem => match st with | .long y :: .long x :: r => ¬ y = 0 ∧ k lv (.long (x - x / y * y) :: r) m | _ => False
  | .lcmp => match st with | .long y :: .long x :: r => k lv (.int (lg_cmp x y) :: r) m | _ => False
  | .i2l => match st with | .int x :: r => k lv (.long x.toInt64 :: r) m | _ => False
  | .dup => match st with | .int x :: r => k lv (.int x :: .int x :: r) m | .ref x :: r => k lv (.ref x :: .ref x :: r) m | _ => False
  | .dup2 => match st with | .int y :: .ref x :: r => k lv (.int y :: .ref x :: .int y :: .ref x :: r) m | _ => False
  | .pop => match st with | .int _ :: r => k lv r m | _ => False
  | .getstatic j => k lv (.ref (90 + j) :: st) m
  | .getfield j => match st with
    | .ref c :: r => (match pw_shp c with
      | some (.inl o) => if j / 100 = o.1 then (match o.2[j % 100]? with | some none => k lv (.int (m c (j % 100)) :: r) m | some (some q) => k lv (.ref q :: r) m | none => False) else False
      | _ => False)
    | _ => False
  | .putfield j => match st with
    | .int v :: .ref c :: r => (match pw_shp c with
      | some (.inl o) => if j / 100 = o.1 then (match o.2[j % 100]? with | some none => (if j = 821 then (v = 0 ∨ v = 1) ∧ k lv r (pw_up m c (j % 100) v) else k lv r (pw_up m c (j % 100) v)) | _ => False) else False
      | _ => False)
    | _ => False
  | .iaload => match st with
    | .int i :: .ref c :: r => (match pw_ia X m c with | some (n, f) => ∃ j : Nat, i = nI j ∧ j < n ∧ k lv (.int (f j) :: r) m | none => False)
    | _ => False
  | .baload => match st with
    | .int i :: .ref c :: r => (match pw_shp c with | some (.inr (1, n, _)) => ∃ j : Nat, i = nI j ∧ j < n ∧ k lv (.int (m c j) :: r) m | _ => False)
    | _ => False
  | .caload => match st with
    | .int i :: .ref c :: r => c = 92 ∧ ∃ j : Nat, i = nI j ∧ j < 74 ∧ k lv (.int (pw_k2 j) :: r) m
    | _ => False
  | .aaload => match st with
    | .int i :: .ref c :: r => (match pw_shp c with | some (.inr (2, n, b)) => ∃ j : Nat, i = nI j ∧ j < n ∧ k lv (.ref (b + 4 * j) :: r) m | _ => False)
    | _ => False
  | .iastore => match st with
    | .int v :: .int i :: .ref c :: r => (match pw_shp c with | some (.inr (0, n, _)) => ∃ j : Nat, i = nI j ∧ j < n ∧ k lv r (pw_up m c j v) | _ => False)
    | _ => False
  | .bastore => match st with
    | .int v :: .int i :: .ref c :: r => (match pw_shp c with | some (.inr (1, n, _)) => (v = 0 ∨ v = 1) ∧ ∃ j : Nat, i = nI j ∧ j < n ∧ k lv r (pw_up m c j v) | _ => False)
    | _ => False
  | .arraylength => match st with
    | .ref c :: r => if c = 92 then k lv (.int 74 :: r) m else if c = 93 then False else (match pw_ia X m c with | some (n, _) => k lv (.int (Int32.ofNat n) :: r) m | none => False)
    | _ => False
  | _ => False
def pw_wp (X : Nat × (Nat → Int32)) : List Instr → List (Nat × Value) → List Value → pw_m → (List (Nat × Value) → List Value → pw_m → Prop) → Prop
  | [], lv, st, m, k => k lv st m
  | i :: is, lv, st, m, k => pw_w1 X i lv st m (fun lv' st' m' => pw_wp X is lv' st' m' k)
def pw_lc (o idx : Nat) : Option Int := if o = 7 then (if idx = 240 then some (-2) else if idx = 242 then some (-3) else none) else if o = 8 then (if idx = 258 then some (-2) else if idx = 260 then some (-3) else if idx = 262 then some 10 else none) else none
def pw_ic (o idx : Nat) : Option Int := if o = 10 then (if idx = 265 then some 1431655765 else if idx = 266 then some 858993459 else if idx = 267 then some 252645135 else none) else none
def pw_sc (o idx : Nat) : Option Nat := if o = 7 then (if idx = 134 then some 0 else if idx = 147 then some 1 else none) else if o = 2 then (if idx = 91 then some 2 else none) else none
/-- what a decoded instruction is here -/
def pw_rs (o : Nat) (r : Instr) (len : Nat) : Option Instr := match r with
  | .iconst n => if len = 1 then some (.iconst n) else none
  | .bipush n => if len = 2 ∧ (Int8.ofInt n).toInt32 = Int32.ofInt n then some (.iconst n) else none
  | .sipush n => if len = 3 ∧ (Int16.ofInt n).toInt32 = Int32.ofInt n then some (.iconst n) else none
  | .lconst n => if len = 1 ∧ Int64.ofNat n = Int64.ofInt ((n : Nat) : Int) then some (.jsr ((n : Nat) : Int)) else none
  | .ldc2_w i => if len = 3 then (pw_lc o i).map .jsr else none
  | .ldc_w i => if len = 3 then (pw_ic o i).map .iconst else none
  | .iload_n k => if len = 1 then some (.iload k) else none
  | .iload i => if len = 2 then some (.iload i) else none
  | .lload_n k => if len = 1 then some (.lload k) else none
  | .lload i => if len = 2 then some (.lload i) else none
  | .aload_n k => if len = 1 then some (.aload k) else none
  | .aload i => if len = 2 then some (.aload i) else none
  | .istore_n k => if len = 1 then some (.istore k) else none
  | .istore i => if len = 2 then some (.istore i) else none
  | .lstore_n k => if len = 1 then some (.lstore k) else none
  | .lstore i => if len = 2 then some (.lstore i) else none
  | .astore_n k => if len = 1 then some (.astore k) else none
  | .astore i => if len = 2 then some (.astore i) else none
  | .iinc i n => if len = 3 then some (.iinc i n) else none
  | .getstatic i => if len = 3 then (pw_sc o i).map .getstatic else none
  | .getfield i => if len = 3 then (pw_ft.find? (fun e => e.1 == o && e.2.1 == i)).map (fun e => .getfield (100 * e.2.2.1 + e.2.2.2.1)) else none
  | .putfield i => if len = 3 then (pw_ft.find? (fun e => e.1 == o && e.2.1 == i)).map (fun e => .putfield (100 * e.2.2.1 + e.2.2.2.1)) else none
  | .iadd => if len = 1 then some .iadd else none
  | .isub => if len = 1 then some .isub else none
  | .imul => if len = 1 then some .imul else none
  | .iand => if len = 1 then some .iand else none
  | .ior => if len = 1 then some .ior else none
  | .ixor => if len = 1 then some .ixor else none
  | .ishl => if len = 1 then some .ishl else none
  | .ishr => if len = 1 then some .ishr else none
  | .iushr => if len = 1 then some .iushr else none
  | .idiv => if len = 1 then some .idiv else none
  | .irem => if len = 1 then some .irem else none
  | .ladd => if len = 1 then some .ladd else none
  | .lmul => if len = 1 then some .lmul else none
  | .ldiv => if len = 1 then some .ldiv else none
  | .lrem => if len = 1 then some .lrem else none
  | .lcmp => if len = 1 then some .lcmp else none
  | .i2l => if len = 1 then some .i2l else none
  | .dup => if len = 1 then some .dup else none
  | .dup2 => if len = 1 then some .dup2 else none
  | .pop => if len = 1 then some .pop else none
  | .iaload => if len = 1 then some .iaload else none
  | .baload => if len = 1 then some .baload else none
  | .caload => if len = 1 then some .caload else none
  | .aaload => if len = 1 then some .aaload else none
  | .iastore => if len = 1 then some .iastore else none
  | .bastore => if len = 1 then some .bastore else none
  | .arraylength => if len = 1 then some .arraylength else none
  | _ => none
/-- the local slots that a store needs -/
def pw_mx : Instr → Nat
  | .istore i => i + 1
  | .lstore i => i + 2
  | .astore i => i + 1
  | .iinc i _ => i + 1
  | _ => 0
def pw_ck (M : pw_M) : Nat → List Instr → Option Nat
  | pc, [] => some pc
  | pc, i :: is => match decode M.2.1 pc with
    | .ok (r, len) => if pw_rs M.1 r len = some i ∧ pw_mx i ≤ M.2.2.1 then pw_ck M (pc + len) is else none
    | .error _ => none
/-! what the tables say, by places -/
def pw_fc (e : Nat × Nat × Nat × Nat × Nat) : Bool := match vwCl[e.2.2.1]? with
  | none => false
  | some (C, T, N) => decide (e.2.2.2.1 < N) && decide (e.2.2.2.1 < 100) && decide ((T e.2.2.2.1).1 = C) && decide (lw_tbl[e.2.2.2.2]? = some (.fieldLink (pw_on e.1) e.2.1 C (T e.2.2.2.1).2.1 (T e.2.2.2.1).2.2.1))
theorem pw_ft_ok : pw_ft.all pw_fc = true := by decide +kernel
def pw_sz (c : Nat) : Bool := match pw_shp c with
  | some (.inl o) => (match vwCl[o.1]? with
    | some (_, T, N) => decide (o.2.length = N) && (List.range o.2.length).all (fun k => match o.2[k]? with
      | some none => decide ((T k).2.2.2 = false) && decide ((T k).2.2.1 = if 100 * o.1 + k = 821 then "Z" else "I")
      | _ => true)
    | none => false)
  | some (.inr a) => decide (a.1 ≤ 2) && decide (a.2.1 < 2 ^ 31)
  | none => false
theorem pw_sz_ok : (List.range 86).all pw_sz = true := by decide +kernel
end
section
/-! each instruction, over the machine -/
theorem pw_ld {ad : Nat → Nat} {ls : Array Slot} {n : Nat} {lv : List (Nat × Value)} (h : lv_has ls n (lv.map (pw_tq ad))) {i : Nat} {v : Value} (hv : pw_lk lv i = some v) : ls[i]? = some (.val (pw_tv ad v)) := h.2.2 (i, pw_tv ad v) (List.mem_map.mpr ⟨(i, v), pw_lk_mem hv, rfl⟩)
section PWO
variable {x : pw_X} {M : pw_M} {d : Nat} {Z : State → Prop} {pc : Nat} {lv : List (Nat × Value)} {r : List Value} {mm : pw_m}
theorem pw_o_iadd {a b : Int32} (hd : decode M.2.1 pc = .ok (.iadd, 1))  (hk : pw_V x M d Z (pc + 1) lv (.int (a + b) :: r) mm) : pw_V x M d Z pc lv (.int b :: .int a :: r) mm := by
  obtain ⟨p, l, e, R, s, m, args, below, meth, c, D, ad, ⟨cI, cZ, cE⟩, A, X, nc, ns⟩ := x
  intro hC H locs hH ls hl
  exact lv_iadd hC.1 hC.2.1 hd (hk hC H locs hH ls hl)
theorem pw_o_isub {a b : Int32} (hd : decode M.2.1 pc = .ok (.isub, 1))  (hk : pw_V x M d Z (pc + 1) lv (.int (a - b) :: r) mm) : pw_V x M d Z pc lv (.int b :: .int a :: r) mm := by
  obtain ⟨p, l, e, R, s, m, args, below, meth, c, D, ad, ⟨cI, cZ, cE⟩, A, X, nc, ns⟩ := x
  intro hC H locs hH ls hl
  exact lv_isub hC.1 hC.2.1 hd (hk hC H locs hH ls hl)
theorem pw_o_imul {a b : Int32} (hd : decode M.2.1 pc = .ok (.imul, 1))  (hk : pw_V x M d Z (pc + 1) lv (.int (a * b) :: r) mm) : pw_V x M d Z pc lv (.int b :: .int a :: r) mm := by
  obtain ⟨p, l, e, R, s, m, args, below, meth, c, D, ad, ⟨cI, cZ, cE⟩, A, X, nc, ns⟩ := x
  intro hC H locs hH ls hl
  exact lv_imul hC.1 hC.2.1 hd (hk hC H locs hH ls hl)
theorem pw_o_iand {a b : Int32} (hd : decode M.2.1 pc = .ok (.iand, 1))  (hk : pw_V x M d Z (pc + 1) lv (.int (a &&& b) :: r) mm) : pw_V x M d Z pc lv (.int b :: .int a :: r) mm := by
  obtain ⟨p, l, e, R, s, m, args, below, meth, c, D, ad, ⟨cI, cZ, cE⟩, A, X, nc, ns⟩ := x
  intro hC H locs hH ls hl
  exact lv_iand hC.1 hC.2.1 hd (hk hC H locs hH ls hl)
theorem pw_o_ior {a b : Int32} (hd : decode M.2.1 pc = .ok (.ior, 1))  (hk : pw_V x M d Z (pc + 1) lv (.int (a ||| b) :: r) mm) : pw_V x M d Z pc lv (.int b :: .int a :: r) mm := by
  obtain ⟨p, l, e, R, s, m, args, below, meth, c, D, ad, ⟨cI, cZ, cE⟩, A, X, nc, ns⟩ := x
  intro hC H locs hH ls hl
  exact lv_ior hC.1 hC.2.1 hd (hk hC H locs hH ls hl)
theorem pw_o_ixor {a b : Int32} (hd : decode M.2.1 pc = .ok (.ixor, 1))  (hk : pw_V x M d Z (pc + 1) lv (.int (a ^^^ b) :: r) mm) : pw_V x M d Z pc lv (.int b :: .int a :: r) mm := by
  obtain ⟨p, l, e, R, s, m, args, below, meth, c, D, ad, ⟨cI, cZ, cE⟩, A, X, nc, ns⟩ := x
  intro hC H locs hH ls hl
  exact lv_ixor hC.1 hC.2.1 hd (hk hC H locs hH ls hl)
theorem pw_o_ishl {a b : Int32} (hd : decode M.2.1 pc = .ok (.ishl, 1))  (hk : pw_V x M d Z (pc + 1) lv (.int (a <<< (b &&& 31)) :: r) mm) : pw_V x M d Z pc lv (.int b :: .int a :: r) mm := by
  obtain ⟨p, l, e, R, s, m, args, below, meth, c, D, ad, ⟨cI, cZ, cE⟩, A, X, nc, ns⟩ := x
  intro hC H locs hH ls hl
  exact lv_ishl hC.1 hC.2.1 hd (hk hC H locs hH ls hl)
theorem pw_o_ishr {a b : Int32} (hd : decode M.2.1 pc = .ok (.ishr, 1))  (hk : pw_V x M d Z (pc + 1) lv (.int (a >>> (b &&& 31)) :: r) mm) : pw_V x M d Z pc lv (.int b :: .int a :: r) mm := by
  obtain ⟨p, l, e, R, s, m, args, below, meth, c, D, ad, ⟨cI, cZ, cE⟩, A, X, nc, ns⟩ := x
  intro hC H locs hH ls hl
  exact lv_ishr hC.1 hC.2.1 hd (hk hC H locs hH ls hl)
theorem pw_o_iushr {a b : Int32} (hd : decode M.2.1 pc = .ok (.iushr, 1))  (hk : pw_V x M d Z (pc + 1) lv (.int ((a.toUInt32 >>> (b.toUInt32 &&& Int32.toUInt32 31)).toInt32) :: r) mm) : pw_V x M d Z pc lv (.int b :: .int a :: r) mm := by
  obtain ⟨p, l, e, R, s, m, args, below, meth, c, D, ad, ⟨cI, cZ, cE⟩, A, X, nc, ns⟩ := x
  intro hC H locs hH ls hl
  exact lv_iushr hC.1 hC.2.1 hd rfl (hk hC H locs hH ls hl)
theorem pw_o_idiv {a b : Int32} (hd : decode M.2.1 pc = .ok (.idiv, 1)) (hn : ¬ b = 0) (hk : pw_V x M d Z (pc + 1) lv (.int (a / b) :: r) mm) : pw_V x M d Z pc lv (.int b :: .int a :: r) mm := by
  obtain ⟨p, l, e, R, s, m, args, below, meth, c, D, ad, ⟨cI, cZ, cE⟩, A, X, nc, ns⟩ := x
  intro hC H locs hH ls hl
  exact lv_idiv hC.1 hC.2.1 hd hn (hk hC H locs hH ls hl)
theorem pw_o_irem {a b : Int32} (hd : decode M.2.1 pc = .ok (.irem, 1)) (hn : ¬ b = 0) (hk : pw_V x M d Z (pc + 1) lv (.int (a - a / b * b) :: r) mm) : pw_V x M d Z pc lv (.int b :: .int a :: r) mm := by
  obtain ⟨p, l, e, R, s, m, args, below, meth, c, D, ad, ⟨cI, cZ, cE⟩, A, X, nc, ns⟩ := x
  intro hC H locs hH ls hl
  exact lv_irem hC.1 hC.2.1 hd hn (hk hC H locs hH ls hl)
theorem pw_o_ladd {a b : Int64} (hd : decode M.2.1 pc = .ok (.ladd, 1))  (hk : pw_V x M d Z (pc + 1) lv (.long (a + b) :: r) mm) : pw_V x M d Z pc lv (.long b :: .long a :: r) mm := by
  obtain ⟨p, l, e, R, s, m, args, below, meth, c, D, ad, ⟨cI, cZ, cE⟩, A, X, nc, ns⟩ := x
  intro hC H locs hH ls hl
  exact lv_ladd hC.1 hC.2.1 hd (hk hC H locs hH ls hl)
theorem pw_o_lmul {a b : Int64} (hd : decode M.2.1 pc = .ok (.lmul, 1))  (hk : pw_V x M d Z (pc + 1) lv (.long (a * b) :: r) mm) : pw_V x M d Z pc lv (.long b :: .long a :: r) mm := by
  obtain ⟨p, l, e, R, s, m, args, below, meth, c, D, ad, ⟨cI, cZ, cE⟩, A, X, nc, ns⟩ := x
  intro hC H locs hH ls hl
  exact lv_lmul hC.1 hC.2.1 hd (hk hC H locs hH ls hl)
theorem pw_o_ldiv {a b : Int64} (hd : decode M.2.1 pc = .ok (.ldiv, 1)) (hn : ¬ b = 0) (hk : pw_V x M d Z (pc + 1) lv (.long (a / b) :: r) mm) : pw_V x M d Z pc lv (.long b :: .long a :: r) mm := by
  obtain ⟨p, l, e, R, s, m, args, below, meth, c, D, ad, ⟨cI, cZ, cE⟩, A, X, nc, ns⟩ := x
  intro hC H locs hH ls hl
  exact lv_ldiv hC.1 hC.2.1 hd hn (hk hC H locs hH ls hl)
theorem pw_o_lrem {a b : Int64} (hd : decode M.2.1 pc = .ok (.lrem, 1)) (hn : ¬ b = 0) (hk : pw_V x M d Z (pc + 1) lv (.long (a - a / b * b) :: r) mm) : pw_V x M d Z pc lv (.long b :: .long a :: r) mm := by
  obtain ⟨p, l, e, R, s, m, args, below, meth, c, D, ad, ⟨cI, cZ, cE⟩, A, X, nc, ns⟩ := x
  intro hC H locs hH ls hl
  exact lv_lrem hC.1 hC.2.1 hd hn (hk hC H locs hH ls hl)
theorem pw_o_lcmp {a b : Int64} (hd : decode M.2.1 pc = .ok (.lcmp, 1))  (hk : pw_V x M d Z (pc + 1) lv (.int (lg_cmp a b) :: r) mm) : pw_V x M d Z pc lv (.long b :: .long a :: r) mm := by
  obtain ⟨p, l, e, R, s, m, args, below, meth, c, D, ad, ⟨cI, cZ, cE⟩, A, X, nc, ns⟩ := x
  intro hC H locs hH ls hl
  exact W.lcmp hC.1 hC.2.1 hd (hk hC H locs hH ls hl)
theorem pw_o_i2l {a : Int32} (hd : decode M.2.1 pc = .ok (.i2l, 1))  (hk : pw_V x M d Z (pc + 1) lv (.long a.toInt64 :: r) mm) : pw_V x M d Z pc lv (.int a :: r) mm := by
  obtain ⟨p, l, e, R, s, m, args, below, meth, c, D, ad, ⟨cI, cZ, cE⟩, A, X, nc, ns⟩ := x
  intro hC H locs hH ls hl
  exact lv_i2l hC.1 hC.2.1 hd rfl (hk hC H locs hH ls hl)
theorem pw_o_dup {v : Value} (hd : decode M.2.1 pc = .ok (.dup, 1)) (hv : v.category = 1) (hk : pw_V x M d Z (pc + 1) lv (v :: v :: r) mm) : pw_V x M d Z pc lv (v :: r) mm := by
  obtain ⟨p, l, e, R, s, m, args, below, meth, c, D, ad, ⟨cI, cZ, cE⟩, A, X, nc, ns⟩ := x
  intro hC H locs hH ls hl
  exact lv_dup hC.1 hC.2.1 hd ((pw_tv_cat ad v).trans hv) (hk hC H locs hH ls hl)
theorem pw_o_dup2 {v w : Value} (hd : decode M.2.1 pc = .ok (.dup2, 1)) (hv : v.category = 1) (hw : w.category = 1) (hk : pw_V x M d Z (pc + 1) lv (v :: w :: v :: w :: r) mm) : pw_V x M d Z pc lv (v :: w :: r) mm := by
  obtain ⟨p, l, e, R, s, m, args, below, meth, c, D, ad, ⟨cI, cZ, cE⟩, A, X, nc, ns⟩ := x
  intro hC H locs hH ls hl
  exact lv_dup2_11 hC.1 hC.2.1 hd ((pw_tv_cat ad v).trans hv) ((pw_tv_cat ad w).trans hw) (hk hC H locs hH ls hl)
theorem pw_o_pop {v : Value} (hd : decode M.2.1 pc = .ok (.pop, 1)) (hv : v.category = 1) (hk : pw_V x M d Z (pc + 1) lv r mm) : pw_V x M d Z pc lv (v :: r) mm := by
  obtain ⟨p, l, e, R, s, m, args, below, meth, c, D, ad, ⟨cI, cZ, cE⟩, A, X, nc, ns⟩ := x
  intro hC H locs hH ls hl
  exact lv_pop hC.1 hC.2.1 hd ((pw_tv_cat ad v).trans hv) (hk hC H locs hH ls hl)
theorem pw_o_iconst {n : Int} (hd : decode M.2.1 pc = .ok (.iconst n, 1))  (hk : pw_V x M d Z (pc + 1) lv (.int (Int32.ofInt n) :: r) mm) : pw_V x M d Z pc lv r mm := by
  obtain ⟨p, l, e, R, s, m, args, below, meth, c, D, ad, ⟨cI, cZ, cE⟩, A, X, nc, ns⟩ := x
  intro hC H locs hH ls hl
  exact lv_iconst hC.1 hC.2.1 hd rfl (hk hC H locs hH ls hl)
theorem pw_o_bipush {n : Int} (hd : decode M.2.1 pc = .ok (.bipush n, 2)) (hn : (Int8.ofInt n).toInt32 = Int32.ofInt n) (hk : pw_V x M d Z (pc + 2) lv (.int (Int32.ofInt n) :: r) mm) : pw_V x M d Z pc lv r mm := by
  obtain ⟨p, l, e, R, s, m, args, below, meth, c, D, ad, ⟨cI, cZ, cE⟩, A, X, nc, ns⟩ := x
  intro hC H locs hH ls hl
  exact lv_bipush hC.1 hC.2.1 hd hn (hk hC H locs hH ls hl)
theorem pw_o_sipush {n : Int} (hd : decode M.2.1 pc = .ok (.sipush n, 3)) (hn : (Int16.ofInt n).toInt32 = Int32.ofInt n) (hk : pw_V x M d Z (pc + 3) lv (.int (Int32.ofInt n) :: r) mm) : pw_V x M d Z pc lv r mm := by
  obtain ⟨p, l, e, R, s, m, args, below, meth, c, D, ad, ⟨cI, cZ, cE⟩, A, X, nc, ns⟩ := x
  intro hC H locs hH ls hl
  exact lv_sipush hC.1 hC.2.1 hd hn (hk hC H locs hH ls hl)
theorem pw_o_lconst {n : Fin 2} (hd : decode M.2.1 pc = .ok (.lconst n, 1)) (hn : Int64.ofNat n = Int64.ofInt ((n : Nat) : Int)) (hk : pw_V x M d Z (pc + 1) lv (.long (Int64.ofInt ((n : Nat) : Int)) :: r) mm) : pw_V x M d Z pc lv r mm := by
  obtain ⟨p, l, e, R, s, m, args, below, meth, c, D, ad, ⟨cI, cZ, cE⟩, A, X, nc, ns⟩ := x
  intro hC H locs hH ls hl
  exact lv_lconst hC.1 hC.2.1 hd hn (hk hC H locs hH ls hl)
theorem pw_o_iload_n {k : Fin 4} {v : Int32} (hd : decode M.2.1 pc = .ok (.iload_n k, 1)) (hv : pw_lk lv k = some (.int v)) (hk : pw_V x M d Z (pc + 1) lv (.int v :: r) mm) : pw_V x M d Z pc lv r mm := by
  obtain ⟨p, l, e, R, s, m, args, below, meth, c, D, ad, ⟨cI, cZ, cE⟩, A, X, nc, ns⟩ := x
  intro hC H locs hH ls hl
  exact lv_iload_n hC.1 hC.2.1 hd rfl (pw_ld hl hv) (hk hC H locs hH ls hl)
theorem pw_o_iload {k : Nat} {v : Int32} (hd : decode M.2.1 pc = .ok (.iload k, 2)) (hv : pw_lk lv k = some (.int v)) (hk : pw_V x M d Z (pc + 2) lv (.int v :: r) mm) : pw_V x M d Z pc lv r mm := by
  obtain ⟨p, l, e, R, s, m, args, below, meth, c, D, ad, ⟨cI, cZ, cE⟩, A, X, nc, ns⟩ := x
  intro hC H locs hH ls hl
  exact lv_iload hC.1 hC.2.1 hd (pw_ld hl hv) (hk hC H locs hH ls hl)
theorem pw_o_istore_n {k : Fin 4} {v : Int32} (hd : decode M.2.1 pc = .ok (.istore_n k, 1)) (hv : (k : Nat) < M.2.2.1) (hk : pw_V x M d Z (pc + 1) (pw_s1 lv k (.int v)) r mm) : pw_V x M d Z pc lv (.int v :: r) mm := by
  obtain ⟨p, l, e, R, s, m, args, below, meth, c, D, ad, ⟨cI, cZ, cE⟩, A, X, nc, ns⟩ := x
  intro hC H locs hH ls hl
  exact lv_istore_n hC.1 hC.2.1 hd rfl hl hv (pw_s1_map (v := .int v)) (fun ls hl => (hk hC H locs hH ls hl))
theorem pw_o_istore {k : Nat} {v : Int32} (hd : decode M.2.1 pc = .ok (.istore k, 2)) (hv : k < M.2.2.1) (hk : pw_V x M d Z (pc + 2) (pw_s1 lv k (.int v)) r mm) : pw_V x M d Z pc lv (.int v :: r) mm := by
  obtain ⟨p, l, e, R, s, m, args, below, meth, c, D, ad, ⟨cI, cZ, cE⟩, A, X, nc, ns⟩ := x
  intro hC H locs hH ls hl
  exact lv_istore hC.1 hC.2.1 hd hl hv (pw_s1_map (v := .int v)) (fun ls hl => (hk hC H locs hH ls hl))
theorem pw_o_lload_n {k : Fin 4} {v : Int64} (hd : decode M.2.1 pc = .ok (.lload_n k, 1)) (hv : pw_lk lv k = some (.long v)) (hk : pw_V x M d Z (pc + 1) lv (.long v :: r) mm) : pw_V x M d Z pc lv r mm := by
  obtain ⟨p, l, e, R, s, m, args, below, meth, c, D, ad, ⟨cI, cZ, cE⟩, A, X, nc, ns⟩ := x
  intro hC H locs hH ls hl
  exact lv_lload_n hC.1 hC.2.1 hd rfl (pw_ld hl hv) (hk hC H locs hH ls hl)
theorem pw_o_lload {k : Nat} {v : Int64} (hd : decode M.2.1 pc = .ok (.lload k, 2)) (hv : pw_lk lv k = some (.long v)) (hk : pw_V x M d Z (pc + 2) lv (.long v :: r) mm) : pw_V x M d Z pc lv r mm := by
  obtain ⟨p, l, e, R, s, m, args, below, meth, c, D, ad, ⟨cI, cZ, cE⟩, A, X, nc, ns⟩ := x
  intro hC H locs hH ls hl
  exact lv_lload hC.1 hC.2.1 hd (pw_ld hl hv) (hk hC H locs hH ls hl)
theorem pw_o_lstore_n {k : Fin 4} {v : Int64} (hd : decode M.2.1 pc = .ok (.lstore_n k, 1)) (hv : (k : Nat) + 1 < M.2.2.1) (hk : pw_V x M d Z (pc + 1) (pw_s2 lv k (.long v)) r mm) : pw_V x M d Z pc lv (.long v :: r) mm := by
  obtain ⟨p, l, e, R, s, m, args, below, meth, c, D, ad, ⟨cI, cZ, cE⟩, A, X, nc, ns⟩ := x
  intro hC H locs hH ls hl
  exact lv_lstore_n hC.1 hC.2.1 hd rfl hl hv (pw_s2_map (v := .long v)) (fun ls hl => (hk hC H locs hH ls hl))
theorem pw_o_lstore {k : Nat} {v : Int64} (hd : decode M.2.1 pc = .ok (.lstore k, 2)) (hv : k + 1 < M.2.2.1) (hk : pw_V x M d Z (pc + 2) (pw_s2 lv k (.long v)) r mm) : pw_V x M d Z pc lv (.long v :: r) mm := by
  obtain ⟨p, l, e, R, s, m, args, below, meth, c, D, ad, ⟨cI, cZ, cE⟩, A, X, nc, ns⟩ := x
  intro hC H locs hH ls hl
  exact lv_lstore hC.1 hC.2.1 hd hl hv (pw_s2_map (v := .long v)) (fun ls hl => (hk hC H locs hH ls hl))
theorem pw_o_aload_n {k : Fin 4} {v : Nat} (hd : decode M.2.1 pc = .ok (.aload_n k, 1)) (hv : pw_lk lv k = some (.ref v)) (hk : pw_V x M d Z (pc + 1) lv (.ref v :: r) mm) : pw_V x M d Z pc lv r mm := by
  obtain ⟨p, l, e, R, s, m, args, below, meth, c, D, ad, ⟨cI, cZ, cE⟩, A, X, nc, ns⟩ := x
  intro hC H locs hH ls hl
  exact lv_aload_n hC.1 hC.2.1 hd rfl (pw_ld hl hv) (hk hC H locs hH ls hl)
theorem pw_o_aload {k : Nat} {v : Nat} (hd : decode M.2.1 pc = .ok (.aload k, 2)) (hv : pw_lk lv k = some (.ref v)) (hk : pw_V x M d Z (pc + 2) lv (.ref v :: r) mm) : pw_V x M d Z pc lv r mm := by
  obtain ⟨p, l, e, R, s, m, args, below, meth, c, D, ad, ⟨cI, cZ, cE⟩, A, X, nc, ns⟩ := x
  intro hC H locs hH ls hl
  exact lv_aload hC.1 hC.2.1 hd (pw_ld hl hv) (hk hC H locs hH ls hl)
theorem pw_o_astore_n {k : Fin 4} {v : Nat} (hd : decode M.2.1 pc = .ok (.astore_n k, 1)) (hv : (k : Nat) < M.2.2.1) (hk : pw_V x M d Z (pc + 1) (pw_s1 lv k (.ref v)) r mm) : pw_V x M d Z pc lv (.ref v :: r) mm := by
  obtain ⟨p, l, e, R, s, m, args, below, meth, c, D, ad, ⟨cI, cZ, cE⟩, A, X, nc, ns⟩ := x
  intro hC H locs hH ls hl
  exact lv_astore_n hC.1 hC.2.1 hd rfl hl hv (pw_s1_map (v := .ref v)) (fun ls hl => (hk hC H locs hH ls hl))
theorem pw_o_astore {k : Nat} {v : Nat} (hd : decode M.2.1 pc = .ok (.astore k, 2)) (hv : k < M.2.2.1) (hk : pw_V x M d Z (pc + 2) (pw_s1 lv k (.ref v)) r mm) : pw_V x M d Z pc lv (.ref v :: r) mm := by
  obtain ⟨p, l, e, R, s, m, args, below, meth, c, D, ad, ⟨cI, cZ, cE⟩, A, X, nc, ns⟩ := x
  intro hC H locs hH ls hl
  exact lv_astore hC.1 hC.2.1 hd hl hv (pw_s1_map (v := .ref v)) (fun ls hl => (hk hC H locs hH ls hl))
theorem pw_o_iinc {k : Nat} {n : Int} {v : Int32} (hd : decode M.2.1 pc = .ok (.iinc k n, 3)) (hv : pw_lk lv k = some (.int v)) (hn : k < M.2.2.1) (hk : pw_V x M d Z (pc + 3) (pw_s1 lv k (.int (v + Int32.ofInt n))) r mm) : pw_V x M d Z pc lv r mm := by
  obtain ⟨p, l, e, R, s, m, args, below, meth, c, D, ad, ⟨cI, cZ, cE⟩, A, X, nc, ns⟩ := x
  intro hC H locs hH ls hl
  obtain ⟨j, hj⟩ := List.getElem?_of_mem (List.mem_map_of_mem (f := pw_tq ad) (pw_lk_mem hv))
  exact lv_iinc hC.1 hC.2.1 hd hl hj rfl hn (pw_s1_map (v := .int (v + Int32.ofInt n))) (fun ls hl => (hk hC H locs hH ls hl))
end PWO
end
section
/-! fields and arrays -/
theorem pw_uw {ws : List Cond} (ps : List Nat) (h : (ws.length == ps.length && (ws.zip ps).all (fun q => decide (lw_tbl[q.2]? = some q.1) && goodWord q.1)) = true) : ∀ w ∈ ws, w ∈ pw_tb := by
  rw [Bool.and_eq_true] at h
  intro w hw
  obtain ⟨i, hi⟩ := List.getElem?_of_mem hw
  have hlt : i < ws.length := (List.getElem?_eq_some_iff.mp hi).1
  have hl : ws.length = ps.length := by simpa using h.1
  have hp : ps[i]? = some ps[i] := List.getElem?_eq_getElem (by omega)
  have hz : (w, ps[i]) ∈ ws.zip ps := by
    refine List.mem_of_getElem? (i := i) ?_
    rw [List.getElem?_zip_eq_some]
    exact ⟨hi, hp⟩
  have h2 := List.all_eq_true.mp h.2 _ hz
  rw [Bool.and_eq_true] at h2
  exact pw_tb_in (of_decide_eq_true h2.1) h2.2
theorem pw_u0 : ∀ w ∈ u_ws RX0 TX0 5, w ∈ pw_tb := pw_uw [214, 216, 218, 220, 222] (by decide +kernel)
theorem pw_u1 : ∀ w ∈ u_ws RX1 TX1 5, w ∈ pw_tb := pw_uw [242, 244, 246, 248, 250] (by decide +kernel)
theorem pw_u2 : ∀ w ∈ u_ws RX2 TX2 7, w ∈ pw_tb := pw_uw [129, 131, 133, 135, 137, 139, 141] (by decide +kernel)
theorem pw_u3 : ∀ w ∈ u_ws RX3 TX3 5, w ∈ pw_tb := pw_uw [108, 110, 112, 114, 116] (by decide +kernel)
theorem pw_u4 : ∀ w ∈ u_ws RX4 TX4 9, w ∈ pw_tb := pw_uw [315, 317, 319, 321, 323, 325, 327, 329, 331] (by decide +kernel)
theorem pw_u5 : ∀ w ∈ u_ws RX5 TX5 11, w ∈ pw_tb := pw_uw [175, 177, 179, 181, 183, 185, 187, 189, 191, 193, 195] (by decide +kernel)
theorem pw_u6 : ∀ w ∈ u_ws RX6 TX6 9, w ∈ pw_tb := pw_uw [273, 275, 277, 279, 281, 283, 285, 287, 289] (by decide +kernel)
theorem pw_u7 : ∀ w ∈ u_ws RX7 TX7 7, w ∈ pw_tb := pw_uw [341, 343, 345, 347, 349, 351, 353] (by decide +kernel)
theorem pw_u8 : ∀ w ∈ u_ws RX8 TX8 38, w ∈ pw_tb := pw_uw [796, 798, 800, 802, 804, 806, 808, 810, 812, 814, 816, 818, 820, 822, 824, 826, 828, 830, 832, 834, 836, 838, 840, 842, 844, 846, 848, 850, 852, 854, 856, 858, 860, 862, 864, 866, 868, 870] (by decide +kernel)
theorem pw_cl {ci N : Nat} {C : String} {T : u_T} (h : vwCl[ci]? = some (C, T, N)) : (∀ w ∈ u_ws C T N, w ∈ pw_tb) ∧ ∃ ty0 : Nat → FieldType, (∀ k, k < N → parseFieldDescriptor (T k).2.2.1 = some (ty0 k)) ∧ (∀ a, a < N → ∀ b, b < N → a ≠ b → (T a).2.1 ≠ (T b).2.1) := by
  match ci, h with
  | 0, h => cases h; exact ⟨pw_u0, tyX0, tyX0_ok, nmX0⟩
  | 1, h => cases h; exact ⟨pw_u1, tyX1, tyX1_ok, nmX1⟩
  | 2, h => cases h; exact ⟨pw_u2, tyX2, tyX2_ok, nmX2⟩
  | 3, h => cases h; exact ⟨pw_u3, tyX3, tyX3_ok, nmX3⟩
  | 4, h => cases h; exact ⟨pw_u4, tyX4, tyX4_ok, nmX4⟩
  | 5, h => cases h; exact ⟨pw_u5, tyX5, tyX5_ok, nmX5⟩
  | 6, h => cases h; exact ⟨pw_u6, tyX6, tyX6_ok, nmX6⟩
  | 7, h => cases h; exact ⟨pw_u7, tyX7, tyX7_ok, nmX7⟩
  | 8, h => cases h; exact ⟨pw_u8, tyX8, tyX8_ok, nmX8⟩
  | k + 9, h => simp [vwCl] at h
theorem pw_fl {e : Nat × Nat × Nat × Nat × Nat} (h : e ∈ pw_ft) : ∃ (C : String) (T : u_T) (N : Nat), vwCl[e.2.2.1]? = some (C, T, N) ∧ e.2.2.2.1 < N ∧ e.2.2.2.1 < 100 ∧ (T e.2.2.2.1).1 = C ∧ Cond.fieldLink (pw_on e.1) e.2.1 C (T e.2.2.2.1).2.1 (T e.2.2.2.1).2.2.1 ∈ pw_tb := by
  have h1 := List.all_eq_true.mp pw_ft_ok e h
  unfold pw_fc at h1
  split at h1
  · cases h1
  · rename_i C T N hv
    simp only [Bool.and_eq_true, decide_eq_true_eq] at h1
    obtain ⟨⟨⟨a1, a2⟩, a3⟩, a4⟩ := h1
    exact ⟨C, T, N, hv, a1, a2, a3, pw_tb_in a4 rfl⟩
theorem pw_shp_lt {c : Nat} {q : pw_s} (h : pw_shp c = some q) : c < 86 := by
  unfold pw_shp at h
  split at h <;> first | omega | cases h
theorem pw_sho {c : Nat} {o : Nat × List (Option Nat)} (h : pw_shp c = some (.inl o)) : ∃ (C : String) (T : u_T) (N : Nat), vwCl[o.1]? = some (C, T, N) ∧ o.2.length = N ∧ ∀ k, o.2[k]? = some none → (T k).2.2.2 = false ∧ (T k).2.2.1 = if 100 * o.1 + k = 821 then "Z" else "I" := by
  have h1 := List.all_eq_true.mp pw_sz_ok c (List.mem_range.mpr (pw_shp_lt h))
  unfold pw_sz at h1
  rw [h] at h1
  dsimp only at h1
  split at h1
  · rename_i C T N hv
    rw [Bool.and_eq_true] at h1
    refine ⟨C, T, N, hv, of_decide_eq_true h1.1, fun k hk => ?_⟩
    have h2 := List.all_eq_true.mp h1.2 k (List.mem_range.mpr (List.getElem?_eq_some_iff.mp hk).1)
    rw [hk] at h2
    simp only [Bool.and_eq_true, decide_eq_true_eq] at h2
    exact h2
  · cases h1
/-- a field's value -/
def pw_va (mm : pw_m) (c k : Nat) : Option Nat → Value
  | none => .int (mm c k)
  | some q => .ref q
theorem pw_va_tv {ad : Nat → Nat} {mm : pw_m} {c k : Nat} (f : Option Nat) : pw_fv ad mm c (f, k) = pw_tv ad (pw_va mm c k f) := by cases f <;> rfl
section PWF
variable {x : pw_X} {M : pw_M} {d : Nat} {Z : State → Prop} {pc : Nat} {lv : List (Nat × Value)} {r : List Value} {mm : pw_m}
theorem pw_o_getfield {idx c : Nat} {e : Nat × Nat × Nat × Nat × Nat} {o : Nat × List (Option Nat)} {f : Option Nat} (hd : decode M.2.1 pc = .ok (.getfield idx, 3)) (he : e ∈ pw_ft) (h0 : e.1 = M.1) (h1 : e.2.1 = idx) (hs : pw_shp c = some (.inl o)) (hci : e.2.2.1 = o.1) (hf : o.2[e.2.2.2.1]? = some f) (hk : pw_V x M d Z (pc + 3) lv (pw_va mm c e.2.2.2.1 f :: r) mm) : pw_V x M d Z pc lv (.ref c :: r) mm := by
  obtain ⟨p, l, ee, R, s, m, args, below, meth, cc, D, ad, ⟨cI, cZ, cE⟩, A, X, nc, ns⟩ := x
  intro hC H locs hH ls hl
  obtain ⟨C, T, N, hv, a1, -, a3, a4⟩ := pw_fl he
  have hlink := hC.2.2.2.2.1 _ a4
  rw [h0, h1] at hlink
  refine va_get (D := D) (ci := o.1) (C := C) (T := T) (N := N) hC.1 hC.2.1 hC.2.2.2.2.1 (pw_cl hv).1 hC.2.2.2.1 hC.2.2.2.2.2.2.2.2.1 hH.1 c ((pw_cs_at (pw_shp_lt hs)).trans (by rw [pw_cel_o hs])) (hci ▸ hv) e.2.2.2.1 a1 hlink (fun y hy => a3 ▸ hy) (pw_fs_at hf) hd ?_
  rw [pw_va_tv]
  exact hk hC H locs hH ls hl
theorem pw_z01 {v : Int32} (h : v = 0 ∨ v = 1) : narrow .boolean (.int v) = .int v ∧ fits .boolean (.int v) = true := by
  rcases h with rfl | rfl <;> exact ⟨by decide, by decide⟩
theorem pw_o_putfield {idx c : Nat} {e : Nat × Nat × Nat × Nat × Nat} {o : Nat × List (Option Nat)} {v : Int32} (hd : decode M.2.1 pc = .ok (.putfield idx, 3)) (he : e ∈ pw_ft) (h0 : e.1 = M.1) (h1 : e.2.1 = idx) (hs : pw_shp c = some (.inl o)) (hci : e.2.2.1 = o.1) (hf : o.2[e.2.2.2.1]? = some none) (hz : 100 * o.1 + e.2.2.2.1 = 821 → v = 0 ∨ v = 1) (hk : pw_V x M d Z (pc + 3) lv r (pw_up mm c e.2.2.2.1 v)) : pw_V x M d Z pc lv (.int v :: .ref c :: r) mm := by
  obtain ⟨p, l, ee, R, s, m, args, below, meth, cc, D, ad, ⟨cI, cZ, cE⟩, A, X, nc, ns⟩ := x
  intro hC H locs hH ls hl
  obtain ⟨C, T, N, hv, a1, -, a3, a4⟩ := pw_fl he
  obtain ⟨C', T', N', hv', b1, b2⟩ := pw_sho hs
  rw [hci] at hv
  cases hv.symm.trans hv'
  obtain ⟨b3, b4⟩ := b2 _ hf
  obtain ⟨c1, ty0, c2, c3⟩ := pw_cl hv
  have hlink := hC.2.2.2.2.1 _ a4
  rw [h0, h1] at hlink
  have hty : ∃ ty, parseFieldDescriptor (T e.2.2.2.1).2.2.1 = some ty ∧ narrow ty (.int v) = .int v ∧ fits ty (.int v) = true := by
    by_cases hb : 100 * o.1 + e.2.2.2.1 = 821
    · rw [if_pos hb] at b4
      exact ⟨.boolean, by rw [b4]; decide +kernel, pw_z01 (hz hb)⟩
    · rw [if_neg hb] at b4
      exact ⟨.int, by rw [b4]; decide +kernel, rfl, rfl⟩
  obtain ⟨ty, t1, t2, t3⟩ := hty
  refine va_put (D := D) (ci := o.1) (C := C) (T := T) (N := N) (ty := ty) (v := .int v) hC.1 hC.2.1 hC.2.2.2.2.1 c1 ty0 c2 c3 hC.2.2.2.1 hC.2.2.2.2.2.2.2.2.1 hH.1 hH.2.1 hH.2.2 c ((pw_cs_at (pw_shp_lt hs)).trans (by rw [pw_cel_o hs])) hv e.2.2.2.1 a1 hlink (fun y hy => a3 ▸ hy) b3 t1 t2 t3 (by rw [List.length_map, List.length_zipIdx, b1]; exact a1) hd (fun H1 locs1 hP hD hS => ?_)
  rw [pw_fs_set hf, pw_cs_set (m' := pw_up mm c e.2.2.2.1 v) (pw_cel_o hs) (fun c' hc => (pw_up_ne hc).symm)] at hP hD
  exact hk hC H1 locs1 ⟨hP, hD, hS⟩ ls hl
theorem pw_o_iaload {c n b : Nat} {i : Int32} (hd : decode M.2.1 pc = .ok (.iaload, 1)) (hs : pw_shp c = some (.inr (0, n, b))) (hi : vp_in i n) (hk : pw_V x M d Z (pc + 1) lv (.int (mm c i.toNatClampNeg) :: r) mm) : pw_V x M d Z pc lv (.int i :: .ref c :: r) mm := by
  obtain ⟨p, l, ee, R, s, m, args, below, meth, cc, D, ad, ⟨cI, cZ, cE⟩, A, X, nc, ns⟩ := x
  intro hC H locs hH ls hl
  exact va_iald hC.1 hC.2.1 hC.2.2.2.2.2.2.2.2.1 hH.1 c 0 ((pw_cs_at (pw_shp_lt hs)).trans (by rw [pw_cel_i hs])) rfl hi hd (hk hC H locs hH ls hl)
theorem pw_o_baload {c n b : Nat} {i : Int32} (hd : decode M.2.1 pc = .ok (.baload, 1)) (hs : pw_shp c = some (.inr (1, n, b))) (hi : vp_in i n) (hk : pw_V x M d Z (pc + 1) lv (.int (mm c i.toNatClampNeg) :: r) mm) : pw_V x M d Z pc lv (.int i :: .ref c :: r) mm := by
  obtain ⟨p, l, ee, R, s, m, args, below, meth, cc, D, ad, ⟨cI, cZ, cE⟩, A, X, nc, ns⟩ := x
  intro hC H locs hH ls hl
  exact va_zald hC.1 hC.2.1 hC.2.2.2.2.2.2.2.2.1 hH.1 c 1 ((pw_cs_at (pw_shp_lt hs)).trans (by rw [pw_cel_z hs])) rfl hi hd (hk hC H locs hH ls hl)
theorem pw_o_aaload {c n b : Nat} {i : Int32} (hd : decode M.2.1 pc = .ok (.aaload, 1)) (hs : pw_shp c = some (.inr (2, n, b))) (hi : vp_in i n) (hk : pw_V x M d Z (pc + 1) lv (.ref (b + 4 * i.toNatClampNeg) :: r) mm) : pw_V x M d Z pc lv (.int i :: .ref c :: r) mm := by
  obtain ⟨p, l, ee, R, s, m, args, below, meth, cc, D, ad, ⟨cI, cZ, cE⟩, A, X, nc, ns⟩ := x
  intro hC H locs hH ls hl
  exact va_aldq (f := fun j => some (ad (b + 4 * j))) hC.1 hC.2.1 hC.2.2.2.2.2.2.2.2.1 hH.1 c 2 ((pw_cs_at (pw_shp_lt hs)).trans (by rw [pw_cel_e hs])) rfl hi hd (hk hC H locs hH ls hl)
theorem pw_o_iastore {c n b : Nat} {i v : Int32} (hd : decode M.2.1 pc = .ok (.iastore, 1)) (hs : pw_shp c = some (.inr (0, n, b))) (hi : vp_in i n) (hk : pw_V x M d Z (pc + 1) lv r (pw_up mm c i.toNatClampNeg v)) : pw_V x M d Z pc lv (.int v :: .int i :: .ref c :: r) mm := by
  obtain ⟨p, l, ee, R, s, m, args, below, meth, cc, D, ad, ⟨cI, cZ, cE⟩, A, X, nc, ns⟩ := x
  intro hC H locs hH ls hl
  refine va_iast hC.1 hC.2.1 hC.2.2.2.2.2.2.2.2.1 hH.1 hH.2.1 hH.2.2 c 0 ((pw_cs_at (pw_shp_lt hs)).trans (by rw [pw_cel_i hs])) rfl hi hd (fun H1 locs1 hP hD hS => ?_)
  rw [pw_cs_set (m' := pw_up mm c i.toNatClampNeg v) (by rw [pw_cel_i hs, pw_up_eq]) (fun c' hc => (pw_up_ne hc).symm)] at hP hD
  exact hk hC H1 locs1 ⟨hP, hD, hS⟩ ls hl
theorem pw_o_bastore {c n b : Nat} {i v : Int32} (hd : decode M.2.1 pc = .ok (.bastore, 1)) (hs : pw_shp c = some (.inr (1, n, b))) (hv : v = 0 ∨ v = 1) (hi : vp_in i n) (hk : pw_V x M d Z (pc + 1) lv r (pw_up mm c i.toNatClampNeg v)) : pw_V x M d Z pc lv (.int v :: .int i :: .ref c :: r) mm := by
  obtain ⟨p, l, ee, R, s, m, args, below, meth, cc, D, ad, ⟨cI, cZ, cE⟩, A, X, nc, ns⟩ := x
  intro hC H locs hH ls hl
  refine va_zast hC.1 hC.2.1 hC.2.2.2.2.2.2.2.2.1 hH.1 hH.2.1 hH.2.2 c 1 ((pw_cs_at (pw_shp_lt hs)).trans (by rw [pw_cel_z hs])) rfl hi hd (fun H1 locs1 hP hD hS => ?_)
  have hn : vp_nar .boolean v = v := by unfold vp_nar; rw [(pw_z01 hv).1]
  rw [hn, pw_cs_set (m' := pw_up mm c i.toNatClampNeg v) (by rw [pw_cel_z hs, pw_up_eq]) (fun c' hc => (pw_up_ne hc).symm)] at hP hD
  exact hk hC H1 locs1 ⟨hP, hD, hS⟩ ls hl
theorem pw_o_alen {c n b : Nat} (hd : decode M.2.1 pc = .ok (.arraylength, 1)) (hs : pw_shp c = some (.inr (0, n, b))) (hk : pw_V x M d Z (pc + 1) lv (.int (Int32.ofNat n) :: r) mm) : pw_V x M d Z pc lv (.ref c :: r) mm := by
  obtain ⟨p, l, ee, R, s, m, args, below, meth, cc, D, ad, ⟨cI, cZ, cE⟩, A, X, nc, ns⟩ := x
  intro hC H locs hH ls hl
  exact va_alen (x := (n, .inl (mm c))) hC.1 hC.2.1 hC.2.2.2.2.2.2.2.2.1 hH.1 c 0 ((pw_cs_at (pw_shp_lt hs)).trans (by rw [pw_cel_i hs])) (ty := .int) rfl rfl hd (hk hC H locs hH ls hl)
end PWF
end
section
/-! tables, statics, constants; then one instruction and a stretch of them -/
section PWT
variable {x : pw_X} {M : pw_M} {d : Nat} {Z : State → Prop} {pc : Nat} {lv : List (Nat × Value)} {r : List Value} {mm : pw_m}
theorem pw_o_tload {c : Nat} {q : Nat × (Nat → Int32)} {i : Int32} (hd : decode M.2.1 pc = .ok (.iaload, 1)) (hs : (if c = 90 then some (4, pw_k0) else if c = 91 then some (6, pw_k1) else if c = 93 then some x.2.2.2.2.2.2.2.2.2.2.2.2.2.2.1 else none) = some q) (hi : vp_in i q.1) (hk : pw_V x M d Z (pc + 1) lv (.int (q.2 i.toNatClampNeg) :: r) mm) : pw_V x M d Z pc lv (.int i :: .ref c :: r) mm := by
  obtain ⟨p, l, ee, R, s, m, args, below, meth, cc, D, ad, ⟨cI, cZ, cE⟩, A, X, nc, ns⟩ := x
  intro hC H locs hH ls hl
  have hT : pw_T ad X A s s.heap := hC.2.2.2.2.2.2.2.2.2.1
  dsimp only at hs
  split at hs
  · rename_i h9; subst h9; cases hs
    exact va_ti hC.1 hC.2.1 hT.1.2 hH.2.2 hi rfl hd (hk hC H locs hH ls hl)
  · split at hs
    · rename_i h9; subst h9; cases hs
      exact va_ti hC.1 hC.2.1 hT.2.1.2 hH.2.2 hi rfl hd (hk hC H locs hH ls hl)
    · split at hs
      · rename_i h9; subst h9; cases hs
        rcases hT.2.2.2 with h0 | ⟨-, h0⟩
        · rw [h0] at hi
          exact absurd (Or.inr (Nat.zero_le _)) hi
        · exact va_ti hC.1 hC.2.1 h0 hH.2.2 hi rfl hd (hk hC H locs hH ls hl)
      · cases hs
theorem pw_tbl_lt {c : Nat} {q : Nat × (Nat → Int32)} (hC : pw_C x M d) (hs : (if c = 90 then some (4, pw_k0) else if c = 91 then some (6, pw_k1) else if c = 93 then some x.2.2.2.2.2.2.2.2.2.2.2.2.2.2.1 else none) = some q) : q.1 < 2 ^ 31 := by
  obtain ⟨p, l, ee, R, s, m, args, below, meth, cc, D, ad, ⟨cI, cZ, cE⟩, A, X, nc, ns⟩ := x
  have hT : pw_T ad X A s s.heap := hC.2.2.2.2.2.2.2.2.2.1
  dsimp only at hs
  split at hs
  · cases hs; decide
  · split at hs
    · cases hs; decide
    · split at hs
      · cases hs
        rcases hT.2.2.2 with h0 | ⟨h0, -⟩
        · omega
        · exact h0
      · cases hs
theorem pw_o_caload {i : Int32} (hd : decode M.2.1 pc = .ok (.caload, 1)) (hi : vp_in i 74) (hk : pw_V x M d Z (pc + 1) lv (.int (pw_k2 i.toNatClampNeg) :: r) mm) : pw_V x M d Z pc lv (.int i :: .ref 92 :: r) mm := by
  obtain ⟨p, l, ee, R, s, m, args, below, meth, cc, D, ad, ⟨cI, cZ, cE⟩, A, X, nc, ns⟩ := x
  intro hC H locs hH ls hl
  have hT : pw_T ad X A s s.heap := hC.2.2.2.2.2.2.2.2.2.1
  exact va_tc hC.1 hC.2.1 hT.2.2.1.2 hH.2.2 hi rfl hd (hk hC H locs hH ls hl)
theorem pw_o_clen (hd : decode M.2.1 pc = .ok (.arraylength, 1)) (hk : pw_V x M d Z (pc + 1) lv (.int 74 :: r) mm) : pw_V x M d Z pc lv (.ref 92 :: r) mm := by
  obtain ⟨p, l, ee, R, s, m, args, below, meth, cc, D, ad, ⟨cI, cZ, cE⟩, A, X, nc, ns⟩ := x
  intro hC H locs hH ls hl
  have hT : pw_T ad X A s s.heap := hC.2.2.2.2.2.2.2.2.2.1
  exact va_tlen hC.1 hC.2.1 hT.2.2.1.2 hH.2.2 (by decide) hd (hk hC H locs hH ls hl)
theorem pw_o_tlen {c : Nat} {q : Nat × (Nat → Int32)} (hx : 0 < x.2.2.2.2.2.2.2.2.2.2.2.2.2.2.1.1 ∨ ¬ c = 93) (hd : decode M.2.1 pc = .ok (.arraylength, 1)) (hs : (if c = 90 then some (4, pw_k0) else if c = 91 then some (6, pw_k1) else if c = 93 then some x.2.2.2.2.2.2.2.2.2.2.2.2.2.2.1 else none) = some q) (hk : pw_V x M d Z (pc + 1) lv (.int (Int32.ofNat q.1) :: r) mm) : pw_V x M d Z pc lv (.ref c :: r) mm := by
  obtain ⟨p, l, ee, R, s, m, args, below, meth, cc, D, ad, ⟨cI, cZ, cE⟩, A, X, nc, ns⟩ := x
  intro hC H locs hH ls hl
  have hT : pw_T ad X A s s.heap := hC.2.2.2.2.2.2.2.2.2.1
  dsimp only at hs hx
  split at hs
  · rename_i h9; subst h9; cases hs
    exact va_tlen hC.1 hC.2.1 hT.1.2 hH.2.2 rfl hd (hk hC H locs hH ls hl)
  · split at hs
    · rename_i h9; subst h9; cases hs
      exact va_tlen hC.1 hC.2.1 hT.2.1.2 hH.2.2 rfl hd (hk hC H locs hH ls hl)
    · split at hs
      · rename_i h9; subst h9; cases hs
        rcases hT.2.2.2 with h0 | ⟨-, h0⟩
        · rcases hx with hx | hx
          · omega
          · exact absurd rfl hx
        · exact va_tlen hC.1 hC.2.1 h0 hH.2.2 rfl hd (hk hC H locs hH ls hl)
      · cases hs
theorem pw_o_getstatic {idx j : Nat} (hd : decode M.2.1 pc = .ok (.getstatic idx, 3)) (hs : pw_sc M.1 idx = some j) (hk : pw_V x M d Z (pc + 3) lv (.ref (90 + j) :: r) mm) : pw_V x M d Z pc lv r mm := by
  obtain ⟨p, l, ee, R, s, m, args, below, meth, cc, D, ad, ⟨cI, cZ, cE⟩, A, X, nc, ns⟩ := x
  intro hC H locs hH ls hl
  have hT : pw_T ad X A s s.heap := hC.2.2.2.2.2.2.2.2.2.1
  have hown := hC.2.2.2.1
  unfold pw_sc at hs
  split at hs
  · rename_i h7
    rw [h7] at hown
    split at hs
    · rename_i h9; subst h9; cases hs
      exact va_gets hC.1 hC.2.1 hT.1.1 hH.2.2 hown (hC.2.2.2.2.1 (.fieldLink RX7 134 RX7 "OVER_KNIGHTS" "[I") (pw_tb_in (i := 501) (by decide +kernel) rfl)) (fun _ h => h) hd (hk hC H locs hH ls hl)
    · split at hs
      · rename_i h9; subst h9; cases hs
        exact va_gets hC.1 hC.2.1 hT.2.1.1 hH.2.2 hown (hC.2.2.2.2.1 (.fieldLink RX7 147 RX7 "OVER_NAMES" "[I") (pw_tb_in (i := 518) (by decide +kernel) rfl)) (fun _ h => h) hd (hk hC H locs hH ls hl)
      · cases hs
  · split at hs
    · rename_i h7
      rw [h7] at hown
      split at hs
      · rename_i h9; subst h9; cases hs
        exact va_gets hC.1 hC.2.1 hT.2.2.1.1 hH.2.2 hown (hC.2.2.2.2.1 (.fieldLink RX2 91 RX2 "WORDS" "[C") (pw_tb_in (i := 395) (by decide +kernel) rfl)) (fun _ h => h) hd (hk hC H locs hH ls hl)
      · cases hs
    · cases hs
theorem pw_lcw {o idx : Nat} {v : Int} (h : pw_lc o idx = some v) : Cond.constantLong (pw_on o) idx (Int64.ofInt v) ∈ pw_tb := by
  unfold pw_lc at h
  split at h
  · rename_i h7; subst h7
    split at h
    · rename_i h9; subst h9; cases h
      exact pw_tb_in (i := 727) (by decide +kernel) rfl
    · split at h
      · rename_i h9; subst h9; cases h
        exact pw_tb_in (i := 728) (by decide +kernel) rfl
      · cases h
  · split at h
    · rename_i h7; subst h7
      split at h
      · rename_i h9; subst h9; cases h
        exact pw_tb_in (i := 1128) (by decide +kernel) rfl
      · split at h
        · rename_i h9; subst h9; cases h
          exact pw_tb_in (i := 1129) (by decide +kernel) rfl
        · split at h
          · rename_i h9; subst h9; cases h
            exact pw_tb_in (i := 1130) (by decide +kernel) rfl
          · cases h
    · cases h
theorem pw_icw {o idx : Nat} {v : Int} (h : pw_ic o idx = some v) : Cond.constant (pw_on o) idx (Int32.ofInt v) ∈ pw_tb := by
  unfold pw_ic at h
  split at h
  · rename_i h7; subst h7
    split at h
    · rename_i h9; subst h9; cases h
      exact pw_tb_in (i := 542) (by decide +kernel) rfl
    · split at h
      · rename_i h9; subst h9; cases h
        exact pw_tb_in (i := 543) (by decide +kernel) rfl
      · split at h
        · rename_i h9; subst h9; cases h
          exact pw_tb_in (i := 544) (by decide +kernel) rfl
        · cases h
  · cases h
theorem pw_o_ldc2 {idx : Nat} {v : Int} (hd : decode M.2.1 pc = .ok (.ldc2_w idx, 3)) (hs : pw_lc M.1 idx = some v) (hk : pw_V x M d Z (pc + 3) lv (.long (Int64.ofInt v) :: r) mm) : pw_V x M d Z pc lv r mm := by
  obtain ⟨p, l, ee, R, s, m, args, below, meth, cc, D, ad, ⟨cI, cZ, cE⟩, A, X, nc, ns⟩ := x
  intro hC H locs hH ls hl
  exact lv_ldc2 hC.1 hC.2.1 hC.2.2.2.1 (hC.2.2.2.2.1 _ (pw_lcw hs)) hd (hk hC H locs hH ls hl)
theorem pw_o_ldcw {idx : Nat} {v : Int} (hd : decode M.2.1 pc = .ok (.ldc_w idx, 3)) (hs : pw_ic M.1 idx = some v) (hk : pw_V x M d Z (pc + 3) lv (.int (Int32.ofInt v) :: r) mm) : pw_V x M d Z pc lv r mm := by
  obtain ⟨p, l, ee, R, s, m, args, below, meth, cc, D, ad, ⟨cI, cZ, cE⟩, A, X, nc, ns⟩ := x
  intro hC H locs hH ls hl
  exact lv_ldcw hC.1 hC.2.1 hC.2.2.2.1 (hC.2.2.2.2.1 _ (pw_icw hs)) hd (hk hC H locs hH ls hl)
end PWT
end
section
/-! one instruction; a stretch -/
abbrev pw_xX (x : pw_X) : Nat × (Nat → Int32) := x.2.2.2.2.2.2.2.2.2.2.2.2.2.2.1
theorem pw_sha {c t n b : Nat} (h : pw_shp c = some (.inr (t, n, b))) : n < 2 ^ 31 := by
  have h1 := List.all_eq_true.mp pw_sz_ok c (List.mem_range.mpr (pw_shp_lt h))
  unfold pw_sz at h1
  rw [h] at h1
  dsimp only at h1
  rw [Bool.and_eq_true] at h1
  exact of_decide_eq_true h1.2
set_option maxHeartbeats 4000000 in
theorem pw_st {x : pw_X} {M : pw_M} {d : Nat} {Z : State → Prop} {pc len : Nat} {i0 i : Instr} {lv : List (Nat × Value)} {st : List Value} {mm : pw_m} {k : List (Nat × Value) → List Value → pw_m → Prop} (hd : decode M.2.1 pc = .ok (i0, len)) (hr : pw_rs M.1 i0 len = some i) (hm : pw_mx i ≤ M.2.2.1) (hw : pw_w1 (pw_xX x) i lv st mm k) (hk : ∀ lv' st' m', k lv' st' m' → pw_V x M d Z (pc + len) lv' st' m') : pw_V x M d Z pc lv st mm := by
  cases i0 with
  | iadd =>
    simp only [pw_rs] at hr
    split at hr
    · rename_i h1
      subst h1; cases hr; dsimp only [pw_w1] at hw; split at hw
      · exact pw_o_iadd hd (hk _ _ _ hw)
      · cases hw
    · cases hr
  | isub =>
    simp only [pw_rs] at hr
    split at hr
    · rename_i h1
      subst h1; cases hr; dsimp only [pw_w1] at hw; split at hw
      · exact pw_o_isub hd (hk _ _ _ hw)
      · cases hw
    · cases hr
  | imul =>
    simp only [pw_rs] at hr
    split at hr
    · rename_i h1
      subst h1; cases hr; dsimp only [pw_w1] at hw; split at hw
      · exact pw_o_imul hd (hk _ _ _ hw)
      · cases hw
    · cases hr
  | iand =>
    simp only [pw_rs] at hr
    split at hr
    · rename_i h1
      subst h1; cases hr; dsimp only [pw_w1] at hw; split at hw
      · exact pw_o_iand hd (hk _ _ _ hw)
      · cases hw
    · cases hr
  | ior =>
    simp only [pw_rs] at hr
    split at hr
    · rename_i h1
      subst h1; cases hr; dsimp only [pw_w1] at hw; split at hw
      · exact pw_o_ior hd (hk _ _ _ hw)
      · cases hw
    · cases hr
  | ixor =>
    simp only [pw_rs] at hr
    split at hr
    · rename_i h1
      subst h1; cases hr; dsimp only [pw_w1] at hw; split at hw
      · exact pw_o_ixor hd (hk _ _ _ hw)
      · cases hw
    · cases hr
  | ishl =>
    simp only [pw_rs] at hr
    split at hr
    · rename_i h1
      subst h1; cases hr; dsimp only [pw_w1] at hw; split at hw
      · exact pw_o_ishl hd (hk _ _ _ hw)
      · cases hw
    · cases hr
  | ishr =>
    simp only [pw_rs] at hr
    split at hr
    · rename_i h1
      subst h1; cases hr; dsimp only [pw_w1] at hw; split at hw
      · exact pw_o_ishr hd (hk _ _ _ hw)
      · cases hw
    · cases hr
  | iushr =>
    simp only [pw_rs] at hr
    split at hr
    · rename_i h1
      subst h1; cases hr; dsimp only [pw_w1] at hw; split at hw
      · exact pw_o_iushr hd (hk _ _ _ hw)
      · cases hw
    · cases hr
  | ladd =>
    simp only [pw_rs] at hr
    split at hr
    · rename_i h1
      subst h1; cases hr; dsimp only [pw_w1] at hw; split at hw
      · exact pw_o_ladd hd (hk _ _ _ hw)
      · cases hw
    · cases hr
  | lmul =>
    simp only [pw_rs] at hr
    split at hr
    · rename_i h1
      subst h1; cases hr; dsimp only [pw_w1] at hw; split at hw
      · exact pw_o_lmul hd (hk _ _ _ hw)
      · cases hw
    · cases hr
  | lcmp =>
    simp only [pw_rs] at hr
    split at hr
    · rename_i h1
      subst h1; cases hr; dsimp only [pw_w1] at hw; split at hw
      · exact pw_o_lcmp hd (hk _ _ _ hw)
      · cases hw
    · cases hr
  | i2l =>
    simp only [pw_rs] at hr
    split at hr
    · rename_i h1
      subst h1; cases hr; dsimp only [pw_w1] at hw; split at hw
      · exact pw_o_i2l hd (hk _ _ _ hw)
      · cases hw
    · cases hr
  | idiv =>
    simp only [pw_rs] at hr
    split at hr
    · rename_i h1
      subst h1; cases hr; dsimp only [pw_w1] at hw; split at hw
      · exact pw_o_idiv hd hw.1 (hk _ _ _ hw.2)
      · cases hw
    · cases hr
  | irem =>
    simp only [pw_rs] at hr
    split at hr
    · rename_i h1
      subst h1; cases hr; dsimp only [pw_w1] at hw; split at hw
      · exact pw_o_irem hd hw.1 (hk _ _ _ hw.2)
      · cases hw
    · cases hr
  | ldiv =>
    simp only [pw_rs] at hr
    split at hr
    · rename_i h1
      subst h1; cases hr; dsimp only [pw_w1] at hw; split at hw
      · exact pw_o_ldiv hd hw.1 (hk _ _ _ hw.2)
      · cases hw
    · cases hr
  | lrem =>
    simp only [pw_rs] at hr
    split at hr
    · rename_i h1
      subst h1; cases hr; dsimp only [pw_w1] at hw; split at hw
      · exact pw_o_lrem hd hw.1 (hk _ _ _ hw.2)
      · cases hw
    · cases hr
  | dup =>
    simp only [pw_rs] at hr
    split at hr
    · rename_i h1
      subst h1; cases hr; dsimp only [pw_w1] at hw; split at hw
      · exact pw_o_dup hd rfl (hk _ _ _ hw)
      · exact pw_o_dup hd rfl (hk _ _ _ hw)
      · cases hw
    · cases hr
  | dup2 =>
    simp only [pw_rs] at hr
    split at hr
    · rename_i h1
      subst h1; cases hr; dsimp only [pw_w1] at hw; split at hw
      · exact pw_o_dup2 hd rfl rfl (hk _ _ _ hw)
      · cases hw
    · cases hr
  | pop =>
    simp only [pw_rs] at hr
    split at hr
    · rename_i h1
      subst h1; cases hr; dsimp only [pw_w1] at hw; split at hw
      · exact pw_o_pop hd rfl (hk _ _ _ hw)
      · cases hw
    · cases hr
  | iconst n =>
    simp only [pw_rs] at hr
    split at hr
    · rename_i h1
      subst h1; cases hr; exact pw_o_iconst hd (hk _ _ _ hw)
    · cases hr
  | bipush n =>
    simp only [pw_rs] at hr
    split at hr
    · rename_i h1
      obtain ⟨h1, h2⟩ := h1; subst h1; cases hr; exact pw_o_bipush hd h2 (hk _ _ _ hw)
    · cases hr
  | sipush n =>
    simp only [pw_rs] at hr
    split at hr
    · rename_i h1
      obtain ⟨h1, h2⟩ := h1; subst h1; cases hr; exact pw_o_sipush hd h2 (hk _ _ _ hw)
    · cases hr
  | lconst n =>
    simp only [pw_rs] at hr
    split at hr
    · rename_i h1
      obtain ⟨h1, h2⟩ := h1; subst h1; cases hr; exact pw_o_lconst hd h2 (hk _ _ _ hw)
    · cases hr
  | ldc2_w n =>
    simp only [pw_rs] at hr
    split at hr
    · rename_i h1
      subst h1; obtain ⟨v, hv, rfl⟩ := Option.map_eq_some_iff.mp hr; exact pw_o_ldc2 hd hv (hk _ _ _ hw)
    · cases hr
  | ldc_w n =>
    simp only [pw_rs] at hr
    split at hr
    · rename_i h1
      subst h1; obtain ⟨v, hv, rfl⟩ := Option.map_eq_some_iff.mp hr; exact pw_o_ldcw hd hv (hk _ _ _ hw)
    · cases hr
  | getstatic n =>
    simp only [pw_rs] at hr
    split at hr
    · rename_i h1
      subst h1; obtain ⟨v, hv, rfl⟩ := Option.map_eq_some_iff.mp hr; exact pw_o_getstatic hd hv (hk _ _ _ hw)
    · cases hr
  | iload_n k =>
    simp only [pw_rs] at hr
    split at hr
    · rename_i h1
      subst h1; cases hr; dsimp only [pw_w1] at hw; split at hw
      · rename_i hv; exact pw_o_iload_n hd hv (hk _ _ _ hw)
      · cases hw
    · cases hr
  | iload k =>
    simp only [pw_rs] at hr
    split at hr
    · rename_i h1
      subst h1; cases hr; dsimp only [pw_w1] at hw; split at hw
      · rename_i hv; exact pw_o_iload hd hv (hk _ _ _ hw)
      · cases hw
    · cases hr
  | istore_n k =>
    simp only [pw_rs] at hr
    split at hr
    · rename_i h1
      subst h1; cases hr; dsimp only [pw_w1] at hw; split at hw
      · exact pw_o_istore_n hd hm (hk _ _ _ hw)
      · cases hw
    · cases hr
  | istore k =>
    simp only [pw_rs] at hr
    split at hr
    · rename_i h1
      subst h1; cases hr; dsimp only [pw_w1] at hw; split at hw
      · exact pw_o_istore hd hm (hk _ _ _ hw)
      · cases hw
    · cases hr
  | lload_n k =>
    simp only [pw_rs] at hr
    split at hr
    · rename_i h1
      subst h1; cases hr; dsimp only [pw_w1] at hw; split at hw
      · rename_i hv; exact pw_o_lload_n hd hv (hk _ _ _ hw)
      · cases hw
    · cases hr
  | lload k =>
    simp only [pw_rs] at hr
    split at hr
    · rename_i h1
      subst h1; cases hr; dsimp only [pw_w1] at hw; split at hw
      · rename_i hv; exact pw_o_lload hd hv (hk _ _ _ hw)
      · cases hw
    · cases hr
  | lstore_n k =>
    simp only [pw_rs] at hr
    split at hr
    · rename_i h1
      subst h1; cases hr; dsimp only [pw_w1] at hw; split at hw
      · exact pw_o_lstore_n hd hm (hk _ _ _ hw)
      · cases hw
    · cases hr
  | lstore k =>
    simp only [pw_rs] at hr
    split at hr
    · rename_i h1
      subst h1; cases hr; dsimp only [pw_w1] at hw; split at hw
      · exact pw_o_lstore hd hm (hk _ _ _ hw)
      · cases hw
    · cases hr
  | aload_n k =>
    simp only [pw_rs] at hr
    split at hr
    · rename_i h1
      subst h1; cases hr; dsimp only [pw_w1] at hw; split at hw
      · rename_i hv; exact pw_o_aload_n hd hv (hk _ _ _ hw)
      · cases hw
    · cases hr
  | aload k =>
    simp only [pw_rs] at hr
    split at hr
    · rename_i h1
      subst h1; cases hr; dsimp only [pw_w1] at hw; split at hw
      · rename_i hv; exact pw_o_aload hd hv (hk _ _ _ hw)
      · cases hw
    · cases hr
  | astore_n k =>
    simp only [pw_rs] at hr
    split at hr
    · rename_i h1
      subst h1; cases hr; dsimp only [pw_w1] at hw; split at hw
      · exact pw_o_astore_n hd hm (hk _ _ _ hw)
      · cases hw
    · cases hr
  | astore k =>
    simp only [pw_rs] at hr
    split at hr
    · rename_i h1
      subst h1; cases hr; dsimp only [pw_w1] at hw; split at hw
      · exact pw_o_astore hd hm (hk _ _ _ hw)
      · cases hw
    · cases hr
  | iinc k n =>
    simp only [pw_rs] at hr
    split at hr
    · rename_i h1
      subst h1; cases hr; dsimp only [pw_w1] at hw; split at hw
      · rename_i hv; exact pw_o_iinc hd hv hm (hk _ _ _ hw)
      · cases hw
    · cases hr
  | getfield n =>
    simp only [pw_rs] at hr
    split at hr
    · rename_i h1
      subst h1; obtain ⟨e, he, rfl⟩ := Option.map_eq_some_iff.mp hr
      have hmem := List.mem_of_find?_eq_some he
      have hp := List.find?_some he
      rw [Bool.and_eq_true, beq_iff_eq, beq_iff_eq] at hp
      obtain ⟨C, T, N, -, -, h100, -, -⟩ := pw_fl hmem
      have e1 : (100 * e.2.2.1 + e.2.2.2.1) / 100 = e.2.2.1 := by omega
      have e2 : (100 * e.2.2.1 + e.2.2.2.1) % 100 = e.2.2.2.1 := by omega
      dsimp only [pw_w1] at hw
      rw [e1, e2] at hw
      split at hw
      · split at hw
        · rename_i o hs
          split at hw
          · rename_i hci
            split at hw
            · rename_i hf; exact pw_o_getfield hd hmem hp.1 hp.2 hs hci hf (hk _ _ _ hw)
            · rename_i hf; exact pw_o_getfield hd hmem hp.1 hp.2 hs hci hf (hk _ _ _ hw)
            · cases hw
          · cases hw
        · cases hw
      · cases hw
    · cases hr
  | putfield n =>
    simp only [pw_rs] at hr
    split at hr
    · rename_i h1
      subst h1; obtain ⟨e, he, rfl⟩ := Option.map_eq_some_iff.mp hr
      have hmem := List.mem_of_find?_eq_some he
      have hp := List.find?_some he
      rw [Bool.and_eq_true, beq_iff_eq, beq_iff_eq] at hp
      obtain ⟨C, T, N, -, -, h100, -, -⟩ := pw_fl hmem
      have e1 : (100 * e.2.2.1 + e.2.2.2.1) / 100 = e.2.2.1 := by omega
      have e2 : (100 * e.2.2.1 + e.2.2.2.1) % 100 = e.2.2.2.1 := by omega
      dsimp only [pw_w1] at hw
      rw [e1, e2] at hw
      split at hw
      · split at hw
        · rename_i o hs
          split at hw
          · rename_i hci
            split at hw
            · rename_i hf
              split at hw
              · exact pw_o_putfield hd hmem hp.1 hp.2 hs hci hf (fun _ => hw.1) (hk _ _ _ hw.2)
              · rename_i hz; exact pw_o_putfield hd hmem hp.1 hp.2 hs hci hf (fun q => absurd (hci ▸ q) hz) (hk _ _ _ hw)
            · cases hw
          · cases hw
        · cases hw
      · cases hw
    · cases hr
  | iaload =>
    simp only [pw_rs] at hr
    split at hr
    · rename_i h1
      subst h1; cases hr; dsimp only [pw_w1] at hw; split at hw
      · split at hw
        · rename_i n f hs
          unfold pw_ia at hs
          split at hs
          · rename_i hs2; cases hs; obtain ⟨j, rfl, hj, hw⟩ := hw; exact pw_o_iaload hd hs2 (vp_in_nI hj (pw_sha hs2)) (hk _ _ _ (by rw [nI_clamp (Nat.lt_trans hj (pw_sha hs2))]; exact hw))
          · cases hs
          · obtain ⟨j, rfl, hj, hw⟩ := hw; intro hC; have hb := pw_tbl_lt hC hs; exact pw_o_tload hd hs (vp_in_nI hj hb) (hk _ _ _ (by rw [nI_clamp (Nat.lt_trans hj hb)]; exact hw)) hC
        · cases hw
      · cases hw
    · cases hr
  | baload =>
    simp only [pw_rs] at hr
    split at hr
    · rename_i h1
      subst h1; cases hr; dsimp only [pw_w1] at hw; split at hw
      · split at hw
        · rename_i hs; obtain ⟨j, rfl, hj, hw⟩ := hw; exact pw_o_baload hd hs (vp_in_nI hj (pw_sha hs)) (hk _ _ _ (by rw [nI_clamp (Nat.lt_trans hj (pw_sha hs))]; exact hw))
        · cases hw
      · cases hw
    · cases hr
  | aaload =>
    simp only [pw_rs] at hr
    split at hr
    · rename_i h1
      subst h1; cases hr; dsimp only [pw_w1] at hw; split at hw
      · split at hw
        · rename_i hs; obtain ⟨j, rfl, hj, hw⟩ := hw; exact pw_o_aaload hd hs (vp_in_nI hj (pw_sha hs)) (hk _ _ _ (by rw [nI_clamp (Nat.lt_trans hj (pw_sha hs))]; exact hw))
        · cases hw
      · cases hw
    · cases hr
  | iastore =>
    simp only [pw_rs] at hr
    split at hr
    · rename_i h1
      subst h1; cases hr; dsimp only [pw_w1] at hw; split at hw
      · split at hw
        · rename_i hs; obtain ⟨j, rfl, hj, hw⟩ := hw; exact pw_o_iastore hd hs (vp_in_nI hj (pw_sha hs)) (hk _ _ _ (by rw [nI_clamp (Nat.lt_trans hj (pw_sha hs))]; exact hw))
        · cases hw
      · cases hw
    · cases hr
  | bastore =>
    simp only [pw_rs] at hr
    split at hr
    · rename_i h1
      subst h1; cases hr; dsimp only [pw_w1] at hw; split at hw
      · split at hw
        · rename_i hs; obtain ⟨hv, j, rfl, hj, hw⟩ := hw; exact pw_o_bastore hd hs hv (vp_in_nI hj (pw_sha hs)) (hk _ _ _ (by rw [nI_clamp (Nat.lt_trans hj (pw_sha hs))]; exact hw))
        · cases hw
      · cases hw
    · cases hr
  | caload =>
    simp only [pw_rs] at hr
    split at hr
    · rename_i h1
      subst h1; cases hr; dsimp only [pw_w1] at hw; split at hw
      · obtain ⟨rfl, j, rfl, hj, hw⟩ := hw; exact pw_o_caload hd (vp_in_nI hj (by decide)) (hk _ _ _ (by rw [nI_clamp (by omega)]; exact hw))
      · cases hw
    · cases hr
  | arraylength =>
    simp only [pw_rs] at hr
    split at hr
    · rename_i h1
      subst h1; cases hr; dsimp only [pw_w1] at hw; split at hw
      · split at hw
        · rename_i h9; subst h9; exact pw_o_clen hd (hk _ _ _ hw)
        · split at hw
          · cases hw
          · rename_i h93
            split at hw
            · rename_i n f hs
              unfold pw_ia at hs
              split at hs
              · rename_i hs2; cases hs; exact pw_o_alen hd hs2 (hk _ _ _ hw)
              · cases hs
              · exact pw_o_tlen (Or.inr h93) hd hs (hk _ _ _ hw)
            · cases hw
      · cases hw
    · cases hr
  | _ => cases hr
theorem pw_blk {x : pw_X} {M : pw_M} {d : Nat} {Z : State → Prop} (is : List Instr) {pc pc' : Nat} {lv : List (Nat × Value)} {st : List Value} {mm : pw_m} (hc : pw_ck M pc is = some pc') (hw : pw_wp (pw_xX x) is lv st mm (fun lv' st' m' => pw_V x M d Z pc' lv' st' m')) : pw_V x M d Z pc lv st mm := by
  induction is generalizing pc lv st mm with
  | nil =>
    cases hc
    exact hw
  | cons i is ih =>
    unfold pw_ck at hc
    split at hc
    · rename_i r len hd
      split at hc
      · rename_i h
        exact pw_st hd h.1 h.2 hw (fun lv' st' m' h' => ih hc h')
      · cases hc
    · cases hc
end
section
/-! branches, returns, contracts, calls -/
section PWB
variable {x : pw_X} {M : pw_M} {d : Nat} {Z : State → Prop} {pc tgt : Nat} {off : Int} {lv : List (Nat × Value)} {r : List Value} {mm : pw_m}
theorem pw_if_eq {a : Int32} (hd : decode M.2.1 pc = .ok (.ifCond .eq off, 3)) (ht : (pc : Int) + off = (tgt : Int)) (kt : a = 0 → pw_V x M d Z tgt lv r mm) (kf : ¬ a = 0 → pw_V x M d Z (pc + 3) lv r mm) : pw_V x M d Z pc lv (.int a :: r) mm := by
  obtain ⟨p, l, ee, R, s, m, args, below, meth, cc, D, ad, ⟨cI, cZ, cE⟩, A, X, nc, ns⟩ := x
  intro hC H locs hH ls hl
  exact lv_if_eq hC.1 hC.2.1 hd ht (fun h => kt h hC H locs hH ls hl) (fun h => kf h hC H locs hH ls hl)
theorem pw_if_ne {a : Int32} (hd : decode M.2.1 pc = .ok (.ifCond .ne off, 3)) (ht : (pc : Int) + off = (tgt : Int)) (kt : ¬ a = 0 → pw_V x M d Z tgt lv r mm) (kf : a = 0 → pw_V x M d Z (pc + 3) lv r mm) : pw_V x M d Z pc lv (.int a :: r) mm := by
  obtain ⟨p, l, ee, R, s, m, args, below, meth, cc, D, ad, ⟨cI, cZ, cE⟩, A, X, nc, ns⟩ := x
  intro hC H locs hH ls hl
  exact lv_if_ne hC.1 hC.2.1 hd ht (fun h => kt h hC H locs hH ls hl) (fun h => kf h hC H locs hH ls hl)
theorem pw_if_lt {a : Int32} (hd : decode M.2.1 pc = .ok (.ifCond .lt off, 3)) (ht : (pc : Int) + off = (tgt : Int)) (kt : a < 0 → pw_V x M d Z tgt lv r mm) (kf : ¬ a < 0 → pw_V x M d Z (pc + 3) lv r mm) : pw_V x M d Z pc lv (.int a :: r) mm := by
  obtain ⟨p, l, ee, R, s, m, args, below, meth, cc, D, ad, ⟨cI, cZ, cE⟩, A, X, nc, ns⟩ := x
  intro hC H locs hH ls hl
  exact lv_if_lt hC.1 hC.2.1 hd ht (fun h => kt h hC H locs hH ls hl) (fun h => kf h hC H locs hH ls hl)
theorem pw_if_ge {a : Int32} (hd : decode M.2.1 pc = .ok (.ifCond .ge off, 3)) (ht : (pc : Int) + off = (tgt : Int)) (kt : 0 ≤ a → pw_V x M d Z tgt lv r mm) (kf : ¬ 0 ≤ a → pw_V x M d Z (pc + 3) lv r mm) : pw_V x M d Z pc lv (.int a :: r) mm := by
  obtain ⟨p, l, ee, R, s, m, args, below, meth, cc, D, ad, ⟨cI, cZ, cE⟩, A, X, nc, ns⟩ := x
  intro hC H locs hH ls hl
  exact lv_if_ge hC.1 hC.2.1 hd ht (fun h => kt h hC H locs hH ls hl) (fun h => kf h hC H locs hH ls hl)
theorem pw_if_gt {a : Int32} (hd : decode M.2.1 pc = .ok (.ifCond .gt off, 3)) (ht : (pc : Int) + off = (tgt : Int)) (kt : 0 < a → pw_V x M d Z tgt lv r mm) (kf : ¬ 0 < a → pw_V x M d Z (pc + 3) lv r mm) : pw_V x M d Z pc lv (.int a :: r) mm := by
  obtain ⟨p, l, ee, R, s, m, args, below, meth, cc, D, ad, ⟨cI, cZ, cE⟩, A, X, nc, ns⟩ := x
  intro hC H locs hH ls hl
  exact lv_if_gt hC.1 hC.2.1 hd ht (fun h => kt h hC H locs hH ls hl) (fun h => kf h hC H locs hH ls hl)
theorem pw_if_le {a : Int32} (hd : decode M.2.1 pc = .ok (.ifCond .le off, 3)) (ht : (pc : Int) + off = (tgt : Int)) (kt : a ≤ 0 → pw_V x M d Z tgt lv r mm) (kf : ¬ a ≤ 0 → pw_V x M d Z (pc + 3) lv r mm) : pw_V x M d Z pc lv (.int a :: r) mm := by
  obtain ⟨p, l, ee, R, s, m, args, below, meth, cc, D, ad, ⟨cI, cZ, cE⟩, A, X, nc, ns⟩ := x
  intro hC H locs hH ls hl
  exact lv_if_le hC.1 hC.2.1 hd ht (fun h => kt h hC H locs hH ls hl) (fun h => kf h hC H locs hH ls hl)
theorem pw_ic_eq {a b : Int32} (hd : decode M.2.1 pc = .ok (.if_icmp .eq off, 3)) (ht : (pc : Int) + off = (tgt : Int)) (kt : a = b → pw_V x M d Z tgt lv r mm) (kf : ¬ a = b → pw_V x M d Z (pc + 3) lv r mm) : pw_V x M d Z pc lv (.int b :: .int a :: r) mm := by
  obtain ⟨p, l, ee, R, s, m, args, below, meth, cc, D, ad, ⟨cI, cZ, cE⟩, A, X, nc, ns⟩ := x
  intro hC H locs hH ls hl
  exact lv_icmp_eq hC.1 hC.2.1 hd ht (fun h => kt h hC H locs hH ls hl) (fun h => kf h hC H locs hH ls hl)
theorem pw_ic_ne {a b : Int32} (hd : decode M.2.1 pc = .ok (.if_icmp .ne off, 3)) (ht : (pc : Int) + off = (tgt : Int)) (kt : ¬ a = b → pw_V x M d Z tgt lv r mm) (kf : a = b → pw_V x M d Z (pc + 3) lv r mm) : pw_V x M d Z pc lv (.int b :: .int a :: r) mm := by
  obtain ⟨p, l, ee, R, s, m, args, below, meth, cc, D, ad, ⟨cI, cZ, cE⟩, A, X, nc, ns⟩ := x
  intro hC H locs hH ls hl
  exact lv_icmp_ne hC.1 hC.2.1 hd ht (fun h => kt h hC H locs hH ls hl) (fun h => kf h hC H locs hH ls hl)
theorem pw_ic_lt {a b : Int32} (hd : decode M.2.1 pc = .ok (.if_icmp .lt off, 3)) (ht : (pc : Int) + off = (tgt : Int)) (kt : a < b → pw_V x M d Z tgt lv r mm) (kf : ¬ a < b → pw_V x M d Z (pc + 3) lv r mm) : pw_V x M d Z pc lv (.int b :: .int a :: r) mm := by
  obtain ⟨p, l, ee, R, s, m, args, below, meth, cc, D, ad, ⟨cI, cZ, cE⟩, A, X, nc, ns⟩ := x
  intro hC H locs hH ls hl
  exact lv_icmp_lt hC.1 hC.2.1 hd ht (fun h => kt h hC H locs hH ls hl) (fun h => kf h hC H locs hH ls hl)
theorem pw_ic_ge {a b : Int32} (hd : decode M.2.1 pc = .ok (.if_icmp .ge off, 3)) (ht : (pc : Int) + off = (tgt : Int)) (kt : b ≤ a → pw_V x M d Z tgt lv r mm) (kf : ¬ b ≤ a → pw_V x M d Z (pc + 3) lv r mm) : pw_V x M d Z pc lv (.int b :: .int a :: r) mm := by
  obtain ⟨p, l, ee, R, s, m, args, below, meth, cc, D, ad, ⟨cI, cZ, cE⟩, A, X, nc, ns⟩ := x
  intro hC H locs hH ls hl
  exact lv_icmp_ge hC.1 hC.2.1 hd ht (fun h => kt h hC H locs hH ls hl) (fun h => kf h hC H locs hH ls hl)
theorem pw_ic_gt {a b : Int32} (hd : decode M.2.1 pc = .ok (.if_icmp .gt off, 3)) (ht : (pc : Int) + off = (tgt : Int)) (kt : b < a → pw_V x M d Z tgt lv r mm) (kf : ¬ b < a → pw_V x M d Z (pc + 3) lv r mm) : pw_V x M d Z pc lv (.int b :: .int a :: r) mm := by
  obtain ⟨p, l, ee, R, s, m, args, below, meth, cc, D, ad, ⟨cI, cZ, cE⟩, A, X, nc, ns⟩ := x
  intro hC H locs hH ls hl
  exact lv_icmp_gt hC.1 hC.2.1 hd ht (fun h => kt h hC H locs hH ls hl) (fun h => kf h hC H locs hH ls hl)
theorem pw_ic_le {a b : Int32} (hd : decode M.2.1 pc = .ok (.if_icmp .le off, 3)) (ht : (pc : Int) + off = (tgt : Int)) (kt : a ≤ b → pw_V x M d Z tgt lv r mm) (kf : ¬ a ≤ b → pw_V x M d Z (pc + 3) lv r mm) : pw_V x M d Z pc lv (.int b :: .int a :: r) mm := by
  obtain ⟨p, l, ee, R, s, m, args, below, meth, cc, D, ad, ⟨cI, cZ, cE⟩, A, X, nc, ns⟩ := x
  intro hC H locs hH ls hl
  exact lv_icmp_le hC.1 hC.2.1 hd ht (fun h => kt h hC H locs hH ls hl) (fun h => kf h hC H locs hH ls hl)
theorem pw_goto (hd : decode M.2.1 pc = .ok (.goto off, 3)) (ht : (pc : Int) + off = (tgt : Int)) (hk : pw_V x M d Z tgt lv r mm) : pw_V x M d Z pc lv r mm := by
  obtain ⟨p, l, ee, R, s, m, args, below, meth, cc, D, ad, ⟨cI, cZ, cE⟩, A, X, nc, ns⟩ := x
  intro hC H locs hH ls hl
  exact lv_goto hC.1 hC.2.1 hd ht (hk hC H locs hH ls hl)
theorem pw_tsw {a : Int32} {dflt lo hi : Int} {offs : Array Int} {len : Nat} (hd : decode M.2.1 pc = .ok (.tableswitch dflt lo hi offs, len)) (ht : (pc : Int) + dflt = (tgt : Int)) (ko : (a.toInt < lo ∨ hi < a.toInt) → pw_V x M d Z tgt lv r mm) (ki : ∀ j : Nat, lo + j ≤ hi → a.toInt = lo + j → ∃ (o : Int) (t : Nat), offs[j]? = some o ∧ (pc : Int) + o = (t : Int) ∧ pw_V x M d Z t lv r mm) : pw_V x M d Z pc lv (.int a :: r) mm := by
  obtain ⟨p, l, ee, R, s, m, args, below, meth, cc, D, ad, ⟨cI, cZ, cE⟩, A, X, nc, ns⟩ := x
  intro hC H locs hH ls hl
  by_cases h1 : a.toInt < lo ∨ hi < a.toInt
  · exact lv_tableOut hC.1 hC.2.1 hd h1 ht (ko h1 hC H locs hH ls hl)
  · obtain ⟨o, t, e1, e2, e3⟩ := ki (a.toInt - lo).toNat (by omega) (by omega)
    exact lv_tableIn hC.1 hC.2.1 hd (by omega) (by omega) e1 e2 (e3 hC H locs hH ls hl)
theorem pw_lsw {a : Int32} {dflt : Int} {ps : Array (Int × Int)} {len : Nat} (hd : decode M.2.1 pc = .ok (.lookupswitch dflt ps, len)) (hp : (ps.toList.zip (ps.toList.drop 1)).all (fun (a, next) => a.1 < next.1) = true) (kk : ∃ (o : Int) (t : Nat), Op.lookupswitch.offset ps.toList dflt a.toInt = o ∧ (pc : Int) + o = (t : Int) ∧ pw_V x M d Z t lv r mm) : pw_V x M d Z pc lv (.int a :: r) mm := by
  obtain ⟨p, l, ee, R, s, m, args, below, meth, cc, D, ad, ⟨cI, cZ, cE⟩, A, X, nc, ns⟩ := x
  intro hC H locs hH ls hl
  obtain ⟨o, t, e1, e2, e3⟩ := kk
  exact lv_lookup hC.1 hC.2.1 hd hp e1 e2 (e3 hC H locs hH ls hl)
/-- fewer locals, or in another order -/
theorem pw_lv {lv' : List (Nat × Value)} (h : lv'.all (fun q => decide (q ∈ lv)) = true) (hk : pw_V x M d Z pc lv' r mm) : pw_V x M d Z pc lv r mm := by
  obtain ⟨p, l, ee, R, s, m, args, below, meth, cc, D, ad, ⟨cI, cZ, cE⟩, A, X, nc, ns⟩ := x
  intro hC H locs hH ls hl
  refine hk hC H locs hH ls ⟨hl.1, hl.2.1, fun q hq => ?_⟩
  obtain ⟨q', hq', rfl⟩ := List.mem_map.mp hq
  exact hl.2.2 _ (List.mem_map_of_mem (of_decide_eq_true (List.all_eq_true.mp h q' hq')))
theorem pw_lvp {lv' : List (Nat × Value)} (ks : List Nat) (h : lv_pick lv ks = lv') (hk : pw_V x M d Z pc lv' r mm) : pw_V x M d Z pc lv r mm := by
  obtain ⟨p, l, ee, R, s, m, args, below, meth, cc, D, ad, ⟨cI, cZ, cE⟩, A, X, nc, ns⟩ := x
  intro hC H locs hH ls hl
  refine hk hC H locs hH ls ⟨hl.1, hl.2.1, fun q hq => ?_⟩
  obtain ⟨q', hq', rfl⟩ := List.mem_map.mp hq
  rw [← h] at hq'
  obtain ⟨i, -, hi⟩ := List.mem_filterMap.mp hq'
  exact hl.2.2 _ (List.mem_map_of_mem (List.mem_of_getElem? hi))
end PWB
/-- a method's end -/
def pw_qq (D : va_G) (ad : Nat → Nat) (cI cZ cE : ClassId) (A : Nat → Prop) (Q : Option Value → pw_m → Prop) : Array Value → State → Outcome → State → Prop := fun _ st oc t =>
  (∃ (r : Option Value) (mm : pw_m), oc = .returned (r.map (pw_tv ad)) ∧ Q r mm ∧ va_P D vwCl (pw_cs ad cI cZ cE mm) t.heap ∧ va_K D vwCl (pw_ty cI cZ cE) t ∧ va_D A (pw_cs ad cI cZ cE mm)) ∧ va_F A st t
def pw_Z (x : pw_X) (Q : Option Value → pw_m → Prop) : State → Prop := match x with
  | (_, _, _, _, s, _, args, below, _, _, D, ad, (cI, cZ, cE), A, _, (nc, ns)) => MQ below (pw_qq D ad cI cZ cE A Q) args s nc ns A
section PWR
variable {x : pw_X} {o : Nat} {cc : ByteArray} {mL d : Nat} {pc : Nat} {lv : List (Nat × Value)} {mm : pw_m} {Q : Option Value → pw_m → Prop}
theorem pw_ri {a : Int32} (hd : decode cc pc = .ok (.ireturn, 1)) (hq : Q (some (.int a)) mm) : pw_V x (o, cc, mL, some .int) d (pw_Z x Q) pc lv [.int a] mm := by
  obtain ⟨p, l, ee, R, s, m, args, below, meth, cc, D, ad, ⟨cI, cZ, cE⟩, A, X, nc, ns⟩ := x
  intro hC H locs hH ls hl
  exact W.iret hC.1 hC.2.1 hC.2.2.2.2.2.1 (fun t ht hW => ⟨⟨some (.int a), mm, rfl, hq, by rw [ht]; exact hH.1, va_K.moved hW.alike hC.2.2.2.2.2.2.2.2.1, hH.2.1⟩, hH.2.2.F ht⟩) hH.2.2.2.2 hd hC.2.2.2.2.2.2.1
theorem pw_rz {a : Int32} (hd : decode cc pc = .ok (.ireturn, 1)) (ha : a = 0 ∨ a = 1) (hq : Q (some (.int a)) mm) : pw_V x (o, cc, mL, some .boolean) d (pw_Z x Q) pc lv [.int a] mm := by
  obtain ⟨p, l, ee, R, s, m, args, below, meth, cc, D, ad, ⟨cI, cZ, cE⟩, A, X, nc, ns⟩ := x
  intro hC H locs hH ls hl
  exact W.zret hC.1 hC.2.1 hC.2.2.2.2.2.1 (pw_z01 ha).1 (fun t ht hW => ⟨⟨some (.int a), mm, rfl, hq, by rw [ht]; exact hH.1, va_K.moved hW.alike hC.2.2.2.2.2.2.2.2.1, hH.2.1⟩, hH.2.2.F ht⟩) hH.2.2.2.2 hd hC.2.2.2.2.2.2.1
theorem pw_rl {a : Int64} (hd : decode cc pc = .ok (.lreturn, 1)) (hq : Q (some (.long a)) mm) : pw_V x (o, cc, mL, some .long) d (pw_Z x Q) pc lv [.long a] mm := by
  obtain ⟨p, l, ee, R, s, m, args, below, meth, cc, D, ad, ⟨cI, cZ, cE⟩, A, X, nc, ns⟩ := x
  intro hC H locs hH ls hl
  exact W.lret hC.1 hC.2.1 hC.2.2.2.2.2.1 (fun t ht hW => ⟨⟨some (.long a), mm, rfl, hq, by rw [ht]; exact hH.1, va_K.moved hW.alike hC.2.2.2.2.2.2.2.2.1, hH.2.1⟩, hH.2.2.F ht⟩) hH.2.2.2.2 hd hC.2.2.2.2.2.2.1
theorem pw_rv (hd : decode cc pc = .ok (.return_, 1)) (hq : Q none mm) : pw_V x (o, cc, mL, none) d (pw_Z x Q) pc lv [] mm := by
  obtain ⟨p, l, ee, R, s, m, args, below, meth, cc, D, ad, ⟨cI, cZ, cE⟩, A, X, nc, ns⟩ := x
  intro hC H locs hH ls hl
  exact W.vret hC.1 hC.2.1 hC.2.2.2.2.2.1 (fun t ht hW => ⟨⟨none, mm, rfl, hq, by rw [ht]; exact hH.1, va_K.moved hW.alike hC.2.2.2.2.2.2.2.2.1, hH.2.1⟩, hH.2.2.F ht⟩) hH.2.2.2.2 hd hC.2.2.2.2.2.2.1
end PWR
def pw_rm (h : Nat) : Room := { frames := h, cells := 0, slots := 0, locals := 64 * h }
def pw_ws (y : MethodName) (M : pw_M) : List Cond := Cond.code y M.2.1 M.2.2.1 M.2.2.2 :: pw_tb
def pw_Pc (D : va_G) (ad : Nat → Nat) (cI cZ cE : ClassId) (sz : Nat) (vs : List Value) (mm : pw_m) : Array Value → State → Prop := va_Pc (vs.map (pw_tv ad)) (fun U => U.heap.size = sz ∧ va_P D vwCl (pw_cs ad cI cZ cE mm) U.heap ∧ va_K D vwCl (pw_ty cI cZ cE) U ∧ va_D (fun _ => True) (pw_cs ad cI cZ cE mm) ∧ pw_T ad (0, fun _ => 0) (va_A (pw_cs ad cI cZ cE mm) sz) U U.heap ∧ pw_N U)
/-- a contract: from the memory mm, with the arguments vs, the method returns with Q -/
def pw_Ct (h : Nat) (y : MethodName) (M : pw_M) (vs : List Value) (mm : pw_m) (Q : Option Value → pw_m → Prop) : Prop := ∀ (l : Launch) (D : va_G) (ad : Nat → Nat) (cI cZ cE : ClassId) (sz : Nat), Met l y (pw_ws y M) (pw_rm h) (pw_Pc D ad cI cZ cE sz vs mm) (pw_qq D ad cI cZ cE (va_A (pw_cs ad cI cZ cE mm) sz) Q) 0 0 (va_A (pw_cs ad cI cZ cE mm) sz)
theorem pw_args_map (ad : Nat → Nat) (vs : List Value) : ∀ k, lv_args k (vs.map (pw_tv ad)) = (lv_args k vs).map (pw_tq ad) := by
  induction vs with
  | nil => intro k; rfl
  | cons v vs ih => intro k; simp only [List.map_cons, lv_args, pw_tv_cat, ih]; rfl
theorem pw_sl_len (ad : Nat → Nat) (vs : List Value) : (lg_sl (vs.map (pw_tv ad))).length = (lg_sl vs).length := by
  induction vs with
  | nil => rfl
  | cons v vs ih =>
    have h := pw_tv_cat ad v
    simp only [lg_sl, List.map_cons, List.flatMap_cons, List.length_append] at ih ⊢
    rw [ih, h]
    split <;> rfl
theorem pw_ct {h : Nat} {y : MethodName} {M : pw_M} {vs : List Value} {mm : pw_m} {Q : Option Value → pw_m → Prop} (hy : plainName y.cls = true) (ho : y.cls = pw_on M.1) (hn : (lg_sl vs).length ≤ M.2.2.1) (hk : ∀ x : pw_X, pw_V x M h (pw_Z x Q) 0 (lv_args 0 vs) [] mm) : pw_Ct h y M vs mm Q := by
  intro l D ad cI cZ cE sz
  refine Met.ofW (cc := M.2.1) (maxL := M.2.2.1) (ret := M.2.2.2) hy rfl ?_
  intro p e s m args below meth c s₁ B hml hv
  obtain ⟨rfl, hsz, hP, hK, hD0, hT, hN⟩ := hv
  subst hsz
  have hD := hD0.self (sz := s.heap.size)
  have hl := lv_entry (vs.map (pw_tv ad)) (n := M.2.2.1) (by rw [pw_sl_len]; exact hn)
  rw [lg_entry_eq]
  rw [pw_args_map] at hl
  have hts : ∀ w ∈ pw_tb, w.before _ s = true := fun w hw => atoms_spec (ws := pw_ws y M) B.pre w (List.mem_cons_of_mem _ hw)
  have hC : pw_C (p, l, e, (headSpec (pw_ws y M) (pw_rm h)).room, s, m, (vs.map (pw_tv ad)).toArray, below, meth, c, D, ad, (cI, cZ, cE), va_A (pw_cs ad cI cZ cE mm) s.heap.size, (0, fun _ => 0), (0, 0)) M h :=
    ⟨B.exec, B.bytes, hml, by rw [← ho]; exact findClass_of_methodNamed B.named, hts, B.returns, B.notSynchronized, ⟨Nat.le_refl _, Nat.le_refl _, Nat.zero_le _, Nat.zero_le _⟩, hK, hT, fun q hq => Or.inr hq, hN⟩
  exact hk _ hC s.heap [] ⟨hP, hD, va_S.rf⟩ _ hl
end
section
/-! calls by contract -/
theorem pw_gi {ws : List Cond} (h : ∀ w ∈ ws, w ∈ pw_tb) : GoodIn pw_tb ws := fun w hw => ⟨h w hw, good_of_word (List.mem_filter.mp (h w hw)).2⟩
def pw_okB (y : MethodName) (M : pw_M) (n : Nat) : Prop := Cond.initialized y.cls ∈ pw_tb ∧ Cond.code y M.2.1 M.2.2.1 M.2.2.2 ∈ pw_tb ∧ (y.cls ≠ "java/lang/invoke/MethodHandle" ∧ y.cls ≠ "java/lang/invoke/VarHandle" ∧ (parseMethodDescriptor y.desc).map (fun d => d.parameters.length) = some n) ∧ M.2.2.1 ≤ 40
def pw_okV (y : MethodName) (M : pw_M) (n : Nat) : Prop := pw_okB y M n ∧ Cond.instanceMethod y ∈ pw_tb ∧ Cond.selects y.cls y y ∈ pw_tb
def pw_okS (y : MethodName) (M : pw_M) (n : Nat) : Prop := pw_okB y M n ∧ Cond.static y ∈ pw_tb
theorem pw_blind {D : va_G} {ad : Nat → Nat} {cI cZ cE : ClassId} {sz : Nat} {vs : List Value} {mm : pw_m} : FrameBlind (pw_Pc D ad cI cZ cE sz vs mm) := by
  intro a U g mk q
  obtain ⟨q0, q1, q2, q3, q4, q5, q6⟩ := q
  exact ⟨q0, q1, q2, va_K.moved (u := U) (U := U.calling g mk a) (Vm.Alike.refl U.vm) q3, q4, pw_T.moved (u := U) (U := U.calling g mk a) (Vm.Alike.refl U.vm) q5, pw_N.same (u := U) (U := U.calling g mk a) rfl q6⟩
theorem pw_fr {A : Nat → Prop} {ws : va_W} {H0 H : Heap} {locs : List Loc} (hD : va_D A ws) (hS : va_S A H0 H locs) (hA : ∀ q, H0.size ≤ q → A q) : ∀ q, va_A ws H.size q → A q := by
  intro q h
  rcases h with ⟨k, e, h⟩ | h
  · exact hD.2 k _ h
  · exact hA q (Nat.le_trans hS.1 h)
section PWC
variable {p : Program} {l : Launch} {e : Env} {R : Room} {s : State} {m : MethodId} {args : Array Value} {below : List Frame} {meth : Method} {c : Code} {D : va_G} {ad : Nat → Nat} {cI cZ cE : ClassId} {A : Nat → Prop} {X : Nat × (Nat → Int32)} {nc ns : Nat}
theorem pw_pre {M : pw_M} {d : Nat} {mm : pw_m} {H : Heap} {locs : List Loc} (hC : pw_C (p, l, e, R, s, m, args, below, meth, c, D, ad, (cI, cZ, cE), A, X, (nc, ns)) M d) (hH : pw_H (p, l, e, R, s, m, args, below, meth, c, D, ad, (cI, cZ, cE), A, X, (nc, ns)) mm H locs) (vs : List Value) : ∀ U : State, U.heap = H → s.WarmedH U.vm → pw_Pc D ad cI cZ cE H.size vs mm (vs.map (pw_tv ad)).toArray U := by
  intro U hU hW
  have hF := pw_fr hH.2.1 hH.2.2 hC.2.2.2.2.2.2.2.2.2.2.1
  refine ⟨rfl, by rw [hU], by rw [hU]; exact hH.1, va_K.moved hW.alike hC.2.2.2.2.2.2.2.2.1, hH.2.1.weaken (fun _ _ _ _ => trivial), ?_, pw_N.warm hW hC.2.2.2.2.2.2.2.2.2.2.2⟩
  rw [hU]
  exact (((hC.2.2.2.2.2.2.2.2.2.1.kept hH.2.2.2.1).narrow hF).moved hW.alike).noX _
theorem pw_cont {M : pw_M} {d : Nat} {Z : State → Prop} {mm : pw_m} {H : Heap} {locs : List Loc} {pc : Nat} {ls : Array Slot} {st0 rest : List Value} {a : Array Value} {Q1 : Option Value → pw_m → Prop} (hC : pw_C (p, l, e, R, s, m, args, below, meth, c, D, ad, (cI, cZ, cE), A, X, (nc, ns)) M d) (hH : pw_H (p, l, e, R, s, m, args, below, meth, c, D, ad, (cI, cZ, cE), A, X, (nc, ns)) mm H locs)
    (hr : va_Run p l e R s m args below meth c H locs nc ns 0 0 (F0 m pc ls st0) (rest.map (pw_tv ad)) (pw_qq D ad cI cZ cE (va_A (pw_cs ad cI cZ cE mm) H.size) Q1 a) (va_A (pw_cs ad cI cZ cE mm) H.size))
    (kk : ∀ (r : Option Value) (m' : pw_m) (H1 : Heap) (locs1 : List Loc), Q1 r m' → pw_H (p, l, e, R, s, m, args, below, meth, c, D, ad, (cI, cZ, cE), A, X, (nc, ns)) m' H1 locs1 → W p l e R s m args below meth c H1 locs1 nc ns Z (F0 m (pc + 3) ls ((r.toList ++ rest).map (pw_tv ad)))) : W p l e R s m args below meth c H locs nc ns Z (F0 m pc ls st0) := by
  have hF := pw_fr hH.2.1 hH.2.2 hC.2.2.2.2.2.2.2.2.2.2.1
  have hS := hH.2.2
  intro T hT X0
  obtain ⟨v, st₀, t, T', L, h0, X', hL, e1, e2, ⟨⟨r, m', hv, hq, hP, hK, hD⟩, hz, hk⟩, st⟩ := hr T hT X0
  cases hv
  rw [h0] at hz hk
  obtain ⟨t2, a1, b1⟩ := kk r m' T'.heap (locs ++ L) hq ⟨by rw [e1]; exact hP, hD.weaken (fun _ q _ h => hF q.1 h), ⟨Nat.le_trans hS.1 (by rw [e1]; exact hz), fun q h1 h2 => by rw [e1, hk q (Nat.lt_of_lt_of_le h1 hS.1) (fun z => h2 (hF q z))]; exact hS.2.1 q h1 h2, fun q hq => by
      rcases List.mem_append.mp hq with h | h
      · exact hS.2.2 q h
      · exact hF _ (hL q h)⟩⟩ T' rfl X'
  refine ⟨t2, st t2 ?_, b1⟩
  have hm : (r.toList ++ rest).map (pw_tv ad) = (r.map (pw_tv ad)).toList ++ rest.map (pw_tv ad) := by cases r <;> simp
  rw [hm] at a1
  exact a1
end PWC
section PWD
variable {x : pw_X} {M M1 : pw_M} {d h n idx : Nat} {Z : State → Prop} {pc : Nat} {lv : List (Nat × Value)} {rest : List Value} {mm : pw_m} {y : MethodName} {Q1 : Option Value → pw_m → Prop}
theorem pw_cV (hok : pw_okV y M1 n) {c : Nat} {o : Nat × List (Option Nat)} {q : vw_C} {vs : List Value} (hct : pw_Ct h y M1 (.ref c :: vs) mm Q1) (hlink : Cond.methodLink (pw_on M.1) idx y ∈ pw_tb) (hs : pw_shp c = some (.inl o)) (hc : vwCl[o.1]? = some q) (hq : q.1 = y.cls) (hn : vs.length = n) (hh : h + 1 ≤ d) (hW : (rest.map fun v => v.category).sum ≤ 8) (hd : decode M.2.1 pc = .ok (.invokevirtual idx, 3))
    (hk : ∀ (r : Option Value) (m' : pw_m), Q1 r m' → pw_V x M d Z (pc + 3) lv (r.toList ++ rest) m') : pw_V x M d Z pc lv (vs.reverse ++ .ref c :: rest) mm := by
  obtain ⟨p, l, ee, R, s, m, args, below, meth, cc, D, ad, ⟨cI, cZ, cE⟩, A, X, nc, ns⟩ := x
  intro hC H locs hH ls hl
  obtain ⟨⟨o1, o2, o3, o4⟩, o5, o6⟩ := hok
  have hG : GoodIn pw_tb (wsV (pw_on M.1) idx y.cls y (pw_ws y M1)) := pw_gi (fun w hw => by
    rcases List.mem_append.mp hw with h1 | h1
    · simp only [List.mem_cons, List.not_mem_nil, or_false] at h1
      rcases h1 with rfl | rfl | rfl | rfl
      · exact hlink
      · exact o5
      · exact o6
      · exact o1
    · rcases List.mem_cons.mp h1 with rfl | h1
      · exact o2
      · exact h1)
  have hRR := hC.2.2.2.2.2.2.2.1
  have cw : CallW R s args (pw_on M.1) y.cls idx y M1.2.1 M1.2.2.1 M1.2.2.2 (pw_ws y M1) (pw_rm h) 0 0 n := cwV n hC.2.2.2.2.1 hG rfl rfl rfl ⟨rfl, o3⟩ ⟨Nat.le_trans hh hRR.1, Nat.le_trans (by show 8 + (M1.2.2.1 + 11) + 64 * h ≤ 64 * d; omega) hRR.2.1⟩
  have hrec := va_recv hC.2.2.2.2.2.2.2.2.1 hH.1 (ci := o.1) (q0 := c) hc ((pw_cs_at (pw_shp_lt hs)).trans (by rw [pw_cel_o hs]))
  rw [hq] at hrec
  have hr := va_runV (e := ee) (g := F0 m pc ls ((vs.reverse ++ .ref c :: rest).map (pw_tv ad))) (b := ad c) (As := vs.map (pw_tv ad)) (rest := rest.map (pw_tv ad)) (locs := locs) (cells := nc) (slots := ns) (below := below) (meth := meth) ⟨hC.1, hC.2.1, hC.2.2.1, hC.2.2.2.1, hC.2.2.2.2.1⟩ (hct l D ad cI cZ cE H.size) cw ⟨pw_blind, hrec, pw_pre hC hH (.ref c :: vs)⟩ rfl ((List.length_map _).trans hn) hl.1 (by simp [pw_tv]) (lv_room (by rw [List.map_map]; simpa [Function.comp_def, pw_tv_cat] using hW)) hd ⟨hRR.2.2.1, hRR.2.2.2⟩
  exact pw_cont hC hH hr (fun r m' H1 locs1 h1 h2 => hk r m' h1 hC H1 locs1 h2 ls hl)
theorem pw_cS (hok : pw_okS y M1 n) {vs : List Value} (hct : pw_Ct h y M1 vs mm Q1) (hlink : Cond.methodLink (pw_on M.1) idx y ∈ pw_tb) (hn : vs.length = n) (hh : h + 1 ≤ d) (hW : (rest.map fun v => v.category).sum ≤ 8) (hd : decode M.2.1 pc = .ok (.invokestatic idx, 3))
    (hk : ∀ (r : Option Value) (m' : pw_m), Q1 r m' → pw_V x M d Z (pc + 3) lv (r.toList ++ rest) m') : pw_V x M d Z pc lv (vs.reverse ++ rest) mm := by
  obtain ⟨p, l, ee, R, s, m, args, below, meth, cc, D, ad, ⟨cI, cZ, cE⟩, A, X, nc, ns⟩ := x
  intro hC H locs hH ls hl
  obtain ⟨⟨o1, o2, o3, o4⟩, o5⟩ := hok
  have hG : GoodIn pw_tb (va_wsS (pw_on M.1) idx y (pw_ws y M1)) := pw_gi (fun w hw => by
    rcases List.mem_append.mp hw with h1 | h1
    · simp only [List.mem_cons, List.not_mem_nil, or_false] at h1
      rcases h1 with rfl | rfl | rfl
      · exact hlink
      · exact o5
      · exact o1
    · rcases List.mem_cons.mp h1 with rfl | h1
      · exact o2
      · exact h1)
  have hRR := hC.2.2.2.2.2.2.2.1
  have cw := va_cwS (R := R) (s := s) (args := args) (own := pw_on M.1) (index := idx) (y := y) (bytes := M1.2.1) (maxL := M1.2.2.1) (ret := M1.2.2.2) (ws := pw_ws y M1) (rm := pw_rm h) (mc := 0) (ms := 0) n hC.2.2.2.2.1 hG rfl rfl rfl o3 ⟨Nat.le_trans hh hRR.1, Nat.le_trans (by show 8 + (M1.2.2.1 + 11) + 64 * h ≤ 64 * d; omega) hRR.2.1⟩
  have hr := va_runS (e := ee) (g := F0 m pc ls ((vs.reverse ++ rest).map (pw_tv ad))) (As := vs.map (pw_tv ad)) (rest := rest.map (pw_tv ad)) (locs := locs) (cells := nc) (slots := ns) (below := below) (meth := meth) ⟨hC.1, hC.2.1, hC.2.2.1, hC.2.2.2.1, hC.2.2.2.2.1⟩ (hct l D ad cI cZ cE H.size) cw ⟨pw_blind, pw_pre hC hH vs⟩ rfl ((List.length_map _).trans hn) hl.1 (by simp) (lv_room (by rw [List.map_map]; simpa [Function.comp_def, pw_tv_cat] using hW)) hd ⟨hRR.2.2.1, hRR.2.2.2⟩
  exact pw_cont hC hH hr (fun r m' H1 locs1 h1 h2 => hk r m' h1 hC H1 locs1 h2 ls hl)
theorem pw_cN (hok : pw_okS y M1 n) {vs : List Value} (hct : pw_Ct h y M1 vs mm Q1) {host : String} (hlink : (pw_on M.1, idx, y, host) ∈ pw_nl) (hn : vs.length = n) (hh : h + 1 ≤ d) (hW : (rest.map fun v => v.category).sum ≤ 8) (hd : decode M.2.1 pc = .ok (.invokestatic idx, 3))
    (hk : ∀ (r : Option Value) (m' : pw_m), Q1 r m' → pw_V x M d Z (pc + 3) lv (r.toList ++ rest) m') : pw_V x M d Z pc lv (vs.reverse ++ rest) mm := by
  obtain ⟨p, l, ee, R, s, m, args, below, meth, cc, D, ad, ⟨cI, cZ, cE⟩, A, X, nc, ns⟩ := x
  intro hC H locs hH ls hl
  obtain ⟨⟨o1, o2, o3, o4⟩, o5⟩ := hok
  have hG : GoodIn pw_tb (pw_ws y M1) := pw_gi (fun w hw => by
    rcases List.mem_cons.mp hw with rfl | h1
    · exact o2
    · exact h1)
  have hRR := hC.2.2.2.2.2.2.2.1
  have hN : pw_N s := hC.2.2.2.2.2.2.2.2.2.2.2
  have cw := va_cnB (R := R) (s := s) (args := args) (own := pw_on M.1) (index := idx) (y := y) (host := host) (bytes := M1.2.1) (maxL := M1.2.2.1) (ret := M1.2.2.2) (ws := pw_ws y M1) (rm := pw_rm h) (mc := 0) (ms := 0) n hC.2.2.2.2.1 hG rfl rfl rfl (hN _ hlink) (hC.2.2.2.2.1 _ o1) o3 ⟨Nat.le_trans hh hRR.1, Nat.le_trans (by show 8 + (M1.2.2.1 + 11) + 64 * h ≤ 64 * d; omega) hRR.2.1⟩
  have hr := va_runSN (e := ee) (g := F0 m pc ls ((vs.reverse ++ rest).map (pw_tv ad))) (As := vs.map (pw_tv ad)) (rest := rest.map (pw_tv ad)) (locs := locs) (cells := nc) (slots := ns) (below := below) (meth := meth) ⟨hC.1, hC.2.1, hC.2.2.1, hC.2.2.2.1, hC.2.2.2.2.1⟩ (hct l D ad cI cZ cE H.size) ⟨cw, hC.2.2.2.2.1 _ o5, trivial⟩ ⟨pw_blind, pw_pre hC hH vs⟩ rfl ((List.length_map _).trans hn) hl.1 (by simp) (lv_room (by rw [List.map_map]; simpa [Function.comp_def, pw_tv_cat] using hW)) hd ⟨hRR.2.2.1, hRR.2.2.2⟩
  exact pw_cont hC hH hr (fun r m' H1 locs1 h1 h2 => hk r m' h1 hC H1 locs1 h2 ls hl)
end PWD
end
section
/-! the methods: what the tables say of each, and of each link -/
def m_X7_write : pw_M := (7, cX7_write, 2, (some .int))
theorem k_X7_write : pw_okV yX7_write m_X7_write 1 := ⟨⟨pw_tb_in (i := 67) (by decide +kernel) rfl, pw_tb_in (i := 359) (by decide +kernel) rfl, by decide +kernel, by decide⟩, pw_tb_in (i := 357) (by decide +kernel) rfl, pw_tb_in (i := 358) (by decide +kernel) rfl⟩
def m_X3_add : pw_M := (3, cX3_add, 2, none)
theorem k_X3_add : pw_okV yX3_add m_X3_add 1 := ⟨⟨pw_tb_in (i := 69) (by decide +kernel) rfl, pw_tb_in (i := 363) (by decide +kernel) rfl, by decide +kernel, by decide⟩, pw_tb_in (i := 361) (by decide +kernel) rfl, pw_tb_in (i := 362) (by decide +kernel) rfl⟩
def m_X7_erase : pw_M := (7, cX7_erase, 2, (some .int))
theorem k_X7_erase : pw_okV yX7_erase m_X7_erase 0 := ⟨⟨pw_tb_in (i := 67) (by decide +kernel) rfl, pw_tb_in (i := 367) (by decide +kernel) rfl, by decide +kernel, by decide⟩, pw_tb_in (i := 365) (by decide +kernel) rfl, pw_tb_in (i := 366) (by decide +kernel) rfl⟩
def m_X7_fault : pw_M := (7, cX7_fault, 1, (some .int))
theorem k_X7_fault : pw_okV yX7_fault m_X7_fault 0 := ⟨⟨pw_tb_in (i := 67) (by decide +kernel) rfl, pw_tb_in (i := 371) (by decide +kernel) rfl, by decide +kernel, by decide⟩, pw_tb_in (i := 369) (by decide +kernel) rfl, pw_tb_in (i := 370) (by decide +kernel) rfl⟩
def m_X2_read : pw_M := (2, cX2_read, 4, (some .int))
theorem k_X2_read : pw_okV yX2_read m_X2_read 2 := ⟨⟨pw_tb_in (i := 68) (by decide +kernel) rfl, pw_tb_in (i := 375) (by decide +kernel) rfl, by decide +kernel, by decide⟩, pw_tb_in (i := 373) (by decide +kernel) rfl, pw_tb_in (i := 374) (by decide +kernel) rfl⟩
def m_X3_rewind : pw_M := (3, cX3_rewind, 1, none)
theorem k_X3_rewind : pw_okV yX3_rewind m_X3_rewind 0 := ⟨⟨pw_tb_in (i := 69) (by decide +kernel) rfl, pw_tb_in (i := 379) (by decide +kernel) rfl, by decide +kernel, by decide⟩, pw_tb_in (i := 377) (by decide +kernel) rfl, pw_tb_in (i := 378) (by decide +kernel) rfl⟩
def m_X2_readClause : pw_M := (2, cX2_readClause, 2, (some .boolean))
theorem k_X2_readClause : pw_okV yX2_readClause m_X2_readClause 0 := ⟨⟨pw_tb_in (i := 68) (by decide +kernel) rfl, pw_tb_in (i := 383) (by decide +kernel) rfl, by decide +kernel, by decide⟩, pw_tb_in (i := 382) (by decide +kernel) rfl, pw_tb_in (i := 0) (by decide +kernel) rfl⟩
def m_X3_advance : pw_M := (3, cX3_advance, 2, none)
theorem k_X3_advance : pw_okV yX3_advance m_X3_advance 0 := ⟨⟨pw_tb_in (i := 69) (by decide +kernel) rfl, pw_tb_in (i := 387) (by decide +kernel) rfl, by decide +kernel, by decide⟩, pw_tb_in (i := 385) (by decide +kernel) rfl, pw_tb_in (i := 386) (by decide +kernel) rfl⟩
def m_X3_tokenOf : pw_M := (3, cX3_tokenOf, 1, (some .int))
theorem k_X3_tokenOf : pw_okS yX3_tokenOf m_X3_tokenOf 1 := ⟨⟨pw_tb_in (i := 69) (by decide +kernel) rfl, pw_tb_in (i := 390) (by decide +kernel) rfl, by decide +kernel, by decide⟩, pw_tb_in (i := 389) (by decide +kernel) rfl⟩
def m_X2_wordThatStandsHere : pw_M := (2, cX2_wordThatStandsHere, 5, (some .int))
theorem k_X2_wordThatStandsHere : pw_okV yX2_wordThatStandsHere m_X2_wordThatStandsHere 0 := ⟨⟨pw_tb_in (i := 68) (by decide +kernel) rfl, pw_tb_in (i := 394) (by decide +kernel) rfl, by decide +kernel, by decide⟩, pw_tb_in (i := 393) (by decide +kernel) rfl, pw_tb_in (i := 1) (by decide +kernel) rfl⟩
def m_X2_isKnightWord : pw_M := (2, cX2_isKnightWord, 1, (some .boolean))
theorem k_X2_isKnightWord : pw_okS yX2_isKnightWord m_X2_isKnightWord 1 := ⟨⟨pw_tb_in (i := 68) (by decide +kernel) rfl, pw_tb_in (i := 399) (by decide +kernel) rfl, by decide +kernel, by decide⟩, pw_tb_in (i := 398) (by decide +kernel) rfl⟩
def m_X2_numbersBehind : pw_M := (2, cX2_numbersBehind, 1, (some .int))
theorem k_X2_numbersBehind : pw_okS yX2_numbersBehind m_X2_numbersBehind 1 := ⟨⟨pw_tb_in (i := 68) (by decide +kernel) rfl, pw_tb_in (i := 402) (by decide +kernel) rfl, by decide +kernel, by decide⟩, pw_tb_in (i := 401) (by decide +kernel) rfl⟩
def m_X3_number : pw_M := (3, cX3_number, 3, (some .int))
theorem k_X3_number : pw_okV yX3_number m_X3_number 0 := ⟨⟨pw_tb_in (i := 69) (by decide +kernel) rfl, pw_tb_in (i := 406) (by decide +kernel) rfl, by decide +kernel, by decide⟩, pw_tb_in (i := 404) (by decide +kernel) rfl, pw_tb_in (i := 405) (by decide +kernel) rfl⟩
def m_X2_leastNumber : pw_M := (2, cX2_leastNumber, 1, (some .int))
theorem k_X2_leastNumber : pw_okS yX2_leastNumber m_X2_leastNumber 1 := ⟨⟨pw_tb_in (i := 68) (by decide +kernel) rfl, pw_tb_in (i := 409) (by decide +kernel) rfl, by decide +kernel, by decide⟩, pw_tb_in (i := 408) (by decide +kernel) rfl⟩
def m_X2_mostFirst : pw_M := (2, cX2_mostFirst, 2, (some .int))
theorem k_X2_mostFirst : pw_okV yX2_mostFirst m_X2_mostFirst 1 := ⟨⟨pw_tb_in (i := 68) (by decide +kernel) rfl, pw_tb_in (i := 413) (by decide +kernel) rfl, by decide +kernel, by decide⟩, pw_tb_in (i := 412) (by decide +kernel) rfl, pw_tb_in (i := 2) (by decide +kernel) rfl⟩
def m_X2_mostSecond : pw_M := (2, cX2_mostSecond, 2, (some .int))
theorem k_X2_mostSecond : pw_okV yX2_mostSecond m_X2_mostSecond 1 := ⟨⟨pw_tb_in (i := 68) (by decide +kernel) rfl, pw_tb_in (i := 417) (by decide +kernel) rfl, by decide +kernel, by decide⟩, pw_tb_in (i := 416) (by decide +kernel) rfl, pw_tb_in (i := 3) (by decide +kernel) rfl⟩
def m_X2_tally : pw_M := (2, cX2_tally, 1, none)
theorem k_X2_tally : pw_okV yX2_tally m_X2_tally 0 := ⟨⟨pw_tb_in (i := 68) (by decide +kernel) rfl, pw_tb_in (i := 421) (by decide +kernel) rfl, by decide +kernel, by decide⟩, pw_tb_in (i := 420) (by decide +kernel) rfl, pw_tb_in (i := 4) (by decide +kernel) rfl⟩
def m_X5_obey : pw_M := (5, cX5_obey, 4, none)
theorem k_X5_obey : pw_okV yX5_obey m_X5_obey 3 := ⟨⟨pw_tb_in (i := 70) (by decide +kernel) rfl, pw_tb_in (i := 425) (by decide +kernel) rfl, by decide +kernel, by decide⟩, pw_tb_in (i := 423) (by decide +kernel) rfl, pw_tb_in (i := 424) (by decide +kernel) rfl⟩
def m_X5_layTable : pw_M := (5, cX5_layTable, 3, none)
theorem k_X5_layTable : pw_okV yX5_layTable m_X5_layTable 1 := ⟨⟨pw_tb_in (i := 70) (by decide +kernel) rfl, pw_tb_in (i := 429) (by decide +kernel) rfl, by decide +kernel, by decide⟩, pw_tb_in (i := 428) (by decide +kernel) rfl, pw_tb_in (i := 5) (by decide +kernel) rfl⟩
def m_X5_makePeace : pw_M := (5, cX5_makePeace, 2, none)
theorem k_X5_makePeace : pw_okV yX5_makePeace m_X5_makePeace 0 := ⟨⟨pw_tb_in (i := 70) (by decide +kernel) rfl, pw_tb_in (i := 433) (by decide +kernel) rfl, by decide +kernel, by decide⟩, pw_tb_in (i := 432) (by decide +kernel) rfl, pw_tb_in (i := 6) (by decide +kernel) rfl⟩
def m_X5_nameSeat : pw_M := (5, cX5_nameSeat, 4, none)
theorem k_X5_nameSeat : pw_okV yX5_nameSeat m_X5_nameSeat 3 := ⟨⟨pw_tb_in (i := 70) (by decide +kernel) rfl, pw_tb_in (i := 437) (by decide +kernel) rfl, by decide +kernel, by decide⟩, pw_tb_in (i := 436) (by decide +kernel) rfl, pw_tb_in (i := 7) (by decide +kernel) rfl⟩
def m_X5_addKnight : pw_M := (5, cX5_addKnight, 4, none)
theorem k_X5_addKnight : pw_okV yX5_addKnight m_X5_addKnight 3 := ⟨⟨pw_tb_in (i := 70) (by decide +kernel) rfl, pw_tb_in (i := 441) (by decide +kernel) rfl, by decide +kernel, by decide⟩, pw_tb_in (i := 440) (by decide +kernel) rfl, pw_tb_in (i := 8) (by decide +kernel) rfl⟩
def m_X5_makeEnemies : pw_M := (5, cX5_makeEnemies, 3, none)
theorem k_X5_makeEnemies : pw_okV yX5_makeEnemies m_X5_makeEnemies 2 := ⟨⟨pw_tb_in (i := 70) (by decide +kernel) rfl, pw_tb_in (i := 445) (by decide +kernel) rfl, by decide +kernel, by decide⟩, pw_tb_in (i := 444) (by decide +kernel) rfl, pw_tb_in (i := 9) (by decide +kernel) rfl⟩
def m_X3_isSemicolon : pw_M := (3, cX3_isSemicolon, 1, (some .boolean))
theorem k_X3_isSemicolon : pw_okV yX3_isSemicolon m_X3_isSemicolon 0 := ⟨⟨pw_tb_in (i := 69) (by decide +kernel) rfl, pw_tb_in (i := 449) (by decide +kernel) rfl, by decide +kernel, by decide⟩, pw_tb_in (i := 447) (by decide +kernel) rfl, pw_tb_in (i := 448) (by decide +kernel) rfl⟩
def m_X7_table : pw_M := (7, cX7_table, 1, (some .int))
theorem k_X7_table : pw_okV yX7_table m_X7_table 0 := ⟨⟨pw_tb_in (i := 67) (by decide +kernel) rfl, pw_tb_in (i := 453) (by decide +kernel) rfl, by decide +kernel, by decide⟩, pw_tb_in (i := 451) (by decide +kernel) rfl, pw_tb_in (i := 452) (by decide +kernel) rfl⟩
def m_X0_begin : pw_M := (0, cX0_begin, 3, none)
theorem k_X0_begin : pw_okV yX0_begin m_X0_begin 1 := ⟨⟨pw_tb_in (i := 71) (by decide +kernel) rfl, pw_tb_in (i := 457) (by decide +kernel) rfl, by decide +kernel, by decide⟩, pw_tb_in (i := 455) (by decide +kernel) rfl, pw_tb_in (i := 456) (by decide +kernel) rfl⟩
def m_X0_allRise : pw_M := (0, cX0_allRise, 2, none)
theorem k_X0_allRise : pw_okV yX0_allRise m_X0_allRise 0 := ⟨⟨pw_tb_in (i := 71) (by decide +kernel) rfl, pw_tb_in (i := 461) (by decide +kernel) rfl, by decide +kernel, by decide⟩, pw_tb_in (i := 459) (by decide +kernel) rfl, pw_tb_in (i := 460) (by decide +kernel) rfl⟩
def m_X1_clear : pw_M := (1, cX1_clear, 1, none)
theorem k_X1_clear : pw_okV yX1_clear m_X1_clear 0 := ⟨⟨pw_tb_in (i := 72) (by decide +kernel) rfl, pw_tb_in (i := 465) (by decide +kernel) rfl, by decide +kernel, by decide⟩, pw_tb_in (i := 463) (by decide +kernel) rfl, pw_tb_in (i := 464) (by decide +kernel) rfl⟩
def m_X7_seat : pw_M := (7, cX7_seat, 3, (some .int))
theorem k_X7_seat : pw_okV yX7_seat m_X7_seat 2 := ⟨⟨pw_tb_in (i := 67) (by decide +kernel) rfl, pw_tb_in (i := 469) (by decide +kernel) rfl, by decide +kernel, by decide⟩, pw_tb_in (i := 467) (by decide +kernel) rfl, pw_tb_in (i := 468) (by decide +kernel) rfl⟩
def m_X7_isSeat : pw_M := (7, cX7_isSeat, 2, (some .boolean))
theorem k_X7_isSeat : pw_okV yX7_isSeat m_X7_isSeat 1 := ⟨⟨pw_tb_in (i := 67) (by decide +kernel) rfl, pw_tb_in (i := 473) (by decide +kernel) rfl, by decide +kernel, by decide⟩, pw_tb_in (i := 472) (by decide +kernel) rfl, pw_tb_in (i := 10) (by decide +kernel) rfl⟩
def m_X0_whoSitsOn : pw_M := (0, cX0_whoSitsOn, 3, (some .int))
theorem k_X0_whoSitsOn : pw_okV yX0_whoSitsOn m_X0_whoSitsOn 1 := ⟨⟨pw_tb_in (i := 71) (by decide +kernel) rfl, pw_tb_in (i := 477) (by decide +kernel) rfl, by decide +kernel, by decide⟩, pw_tb_in (i := 475) (by decide +kernel) rfl, pw_tb_in (i := 476) (by decide +kernel) rfl⟩
def m_X5_perilOn : pw_M := (5, cX5_perilOn, 2, (some .int))
theorem k_X5_perilOn : pw_okV yX5_perilOn m_X5_perilOn 1 := ⟨⟨pw_tb_in (i := 70) (by decide +kernel) rfl, pw_tb_in (i := 481) (by decide +kernel) rfl, by decide +kernel, by decide⟩, pw_tb_in (i := 479) (by decide +kernel) rfl, pw_tb_in (i := 480) (by decide +kernel) rfl⟩
def m_X5_perilFrom : pw_M := (5, cX5_perilFrom, 4, (some .int))
theorem k_X5_perilFrom : pw_okV yX5_perilFrom m_X5_perilFrom 3 := ⟨⟨pw_tb_in (i := 70) (by decide +kernel) rfl, pw_tb_in (i := 485) (by decide +kernel) rfl, by decide +kernel, by decide⟩, pw_tb_in (i := 483) (by decide +kernel) rfl, pw_tb_in (i := 484) (by decide +kernel) rfl⟩
def m_X7_knight : pw_M := (7, cX7_knight, 3, (some .int))
theorem k_X7_knight : pw_okV yX7_knight m_X7_knight 2 := ⟨⟨pw_tb_in (i := 67) (by decide +kernel) rfl, pw_tb_in (i := 489) (by decide +kernel) rfl, by decide +kernel, by decide⟩, pw_tb_in (i := 487) (by decide +kernel) rfl, pw_tb_in (i := 488) (by decide +kernel) rfl⟩
def m_X7_isKnight : pw_M := (7, cX7_isKnight, 2, (some .boolean))
theorem k_X7_isKnight : pw_okV yX7_isKnight m_X7_isKnight 1 := ⟨⟨pw_tb_in (i := 67) (by decide +kernel) rfl, pw_tb_in (i := 493) (by decide +kernel) rfl, by decide +kernel, by decide⟩, pw_tb_in (i := 492) (by decide +kernel) rfl, pw_tb_in (i := 11) (by decide +kernel) rfl⟩
def m_X7_has : pw_M := (7, cX7_has, 2, (some .boolean))
theorem k_X7_has : pw_okS yX7_has m_X7_has 2 := ⟨⟨pw_tb_in (i := 67) (by decide +kernel) rfl, pw_tb_in (i := 496) (by decide +kernel) rfl, by decide +kernel, by decide⟩, pw_tb_in (i := 495) (by decide +kernel) rfl⟩
def m_X7_as : pw_M := (7, cX7_as, 5, (some .int))
theorem k_X7_as : pw_okV yX7_as m_X7_as 2 := ⟨⟨pw_tb_in (i := 67) (by decide +kernel) rfl, pw_tb_in (i := 500) (by decide +kernel) rfl, by decide +kernel, by decide⟩, pw_tb_in (i := 498) (by decide +kernel) rfl, pw_tb_in (i := 499) (by decide +kernel) rfl⟩
def m_X7_isOfKind : pw_M := (7, cX7_isOfKind, 5, (some .boolean))
theorem k_X7_isOfKind : pw_okS yX7_isOfKind m_X7_isOfKind 3 := ⟨⟨pw_tb_in (i := 67) (by decide +kernel) rfl, pw_tb_in (i := 505) (by decide +kernel) rfl, by decide +kernel, by decide⟩, pw_tb_in (i := 504) (by decide +kernel) rfl⟩
def m_X7_fitsNow : pw_M := (7, cX7_fitsNow, 3, (some .boolean))
theorem k_X7_fitsNow : pw_okV yX7_fitsNow m_X7_fitsNow 2 := ⟨⟨pw_tb_in (i := 67) (by decide +kernel) rfl, pw_tb_in (i := 509) (by decide +kernel) rfl, by decide +kernel, by decide⟩, pw_tb_in (i := 508) (by decide +kernel) rfl, pw_tb_in (i := 12) (by decide +kernel) rfl⟩
def m_X5_fits : pw_M := (5, cX5_fits, 4, (some .boolean))
theorem k_X5_fits : pw_okV yX5_fits m_X5_fits 3 := ⟨⟨pw_tb_in (i := 70) (by decide +kernel) rfl, pw_tb_in (i := 513) (by decide +kernel) rfl, by decide +kernel, by decide⟩, pw_tb_in (i := 511) (by decide +kernel) rfl, pw_tb_in (i := 512) (by decide +kernel) rfl⟩
def m_X7_seatAs : pw_M := (7, cX7_seatAs, 5, (some .int))
theorem k_X7_seatAs : pw_okV yX7_seatAs m_X7_seatAs 2 := ⟨⟨pw_tb_in (i := 67) (by decide +kernel) rfl, pw_tb_in (i := 517) (by decide +kernel) rfl, by decide +kernel, by decide⟩, pw_tb_in (i := 515) (by decide +kernel) rfl, pw_tb_in (i := 516) (by decide +kernel) rfl⟩
def m_X7_sit : pw_M := (7, cX7_sit, 3, (some .int))
theorem k_X7_sit : pw_okV yX7_sit m_X7_sit 2 := ⟨⟨pw_tb_in (i := 67) (by decide +kernel) rfl, pw_tb_in (i := 523) (by decide +kernel) rfl, by decide +kernel, by decide⟩, pw_tb_in (i := 521) (by decide +kernel) rfl, pw_tb_in (i := 522) (by decide +kernel) rfl⟩
def m_X1_remember : pw_M := (1, cX1_remember, 2, none)
theorem k_X1_remember : pw_okV yX1_remember m_X1_remember 1 := ⟨⟨pw_tb_in (i := 72) (by decide +kernel) rfl, pw_tb_in (i := 527) (by decide +kernel) rfl, by decide +kernel, by decide⟩, pw_tb_in (i := 525) (by decide +kernel) rfl, pw_tb_in (i := 526) (by decide +kernel) rfl⟩
def m_X0_copy : pw_M := (0, cX0_copy, 3, none)
theorem k_X0_copy : pw_okV yX0_copy m_X0_copy 1 := ⟨⟨pw_tb_in (i := 71) (by decide +kernel) rfl, pw_tb_in (i := 531) (by decide +kernel) rfl, by decide +kernel, by decide⟩, pw_tb_in (i := 529) (by decide +kernel) rfl, pw_tb_in (i := 530) (by decide +kernel) rfl⟩
def m_J9_min_7cf53 : pw_M := (11, cJ9_min_7cf53, 2, (some .int))
theorem k_J9_min_7cf53 : pw_okS yJ9_min_7cf53 m_J9_min_7cf53 2 := ⟨⟨pw_tb_in (i := 76) (by decide +kernel) rfl, pw_tb_in (i := 534) (by decide +kernel) rfl, by decide +kernel, by decide⟩, pw_tb_in (i := 533) (by decide +kernel) rfl⟩
def m_X0_whoSit : pw_M := (0, cX0_whoSit, 3, (some .int))
theorem k_X0_whoSit : pw_okV yX0_whoSit m_X0_whoSit 0 := ⟨⟨pw_tb_in (i := 71) (by decide +kernel) rfl, pw_tb_in (i := 538) (by decide +kernel) rfl, by decide +kernel, by decide⟩, pw_tb_in (i := 536) (by decide +kernel) rfl, pw_tb_in (i := 537) (by decide +kernel) rfl⟩
def m_J6_bitCount_0f7a4 : pw_M := (10, cJ6_bitCount_0f7a4, 1, (some .int))
theorem k_J6_bitCount_0f7a4 : pw_okS yJ6_bitCount_0f7a4 m_J6_bitCount_0f7a4 1 := ⟨⟨pw_tb_in (i := 77) (by decide +kernel) rfl, pw_tb_in (i := 541) (by decide +kernel) rfl, by decide +kernel, by decide⟩, pw_tb_in (i := 540) (by decide +kernel) rfl⟩
def m_X7_rise : pw_M := (7, cX7_rise, 2, (some .int))
theorem k_X7_rise : pw_okV yX7_rise m_X7_rise 0 := ⟨⟨pw_tb_in (i := 67) (by decide +kernel) rfl, pw_tb_in (i := 548) (by decide +kernel) rfl, by decide +kernel, by decide⟩, pw_tb_in (i := 546) (by decide +kernel) rfl, pw_tb_in (i := 547) (by decide +kernel) rfl⟩
def m_X7_tell : pw_M := (7, cX7_tell, 3, (some .int))
theorem k_X7_tell : pw_okV yX7_tell m_X7_tell 2 := ⟨⟨pw_tb_in (i := 67) (by decide +kernel) rfl, pw_tb_in (i := 553) (by decide +kernel) rfl, by decide +kernel, by decide⟩, pw_tb_in (i := 551) (by decide +kernel) rfl, pw_tb_in (i := 552) (by decide +kernel) rfl⟩
def m_X7_isNews : pw_M := (7, cX7_isNews, 1, (some .boolean))
theorem k_X7_isNews : pw_okS yX7_isNews m_X7_isNews 1 := ⟨⟨pw_tb_in (i := 67) (by decide +kernel) rfl, pw_tb_in (i := 556) (by decide +kernel) rfl, by decide +kernel, by decide⟩, pw_tb_in (i := 555) (by decide +kernel) rfl⟩
def m_X7_feast : pw_M := (7, cX7_feast, 2, (some .int))
theorem k_X7_feast : pw_okV yX7_feast m_X7_feast 0 := ⟨⟨pw_tb_in (i := 67) (by decide +kernel) rfl, pw_tb_in (i := 560) (by decide +kernel) rfl, by decide +kernel, by decide⟩, pw_tb_in (i := 558) (by decide +kernel) rfl, pw_tb_in (i := 559) (by decide +kernel) rfl⟩
def m_X7_whoIsWrong : pw_M := (7, cX7_whoIsWrong, 4, (some .int))
theorem k_X7_whoIsWrong : pw_okV yX7_whoIsWrong m_X7_whoIsWrong 0 := ⟨⟨pw_tb_in (i := 67) (by decide +kernel) rfl, pw_tb_in (i := 564) (by decide +kernel) rfl, by decide +kernel, by decide⟩, pw_tb_in (i := 563) (by decide +kernel) rfl, pw_tb_in (i := 13) (by decide +kernel) rfl⟩
def m_X7_isInPeril : pw_M := (7, cX7_isInPeril, 3, (some .boolean))
theorem k_X7_isInPeril : pw_okV yX7_isInPeril m_X7_isInPeril 2 := ⟨⟨pw_tb_in (i := 67) (by decide +kernel) rfl, pw_tb_in (i := 568) (by decide +kernel) rfl, by decide +kernel, by decide⟩, pw_tb_in (i := 567) (by decide +kernel) rfl, pw_tb_in (i := 14) (by decide +kernel) rfl⟩
def m_X7_changeRenown : pw_M := (7, cX7_changeRenown, 5, none)
theorem k_X7_changeRenown : pw_okV yX7_changeRenown m_X7_changeRenown 1 := ⟨⟨pw_tb_in (i := 67) (by decide +kernel) rfl, pw_tb_in (i := 572) (by decide +kernel) rfl, by decide +kernel, by decide⟩, pw_tb_in (i := 571) (by decide +kernel) rfl, pw_tb_in (i := 15) (by decide +kernel) rfl⟩
def m_X7_whoSitsBehind : pw_M := (7, cX7_whoSitsBehind, 2, (some .int))
theorem k_X7_whoSitsBehind : pw_okV yX7_whoSitsBehind m_X7_whoSitsBehind 1 := ⟨⟨pw_tb_in (i := 67) (by decide +kernel) rfl, pw_tb_in (i := 576) (by decide +kernel) rfl, by decide +kernel, by decide⟩, pw_tb_in (i := 575) (by decide +kernel) rfl, pw_tb_in (i := 16) (by decide +kernel) rfl⟩
def m_X7_behind : pw_M := (7, cX7_behind, 2, (some .int))
theorem k_X7_behind : pw_okS yX7_behind m_X7_behind 2 := ⟨⟨pw_tb_in (i := 67) (by decide +kernel) rfl, pw_tb_in (i := 579) (by decide +kernel) rfl, by decide +kernel, by decide⟩, pw_tb_in (i := 578) (by decide +kernel) rfl⟩
def m_X7_areEnemies : pw_M := (7, cX7_areEnemies, 3, (some .boolean))
theorem k_X7_areEnemies : pw_okV yX7_areEnemies m_X7_areEnemies 2 := ⟨⟨pw_tb_in (i := 67) (by decide +kernel) rfl, pw_tb_in (i := 583) (by decide +kernel) rfl, by decide +kernel, by decide⟩, pw_tb_in (i := 582) (by decide +kernel) rfl, pw_tb_in (i := 17) (by decide +kernel) rfl⟩
def m_X7_ahead : pw_M := (7, cX7_ahead, 2, (some .int))
theorem k_X7_ahead : pw_okS yX7_ahead m_X7_ahead 2 := ⟨⟨pw_tb_in (i := 67) (by decide +kernel) rfl, pw_tb_in (i := 586) (by decide +kernel) rfl, by decide +kernel, by decide⟩, pw_tb_in (i := 585) (by decide +kernel) rfl⟩
def m_J9_max_7cf53 : pw_M := (11, cJ9_max_7cf53, 2, (some .int))
theorem k_J9_max_7cf53 : pw_okS yJ9_max_7cf53 m_J9_max_7cf53 2 := ⟨⟨pw_tb_in (i := 76) (by decide +kernel) rfl, pw_tb_in (i := 589) (by decide +kernel) rfl, by decide +kernel, by decide⟩, pw_tb_in (i := 588) (by decide +kernel) rfl⟩
def m_X7_spreadNews : pw_M := (7, cX7_spreadNews, 4, none)
theorem k_X7_spreadNews : pw_okV yX7_spreadNews m_X7_spreadNews 0 := ⟨⟨pw_tb_in (i := 67) (by decide +kernel) rfl, pw_tb_in (i := 594) (by decide +kernel) rfl, by decide +kernel, by decide⟩, pw_tb_in (i := 593) (by decide +kernel) rfl, pw_tb_in (i := 18) (by decide +kernel) rfl⟩
def m_X7_undo : pw_M := (7, cX7_undo, 1, (some .int))
theorem k_X7_undo : pw_okV yX7_undo m_X7_undo 0 := ⟨⟨pw_tb_in (i := 67) (by decide +kernel) rfl, pw_tb_in (i := 598) (by decide +kernel) rfl, by decide +kernel, by decide⟩, pw_tb_in (i := 596) (by decide +kernel) rfl, pw_tb_in (i := 597) (by decide +kernel) rfl⟩
def m_X1_recall : pw_M := (1, cX1_recall, 2, none)
theorem k_X1_recall : pw_okV yX1_recall m_X1_recall 1 := ⟨⟨pw_tb_in (i := 72) (by decide +kernel) rfl, pw_tb_in (i := 602) (by decide +kernel) rfl, by decide +kernel, by decide⟩, pw_tb_in (i := 600) (by decide +kernel) rfl, pw_tb_in (i := 601) (by decide +kernel) rfl⟩
def m_X7_keep : pw_M := (7, cX7_keep, 2, (some .int))
theorem k_X7_keep : pw_okV yX7_keep m_X7_keep 1 := ⟨⟨pw_tb_in (i := 67) (by decide +kernel) rfl, pw_tb_in (i := 606) (by decide +kernel) rfl, by decide +kernel, by decide⟩, pw_tb_in (i := 604) (by decide +kernel) rfl, pw_tb_in (i := 605) (by decide +kernel) rfl⟩
def m_X7_back : pw_M := (7, cX7_back, 2, (some .int))
theorem k_X7_back : pw_okV yX7_back m_X7_back 1 := ⟨⟨pw_tb_in (i := 67) (by decide +kernel) rfl, pw_tb_in (i := 611) (by decide +kernel) rfl, by decide +kernel, by decide⟩, pw_tb_in (i := 609) (by decide +kernel) rfl, pw_tb_in (i := 610) (by decide +kernel) rfl⟩
def m_X7_seatings : pw_M := (7, cX7_seatings, 1, (some .int))
theorem k_X7_seatings : pw_okV yX7_seatings m_X7_seatings 0 := ⟨⟨pw_tb_in (i := 67) (by decide +kernel) rfl, pw_tb_in (i := 615) (by decide +kernel) rfl, by decide +kernel, by decide⟩, pw_tb_in (i := 613) (by decide +kernel) rfl, pw_tb_in (i := 614) (by decide +kernel) rfl⟩
def m_X7_prepareSearch : pw_M := (7, cX7_prepareSearch, 5, none)
theorem k_X7_prepareSearch : pw_okV yX7_prepareSearch m_X7_prepareSearch 1 := ⟨⟨pw_tb_in (i := 67) (by decide +kernel) rfl, pw_tb_in (i := 619) (by decide +kernel) rfl, by decide +kernel, by decide⟩, pw_tb_in (i := 618) (by decide +kernel) rfl, pw_tb_in (i := 19) (by decide +kernel) rfl⟩
def m_X4_ways : pw_M := (4, cX4_ways, 1, (some .int))
theorem k_X4_ways : pw_okV yX4_ways m_X4_ways 0 := ⟨⟨pw_tb_in (i := 74) (by decide +kernel) rfl, pw_tb_in (i := 623) (by decide +kernel) rfl, by decide +kernel, by decide⟩, pw_tb_in (i := 621) (by decide +kernel) rfl, pw_tb_in (i := 622) (by decide +kernel) rfl⟩
def m_X4_waysFrom : pw_M := (4, cX4_waysFrom, 6, (some .int))
theorem k_X4_waysFrom : pw_okV yX4_waysFrom m_X4_waysFrom 2 := ⟨⟨pw_tb_in (i := 74) (by decide +kernel) rfl, pw_tb_in (i := 627) (by decide +kernel) rfl, by decide +kernel, by decide⟩, pw_tb_in (i := 626) (by decide +kernel) rfl, pw_tb_in (i := 20) (by decide +kernel) rfl⟩
def m_X4_freeSeats : pw_M := (4, cX4_freeSeats, 5, (some .int))
theorem k_X4_freeSeats : pw_okV yX4_freeSeats m_X4_freeSeats 2 := ⟨⟨pw_tb_in (i := 74) (by decide +kernel) rfl, pw_tb_in (i := 632) (by decide +kernel) rfl, by decide +kernel, by decide⟩, pw_tb_in (i := 631) (by decide +kernel) rfl, pw_tb_in (i := 21) (by decide +kernel) rfl⟩
def m_X4_besides : pw_M := (4, cX4_besides, 2, (some .int))
theorem k_X4_besides : pw_okV yX4_besides m_X4_besides 1 := ⟨⟨pw_tb_in (i := 74) (by decide +kernel) rfl, pw_tb_in (i := 636) (by decide +kernel) rfl, by decide +kernel, by decide⟩, pw_tb_in (i := 635) (by decide +kernel) rfl, pw_tb_in (i := 22) (by decide +kernel) rfl⟩
def m_X7_seatOf : pw_M := (7, cX7_seatOf, 2, (some .int))
theorem k_X7_seatOf : pw_okV yX7_seatOf m_X7_seatOf 1 := ⟨⟨pw_tb_in (i := 67) (by decide +kernel) rfl, pw_tb_in (i := 643) (by decide +kernel) rfl, by decide +kernel, by decide⟩, pw_tb_in (i := 641) (by decide +kernel) rfl, pw_tb_in (i := 642) (by decide +kernel) rfl⟩
def m_X4_first : pw_M := (4, cX4_first, 1, (some .boolean))
theorem k_X4_first : pw_okV yX4_first m_X4_first 0 := ⟨⟨pw_tb_in (i := 74) (by decide +kernel) rfl, pw_tb_in (i := 647) (by decide +kernel) rfl, by decide +kernel, by decide⟩, pw_tb_in (i := 645) (by decide +kernel) rfl, pw_tb_in (i := 646) (by decide +kernel) rfl⟩
def m_X4_firstFrom : pw_M := (4, cX4_firstFrom, 5, (some .boolean))
theorem k_X4_firstFrom : pw_okV yX4_firstFrom m_X4_firstFrom 2 := ⟨⟨pw_tb_in (i := 74) (by decide +kernel) rfl, pw_tb_in (i := 651) (by decide +kernel) rfl, by decide +kernel, by decide⟩, pw_tb_in (i := 650) (by decide +kernel) rfl, pw_tb_in (i := 23) (by decide +kernel) rfl⟩
def m_X7_moved : pw_M := (7, cX7_moved, 1, (some .int))
theorem k_X7_moved : pw_okV yX7_moved m_X7_moved 0 := ⟨⟨pw_tb_in (i := 67) (by decide +kernel) rfl, pw_tb_in (i := 655) (by decide +kernel) rfl, by decide +kernel, by decide⟩, pw_tb_in (i := 653) (by decide +kernel) rfl, pw_tb_in (i := 654) (by decide +kernel) rfl⟩
def m_X4_fewestAway : pw_M := (4, cX4_fewestAway, 2, (some .int))
theorem k_X4_fewestAway : pw_okV yX4_fewestAway m_X4_fewestAway 0 := ⟨⟨pw_tb_in (i := 74) (by decide +kernel) rfl, pw_tb_in (i := 659) (by decide +kernel) rfl, by decide +kernel, by decide⟩, pw_tb_in (i := 657) (by decide +kernel) rfl, pw_tb_in (i := 658) (by decide +kernel) rfl⟩
def m_X4_fewestFrom : pw_M := (4, cX4_fewestFrom, 9, (some .int))
theorem k_X4_fewestFrom : pw_okV yX4_fewestFrom m_X4_fewestFrom 4 := ⟨⟨pw_tb_in (i := 74) (by decide +kernel) rfl, pw_tb_in (i := 663) (by decide +kernel) rfl, by decide +kernel, by decide⟩, pw_tb_in (i := 662) (by decide +kernel) rfl, pw_tb_in (i := 24) (by decide +kernel) rfl⟩
def m_X7_knows : pw_M := (7, cX7_knows, 2, (some .int))
theorem k_X7_knows : pw_okV yX7_knows m_X7_knows 1 := ⟨⟨pw_tb_in (i := 67) (by decide +kernel) rfl, pw_tb_in (i := 667) (by decide +kernel) rfl, by decide +kernel, by decide⟩, pw_tb_in (i := 665) (by decide +kernel) rfl, pw_tb_in (i := 666) (by decide +kernel) rfl⟩
def m_X7_whoKnows : pw_M := (7, cX7_whoKnows, 4, (some .int))
theorem k_X7_whoKnows : pw_okV yX7_whoKnows m_X7_whoKnows 1 := ⟨⟨pw_tb_in (i := 67) (by decide +kernel) rfl, pw_tb_in (i := 671) (by decide +kernel) rfl, by decide +kernel, by decide⟩, pw_tb_in (i := 670) (by decide +kernel) rfl, pw_tb_in (i := 25) (by decide +kernel) rfl⟩
def m_X4_mostKnow : pw_M := (4, cX4_mostKnow, 2, (some .int))
theorem k_X4_mostKnow : pw_okV yX4_mostKnow m_X4_mostKnow 1 := ⟨⟨pw_tb_in (i := 74) (by decide +kernel) rfl, pw_tb_in (i := 675) (by decide +kernel) rfl, by decide +kernel, by decide⟩, pw_tb_in (i := 673) (by decide +kernel) rfl, pw_tb_in (i := 674) (by decide +kernel) rfl⟩
def m_X4_mostFrom : pw_M := (4, cX4_mostFrom, 9, (some .int))
theorem k_X4_mostFrom : pw_okV yX4_mostFrom m_X4_mostFrom 4 := ⟨⟨pw_tb_in (i := 74) (by decide +kernel) rfl, pw_tb_in (i := 680) (by decide +kernel) rfl, by decide +kernel, by decide⟩, pw_tb_in (i := 679) (by decide +kernel) rfl, pw_tb_in (i := 26) (by decide +kernel) rfl⟩
def m_X4_knowAfterwards : pw_M := (4, cX4_knowAfterwards, 4, (some .int))
theorem k_X4_knowAfterwards : pw_okV yX4_knowAfterwards m_X4_knowAfterwards 2 := ⟨⟨pw_tb_in (i := 74) (by decide +kernel) rfl, pw_tb_in (i := 684) (by decide +kernel) rfl, by decide +kernel, by decide⟩, pw_tb_in (i := 683) (by decide +kernel) rfl, pw_tb_in (i := 27) (by decide +kernel) rfl⟩
def m_X7_judge : pw_M := (7, cX7_judge, 2, (some .int))
theorem k_X7_judge : pw_okV yX7_judge m_X7_judge 1 := ⟨⟨pw_tb_in (i := 67) (by decide +kernel) rfl, pw_tb_in (i := 689) (by decide +kernel) rfl, by decide +kernel, by decide⟩, pw_tb_in (i := 687) (by decide +kernel) rfl, pw_tb_in (i := 688) (by decide +kernel) rfl⟩
def m_X7_quarrels : pw_M := (7, cX7_quarrels, 3, (some .int))
theorem k_X7_quarrels : pw_okV yX7_quarrels m_X7_quarrels 0 := ⟨⟨pw_tb_in (i := 67) (by decide +kernel) rfl, pw_tb_in (i := 693) (by decide +kernel) rfl, by decide +kernel, by decide⟩, pw_tb_in (i := 692) (by decide +kernel) rfl, pw_tb_in (i := 28) (by decide +kernel) rfl⟩
def m_X7_seen : pw_M := (7, cX7_seen, 5, (some .int))
theorem k_X7_seen : pw_okV yX7_seen m_X7_seen 4 := ⟨⟨pw_tb_in (i := 67) (by decide +kernel) rfl, pw_tb_in (i := 697) (by decide +kernel) rfl, by decide +kernel, by decide⟩, pw_tb_in (i := 695) (by decide +kernel) rfl, pw_tb_in (i := 696) (by decide +kernel) rfl⟩
def m_X6_note : pw_M := (6, cX6_note, 5, none)
theorem k_X6_note : pw_okV yX6_note m_X6_note 4 := ⟨⟨pw_tb_in (i := 73) (by decide +kernel) rfl, pw_tb_in (i := 701) (by decide +kernel) rfl, by decide +kernel, by decide⟩, pw_tb_in (i := 699) (by decide +kernel) rfl, pw_tb_in (i := 700) (by decide +kernel) rfl⟩
def m_X7_forget : pw_M := (7, cX7_forget, 2, (some .int))
theorem k_X7_forget : pw_okV yX7_forget m_X7_forget 0 := ⟨⟨pw_tb_in (i := 67) (by decide +kernel) rfl, pw_tb_in (i := 705) (by decide +kernel) rfl, by decide +kernel, by decide⟩, pw_tb_in (i := 703) (by decide +kernel) rfl, pw_tb_in (i := 704) (by decide +kernel) rfl⟩
def m_X7_worlds : pw_M := (7, cX7_worlds, 2, (some .int))
theorem k_X7_worlds : pw_okV yX7_worlds m_X7_worlds 1 := ⟨⟨pw_tb_in (i := 67) (by decide +kernel) rfl, pw_tb_in (i := 709) (by decide +kernel) rfl, by decide +kernel, by decide⟩, pw_tb_in (i := 707) (by decide +kernel) rfl, pw_tb_in (i := 708) (by decide +kernel) rfl⟩
def m_X6_survey : pw_M := (6, cX6_survey, 8, none)
theorem k_X6_survey : pw_okV yX6_survey m_X6_survey 3 := ⟨⟨pw_tb_in (i := 73) (by decide +kernel) rfl, pw_tb_in (i := 713) (by decide +kernel) rfl, by decide +kernel, by decide⟩, pw_tb_in (i := 711) (by decide +kernel) rfl, pw_tb_in (i := 712) (by decide +kernel) rfl⟩
def m_X6_isWorld : pw_M := (6, cX6_isWorld, 7, (some .boolean))
theorem k_X6_isWorld : pw_okV yX6_isWorld m_X6_isWorld 4 := ⟨⟨pw_tb_in (i := 73) (by decide +kernel) rfl, pw_tb_in (i := 718) (by decide +kernel) rfl, by decide +kernel, by decide⟩, pw_tb_in (i := 717) (by decide +kernel) rfl, pw_tb_in (i := 29) (by decide +kernel) rfl⟩
def m_X7_safest : pw_M := (7, cX7_safest, 7, (some .int))
theorem k_X7_safest : pw_okV yX7_safest m_X7_safest 2 := ⟨⟨pw_tb_in (i := 67) (by decide +kernel) rfl, pw_tb_in (i := 722) (by decide +kernel) rfl, by decide +kernel, by decide⟩, pw_tb_in (i := 720) (by decide +kernel) rfl, pw_tb_in (i := 721) (by decide +kernel) rfl⟩
def m_X7_quests : pw_M := (7, cX7_quests, 14, (some .long))
theorem k_X7_quests : pw_okV yX7_quests m_X7_quests 5 := ⟨⟨pw_tb_in (i := 67) (by decide +kernel) rfl, pw_tb_in (i := 726) (by decide +kernel) rfl, by decide +kernel, by decide⟩, pw_tb_in (i := 724) (by decide +kernel) rfl, pw_tb_in (i := 725) (by decide +kernel) rfl⟩
def m_X7_power : pw_M := (7, cX7_power, 5, (some .long))
theorem k_X7_power : pw_okS yX7_power m_X7_power 2 := ⟨⟨pw_tb_in (i := 67) (by decide +kernel) rfl, pw_tb_in (i := 731) (by decide +kernel) rfl, by decide +kernel, by decide⟩, pw_tb_in (i := 730) (by decide +kernel) rfl⟩
def m_X7_commonDivisor : pw_M := (7, cX7_commonDivisor, 11, (some .long))
theorem k_X7_commonDivisor : pw_okS yX7_commonDivisor m_X7_commonDivisor 2 := ⟨⟨pw_tb_in (i := 67) (by decide +kernel) rfl, pw_tb_in (i := 734) (by decide +kernel) rfl, by decide +kernel, by decide⟩, pw_tb_in (i := 733) (by decide +kernel) rfl⟩
def m_X7_lent : pw_M := (7, cX7_lent, 3, (some .int))
theorem k_X7_lent : pw_okV yX7_lent m_X7_lent 1 := ⟨⟨pw_tb_in (i := 67) (by decide +kernel) rfl, pw_tb_in (i := 738) (by decide +kernel) rfl, by decide +kernel, by decide⟩, pw_tb_in (i := 736) (by decide +kernel) rfl, pw_tb_in (i := 737) (by decide +kernel) rfl⟩
def m_X7_count : pw_M := (7, cX7_count, 2, (some .int))
theorem k_X7_count : pw_okV yX7_count m_X7_count 1 := ⟨⟨pw_tb_in (i := 67) (by decide +kernel) rfl, pw_tb_in (i := 742) (by decide +kernel) rfl, by decide +kernel, by decide⟩, pw_tb_in (i := 740) (by decide +kernel) rfl, pw_tb_in (i := 741) (by decide +kernel) rfl⟩
def m_X5_pairsOfEnemies : pw_M := (5, cX5_pairsOfEnemies, 3, (some .int))
theorem k_X5_pairsOfEnemies : pw_okV yX5_pairsOfEnemies m_X5_pairsOfEnemies 0 := ⟨⟨pw_tb_in (i := 70) (by decide +kernel) rfl, pw_tb_in (i := 746) (by decide +kernel) rfl, by decide +kernel, by decide⟩, pw_tb_in (i := 744) (by decide +kernel) rfl, pw_tb_in (i := 745) (by decide +kernel) rfl⟩
def m_X8_begins : pw_M := (8, cX8_begins, 2, none)
theorem k_X8_begins : pw_okV yX8_begins m_X8_begins 0 := ⟨⟨pw_tb_in (i := 75) (by decide +kernel) rfl, pw_tb_in (i := 757) (by decide +kernel) rfl, by decide +kernel, by decide⟩, pw_tb_in (i := 756) (by decide +kernel) rfl, pw_tb_in (i := 30) (by decide +kernel) rfl⟩
def m_X8_write : pw_M := (8, cX8_write, 2, (some .int))
theorem k_X8_write : pw_okV yX8_write m_X8_write 1 := ⟨⟨pw_tb_in (i := 75) (by decide +kernel) rfl, pw_tb_in (i := 876) (by decide +kernel) rfl, by decide +kernel, by decide⟩, pw_tb_in (i := 874) (by decide +kernel) rfl, pw_tb_in (i := 875) (by decide +kernel) rfl⟩
def m_X8_in : pw_M := (8, cX8_in, 3, (some .boolean))
theorem k_X8_in : pw_okS yX8_in m_X8_in 3 := ⟨⟨pw_tb_in (i := 75) (by decide +kernel) rfl, pw_tb_in (i := 879) (by decide +kernel) rfl, by decide +kernel, by decide⟩, pw_tb_in (i := 878) (by decide +kernel) rfl⟩
def m_X8_erase : pw_M := (8, cX8_erase, 2, (some .int))
theorem k_X8_erase : pw_okV yX8_erase m_X8_erase 0 := ⟨⟨pw_tb_in (i := 75) (by decide +kernel) rfl, pw_tb_in (i := 883) (by decide +kernel) rfl, by decide +kernel, by decide⟩, pw_tb_in (i := 881) (by decide +kernel) rfl, pw_tb_in (i := 882) (by decide +kernel) rfl⟩
def m_X8_fault : pw_M := (8, cX8_fault, 1, (some .int))
theorem k_X8_fault : pw_okV yX8_fault m_X8_fault 0 := ⟨⟨pw_tb_in (i := 75) (by decide +kernel) rfl, pw_tb_in (i := 887) (by decide +kernel) rfl, by decide +kernel, by decide⟩, pw_tb_in (i := 885) (by decide +kernel) rfl, pw_tb_in (i := 886) (by decide +kernel) rfl⟩
def m_X8_reads : pw_M := (8, cX8_reads, 2, none)
theorem k_X8_reads : pw_okV yX8_reads m_X8_reads 0 := ⟨⟨pw_tb_in (i := 75) (by decide +kernel) rfl, pw_tb_in (i := 891) (by decide +kernel) rfl, by decide +kernel, by decide⟩, pw_tb_in (i := 890) (by decide +kernel) rfl, pw_tb_in (i := 31) (by decide +kernel) rfl⟩
def m_X8_next : pw_M := (8, cX8_next, 2, none)
theorem k_X8_next : pw_okV yX8_next m_X8_next 0 := ⟨⟨pw_tb_in (i := 75) (by decide +kernel) rfl, pw_tb_in (i := 895) (by decide +kernel) rfl, by decide +kernel, by decide⟩, pw_tb_in (i := 894) (by decide +kernel) rfl, pw_tb_in (i := 32) (by decide +kernel) rfl⟩
def m_X8_letterAt : pw_M := (8, cX8_letterAt, 2, (some .int))
theorem k_X8_letterAt : pw_okV yX8_letterAt m_X8_letterAt 1 := ⟨⟨pw_tb_in (i := 75) (by decide +kernel) rfl, pw_tb_in (i := 899) (by decide +kernel) rfl, by decide +kernel, by decide⟩, pw_tb_in (i := 898) (by decide +kernel) rfl, pw_tb_in (i := 33) (by decide +kernel) rfl⟩
def m_X8_isSmall : pw_M := (8, cX8_isSmall, 1, (some .boolean))
theorem k_X8_isSmall : pw_okS yX8_isSmall m_X8_isSmall 1 := ⟨⟨pw_tb_in (i := 75) (by decide +kernel) rfl, pw_tb_in (i := 902) (by decide +kernel) rfl, by decide +kernel, by decide⟩, pw_tb_in (i := 901) (by decide +kernel) rfl⟩
def m_X8_isFigure : pw_M := (8, cX8_isFigure, 1, (some .boolean))
theorem k_X8_isFigure : pw_okS yX8_isFigure m_X8_isFigure 1 := ⟨⟨pw_tb_in (i := 75) (by decide +kernel) rfl, pw_tb_in (i := 905) (by decide +kernel) rfl, by decide +kernel, by decide⟩, pw_tb_in (i := 904) (by decide +kernel) rfl⟩
def m_X8_readClause : pw_M := (8, cX8_readClause, 3, none)
theorem k_X8_readClause : pw_okV yX8_readClause m_X8_readClause 0 := ⟨⟨pw_tb_in (i := 75) (by decide +kernel) rfl, pw_tb_in (i := 909) (by decide +kernel) rfl, by decide +kernel, by decide⟩, pw_tb_in (i := 908) (by decide +kernel) rfl, pw_tb_in (i := 34) (by decide +kernel) rfl⟩
def m_X8_wordOf : pw_M := (8, cX8_wordOf, 1, (some .int))
theorem k_X8_wordOf : pw_okV yX8_wordOf m_X8_wordOf 0 := ⟨⟨pw_tb_in (i := 75) (by decide +kernel) rfl, pw_tb_in (i := 913) (by decide +kernel) rfl, by decide +kernel, by decide⟩, pw_tb_in (i := 912) (by decide +kernel) rfl, pw_tb_in (i := 35) (by decide +kernel) rfl⟩
def m_X8_spells : pw_M := (8, cX8_spells, 6, (some .boolean))
theorem k_X8_spells : pw_okV yX8_spells m_X8_spells 5 := ⟨⟨pw_tb_in (i := 75) (by decide +kernel) rfl, pw_tb_in (i := 917) (by decide +kernel) rfl, by decide +kernel, by decide⟩, pw_tb_in (i := 916) (by decide +kernel) rfl, pw_tb_in (i := 36) (by decide +kernel) rfl⟩
def m_X8_otherWord : pw_M := (8, cX8_otherWord, 1, (some .int))
theorem k_X8_otherWord : pw_okV yX8_otherWord m_X8_otherWord 0 := ⟨⟨pw_tb_in (i := 75) (by decide +kernel) rfl, pw_tb_in (i := 921) (by decide +kernel) rfl, by decide +kernel, by decide⟩, pw_tb_in (i := 920) (by decide +kernel) rfl, pw_tb_in (i := 37) (by decide +kernel) rfl⟩
def m_X8_readTable : pw_M := (8, cX8_readTable, 2, none)
theorem k_X8_readTable : pw_okV yX8_readTable m_X8_readTable 0 := ⟨⟨pw_tb_in (i := 75) (by decide +kernel) rfl, pw_tb_in (i := 925) (by decide +kernel) rfl, by decide +kernel, by decide⟩, pw_tb_in (i := 924) (by decide +kernel) rfl, pw_tb_in (i := 38) (by decide +kernel) rfl⟩
def m_X8_number : pw_M := (8, cX8_number, 5, (some .int))
theorem k_X8_number : pw_okV yX8_number m_X8_number 2 := ⟨⟨pw_tb_in (i := 75) (by decide +kernel) rfl, pw_tb_in (i := 929) (by decide +kernel) rfl, by decide +kernel, by decide⟩, pw_tb_in (i := 928) (by decide +kernel) rfl, pw_tb_in (i := 39) (by decide +kernel) rfl⟩
def m_X8_laysTable : pw_M := (8, cX8_laysTable, 3, none)
theorem k_X8_laysTable : pw_okV yX8_laysTable m_X8_laysTable 1 := ⟨⟨pw_tb_in (i := 75) (by decide +kernel) rfl, pw_tb_in (i := 933) (by decide +kernel) rfl, by decide +kernel, by decide⟩, pw_tb_in (i := 932) (by decide +kernel) rfl, pw_tb_in (i := 40) (by decide +kernel) rfl⟩
def m_X8_readName : pw_M := (8, cX8_readName, 4, none)
theorem k_X8_readName : pw_okV yX8_readName m_X8_readName 1 := ⟨⟨pw_tb_in (i := 75) (by decide +kernel) rfl, pw_tb_in (i := 937) (by decide +kernel) rfl, by decide +kernel, by decide⟩, pw_tb_in (i := 936) (by decide +kernel) rfl, pw_tb_in (i := 41) (by decide +kernel) rfl⟩
def m_X8_readKnight : pw_M := (8, cX8_readKnight, 4, none)
theorem k_X8_readKnight : pw_okV yX8_readKnight m_X8_readKnight 1 := ⟨⟨pw_tb_in (i := 75) (by decide +kernel) rfl, pw_tb_in (i := 941) (by decide +kernel) rfl, by decide +kernel, by decide⟩, pw_tb_in (i := 940) (by decide +kernel) rfl, pw_tb_in (i := 42) (by decide +kernel) rfl⟩
def m_X8_readEnemies : pw_M := (8, cX8_readEnemies, 3, none)
theorem k_X8_readEnemies : pw_okV yX8_readEnemies m_X8_readEnemies 0 := ⟨⟨pw_tb_in (i := 75) (by decide +kernel) rfl, pw_tb_in (i := 945) (by decide +kernel) rfl, by decide +kernel, by decide⟩, pw_tb_in (i := 944) (by decide +kernel) rfl, pw_tb_in (i := 43) (by decide +kernel) rfl⟩
def m_X8_readPeril : pw_M := (8, cX8_readPeril, 3, none)
theorem k_X8_readPeril : pw_okV yX8_readPeril m_X8_readPeril 0 := ⟨⟨pw_tb_in (i := 75) (by decide +kernel) rfl, pw_tb_in (i := 949) (by decide +kernel) rfl, by decide +kernel, by decide⟩, pw_tb_in (i := 948) (by decide +kernel) rfl, pw_tb_in (i := 44) (by decide +kernel) rfl⟩
def m_X8_table : pw_M := (8, cX8_table, 2, (some .int))
theorem k_X8_table : pw_okV yX8_table m_X8_table 0 := ⟨⟨pw_tb_in (i := 75) (by decide +kernel) rfl, pw_tb_in (i := 953) (by decide +kernel) rfl, by decide +kernel, by decide⟩, pw_tb_in (i := 951) (by decide +kernel) rfl, pw_tb_in (i := 952) (by decide +kernel) rfl⟩
def m_X8_seat : pw_M := (8, cX8_seat, 3, (some .int))
theorem k_X8_seat : pw_okV yX8_seat m_X8_seat 2 := ⟨⟨pw_tb_in (i := 75) (by decide +kernel) rfl, pw_tb_in (i := 957) (by decide +kernel) rfl, by decide +kernel, by decide⟩, pw_tb_in (i := 955) (by decide +kernel) rfl, pw_tb_in (i := 956) (by decide +kernel) rfl⟩
def m_X8_isSeat : pw_M := (8, cX8_isSeat, 2, (some .boolean))
theorem k_X8_isSeat : pw_okV yX8_isSeat m_X8_isSeat 1 := ⟨⟨pw_tb_in (i := 75) (by decide +kernel) rfl, pw_tb_in (i := 961) (by decide +kernel) rfl, by decide +kernel, by decide⟩, pw_tb_in (i := 960) (by decide +kernel) rfl, pw_tb_in (i := 45) (by decide +kernel) rfl⟩
def m_X8_sitter : pw_M := (8, cX8_sitter, 4, (some .int))
theorem k_X8_sitter : pw_okV yX8_sitter m_X8_sitter 1 := ⟨⟨pw_tb_in (i := 75) (by decide +kernel) rfl, pw_tb_in (i := 965) (by decide +kernel) rfl, by decide +kernel, by decide⟩, pw_tb_in (i := 964) (by decide +kernel) rfl, pw_tb_in (i := 46) (by decide +kernel) rfl⟩
def m_X8_perilOn : pw_M := (8, cX8_perilOn, 1, (some .int))
theorem k_X8_perilOn : pw_okV yX8_perilOn m_X8_perilOn 0 := ⟨⟨pw_tb_in (i := 75) (by decide +kernel) rfl, pw_tb_in (i := 969) (by decide +kernel) rfl, by decide +kernel, by decide⟩, pw_tb_in (i := 968) (by decide +kernel) rfl, pw_tb_in (i := 47) (by decide +kernel) rfl⟩
def m_X8_knight : pw_M := (8, cX8_knight, 3, (some .int))
theorem k_X8_knight : pw_okV yX8_knight m_X8_knight 2 := ⟨⟨pw_tb_in (i := 75) (by decide +kernel) rfl, pw_tb_in (i := 973) (by decide +kernel) rfl, by decide +kernel, by decide⟩, pw_tb_in (i := 971) (by decide +kernel) rfl, pw_tb_in (i := 972) (by decide +kernel) rfl⟩
def m_X8_isKnight : pw_M := (8, cX8_isKnight, 2, (some .boolean))
theorem k_X8_isKnight : pw_okV yX8_isKnight m_X8_isKnight 1 := ⟨⟨pw_tb_in (i := 75) (by decide +kernel) rfl, pw_tb_in (i := 977) (by decide +kernel) rfl, by decide +kernel, by decide⟩, pw_tb_in (i := 976) (by decide +kernel) rfl, pw_tb_in (i := 48) (by decide +kernel) rfl⟩
def m_X8_has : pw_M := (8, cX8_has, 2, (some .boolean))
theorem k_X8_has : pw_okS yX8_has m_X8_has 2 := ⟨⟨pw_tb_in (i := 75) (by decide +kernel) rfl, pw_tb_in (i := 980) (by decide +kernel) rfl, by decide +kernel, by decide⟩, pw_tb_in (i := 979) (by decide +kernel) rfl⟩
def m_X8_as : pw_M := (8, cX8_as, 6, (some .int))
theorem k_X8_as : pw_okV yX8_as m_X8_as 2 := ⟨⟨pw_tb_in (i := 75) (by decide +kernel) rfl, pw_tb_in (i := 984) (by decide +kernel) rfl, by decide +kernel, by decide⟩, pw_tb_in (i := 982) (by decide +kernel) rfl, pw_tb_in (i := 983) (by decide +kernel) rfl⟩
def m_X8_fits : pw_M := (8, cX8_fits, 3, (some .boolean))
theorem k_X8_fits : pw_okV yX8_fits m_X8_fits 2 := ⟨⟨pw_tb_in (i := 75) (by decide +kernel) rfl, pw_tb_in (i := 988) (by decide +kernel) rfl, by decide +kernel, by decide⟩, pw_tb_in (i := 987) (by decide +kernel) rfl, pw_tb_in (i := 49) (by decide +kernel) rfl⟩
def m_X8_fitsBy : pw_M := (8, cX8_fitsBy, 6, (some .boolean))
theorem k_X8_fitsBy : pw_okV yX8_fitsBy m_X8_fitsBy 3 := ⟨⟨pw_tb_in (i := 75) (by decide +kernel) rfl, pw_tb_in (i := 992) (by decide +kernel) rfl, by decide +kernel, by decide⟩, pw_tb_in (i := 991) (by decide +kernel) rfl, pw_tb_in (i := 50) (by decide +kernel) rfl⟩
def m_X8_seatAs : pw_M := (8, cX8_seatAs, 6, (some .int))
theorem k_X8_seatAs : pw_okV yX8_seatAs m_X8_seatAs 2 := ⟨⟨pw_tb_in (i := 75) (by decide +kernel) rfl, pw_tb_in (i := 996) (by decide +kernel) rfl, by decide +kernel, by decide⟩, pw_tb_in (i := 994) (by decide +kernel) rfl, pw_tb_in (i := 995) (by decide +kernel) rfl⟩
def m_X8_isThere : pw_M := (8, cX8_isThere, 2, (some .boolean))
theorem k_X8_isThere : pw_okV yX8_isThere m_X8_isThere 1 := ⟨⟨pw_tb_in (i := 75) (by decide +kernel) rfl, pw_tb_in (i := 1000) (by decide +kernel) rfl, by decide +kernel, by decide⟩, pw_tb_in (i := 999) (by decide +kernel) rfl, pw_tb_in (i := 51) (by decide +kernel) rfl⟩
def m_X8_sit : pw_M := (8, cX8_sit, 3, (some .int))
theorem k_X8_sit : pw_okV yX8_sit m_X8_sit 2 := ⟨⟨pw_tb_in (i := 75) (by decide +kernel) rfl, pw_tb_in (i := 1004) (by decide +kernel) rfl, by decide +kernel, by decide⟩, pw_tb_in (i := 1002) (by decide +kernel) rfl, pw_tb_in (i := 1003) (by decide +kernel) rfl⟩
def m_X8_remembers : pw_M := (8, cX8_remembers, 2, none)
theorem k_X8_remembers : pw_okV yX8_remembers m_X8_remembers 0 := ⟨⟨pw_tb_in (i := 75) (by decide +kernel) rfl, pw_tb_in (i := 1008) (by decide +kernel) rfl, by decide +kernel, by decide⟩, pw_tb_in (i := 1007) (by decide +kernel) rfl, pw_tb_in (i := 52) (by decide +kernel) rfl⟩
def m_X8_sitting : pw_M := (8, cX8_sitting, 3, (some .int))
theorem k_X8_sitting : pw_okV yX8_sitting m_X8_sitting 0 := ⟨⟨pw_tb_in (i := 75) (by decide +kernel) rfl, pw_tb_in (i := 1012) (by decide +kernel) rfl, by decide +kernel, by decide⟩, pw_tb_in (i := 1011) (by decide +kernel) rfl, pw_tb_in (i := 53) (by decide +kernel) rfl⟩
def m_X8_bits : pw_M := (8, cX8_bits, 3, (some .int))
theorem k_X8_bits : pw_okS yX8_bits m_X8_bits 1 := ⟨⟨pw_tb_in (i := 75) (by decide +kernel) rfl, pw_tb_in (i := 1015) (by decide +kernel) rfl, by decide +kernel, by decide⟩, pw_tb_in (i := 1014) (by decide +kernel) rfl⟩
def m_X8_rise : pw_M := (8, cX8_rise, 2, (some .int))
theorem k_X8_rise : pw_okV yX8_rise m_X8_rise 0 := ⟨⟨pw_tb_in (i := 75) (by decide +kernel) rfl, pw_tb_in (i := 1019) (by decide +kernel) rfl, by decide +kernel, by decide⟩, pw_tb_in (i := 1017) (by decide +kernel) rfl, pw_tb_in (i := 1018) (by decide +kernel) rfl⟩
def m_X8_allRise : pw_M := (8, cX8_allRise, 2, none)
theorem k_X8_allRise : pw_okV yX8_allRise m_X8_allRise 0 := ⟨⟨pw_tb_in (i := 75) (by decide +kernel) rfl, pw_tb_in (i := 1023) (by decide +kernel) rfl, by decide +kernel, by decide⟩, pw_tb_in (i := 1022) (by decide +kernel) rfl, pw_tb_in (i := 54) (by decide +kernel) rfl⟩
def m_X8_tell : pw_M := (8, cX8_tell, 3, (some .int))
theorem k_X8_tell : pw_okV yX8_tell m_X8_tell 2 := ⟨⟨pw_tb_in (i := 75) (by decide +kernel) rfl, pw_tb_in (i := 1027) (by decide +kernel) rfl, by decide +kernel, by decide⟩, pw_tb_in (i := 1025) (by decide +kernel) rfl, pw_tb_in (i := 1026) (by decide +kernel) rfl⟩
def m_X8_feast : pw_M := (8, cX8_feast, 6, (some .int))
theorem k_X8_feast : pw_okV yX8_feast m_X8_feast 0 := ⟨⟨pw_tb_in (i := 75) (by decide +kernel) rfl, pw_tb_in (i := 1031) (by decide +kernel) rfl, by decide +kernel, by decide⟩, pw_tb_in (i := 1029) (by decide +kernel) rfl, pw_tb_in (i := 1030) (by decide +kernel) rfl⟩
def m_X8_wrongs : pw_M := (8, cX8_wrongs, 3, (some .int))
theorem k_X8_wrongs : pw_okV yX8_wrongs m_X8_wrongs 0 := ⟨⟨pw_tb_in (i := 75) (by decide +kernel) rfl, pw_tb_in (i := 1035) (by decide +kernel) rfl, by decide +kernel, by decide⟩, pw_tb_in (i := 1034) (by decide +kernel) rfl, pw_tb_in (i := 55) (by decide +kernel) rfl⟩
def m_X8_isWrong : pw_M := (8, cX8_isWrong, 3, (some .boolean))
theorem k_X8_isWrong : pw_okV yX8_isWrong m_X8_isWrong 2 := ⟨⟨pw_tb_in (i := 75) (by decide +kernel) rfl, pw_tb_in (i := 1039) (by decide +kernel) rfl, by decide +kernel, by decide⟩, pw_tb_in (i := 1038) (by decide +kernel) rfl, pw_tb_in (i := 56) (by decide +kernel) rfl⟩
def m_X8_beside : pw_M := (8, cX8_beside, 3, (some .int))
theorem k_X8_beside : pw_okV yX8_beside m_X8_beside 2 := ⟨⟨pw_tb_in (i := 75) (by decide +kernel) rfl, pw_tb_in (i := 1043) (by decide +kernel) rfl, by decide +kernel, by decide⟩, pw_tb_in (i := 1042) (by decide +kernel) rfl, pw_tb_in (i := 57) (by decide +kernel) rfl⟩
def m_X8_areEnemies : pw_M := (8, cX8_areEnemies, 3, (some .boolean))
theorem k_X8_areEnemies : pw_okV yX8_areEnemies m_X8_areEnemies 2 := ⟨⟨pw_tb_in (i := 75) (by decide +kernel) rfl, pw_tb_in (i := 1047) (by decide +kernel) rfl, by decide +kernel, by decide⟩, pw_tb_in (i := 1046) (by decide +kernel) rfl, pw_tb_in (i := 58) (by decide +kernel) rfl⟩
def m_X8_undo : pw_M := (8, cX8_undo, 2, (some .int))
theorem k_X8_undo : pw_okV yX8_undo m_X8_undo 0 := ⟨⟨pw_tb_in (i := 75) (by decide +kernel) rfl, pw_tb_in (i := 1051) (by decide +kernel) rfl, by decide +kernel, by decide⟩, pw_tb_in (i := 1049) (by decide +kernel) rfl, pw_tb_in (i := 1050) (by decide +kernel) rfl⟩
def m_X8_keep : pw_M := (8, cX8_keep, 3, (some .int))
theorem k_X8_keep : pw_okV yX8_keep m_X8_keep 1 := ⟨⟨pw_tb_in (i := 75) (by decide +kernel) rfl, pw_tb_in (i := 1055) (by decide +kernel) rfl, by decide +kernel, by decide⟩, pw_tb_in (i := 1053) (by decide +kernel) rfl, pw_tb_in (i := 1054) (by decide +kernel) rfl⟩
def m_X8_back : pw_M := (8, cX8_back, 3, (some .int))
theorem k_X8_back : pw_okV yX8_back m_X8_back 1 := ⟨⟨pw_tb_in (i := 75) (by decide +kernel) rfl, pw_tb_in (i := 1059) (by decide +kernel) rfl, by decide +kernel, by decide⟩, pw_tb_in (i := 1057) (by decide +kernel) rfl, pw_tb_in (i := 1058) (by decide +kernel) rfl⟩
def m_X8_seatings : pw_M := (8, cX8_seatings, 1, (some .int))
theorem k_X8_seatings : pw_okV yX8_seatings m_X8_seatings 0 := ⟨⟨pw_tb_in (i := 75) (by decide +kernel) rfl, pw_tb_in (i := 1063) (by decide +kernel) rfl, by decide +kernel, by decide⟩, pw_tb_in (i := 1061) (by decide +kernel) rfl, pw_tb_in (i := 1062) (by decide +kernel) rfl⟩
def m_X8_findSeatings : pw_M := (8, cX8_findSeatings, 4, none)
theorem k_X8_findSeatings : pw_okV yX8_findSeatings m_X8_findSeatings 1 := ⟨⟨pw_tb_in (i := 75) (by decide +kernel) rfl, pw_tb_in (i := 1067) (by decide +kernel) rfl, by decide +kernel, by decide⟩, pw_tb_in (i := 1066) (by decide +kernel) rfl, pw_tb_in (i := 59) (by decide +kernel) rfl⟩
def m_X8_nextThere : pw_M := (8, cX8_nextThere, 4, (some .int))
theorem k_X8_nextThere : pw_okV yX8_nextThere m_X8_nextThere 2 := ⟨⟨pw_tb_in (i := 75) (by decide +kernel) rfl, pw_tb_in (i := 1071) (by decide +kernel) rfl, by decide +kernel, by decide⟩, pw_tb_in (i := 1070) (by decide +kernel) rfl, pw_tb_in (i := 60) (by decide +kernel) rfl⟩
def m_X8_finds : pw_M := (8, cX8_finds, 6, none)
theorem k_X8_finds : pw_okV yX8_finds m_X8_finds 1 := ⟨⟨pw_tb_in (i := 75) (by decide +kernel) rfl, pw_tb_in (i := 1075) (by decide +kernel) rfl, by decide +kernel, by decide⟩, pw_tb_in (i := 1074) (by decide +kernel) rfl, pw_tb_in (i := 61) (by decide +kernel) rfl⟩
def m_X8_sitterBy : pw_M := (8, cX8_sitterBy, 4, (some .int))
theorem k_X8_sitterBy : pw_okV yX8_sitterBy m_X8_sitterBy 1 := ⟨⟨pw_tb_in (i := 75) (by decide +kernel) rfl, pw_tb_in (i := 1079) (by decide +kernel) rfl, by decide +kernel, by decide⟩, pw_tb_in (i := 1078) (by decide +kernel) rfl, pw_tb_in (i := 62) (by decide +kernel) rfl⟩
def m_X8_maySit : pw_M := (8, cX8_maySit, 5, (some .boolean))
theorem k_X8_maySit : pw_okV yX8_maySit m_X8_maySit 2 := ⟨⟨pw_tb_in (i := 75) (by decide +kernel) rfl, pw_tb_in (i := 1083) (by decide +kernel) rfl, by decide +kernel, by decide⟩, pw_tb_in (i := 1082) (by decide +kernel) rfl, pw_tb_in (i := 63) (by decide +kernel) rfl⟩
def m_X8_seatOf : pw_M := (8, cX8_seatOf, 2, (some .int))
theorem k_X8_seatOf : pw_okV yX8_seatOf m_X8_seatOf 1 := ⟨⟨pw_tb_in (i := 75) (by decide +kernel) rfl, pw_tb_in (i := 1087) (by decide +kernel) rfl, by decide +kernel, by decide⟩, pw_tb_in (i := 1085) (by decide +kernel) rfl, pw_tb_in (i := 1086) (by decide +kernel) rfl⟩
def m_X8_moved : pw_M := (8, cX8_moved, 1, (some .int))
theorem k_X8_moved : pw_okV yX8_moved m_X8_moved 0 := ⟨⟨pw_tb_in (i := 75) (by decide +kernel) rfl, pw_tb_in (i := 1091) (by decide +kernel) rfl, by decide +kernel, by decide⟩, pw_tb_in (i := 1089) (by decide +kernel) rfl, pw_tb_in (i := 1090) (by decide +kernel) rfl⟩
def m_X8_knows : pw_M := (8, cX8_knows, 2, (some .int))
theorem k_X8_knows : pw_okV yX8_knows m_X8_knows 1 := ⟨⟨pw_tb_in (i := 75) (by decide +kernel) rfl, pw_tb_in (i := 1095) (by decide +kernel) rfl, by decide +kernel, by decide⟩, pw_tb_in (i := 1093) (by decide +kernel) rfl, pw_tb_in (i := 1094) (by decide +kernel) rfl⟩
def m_X8_judge : pw_M := (8, cX8_judge, 4, (some .int))
theorem k_X8_judge : pw_okV yX8_judge m_X8_judge 1 := ⟨⟨pw_tb_in (i := 75) (by decide +kernel) rfl, pw_tb_in (i := 1099) (by decide +kernel) rfl, by decide +kernel, by decide⟩, pw_tb_in (i := 1097) (by decide +kernel) rfl, pw_tb_in (i := 1098) (by decide +kernel) rfl⟩
def m_X8_seen : pw_M := (8, cX8_seen, 5, (some .int))
theorem k_X8_seen : pw_okV yX8_seen m_X8_seen 4 := ⟨⟨pw_tb_in (i := 75) (by decide +kernel) rfl, pw_tb_in (i := 1103) (by decide +kernel) rfl, by decide +kernel, by decide⟩, pw_tb_in (i := 1101) (by decide +kernel) rfl, pw_tb_in (i := 1102) (by decide +kernel) rfl⟩
def m_X8_forget : pw_M := (8, cX8_forget, 2, (some .int))
theorem k_X8_forget : pw_okV yX8_forget m_X8_forget 0 := ⟨⟨pw_tb_in (i := 75) (by decide +kernel) rfl, pw_tb_in (i := 1107) (by decide +kernel) rfl, by decide +kernel, by decide⟩, pw_tb_in (i := 1105) (by decide +kernel) rfl, pw_tb_in (i := 1106) (by decide +kernel) rfl⟩
def m_X8_worlds : pw_M := (8, cX8_worlds, 9, (some .int))
theorem k_X8_worlds : pw_okV yX8_worlds m_X8_worlds 1 := ⟨⟨pw_tb_in (i := 75) (by decide +kernel) rfl, pw_tb_in (i := 1111) (by decide +kernel) rfl, by decide +kernel, by decide⟩, pw_tb_in (i := 1109) (by decide +kernel) rfl, pw_tb_in (i := 1110) (by decide +kernel) rfl⟩
def m_X8_isWorld : pw_M := (8, cX8_isWorld, 7, (some .boolean))
theorem k_X8_isWorld : pw_okV yX8_isWorld m_X8_isWorld 3 := ⟨⟨pw_tb_in (i := 75) (by decide +kernel) rfl, pw_tb_in (i := 1115) (by decide +kernel) rfl, by decide +kernel, by decide⟩, pw_tb_in (i := 1114) (by decide +kernel) rfl, pw_tb_in (i := 64) (by decide +kernel) rfl⟩
def m_X8_safest : pw_M := (8, cX8_safest, 8, (some .int))
theorem k_X8_safest : pw_okV yX8_safest m_X8_safest 2 := ⟨⟨pw_tb_in (i := 75) (by decide +kernel) rfl, pw_tb_in (i := 1119) (by decide +kernel) rfl, by decide +kernel, by decide⟩, pw_tb_in (i := 1117) (by decide +kernel) rfl, pw_tb_in (i := 1118) (by decide +kernel) rfl⟩
def m_X8_dangers : pw_M := (8, cX8_dangers, 8, (some .int))
theorem k_X8_dangers : pw_okV yX8_dangers m_X8_dangers 2 := ⟨⟨pw_tb_in (i := 75) (by decide +kernel) rfl, pw_tb_in (i := 1123) (by decide +kernel) rfl, by decide +kernel, by decide⟩, pw_tb_in (i := 1122) (by decide +kernel) rfl, pw_tb_in (i := 65) (by decide +kernel) rfl⟩
def m_X8_quests : pw_M := (8, cX8_quests, 16, (some .long))
theorem k_X8_quests : pw_okV yX8_quests m_X8_quests 5 := ⟨⟨pw_tb_in (i := 75) (by decide +kernel) rfl, pw_tb_in (i := 1127) (by decide +kernel) rfl, by decide +kernel, by decide⟩, pw_tb_in (i := 1125) (by decide +kernel) rfl, pw_tb_in (i := 1126) (by decide +kernel) rfl⟩
def m_X8_lent : pw_M := (8, cX8_lent, 3, (some .int))
theorem k_X8_lent : pw_okV yX8_lent m_X8_lent 1 := ⟨⟨pw_tb_in (i := 75) (by decide +kernel) rfl, pw_tb_in (i := 1134) (by decide +kernel) rfl, by decide +kernel, by decide⟩, pw_tb_in (i := 1132) (by decide +kernel) rfl, pw_tb_in (i := 1133) (by decide +kernel) rfl⟩
def m_X8_count : pw_M := (8, cX8_count, 4, (some .int))
theorem k_X8_count : pw_okV yX8_count m_X8_count 1 := ⟨⟨pw_tb_in (i := 75) (by decide +kernel) rfl, pw_tb_in (i := 1138) (by decide +kernel) rfl, by decide +kernel, by decide⟩, pw_tb_in (i := 1136) (by decide +kernel) rfl, pw_tb_in (i := 1137) (by decide +kernel) rfl⟩
theorem l_7_65 : Cond.methodLink (pw_on 7) 65 yX3_add ∈ pw_tb := pw_tb_in (i := 360) (by decide +kernel) rfl
theorem l_7_69 : Cond.methodLink (pw_on 7) 69 yX2_read ∈ pw_tb := pw_tb_in (i := 372) (by decide +kernel) rfl
theorem l_7_73 : Cond.methodLink (pw_on 7) 73 yX0_begin ∈ pw_tb := pw_tb_in (i := 454) (by decide +kernel) rfl
theorem l_7_77 : Cond.methodLink (pw_on 7) 77 yX1_clear ∈ pw_tb := pw_tb_in (i := 462) (by decide +kernel) rfl
theorem l_7_86 : Cond.methodLink (pw_on 7) 86 yX7_isSeat ∈ pw_tb := pw_tb_in (i := 470) (by decide +kernel) rfl
theorem l_7_96 : Cond.methodLink (pw_on 7) 96 yX0_whoSitsOn ∈ pw_tb := pw_tb_in (i := 474) (by decide +kernel) rfl
theorem l_7_103 : Cond.methodLink (pw_on 7) 103 yX5_perilOn ∈ pw_tb := pw_tb_in (i := 478) (by decide +kernel) rfl
theorem l_7_106 : Cond.methodLink (pw_on 7) 106 yX7_isKnight ∈ pw_tb := pw_tb_in (i := 490) (by decide +kernel) rfl
theorem l_7_124 : Cond.methodLink (pw_on 7) 124 yX7_has ∈ pw_tb := pw_tb_in (i := 494) (by decide +kernel) rfl
theorem l_7_137 : Cond.methodLink (pw_on 7) 137 yX7_isOfKind ∈ pw_tb := pw_tb_in (i := 503) (by decide +kernel) rfl
theorem l_7_144 : Cond.methodLink (pw_on 7) 144 yX7_fitsNow ∈ pw_tb := pw_tb_in (i := 506) (by decide +kernel) rfl
theorem l_7_153 : Cond.methodLink (pw_on 7) 153 yX1_remember ∈ pw_tb := pw_tb_in (i := 524) (by decide +kernel) rfl
theorem l_7_157 : Cond.methodLink (pw_on 7) 157 yX0_whoSit ∈ pw_tb := pw_tb_in (i := 535) (by decide +kernel) rfl
theorem l_7_161 : Cond.methodLink (pw_on 7) 161 yJ6_bitCount_0f7a4 ∈ pw_tb := pw_tb_in (i := 539) (by decide +kernel) rfl
theorem l_7_166 : Cond.methodLink (pw_on 7) 166 yX0_allRise ∈ pw_tb := pw_tb_in (i := 549) (by decide +kernel) rfl
theorem l_7_169 : Cond.methodLink (pw_on 7) 169 yX7_isNews ∈ pw_tb := pw_tb_in (i := 554) (by decide +kernel) rfl
theorem l_7_172 : Cond.methodLink (pw_on 7) 172 yX7_whoIsWrong ∈ pw_tb := pw_tb_in (i := 561) (by decide +kernel) rfl
theorem l_7_175 : Cond.methodLink (pw_on 7) 175 yX7_changeRenown ∈ pw_tb := pw_tb_in (i := 569) (by decide +kernel) rfl
theorem l_7_178 : Cond.methodLink (pw_on 7) 178 yX7_spreadNews ∈ pw_tb := pw_tb_in (i := 591) (by decide +kernel) rfl
theorem l_7_184 : Cond.methodLink (pw_on 7) 184 yX1_recall ∈ pw_tb := pw_tb_in (i := 599) (by decide +kernel) rfl
theorem l_7_191 : Cond.methodLink (pw_on 7) 191 yX0_copy ∈ pw_tb := pw_tb_in (i := 607) (by decide +kernel) rfl
theorem l_7_197 : Cond.methodLink (pw_on 7) 197 yX7_prepareSearch ∈ pw_tb := pw_tb_in (i := 616) (by decide +kernel) rfl
theorem l_7_200 : Cond.methodLink (pw_on 7) 200 yX4_ways ∈ pw_tb := pw_tb_in (i := 620) (by decide +kernel) rfl
theorem l_7_203 : Cond.methodLink (pw_on 7) 203 yX4_first ∈ pw_tb := pw_tb_in (i := 644) (by decide +kernel) rfl
theorem l_7_208 : Cond.methodLink (pw_on 7) 208 yX4_fewestAway ∈ pw_tb := pw_tb_in (i := 656) (by decide +kernel) rfl
theorem l_7_211 : Cond.methodLink (pw_on 7) 211 yX7_whoKnows ∈ pw_tb := pw_tb_in (i := 668) (by decide +kernel) rfl
theorem l_7_214 : Cond.methodLink (pw_on 7) 214 yX4_mostKnow ∈ pw_tb := pw_tb_in (i := 672) (by decide +kernel) rfl
theorem l_7_217 : Cond.methodLink (pw_on 7) 217 yX7_quarrels ∈ pw_tb := pw_tb_in (i := 690) (by decide +kernel) rfl
theorem l_7_220 : Cond.methodLink (pw_on 7) 220 yX6_note ∈ pw_tb := pw_tb_in (i := 698) (by decide +kernel) rfl
theorem l_7_224 : Cond.methodLink (pw_on 7) 224 yX6_survey ∈ pw_tb := pw_tb_in (i := 710) (by decide +kernel) rfl
theorem l_7_244 : Cond.methodLink (pw_on 7) 244 yJ9_min_7cf53 ∈ pw_tb := pw_tb_in (i := 590) (by decide +kernel) rfl
theorem l_7_250 : Cond.methodLink (pw_on 7) 250 yX5_fits ∈ pw_tb := pw_tb_in (i := 510) (by decide +kernel) rfl
theorem l_7_254 : Cond.methodLink (pw_on 7) 254 yX7_power ∈ pw_tb := pw_tb_in (i := 729) (by decide +kernel) rfl
theorem l_7_258 : Cond.methodLink (pw_on 7) 258 yX7_commonDivisor ∈ pw_tb := pw_tb_in (i := 732) (by decide +kernel) rfl
theorem l_7_262 : Cond.methodLink (pw_on 7) 262 yX5_pairsOfEnemies ∈ pw_tb := pw_tb_in (i := 743) (by decide +kernel) rfl
theorem l_7_268 : Cond.methodLink (pw_on 7) 268 yX7_isInPeril ∈ pw_tb := pw_tb_in (i := 565) (by decide +kernel) rfl
theorem l_7_271 : Cond.methodLink (pw_on 7) 271 yX7_behind ∈ pw_tb := pw_tb_in (i := 577) (by decide +kernel) rfl
theorem l_7_274 : Cond.methodLink (pw_on 7) 274 yX7_whoSitsBehind ∈ pw_tb := pw_tb_in (i := 573) (by decide +kernel) rfl
theorem l_7_277 : Cond.methodLink (pw_on 7) 277 yX7_areEnemies ∈ pw_tb := pw_tb_in (i := 580) (by decide +kernel) rfl
theorem l_7_280 : Cond.methodLink (pw_on 7) 280 yX7_ahead ∈ pw_tb := pw_tb_in (i := 584) (by decide +kernel) rfl
theorem l_7_283 : Cond.methodLink (pw_on 7) 283 yJ9_max_7cf53 ∈ pw_tb := pw_tb_in (i := 587) (by decide +kernel) rfl
theorem l_0_34 : Cond.methodLink (pw_on 0) 34 yX0_allRise ∈ pw_tb := pw_tb_in (i := 458) (by decide +kernel) rfl
theorem l_1_31 : Cond.methodLink (pw_on 1) 31 yX0_copy ∈ pw_tb := pw_tb_in (i := 528) (by decide +kernel) rfl
theorem l_1_35 : Cond.methodLink (pw_on 1) 35 yJ9_min_7cf53 ∈ pw_tb := pw_tb_in (i := 532) (by decide +kernel) rfl
theorem l_2_18 : Cond.methodLink (pw_on 2) 18 yX3_rewind ∈ pw_tb := pw_tb_in (i := 376) (by decide +kernel) rfl
theorem l_2_35 : Cond.methodLink (pw_on 2) 35 yX2_readClause ∈ pw_tb := pw_tb_in (i := 380) (by decide +kernel) rfl
theorem l_2_51 : Cond.methodLink (pw_on 2) 51 yX5_obey ∈ pw_tb := pw_tb_in (i := 422) (by decide +kernel) rfl
theorem l_2_55 : Cond.methodLink (pw_on 2) 55 yX3_advance ∈ pw_tb := pw_tb_in (i := 384) (by decide +kernel) rfl
theorem l_2_61 : Cond.methodLink (pw_on 2) 61 yX3_isSemicolon ∈ pw_tb := pw_tb_in (i := 446) (by decide +kernel) rfl
theorem l_2_64 : Cond.methodLink (pw_on 2) 64 yX2_wordThatStandsHere ∈ pw_tb := pw_tb_in (i := 391) (by decide +kernel) rfl
theorem l_2_68 : Cond.methodLink (pw_on 2) 68 yX2_isKnightWord ∈ pw_tb := pw_tb_in (i := 397) (by decide +kernel) rfl
theorem l_2_72 : Cond.methodLink (pw_on 2) 72 yX2_numbersBehind ∈ pw_tb := pw_tb_in (i := 400) (by decide +kernel) rfl
theorem l_2_76 : Cond.methodLink (pw_on 2) 76 yX3_number ∈ pw_tb := pw_tb_in (i := 403) (by decide +kernel) rfl
theorem l_2_79 : Cond.methodLink (pw_on 2) 79 yX2_leastNumber ∈ pw_tb := pw_tb_in (i := 407) (by decide +kernel) rfl
theorem l_2_82 : Cond.methodLink (pw_on 2) 82 yX2_mostFirst ∈ pw_tb := pw_tb_in (i := 410) (by decide +kernel) rfl
theorem l_2_85 : Cond.methodLink (pw_on 2) 85 yX2_mostSecond ∈ pw_tb := pw_tb_in (i := 414) (by decide +kernel) rfl
theorem l_2_88 : Cond.methodLink (pw_on 2) 88 yX2_tally ∈ pw_tb := pw_tb_in (i := 418) (by decide +kernel) rfl
theorem l_3_28 : Cond.methodLink (pw_on 3) 28 yX3_tokenOf ∈ pw_tb := pw_tb_in (i := 388) (by decide +kernel) rfl
theorem l_4_24 : Cond.methodLink (pw_on 4) 24 yX4_waysFrom ∈ pw_tb := pw_tb_in (i := 624) (by decide +kernel) rfl
theorem l_4_28 : Cond.methodLink (pw_on 4) 28 yX4_firstFrom ∈ pw_tb := pw_tb_in (i := 648) (by decide +kernel) rfl
theorem l_4_32 : Cond.methodLink (pw_on 4) 32 yX4_fewestFrom ∈ pw_tb := pw_tb_in (i := 660) (by decide +kernel) rfl
theorem l_4_43 : Cond.methodLink (pw_on 4) 43 yJ6_bitCount_0f7a4 ∈ pw_tb := pw_tb_in (i := 639) (by decide +kernel) rfl
theorem l_4_49 : Cond.methodLink (pw_on 4) 49 yJ9_min_7cf53 ∈ pw_tb := pw_tb_in (i := 676) (by decide +kernel) rfl
theorem l_4_57 : Cond.methodLink (pw_on 4) 57 yX4_mostFrom ∈ pw_tb := pw_tb_in (i := 677) (by decide +kernel) rfl
theorem l_4_66 : Cond.methodLink (pw_on 4) 66 yX4_freeSeats ∈ pw_tb := pw_tb_in (i := 629) (by decide +kernel) rfl
theorem l_4_72 : Cond.methodLink (pw_on 4) 72 yX4_knowAfterwards ∈ pw_tb := pw_tb_in (i := 681) (by decide +kernel) rfl
theorem l_4_75 : Cond.methodLink (pw_on 4) 75 yJ9_max_7cf53 ∈ pw_tb := pw_tb_in (i := 685) (by decide +kernel) rfl
theorem l_4_78 : Cond.methodLink (pw_on 4) 78 yX4_besides ∈ pw_tb := pw_tb_in (i := 633) (by decide +kernel) rfl
theorem l_5_34 : Cond.methodLink (pw_on 5) 34 yX5_layTable ∈ pw_tb := pw_tb_in (i := 426) (by decide +kernel) rfl
theorem l_5_38 : Cond.methodLink (pw_on 5) 38 yX5_nameSeat ∈ pw_tb := pw_tb_in (i := 434) (by decide +kernel) rfl
theorem l_5_42 : Cond.methodLink (pw_on 5) 42 yX5_addKnight ∈ pw_tb := pw_tb_in (i := 438) (by decide +kernel) rfl
theorem l_5_45 : Cond.methodLink (pw_on 5) 45 yX5_makeEnemies ∈ pw_tb := pw_tb_in (i := 442) (by decide +kernel) rfl
theorem l_5_55 : Cond.methodLink (pw_on 5) 55 yX5_makePeace ∈ pw_tb := pw_tb_in (i := 430) (by decide +kernel) rfl
theorem l_5_64 : Cond.methodLink (pw_on 5) 64 yJ6_bitCount_0f7a4 ∈ pw_tb := pw_tb_in (i := 747) (by decide +kernel) rfl
theorem l_5_70 : Cond.methodLink (pw_on 5) 70 yX5_perilFrom ∈ pw_tb := pw_tb_in (i := 482) (by decide +kernel) rfl
theorem l_6_46 : Cond.methodLink (pw_on 6) 46 yX5_perilFrom ∈ pw_tb := pw_tb_in (i := 714) (by decide +kernel) rfl
theorem l_6_53 : Cond.methodLink (pw_on 6) 53 yX6_isWorld ∈ pw_tb := pw_tb_in (i := 715) (by decide +kernel) rfl
theorem l_9_13 : Cond.methodLink (pw_on 9) 13 yX7_write ∈ pw_tb := pw_tb_in (i := 356) (by decide +kernel) rfl
theorem l_9_17 : Cond.methodLink (pw_on 9) 17 yX8_write ∈ pw_tb := pw_tb_in (i := 873) (by decide +kernel) rfl
theorem l_9_18 : Cond.methodLink (pw_on 9) 18 yX7_erase ∈ pw_tb := pw_tb_in (i := 364) (by decide +kernel) rfl
theorem l_9_22 : Cond.methodLink (pw_on 9) 22 yX8_erase ∈ pw_tb := pw_tb_in (i := 880) (by decide +kernel) rfl
theorem l_9_23 : Cond.methodLink (pw_on 9) 23 yX7_fault ∈ pw_tb := pw_tb_in (i := 368) (by decide +kernel) rfl
theorem l_9_26 : Cond.methodLink (pw_on 9) 26 yX8_fault ∈ pw_tb := pw_tb_in (i := 884) (by decide +kernel) rfl
theorem l_9_27 : Cond.methodLink (pw_on 9) 27 yX7_table ∈ pw_tb := pw_tb_in (i := 450) (by decide +kernel) rfl
theorem l_9_30 : Cond.methodLink (pw_on 9) 30 yX8_table ∈ pw_tb := pw_tb_in (i := 950) (by decide +kernel) rfl
theorem l_9_31 : Cond.methodLink (pw_on 9) 31 yX7_seat ∈ pw_tb := pw_tb_in (i := 466) (by decide +kernel) rfl
theorem l_9_35 : Cond.methodLink (pw_on 9) 35 yX8_seat ∈ pw_tb := pw_tb_in (i := 954) (by decide +kernel) rfl
theorem l_9_36 : Cond.methodLink (pw_on 9) 36 yX7_knight ∈ pw_tb := pw_tb_in (i := 486) (by decide +kernel) rfl
theorem l_9_39 : Cond.methodLink (pw_on 9) 39 yX8_knight ∈ pw_tb := pw_tb_in (i := 970) (by decide +kernel) rfl
theorem l_9_40 : Cond.methodLink (pw_on 9) 40 yX7_as ∈ pw_tb := pw_tb_in (i := 497) (by decide +kernel) rfl
theorem l_9_43 : Cond.methodLink (pw_on 9) 43 yX8_as ∈ pw_tb := pw_tb_in (i := 981) (by decide +kernel) rfl
theorem l_9_44 : Cond.methodLink (pw_on 9) 44 yX7_seatAs ∈ pw_tb := pw_tb_in (i := 514) (by decide +kernel) rfl
theorem l_9_47 : Cond.methodLink (pw_on 9) 47 yX8_seatAs ∈ pw_tb := pw_tb_in (i := 993) (by decide +kernel) rfl
theorem l_9_48 : Cond.methodLink (pw_on 9) 48 yX7_sit ∈ pw_tb := pw_tb_in (i := 520) (by decide +kernel) rfl
theorem l_9_51 : Cond.methodLink (pw_on 9) 51 yX8_sit ∈ pw_tb := pw_tb_in (i := 1001) (by decide +kernel) rfl
theorem l_9_52 : Cond.methodLink (pw_on 9) 52 yX7_rise ∈ pw_tb := pw_tb_in (i := 545) (by decide +kernel) rfl
theorem l_9_55 : Cond.methodLink (pw_on 9) 55 yX8_rise ∈ pw_tb := pw_tb_in (i := 1016) (by decide +kernel) rfl
theorem l_9_56 : Cond.methodLink (pw_on 9) 56 yX7_tell ∈ pw_tb := pw_tb_in (i := 550) (by decide +kernel) rfl
theorem l_9_59 : Cond.methodLink (pw_on 9) 59 yX8_tell ∈ pw_tb := pw_tb_in (i := 1024) (by decide +kernel) rfl
theorem l_9_60 : Cond.methodLink (pw_on 9) 60 yX7_feast ∈ pw_tb := pw_tb_in (i := 557) (by decide +kernel) rfl
theorem l_9_63 : Cond.methodLink (pw_on 9) 63 yX8_feast ∈ pw_tb := pw_tb_in (i := 1028) (by decide +kernel) rfl
theorem l_9_64 : Cond.methodLink (pw_on 9) 64 yX7_undo ∈ pw_tb := pw_tb_in (i := 595) (by decide +kernel) rfl
theorem l_9_67 : Cond.methodLink (pw_on 9) 67 yX8_undo ∈ pw_tb := pw_tb_in (i := 1048) (by decide +kernel) rfl
theorem l_9_68 : Cond.methodLink (pw_on 9) 68 yX7_keep ∈ pw_tb := pw_tb_in (i := 603) (by decide +kernel) rfl
theorem l_9_71 : Cond.methodLink (pw_on 9) 71 yX8_keep ∈ pw_tb := pw_tb_in (i := 1052) (by decide +kernel) rfl
theorem l_9_72 : Cond.methodLink (pw_on 9) 72 yX7_back ∈ pw_tb := pw_tb_in (i := 608) (by decide +kernel) rfl
theorem l_9_75 : Cond.methodLink (pw_on 9) 75 yX8_back ∈ pw_tb := pw_tb_in (i := 1056) (by decide +kernel) rfl
theorem l_9_76 : Cond.methodLink (pw_on 9) 76 yX7_seatings ∈ pw_tb := pw_tb_in (i := 612) (by decide +kernel) rfl
theorem l_9_79 : Cond.methodLink (pw_on 9) 79 yX8_seatings ∈ pw_tb := pw_tb_in (i := 1060) (by decide +kernel) rfl
theorem l_9_80 : Cond.methodLink (pw_on 9) 80 yX7_seatOf ∈ pw_tb := pw_tb_in (i := 640) (by decide +kernel) rfl
theorem l_9_83 : Cond.methodLink (pw_on 9) 83 yX8_seatOf ∈ pw_tb := pw_tb_in (i := 1084) (by decide +kernel) rfl
theorem l_9_84 : Cond.methodLink (pw_on 9) 84 yX7_moved ∈ pw_tb := pw_tb_in (i := 652) (by decide +kernel) rfl
theorem l_9_87 : Cond.methodLink (pw_on 9) 87 yX8_moved ∈ pw_tb := pw_tb_in (i := 1088) (by decide +kernel) rfl
theorem l_9_88 : Cond.methodLink (pw_on 9) 88 yX7_knows ∈ pw_tb := pw_tb_in (i := 664) (by decide +kernel) rfl
theorem l_9_91 : Cond.methodLink (pw_on 9) 91 yX8_knows ∈ pw_tb := pw_tb_in (i := 1092) (by decide +kernel) rfl
theorem l_9_92 : Cond.methodLink (pw_on 9) 92 yX7_judge ∈ pw_tb := pw_tb_in (i := 686) (by decide +kernel) rfl
theorem l_9_95 : Cond.methodLink (pw_on 9) 95 yX8_judge ∈ pw_tb := pw_tb_in (i := 1096) (by decide +kernel) rfl
theorem l_9_96 : Cond.methodLink (pw_on 9) 96 yX7_seen ∈ pw_tb := pw_tb_in (i := 694) (by decide +kernel) rfl
theorem l_9_100 : Cond.methodLink (pw_on 9) 100 yX8_seen ∈ pw_tb := pw_tb_in (i := 1100) (by decide +kernel) rfl
theorem l_9_101 : Cond.methodLink (pw_on 9) 101 yX7_forget ∈ pw_tb := pw_tb_in (i := 702) (by decide +kernel) rfl
theorem l_9_104 : Cond.methodLink (pw_on 9) 104 yX8_forget ∈ pw_tb := pw_tb_in (i := 1104) (by decide +kernel) rfl
theorem l_9_105 : Cond.methodLink (pw_on 9) 105 yX7_worlds ∈ pw_tb := pw_tb_in (i := 706) (by decide +kernel) rfl
theorem l_9_108 : Cond.methodLink (pw_on 9) 108 yX8_worlds ∈ pw_tb := pw_tb_in (i := 1108) (by decide +kernel) rfl
theorem l_9_109 : Cond.methodLink (pw_on 9) 109 yX7_safest ∈ pw_tb := pw_tb_in (i := 719) (by decide +kernel) rfl
theorem l_9_112 : Cond.methodLink (pw_on 9) 112 yX8_safest ∈ pw_tb := pw_tb_in (i := 1116) (by decide +kernel) rfl
theorem l_9_113 : Cond.methodLink (pw_on 9) 113 yX7_quests ∈ pw_tb := pw_tb_in (i := 723) (by decide +kernel) rfl
theorem l_9_117 : Cond.methodLink (pw_on 9) 117 yX8_quests ∈ pw_tb := pw_tb_in (i := 1124) (by decide +kernel) rfl
theorem l_9_118 : Cond.methodLink (pw_on 9) 118 yX7_lent ∈ pw_tb := pw_tb_in (i := 735) (by decide +kernel) rfl
theorem l_9_121 : Cond.methodLink (pw_on 9) 121 yX8_lent ∈ pw_tb := pw_tb_in (i := 1131) (by decide +kernel) rfl
theorem l_9_122 : Cond.methodLink (pw_on 9) 122 yX7_count ∈ pw_tb := pw_tb_in (i := 739) (by decide +kernel) rfl
theorem l_9_125 : Cond.methodLink (pw_on 9) 125 yX8_count ∈ pw_tb := pw_tb_in (i := 1135) (by decide +kernel) rfl
theorem l_8_63 : Cond.methodLink (pw_on 8) 63 yX8_begins ∈ pw_tb := pw_tb_in (i := 754) (by decide +kernel) rfl
theorem l_8_78 : Cond.methodLink (pw_on 8) 78 yX8_in ∈ pw_tb := pw_tb_in (i := 877) (by decide +kernel) rfl
theorem l_8_82 : Cond.methodLink (pw_on 8) 82 yX8_isKnight ∈ pw_tb := pw_tb_in (i := 974) (by decide +kernel) rfl
theorem l_8_86 : Cond.methodLink (pw_on 8) 86 yX8_has ∈ pw_tb := pw_tb_in (i := 978) (by decide +kernel) rfl
theorem l_8_96 : Cond.methodLink (pw_on 8) 96 yX8_letterAt ∈ pw_tb := pw_tb_in (i := 896) (by decide +kernel) rfl
theorem l_8_109 : Cond.methodLink (pw_on 8) 109 yX8_isSmall ∈ pw_tb := pw_tb_in (i := 900) (by decide +kernel) rfl
theorem l_8_112 : Cond.methodLink (pw_on 8) 112 yX8_isFigure ∈ pw_tb := pw_tb_in (i := 903) (by decide +kernel) rfl
theorem l_8_115 : Cond.methodLink (pw_on 8) 115 yX8_spells ∈ pw_tb := pw_tb_in (i := 914) (by decide +kernel) rfl
theorem l_8_119 : Cond.methodLink (pw_on 8) 119 yX8_otherWord ∈ pw_tb := pw_tb_in (i := 918) (by decide +kernel) rfl
theorem l_8_127 : Cond.methodLink (pw_on 8) 127 yX8_next ∈ pw_tb := pw_tb_in (i := 892) (by decide +kernel) rfl
theorem l_8_145 : Cond.methodLink (pw_on 8) 145 yX8_number ∈ pw_tb := pw_tb_in (i := 926) (by decide +kernel) rfl
theorem l_8_149 : Cond.methodLink (pw_on 8) 149 yX8_laysTable ∈ pw_tb := pw_tb_in (i := 930) (by decide +kernel) rfl
theorem l_8_153 : Cond.methodLink (pw_on 8) 153 yX8_wordOf ∈ pw_tb := pw_tb_in (i := 910) (by decide +kernel) rfl
theorem l_8_156 : Cond.methodLink (pw_on 8) 156 yX8_readTable ∈ pw_tb := pw_tb_in (i := 922) (by decide +kernel) rfl
theorem l_8_159 : Cond.methodLink (pw_on 8) 159 yX8_readName ∈ pw_tb := pw_tb_in (i := 934) (by decide +kernel) rfl
theorem l_8_162 : Cond.methodLink (pw_on 8) 162 yX8_readKnight ∈ pw_tb := pw_tb_in (i := 938) (by decide +kernel) rfl
theorem l_8_165 : Cond.methodLink (pw_on 8) 165 yX8_readEnemies ∈ pw_tb := pw_tb_in (i := 942) (by decide +kernel) rfl
theorem l_8_168 : Cond.methodLink (pw_on 8) 168 yX8_readPeril ∈ pw_tb := pw_tb_in (i := 946) (by decide +kernel) rfl
theorem l_8_180 : Cond.methodLink (pw_on 8) 180 yX8_readClause ∈ pw_tb := pw_tb_in (i := 906) (by decide +kernel) rfl
theorem l_8_183 : Cond.methodLink (pw_on 8) 183 yX8_reads ∈ pw_tb := pw_tb_in (i := 888) (by decide +kernel) rfl
theorem l_8_186 : Cond.methodLink (pw_on 8) 186 yX8_fitsBy ∈ pw_tb := pw_tb_in (i := 989) (by decide +kernel) rfl
theorem l_8_189 : Cond.methodLink (pw_on 8) 189 yX8_fits ∈ pw_tb := pw_tb_in (i := 985) (by decide +kernel) rfl
theorem l_8_192 : Cond.methodLink (pw_on 8) 192 yX8_perilOn ∈ pw_tb := pw_tb_in (i := 966) (by decide +kernel) rfl
theorem l_8_195 : Cond.methodLink (pw_on 8) 195 yX8_isSeat ∈ pw_tb := pw_tb_in (i := 958) (by decide +kernel) rfl
theorem l_8_198 : Cond.methodLink (pw_on 8) 198 yX8_sitter ∈ pw_tb := pw_tb_in (i := 962) (by decide +kernel) rfl
theorem l_8_201 : Cond.methodLink (pw_on 8) 201 yX8_isThere ∈ pw_tb := pw_tb_in (i := 997) (by decide +kernel) rfl
theorem l_8_204 : Cond.methodLink (pw_on 8) 204 yX8_remembers ∈ pw_tb := pw_tb_in (i := 1005) (by decide +kernel) rfl
theorem l_8_207 : Cond.methodLink (pw_on 8) 207 yX8_sitting ∈ pw_tb := pw_tb_in (i := 1009) (by decide +kernel) rfl
theorem l_8_210 : Cond.methodLink (pw_on 8) 210 yX8_bits ∈ pw_tb := pw_tb_in (i := 1013) (by decide +kernel) rfl
theorem l_8_213 : Cond.methodLink (pw_on 8) 213 yX8_allRise ∈ pw_tb := pw_tb_in (i := 1020) (by decide +kernel) rfl
theorem l_8_216 : Cond.methodLink (pw_on 8) 216 yX8_isWrong ∈ pw_tb := pw_tb_in (i := 1036) (by decide +kernel) rfl
theorem l_8_219 : Cond.methodLink (pw_on 8) 219 yX8_wrongs ∈ pw_tb := pw_tb_in (i := 1032) (by decide +kernel) rfl
theorem l_8_222 : Cond.methodLink (pw_on 8) 222 yX8_beside ∈ pw_tb := pw_tb_in (i := 1040) (by decide +kernel) rfl
theorem l_8_225 : Cond.methodLink (pw_on 8) 225 yX8_areEnemies ∈ pw_tb := pw_tb_in (i := 1044) (by decide +kernel) rfl
theorem l_8_228 : Cond.methodLink (pw_on 8) 228 yX8_sitterBy ∈ pw_tb := pw_tb_in (i := 1076) (by decide +kernel) rfl
theorem l_8_240 : Cond.methodLink (pw_on 8) 240 yX8_nextThere ∈ pw_tb := pw_tb_in (i := 1068) (by decide +kernel) rfl
theorem l_8_243 : Cond.methodLink (pw_on 8) 243 yX8_finds ∈ pw_tb := pw_tb_in (i := 1072) (by decide +kernel) rfl
theorem l_8_246 : Cond.methodLink (pw_on 8) 246 yX8_maySit ∈ pw_tb := pw_tb_in (i := 1080) (by decide +kernel) rfl
theorem l_8_249 : Cond.methodLink (pw_on 8) 249 yX8_findSeatings ∈ pw_tb := pw_tb_in (i := 1064) (by decide +kernel) rfl
theorem l_8_252 : Cond.methodLink (pw_on 8) 252 yX8_isWorld ∈ pw_tb := pw_tb_in (i := 1112) (by decide +kernel) rfl
theorem l_8_255 : Cond.methodLink (pw_on 8) 255 yX8_dangers ∈ pw_tb := pw_tb_in (i := 1120) (by decide +kernel) rfl
end
section
/-! branches on numbers and on truths -/
def pw_b (t : Bool) : Int32 := if t then 1 else 0
theorem pw_b0 {t : Bool} : pw_b t = 0 ↔ t = false := by cases t <;> simp [pw_b]
theorem pw_b01 (t : Bool) : pw_b t = 0 ∨ pw_b t = 1 := by cases t <;> simp [pw_b]
section PWN
variable {x : pw_X} {M : pw_M} {d : Nat} {Z : State → Prop} {pc tgt : Nat} {off : Int} {lv : List (Nat × Value)} {r : List Value} {mm : pw_m}
theorem pw_ib_eq {t : Bool} (hd : decode M.2.1 pc = .ok (.ifCond .eq off, 3)) (ht : (pc : Int) + off = (tgt : Int)) (kt : t = false → pw_V x M d Z tgt lv r mm) (kf : t = true → pw_V x M d Z (pc + 3) lv r mm) : pw_V x M d Z pc lv (.int (pw_b t) :: r) mm :=
  pw_if_eq hd ht (fun h => kt (pw_b0.mp h)) (fun h => kf (by cases t; exact absurd rfl h; rfl))
theorem pw_ib_ne {t : Bool} (hd : decode M.2.1 pc = .ok (.ifCond .ne off, 3)) (ht : (pc : Int) + off = (tgt : Int)) (kt : t = true → pw_V x M d Z tgt lv r mm) (kf : t = false → pw_V x M d Z (pc + 3) lv r mm) : pw_V x M d Z pc lv (.int (pw_b t) :: r) mm :=
  pw_if_ne hd ht (fun h => kt (by cases t; exact absurd rfl h; rfl)) (fun h => kf (pw_b0.mp h))
theorem pw_in_eq {a b : Nat} (ha : a < 2 ^ 31) (hb : b < 2 ^ 31) (hd : decode M.2.1 pc = .ok (.if_icmp .eq off, 3)) (ht : (pc : Int) + off = (tgt : Int)) (kt : a = b → pw_V x M d Z tgt lv r mm) (kf : a ≠ b → pw_V x M d Z (pc + 3) lv r mm) : pw_V x M d Z pc lv (.int (nI b) :: .int (nI a) :: r) mm :=
  pw_ic_eq hd ht (fun h => kt ((nI_eq ha hb).mp h)) (fun h => kf (fun e => h ((nI_eq ha hb).mpr e)))
theorem pw_in_ne {a b : Nat} (ha : a < 2 ^ 31) (hb : b < 2 ^ 31) (hd : decode M.2.1 pc = .ok (.if_icmp .ne off, 3)) (ht : (pc : Int) + off = (tgt : Int)) (kt : a ≠ b → pw_V x M d Z tgt lv r mm) (kf : a = b → pw_V x M d Z (pc + 3) lv r mm) : pw_V x M d Z pc lv (.int (nI b) :: .int (nI a) :: r) mm :=
  pw_ic_ne hd ht (fun h => kt (fun e => h ((nI_eq ha hb).mpr e))) (fun h => kf ((nI_eq ha hb).mp h))
theorem pw_in_lt {a b : Nat} (ha : a < 2 ^ 31) (hb : b < 2 ^ 31) (hd : decode M.2.1 pc = .ok (.if_icmp .lt off, 3)) (ht : (pc : Int) + off = (tgt : Int)) (kt : a < b → pw_V x M d Z tgt lv r mm) (kf : b ≤ a → pw_V x M d Z (pc + 3) lv r mm) : pw_V x M d Z pc lv (.int (nI b) :: .int (nI a) :: r) mm :=
  pw_ic_lt hd ht (fun h => kt ((nI_ltI ha hb).mp h)) (fun h => kf (by have h2 : ¬ (a < b) := fun e => h ((nI_ltI ha hb).mpr e); omega))
theorem pw_in_ge {a b : Nat} (ha : a < 2 ^ 31) (hb : b < 2 ^ 31) (hd : decode M.2.1 pc = .ok (.if_icmp .ge off, 3)) (ht : (pc : Int) + off = (tgt : Int)) (kt : b ≤ a → pw_V x M d Z tgt lv r mm) (kf : a < b → pw_V x M d Z (pc + 3) lv r mm) : pw_V x M d Z pc lv (.int (nI b) :: .int (nI a) :: r) mm :=
  pw_ic_ge hd ht (fun h => kt ((nI_leI hb ha).mp h)) (fun h => kf (by have h2 : ¬ (b ≤ a) := fun e => h ((nI_leI hb ha).mpr e); omega))
theorem pw_in_gt {a b : Nat} (ha : a < 2 ^ 31) (hb : b < 2 ^ 31) (hd : decode M.2.1 pc = .ok (.if_icmp .gt off, 3)) (ht : (pc : Int) + off = (tgt : Int)) (kt : b < a → pw_V x M d Z tgt lv r mm) (kf : a ≤ b → pw_V x M d Z (pc + 3) lv r mm) : pw_V x M d Z pc lv (.int (nI b) :: .int (nI a) :: r) mm :=
  pw_ic_gt hd ht (fun h => kt ((nI_ltI hb ha).mp h)) (fun h => kf (by have h2 : ¬ (b < a) := fun e => h ((nI_ltI hb ha).mpr e); omega))
theorem pw_in_le {a b : Nat} (ha : a < 2 ^ 31) (hb : b < 2 ^ 31) (hd : decode M.2.1 pc = .ok (.if_icmp .le off, 3)) (ht : (pc : Int) + off = (tgt : Int)) (kt : a ≤ b → pw_V x M d Z tgt lv r mm) (kf : b < a → pw_V x M d Z (pc + 3) lv r mm) : pw_V x M d Z pc lv (.int (nI b) :: .int (nI a) :: r) mm :=
  pw_ic_le hd ht (fun h => kt ((nI_leI ha hb).mp h)) (fun h => kf (by have h2 : ¬ (a ≤ b) := fun e => h ((nI_leI ha hb).mpr e); omega))
theorem pw_iz_eq {a : Nat} (ha : a < 2 ^ 31) (hd : decode M.2.1 pc = .ok (.ifCond .eq off, 3)) (ht : (pc : Int) + off = (tgt : Int)) (kt : a = 0 → pw_V x M d Z tgt lv r mm) (kf : a ≠ 0 → pw_V x M d Z (pc + 3) lv r mm) : pw_V x M d Z pc lv (.int (nI a) :: r) mm :=
  pw_if_eq hd ht (fun h => kt ((nI_eq ha (by decide)).mp h)) (fun h => kf (fun e => h ((nI_eq ha (by decide)).mpr e)))
theorem pw_iz_ne {a : Nat} (ha : a < 2 ^ 31) (hd : decode M.2.1 pc = .ok (.ifCond .ne off, 3)) (ht : (pc : Int) + off = (tgt : Int)) (kt : a ≠ 0 → pw_V x M d Z tgt lv r mm) (kf : a = 0 → pw_V x M d Z (pc + 3) lv r mm) : pw_V x M d Z pc lv (.int (nI a) :: r) mm :=
  pw_if_ne hd ht (fun h => kt (fun e => h ((nI_eq ha (by decide)).mpr e))) (fun h => kf ((nI_eq ha (by decide)).mp h))
theorem pw_iz_gt {a : Nat} (ha : a < 2 ^ 31) (hd : decode M.2.1 pc = .ok (.ifCond .gt off, 3)) (ht : (pc : Int) + off = (tgt : Int)) (kt : 0 < a → pw_V x M d Z tgt lv r mm) (kf : a = 0 → pw_V x M d Z (pc + 3) lv r mm) : pw_V x M d Z pc lv (.int (nI a) :: r) mm :=
  pw_if_gt hd ht (fun h => kt ((nI_ltI (by decide) ha).mp h)) (fun h => kf (by have h2 : ¬ (0 < a) := fun e => h ((nI_ltI (by decide) ha).mpr e); omega))
theorem pw_iz_le {a : Nat} (ha : a < 2 ^ 31) (hd : decode M.2.1 pc = .ok (.ifCond .le off, 3)) (ht : (pc : Int) + off = (tgt : Int)) (kt : a = 0 → pw_V x M d Z tgt lv r mm) (kf : 0 < a → pw_V x M d Z (pc + 3) lv r mm) : pw_V x M d Z pc lv (.int (nI a) :: r) mm :=
  pw_if_le hd ht (fun h => kt (by have h2 : a ≤ 0 := (nI_leI ha (by decide)).mp h; omega)) (fun h => kf (by have h2 : ¬ (a ≤ 0) := fun e => h ((nI_leI ha (by decide)).mpr e); omega))
theorem pw_iz_lt {a : Nat} (ha : a < 2 ^ 31) (hd : decode M.2.1 pc = .ok (.ifCond .lt off, 3)) (ht : (pc : Int) + off = (tgt : Int)) (kf : pw_V x M d Z (pc + 3) lv r mm) : pw_V x M d Z pc lv (.int (nI a) :: r) mm :=
  pw_if_lt hd ht (fun h => absurd h (nI_pos ha)) (fun _ => kf)
theorem pw_iz_ge {a : Nat} (ha : a < 2 ^ 31) (hd : decode M.2.1 pc = .ok (.ifCond .ge off, 3)) (ht : (pc : Int) + off = (tgt : Int)) (kt : pw_V x M d Z tgt lv r mm) : pw_V x M d Z pc lv (.int (nI a) :: r) mm :=
  pw_if_ge hd ht (fun _ => kt) (fun h => absurd (nI_pos' ha) h)
end PWN
end
section
/-! plain facts: numbers, sets of bits, the first and the last -/
theorem fa_and (a b : Nat) : nI a &&& nI b = nI (a &&& b) := by
  apply Int32.toBitVec_inj.mp
  simp [nI, BitVec.ofNat_and]
theorem fa_or (a b : Nat) : nI a ||| nI b = nI (a ||| b) := by
  apply Int32.toBitVec_inj.mp
  simp [nI, BitVec.ofNat_or]
theorem pw_shl1 {i : Nat} (h : i < 31) : nI 1 <<< (nI i &&& 31) = nI (2 ^ i) := by
  have e : (nI i &&& 31).toBitVec.smod 32 = BitVec.ofNat 32 i := by
    revert i; decide
  exact (pk_shlN (n := 1) _ i (by rw [e]; simp; omega) (by have := Nat.pow_lt_pow_right (show 1 < 2 by omega) (show i < 32 by omega); omega)).trans (by rw [Nat.one_mul])
theorem pw_shr {b i : Nat} (hb : b < 2 ^ 31) (h : i < 31) : nI b >>> (nI i &&& 31) = nI (b / 2 ^ i) := by
  have e : (nI i &&& 31).toBitVec.smod 32 = BitVec.ofNat 32 i := by
    revert i; decide
  exact pk_shrN hb _ i (by rw [e]; simp; omega)
theorem pw_n1 {a : Nat} (h : a < 2 ^ 31) : ¬ nI a = -1 := by
  intro q
  have h1 := nI_toInt h
  rw [q] at h1
  exact absurd h1 (by rw [show (-1 : Int32).toInt = -1 from by decide]; omega)
theorem pw_m1_lt {a : Nat} (h : a < 2 ^ 31) : (-1 : Int32) < nI a := by
  rw [Int32.lt_iff_toInt_lt, nI_toInt h, show (-1 : Int32).toInt = -1 from by decide]; omega
/-- the number of an Int32 that is none below 0 -/
def pw_c (v : Int32) : Nat := v.toNatClampNeg
theorem pw_c_nI {a : Nat} (h : a < 2 ^ 31) : pw_c (nI a) = a := nI_clamp h
/-- an Int32 that is a number or -1 -/
def pw_o : Option Nat → Int32
  | none => -1
  | some a => nI a
def pw_oc (v : Int32) : Option Nat := if v = -1 then none else some (pw_c v)
theorem pw_oc_o {q : Option Nat} (h : ∀ a, q = some a → a < 2 ^ 31) : pw_oc (pw_o q) = q := by
  cases q with
  | none => rfl
  | some a => simp [pw_oc, pw_o, pw_n1 (h a rfl), pw_c_nI (h a rfl)]
theorem pw_o_inj {p q : Option Nat} (hp : ∀ a, p = some a → a < 2 ^ 31) (hq : ∀ a, q = some a → a < 2 ^ 31) : pw_o p = pw_o q ↔ p = q := by
  constructor
  · intro h
    rw [← pw_oc_o hp, ← pw_oc_o hq, h]
  · intro h; rw [h]
theorem pw_o_some {p : Option Nat} {a : Nat} (hp : ∀ a, p = some a → a < 2 ^ 31) (ha : a < 2 ^ 31) : pw_o p = nI a ↔ p = some a := pw_o_inj (q := some a) hp (fun b h => by cases h; exact ha)
/-- backwards along a counter -/
theorem pw_dn {P : Nat → Prop} (N : Nat) (h : ∀ i, i ≤ N → (i + 1 ≤ N → P (i + 1)) → P i) : ∀ i, i ≤ N → P i := by
  have key : ∀ n i, i + n = N → P i := by
    intro n
    induction n with
    | zero => intro i hi; exact h i (by omega) (fun q => absurd q (by omega))
    | succ n ih => intro i hi; exact h i (by omega) (fun _ => ih (i + 1) (by omega))
  exact fun i hi => key (N - i) i (by omega)
/-- the first, the last, how many below n are such; which, by bits -/
def pw_ff (p : Nat → Bool) : Nat → Option Nat
  | 0 => none
  | n + 1 => match pw_ff p n with
    | some j => some j
    | none => if p n then some n else none
def pw_lf (p : Nat → Bool) : Nat → Option Nat
  | 0 => none
  | n + 1 => if p n then some n else pw_lf p n
def pw_ob (p : Nat → Bool) : Nat → Nat
  | 0 => 0
  | n + 1 => pw_ob p n ||| (if p n then 2 ^ n else 0)
def pw_ct_ (p : Nat → Bool) : Nat → Nat
  | 0 => 0
  | n + 1 => pw_ct_ p n + (if p n then 1 else 0)
theorem pw_ff_up {p : Nat → Bool} {i n j : Nat} (h : pw_ff p i = some j) (hn : i ≤ n) : pw_ff p n = some j := by
  induction n with
  | zero => have : i = 0 := by omega
            subst this; exact h
  | succ n ih =>
    rcases Nat.lt_or_ge n i with q | q
    · have : i = n + 1 := by omega
      subst this; exact h
    · simp [pw_ff, ih q]
theorem pw_ff_n1 {p : Nat → Bool} {n : Nat} (h : pw_ff p n = none) : ∀ k, k < n → p k = false := by
  induction n with
  | zero => intro k hk; omega
  | succ n ih =>
    intro k hk
    unfold pw_ff at h
    cases hz : pw_ff p n with
    | some _ => rw [hz] at h; cases h
    | none =>
      rw [hz] at h
      dsimp only at h
      rcases Nat.lt_or_ge k n with q | q
      · exact ih hz k q
      · have : k = n := by omega
        subst this
        cases hp : p k with
        | false => rfl
        | true => rw [hp] at h; cases h
theorem pw_ff_s {p : Nat → Bool} {n j : Nat} (h : pw_ff p n = some j) : j < n ∧ p j = true ∧ ∀ k, k < j → p k = false := by
  induction n with
  | zero => cases h
  | succ n ih =>
    unfold pw_ff at h
    cases hq : pw_ff p n with
    | some i =>
      rw [hq] at h
      have e : i = j := Option.some.inj h
      rw [e] at hq
      obtain ⟨a, b, c⟩ := ih hq
      exact ⟨by omega, b, c⟩
    | none =>
      rw [hq] at h
      dsimp only at h
      split at h
      · rename_i hp
        have e : n = j := Option.some.inj h
        rw [← e]
        exact ⟨by omega, hp, pw_ff_n1 hq⟩
      · cases h
theorem pw_ff_n {p : Nat → Bool} {n : Nat} : pw_ff p n = none ↔ ∀ k, k < n → p k = false := by
  induction n with
  | zero => exact ⟨fun _ k hk => absurd hk (by omega), fun _ => rfl⟩
  | succ n ih =>
    unfold pw_ff
    cases hq : pw_ff p n with
    | some i =>
      obtain ⟨a, b, -⟩ := pw_ff_s hq
      refine ⟨fun h => (by cases h), fun h => ?_⟩
      rw [h i (by omega)] at b
      cases b
    | none =>
      have h1 := ih.mp hq
      dsimp only
      constructor
      · intro h k hk
        rcases Nat.lt_or_ge k n with q | q
        · exact h1 k q
        · have : k = n := by omega
          subst this
          cases hp : p k with
          | false => rfl
          | true => rw [hp] at h; cases h
      · intro h
        rw [h n (by omega)]
        rfl
theorem pw_lf_s {p : Nat → Bool} {n j : Nat} (h : pw_lf p n = some j) : j < n ∧ p j = true := by
  induction n with
  | zero => cases h
  | succ n ih =>
    unfold pw_lf at h
    split at h
    · cases h; exact ⟨by omega, by assumption⟩
    · obtain ⟨a, b⟩ := ih h; exact ⟨by omega, b⟩
theorem pw_lf_n {p : Nat → Bool} {n : Nat} : pw_lf p n = none ↔ ∀ k, k < n → p k = false := by
  induction n with
  | zero => exact ⟨fun _ k hk => absurd hk (by omega), fun _ => rfl⟩
  | succ n ih =>
    unfold pw_lf
    constructor
    · intro h k hk
      split at h
      · cases h
      · rename_i hp
        rcases Nat.lt_or_ge k n with q | q
        · exact ih.mp h k q
        · have : k = n := by omega
          subst this
          simpa using hp
    · intro h
      rw [h n (by omega)]
      exact ih.mpr (fun k hk => h k (by omega))
/-- one at most: the first is the last -/
theorem pw_ff_lf {p : Nat → Bool} {n m : Nat} (hm : m ≤ n) (h0 : ∀ k, m ≤ k → k < n → p k = false) (h1 : ∀ i j, i < m → j < m → p i = true → p j = true → i = j) : pw_ff p n = pw_lf p m := by
  cases hq : pw_lf p m with
  | none =>
    rw [pw_ff_n]
    intro k hk
    rcases Nat.lt_or_ge k m with q | q
    · exact pw_lf_n.mp hq k q
    · exact h0 k q hk
  | some j =>
    obtain ⟨a, b⟩ := pw_lf_s hq
    cases hz : pw_ff p n with
    | none => rw [pw_ff_n.mp hz j (by omega)] at b; cases b
    | some i =>
      obtain ⟨c, d, -⟩ := pw_ff_s hz
      have hi : i < m := by
        rcases Nat.lt_or_ge i m with q | q
        · exact q
        · rw [h0 i q c] at d; cases d
      rw [h1 i j hi a d b]
theorem pw_ob_bit {p : Nat → Bool} {n i : Nat} : (pw_ob p n).testBit i = (decide (i < n) && p i) := by
  induction n with
  | zero => simp [pw_ob]
  | succ n ih =>
    simp only [pw_ob, Nat.testBit_or, ih]
    split
    · rename_i hp
      rw [Nat.testBit_two_pow]
      rcases Nat.lt_trichotomy i n with q | q | q
      · simp [q, show i < n + 1 by omega, show ¬ n = i by omega]
      · subst q; simp [hp]
      · simp [show ¬ i < n by omega, show ¬ i < n + 1 by omega, show ¬ n = i by omega]
    · rename_i hp
      rcases Nat.lt_trichotomy i n with q | q | q
      · simp [q, show i < n + 1 by omega]
      · subst q; simp at hp; simp [hp]
      · simp [show ¬ i < n by omega, show ¬ i < n + 1 by omega]
theorem pw_ob_lt {p : Nat → Bool} {n : Nat} : pw_ob p n < 2 ^ n := by
  induction n with
  | zero => simp [pw_ob]
  | succ n ih =>
    have h2 : 2 ^ (n + 1) = 2 ^ n * 2 := Nat.pow_succ 2 n
    simp only [pw_ob]
    split
    · exact Nat.or_lt_two_pow (by omega) (by omega)
    · rw [Nat.or_zero]; omega
theorem pw_ob_lt31 {p : Nat → Bool} {n : Nat} (h : n ≤ 30) : pw_ob p n < 2 ^ 31 := Nat.lt_of_lt_of_le pw_ob_lt (Nat.pow_le_pow_right (by omega) (by omega))
theorem pw_ob_congr {p q : Nat → Bool} {n : Nat} (h : ∀ i, i < n → p i = q i) : pw_ob p n = pw_ob q n := by
  induction n with
  | zero => rfl
  | succ n ih => simp only [pw_ob]; rw [ih (fun i hi => h i (by omega)), h n (by omega)]
theorem pw_ct_congr {p q : Nat → Bool} {n : Nat} (h : ∀ i, i < n → p i = q i) : pw_ct_ p n = pw_ct_ q n := by
  induction n with
  | zero => rfl
  | succ n ih => simp only [pw_ct_]; rw [ih (fun i hi => h i (by omega)), h n (by omega)]
theorem pw_ct_le {p : Nat → Bool} {n : Nat} : pw_ct_ p n ≤ n := by
  induction n with
  | zero => exact Nat.le_refl 0
  | succ n ih => simp only [pw_ct_]; split <;> omega
theorem pw_ff_congr {p q : Nat → Bool} {n : Nat} (h : ∀ i, i < n → p i = q i) : pw_ff p n = pw_ff q n := by
  induction n with
  | zero => rfl
  | succ n ih => simp only [pw_ff]; rw [ih (fun i hi => h i (by omega)), h n (by omega)]
theorem pw_lf_congr {p q : Nat → Bool} {n : Nat} (h : ∀ i, i < n → p i = q i) : pw_lf p n = pw_lf q n := by
  induction n with
  | zero => rfl
  | succ n ih => simp only [pw_lf]; rw [ih (fun i hi => h i (by omega)), h n (by omega)]
/-- the bit test of the class, of the model -/
def pw_hs (b a : Int32) : Bool := !decide ((b >>> (a &&& 31)) &&& nI 1 = 0)
def pw_ht (b a : Int32) : Bool := decide ((b >>> (a &&& 31)) &&& nI 1 = nI 1)
theorem pw_and1 (n : Nat) : nI n &&& nI 1 = nI (n % 2) := by rw [fa_and, Nat.and_one_is_mod]
theorem pw_tb_eq (b i : Nat) : b.testBit i = decide (b / 2 ^ i % 2 = 1) := by
  rw [Nat.testBit_eq_decide_div_mod_eq]
theorem pw_hs_n {b i : Nat} (hb : b < 2 ^ 31) (hi : i < 31) : pw_hs (nI b) (nI i) = b.testBit i := by
  unfold pw_hs
  rw [pw_shr hb hi, pw_and1, pw_tb_eq]
  rcases Nat.mod_two_eq_zero_or_one (b / 2 ^ i) with q | q <;> rw [q] <;> decide
theorem pw_ht_n {b i : Nat} (hb : b < 2 ^ 31) (hi : i < 31) : pw_ht (nI b) (nI i) = b.testBit i := by
  unfold pw_ht
  rw [pw_shr hb hi, pw_and1, pw_tb_eq]
  rcases Nat.mod_two_eq_zero_or_one (b / 2 ^ i) with q | q <;> rw [q] <;> decide
end
section
/-! what the class's memory is, in plain words; when it is well -/
def pw_fine (v : Int32) (N : Nat) : Prop := v = nI (pw_c v) ∧ pw_c v < N
def pw_fino (v : Int32) (N : Nat) : Prop := v = pw_o (pw_oc v) ∧ ∀ a, pw_oc v = some a → a < N
theorem pw_fine_nI {a N : Nat} (h : a < N) (hN : N < 2 ^ 31) : pw_fine (nI a) N := ⟨by rw [pw_c_nI (by omega)], by rw [pw_c_nI (by omega)]; exact h⟩
theorem pw_fino_o {q : Option Nat} {N : Nat} (h : ∀ a, q = some a → a < N) (hN : N < 2 ^ 31) : pw_fino (pw_o q) N := by
  have e := pw_oc_o (q := q) (fun a ha => Nat.lt_trans (h a ha) hN)
  exact ⟨by rw [e], by rw [e]; exact h⟩
theorem pw_fine.up {v : Int32} {N M : Nat} (h : pw_fine v N) (hm : N ≤ M) : pw_fine v M := ⟨h.1, Nat.lt_of_lt_of_le h.2 hm⟩
/-- a number of the memory; none, or whom the peril is meant for -/
def pw_g (A : pw_m) (c k : Nat) : Nat := pw_c (A c k)
def pw_mt (A : pw_m) : Option Nat := pw_oc (A 4 10)
/-- an evening whose object is the cell e -/
def pw_ev (A : pw_m) (e n k : Nat) : Prop :=
  (pw_fine (A e 0) 1000 ∧ pw_fine (A e 1) (2 ^ k)) ∧ (∀ j, j < 6 → pw_fine (A (e + 1) j) 10) ∧ (∀ j, j < 6 → pw_fine (A (e + 2) j) 16) ∧ (∀ j, j < 6 → pw_fino (A (e + 3) j) n) ∧ (∀ j, j < 6 → k ≤ j → pw_oc (A (e + 3) j) = none) ∧
  ∀ i j s, i < 6 → j < 6 → pw_oc (A (e + 3) i) = some s → pw_oc (A (e + 3) j) = some s → i = j
def pw_n (A : pw_m) : Nat := pw_c (A 4 0)
def pw_k (A : pw_m) : Nat := pw_c (A 4 1)
/-- the ring's place of the i-th oldest that can be undone -/
def pw_rg (A : pw_m) (i : Nat) : Nat := (pw_g A 11 4 + 8 - pw_g A 11 2 + i) % 8
def pw_okT (A : pw_m) : Prop := (pw_fine (A 4 0) 9 ∧ pw_fine (A 4 1) 7) ∧ (∀ j, j < 8 → pw_fine (A 5 j) 5 ∧ pw_fine (A 6 j) 10) ∧ (∀ j, j < 6 → (pw_fine (A 7 j) 3 ∧ pw_fine (A 8 j) 10) ∧ pw_fine (A 9 j) 10 ∧ pw_fine (A 10 j) 64) ∧ (pw_fine (A 4 8) 8 ∧ pw_fine (A 4 9) 8 ∧ pw_fino (A 4 10) 6)
def pw_okU (A : pw_m) : Prop := (pw_fine (A 11 2) 9 ∧ pw_fine (A 11 4) 8 ∧ ∀ i, i < pw_g A 11 2 → pw_ev A (46 + 4 * pw_rg A i) (pw_n A) (pw_k A)) ∧ (pw_fine (A 11 3) 4 ∧ ∀ i, i < 2 → (pw_g A 11 3).testBit i = true → pw_ev A (78 + 4 * i) (pw_n A) (pw_k A))
def pw_okW (A : pw_m) : Prop := pw_fine (A 14 4) 9 ∧ ∀ i, i < pw_g A 14 4 → (pw_fine (A 15 i) (pw_k A) ∧ pw_fine (A 16 i) (pw_n A)) ∧ pw_fine (A 17 i) 1000 ∧ (A 18 i = 0 ∨ A 18 i = 1)
def pw_okX (A : pw_m) : Prop := pw_fine (A 2 1) 161 ∧ ∀ i, i < pw_g A 2 1 → pw_fine (A 3 i) 256
def pw_ok (A : pw_m) : Prop := pw_okT A ∧ pw_ev A 42 (pw_n A) (pw_k A) ∧ pw_okU A ∧ pw_okW A ∧ pw_okX A
section PWQ
variable {A : pw_m}
theorem pw_bn (h : pw_ok A) : pw_n A ≤ 8 := by have := h.1.1.1.2; unfold pw_n; omega
theorem pw_bk (h : pw_ok A) : pw_k A ≤ 6 := by have := h.1.1.2.2; unfold pw_k; omega
theorem pw_q40 (h : pw_ok A) : A 4 0 = nI (pw_n A) := h.1.1.1.1
theorem pw_q41 (h : pw_ok A) : A 4 1 = nI (pw_k A) := h.1.1.2.1
theorem pw_q5 (h : pw_ok A) {j : Nat} (hj : j < 8) : A 5 j = nI (pw_g A 5 j) := (h.1.2.1 j hj).1.1
theorem pw_b5 (h : pw_ok A) {j : Nat} (hj : j < 8) : pw_g A 5 j < 5 := (h.1.2.1 j hj).1.2
theorem pw_q6 (h : pw_ok A) {j : Nat} (hj : j < 8) : A 6 j = nI (pw_g A 6 j) := (h.1.2.1 j hj).2.1
theorem pw_b6 (h : pw_ok A) {j : Nat} (hj : j < 8) : pw_g A 6 j < 10 := (h.1.2.1 j hj).2.2
theorem pw_q7 (h : pw_ok A) {j : Nat} (hj : j < 6) : A 7 j = nI (pw_g A 7 j) := (h.1.2.2.1 j hj).1.1.1
theorem pw_b7 (h : pw_ok A) {j : Nat} (hj : j < 6) : pw_g A 7 j < 3 := (h.1.2.2.1 j hj).1.1.2
theorem pw_q8 (h : pw_ok A) {j : Nat} (hj : j < 6) : A 8 j = nI (pw_g A 8 j) := (h.1.2.2.1 j hj).1.2.1
theorem pw_b8 (h : pw_ok A) {j : Nat} (hj : j < 6) : pw_g A 8 j < 10 := (h.1.2.2.1 j hj).1.2.2
theorem pw_q9 (h : pw_ok A) {j : Nat} (hj : j < 6) : A 9 j = nI (pw_g A 9 j) := (h.1.2.2.1 j hj).2.1.1
theorem pw_b9 (h : pw_ok A) {j : Nat} (hj : j < 6) : pw_g A 9 j < 10 := (h.1.2.2.1 j hj).2.1.2
theorem pw_q10 (h : pw_ok A) {j : Nat} (hj : j < 6) : A 10 j = nI (pw_g A 10 j) := (h.1.2.2.1 j hj).2.2.1
theorem pw_b10 (h : pw_ok A) {j : Nat} (hj : j < 6) : pw_g A 10 j < 64 := (h.1.2.2.1 j hj).2.2.2
theorem pw_q48 (h : pw_ok A) : A 4 8 = nI (pw_g A 4 8) := h.1.2.2.2.1.1
theorem pw_b48 (h : pw_ok A) : pw_g A 4 8 < 8 := h.1.2.2.2.1.2
theorem pw_q49 (h : pw_ok A) : A 4 9 = nI (pw_g A 4 9) := h.1.2.2.2.2.1.1
theorem pw_b49 (h : pw_ok A) : pw_g A 4 9 < 8 := h.1.2.2.2.2.1.2
theorem pw_q410 (h : pw_ok A) : A 4 10 = pw_o (pw_mt A) := h.1.2.2.2.2.2.1
theorem pw_b410 (h : pw_ok A) {a : Nat} (ha : pw_mt A = some a) : a < 6 := h.1.2.2.2.2.2.2 a ha
theorem pw_q420 (h : pw_ok A) : A 42 0 = nI (pw_g A 42 0) := h.2.1.1.1.1
theorem pw_b420 (h : pw_ok A) : pw_g A 42 0 < 1000 := h.2.1.1.1.2
theorem pw_q421 (h : pw_ok A) : A 42 1 = nI (pw_g A 42 1) := h.2.1.1.2.1
theorem pw_b421 (h : pw_ok A) : pw_g A 42 1 < 2 ^ pw_k A := h.2.1.1.2.2
theorem pw_b421' (h : pw_ok A) : pw_g A 42 1 < 64 := Nat.lt_of_lt_of_le (pw_b421 h) (Nat.pow_le_pow_right (by omega) (pw_bk h) : 2 ^ pw_k A ≤ 2 ^ 6)
theorem pw_q43 (h : pw_ok A) {j : Nat} (hj : j < 6) : A 43 j = nI (pw_g A 43 j) := (h.2.1.2.1 j hj).1
theorem pw_b43 (h : pw_ok A) {j : Nat} (hj : j < 6) : pw_g A 43 j < 10 := (h.2.1.2.1 j hj).2
theorem pw_q44 (h : pw_ok A) {j : Nat} (hj : j < 6) : A 44 j = nI (pw_g A 44 j) := (h.2.1.2.2.1 j hj).1
theorem pw_b44 (h : pw_ok A) {j : Nat} (hj : j < 6) : pw_g A 44 j < 16 := (h.2.1.2.2.1 j hj).2
theorem pw_q45 (h : pw_ok A) {j : Nat} (hj : j < 6) : A 45 j = pw_o (pw_oc (A 45 j)) := (h.2.1.2.2.2.1 j hj).1
theorem pw_b45 (h : pw_ok A) {j s : Nat} (hj : j < 6) (hs : pw_oc (A 45 j) = some s) : s < pw_n A := (h.2.1.2.2.2.1 j hj).2 s hs
theorem pw_b45k (h : pw_ok A) {j s : Nat} (hj : j < 6) (hs : pw_oc (A 45 j) = some s) : j < pw_k A := by
  rcases Nat.lt_or_ge j (pw_k A) with q | q
  · exact q
  · rw [h.2.1.2.2.2.2.1 j hj q] at hs; cases hs
theorem pw_b45i (h : pw_ok A) {i j s : Nat} (hi : i < 6) (hj : j < 6) (h1 : pw_oc (A 45 i) = some s) (h2 : pw_oc (A 45 j) = some s) : i = j := h.2.1.2.2.2.2.2 i j s hi hj h1 h2
end PWQ
/-! the plain functions -/
def pw_fitB (nk nn kd hs rn : Nat) : Bool := if nk = 4 then false else if kd = 2 then true else if nk = 1 then decide (nn ≤ rn) else if nk = 2 then decide (rn ≤ nn) else if nk = 3 then decide (hs = nn) else true
def pw_fit (A : pw_m) (k rn s : Nat) : Bool := pw_fitB (pw_g A 5 s) (pw_g A 6 s) (pw_g A 7 k) (pw_g A 9 k) rn
def pw_fnow (A : pw_m) (k s : Nat) : Bool := pw_fit A k (pw_g A 43 k) s
def pw_per (n st sp day : Nat) : Option Nat := if n = 0 then none else some ((st + sp * day) % n)
def pw_pon (A : pw_m) : Option Nat := pw_per (pw_n A) (pw_g A 4 8) (pw_g A 4 9) (pw_g A 42 0)
def pw_pl (A : pw_m) (j : Nat) : Option Nat := pw_oc (A 45 j)
def pw_inp (A : pw_m) (k s : Nat) : Bool := decide (pw_pon A = some s) && (!decide (pw_mt A = some k) && !decide (pw_g A 7 k = 1))
def pw_wr (A : pw_m) (j : Nat) : Bool := match pw_pl A j with
  | none => false
  | some s => !pw_fnow A j s || pw_inp A j s
def pw_wrs (A : pw_m) : Nat := pw_ob (pw_wr A) (pw_k A)
def pw_si (A : pw_m) (s : Nat) : Option Nat := pw_ff (fun j => decide (pw_pl A j = some s)) 6
def pw_sb (A : pw_m) : Nat := pw_ob (fun j => (pw_pl A j).isSome) 6
def pw_bh (n s : Nat) : Nat := if s + 1 < n then s + 1 else 0
def pw_ah (n s : Nat) : Nat := if 0 < s then s - 1 else n - 1
/-- is one, by its number, an enemy of another -/
def pw_en (A : pw_m) (i : Nat) (q : Option Nat) : Bool := match q with
  | none => false
  | some k => (pw_g A 10 i).testBit k
theorem pw_bh_lt {n s : Nat} (h : s < n) : pw_bh n s < n := by unfold pw_bh; split <;> omega
theorem pw_ah_lt {n s : Nat} (h : s < n) : pw_ah n s < n := by unfold pw_ah; split <;> omega
theorem pw_si_lt {A : pw_m} {s j : Nat} (h : pw_si A s = some j) : j < 6 := (pw_ff_s h).1
theorem pw_pon_lt {A : pw_m} {s : Nat} (h : pw_pon A = some s) : s < pw_n A := by
  unfold pw_pon pw_per at h
  split at h
  · cases h
  · cases h; exact Nat.mod_lt _ (by omega)
/-! branches on a number or none -/
def pw_inr (s : Int32) (n : Nat) : Bool := !decide (s < 0) && decide (s < nI n)
theorem pw_inr_t {s : Int32} {n : Nat} (hn : n < 2 ^ 31) (h : pw_inr s n = true) : ∃ j : Nat, j < n ∧ s = nI j := by
  unfold pw_inr at h
  rw [Bool.and_eq_true] at h
  have h1 : ¬ s < 0 := by simpa using h.1
  obtain ⟨j, hj, e⟩ := nI_of h1
  subst e
  exact ⟨j, (nI_ltI hj hn).mp (of_decide_eq_true h.2), rfl⟩
theorem pw_inr_nI {j n : Nat} (hj : j < 2 ^ 31) (hn : n < 2 ^ 31) : pw_inr (nI j) n = decide (j < n) := by
  unfold pw_inr
  have h1 := nI_pos hj
  have h2 := nI_ltI hj hn
  by_cases q : j < n
  · simp [h1, q, h2.mpr q]
  · simp [q]
    exact fun _ => nI_le (by omega) hj
section PWOO
variable {x : pw_X} {M : pw_M} {d : Nat} {Z : State → Prop} {pc tgt : Nat} {off : Int} {lv : List (Nat × Value)} {r : List Value} {mm : pw_m}
theorem pw_on_eq {a : Option Nat} {b : Nat} (hd : decode M.2.1 pc = .ok (.if_icmp .eq off, 3)) (ht : (pc : Int) + off = (tgt : Int)) (ha : ∀ c, a = some c → c < 2 ^ 31) (hb : b < 2 ^ 31) (kt : a = some b → pw_V x M d Z tgt lv r mm) (kf : ¬ a = some b → pw_V x M d Z (pc + 3) lv r mm) : pw_V x M d Z pc lv (.int (nI b) :: .int (pw_o a) :: r) mm :=
  pw_ic_eq hd ht (fun h => kt ((pw_o_some ha hb).mp h)) (fun h => kf (fun e => h ((pw_o_some ha hb).mpr e)))
theorem pw_on_ne {a : Option Nat} {b : Nat} (hd : decode M.2.1 pc = .ok (.if_icmp .ne off, 3)) (ht : (pc : Int) + off = (tgt : Int)) (ha : ∀ c, a = some c → c < 2 ^ 31) (hb : b < 2 ^ 31) (kt : ¬ a = some b → pw_V x M d Z tgt lv r mm) (kf : a = some b → pw_V x M d Z (pc + 3) lv r mm) : pw_V x M d Z pc lv (.int (nI b) :: .int (pw_o a) :: r) mm :=
  pw_ic_ne hd ht (fun h => kt (fun e => h ((pw_o_some ha hb).mpr e))) (fun h => kf ((pw_o_some ha hb).mp h))
theorem pw_no_eq {a : Option Nat} {b : Nat} (hd : decode M.2.1 pc = .ok (.if_icmp .eq off, 3)) (ht : (pc : Int) + off = (tgt : Int)) (hb : b < 2 ^ 31) (ha : ∀ c, a = some c → c < 2 ^ 31) (kt : a = some b → pw_V x M d Z tgt lv r mm) (kf : ¬ a = some b → pw_V x M d Z (pc + 3) lv r mm) : pw_V x M d Z pc lv (.int (pw_o a) :: .int (nI b) :: r) mm :=
  pw_ic_eq hd ht (fun h => kt ((pw_o_some ha hb).mp h.symm)) (fun h => kf (fun e => h ((pw_o_some ha hb).mpr e).symm))
theorem pw_no_ne {a : Option Nat} {b : Nat} (hd : decode M.2.1 pc = .ok (.if_icmp .ne off, 3)) (ht : (pc : Int) + off = (tgt : Int)) (hb : b < 2 ^ 31) (ha : ∀ c, a = some c → c < 2 ^ 31) (kt : ¬ a = some b → pw_V x M d Z tgt lv r mm) (kf : a = some b → pw_V x M d Z (pc + 3) lv r mm) : pw_V x M d Z pc lv (.int (pw_o a) :: .int (nI b) :: r) mm :=
  pw_ic_ne hd ht (fun h => kt (fun e => h ((pw_o_some ha hb).mpr e).symm)) (fun h => kf ((pw_o_some ha hb).mp h.symm))
theorem pw_oo_eq {a b : Option Nat} (hd : decode M.2.1 pc = .ok (.if_icmp .eq off, 3)) (ht : (pc : Int) + off = (tgt : Int)) (ha : ∀ c, a = some c → c < 2 ^ 31) (hb : ∀ c, b = some c → c < 2 ^ 31) (kt : a = b → pw_V x M d Z tgt lv r mm) (kf : ¬ a = b → pw_V x M d Z (pc + 3) lv r mm) : pw_V x M d Z pc lv (.int (pw_o b) :: .int (pw_o a) :: r) mm :=
  pw_ic_eq hd ht (fun h => kt ((pw_o_inj ha hb).mp h)) (fun h => kf (fun e => h ((pw_o_inj ha hb).mpr e)))
theorem pw_oo_ne {a b : Option Nat} (hd : decode M.2.1 pc = .ok (.if_icmp .ne off, 3)) (ht : (pc : Int) + off = (tgt : Int)) (ha : ∀ c, a = some c → c < 2 ^ 31) (hb : ∀ c, b = some c → c < 2 ^ 31) (kt : ¬ a = b → pw_V x M d Z tgt lv r mm) (kf : a = b → pw_V x M d Z (pc + 3) lv r mm) : pw_V x M d Z pc lv (.int (pw_o b) :: .int (pw_o a) :: r) mm :=
  pw_ic_ne hd ht (fun h => kt (fun e => h ((pw_o_inj ha hb).mpr e))) (fun h => kf ((pw_o_inj ha hb).mp h))
end PWOO
end
section
def pw_min (a b : Int32) : Int32 := if b < a then b else a
def pw_max (a b : Int32) : Int32 := if a < b then b else a
theorem pw_minN {a b : Nat} (ha : a < 2 ^ 31) (hb : b < 2 ^ 31) : pw_min (nI a) (nI b) = nI (min a b) := by
  unfold pw_min
  have h := nI_ltI hb ha
  by_cases q : b < a
  · rw [if_pos (h.mpr q), Nat.min_eq_right (by omega)]
  · rw [if_neg (fun z => q (h.mp z)), Nat.min_eq_left (by omega)]
theorem pw_maxN {a b : Nat} (ha : a < 2 ^ 31) (hb : b < 2 ^ 31) : pw_max (nI a) (nI b) = nI (max a b) := by
  unfold pw_max
  have h := nI_ltI ha hb
  by_cases q : a < b
  · rw [if_pos (h.mpr q), Nat.max_eq_right (by omega)]
  · rw [if_neg (fun z => q (h.mp z)), Nat.max_eq_left (by omega)]

section PWMM
variable {x : pw_X} {M : pw_M} {d idx : Nat} {Z : State → Prop} {pc : Nat} {lv : List (Nat × Value)} {r : List Value} {mm : pw_m}
theorem pw_cMin {a b : Int32} (hlink : Cond.methodLink (pw_on M.1) idx yJ9_min_7cf53 ∈ pw_tb) (h1 : 1 ≤ d) (hW : (r.map fun v => v.category).sum ≤ 8) (hd : decode M.2.1 pc = .ok (.invokestatic idx, 3)) (hk : pw_V x M d Z (pc + 3) lv (.int (pw_min a b) :: r) mm) : pw_V x M d Z pc lv (.int b :: .int a :: r) mm := by
  obtain ⟨p, l, ee, R, s, m, args, below, meth, cc, D, ad, ⟨cI, cZ, cE⟩, A, X, nc, ns⟩ := x
  intro hC H locs hH ls hl
  have hRR := hC.2.2.2.2.2.2.2.1
  have ht := hC.2.2.2.2.1
  exact va_mmin hC.1 hC.2.1 (hC.2.2.1.trans hl.1.symm) hC.2.2.2.1 (ht _ hlink) (ht _ k_J9_min_7cf53.2) (ht _ k_J9_min_7cf53.1.1) (ht _ k_J9_min_7cf53.1.2.1) (Nat.le_trans h1 hRR.1) (Nat.le_trans (by rw [List.map_map]; simp only [Function.comp_def, pw_tv_cat]; omega) (Nat.le_trans (Nat.mul_le_mul_left 64 h1) hRR.2.1)) hRR.2.2.1 hRR.2.2.2 hd (hk hC H locs hH ls hl)
theorem pw_cMax {a b : Int32} (hlink : Cond.methodLink (pw_on M.1) idx yJ9_max_7cf53 ∈ pw_tb) (h1 : 1 ≤ d) (hW : (r.map fun v => v.category).sum ≤ 8) (hd : decode M.2.1 pc = .ok (.invokestatic idx, 3)) (hk : pw_V x M d Z (pc + 3) lv (.int (pw_max a b) :: r) mm) : pw_V x M d Z pc lv (.int b :: .int a :: r) mm := by
  obtain ⟨p, l, ee, R, s, m, args, below, meth, cc, D, ad, ⟨cI, cZ, cE⟩, A, X, nc, ns⟩ := x
  intro hC H locs hH ls hl
  have hRR := hC.2.2.2.2.2.2.2.1
  have ht := hC.2.2.2.2.1
  exact va_mmax hC.1 hC.2.1 (hC.2.2.1.trans hl.1.symm) hC.2.2.2.1 (ht _ hlink) (ht _ k_J9_max_7cf53.2) (ht _ k_J9_max_7cf53.1.1) (ht _ k_J9_max_7cf53.1.2.1) (Nat.le_trans h1 hRR.1) (Nat.le_trans (by rw [List.map_map]; simp only [Function.comp_def, pw_tv_cat]; omega) (Nat.le_trans (Nat.mul_le_mul_left 64 h1) hRR.2.1)) hRR.2.2.1 hRR.2.2.2 hd (hk hC H locs hH ls hl)
end PWMM
theorem pw_nlt {a b : Int32} (h : b ≤ a) : ¬ a < b := by
  rw [Int32.le_iff_toInt_le] at h
  rw [Int32.lt_iff_toInt_lt]
  omega
theorem pw_inr_f1 {s : Int32} {n : Nat} (h : s < 0) : pw_inr s n = false := by
  unfold pw_inr
  rw [decide_eq_true h]
  rfl
theorem pw_inr_f2 {s : Int32} {n : Nat} (h : nI n ≤ s) : pw_inr s n = false := by
  unfold pw_inr
  rw [decide_eq_false (pw_nlt h)]
  exact Bool.and_false _
theorem pw_inr_y {s : Int32} {n : Nat} (h : ¬ s < 0) (h2 : ¬ nI n ≤ s) : pw_inr s n = true := by
  unfold pw_inr
  rw [decide_eq_false h, decide_eq_true (Int32.not_le.mp h2)]
  rfl

/-- Integer.bitCount, as its code counts -/
def pw_bc (a : Int32) : Int32 :=
  let u := fun (x y : Int32) => (x.toUInt32 >>> (y.toUInt32 &&& Int32.toUInt32 31)).toInt32
  let a1 := a - (u a (nI 1) &&& nI 1431655765)
  let a2 := (a1 &&& nI 858993459) + (u a1 (nI 2) &&& nI 858993459)
  let a3 := (a2 + u a2 (nI 4)) &&& nI 252645135
  let a4 := a3 + u a3 (nI 8)
  let a5 := a4 + u a4 (nI 16)
  a5 &&& nI 63

set_option maxHeartbeats 4000000 in
set_option maxRecDepth 100000 in
theorem c_bitCount (a : Int32) (mm : pw_m) : pw_Ct 0 yJ6_bitCount_0f7a4 m_J6_bitCount_0f7a4 [.int a] mm (fun r m' => r = some (.int (pw_bc a)) ∧ m' = mm) := by
  refine pw_ct (by decide +kernel) rfl (Nat.le_of_ble_eq_true rfl) (fun x => ?_)
  generalize hZ : pw_Z x _ = Z
  show pw_V x m_J6_bitCount_0f7a4 0 Z 0 [(0, .int a)] [] mm
  refine pw_blk (pc' := 52) [.iload 0, .iload 0, .iconst 1, .iushr, .iconst 1431655765, .iand, .isub, .istore 0, .iload 0, .iconst 858993459, .iand, .iload 0, .iconst 2, .iushr, .iconst 858993459, .iand, .iadd, .istore 0, .iload 0, .iload 0, .iconst 4, .iushr, .iadd, .iconst 252645135, .iand, .istore 0, .iload 0, .iload 0, .iconst (8), .iushr, .iadd, .istore 0, .iload 0, .iload 0, .iconst (16), .iushr, .iadd, .istore 0, .iload 0, .iconst (63), .iand] (by decide +kernel) ?_
  show pw_V x m_J6_bitCount_0f7a4 0 Z 52 [(0, .int (((((((a - (((a.toUInt32 >>> ((nI 1).toUInt32 &&& Int32.toUInt32 31)).toInt32) &&& (nI 1431655765))) &&& (nI 858993459)) + ((((a - (((a.toUInt32 >>> ((nI 1).toUInt32 &&& Int32.toUInt32 31)).toInt32) &&& (nI 1431655765))).toUInt32 >>> ((nI 2).toUInt32 &&& Int32.toUInt32 31)).toInt32) &&& (nI 858993459))) + (((((a - (((a.toUInt32 >>> ((nI 1).toUInt32 &&& Int32.toUInt32 31)).toInt32) &&& (nI 1431655765))) &&& (nI 858993459)) + ((((a - (((a.toUInt32 >>> ((nI 1).toUInt32 &&& Int32.toUInt32 31)).toInt32) &&& (nI 1431655765))).toUInt32 >>> ((nI 2).toUInt32 &&& Int32.toUInt32 31)).toInt32) &&& (nI 858993459))).toUInt32 >>> ((nI 4).toUInt32 &&& Int32.toUInt32 31)).toInt32)) &&& (nI 252645135)) + (((((((a - (((a.toUInt32 >>> ((nI 1).toUInt32 &&& Int32.toUInt32 31)).toInt32) &&& (nI 1431655765))) &&& (nI 858993459)) + ((((a - (((a.toUInt32 >>> ((nI 1).toUInt32 &&& Int32.toUInt32 31)).toInt32) &&& (nI 1431655765))).toUInt32 >>> ((nI 2).toUInt32 &&& Int32.toUInt32 31)).toInt32) &&& (nI 858993459))) + (((((a - (((a.toUInt32 >>> ((nI 1).toUInt32 &&& Int32.toUInt32 31)).toInt32) &&& (nI 1431655765))) &&& (nI 858993459)) + ((((a - (((a.toUInt32 >>> ((nI 1).toUInt32 &&& Int32.toUInt32 31)).toInt32) &&& (nI 1431655765))).toUInt32 >>> ((nI 2).toUInt32 &&& Int32.toUInt32 31)).toInt32) &&& (nI 858993459))).toUInt32 >>> ((nI 4).toUInt32 &&& Int32.toUInt32 31)).toInt32)) &&& (nI 252645135)).toUInt32 >>> ((nI 8).toUInt32 &&& Int32.toUInt32 31)).toInt32)) + ((((((((a - (((a.toUInt32 >>> ((nI 1).toUInt32 &&& Int32.toUInt32 31)).toInt32) &&& (nI 1431655765))) &&& (nI 858993459)) + ((((a - (((a.toUInt32 >>> ((nI 1).toUInt32 &&& Int32.toUInt32 31)).toInt32) &&& (nI 1431655765))).toUInt32 >>> ((nI 2).toUInt32 &&& Int32.toUInt32 31)).toInt32) &&& (nI 858993459))) + (((((a - (((a.toUInt32 >>> ((nI 1).toUInt32 &&& Int32.toUInt32 31)).toInt32) &&& (nI 1431655765))) &&& (nI 858993459)) + ((((a - (((a.toUInt32 >>> ((nI 1).toUInt32 &&& Int32.toUInt32 31)).toInt32) &&& (nI 1431655765))).toUInt32 >>> ((nI 2).toUInt32 &&& Int32.toUInt32 31)).toInt32) &&& (nI 858993459))).toUInt32 >>> ((nI 4).toUInt32 &&& Int32.toUInt32 31)).toInt32)) &&& (nI 252645135)) + (((((((a - (((a.toUInt32 >>> ((nI 1).toUInt32 &&& Int32.toUInt32 31)).toInt32) &&& (nI 1431655765))) &&& (nI 858993459)) + ((((a - (((a.toUInt32 >>> ((nI 1).toUInt32 &&& Int32.toUInt32 31)).toInt32) &&& (nI 1431655765))).toUInt32 >>> ((nI 2).toUInt32 &&& Int32.toUInt32 31)).toInt32) &&& (nI 858993459))) + (((((a - (((a.toUInt32 >>> ((nI 1).toUInt32 &&& Int32.toUInt32 31)).toInt32) &&& (nI 1431655765))) &&& (nI 858993459)) + ((((a - (((a.toUInt32 >>> ((nI 1).toUInt32 &&& Int32.toUInt32 31)).toInt32) &&& (nI 1431655765))).toUInt32 >>> ((nI 2).toUInt32 &&& Int32.toUInt32 31)).toInt32) &&& (nI 858993459))).toUInt32 >>> ((nI 4).toUInt32 &&& Int32.toUInt32 31)).toInt32)) &&& (nI 252645135)).toUInt32 >>> ((nI 8).toUInt32 &&& Int32.toUInt32 31)).toInt32)).toUInt32 >>> ((nI 16).toUInt32 &&& Int32.toUInt32 31)).toInt32)))] [.int ((((((((a - (((a.toUInt32 >>> ((nI 1).toUInt32 &&& Int32.toUInt32 31)).toInt32) &&& (nI 1431655765))) &&& (nI 858993459)) + ((((a - (((a.toUInt32 >>> ((nI 1).toUInt32 &&& Int32.toUInt32 31)).toInt32) &&& (nI 1431655765))).toUInt32 >>> ((nI 2).toUInt32 &&& Int32.toUInt32 31)).toInt32) &&& (nI 858993459))) + (((((a - (((a.toUInt32 >>> ((nI 1).toUInt32 &&& Int32.toUInt32 31)).toInt32) &&& (nI 1431655765))) &&& (nI 858993459)) + ((((a - (((a.toUInt32 >>> ((nI 1).toUInt32 &&& Int32.toUInt32 31)).toInt32) &&& (nI 1431655765))).toUInt32 >>> ((nI 2).toUInt32 &&& Int32.toUInt32 31)).toInt32) &&& (nI 858993459))).toUInt32 >>> ((nI 4).toUInt32 &&& Int32.toUInt32 31)).toInt32)) &&& (nI 252645135)) + (((((((a - (((a.toUInt32 >>> ((nI 1).toUInt32 &&& Int32.toUInt32 31)).toInt32) &&& (nI 1431655765))) &&& (nI 858993459)) + ((((a - (((a.toUInt32 >>> ((nI 1).toUInt32 &&& Int32.toUInt32 31)).toInt32) &&& (nI 1431655765))).toUInt32 >>> ((nI 2).toUInt32 &&& Int32.toUInt32 31)).toInt32) &&& (nI 858993459))) + (((((a - (((a.toUInt32 >>> ((nI 1).toUInt32 &&& Int32.toUInt32 31)).toInt32) &&& (nI 1431655765))) &&& (nI 858993459)) + ((((a - (((a.toUInt32 >>> ((nI 1).toUInt32 &&& Int32.toUInt32 31)).toInt32) &&& (nI 1431655765))).toUInt32 >>> ((nI 2).toUInt32 &&& Int32.toUInt32 31)).toInt32) &&& (nI 858993459))).toUInt32 >>> ((nI 4).toUInt32 &&& Int32.toUInt32 31)).toInt32)) &&& (nI 252645135)).toUInt32 >>> ((nI 8).toUInt32 &&& Int32.toUInt32 31)).toInt32)) + ((((((((a - (((a.toUInt32 >>> ((nI 1).toUInt32 &&& Int32.toUInt32 31)).toInt32) &&& (nI 1431655765))) &&& (nI 858993459)) + ((((a - (((a.toUInt32 >>> ((nI 1).toUInt32 &&& Int32.toUInt32 31)).toInt32) &&& (nI 1431655765))).toUInt32 >>> ((nI 2).toUInt32 &&& Int32.toUInt32 31)).toInt32) &&& (nI 858993459))) + (((((a - (((a.toUInt32 >>> ((nI 1).toUInt32 &&& Int32.toUInt32 31)).toInt32) &&& (nI 1431655765))) &&& (nI 858993459)) + ((((a - (((a.toUInt32 >>> ((nI 1).toUInt32 &&& Int32.toUInt32 31)).toInt32) &&& (nI 1431655765))).toUInt32 >>> ((nI 2).toUInt32 &&& Int32.toUInt32 31)).toInt32) &&& (nI 858993459))).toUInt32 >>> ((nI 4).toUInt32 &&& Int32.toUInt32 31)).toInt32)) &&& (nI 252645135)) + (((((((a - (((a.toUInt32 >>> ((nI 1).toUInt32 &&& Int32.toUInt32 31)).toInt32) &&& (nI 1431655765))) &&& (nI 858993459)) + ((((a - (((a.toUInt32 >>> ((nI 1).toUInt32 &&& Int32.toUInt32 31)).toInt32) &&& (nI 1431655765))).toUInt32 >>> ((nI 2).toUInt32 &&& Int32.toUInt32 31)).toInt32) &&& (nI 858993459))) + (((((a - (((a.toUInt32 >>> ((nI 1).toUInt32 &&& Int32.toUInt32 31)).toInt32) &&& (nI 1431655765))) &&& (nI 858993459)) + ((((a - (((a.toUInt32 >>> ((nI 1).toUInt32 &&& Int32.toUInt32 31)).toInt32) &&& (nI 1431655765))).toUInt32 >>> ((nI 2).toUInt32 &&& Int32.toUInt32 31)).toInt32) &&& (nI 858993459))).toUInt32 >>> ((nI 4).toUInt32 &&& Int32.toUInt32 31)).toInt32)) &&& (nI 252645135)).toUInt32 >>> ((nI 8).toUInt32 &&& Int32.toUInt32 31)).toInt32)).toUInt32 >>> ((nI 16).toUInt32 &&& Int32.toUInt32 31)).toInt32)) &&& (nI 63))] mm
  rw [← hZ]
  refine pw_ri (by decide +kernel) ?_
  exact ⟨rfl, rfl⟩

/-- how many bits, of a set below 8 -/
def pw_pc (b : Nat) : Nat := pw_ct_ (fun i => b.testBit i) 8
theorem pw_bcN : ∀ b, b < 256 → pw_bc (nI b) = nI (pw_pc b) := by decide +kernel

set_option maxHeartbeats 4000000 in
set_option maxRecDepth 100000 in
theorem c_has (b a : Int32) (mm : pw_m) : pw_Ct 0 yX7_has m_X7_has [.int b, .int a] mm (fun r m' => r = some (.int (pw_b (pw_hs b a))) ∧ m' = mm) := by
  refine pw_ct (by decide +kernel) rfl (Nat.le_of_ble_eq_true rfl) (fun x => ?_)
  generalize hZ : pw_Z x _ = Z
  show pw_V x m_X7_has 0 Z 0 [(0, .int b), (1, .int a)] [] mm
  refine pw_blk (pc' := 5) [.iload 0, .iload 1, .ishr, .iconst 1, .iand] (by decide +kernel) ?_
  show pw_V x m_X7_has 0 Z 5 [(0, .int b), (1, .int a)] [.int ((b >>> (a &&& 31)) &&& (nI 1))] mm
  refine pw_if_eq (tgt := 12) (off := 7) (by decide +kernel) (by decide) (fun h5 => ?_) (fun h5 => ?_)
  · refine pw_blk (pc' := 13) [.iconst 0] (by decide +kernel) ?_
    show pw_V x m_X7_has 0 Z 13 [(0, .int b), (1, .int a)] [.int (nI 0)] mm
    rw [← hZ]
    refine pw_rz (by decide +kernel) (Or.inl rfl) ?_
    refine ⟨?_, rfl⟩
    rw [show pw_hs b a = false from by unfold pw_hs; rw [decide_eq_true h5]; rfl]; rfl
  · refine pw_blk (pc' := 9) [.iconst 1] (by decide +kernel) ?_
    show pw_V x m_X7_has 0 Z 9 [(0, .int b), (1, .int a)] [.int (nI 1)] mm
    refine pw_goto (tgt := 13) (off := 4) (by decide +kernel) (by decide) ?_
    rw [← hZ]
    refine pw_rz (by decide +kernel) (Or.inr rfl) ?_
    refine ⟨?_, rfl⟩
    rw [show pw_hs b a = true from by unfold pw_hs; rw [decide_eq_false h5]; rfl]; rfl

set_option maxHeartbeats 4000000 in
set_option maxRecDepth 100000 in
theorem c_isSeat (s : Int32) (mm : pw_m) (hok : pw_ok mm) : pw_Ct 0 yX7_isSeat m_X7_isSeat [.ref 0, .int s] mm (fun r m' => r = some (.int (pw_b (pw_inr s (pw_n mm)))) ∧ m' = mm) := by
  refine pw_ct (by decide +kernel) rfl (Nat.le_of_ble_eq_true rfl) (fun x => ?_)
  generalize hZ : pw_Z x _ = Z
  show pw_V x m_X7_isSeat 0 Z 0 [(0, .ref 0), (1, .int s)] [] mm
  refine pw_blk (pc' := 1) [.iload 1] (by decide +kernel) ?_
  show pw_V x m_X7_isSeat 0 Z 1 [(0, .ref 0), (1, .int s)] [.int s] mm
  refine pw_if_lt (tgt := 19) (off := 18) (by decide +kernel) (by decide) (fun h1 => ?_) (fun h1 => ?_)
  · refine pw_blk (pc' := 20) [.iconst 0] (by decide +kernel) ?_
    show pw_V x m_X7_isSeat 0 Z 20 [(0, .ref 0), (1, .int s)] [.int (nI 0)] mm
    rw [← hZ]
    refine pw_rz (by decide +kernel) (Or.inl rfl) ?_
    refine ⟨?_, rfl⟩
    first | (rw [pw_inr_f1 h1]; rfl) | (rw [pw_inr_f2 h12]; rfl) | (rw [pw_inr_y h1 h12]; rfl)
  · refine pw_blk (pc' := 12) [.iload 1, .aload 0, .getfield 701, .getfield 500] (by decide +kernel) ?_
    show pw_V x m_X7_isSeat 0 Z 12 [(0, .ref 0), (1, .int s)] [.int (mm 4 0), .int s] mm
    rw [show mm 4 0 = nI (pw_n mm) from pw_q40 hok]
    refine pw_ic_ge (tgt := 19) (off := 7) (by decide +kernel) (by decide) (fun h12 => ?_) (fun h12 => ?_)
    · refine pw_blk (pc' := 20) [.iconst 0] (by decide +kernel) ?_
      show pw_V x m_X7_isSeat 0 Z 20 [(0, .ref 0), (1, .int s)] [.int (nI 0)] mm
      rw [← hZ]
      refine pw_rz (by decide +kernel) (Or.inl rfl) ?_
      refine ⟨?_, rfl⟩
      first | (rw [pw_inr_f1 h1]; rfl) | (rw [pw_inr_f2 h12]; rfl) | (rw [pw_inr_y h1 h12]; rfl)
    · refine pw_blk (pc' := 16) [.iconst 1] (by decide +kernel) ?_
      show pw_V x m_X7_isSeat 0 Z 16 [(0, .ref 0), (1, .int s)] [.int (nI 1)] mm
      refine pw_goto (tgt := 20) (off := 4) (by decide +kernel) (by decide) ?_
      rw [← hZ]
      refine pw_rz (by decide +kernel) (Or.inr rfl) ?_
      refine ⟨?_, rfl⟩
      first | (rw [pw_inr_f1 h1]; rfl) | (rw [pw_inr_f2 h12]; rfl) | (rw [pw_inr_y h1 h12]; rfl)

set_option maxHeartbeats 4000000 in
set_option maxRecDepth 100000 in
theorem c_isKnight (s : Int32) (mm : pw_m) (hok : pw_ok mm) : pw_Ct 0 yX7_isKnight m_X7_isKnight [.ref 0, .int s] mm (fun r m' => r = some (.int (pw_b (pw_inr s (pw_k mm)))) ∧ m' = mm) := by
  refine pw_ct (by decide +kernel) rfl (Nat.le_of_ble_eq_true rfl) (fun x => ?_)
  generalize hZ : pw_Z x _ = Z
  show pw_V x m_X7_isKnight 0 Z 0 [(0, .ref 0), (1, .int s)] [] mm
  refine pw_blk (pc' := 1) [.iload 1] (by decide +kernel) ?_
  show pw_V x m_X7_isKnight 0 Z 1 [(0, .ref 0), (1, .int s)] [.int s] mm
  refine pw_if_lt (tgt := 19) (off := 18) (by decide +kernel) (by decide) (fun h1 => ?_) (fun h1 => ?_)
  · refine pw_blk (pc' := 20) [.iconst 0] (by decide +kernel) ?_
    show pw_V x m_X7_isKnight 0 Z 20 [(0, .ref 0), (1, .int s)] [.int (nI 0)] mm
    rw [← hZ]
    refine pw_rz (by decide +kernel) (Or.inl rfl) ?_
    refine ⟨?_, rfl⟩
    first | (rw [pw_inr_f1 h1]; rfl) | (rw [pw_inr_f2 h12]; rfl) | (rw [pw_inr_y h1 h12]; rfl)
  · refine pw_blk (pc' := 12) [.iload 1, .aload 0, .getfield 701, .getfield 501] (by decide +kernel) ?_
    show pw_V x m_X7_isKnight 0 Z 12 [(0, .ref 0), (1, .int s)] [.int (mm 4 1), .int s] mm
    rw [show mm 4 1 = nI (pw_k mm) from pw_q41 hok]
    refine pw_ic_ge (tgt := 19) (off := 7) (by decide +kernel) (by decide) (fun h12 => ?_) (fun h12 => ?_)
    · refine pw_blk (pc' := 20) [.iconst 0] (by decide +kernel) ?_
      show pw_V x m_X7_isKnight 0 Z 20 [(0, .ref 0), (1, .int s)] [.int (nI 0)] mm
      rw [← hZ]
      refine pw_rz (by decide +kernel) (Or.inl rfl) ?_
      refine ⟨?_, rfl⟩
      first | (rw [pw_inr_f1 h1]; rfl) | (rw [pw_inr_f2 h12]; rfl) | (rw [pw_inr_y h1 h12]; rfl)
    · refine pw_blk (pc' := 16) [.iconst 1] (by decide +kernel) ?_
      show pw_V x m_X7_isKnight 0 Z 16 [(0, .ref 0), (1, .int s)] [.int (nI 1)] mm
      refine pw_goto (tgt := 20) (off := 4) (by decide +kernel) (by decide) ?_
      rw [← hZ]
      refine pw_rz (by decide +kernel) (Or.inr rfl) ?_
      refine ⟨?_, rfl⟩
      first | (rw [pw_inr_f1 h1]; rfl) | (rw [pw_inr_f2 h12]; rfl) | (rw [pw_inr_y h1 h12]; rfl)

set_option maxHeartbeats 4000000 in
set_option maxRecDepth 100000 in
theorem c_isNews (s : Int32) (mm : pw_m) : pw_Ct 0 yX7_isNews m_X7_isNews [.int s] mm (fun r m' => r = some (.int (pw_b (pw_inr s 4))) ∧ m' = mm) := by
  refine pw_ct (by decide +kernel) rfl (Nat.le_of_ble_eq_true rfl) (fun x => ?_)
  generalize hZ : pw_Z x _ = Z
  show pw_V x m_X7_isNews 0 Z 0 [(0, .int s)] [] mm
  refine pw_blk (pc' := 1) [.iload 0] (by decide +kernel) ?_
  show pw_V x m_X7_isNews 0 Z 1 [(0, .int s)] [.int s] mm
  refine pw_if_lt (tgt := 13) (off := 12) (by decide +kernel) (by decide) (fun h1 => ?_) (fun h1 => ?_)
  · refine pw_blk (pc' := 14) [.iconst 0] (by decide +kernel) ?_
    show pw_V x m_X7_isNews 0 Z 14 [(0, .int s)] [.int (nI 0)] mm
    rw [← hZ]
    refine pw_rz (by decide +kernel) (Or.inl rfl) ?_
    refine ⟨?_, rfl⟩
    first | (rw [pw_inr_f1 h1]; rfl) | (rw [pw_inr_f2 h6]; rfl) | (rw [pw_inr_y h1 h6]; rfl)
  · refine pw_blk (pc' := 6) [.iload 0, .iconst 4] (by decide +kernel) ?_
    show pw_V x m_X7_isNews 0 Z 6 [(0, .int s)] [.int (nI 4), .int s] mm
    refine pw_ic_ge (tgt := 13) (off := 7) (by decide +kernel) (by decide) (fun h6 => ?_) (fun h6 => ?_)
    · refine pw_blk (pc' := 14) [.iconst 0] (by decide +kernel) ?_
      show pw_V x m_X7_isNews 0 Z 14 [(0, .int s)] [.int (nI 0)] mm
      rw [← hZ]
      refine pw_rz (by decide +kernel) (Or.inl rfl) ?_
      refine ⟨?_, rfl⟩
      first | (rw [pw_inr_f1 h1]; rfl) | (rw [pw_inr_f2 h6]; rfl) | (rw [pw_inr_y h1 h6]; rfl)
    · refine pw_blk (pc' := 10) [.iconst 1] (by decide +kernel) ?_
      show pw_V x m_X7_isNews 0 Z 10 [(0, .int s)] [.int (nI 1)] mm
      refine pw_goto (tgt := 14) (off := 4) (by decide +kernel) (by decide) ?_
      rw [← hZ]
      refine pw_rz (by decide +kernel) (Or.inr rfl) ?_
      refine ⟨?_, rfl⟩
      first | (rw [pw_inr_f1 h1]; rfl) | (rw [pw_inr_f2 h6]; rfl) | (rw [pw_inr_y h1 h6]; rfl)

set_option maxHeartbeats 4000000 in
set_option maxRecDepth 100000 in
theorem c_behind (s n : Nat) (hs : s < n) (hn : n < 100) (mm : pw_m) : pw_Ct 0 yX7_behind m_X7_behind [.int (nI s), .int (nI n)] mm (fun r m' => r = some (.int (nI (pw_bh n s))) ∧ m' = mm) := by
  refine pw_ct (by decide +kernel) rfl (Nat.le_of_ble_eq_true rfl) (fun x => ?_)
  generalize hZ : pw_Z x _ = Z
  show pw_V x m_X7_behind 0 Z 0 [(0, .int (nI s)), (1, .int (nI n))] [] mm
  refine pw_blk (pc' := 4) [.iload 0, .iconst 1, .iadd, .iload 1] (by decide +kernel) ?_
  show pw_V x m_X7_behind 0 Z 4 [(0, .int (nI s)), (1, .int (nI n))] [.int (nI n), .int ((nI s) + (nI 1))] mm
  rw [show (nI s) + (nI 1) = nI (s + 1) from nI_add _ _]
  refine pw_in_ge (tgt := 13) (off := 9) (by omega) (by omega) (by decide +kernel) (by decide) (fun h4 => ?_) (fun h4 => ?_)
  · refine pw_blk (pc' := 14) [.iconst 0] (by decide +kernel) ?_
    show pw_V x m_X7_behind 0 Z 14 [(0, .int (nI s)), (1, .int (nI n))] [.int (nI 0)] mm
    rw [← hZ]
    refine pw_ri (by decide +kernel) ?_
    refine ⟨?_, rfl⟩
    unfold pw_bh
    rw [if_neg (by omega)]
  · refine pw_blk (pc' := 10) [.iload 0, .iconst 1, .iadd] (by decide +kernel) ?_
    show pw_V x m_X7_behind 0 Z 10 [(0, .int (nI s)), (1, .int (nI n))] [.int ((nI s) + (nI 1))] mm
    rw [show (nI s) + (nI 1) = nI (s + 1) from nI_add _ _]
    refine pw_goto (tgt := 14) (off := 4) (by decide +kernel) (by decide) ?_
    rw [← hZ]
    refine pw_ri (by decide +kernel) ?_
    refine ⟨?_, rfl⟩
    unfold pw_bh
    rw [if_pos (by omega)]

set_option maxHeartbeats 4000000 in
set_option maxRecDepth 100000 in
theorem c_ahead (s n : Nat) (hs : s < n) (hn : n < 100) (mm : pw_m) : pw_Ct 0 yX7_ahead m_X7_ahead [.int (nI s), .int (nI n)] mm (fun r m' => r = some (.int (nI (pw_ah n s))) ∧ m' = mm) := by
  refine pw_ct (by decide +kernel) rfl (Nat.le_of_ble_eq_true rfl) (fun x => ?_)
  generalize hZ : pw_Z x _ = Z
  show pw_V x m_X7_ahead 0 Z 0 [(0, .int (nI s)), (1, .int (nI n))] [] mm
  refine pw_blk (pc' := 1) [.iload 0] (by decide +kernel) ?_
  show pw_V x m_X7_ahead 0 Z 1 [(0, .int (nI s)), (1, .int (nI n))] [.int (nI s)] mm
  refine pw_iz_le (tgt := 10) (off := 9) (by omega) (by decide +kernel) (by decide) (fun h1 => ?_) (fun h1 => ?_)
  · refine pw_blk (pc' := 12) [.iload 1, .iconst 1] (by decide +kernel) ?_
    show pw_V x m_X7_ahead 0 Z 12 [(0, .int (nI s)), (1, .int (nI n))] [.int (nI 1), .int (nI n)] mm
    refine pw_blk (pc' := 13) [.isub] (by decide +kernel) ?_
    show pw_V x m_X7_ahead 0 Z 13 [(0, .int (nI s)), (1, .int (nI n))] [.int (nI n - nI 1)] mm
    rw [pk_sub (show 1 ≤ n by omega)]
    rw [← hZ]
    refine pw_ri (by decide +kernel) ?_
    refine ⟨?_, rfl⟩
    unfold pw_ah
    rw [if_neg (by omega)]
  · refine pw_blk (pc' := 6) [.iload 0, .iconst 1] (by decide +kernel) ?_
    show pw_V x m_X7_ahead 0 Z 6 [(0, .int (nI s)), (1, .int (nI n))] [.int (nI 1), .int (nI s)] mm
    refine pw_blk (pc' := 7) [.isub] (by decide +kernel) ?_
    show pw_V x m_X7_ahead 0 Z 7 [(0, .int (nI s)), (1, .int (nI n))] [.int (nI s - nI 1)] mm
    rw [pk_sub (show 1 ≤ s by omega)]
    refine pw_goto (tgt := 13) (off := 6) (by decide +kernel) (by decide) ?_
    rw [← hZ]
    refine pw_ri (by decide +kernel) ?_
    refine ⟨?_, rfl⟩
    unfold pw_ah
    rw [if_pos (by omega)]
end
section
set_option maxHeartbeats 4000000 in
set_option maxRecDepth 100000 in
theorem c_perilFrom (st sp dy : Nat) (mm : pw_m) (hok : pw_ok mm) (hb : st + sp * dy < 2 ^ 31) : pw_Ct 0 yX5_perilFrom m_X5_perilFrom [.ref 4, .int (nI st), .int (nI sp), .int (nI dy)] mm (fun r m' => r = some (.int (pw_o (pw_per (pw_n mm) st sp dy))) ∧ m' = mm) := by
  refine pw_ct (by decide +kernel) rfl (Nat.le_of_ble_eq_true rfl) (fun x => ?_)
  generalize hZ : pw_Z x _ = Z
  have bn := pw_bn hok
  have bk := pw_bk hok
  show pw_V x m_X5_perilFrom 0 Z 0 [(0, .ref 4), (1, .int (nI st)), (2, .int (nI sp)), (3, .int (nI dy))] [] mm
  refine pw_blk (pc' := 4) [.aload 0, .getfield 500] (by decide +kernel) ?_
  show pw_V x m_X5_perilFrom 0 Z 4 [(0, .ref 4), (1, .int (nI st)), (2, .int (nI sp)), (3, .int (nI dy))] [.int (mm 4 0)] mm
  rw [show mm 4 0 = nI (pw_n mm) from pw_q40 hok]
  refine pw_iz_ne (tgt := 11) (off := 7) (by omega) (by decide +kernel) (by decide) (fun h4 => ?_) (fun h4 => ?_)
  · refine pw_blk (pc' := 21) [.iload 1, .iload 2, .iload 3, .imul, .iadd, .aload 0, .getfield 500, .irem] (by decide +kernel) ?_
    refine ⟨(show ¬ mm 4 0 = 0 from by rw [show mm 4 0 = nI (pw_n mm) from pw_q40 hok]; exact (show ¬ nI (pw_n mm) = 0 from nI_ne0 (by omega) (by omega))), ?_⟩
    show pw_V x m_X5_perilFrom 0 Z 21 [(0, .ref 4), (1, .int (nI st)), (2, .int (nI sp)), (3, .int (nI dy))] [.int (((nI st) + ((nI sp) * (nI dy))) - ((nI st) + ((nI sp) * (nI dy))) / (mm 4 0) * (mm 4 0))] mm
    rw [show (nI sp) * (nI dy) = nI (sp * dy) from pk_mul _ _]
    rw [show (nI st) + (nI (sp * dy)) = nI (st + (sp * dy)) from nI_add _ _]
    rw [show mm 4 0 = nI (pw_n mm) from pw_q40 hok]
    rw [show (nI (st + (sp * dy))) - (nI (st + (sp * dy))) / (nI (pw_n mm)) * (nI (pw_n mm)) = nI ((st + (sp * dy)) % (pw_n mm)) from pk_rem (by omega) (by omega) (by omega)]
    rw [← hZ]
    refine pw_ri (by decide +kernel) ?_
    refine ⟨?_, rfl⟩
    rw [show pw_per (pw_n mm) st sp dy = some ((st + sp * dy) % pw_n mm) from if_neg h4]; rfl
  · refine pw_blk (pc' := 8) [.iconst (-1)] (by decide +kernel) ?_
    show pw_V x m_X5_perilFrom 0 Z 8 [(0, .ref 4), (1, .int (nI st)), (2, .int (nI sp)), (3, .int (nI dy))] [.int (-1)] mm
    refine pw_goto (tgt := 21) (off := 13) (by decide +kernel) (by decide) ?_
    rw [← hZ]
    refine pw_ri (by decide +kernel) ?_
    refine ⟨?_, rfl⟩
    rw [show pw_per (pw_n mm) st sp dy = none from if_pos h4]; rfl

theorem pw_perb {n st sp dy s : Nat} (h : pw_per n st sp dy = some s) : s < n := by
  unfold pw_per at h
  split at h
  · cases h
  · cases h; exact Nat.mod_lt _ (by omega)
theorem pw_mulb {a b : Nat} (ha : a < 8) (hb : b < 1000) : a * b < 8000 := by
  have h1 : a * b ≤ 8 * b := Nat.mul_le_mul_right b (by omega)
  omega

set_option maxHeartbeats 4000000 in
set_option maxRecDepth 100000 in
theorem c_perilOn (mm : pw_m) (hok : pw_ok mm) : pw_Ct 1 yX5_perilOn m_X5_perilOn [.ref 4, .int (nI (pw_g mm 42 0))] mm (fun r m' => r = some (.int (pw_o (pw_pon mm))) ∧ m' = mm) := by
  refine pw_ct (by decide +kernel) rfl (Nat.le_of_ble_eq_true rfl) (fun x => ?_)
  generalize hZ : pw_Z x _ = Z
  have bn := pw_bn hok
  have bk := pw_bk hok
  have b8 := pw_b48 hok
  have bd := pw_b420 hok
  have bm := pw_mulb (pw_b49 hok) bd
  show pw_V x m_X5_perilOn 1 Z 0 [(0, .ref 4), (1, .int (nI (pw_g mm 42 0)))] [] mm
  refine pw_blk (pc' := 10) [.aload 0, .aload 0, .getfield 508, .aload 0, .getfield 509, .iload 1] (by decide +kernel) ?_
  show pw_V x m_X5_perilOn 1 Z 10 [(0, .ref 4), (1, .int (nI (pw_g mm 42 0)))] [.int (nI (pw_g mm 42 0)), .int (mm 4 9), .int (mm 4 8), .ref 4] mm
  rw [show mm 4 9 = nI (pw_g mm 4 9) from pw_q49 hok]
  rw [show mm 4 8 = nI (pw_g mm 4 8) from pw_q48 hok]
  refine pw_cV (vs := [.int (nI (pw_g mm 4 8)), .int (nI (pw_g mm 4 9)), .int (nI (pw_g mm 42 0))]) (rest := []) k_X5_perilFrom (c_perilFrom (pw_g mm 4 8) (pw_g mm 4 9) (pw_g mm 42 0) mm hok (by omega)) l_5_70 rfl rfl rfl rfl (by omega) (Nat.le_of_ble_eq_true rfl) (by decide +kernel) ?_
  rintro _ m1 ⟨rfl, e1⟩
  rw [e1]
  clear e1 m1
  show pw_V x m_X5_perilOn 1 Z 13 [(0, .ref 4), (1, .int (nI (pw_g mm 42 0)))] [.int (pw_o (pw_per (pw_n mm) (pw_g mm 4 8) (pw_g mm 4 9) (pw_g mm 42 0)))] mm
  rw [← hZ]
  refine pw_ri (by decide +kernel) ?_
  exact ⟨rfl, rfl⟩

set_option maxHeartbeats 4000000 in
set_option maxRecDepth 100000 in
theorem c_fits (k rn s : Nat) (mm : pw_m) (hok : pw_ok mm) (hk : k < 6) (hr : rn < 100) (hs : s < 8) : pw_Ct 0 yX5_fits m_X5_fits [.ref 4, .int (nI k), .int (nI rn), .int (nI s)] mm (fun r m' => r = some (.int (pw_b (pw_fit mm k rn s))) ∧ m' = mm) := by
  refine pw_ct (by decide +kernel) rfl (Nat.le_of_ble_eq_true rfl) (fun x => ?_)
  generalize hZ : pw_Z x _ = Z
  have bn := pw_bn hok
  have bk := pw_bk hok
  have b5 := pw_b5 hok hs
  have b6 := pw_b6 hok hs
  have b7 := pw_b7 hok hk
  have b9 := pw_b9 hok hk
  show pw_V x m_X5_fits 0 Z 0 [(0, .ref 4), (1, .int (nI k)), (2, .int (nI rn)), (3, .int (nI s))] [] mm
  refine pw_blk (pc' := 7) [.aload 0, .getfield 502, .iload 3, .iaload, .iconst 4] (by decide +kernel) ?_
  refine ⟨s, rfl, by omega, ?_⟩
  show pw_V x m_X5_fits 0 Z 7 [(0, .ref 4), (1, .int (nI k)), (2, .int (nI rn)), (3, .int (nI s))] [.int (nI 4), .int (mm 5 s)] mm
  rw [show mm 5 s = nI (pw_g mm 5 s) from pw_q5 hok (by omega)]
  refine pw_in_ne (tgt := 12) (off := 5) (by omega) (by omega) (by decide +kernel) (by decide) (fun h7 => ?_) (fun h7 => ?_)
  · refine pw_blk (pc' := 19) [.aload 0, .getfield 504, .iload 1, .iaload, .iconst 2] (by decide +kernel) ?_
    refine ⟨k, rfl, by omega, ?_⟩
    show pw_V x m_X5_fits 0 Z 19 [(0, .ref 4), (1, .int (nI k)), (2, .int (nI rn)), (3, .int (nI s))] [.int (nI 2), .int (mm 7 k)] mm
    rw [show mm 7 k = nI (pw_g mm 7 k) from pw_q7 hok (by omega)]
    refine pw_in_ne (tgt := 24) (off := 5) (by omega) (by omega) (by decide +kernel) (by decide) (fun h19 => ?_) (fun h19 => ?_)
    · refine pw_blk (pc' := 30) [.aload 0, .getfield 502, .iload 3, .iaload] (by decide +kernel) ?_
      refine ⟨s, rfl, by omega, ?_⟩
      show pw_V x m_X5_fits 0 Z 30 [(0, .ref 4), (1, .int (nI k)), (2, .int (nI rn)), (3, .int (nI s))] [.int (mm 5 s)] mm
      rw [show mm 5 s = nI (pw_g mm 5 s) from pw_q5 hok (by omega)]
      refine pw_tsw (tgt := 109) (dflt := 79) (lo := 1) (hi := 3) (offs := #[26, 42, 58]) (len := 26) (by decide +kernel) (by decide) (fun h30 => ?_) (fun j hj h30 => ?_)
      · have n30_1 : ¬ (pw_g mm 5 s) = 1 := fun q => by rw [q] at h30; revert h30; decide
        have n30_2 : ¬ (pw_g mm 5 s) = 2 := fun q => by rw [q] at h30; revert h30; decide
        have n30_3 : ¬ (pw_g mm 5 s) = 3 := fun q => by rw [q] at h30; revert h30; decide
        refine pw_blk (pc' := 110) [.iconst 1] (by decide +kernel) ?_
        show pw_V x m_X5_fits 0 Z 110 [(0, .ref 4), (1, .int (nI k)), (2, .int (nI rn)), (3, .int (nI s))] [.int (nI 1)] mm
        rw [← hZ]
        refine pw_rz (by decide +kernel) (Or.inr rfl) ?_
        refine ⟨?_, rfl⟩
        rw [show pw_fit mm k rn s = true from by simp [pw_fit, pw_fitB, h7, h19, n30_1, n30_2, n30_3]]; rfl
      · match j, hj, h30 with
        | 0, hj, h30 =>
          refine ⟨26, 56, rfl, by decide, ?_⟩
          have e30 : nI (pw_g mm 5 s) = nI 1 := Int32.toInt_inj.mp (by rw [h30]; rfl)
          have n30 : (pw_g mm 5 s) = 1 := (nI_eq (by omega) (by omega)).mp e30
          refine pw_blk (pc' := 63) [.iload 2, .aload 0, .getfield 503, .iload 3, .iaload] (by decide +kernel) ?_
          refine ⟨s, rfl, by omega, ?_⟩
          show pw_V x m_X5_fits 0 Z 63 [(0, .ref 4), (1, .int (nI k)), (2, .int (nI rn)), (3, .int (nI s))] [.int (mm 6 s), .int (nI rn)] mm
          rw [show mm 6 s = nI (pw_g mm 6 s) from pw_q6 hok (by omega)]
          refine pw_in_lt (tgt := 70) (off := 7) (by omega) (by omega) (by decide +kernel) (by decide) (fun h63 => ?_) (fun h63 => ?_)
          · refine pw_blk (pc' := 71) [.iconst 0] (by decide +kernel) ?_
            show pw_V x m_X5_fits 0 Z 71 [(0, .ref 4), (1, .int (nI k)), (2, .int (nI rn)), (3, .int (nI s))] [.int (nI 0)] mm
            rw [← hZ]
            refine pw_rz (by decide +kernel) (Or.inl rfl) ?_
            refine ⟨?_, rfl⟩
            rw [show pw_fit mm k rn s = false from by simp [pw_fit, pw_fitB, h7, h19, n30, h63]]; rfl
          · refine pw_blk (pc' := 67) [.iconst 1] (by decide +kernel) ?_
            show pw_V x m_X5_fits 0 Z 67 [(0, .ref 4), (1, .int (nI k)), (2, .int (nI rn)), (3, .int (nI s))] [.int (nI 1)] mm
            refine pw_goto (tgt := 71) (off := 4) (by decide +kernel) (by decide) ?_
            rw [← hZ]
            refine pw_rz (by decide +kernel) (Or.inr rfl) ?_
            refine ⟨?_, rfl⟩
            rw [show pw_fit mm k rn s = true from by simp [pw_fit, pw_fitB, h7, h19, n30, h63]]; rfl
        | 1, hj, h30 =>
          refine ⟨42, 72, rfl, by decide, ?_⟩
          have e30 : nI (pw_g mm 5 s) = nI 2 := Int32.toInt_inj.mp (by rw [h30]; rfl)
          have n30 : (pw_g mm 5 s) = 2 := (nI_eq (by omega) (by omega)).mp e30
          refine pw_blk (pc' := 79) [.iload 2, .aload 0, .getfield 503, .iload 3, .iaload] (by decide +kernel) ?_
          refine ⟨s, rfl, by omega, ?_⟩
          show pw_V x m_X5_fits 0 Z 79 [(0, .ref 4), (1, .int (nI k)), (2, .int (nI rn)), (3, .int (nI s))] [.int (mm 6 s), .int (nI rn)] mm
          rw [show mm 6 s = nI (pw_g mm 6 s) from pw_q6 hok (by omega)]
          refine pw_in_gt (tgt := 86) (off := 7) (by omega) (by omega) (by decide +kernel) (by decide) (fun h79 => ?_) (fun h79 => ?_)
          · refine pw_blk (pc' := 87) [.iconst 0] (by decide +kernel) ?_
            show pw_V x m_X5_fits 0 Z 87 [(0, .ref 4), (1, .int (nI k)), (2, .int (nI rn)), (3, .int (nI s))] [.int (nI 0)] mm
            rw [← hZ]
            refine pw_rz (by decide +kernel) (Or.inl rfl) ?_
            refine ⟨?_, rfl⟩
            rw [show pw_fit mm k rn s = false from by simp [pw_fit, pw_fitB, h7, h19, n30, h79]]; rfl
          · refine pw_blk (pc' := 83) [.iconst 1] (by decide +kernel) ?_
            show pw_V x m_X5_fits 0 Z 83 [(0, .ref 4), (1, .int (nI k)), (2, .int (nI rn)), (3, .int (nI s))] [.int (nI 1)] mm
            refine pw_goto (tgt := 87) (off := 4) (by decide +kernel) (by decide) ?_
            rw [← hZ]
            refine pw_rz (by decide +kernel) (Or.inr rfl) ?_
            refine ⟨?_, rfl⟩
            rw [show pw_fit mm k rn s = true from by simp [pw_fit, pw_fitB, h7, h19, n30, h79]]; rfl
        | 2, hj, h30 =>
          refine ⟨58, 88, rfl, by decide, ?_⟩
          have e30 : nI (pw_g mm 5 s) = nI 3 := Int32.toInt_inj.mp (by rw [h30]; rfl)
          have n30 : (pw_g mm 5 s) = 3 := (nI_eq (by omega) (by omega)).mp e30
          refine pw_blk (pc' := 100) [.aload 0, .getfield 506, .iload 1, .iaload, .aload 0, .getfield 503, .iload 3, .iaload] (by decide +kernel) ?_
          refine ⟨k, rfl, by omega, ?_⟩
          refine ⟨s, rfl, by omega, ?_⟩
          show pw_V x m_X5_fits 0 Z 100 [(0, .ref 4), (1, .int (nI k)), (2, .int (nI rn)), (3, .int (nI s))] [.int (mm 6 s), .int (mm 9 k)] mm
          rw [show mm 6 s = nI (pw_g mm 6 s) from pw_q6 hok (by omega)]
          rw [show mm 9 k = nI (pw_g mm 9 k) from pw_q9 hok (by omega)]
          refine pw_in_ne (tgt := 107) (off := 7) (by omega) (by omega) (by decide +kernel) (by decide) (fun h100 => ?_) (fun h100 => ?_)
          · refine pw_blk (pc' := 108) [.iconst 0] (by decide +kernel) ?_
            show pw_V x m_X5_fits 0 Z 108 [(0, .ref 4), (1, .int (nI k)), (2, .int (nI rn)), (3, .int (nI s))] [.int (nI 0)] mm
            rw [← hZ]
            refine pw_rz (by decide +kernel) (Or.inl rfl) ?_
            refine ⟨?_, rfl⟩
            rw [show pw_fit mm k rn s = false from by simp [pw_fit, pw_fitB, h7, h19, n30, h100]]; rfl
          · refine pw_blk (pc' := 104) [.iconst 1] (by decide +kernel) ?_
            show pw_V x m_X5_fits 0 Z 104 [(0, .ref 4), (1, .int (nI k)), (2, .int (nI rn)), (3, .int (nI s))] [.int (nI 1)] mm
            refine pw_goto (tgt := 108) (off := 4) (by decide +kernel) (by decide) ?_
            rw [← hZ]
            refine pw_rz (by decide +kernel) (Or.inr rfl) ?_
            refine ⟨?_, rfl⟩
            rw [show pw_fit mm k rn s = true from by simp [pw_fit, pw_fitB, h7, h19, n30, h100]]; rfl
        | j + 3, hj, h30 => exact absurd hj (by omega)
    · refine pw_blk (pc' := 23) [.iconst 1] (by decide +kernel) ?_
      show pw_V x m_X5_fits 0 Z 23 [(0, .ref 4), (1, .int (nI k)), (2, .int (nI rn)), (3, .int (nI s))] [.int (nI 1)] mm
      rw [← hZ]
      refine pw_rz (by decide +kernel) (Or.inr rfl) ?_
      refine ⟨?_, rfl⟩
      rw [show pw_fit mm k rn s = true from by simp [pw_fit, pw_fitB, h7, h19]]; rfl
  · refine pw_blk (pc' := 11) [.iconst 0] (by decide +kernel) ?_
    show pw_V x m_X5_fits 0 Z 11 [(0, .ref 4), (1, .int (nI k)), (2, .int (nI rn)), (3, .int (nI s))] [.int (nI 0)] mm
    rw [← hZ]
    refine pw_rz (by decide +kernel) (Or.inl rfl) ?_
    refine ⟨?_, rfl⟩
    rw [show pw_fit mm k rn s = false from by simp [pw_fit, pw_fitB, h7]]; rfl

set_option maxHeartbeats 4000000 in
set_option maxRecDepth 100000 in
theorem c_whoSitsOn (s : Nat) (mm : pw_m) (hok : pw_ok mm) (hs : s < 8) : pw_Ct 0 yX0_whoSitsOn m_X0_whoSitsOn [.ref 42, .int (nI s)] mm (fun r m' => r = some (.int (pw_o (pw_si mm s))) ∧ m' = mm) := by
  refine pw_ct (by decide +kernel) rfl (Nat.le_of_ble_eq_true rfl) (fun x => ?_)
  generalize hZ : pw_Z x _ = Z
  have bn := pw_bn hok
  have bk := pw_bk hok
  have loop : ∀ i : Nat, i ≤ 6 → pw_ff (fun j => decide (pw_pl mm j = some s)) i = none → pw_V x m_X0_whoSitsOn 0 Z 2 [(0, .ref 42), (1, .int (nI s)), (2, .int (nI i))] [] mm := by
    refine pw_dn 6 (fun i hi ih hq => ?_)
    refine pw_blk (pc' := 5) [.iload 2, .iconst (6)] (by decide +kernel) ?_
    show pw_V x m_X0_whoSitsOn 0 Z 5 [(0, .ref 42), (1, .int (nI s)), (2, .int (nI i))] [.int (nI 6), .int (nI i)] mm
    refine pw_in_ge (tgt := 26) (off := 21) (by omega) (by omega) (by decide +kernel) (by decide) (fun h5 => ?_) (fun h5 => ?_)
    · refine pw_blk (pc' := 27) [.iconst (-1)] (by decide +kernel) ?_
      show pw_V x m_X0_whoSitsOn 0 Z 27 [(0, .ref 42), (1, .int (nI s)), (2, .int (nI i))] [.int (-1)] mm
      rw [← hZ]
      refine pw_ri (by decide +kernel) ?_
      refine ⟨?_, rfl⟩
      rw [show pw_si mm s = none from (by have e : i = 6 := (by omega); subst e; exact hq)]; rfl
    · refine pw_blk (pc' := 15) [.aload 0, .getfield 4, .iload 2, .iaload, .iload 1] (by decide +kernel) ?_
      refine ⟨i, rfl, by omega, ?_⟩
      show pw_V x m_X0_whoSitsOn 0 Z 15 [(0, .ref 42), (1, .int (nI s)), (2, .int (nI i))] [.int (nI s), .int (mm 45 i)] mm
      rw [show mm 45 i = pw_o (pw_pl mm i) from pw_q45 hok (by omega)]
      refine pw_on_ne (tgt := 20) (off := 5) (by decide +kernel) (by decide) (fun a ha => Nat.lt_trans (pw_b45 hok (show i < 6 by omega) ha) (by omega)) (by omega) (fun h15 => ?_) (fun h15 => ?_)
      · refine pw_blk (pc' := 23) [.iinc 2 1] (by decide +kernel) ?_
        show pw_V x m_X0_whoSitsOn 0 Z 23 [(2, .int ((nI i) + (nI 1))), (0, .ref 42), (1, .int (nI s))] [] mm
        rw [show (nI i) + (nI 1) = nI (i + 1) from nI_add _ _]
        refine pw_goto (tgt := 2) (off := -21) (by decide +kernel) (by decide) ?_
        refine pw_lvp [1, 2, 0] rfl ?_
        exact ih (by omega) (by simp [pw_ff, hq, h15])
      · refine pw_blk (pc' := 19) [.iload 2] (by decide +kernel) ?_
        show pw_V x m_X0_whoSitsOn 0 Z 19 [(0, .ref 42), (1, .int (nI s)), (2, .int (nI i))] [.int (nI i)] mm
        rw [← hZ]
        refine pw_ri (by decide +kernel) ?_
        refine ⟨?_, rfl⟩
        rw [show pw_si mm s = some i from pw_ff_up (i := i + 1) (by simp [pw_ff, hq, h15]) (by omega)]; rfl
  show pw_V x m_X0_whoSitsOn 0 Z 0 [(0, .ref 42), (1, .int (nI s))] [] mm
  refine pw_blk (pc' := 2) [.iconst 0, .istore 2] (by decide +kernel) ?_
  show pw_V x m_X0_whoSitsOn 0 Z 2 [(2, .int (nI 0)), (0, .ref 42), (1, .int (nI s))] [] mm
  refine pw_lvp [1, 2, 0] rfl ?_
  exact loop 0 (by omega) rfl

set_option maxHeartbeats 4000000 in
set_option maxRecDepth 100000 in
theorem c_whoSit (mm : pw_m) (hok : pw_ok mm) : pw_Ct 0 yX0_whoSit m_X0_whoSit [.ref 42] mm (fun r m' => r = some (.int (nI (pw_sb mm))) ∧ m' = mm) := by
  refine pw_ct (by decide +kernel) rfl (Nat.le_of_ble_eq_true rfl) (fun x => ?_)
  generalize hZ : pw_Z x _ = Z
  have bn := pw_bn hok
  have bk := pw_bk hok
  have loop : ∀ i : Nat, i ≤ 6 → pw_V x m_X0_whoSit 0 Z 4 [(0, .ref 42), (1, .int (nI (pw_ob (fun j => (pw_pl mm j).isSome) i))), (2, .int (nI i))] [] mm := by
    refine pw_dn (6) (fun i hi ih => ?_)
    refine pw_blk (pc' := 7) [.iload 2, .iconst (6)] (by decide +kernel) ?_
    show pw_V x m_X0_whoSit 0 Z 7 [(0, .ref 42), (1, .int (nI (pw_ob (fun j => (pw_pl mm j).isSome) i))), (2, .int (nI i))] [.int (nI 6), .int (nI i)] mm
    refine pw_in_ge (tgt := 32) (off := 25) (by omega) (by omega) (by decide +kernel) (by decide) (fun h7 => ?_) (fun h7 => ?_)
    · refine pw_blk (pc' := 33) [.iload 1] (by decide +kernel) ?_
      show pw_V x m_X0_whoSit 0 Z 33 [(0, .ref 42), (1, .int (nI (pw_ob (fun j => (pw_pl mm j).isSome) i))), (2, .int (nI i))] [.int (nI (pw_ob (fun j => (pw_pl mm j).isSome) i))] mm
      rw [← hZ]
      refine pw_ri (by decide +kernel) ?_
      have e : i = 6 := by omega
      subst e
      exact ⟨rfl, rfl⟩
    · refine pw_blk (pc' := 17) [.aload 0, .getfield 4, .iload 2, .iaload, .iconst (-1)] (by decide +kernel) ?_
      refine ⟨i, rfl, by omega, ?_⟩
      show pw_V x m_X0_whoSit 0 Z 17 [(0, .ref 42), (1, .int (nI (pw_ob (fun j => (pw_pl mm j).isSome) i))), (2, .int (nI i))] [.int (-1), .int (mm 45 i)] mm
      rw [show mm 45 i = pw_o (pw_pl mm i) from pw_q45 hok (by omega)]
      rcases h17 : pw_pl mm i with _ | s17
      · show pw_V x m_X0_whoSit 0 Z 17 [(0, .ref 42), (1, .int (nI (pw_ob (fun j => (pw_pl mm j).isSome) i))), (2, .int (nI i))] [.int (-1), .int (-1)] mm
        refine pw_ic_eq (tgt := 26) (off := 9) (by decide +kernel) (by decide) (fun _ => ?_) (fun h => absurd rfl h)
        refine pw_blk (pc' := 29) [.iinc 2 1] (by decide +kernel) ?_
        show pw_V x m_X0_whoSit 0 Z 29 [(2, .int ((nI i) + (nI 1))), (0, .ref 42), (1, .int (nI (pw_ob (fun j => (pw_pl mm j).isSome) i)))] [] mm
        rw [show (nI i) + (nI 1) = nI (i + 1) from nI_add _ _]
        refine pw_goto (tgt := 4) (off := -25) (by decide +kernel) (by decide) ?_
        rw [show (pw_ob (fun j => (pw_pl mm j).isSome) i) = (pw_ob (fun j => (pw_pl mm j).isSome) (i + 1)) from by simp [pw_ob, h7, h17]]
        refine pw_lvp [1, 2, 0] rfl ?_
        exact ih (by omega)
      · show pw_V x m_X0_whoSit 0 Z 17 [(0, .ref 42), (1, .int (nI (pw_ob (fun j => (pw_pl mm j).isSome) i))), (2, .int (nI i))] [.int (-1), .int (nI s17)] mm
        have b17 := pw_b45 hok (show i < 6 by omega) h17
        refine pw_ic_eq (tgt := 26) (off := 9) (by decide +kernel) (by decide) (fun h => absurd h (pw_n1 (by omega))) (fun _ => ?_)
        refine pw_blk (pc' := 29) [.iload 1, .iconst 1, .iload 2, .ishl, .ior, .istore 1, .iinc 2 1] (by decide +kernel) ?_
        show pw_V x m_X0_whoSit 0 Z 29 [(2, .int ((nI i) + (nI 1))), (1, .int ((nI (pw_ob (fun j => (pw_pl mm j).isSome) i)) ||| ((nI 1) <<< ((nI i) &&& 31)))), (0, .ref 42)] [] mm
        rw [show (nI i) + (nI 1) = nI (i + 1) from nI_add _ _]
        rw [show (nI 1) <<< ((nI i) &&& 31) = nI (2 ^ i) from pw_shl1 (by omega)]
        rw [show (nI (pw_ob (fun j => (pw_pl mm j).isSome) i)) ||| (nI (2 ^ i)) = nI ((pw_ob (fun j => (pw_pl mm j).isSome) i) ||| (2 ^ i)) from fa_or _ _]
        refine pw_goto (tgt := 4) (off := -25) (by decide +kernel) (by decide) ?_
        rw [show ((pw_ob (fun j => (pw_pl mm j).isSome) i) ||| (2 ^ i)) = (pw_ob (fun j => (pw_pl mm j).isSome) (i + 1)) from by simp [pw_ob, h7, h17]]
        refine pw_lvp [2, 1, 0] rfl ?_
        exact ih (by omega)
  show pw_V x m_X0_whoSit 0 Z 0 [(0, .ref 42)] [] mm
  refine pw_blk (pc' := 4) [.iconst 0, .istore 1, .iconst 0, .istore 2] (by decide +kernel) ?_
  show pw_V x m_X0_whoSit 0 Z 4 [(2, .int (nI 0)), (1, .int (nI 0)), (0, .ref 42)] [] mm
  refine pw_lvp [2, 1, 0] rfl ?_
  exact loop 0 (by omega)
end
section
set_option maxHeartbeats 4000000 in
set_option maxRecDepth 100000 in
theorem c_fitsNow (k s : Nat) (mm : pw_m) (hok : pw_ok mm) (hk : k < 6) (hs : s < 8) : pw_Ct 1 yX7_fitsNow m_X7_fitsNow [.ref 0, .int (nI k), .int (nI s)] mm (fun r m' => r = some (.int (pw_b (pw_fnow mm k s))) ∧ m' = mm) := by
  refine pw_ct (by decide +kernel) rfl (Nat.le_of_ble_eq_true rfl) (fun x => ?_)
  generalize hZ : pw_Z x _ = Z
  have bn := pw_bn hok
  have bk := pw_bk hok
  have b43 := pw_b43 hok hk
  show pw_V x m_X7_fitsNow 1 Z 0 [(0, .ref 0), (1, .int (nI k)), (2, .int (nI s))] [] mm
  refine pw_blk (pc' := 15) [.aload 0, .getfield 701, .iload 1, .aload 0, .getfield 702, .getfield 2, .iload 1, .iaload, .iload 2] (by decide +kernel) ?_
  refine ⟨k, rfl, by omega, ?_⟩
  show pw_V x m_X7_fitsNow 1 Z 15 [(0, .ref 0), (1, .int (nI k)), (2, .int (nI s))] [.int (nI s), .int (mm 43 k), .int (nI k), .ref 4] mm
  rw [show mm 43 k = nI (pw_g mm 43 k) from pw_q43 hok (by omega)]
  refine pw_cV (vs := [.int (nI k), .int (nI (pw_g mm 43 k)), .int (nI s)]) (rest := []) k_X5_fits (c_fits k (pw_g mm 43 k) s mm hok (by omega) (by omega) (by omega)) l_7_250 rfl rfl rfl rfl (by decide) (Nat.le_of_ble_eq_true rfl) (by decide +kernel) ?_
  rintro _ m1 ⟨rfl, e1⟩
  rw [e1]
  clear e1 m1
  show pw_V x m_X7_fitsNow 1 Z 18 [(0, .ref 0), (1, .int (nI k)), (2, .int (nI s))] [.int (pw_b (pw_fit mm k (pw_g mm 43 k) s))] mm
  rw [← hZ]
  refine pw_rz (by decide +kernel) (pw_b01 _) ?_
  exact ⟨rfl, rfl⟩

set_option maxHeartbeats 4000000 in
set_option maxRecDepth 100000 in
theorem c_isInPeril (k s : Nat) (mm : pw_m) (hok : pw_ok mm) (hk : k < 6) (hs : s < 8) : pw_Ct 2 yX7_isInPeril m_X7_isInPeril [.ref 0, .int (nI k), .int (nI s)] mm (fun r m' => r = some (.int (pw_b (pw_inp mm k s))) ∧ m' = mm) := by
  refine pw_ct (by decide +kernel) rfl (Nat.le_of_ble_eq_true rfl) (fun x => ?_)
  generalize hZ : pw_Z x _ = Z
  have bn := pw_bn hok
  have bk := pw_bk hok
  have b8 := pw_b48 hok
  have bd := pw_b420 hok
  have bm := pw_mulb (pw_b49 hok) bd
  have b7 := pw_b7 hok hk
  show pw_V x m_X7_isInPeril 2 Z 0 [(0, .ref 0), (1, .int (nI k)), (2, .int (nI s))] [] mm
  refine pw_blk (pc' := 11) [.aload 0, .getfield 701, .aload 0, .getfield 702, .getfield 0] (by decide +kernel) ?_
  show pw_V x m_X7_isInPeril 2 Z 11 [(0, .ref 0), (1, .int (nI k)), (2, .int (nI s))] [.int (mm 42 0), .ref 4] mm
  rw [show mm 42 0 = nI (pw_g mm 42 0) from pw_q420 hok]
  refine pw_cV (vs := [.int (nI (pw_g mm 42 0))]) (rest := []) k_X5_perilOn (c_perilOn mm hok) l_7_103 rfl rfl rfl rfl (by decide) (Nat.le_of_ble_eq_true rfl) (by decide +kernel) ?_
  rintro _ m1 ⟨rfl, e1⟩
  rw [e1]
  clear e1 m1
  show pw_V x m_X7_isInPeril 2 Z 14 [(0, .ref 0), (1, .int (nI k)), (2, .int (nI s))] [.int (pw_o (pw_pon mm))] mm
  refine pw_blk (pc' := 15) [.iload 2] (by decide +kernel) ?_
  show pw_V x m_X7_isInPeril 2 Z 15 [(0, .ref 0), (1, .int (nI k)), (2, .int (nI s))] [.int (nI s), .int (pw_o (pw_pon mm))] mm
  refine pw_on_ne (tgt := 46) (off := 31) (by decide +kernel) (by decide) (fun a ha => Nat.lt_trans (pw_pon_lt ha) (by omega)) (by omega) (fun h15 => ?_) (fun h15 => ?_)
  · refine pw_blk (pc' := 47) [.iconst 0] (by decide +kernel) ?_
    show pw_V x m_X7_isInPeril 2 Z 47 [(0, .ref 0), (1, .int (nI k)), (2, .int (nI s))] [.int (nI 0)] mm
    rw [← hZ]
    refine pw_rz (by decide +kernel) (Or.inl rfl) ?_
    refine ⟨?_, rfl⟩
    rw [show pw_inp mm k s = false from by simp [pw_inp, h15]]; rfl
  · refine pw_blk (pc' := 26) [.aload 0, .getfield 701, .getfield 510, .iload 1] (by decide +kernel) ?_
    show pw_V x m_X7_isInPeril 2 Z 26 [(0, .ref 0), (1, .int (nI k)), (2, .int (nI s))] [.int (nI k), .int (mm 4 10)] mm
    rw [show mm 4 10 = pw_o (pw_mt mm) from pw_q410 hok]
    refine pw_on_eq (tgt := 46) (off := 20) (by decide +kernel) (by decide) (fun a ha => Nat.lt_trans (pw_b410 hok ha) (by omega)) (by omega) (fun h26 => ?_) (fun h26 => ?_)
    · refine pw_blk (pc' := 47) [.iconst 0] (by decide +kernel) ?_
      show pw_V x m_X7_isInPeril 2 Z 47 [(0, .ref 0), (1, .int (nI k)), (2, .int (nI s))] [.int (nI 0)] mm
      rw [← hZ]
      refine pw_rz (by decide +kernel) (Or.inl rfl) ?_
      refine ⟨?_, rfl⟩
      rw [show pw_inp mm k s = false from by simp [pw_inp, h15, h26]]; rfl
    · refine pw_blk (pc' := 39) [.aload 0, .getfield 701, .getfield 504, .iload 1, .iaload, .iconst 1] (by decide +kernel) ?_
      refine ⟨k, rfl, by omega, ?_⟩
      show pw_V x m_X7_isInPeril 2 Z 39 [(0, .ref 0), (1, .int (nI k)), (2, .int (nI s))] [.int (nI 1), .int (mm 7 k)] mm
      rw [show mm 7 k = nI (pw_g mm 7 k) from pw_q7 hok (by omega)]
      refine pw_in_eq (tgt := 46) (off := 7) (by omega) (by omega) (by decide +kernel) (by decide) (fun h39 => ?_) (fun h39 => ?_)
      · refine pw_blk (pc' := 47) [.iconst 0] (by decide +kernel) ?_
        show pw_V x m_X7_isInPeril 2 Z 47 [(0, .ref 0), (1, .int (nI k)), (2, .int (nI s))] [.int (nI 0)] mm
        rw [← hZ]
        refine pw_rz (by decide +kernel) (Or.inl rfl) ?_
        refine ⟨?_, rfl⟩
        rw [show pw_inp mm k s = false from by simp [pw_inp, h15, h26, h39]]; rfl
      · refine pw_blk (pc' := 43) [.iconst 1] (by decide +kernel) ?_
        show pw_V x m_X7_isInPeril 2 Z 43 [(0, .ref 0), (1, .int (nI k)), (2, .int (nI s))] [.int (nI 1)] mm
        refine pw_goto (tgt := 47) (off := 4) (by decide +kernel) (by decide) ?_
        rw [← hZ]
        refine pw_rz (by decide +kernel) (Or.inr rfl) ?_
        refine ⟨?_, rfl⟩
        rw [show pw_inp mm k s = true from by simp [pw_inp, h15, h26, h39]]; rfl

def pw_en2 (A : pw_m) (p q : Option Nat) : Bool := match p with
  | none => false
  | some i => pw_en A i q

set_option maxHeartbeats 4000000 in
set_option maxRecDepth 100000 in
theorem c_areEnemies (p q : Option Nat) (mm : pw_m) (hok : pw_ok mm) (hp : ∀ c, p = some c → c < 6) (hq : ∀ c, q = some c → c < 6) : pw_Ct 1 yX7_areEnemies m_X7_areEnemies [.ref 0, .int (pw_o (p)), .int (pw_o (q))] mm (fun r m' => r = some (.int (pw_b (pw_en2 mm p q))) ∧ m' = mm) := by
  refine pw_ct (by decide +kernel) rfl (Nat.le_of_ble_eq_true rfl) (fun x => ?_)
  generalize hZ : pw_Z x _ = Z
  have bn := pw_bn hok
  have bk := pw_bk hok
  show pw_V x m_X7_areEnemies 1 Z 0 [(0, .ref 0), (1, .int (pw_o (p))), (2, .int (pw_o (q)))] [] mm
  refine pw_blk (pc' := 2) [.iload 1, .iconst (-1)] (by decide +kernel) ?_
  show pw_V x m_X7_areEnemies 1 Z 2 [(0, .ref 0), (1, .int (pw_o (p))), (2, .int (pw_o (q)))] [.int (-1), .int (pw_o (p))] mm
  rcases h2 : p with _ | s2
  · show pw_V x m_X7_areEnemies 1 Z 2 [(0, .ref 0), (1, .int (-1)), (2, .int (pw_o (q)))] [.int (-1), .int (-1)] mm
    refine pw_ic_eq (tgt := 30) (off := 28) (by decide +kernel) (by decide) (fun _ => ?_) (fun h => absurd rfl h)
    refine pw_blk (pc' := 31) [.iconst 0] (by decide +kernel) ?_
    show pw_V x m_X7_areEnemies 1 Z 31 [(0, .ref 0), (1, .int (-1)), (2, .int (pw_o (q)))] [.int (nI 0)] mm
    rw [← hZ]
    refine pw_rz (by decide +kernel) (Or.inl rfl) ?_
    refine ⟨?_, rfl⟩
    simp [pw_en2, pw_en, pw_b, nI, h2]
  · show pw_V x m_X7_areEnemies 1 Z 2 [(0, .ref 0), (1, .int (nI s2)), (2, .int (pw_o (q)))] [.int (-1), .int (nI s2)] mm
    have b2 := hp _ h2
    refine pw_ic_eq (tgt := 30) (off := 28) (by decide +kernel) (by decide) (fun h => absurd h (pw_n1 (by omega))) (fun _ => ?_)
    refine pw_blk (pc' := 7) [.iload 2, .iconst (-1)] (by decide +kernel) ?_
    show pw_V x m_X7_areEnemies 1 Z 7 [(0, .ref 0), (1, .int (nI s2)), (2, .int (pw_o (q)))] [.int (-1), .int (pw_o (q))] mm
    rcases h7 : q with _ | s7
    · show pw_V x m_X7_areEnemies 1 Z 7 [(0, .ref 0), (1, .int (nI s2)), (2, .int (-1))] [.int (-1), .int (-1)] mm
      refine pw_ic_eq (tgt := 30) (off := 23) (by decide +kernel) (by decide) (fun _ => ?_) (fun h => absurd rfl h)
      refine pw_blk (pc' := 31) [.iconst 0] (by decide +kernel) ?_
      show pw_V x m_X7_areEnemies 1 Z 31 [(0, .ref 0), (1, .int (nI s2)), (2, .int (-1))] [.int (nI 0)] mm
      rw [← hZ]
      refine pw_rz (by decide +kernel) (Or.inl rfl) ?_
      refine ⟨?_, rfl⟩
      simp [pw_en2, pw_en, pw_b, nI, h2, h7]
    · show pw_V x m_X7_areEnemies 1 Z 7 [(0, .ref 0), (1, .int (nI s2)), (2, .int (nI s7))] [.int (-1), .int (nI s7)] mm
      have b7 := hq _ h7
      refine pw_ic_eq (tgt := 30) (off := 23) (by decide +kernel) (by decide) (fun h => absurd h (pw_n1 (by omega))) (fun _ => ?_)
      refine pw_blk (pc' := 20) [.aload 0, .getfield 701, .getfield 507, .iload 1, .iaload, .iload 2] (by decide +kernel) ?_
      refine ⟨s2, rfl, by omega, ?_⟩
      show pw_V x m_X7_areEnemies 1 Z 20 [(0, .ref 0), (1, .int (nI s2)), (2, .int (nI s7))] [.int (nI s7), .int (mm 10 s2)] mm
      rw [show mm 10 s2 = nI (pw_g mm 10 s2) from pw_q10 hok (by omega)]
      refine pw_cS (vs := [.int (nI (pw_g mm 10 s2)), .int (nI s7)]) (rest := []) k_X7_has (c_has (nI (pw_g mm 10 s2)) (nI s7) mm) l_7_124 rfl (by decide) (Nat.le_of_ble_eq_true rfl) (by decide +kernel) ?_
      rintro _ m1 ⟨rfl, e1⟩
      rw [e1]
      clear e1 m1
      show pw_V x m_X7_areEnemies 1 Z 23 [(0, .ref 0), (1, .int (nI s2)), (2, .int (nI s7))] [.int (pw_b (pw_hs (nI (pw_g mm 10 s2)) (nI s7)))] mm
      rw [pw_hs_n (by have := pw_b10 hok (show s2 < 6 by omega); omega) (by omega)]
      refine pw_ib_eq (tgt := 30) (off := 7) (by decide +kernel) (by decide) (fun h23 => ?_) (fun h23 => ?_)
      · refine pw_blk (pc' := 31) [.iconst 0] (by decide +kernel) ?_
        show pw_V x m_X7_areEnemies 1 Z 31 [(0, .ref 0), (1, .int (nI s2)), (2, .int (nI s7))] [.int (nI 0)] mm
        rw [← hZ]
        refine pw_rz (by decide +kernel) (Or.inl rfl) ?_
        refine ⟨?_, rfl⟩
        simp [pw_en2, pw_en, pw_b, nI, h2, h7, h23]
      · refine pw_blk (pc' := 27) [.iconst 1] (by decide +kernel) ?_
        show pw_V x m_X7_areEnemies 1 Z 27 [(0, .ref 0), (1, .int (nI s2)), (2, .int (nI s7))] [.int (nI 1)] mm
        refine pw_goto (tgt := 31) (off := 4) (by decide +kernel) (by decide) ?_
        rw [← hZ]
        refine pw_rz (by decide +kernel) (Or.inr rfl) ?_
        refine ⟨?_, rfl⟩
        simp [pw_en2, pw_en, pw_b, nI, h2, h7, h23]

set_option maxHeartbeats 4000000 in
set_option maxRecDepth 100000 in
theorem c_whoSitsBehind (s : Nat) (mm : pw_m) (hok : pw_ok mm) (hs : s < pw_n mm) : pw_Ct 1 yX7_whoSitsBehind m_X7_whoSitsBehind [.ref 0, .int (nI s)] mm (fun r m' => r = some (.int (pw_o (pw_si mm (pw_bh (pw_n mm) s)))) ∧ m' = mm) := by
  refine pw_ct (by decide +kernel) rfl (Nat.le_of_ble_eq_true rfl) (fun x => ?_)
  generalize hZ : pw_Z x _ = Z
  have bn := pw_bn hok
  have bk := pw_bk hok
  have bb := pw_bh_lt hs
  show pw_V x m_X7_whoSitsBehind 1 Z 0 [(0, .ref 0), (1, .int (nI s))] [] mm
  refine pw_blk (pc' := 12) [.aload 0, .getfield 702, .iload 1, .aload 0, .getfield 701, .getfield 500] (by decide +kernel) ?_
  show pw_V x m_X7_whoSitsBehind 1 Z 12 [(0, .ref 0), (1, .int (nI s))] [.int (mm 4 0), .int (nI s), .ref 42] mm
  rw [show mm 4 0 = nI (pw_n mm) from pw_q40 hok]
  refine pw_cS (vs := [.int (nI s), .int (nI (pw_n mm))]) (rest := [.ref 42]) k_X7_behind (c_behind s (pw_n mm) (by omega) (by omega) mm) l_7_271 rfl (by decide) (Nat.le_of_ble_eq_true rfl) (by decide +kernel) ?_
  rintro _ m1 ⟨rfl, e1⟩
  rw [e1]
  clear e1 m1
  show pw_V x m_X7_whoSitsBehind 1 Z 15 [(0, .ref 0), (1, .int (nI s))] [.int (nI (pw_bh (pw_n mm) s)), .ref 42] mm
  refine pw_cV (vs := [.int (nI (pw_bh (pw_n mm) s))]) (rest := []) k_X0_whoSitsOn (c_whoSitsOn (pw_bh (pw_n mm) s) mm hok (by omega)) l_7_96 rfl rfl rfl rfl (by decide) (Nat.le_of_ble_eq_true rfl) (by decide +kernel) ?_
  rintro _ m1 ⟨rfl, e1⟩
  rw [e1]
  clear e1 m1
  show pw_V x m_X7_whoSitsBehind 1 Z 18 [(0, .ref 0), (1, .int (nI s))] [.int (pw_o (pw_si mm (pw_bh (pw_n mm) s)))] mm
  rw [← hZ]
  refine pw_ri (by decide +kernel) ?_
  exact ⟨rfl, rfl⟩

set_option maxHeartbeats 4000000 in
set_option maxRecDepth 100000 in
theorem c_whoIsWrong (mm : pw_m) (hok : pw_ok mm) : pw_Ct 3 yX7_whoIsWrong m_X7_whoIsWrong [.ref 0] mm (fun r m' => r = some (.int (nI (pw_wrs mm))) ∧ m' = mm) := by
  refine pw_ct (by decide +kernel) rfl (Nat.le_of_ble_eq_true rfl) (fun x => ?_)
  generalize hZ : pw_Z x _ = Z
  have bn := pw_bn hok
  have bk := pw_bk hok
  have loop : ∀ i : Nat, i ≤ pw_k mm → pw_V x m_X7_whoIsWrong 3 Z 4 [(0, .ref 0), (1, .int (nI (pw_ob (pw_wr mm) i))), (2, .int (nI i))] [] mm := by
    refine pw_dn (pw_k mm) (fun i hi ih => ?_)
    refine pw_blk (pc' := 12) [.iload 2, .aload 0, .getfield 701, .getfield 501] (by decide +kernel) ?_
    show pw_V x m_X7_whoIsWrong 3 Z 12 [(0, .ref 0), (1, .int (nI (pw_ob (pw_wr mm) i))), (2, .int (nI i))] [.int (mm 4 1), .int (nI i)] mm
    rw [show mm 4 1 = nI (pw_k mm) from pw_q41 hok]
    refine pw_in_ge (tgt := 60) (off := 48) (by omega) (by omega) (by decide +kernel) (by decide) (fun h12 => ?_) (fun h12 => ?_)
    · refine pw_blk (pc' := 61) [.iload 1] (by decide +kernel) ?_
      show pw_V x m_X7_whoIsWrong 3 Z 61 [(0, .ref 0), (1, .int (nI (pw_ob (pw_wr mm) i))), (2, .int (nI i))] [.int (nI (pw_ob (pw_wr mm) i))] mm
      rw [← hZ]
      refine pw_ri (by decide +kernel) ?_
      have e : i = pw_k mm := by omega
      subst e
      exact ⟨rfl, rfl⟩
    · refine pw_blk (pc' := 27) [.aload 0, .getfield 702, .getfield 4, .iload 2, .iaload, .istore 3, .iload 3, .iconst (-1)] (by decide +kernel) ?_
      refine ⟨i, rfl, by omega, ?_⟩
      show pw_V x m_X7_whoIsWrong 3 Z 27 [(3, .int (mm 45 i)), (0, .ref 0), (1, .int (nI (pw_ob (pw_wr mm) i))), (2, .int (nI i))] [.int (-1), .int (mm 45 i)] mm
      rw [show mm 45 i = pw_o (pw_pl mm i) from pw_q45 hok (by omega)]
      rcases h27 : pw_pl mm i with _ | s27
      · show pw_V x m_X7_whoIsWrong 3 Z 27 [(3, .int (-1)), (0, .ref 0), (1, .int (nI (pw_ob (pw_wr mm) i))), (2, .int (nI i))] [.int (-1), .int (-1)] mm
        refine pw_ic_eq (tgt := 54) (off := 27) (by decide +kernel) (by decide) (fun _ => ?_) (fun h => absurd rfl h)
        refine pw_blk (pc' := 57) [.iinc 2 1] (by decide +kernel) ?_
        show pw_V x m_X7_whoIsWrong 3 Z 57 [(2, .int ((nI i) + (nI 1))), (3, .int (-1)), (0, .ref 0), (1, .int (nI (pw_ob (pw_wr mm) i)))] [] mm
        rw [show (nI i) + (nI 1) = nI (i + 1) from nI_add _ _]
        refine pw_goto (tgt := 4) (off := -53) (by decide +kernel) (by decide) ?_
        rw [show (pw_ob (pw_wr mm) i) = (pw_ob (pw_wr mm) (i + 1)) from by simp [pw_ob, pw_wr, h12, h27]]
        refine pw_lvp [2, 3, 0] rfl ?_
        exact ih (by omega)
      · show pw_V x m_X7_whoIsWrong 3 Z 27 [(3, .int (nI s27)), (0, .ref 0), (1, .int (nI (pw_ob (pw_wr mm) i))), (2, .int (nI i))] [.int (-1), .int (nI s27)] mm
        have b27 := pw_b45 hok (show i < 6 by omega) h27
        refine pw_ic_eq (tgt := 54) (off := 27) (by decide +kernel) (by decide) (fun h => absurd h (pw_n1 (by omega))) (fun _ => ?_)
        refine pw_blk (pc' := 33) [.aload 0, .iload 2, .iload 3] (by decide +kernel) ?_
        show pw_V x m_X7_whoIsWrong 3 Z 33 [(3, .int (nI s27)), (0, .ref 0), (1, .int (nI (pw_ob (pw_wr mm) i))), (2, .int (nI i))] [.int (nI s27), .int (nI i), .ref 0] mm
        refine pw_cV (vs := [.int (nI i), .int (nI s27)]) (rest := []) k_X7_fitsNow (c_fitsNow i s27 mm hok (by omega) (by omega)) l_7_144 rfl rfl rfl rfl (by decide) (Nat.le_of_ble_eq_true rfl) (by decide +kernel) ?_
        rintro _ m1 ⟨rfl, e1⟩
        rw [e1]
        clear e1 m1
        show pw_V x m_X7_whoIsWrong 3 Z 36 [(3, .int (nI s27)), (0, .ref 0), (1, .int (nI (pw_ob (pw_wr mm) i))), (2, .int (nI i))] [.int (pw_b (pw_fnow mm i s27))] mm
        refine pw_ib_eq (tgt := 48) (off := 12) (by decide +kernel) (by decide) (fun h36 => ?_) (fun h36 => ?_)
        · refine pw_blk (pc' := 57) [.iload 1, .iconst 1, .iload 2, .ishl, .ior, .istore 1, .iinc 2 1] (by decide +kernel) ?_
          show pw_V x m_X7_whoIsWrong 3 Z 57 [(2, .int ((nI i) + (nI 1))), (1, .int ((nI (pw_ob (pw_wr mm) i)) ||| ((nI 1) <<< ((nI i) &&& 31)))), (3, .int (nI s27)), (0, .ref 0)] [] mm
          rw [show (nI i) + (nI 1) = nI (i + 1) from nI_add _ _]
          rw [show (nI 1) <<< ((nI i) &&& 31) = nI (2 ^ i) from pw_shl1 (by omega)]
          rw [show (nI (pw_ob (pw_wr mm) i)) ||| (nI (2 ^ i)) = nI ((pw_ob (pw_wr mm) i) ||| (2 ^ i)) from fa_or _ _]
          refine pw_goto (tgt := 4) (off := -53) (by decide +kernel) (by decide) ?_
          rw [show ((pw_ob (pw_wr mm) i) ||| (2 ^ i)) = (pw_ob (pw_wr mm) (i + 1)) from by simp [pw_ob, pw_wr, h12, h27, h36]]
          refine pw_lvp [3, 1, 0] rfl ?_
          exact ih (by omega)
        · refine pw_blk (pc' := 42) [.aload 0, .iload 2, .iload 3] (by decide +kernel) ?_
          show pw_V x m_X7_whoIsWrong 3 Z 42 [(3, .int (nI s27)), (0, .ref 0), (1, .int (nI (pw_ob (pw_wr mm) i))), (2, .int (nI i))] [.int (nI s27), .int (nI i), .ref 0] mm
          refine pw_cV (vs := [.int (nI i), .int (nI s27)]) (rest := []) k_X7_isInPeril (c_isInPeril i s27 mm hok (by omega) (by omega)) l_7_268 rfl rfl rfl rfl (by decide) (Nat.le_of_ble_eq_true rfl) (by decide +kernel) ?_
          rintro _ m1 ⟨rfl, e1⟩
          rw [e1]
          clear e1 m1
          show pw_V x m_X7_whoIsWrong 3 Z 45 [(3, .int (nI s27)), (0, .ref 0), (1, .int (nI (pw_ob (pw_wr mm) i))), (2, .int (nI i))] [.int (pw_b (pw_inp mm i s27))] mm
          refine pw_ib_eq (tgt := 54) (off := 9) (by decide +kernel) (by decide) (fun h45 => ?_) (fun h45 => ?_)
          · refine pw_blk (pc' := 57) [.iinc 2 1] (by decide +kernel) ?_
            show pw_V x m_X7_whoIsWrong 3 Z 57 [(2, .int ((nI i) + (nI 1))), (3, .int (nI s27)), (0, .ref 0), (1, .int (nI (pw_ob (pw_wr mm) i)))] [] mm
            rw [show (nI i) + (nI 1) = nI (i + 1) from nI_add _ _]
            refine pw_goto (tgt := 4) (off := -53) (by decide +kernel) (by decide) ?_
            rw [show (pw_ob (pw_wr mm) i) = (pw_ob (pw_wr mm) (i + 1)) from by simp [pw_ob, pw_wr, h12, h27, h36, h45]]
            refine pw_lvp [2, 3, 0] rfl ?_
            exact ih (by omega)
          · refine pw_blk (pc' := 57) [.iload 1, .iconst 1, .iload 2, .ishl, .ior, .istore 1, .iinc 2 1] (by decide +kernel) ?_
            show pw_V x m_X7_whoIsWrong 3 Z 57 [(2, .int ((nI i) + (nI 1))), (1, .int ((nI (pw_ob (pw_wr mm) i)) ||| ((nI 1) <<< ((nI i) &&& 31)))), (3, .int (nI s27)), (0, .ref 0)] [] mm
            rw [show (nI i) + (nI 1) = nI (i + 1) from nI_add _ _]
            rw [show (nI 1) <<< ((nI i) &&& 31) = nI (2 ^ i) from pw_shl1 (by omega)]
            rw [show (nI (pw_ob (pw_wr mm) i)) ||| (nI (2 ^ i)) = nI ((pw_ob (pw_wr mm) i) ||| (2 ^ i)) from fa_or _ _]
            refine pw_goto (tgt := 4) (off := -53) (by decide +kernel) (by decide) ?_
            rw [show ((pw_ob (pw_wr mm) i) ||| (2 ^ i)) = (pw_ob (pw_wr mm) (i + 1)) from by simp [pw_ob, pw_wr, h12, h27, h36, h45]]
            refine pw_lvp [3, 1, 0] rfl ?_
            exact ih (by omega)
  show pw_V x m_X7_whoIsWrong 3 Z 0 [(0, .ref 0)] [] mm
  refine pw_blk (pc' := 4) [.iconst 0, .istore 1, .iconst 0, .istore 2] (by decide +kernel) ?_
  show pw_V x m_X7_whoIsWrong 3 Z 4 [(2, .int (nI 0)), (1, .int (nI 0)), (0, .ref 0)] [] mm
  refine pw_lvp [2, 1, 0] rfl ?_
  exact loop 0 (by omega)

def pw_kn (A : pw_m) (w j : Nat) : Bool := (pw_g A 42 1).testBit j && (pw_g A 44 j).testBit w

set_option maxHeartbeats 4000000 in
set_option maxRecDepth 100000 in
theorem c_whoKnows (w : Nat) (mm : pw_m) (hok : pw_ok mm) (hw : w < 4) : pw_Ct 1 yX7_whoKnows m_X7_whoKnows [.ref 0, .int (nI w)] mm (fun r m' => r = some (.int (nI (pw_ob (pw_kn mm w) (pw_k mm)))) ∧ m' = mm) := by
  refine pw_ct (by decide +kernel) rfl (Nat.le_of_ble_eq_true rfl) (fun x => ?_)
  generalize hZ : pw_Z x _ = Z
  have bn := pw_bn hok
  have bk := pw_bk hok
  have bt := pw_b421' hok
  have loop : ∀ i : Nat, i ≤ pw_k mm → pw_V x m_X7_whoKnows 1 Z 4 [(0, .ref 0), (1, .int (nI w)), (2, .int (nI (pw_ob (pw_kn mm w) i))), (3, .int (nI i))] [] mm := by
    refine pw_dn (pw_k mm) (fun i hi ih => ?_)
    refine pw_blk (pc' := 12) [.iload 3, .aload 0, .getfield 701, .getfield 501] (by decide +kernel) ?_
    show pw_V x m_X7_whoKnows 1 Z 12 [(0, .ref 0), (1, .int (nI w)), (2, .int (nI (pw_ob (pw_kn mm w) i))), (3, .int (nI i))] [.int (mm 4 1), .int (nI i)] mm
    rw [show mm 4 1 = nI (pw_k mm) from pw_q41 hok]
    refine pw_in_ge (tgt := 57) (off := 45) (by omega) (by omega) (by decide +kernel) (by decide) (fun h12 => ?_) (fun h12 => ?_)
    · refine pw_blk (pc' := 58) [.iload 2] (by decide +kernel) ?_
      show pw_V x m_X7_whoKnows 1 Z 58 [(0, .ref 0), (1, .int (nI w)), (2, .int (nI (pw_ob (pw_kn mm w) i))), (3, .int (nI i))] [.int (nI (pw_ob (pw_kn mm w) i))] mm
      rw [← hZ]
      refine pw_ri (by decide +kernel) ?_
      have e : i = pw_k mm := by omega
      subst e
      exact ⟨rfl, rfl⟩
    · refine pw_blk (pc' := 23) [.aload 0, .getfield 702, .getfield 1, .iload 3] (by decide +kernel) ?_
      show pw_V x m_X7_whoKnows 1 Z 23 [(0, .ref 0), (1, .int (nI w)), (2, .int (nI (pw_ob (pw_kn mm w) i))), (3, .int (nI i))] [.int (nI i), .int (mm 42 1)] mm
      rw [show mm 42 1 = nI (pw_g mm 42 1) from pw_q421 hok]
      refine pw_cS (vs := [.int (nI (pw_g mm 42 1)), .int (nI i)]) (rest := []) k_X7_has (c_has (nI (pw_g mm 42 1)) (nI i) mm) l_7_124 rfl (by decide) (Nat.le_of_ble_eq_true rfl) (by decide +kernel) ?_
      rintro _ m1 ⟨rfl, e1⟩
      rw [e1]
      clear e1 m1
      show pw_V x m_X7_whoKnows 1 Z 26 [(0, .ref 0), (1, .int (nI w)), (2, .int (nI (pw_ob (pw_kn mm w) i))), (3, .int (nI i))] [.int (pw_b (pw_hs (nI (pw_g mm 42 1)) (nI i)))] mm
      rw [pw_hs_n (by have := pw_b44 hok (show i < 6 by omega); omega) (by omega)]
      refine pw_ib_eq (tgt := 51) (off := 25) (by decide +kernel) (by decide) (fun h26 => ?_) (fun h26 => ?_)
      · refine pw_blk (pc' := 54) [.iinc 3 1] (by decide +kernel) ?_
        show pw_V x m_X7_whoKnows 1 Z 54 [(3, .int ((nI i) + (nI 1))), (0, .ref 0), (1, .int (nI w)), (2, .int (nI (pw_ob (pw_kn mm w) i)))] [] mm
        rw [show (nI i) + (nI 1) = nI (i + 1) from nI_add _ _]
        refine pw_goto (tgt := 4) (off := -50) (by decide +kernel) (by decide) ?_
        rw [show (pw_ob (pw_kn mm w) i) = (pw_ob (pw_kn mm w) (i + 1)) from by simp [pw_ob, pw_kn, h12, h26]]
        refine pw_lvp [1, 2, 3, 0] rfl ?_
        exact ih (by omega)
      · refine pw_blk (pc' := 39) [.aload 0, .getfield 702, .getfield 3, .iload 3, .iaload, .iload 1] (by decide +kernel) ?_
        refine ⟨i, rfl, by omega, ?_⟩
        show pw_V x m_X7_whoKnows 1 Z 39 [(0, .ref 0), (1, .int (nI w)), (2, .int (nI (pw_ob (pw_kn mm w) i))), (3, .int (nI i))] [.int (nI w), .int (mm 44 i)] mm
        rw [show mm 44 i = nI (pw_g mm 44 i) from pw_q44 hok (by omega)]
        refine pw_cS (vs := [.int (nI (pw_g mm 44 i)), .int (nI w)]) (rest := []) k_X7_has (c_has (nI (pw_g mm 44 i)) (nI w) mm) l_7_124 rfl (by decide) (Nat.le_of_ble_eq_true rfl) (by decide +kernel) ?_
        rintro _ m1 ⟨rfl, e1⟩
        rw [e1]
        clear e1 m1
        show pw_V x m_X7_whoKnows 1 Z 42 [(0, .ref 0), (1, .int (nI w)), (2, .int (nI (pw_ob (pw_kn mm w) i))), (3, .int (nI i))] [.int (pw_b (pw_hs (nI (pw_g mm 44 i)) (nI w)))] mm
        rw [pw_hs_n (by have := pw_b44 hok (show i < 6 by omega); omega) (by omega)]
        refine pw_ib_eq (tgt := 51) (off := 9) (by decide +kernel) (by decide) (fun h42 => ?_) (fun h42 => ?_)
        · refine pw_blk (pc' := 54) [.iinc 3 1] (by decide +kernel) ?_
          show pw_V x m_X7_whoKnows 1 Z 54 [(3, .int ((nI i) + (nI 1))), (0, .ref 0), (1, .int (nI w)), (2, .int (nI (pw_ob (pw_kn mm w) i)))] [] mm
          rw [show (nI i) + (nI 1) = nI (i + 1) from nI_add _ _]
          refine pw_goto (tgt := 4) (off := -50) (by decide +kernel) (by decide) ?_
          rw [show (pw_ob (pw_kn mm w) i) = (pw_ob (pw_kn mm w) (i + 1)) from by simp [pw_ob, pw_kn, h12, h26, h42]]
          refine pw_lvp [1, 2, 3, 0] rfl ?_
          exact ih (by omega)
        · refine pw_blk (pc' := 54) [.iload 2, .iconst 1, .iload 3, .ishl, .ior, .istore 2, .iinc 3 1] (by decide +kernel) ?_
          show pw_V x m_X7_whoKnows 1 Z 54 [(3, .int ((nI i) + (nI 1))), (2, .int ((nI (pw_ob (pw_kn mm w) i)) ||| ((nI 1) <<< ((nI i) &&& 31)))), (0, .ref 0), (1, .int (nI w))] [] mm
          rw [show (nI i) + (nI 1) = nI (i + 1) from nI_add _ _]
          rw [show (nI 1) <<< ((nI i) &&& 31) = nI (2 ^ i) from pw_shl1 (by omega)]
          rw [show (nI (pw_ob (pw_kn mm w) i)) ||| (nI (2 ^ i)) = nI ((pw_ob (pw_kn mm w) i) ||| (2 ^ i)) from fa_or _ _]
          refine pw_goto (tgt := 4) (off := -50) (by decide +kernel) (by decide) ?_
          rw [show ((pw_ob (pw_kn mm w) i) ||| (2 ^ i)) = (pw_ob (pw_kn mm w) (i + 1)) from by simp [pw_ob, pw_kn, h12, h26, h42]]
          refine pw_lvp [2, 3, 1, 0] rfl ?_
          exact ih (by omega)
  show pw_V x m_X7_whoKnows 1 Z 0 [(0, .ref 0), (1, .int (nI w))] [] mm
  refine pw_blk (pc' := 4) [.iconst 0, .istore 2, .iconst 0, .istore 3] (by decide +kernel) ?_
  show pw_V x m_X7_whoKnows 1 Z 4 [(3, .int (nI 0)), (2, .int (nI 0)), (0, .ref 0), (1, .int (nI w))] [] mm
  refine pw_lvp [2, 3, 1, 0] rfl ?_
  exact loop 0 (by omega)

def pw_qu (A : pw_m) (s : Nat) : Bool := pw_en2 A (pw_si A s) (pw_si A (pw_bh (pw_n A) s))
def pw_sm (f : Nat → Nat) : Nat → Nat
  | 0 => 0
  | n + 1 => pw_sm f n + f n
theorem pw_pc_le (b : Nat) : pw_pc b ≤ 8 := pw_ct_le
theorem pw_sm_le {f : Nat → Nat} {c n : Nat} (h : ∀ i, f i ≤ c) : pw_sm f n ≤ n * c := by
  induction n with
  | zero => simp [pw_sm]
  | succ n ih => simp only [pw_sm]; have := h n; rw [Nat.succ_mul]; omega
theorem pw_sm_congr {p q : Nat → Nat} {n : Nat} (h : ∀ i, i < n → p i = q i) : pw_sm p n = pw_sm q n := by
  induction n with
  | zero => rfl
  | succ n ih => simp only [pw_sm]; rw [ih (fun i hi => h i (by omega)), h n (by omega)]

set_option maxHeartbeats 4000000 in
set_option maxRecDepth 100000 in
theorem c_quarrels (mm : pw_m) (hok : pw_ok mm) : pw_Ct 2 yX7_quarrels m_X7_quarrels [.ref 0] mm (fun r m' => r = some (.int (nI (pw_ct_ (pw_qu mm) (pw_n mm)))) ∧ m' = mm) := by
  refine pw_ct (by decide +kernel) rfl (Nat.le_of_ble_eq_true rfl) (fun x => ?_)
  generalize hZ : pw_Z x _ = Z
  have bn := pw_bn hok
  have bk := pw_bk hok
  have loop : ∀ i : Nat, i ≤ pw_n mm → pw_V x m_X7_quarrels 2 Z 4 [(0, .ref 0), (1, .int (nI (pw_ct_ (pw_qu mm) i))), (2, .int (nI i))] [] mm := by
    refine pw_dn (pw_n mm) (fun i hi ih => ?_)
    have bc : pw_ct_ (pw_qu mm) i ≤ i := pw_ct_le
    refine pw_blk (pc' := 12) [.iload 2, .aload 0, .getfield 701, .getfield 500] (by decide +kernel) ?_
    show pw_V x m_X7_quarrels 2 Z 12 [(0, .ref 0), (1, .int (nI (pw_ct_ (pw_qu mm) i))), (2, .int (nI i))] [.int (mm 4 0), .int (nI i)] mm
    rw [show mm 4 0 = nI (pw_n mm) from pw_q40 hok]
    refine pw_in_ge (tgt := 44) (off := 32) (by omega) (by omega) (by decide +kernel) (by decide) (fun h12 => ?_) (fun h12 => ?_)
    · refine pw_blk (pc' := 45) [.iload 1] (by decide +kernel) ?_
      show pw_V x m_X7_quarrels 2 Z 45 [(0, .ref 0), (1, .int (nI (pw_ct_ (pw_qu mm) i))), (2, .int (nI i))] [.int (nI (pw_ct_ (pw_qu mm) i))] mm
      rw [← hZ]
      refine pw_ri (by decide +kernel) ?_
      have e : i = pw_n mm := by omega
      subst e
      exact ⟨rfl, rfl⟩
    · refine pw_blk (pc' := 21) [.aload 0, .aload 0, .getfield 702, .iload 2] (by decide +kernel) ?_
      show pw_V x m_X7_quarrels 2 Z 21 [(0, .ref 0), (1, .int (nI (pw_ct_ (pw_qu mm) i))), (2, .int (nI i))] [.int (nI i), .ref 42, .ref 0] mm
      refine pw_cV (vs := [.int (nI i)]) (rest := [.ref 0]) k_X0_whoSitsOn (c_whoSitsOn i mm hok (by omega)) l_7_96 rfl rfl rfl rfl (by decide) (Nat.le_of_ble_eq_true rfl) (by decide +kernel) ?_
      rintro _ m1 ⟨rfl, e1⟩
      rw [e1]
      clear e1 m1
      show pw_V x m_X7_quarrels 2 Z 24 [(0, .ref 0), (1, .int (nI (pw_ct_ (pw_qu mm) i))), (2, .int (nI i))] [.int (pw_o (pw_si mm i)), .ref 0] mm
      refine pw_blk (pc' := 26) [.aload 0, .iload 2] (by decide +kernel) ?_
      show pw_V x m_X7_quarrels 2 Z 26 [(0, .ref 0), (1, .int (nI (pw_ct_ (pw_qu mm) i))), (2, .int (nI i))] [.int (nI i), .ref 0, .int (pw_o (pw_si mm i)), .ref 0] mm
      refine pw_cV (vs := [.int (nI i)]) (rest := [.int (pw_o (pw_si mm i)), .ref 0]) k_X7_whoSitsBehind (c_whoSitsBehind i mm hok (by omega)) l_7_274 rfl rfl rfl rfl (by decide) (Nat.le_of_ble_eq_true rfl) (by decide +kernel) ?_
      rintro _ m1 ⟨rfl, e1⟩
      rw [e1]
      clear e1 m1
      show pw_V x m_X7_quarrels 2 Z 29 [(0, .ref 0), (1, .int (nI (pw_ct_ (pw_qu mm) i))), (2, .int (nI i))] [.int (pw_o (pw_si mm (pw_bh (pw_n mm) i))), .int (pw_o (pw_si mm i)), .ref 0] mm
      refine pw_cV (vs := [.int (pw_o (pw_si mm i)), .int (pw_o (pw_si mm (pw_bh (pw_n mm) i)))]) (rest := []) k_X7_areEnemies (c_areEnemies (pw_si mm i) (pw_si mm (pw_bh (pw_n mm) i)) mm hok (fun c hc => pw_si_lt hc) (fun c hc => pw_si_lt hc)) l_7_277 rfl rfl rfl rfl (by decide) (Nat.le_of_ble_eq_true rfl) (by decide +kernel) ?_
      rintro _ m1 ⟨rfl, e1⟩
      rw [e1]
      clear e1 m1
      show pw_V x m_X7_quarrels 2 Z 32 [(0, .ref 0), (1, .int (nI (pw_ct_ (pw_qu mm) i))), (2, .int (nI i))] [.int (pw_b (pw_en2 mm (pw_si mm i) (pw_si mm (pw_bh (pw_n mm) i))))] mm
      refine pw_ib_eq (tgt := 38) (off := 6) (by decide +kernel) (by decide) (fun h32 => ?_) (fun h32 => ?_)
      · refine pw_blk (pc' := 41) [.iinc 2 1] (by decide +kernel) ?_
        show pw_V x m_X7_quarrels 2 Z 41 [(2, .int ((nI i) + (nI 1))), (0, .ref 0), (1, .int (nI (pw_ct_ (pw_qu mm) i)))] [] mm
        rw [show (nI i) + (nI 1) = nI (i + 1) from nI_add _ _]
        refine pw_goto (tgt := 4) (off := -37) (by decide +kernel) (by decide) ?_
        rw [show (pw_ct_ (pw_qu mm) i) = (pw_ct_ (pw_qu mm) (i + 1)) from by simp [pw_ct_, pw_qu, h12, h32]]
        refine pw_lvp [1, 2, 0] rfl ?_
        exact ih (by omega)
      · refine pw_blk (pc' := 41) [.iinc 1 1, .iinc 2 1] (by decide +kernel) ?_
        show pw_V x m_X7_quarrels 2 Z 41 [(2, .int ((nI i) + (nI 1))), (1, .int ((nI (pw_ct_ (pw_qu mm) i)) + (nI 1))), (0, .ref 0)] [] mm
        rw [show (nI i) + (nI 1) = nI (i + 1) from nI_add _ _]
        rw [show (nI (pw_ct_ (pw_qu mm) i)) + (nI 1) = nI ((pw_ct_ (pw_qu mm) i) + 1) from nI_add _ _]
        refine pw_goto (tgt := 4) (off := -37) (by decide +kernel) (by decide) ?_
        rw [show ((pw_ct_ (pw_qu mm) i) + 1) = (pw_ct_ (pw_qu mm) (i + 1)) from by simp [pw_ct_, pw_qu, h12, h32]]
        refine pw_lvp [2, 1, 0] rfl ?_
        exact ih (by omega)
  show pw_V x m_X7_quarrels 2 Z 0 [(0, .ref 0)] [] mm
  refine pw_blk (pc' := 4) [.iconst 0, .istore 1, .iconst 0, .istore 2] (by decide +kernel) ?_
  show pw_V x m_X7_quarrels 2 Z 4 [(2, .int (nI 0)), (1, .int (nI 0)), (0, .ref 0)] [] mm
  refine pw_lvp [2, 1, 0] rfl ?_
  exact loop 0 (by omega)

set_option maxHeartbeats 4000000 in
set_option maxRecDepth 100000 in
theorem c_pairs (mm : pw_m) (hok : pw_ok mm) : pw_Ct 1 yX5_pairsOfEnemies m_X5_pairsOfEnemies [.ref 4] mm (fun r m' => r = some (.int (nI (pw_sm (fun j => pw_pc (pw_g mm 10 j)) (pw_k mm) / 2))) ∧ m' = mm) := by
  refine pw_ct (by decide +kernel) rfl (Nat.le_of_ble_eq_true rfl) (fun x => ?_)
  generalize hZ : pw_Z x _ = Z
  have bn := pw_bn hok
  have bk := pw_bk hok
  have loop : ∀ i : Nat, i ≤ pw_k mm → pw_V x m_X5_pairsOfEnemies 1 Z 4 [(0, .ref 4), (1, .int (nI (pw_sm (fun j => pw_pc (pw_g mm 10 j)) i))), (2, .int (nI i))] [] mm := by
    refine pw_dn (pw_k mm) (fun i hi ih => ?_)
    have bc : pw_sm (fun j => pw_pc (pw_g mm 10 j)) i ≤ i * 8 := pw_sm_le (fun _ => pw_pc_le _)
    refine pw_blk (pc' := 9) [.iload 2, .aload 0, .getfield 501] (by decide +kernel) ?_
    show pw_V x m_X5_pairsOfEnemies 1 Z 9 [(0, .ref 4), (1, .int (nI (pw_sm (fun j => pw_pc (pw_g mm 10 j)) i))), (2, .int (nI i))] [.int (mm 4 1), .int (nI i)] mm
    rw [show mm 4 1 = nI (pw_k mm) from pw_q41 hok]
    refine pw_in_ge (tgt := 30) (off := 21) (by omega) (by omega) (by decide +kernel) (by decide) (fun h9 => ?_) (fun h9 => ?_)
    · refine pw_blk (pc' := 33) [.iload 1, .iconst 2, .idiv] (by decide +kernel) ?_
      refine ⟨(show ¬ nI 2 = 0 from nI_ne0 (by omega) (by omega)), ?_⟩
      show pw_V x m_X5_pairsOfEnemies 1 Z 33 [(0, .ref 4), (1, .int (nI (pw_sm (fun j => pw_pc (pw_g mm 10 j)) i))), (2, .int (nI i))] [.int ((nI (pw_sm (fun j => pw_pc (pw_g mm 10 j)) i)) / (nI 2))] mm
      rw [show (nI (pw_sm (fun j => pw_pc (pw_g mm 10 j)) i)) / (nI 2) = nI ((pw_sm (fun j => pw_pc (pw_g mm 10 j)) i) / 2) from pk_div (by omega) (by omega) (by omega)]
      rw [← hZ]
      refine pw_ri (by decide +kernel) ?_
      have e : i = pw_k mm := by omega
      subst e
      exact ⟨rfl, rfl⟩
    · refine pw_blk (pc' := 19) [.iload 1, .aload 0, .getfield 507, .iload 2, .iaload] (by decide +kernel) ?_
      refine ⟨i, rfl, by omega, ?_⟩
      show pw_V x m_X5_pairsOfEnemies 1 Z 19 [(0, .ref 4), (1, .int (nI (pw_sm (fun j => pw_pc (pw_g mm 10 j)) i))), (2, .int (nI i))] [.int (mm 10 i), .int (nI (pw_sm (fun j => pw_pc (pw_g mm 10 j)) i))] mm
      rw [show mm 10 i = nI (pw_g mm 10 i) from pw_q10 hok (by omega)]
      refine pw_cS (vs := [.int (nI (pw_g mm 10 i))]) (rest := [.int (nI (pw_sm (fun j => pw_pc (pw_g mm 10 j)) i))]) k_J6_bitCount_0f7a4 (c_bitCount (nI (pw_g mm 10 i)) mm) l_5_64 rfl (by decide) (Nat.le_of_ble_eq_true rfl) (by decide +kernel) ?_
      rintro _ m1 ⟨rfl, e1⟩
      rw [e1]
      clear e1 m1
      show pw_V x m_X5_pairsOfEnemies 1 Z 22 [(0, .ref 4), (1, .int (nI (pw_sm (fun j => pw_pc (pw_g mm 10 j)) i))), (2, .int (nI i))] [.int (pw_bc (nI (pw_g mm 10 i))), .int (nI (pw_sm (fun j => pw_pc (pw_g mm 10 j)) i))] mm
      rw [pw_bcN _ (by have := pw_b10 hok (show i < 6 by omega); omega)]
      refine pw_blk (pc' := 27) [.iadd, .istore 1, .iinc 2 1] (by decide +kernel) ?_
      show pw_V x m_X5_pairsOfEnemies 1 Z 27 [(2, .int ((nI i) + (nI 1))), (1, .int ((nI (pw_sm (fun j => pw_pc (pw_g mm 10 j)) i)) + (nI (pw_pc (pw_g mm 10 i))))), (0, .ref 4)] [] mm
      rw [show (nI i) + (nI 1) = nI (i + 1) from nI_add _ _]
      rw [show (nI (pw_sm (fun j => pw_pc (pw_g mm 10 j)) i)) + (nI (pw_pc (pw_g mm 10 i))) = nI ((pw_sm (fun j => pw_pc (pw_g mm 10 j)) i) + (pw_pc (pw_g mm 10 i))) from nI_add _ _]
      refine pw_goto (tgt := 4) (off := -23) (by decide +kernel) (by decide) ?_
      rw [show ((pw_sm (fun j => pw_pc (pw_g mm 10 j)) i) + (pw_pc (pw_g mm 10 i))) = (pw_sm (fun j => pw_pc (pw_g mm 10 j)) (i + 1)) from by simp [pw_sm, h9]]
      refine pw_lvp [2, 1, 0] rfl ?_
      exact ih (by omega)
  show pw_V x m_X5_pairsOfEnemies 1 Z 0 [(0, .ref 4)] [] mm
  refine pw_blk (pc' := 4) [.iconst 0, .istore 1, .iconst 0, .istore 2] (by decide +kernel) ?_
  show pw_V x m_X5_pairsOfEnemies 1 Z 4 [(2, .int (nI 0)), (1, .int (nI 0)), (0, .ref 4)] [] mm
  refine pw_lvp [2, 1, 0] rfl ?_
  exact loop 0 (by omega)
end
section
def F_seat (A : pw_m) (s what : Int32) : Int32 := if pw_inr s (pw_n A) then (if what = nI 0 then A 5 (pw_c s) else if what = nI 1 then A 6 (pw_c s) else if what = nI 2 then pw_o (pw_si A (pw_c s)) else if what = nI 3 then pw_b (decide (pw_pon A = some (pw_c s))) else -3) else -2
def F_knight (A : pw_m) (k what : Int32) : Int32 := if pw_inr k (pw_k A) then (if what = nI 0 then A 7 (pw_c k) else if what = nI 1 then A 43 (pw_c k) else if what = nI 2 then A 9 (pw_c k) else if what = nI 3 then A 10 (pw_c k) else if what = nI 4 then pw_b ((pw_g A 42 1).testBit (pw_c k)) else if what = nI 5 then A 44 (pw_c k) else if what = nI 6 then A 45 (pw_c k) else -3) else -2
theorem nI_ne {a b : Nat} (h : a ≠ b) (ha : a < 2 ^ 31) (hb : b < 2 ^ 31) : ¬ nI a = nI b := fun q => h ((nI_eq ha hb).mp q)
theorem nz10 : ¬ nI 1 = nI 0 := by decide
theorem nz20 : ¬ nI 2 = nI 0 := by decide
theorem nz21 : ¬ nI 2 = nI 1 := by decide
theorem nz30 : ¬ nI 3 = nI 0 := by decide
theorem nz31 : ¬ nI 3 = nI 1 := by decide
theorem nz32 : ¬ nI 3 = nI 2 := by decide
theorem nz40 : ¬ nI 4 = nI 0 := by decide
theorem nz41 : ¬ nI 4 = nI 1 := by decide
theorem nz42 : ¬ nI 4 = nI 2 := by decide
theorem nz43 : ¬ nI 4 = nI 3 := by decide
theorem nz50 : ¬ nI 5 = nI 0 := by decide
theorem nz51 : ¬ nI 5 = nI 1 := by decide
theorem nz52 : ¬ nI 5 = nI 2 := by decide
theorem nz53 : ¬ nI 5 = nI 3 := by decide
theorem nz54 : ¬ nI 5 = nI 4 := by decide
theorem nz60 : ¬ nI 6 = nI 0 := by decide
theorem nz61 : ¬ nI 6 = nI 1 := by decide
theorem nz62 : ¬ nI 6 = nI 2 := by decide
theorem nz63 : ¬ nI 6 = nI 3 := by decide
theorem nz64 : ¬ nI 6 = nI 4 := by decide
theorem nz65 : ¬ nI 6 = nI 5 := by decide
theorem pw_b_t : pw_b true = nI 1 := rfl
theorem pw_b_f : pw_b false = nI 0 := rfl

set_option maxHeartbeats 4000000 in
set_option maxRecDepth 100000 in
theorem c_seat (s what : Int32) (mm : pw_m) (hok : pw_ok mm) : pw_Ct 2 yX7_seat m_X7_seat [.ref 0, .int s, .int what] mm (fun r m' => r = some (.int (F_seat mm s what)) ∧ m' = mm) := by
  refine pw_ct (by decide +kernel) rfl (Nat.le_of_ble_eq_true rfl) (fun x => ?_)
  generalize hZ : pw_Z x _ = Z
  have bn := pw_bn hok
  have bk := pw_bk hok
  have b8 := pw_b48 hok
  have bd := pw_b420 hok
  have bm := pw_mulb (pw_b49 hok) bd
  show pw_V x m_X7_seat 2 Z 0 [(0, .ref 0), (1, .int s), (2, .int what)] [] mm
  refine pw_blk (pc' := 2) [.aload 0, .iload 1] (by decide +kernel) ?_
  show pw_V x m_X7_seat 2 Z 2 [(0, .ref 0), (1, .int s), (2, .int what)] [.int s, .ref 0] mm
  refine pw_cV (vs := [.int s]) (rest := []) k_X7_isSeat (c_isSeat s mm hok) l_7_86 rfl rfl rfl rfl (by decide) (Nat.le_of_ble_eq_true rfl) (by decide +kernel) ?_
  rintro _ m1 ⟨rfl, e1⟩
  rw [e1]
  clear e1 m1
  show pw_V x m_X7_seat 2 Z 5 [(0, .ref 0), (1, .int s), (2, .int what)] [.int (pw_b (pw_inr s (pw_n mm)))] mm
  refine pw_ib_ne (tgt := 11) (off := 6) (by decide +kernel) (by decide) (fun h5 => ?_) (fun h5 => ?_)
  · obtain ⟨j5, b5, e5⟩ := pw_inr_t (by omega) h5
    subst e5
    refine pw_blk (pc' := 12) [.iload 2] (by decide +kernel) ?_
    show pw_V x m_X7_seat 2 Z 12 [(0, .ref 0), (1, .int (nI j5)), (2, .int what)] [.int what] mm
    refine pw_tsw (tgt := 97) (dflt := 85) (lo := 0) (hi := 3) (offs := #[32, 42, 52, 61]) (len := 32) (by decide +kernel) (by decide) (fun h12 => ?_) (fun j hj h12 => ?_)
    · have e12_0 : ¬ what = nI 0 := fun q => by rw [q] at h12; revert h12; decide
      have e12_1 : ¬ what = nI 1 := fun q => by rw [q] at h12; revert h12; decide
      have e12_2 : ¬ what = nI 2 := fun q => by rw [q] at h12; revert h12; decide
      have e12_3 : ¬ what = nI 3 := fun q => by rw [q] at h12; revert h12; decide
      refine pw_blk (pc' := 99) [.iconst (-3)] (by decide +kernel) ?_
      show pw_V x m_X7_seat 2 Z 99 [(0, .ref 0), (1, .int (nI j5)), (2, .int what)] [.int (-3)] mm
      rw [← hZ]
      refine pw_ri (by decide +kernel) ?_
      refine ⟨?_, rfl⟩
      simp [F_seat, pw_b_t, pw_b_f, nz10, nz20, nz21, nz30, nz31, nz32, nz40, nz41, nz42, nz43, nz50, nz51, nz52, nz53, nz54, nz60, nz61, nz62, nz63, nz64, nz65, pw_inr_nI (show j5 < 2 ^ 31 by omega) (show pw_n mm < 2 ^ 31 by omega), pw_c_nI (show j5 < 2 ^ 31 by omega), b5, h5, e12_0, e12_1, e12_2, e12_3]
    · match j, hj, h12 with
      | 0, hj, h12 =>
        refine ⟨32, 44, rfl, by decide, ?_⟩
        have e12 : what = nI 0 := Int32.toInt_inj.mp (by rw [h12]; rfl)
        subst e12
        refine pw_blk (pc' := 53) [.aload 0, .getfield 701, .getfield 502, .iload 1, .iaload] (by decide +kernel) ?_
        refine ⟨j5, rfl, by omega, ?_⟩
        show pw_V x m_X7_seat 2 Z 53 [(0, .ref 0), (1, .int (nI j5)), (2, .int (nI 0))] [.int (mm 5 j5)] mm
        rw [← hZ]
        refine pw_ri (by decide +kernel) ?_
        refine ⟨?_, rfl⟩
        simp [F_seat, pw_b_t, pw_b_f, nz10, nz20, nz21, nz30, nz31, nz32, nz40, nz41, nz42, nz43, nz50, nz51, nz52, nz53, nz54, nz60, nz61, nz62, nz63, nz64, nz65, pw_inr_nI (show j5 < 2 ^ 31 by omega) (show pw_n mm < 2 ^ 31 by omega), pw_c_nI (show j5 < 2 ^ 31 by omega), b5, h5]
      | 1, hj, h12 =>
        refine ⟨42, 54, rfl, by decide, ?_⟩
        have e12 : what = nI 1 := Int32.toInt_inj.mp (by rw [h12]; rfl)
        subst e12
        refine pw_blk (pc' := 63) [.aload 0, .getfield 701, .getfield 503, .iload 1, .iaload] (by decide +kernel) ?_
        refine ⟨j5, rfl, by omega, ?_⟩
        show pw_V x m_X7_seat 2 Z 63 [(0, .ref 0), (1, .int (nI j5)), (2, .int (nI 1))] [.int (mm 6 j5)] mm
        rw [← hZ]
        refine pw_ri (by decide +kernel) ?_
        refine ⟨?_, rfl⟩
        simp [F_seat, pw_b_t, pw_b_f, nz10, nz20, nz21, nz30, nz31, nz32, nz40, nz41, nz42, nz43, nz50, nz51, nz52, nz53, nz54, nz60, nz61, nz62, nz63, nz64, nz65, pw_inr_nI (show j5 < 2 ^ 31 by omega) (show pw_n mm < 2 ^ 31 by omega), pw_c_nI (show j5 < 2 ^ 31 by omega), b5, h5]
      | 2, hj, h12 =>
        refine ⟨52, 64, rfl, by decide, ?_⟩
        have e12 : what = nI 2 := Int32.toInt_inj.mp (by rw [h12]; rfl)
        subst e12
        refine pw_blk (pc' := 69) [.aload 0, .getfield 702, .iload 1] (by decide +kernel) ?_
        show pw_V x m_X7_seat 2 Z 69 [(0, .ref 0), (1, .int (nI j5)), (2, .int (nI 2))] [.int (nI j5), .ref 42] mm
        refine pw_cV (vs := [.int (nI j5)]) (rest := []) k_X0_whoSitsOn (c_whoSitsOn j5 mm hok (by omega)) l_7_96 rfl rfl rfl rfl (by decide) (Nat.le_of_ble_eq_true rfl) (by decide +kernel) ?_
        rintro _ m1 ⟨rfl, e1⟩
        rw [e1]
        clear e1 m1
        show pw_V x m_X7_seat 2 Z 72 [(0, .ref 0), (1, .int (nI j5)), (2, .int (nI 2))] [.int (pw_o (pw_si mm j5))] mm
        rw [← hZ]
        refine pw_ri (by decide +kernel) ?_
        refine ⟨?_, rfl⟩
        simp [F_seat, pw_b_t, pw_b_f, nz10, nz20, nz21, nz30, nz31, nz32, nz40, nz41, nz42, nz43, nz50, nz51, nz52, nz53, nz54, nz60, nz61, nz62, nz63, nz64, nz65, pw_inr_nI (show j5 < 2 ^ 31 by omega) (show pw_n mm < 2 ^ 31 by omega), pw_c_nI (show j5 < 2 ^ 31 by omega), b5, h5]
      | 3, hj, h12 =>
        refine ⟨61, 73, rfl, by decide, ?_⟩
        have e12 : what = nI 3 := Int32.toInt_inj.mp (by rw [h12]; rfl)
        subst e12
        refine pw_blk (pc' := 84) [.aload 0, .getfield 701, .aload 0, .getfield 702, .getfield 0] (by decide +kernel) ?_
        show pw_V x m_X7_seat 2 Z 84 [(0, .ref 0), (1, .int (nI j5)), (2, .int (nI 3))] [.int (mm 42 0), .ref 4] mm
        rw [show mm 42 0 = nI (pw_g mm 42 0) from pw_q420 hok]
        refine pw_cV (vs := [.int (nI (pw_g mm 42 0))]) (rest := []) k_X5_perilOn (c_perilOn mm hok) l_7_103 rfl rfl rfl rfl (by decide) (Nat.le_of_ble_eq_true rfl) (by decide +kernel) ?_
        rintro _ m1 ⟨rfl, e1⟩
        rw [e1]
        clear e1 m1
        show pw_V x m_X7_seat 2 Z 87 [(0, .ref 0), (1, .int (nI j5)), (2, .int (nI 3))] [.int (pw_o (pw_pon mm))] mm
        refine pw_blk (pc' := 88) [.iload 1] (by decide +kernel) ?_
        show pw_V x m_X7_seat 2 Z 88 [(0, .ref 0), (1, .int (nI j5)), (2, .int (nI 3))] [.int (nI j5), .int (pw_o (pw_pon mm))] mm
        refine pw_on_ne (tgt := 95) (off := 7) (by decide +kernel) (by decide) (fun a ha => Nat.lt_trans (pw_pon_lt ha) (by omega)) (by omega) (fun h88 => ?_) (fun h88 => ?_)
        · refine pw_blk (pc' := 96) [.iconst 0] (by decide +kernel) ?_
          show pw_V x m_X7_seat 2 Z 96 [(0, .ref 0), (1, .int (nI j5)), (2, .int (nI 3))] [.int (nI 0)] mm
          rw [← hZ]
          refine pw_ri (by decide +kernel) ?_
          refine ⟨?_, rfl⟩
          simp [F_seat, pw_b_t, pw_b_f, nz10, nz20, nz21, nz30, nz31, nz32, nz40, nz41, nz42, nz43, nz50, nz51, nz52, nz53, nz54, nz60, nz61, nz62, nz63, nz64, nz65, pw_inr_nI (show j5 < 2 ^ 31 by omega) (show pw_n mm < 2 ^ 31 by omega), pw_c_nI (show j5 < 2 ^ 31 by omega), b5, h5, h88]
        · refine pw_blk (pc' := 92) [.iconst 1] (by decide +kernel) ?_
          show pw_V x m_X7_seat 2 Z 92 [(0, .ref 0), (1, .int (nI j5)), (2, .int (nI 3))] [.int (nI 1)] mm
          refine pw_goto (tgt := 96) (off := 4) (by decide +kernel) (by decide) ?_
          rw [← hZ]
          refine pw_ri (by decide +kernel) ?_
          refine ⟨?_, rfl⟩
          simp [F_seat, pw_b_t, pw_b_f, nz10, nz20, nz21, nz30, nz31, nz32, nz40, nz41, nz42, nz43, nz50, nz51, nz52, nz53, nz54, nz60, nz61, nz62, nz63, nz64, nz65, pw_inr_nI (show j5 < 2 ^ 31 by omega) (show pw_n mm < 2 ^ 31 by omega), pw_c_nI (show j5 < 2 ^ 31 by omega), b5, h5, h88]
      | j + 4, hj, h12 => exact absurd hj (by omega)
  · refine pw_blk (pc' := 10) [.iconst (-2)] (by decide +kernel) ?_
    show pw_V x m_X7_seat 2 Z 10 [(0, .ref 0), (1, .int s), (2, .int what)] [.int (-2)] mm
    rw [← hZ]
    refine pw_ri (by decide +kernel) ?_
    refine ⟨?_, rfl⟩
    simp [F_seat, pw_b_t, pw_b_f, nz10, nz20, nz21, nz30, nz31, nz32, nz40, nz41, nz42, nz43, nz50, nz51, nz52, nz53, nz54, nz60, nz61, nz62, nz63, nz64, nz65, h5]

set_option maxHeartbeats 4000000 in
set_option maxRecDepth 100000 in
theorem c_knight (k what : Int32) (mm : pw_m) (hok : pw_ok mm) : pw_Ct 1 yX7_knight m_X7_knight [.ref 0, .int k, .int what] mm (fun r m' => r = some (.int (F_knight mm k what)) ∧ m' = mm) := by
  refine pw_ct (by decide +kernel) rfl (Nat.le_of_ble_eq_true rfl) (fun x => ?_)
  generalize hZ : pw_Z x _ = Z
  have bn := pw_bn hok
  have bk := pw_bk hok
  have bt := pw_b421' hok
  show pw_V x m_X7_knight 1 Z 0 [(0, .ref 0), (1, .int k), (2, .int what)] [] mm
  refine pw_blk (pc' := 2) [.aload 0, .iload 1] (by decide +kernel) ?_
  show pw_V x m_X7_knight 1 Z 2 [(0, .ref 0), (1, .int k), (2, .int what)] [.int k, .ref 0] mm
  refine pw_cV (vs := [.int k]) (rest := []) k_X7_isKnight (c_isKnight k mm hok) l_7_106 rfl rfl rfl rfl (by decide) (Nat.le_of_ble_eq_true rfl) (by decide +kernel) ?_
  rintro _ m1 ⟨rfl, e1⟩
  rw [e1]
  clear e1 m1
  show pw_V x m_X7_knight 1 Z 5 [(0, .ref 0), (1, .int k), (2, .int what)] [.int (pw_b (pw_inr k (pw_k mm)))] mm
  refine pw_ib_ne (tgt := 11) (off := 6) (by decide +kernel) (by decide) (fun h5 => ?_) (fun h5 => ?_)
  · obtain ⟨j5, b5, e5⟩ := pw_inr_t (by omega) h5
    subst e5
    refine pw_blk (pc' := 12) [.iload 2] (by decide +kernel) ?_
    show pw_V x m_X7_knight 1 Z 12 [(0, .ref 0), (1, .int (nI j5)), (2, .int what)] [.int what] mm
    refine pw_tsw (tgt := 136) (dflt := 124) (lo := 0) (hi := 6) (offs := #[44, 54, 64, 74, 84, 104, 114]) (len := 44) (by decide +kernel) (by decide) (fun h12 => ?_) (fun j hj h12 => ?_)
    · have e12_0 : ¬ what = nI 0 := fun q => by rw [q] at h12; revert h12; decide
      have e12_1 : ¬ what = nI 1 := fun q => by rw [q] at h12; revert h12; decide
      have e12_2 : ¬ what = nI 2 := fun q => by rw [q] at h12; revert h12; decide
      have e12_3 : ¬ what = nI 3 := fun q => by rw [q] at h12; revert h12; decide
      have e12_4 : ¬ what = nI 4 := fun q => by rw [q] at h12; revert h12; decide
      have e12_5 : ¬ what = nI 5 := fun q => by rw [q] at h12; revert h12; decide
      have e12_6 : ¬ what = nI 6 := fun q => by rw [q] at h12; revert h12; decide
      refine pw_blk (pc' := 138) [.iconst (-3)] (by decide +kernel) ?_
      show pw_V x m_X7_knight 1 Z 138 [(0, .ref 0), (1, .int (nI j5)), (2, .int what)] [.int (-3)] mm
      rw [← hZ]
      refine pw_ri (by decide +kernel) ?_
      refine ⟨?_, rfl⟩
      simp [F_knight, pw_b_t, pw_b_f, nz10, nz20, nz21, nz30, nz31, nz32, nz40, nz41, nz42, nz43, nz50, nz51, nz52, nz53, nz54, nz60, nz61, nz62, nz63, nz64, nz65, pw_inr_nI (show j5 < 2 ^ 31 by omega) (show pw_k mm < 2 ^ 31 by omega), pw_c_nI (show j5 < 2 ^ 31 by omega), b5, h5, e12_0, e12_1, e12_2, e12_3, e12_4, e12_5, e12_6]
    · match j, hj, h12 with
      | 0, hj, h12 =>
        refine ⟨44, 56, rfl, by decide, ?_⟩
        have e12 : what = nI 0 := Int32.toInt_inj.mp (by rw [h12]; rfl)
        subst e12
        refine pw_blk (pc' := 65) [.aload 0, .getfield 701, .getfield 504, .iload 1, .iaload] (by decide +kernel) ?_
        refine ⟨j5, rfl, by omega, ?_⟩
        show pw_V x m_X7_knight 1 Z 65 [(0, .ref 0), (1, .int (nI j5)), (2, .int (nI 0))] [.int (mm 7 j5)] mm
        rw [← hZ]
        refine pw_ri (by decide +kernel) ?_
        refine ⟨?_, rfl⟩
        simp [F_knight, pw_b_t, pw_b_f, nz10, nz20, nz21, nz30, nz31, nz32, nz40, nz41, nz42, nz43, nz50, nz51, nz52, nz53, nz54, nz60, nz61, nz62, nz63, nz64, nz65, pw_inr_nI (show j5 < 2 ^ 31 by omega) (show pw_k mm < 2 ^ 31 by omega), pw_c_nI (show j5 < 2 ^ 31 by omega), b5, h5]
      | 1, hj, h12 =>
        refine ⟨54, 66, rfl, by decide, ?_⟩
        have e12 : what = nI 1 := Int32.toInt_inj.mp (by rw [h12]; rfl)
        subst e12
        refine pw_blk (pc' := 75) [.aload 0, .getfield 702, .getfield 2, .iload 1, .iaload] (by decide +kernel) ?_
        refine ⟨j5, rfl, by omega, ?_⟩
        show pw_V x m_X7_knight 1 Z 75 [(0, .ref 0), (1, .int (nI j5)), (2, .int (nI 1))] [.int (mm 43 j5)] mm
        rw [← hZ]
        refine pw_ri (by decide +kernel) ?_
        refine ⟨?_, rfl⟩
        simp [F_knight, pw_b_t, pw_b_f, nz10, nz20, nz21, nz30, nz31, nz32, nz40, nz41, nz42, nz43, nz50, nz51, nz52, nz53, nz54, nz60, nz61, nz62, nz63, nz64, nz65, pw_inr_nI (show j5 < 2 ^ 31 by omega) (show pw_k mm < 2 ^ 31 by omega), pw_c_nI (show j5 < 2 ^ 31 by omega), b5, h5]
      | 2, hj, h12 =>
        refine ⟨64, 76, rfl, by decide, ?_⟩
        have e12 : what = nI 2 := Int32.toInt_inj.mp (by rw [h12]; rfl)
        subst e12
        refine pw_blk (pc' := 85) [.aload 0, .getfield 701, .getfield 506, .iload 1, .iaload] (by decide +kernel) ?_
        refine ⟨j5, rfl, by omega, ?_⟩
        show pw_V x m_X7_knight 1 Z 85 [(0, .ref 0), (1, .int (nI j5)), (2, .int (nI 2))] [.int (mm 9 j5)] mm
        rw [← hZ]
        refine pw_ri (by decide +kernel) ?_
        refine ⟨?_, rfl⟩
        simp [F_knight, pw_b_t, pw_b_f, nz10, nz20, nz21, nz30, nz31, nz32, nz40, nz41, nz42, nz43, nz50, nz51, nz52, nz53, nz54, nz60, nz61, nz62, nz63, nz64, nz65, pw_inr_nI (show j5 < 2 ^ 31 by omega) (show pw_k mm < 2 ^ 31 by omega), pw_c_nI (show j5 < 2 ^ 31 by omega), b5, h5]
      | 3, hj, h12 =>
        refine ⟨74, 86, rfl, by decide, ?_⟩
        have e12 : what = nI 3 := Int32.toInt_inj.mp (by rw [h12]; rfl)
        subst e12
        refine pw_blk (pc' := 95) [.aload 0, .getfield 701, .getfield 507, .iload 1, .iaload] (by decide +kernel) ?_
        refine ⟨j5, rfl, by omega, ?_⟩
        show pw_V x m_X7_knight 1 Z 95 [(0, .ref 0), (1, .int (nI j5)), (2, .int (nI 3))] [.int (mm 10 j5)] mm
        rw [← hZ]
        refine pw_ri (by decide +kernel) ?_
        refine ⟨?_, rfl⟩
        simp [F_knight, pw_b_t, pw_b_f, nz10, nz20, nz21, nz30, nz31, nz32, nz40, nz41, nz42, nz43, nz50, nz51, nz52, nz53, nz54, nz60, nz61, nz62, nz63, nz64, nz65, pw_inr_nI (show j5 < 2 ^ 31 by omega) (show pw_k mm < 2 ^ 31 by omega), pw_c_nI (show j5 < 2 ^ 31 by omega), b5, h5]
      | 4, hj, h12 =>
        refine ⟨84, 96, rfl, by decide, ?_⟩
        have e12 : what = nI 4 := Int32.toInt_inj.mp (by rw [h12]; rfl)
        subst e12
        refine pw_blk (pc' := 104) [.aload 0, .getfield 702, .getfield 1, .iload 1] (by decide +kernel) ?_
        show pw_V x m_X7_knight 1 Z 104 [(0, .ref 0), (1, .int (nI j5)), (2, .int (nI 4))] [.int (nI j5), .int (mm 42 1)] mm
        rw [show mm 42 1 = nI (pw_g mm 42 1) from pw_q421 hok]
        refine pw_cS (vs := [.int (nI (pw_g mm 42 1)), .int (nI j5)]) (rest := []) k_X7_has (c_has (nI (pw_g mm 42 1)) (nI j5) mm) l_7_124 rfl (by decide) (Nat.le_of_ble_eq_true rfl) (by decide +kernel) ?_
        rintro _ m1 ⟨rfl, e1⟩
        rw [e1]
        clear e1 m1
        show pw_V x m_X7_knight 1 Z 107 [(0, .ref 0), (1, .int (nI j5)), (2, .int (nI 4))] [.int (pw_b (pw_hs (nI (pw_g mm 42 1)) (nI j5)))] mm
        rw [pw_hs_n (by omega) (by omega)]
        refine pw_ib_eq (tgt := 114) (off := 7) (by decide +kernel) (by decide) (fun h107 => ?_) (fun h107 => ?_)
        · refine pw_blk (pc' := 115) [.iconst 0] (by decide +kernel) ?_
          show pw_V x m_X7_knight 1 Z 115 [(0, .ref 0), (1, .int (nI j5)), (2, .int (nI 4))] [.int (nI 0)] mm
          rw [← hZ]
          refine pw_ri (by decide +kernel) ?_
          refine ⟨?_, rfl⟩
          simp [F_knight, pw_b_t, pw_b_f, nz10, nz20, nz21, nz30, nz31, nz32, nz40, nz41, nz42, nz43, nz50, nz51, nz52, nz53, nz54, nz60, nz61, nz62, nz63, nz64, nz65, pw_inr_nI (show j5 < 2 ^ 31 by omega) (show pw_k mm < 2 ^ 31 by omega), pw_c_nI (show j5 < 2 ^ 31 by omega), b5, h5, h107]
        · refine pw_blk (pc' := 111) [.iconst 1] (by decide +kernel) ?_
          show pw_V x m_X7_knight 1 Z 111 [(0, .ref 0), (1, .int (nI j5)), (2, .int (nI 4))] [.int (nI 1)] mm
          refine pw_goto (tgt := 115) (off := 4) (by decide +kernel) (by decide) ?_
          rw [← hZ]
          refine pw_ri (by decide +kernel) ?_
          refine ⟨?_, rfl⟩
          simp [F_knight, pw_b_t, pw_b_f, nz10, nz20, nz21, nz30, nz31, nz32, nz40, nz41, nz42, nz43, nz50, nz51, nz52, nz53, nz54, nz60, nz61, nz62, nz63, nz64, nz65, pw_inr_nI (show j5 < 2 ^ 31 by omega) (show pw_k mm < 2 ^ 31 by omega), pw_c_nI (show j5 < 2 ^ 31 by omega), b5, h5, h107]
      | 5, hj, h12 =>
        refine ⟨104, 116, rfl, by decide, ?_⟩
        have e12 : what = nI 5 := Int32.toInt_inj.mp (by rw [h12]; rfl)
        subst e12
        refine pw_blk (pc' := 125) [.aload 0, .getfield 702, .getfield 3, .iload 1, .iaload] (by decide +kernel) ?_
        refine ⟨j5, rfl, by omega, ?_⟩
        show pw_V x m_X7_knight 1 Z 125 [(0, .ref 0), (1, .int (nI j5)), (2, .int (nI 5))] [.int (mm 44 j5)] mm
        rw [← hZ]
        refine pw_ri (by decide +kernel) ?_
        refine ⟨?_, rfl⟩
        simp [F_knight, pw_b_t, pw_b_f, nz10, nz20, nz21, nz30, nz31, nz32, nz40, nz41, nz42, nz43, nz50, nz51, nz52, nz53, nz54, nz60, nz61, nz62, nz63, nz64, nz65, pw_inr_nI (show j5 < 2 ^ 31 by omega) (show pw_k mm < 2 ^ 31 by omega), pw_c_nI (show j5 < 2 ^ 31 by omega), b5, h5]
      | 6, hj, h12 =>
        refine ⟨114, 126, rfl, by decide, ?_⟩
        have e12 : what = nI 6 := Int32.toInt_inj.mp (by rw [h12]; rfl)
        subst e12
        refine pw_blk (pc' := 135) [.aload 0, .getfield 702, .getfield 4, .iload 1, .iaload] (by decide +kernel) ?_
        refine ⟨j5, rfl, by omega, ?_⟩
        show pw_V x m_X7_knight 1 Z 135 [(0, .ref 0), (1, .int (nI j5)), (2, .int (nI 6))] [.int (mm 45 j5)] mm
        rw [← hZ]
        refine pw_ri (by decide +kernel) ?_
        refine ⟨?_, rfl⟩
        simp [F_knight, pw_b_t, pw_b_f, nz10, nz20, nz21, nz30, nz31, nz32, nz40, nz41, nz42, nz43, nz50, nz51, nz52, nz53, nz54, nz60, nz61, nz62, nz63, nz64, nz65, pw_inr_nI (show j5 < 2 ^ 31 by omega) (show pw_k mm < 2 ^ 31 by omega), pw_c_nI (show j5 < 2 ^ 31 by omega), b5, h5]
      | j + 7, hj, h12 => exact absurd hj (by omega)
  · refine pw_blk (pc' := 10) [.iconst (-2)] (by decide +kernel) ?_
    show pw_V x m_X7_knight 1 Z 10 [(0, .ref 0), (1, .int k), (2, .int what)] [.int (-2)] mm
    rw [← hZ]
    refine pw_ri (by decide +kernel) ?_
    refine ⟨?_, rfl⟩
    simp [F_knight, pw_b_t, pw_b_f, nz10, nz20, nz21, nz30, nz31, nz32, nz40, nz41, nz42, nz43, nz50, nz51, nz52, nz53, nz54, nz60, nz61, nz62, nz63, nz64, nz65, h5]

/-- up along the table of kinds -/
def pw_ofk (f : Nat → Int32) (len : Nat) (asked : Int32) : Nat → Int32 → Bool
  | 0, _ => false
  | n + 1, a => if a = asked then true else if a < 0 then false else if nI len ≤ a then false else pw_ofk f len asked n (f (pw_c a))
theorem pw_cnn {a : Int32} (h : ¬ a < 0) : a = nI (pw_c a) := by
  obtain ⟨j, hj, e⟩ := nI_of h
  subst e
  rw [pw_c_nI hj]
theorem pw_clt {a : Int32} {n : Nat} (h : ¬ a < 0) (hn : n < 2 ^ 31) (h2 : a < nI n) : pw_c a < n := by
  obtain ⟨j, hj, e⟩ := nI_of h
  subst e
  rw [pw_c_nI hj]
  exact (nI_ltI hj hn).mp h2

set_option maxHeartbeats 4000000 in
set_option maxRecDepth 100000 in
theorem c_isOfKind_90 (b q : Int32) (mm : pw_m) : pw_Ct 0 yX7_isOfKind m_X7_isOfKind [.ref 90, .int b, .int q] mm (fun r m' => r = some (.int (pw_b (pw_ofk pw_k0 4 q 4 b))) ∧ m' = mm) := by
  refine pw_ct (by decide +kernel) rfl (Nat.le_of_ble_eq_true rfl) (fun x => ?_)
  generalize hZ : pw_Z x _ = Z
  have loop : ∀ i : Nat, i ≤ 4 → ∀ a : Int32, pw_ofk pw_k0 4 q 4 b = pw_ofk pw_k0 4 q (4 - i) a → pw_V x m_X7_isOfKind 0 Z 5 [(0, .ref 90), (1, .int b), (2, .int q), (3, .int a), (4, .int (nI i))] [] mm := by
    refine pw_dn 4 (fun i hi ih a hq => ?_)
    refine pw_blk (pc' := 9) [.iload 4, .aload 0, .arraylength] (by decide +kernel) ?_
    show pw_V x m_X7_isOfKind 0 Z 9 [(0, .ref 90), (1, .int b), (2, .int q), (3, .int a), (4, .int (nI i))] [.int (nI 4), .int (nI i)] mm
    refine pw_in_ge (tgt := 41) (off := 32) (by first | omega | exact pw_clt h20 (by omega) h26) (by first | omega | exact pw_clt h20 (by omega) h26) (by decide +kernel) (by decide) (fun h9 => ?_) (fun h9 => ?_)
    · refine pw_blk (pc' := 42) [.iconst 0] (by decide +kernel) ?_
      show pw_V x m_X7_isOfKind 0 Z 42 [(0, .ref 90), (1, .int b), (2, .int q), (3, .int a), (4, .int (nI i))] [.int (nI 0)] mm
      rw [← hZ]
      refine pw_rz (by decide +kernel) (Or.inl rfl) ?_
      refine ⟨?_, rfl⟩
      rw [hq, show 4 - i = 0 by omega]; rfl
    · refine pw_blk (pc' := 14) [.iload 3, .iload 2] (by decide +kernel) ?_
      show pw_V x m_X7_isOfKind 0 Z 14 [(0, .ref 90), (1, .int b), (2, .int q), (3, .int a), (4, .int (nI i))] [.int q, .int a] mm
      refine pw_ic_ne (tgt := 19) (off := 5) (by decide +kernel) (by decide) (fun h14 => ?_) (fun h14 => ?_)
      · refine pw_blk (pc' := 20) [.iload 3] (by decide +kernel) ?_
        show pw_V x m_X7_isOfKind 0 Z 20 [(0, .ref 90), (1, .int b), (2, .int q), (3, .int a), (4, .int (nI i))] [.int a] mm
        refine pw_if_lt (tgt := 29) (off := 9) (by decide +kernel) (by decide) (fun h20 => ?_) (fun h20 => ?_)
        · refine pw_blk (pc' := 30) [.iconst 0] (by decide +kernel) ?_
          show pw_V x m_X7_isOfKind 0 Z 30 [(0, .ref 90), (1, .int b), (2, .int q), (3, .int a), (4, .int (nI i))] [.int (nI 0)] mm
          rw [← hZ]
          refine pw_rz (by decide +kernel) (Or.inl rfl) ?_
          refine ⟨?_, rfl⟩
          rw [hq, show 4 - i = (4 - (i + 1)) + 1 by omega]
          simp only [pw_ofk, if_neg h14, if_pos h20]; rfl
        · refine pw_blk (pc' := 26) [.iload 3, .aload 0, .arraylength] (by decide +kernel) ?_
          show pw_V x m_X7_isOfKind 0 Z 26 [(0, .ref 90), (1, .int b), (2, .int q), (3, .int a), (4, .int (nI i))] [.int (nI 4), .int a] mm
          refine pw_ic_lt (tgt := 31) (off := 5) (by decide +kernel) (by decide) (fun h26 => ?_) (fun h26 => ?_)
          · refine pw_blk (pc' := 38) [.aload 0, .iload 3, .iaload, .istore 3, .iinc 4 1] (by decide +kernel) ?_
            refine ⟨pw_c a, pw_cnn h20, by first | omega | exact pw_clt h20 (by omega) h26, ?_⟩
            show pw_V x m_X7_isOfKind 0 Z 38 [(4, .int ((nI i) + (nI 1))), (3, .int (pw_k0 (pw_c a))), (0, .ref 90), (1, .int b), (2, .int q)] [] mm
            rw [show (nI i) + (nI 1) = nI (i + 1) from nI_add _ _]
            refine pw_goto (tgt := 5) (off := -33) (by decide +kernel) (by decide) ?_
            refine pw_lvp [2, 3, 4, 1, 0] rfl ?_
            refine ih (by omega) _ ?_
            rw [hq, show 4 - i = (4 - (i + 1)) + 1 by omega]
            simp only [pw_ofk, if_neg h14, if_neg h20, if_neg (show ¬ nI 4 ≤ a from fun z => pw_nlt z h26)]
          · refine pw_blk (pc' := 30) [.iconst 0] (by decide +kernel) ?_
            show pw_V x m_X7_isOfKind 0 Z 30 [(0, .ref 90), (1, .int b), (2, .int q), (3, .int a), (4, .int (nI i))] [.int (nI 0)] mm
            rw [← hZ]
            refine pw_rz (by decide +kernel) (Or.inl rfl) ?_
            refine ⟨?_, rfl⟩
            rw [hq, show 4 - i = (4 - (i + 1)) + 1 by omega]
            simp only [pw_ofk, if_neg h14, if_neg h20, if_pos (show nI 4 ≤ a from Int32.not_lt.mp h26)]; rfl
      · refine pw_blk (pc' := 18) [.iconst 1] (by decide +kernel) ?_
        show pw_V x m_X7_isOfKind 0 Z 18 [(0, .ref 90), (1, .int b), (2, .int q), (3, .int a), (4, .int (nI i))] [.int (nI 1)] mm
        rw [← hZ]
        refine pw_rz (by decide +kernel) (Or.inr rfl) ?_
        refine ⟨?_, rfl⟩
        rw [hq, show 4 - i = (4 - (i + 1)) + 1 by omega]
        simp only [pw_ofk, if_pos h14]; rfl
  show pw_V x m_X7_isOfKind 0 Z 0 [(0, .ref 90), (1, .int b), (2, .int q)] [] mm
  refine pw_blk (pc' := 5) [.iload 1, .istore 3, .iconst 0, .istore 4] (by decide +kernel) ?_
  show pw_V x m_X7_isOfKind 0 Z 5 [(4, .int (nI 0)), (3, .int b), (0, .ref 90), (1, .int b), (2, .int q)] [] mm
  refine pw_lvp [2, 3, 4, 1, 0] rfl ?_
  exact loop 0 (by omega) _ rfl

set_option maxHeartbeats 4000000 in
set_option maxRecDepth 100000 in
theorem c_isOfKind_91 (b q : Int32) (mm : pw_m) : pw_Ct 0 yX7_isOfKind m_X7_isOfKind [.ref 91, .int b, .int q] mm (fun r m' => r = some (.int (pw_b (pw_ofk pw_k1 6 q 6 b))) ∧ m' = mm) := by
  refine pw_ct (by decide +kernel) rfl (Nat.le_of_ble_eq_true rfl) (fun x => ?_)
  generalize hZ : pw_Z x _ = Z
  have loop : ∀ i : Nat, i ≤ 6 → ∀ a : Int32, pw_ofk pw_k1 6 q 6 b = pw_ofk pw_k1 6 q (6 - i) a → pw_V x m_X7_isOfKind 0 Z 5 [(0, .ref 91), (1, .int b), (2, .int q), (3, .int a), (4, .int (nI i))] [] mm := by
    refine pw_dn 6 (fun i hi ih a hq => ?_)
    refine pw_blk (pc' := 9) [.iload 4, .aload 0, .arraylength] (by decide +kernel) ?_
    show pw_V x m_X7_isOfKind 0 Z 9 [(0, .ref 91), (1, .int b), (2, .int q), (3, .int a), (4, .int (nI i))] [.int (nI 6), .int (nI i)] mm
    refine pw_in_ge (tgt := 41) (off := 32) (by first | omega | exact pw_clt h20 (by omega) h26) (by first | omega | exact pw_clt h20 (by omega) h26) (by decide +kernel) (by decide) (fun h9 => ?_) (fun h9 => ?_)
    · refine pw_blk (pc' := 42) [.iconst 0] (by decide +kernel) ?_
      show pw_V x m_X7_isOfKind 0 Z 42 [(0, .ref 91), (1, .int b), (2, .int q), (3, .int a), (4, .int (nI i))] [.int (nI 0)] mm
      rw [← hZ]
      refine pw_rz (by decide +kernel) (Or.inl rfl) ?_
      refine ⟨?_, rfl⟩
      rw [hq, show 6 - i = 0 by omega]; rfl
    · refine pw_blk (pc' := 14) [.iload 3, .iload 2] (by decide +kernel) ?_
      show pw_V x m_X7_isOfKind 0 Z 14 [(0, .ref 91), (1, .int b), (2, .int q), (3, .int a), (4, .int (nI i))] [.int q, .int a] mm
      refine pw_ic_ne (tgt := 19) (off := 5) (by decide +kernel) (by decide) (fun h14 => ?_) (fun h14 => ?_)
      · refine pw_blk (pc' := 20) [.iload 3] (by decide +kernel) ?_
        show pw_V x m_X7_isOfKind 0 Z 20 [(0, .ref 91), (1, .int b), (2, .int q), (3, .int a), (4, .int (nI i))] [.int a] mm
        refine pw_if_lt (tgt := 29) (off := 9) (by decide +kernel) (by decide) (fun h20 => ?_) (fun h20 => ?_)
        · refine pw_blk (pc' := 30) [.iconst 0] (by decide +kernel) ?_
          show pw_V x m_X7_isOfKind 0 Z 30 [(0, .ref 91), (1, .int b), (2, .int q), (3, .int a), (4, .int (nI i))] [.int (nI 0)] mm
          rw [← hZ]
          refine pw_rz (by decide +kernel) (Or.inl rfl) ?_
          refine ⟨?_, rfl⟩
          rw [hq, show 6 - i = (6 - (i + 1)) + 1 by omega]
          simp only [pw_ofk, if_neg h14, if_pos h20]; rfl
        · refine pw_blk (pc' := 26) [.iload 3, .aload 0, .arraylength] (by decide +kernel) ?_
          show pw_V x m_X7_isOfKind 0 Z 26 [(0, .ref 91), (1, .int b), (2, .int q), (3, .int a), (4, .int (nI i))] [.int (nI 6), .int a] mm
          refine pw_ic_lt (tgt := 31) (off := 5) (by decide +kernel) (by decide) (fun h26 => ?_) (fun h26 => ?_)
          · refine pw_blk (pc' := 38) [.aload 0, .iload 3, .iaload, .istore 3, .iinc 4 1] (by decide +kernel) ?_
            refine ⟨pw_c a, pw_cnn h20, by first | omega | exact pw_clt h20 (by omega) h26, ?_⟩
            show pw_V x m_X7_isOfKind 0 Z 38 [(4, .int ((nI i) + (nI 1))), (3, .int (pw_k1 (pw_c a))), (0, .ref 91), (1, .int b), (2, .int q)] [] mm
            rw [show (nI i) + (nI 1) = nI (i + 1) from nI_add _ _]
            refine pw_goto (tgt := 5) (off := -33) (by decide +kernel) (by decide) ?_
            refine pw_lvp [2, 3, 4, 1, 0] rfl ?_
            refine ih (by omega) _ ?_
            rw [hq, show 6 - i = (6 - (i + 1)) + 1 by omega]
            simp only [pw_ofk, if_neg h14, if_neg h20, if_neg (show ¬ nI 6 ≤ a from fun z => pw_nlt z h26)]
          · refine pw_blk (pc' := 30) [.iconst 0] (by decide +kernel) ?_
            show pw_V x m_X7_isOfKind 0 Z 30 [(0, .ref 91), (1, .int b), (2, .int q), (3, .int a), (4, .int (nI i))] [.int (nI 0)] mm
            rw [← hZ]
            refine pw_rz (by decide +kernel) (Or.inl rfl) ?_
            refine ⟨?_, rfl⟩
            rw [hq, show 6 - i = (6 - (i + 1)) + 1 by omega]
            simp only [pw_ofk, if_neg h14, if_neg h20, if_pos (show nI 6 ≤ a from Int32.not_lt.mp h26)]; rfl
      · refine pw_blk (pc' := 18) [.iconst 1] (by decide +kernel) ?_
        show pw_V x m_X7_isOfKind 0 Z 18 [(0, .ref 91), (1, .int b), (2, .int q), (3, .int a), (4, .int (nI i))] [.int (nI 1)] mm
        rw [← hZ]
        refine pw_rz (by decide +kernel) (Or.inr rfl) ?_
        refine ⟨?_, rfl⟩
        rw [hq, show 6 - i = (6 - (i + 1)) + 1 by omega]
        simp only [pw_ofk, if_pos h14]; rfl
  show pw_V x m_X7_isOfKind 0 Z 0 [(0, .ref 91), (1, .int b), (2, .int q)] [] mm
  refine pw_blk (pc' := 5) [.iload 1, .istore 3, .iconst 0, .istore 4] (by decide +kernel) ?_
  show pw_V x m_X7_isOfKind 0 Z 5 [(4, .int (nI 0)), (3, .int b), (0, .ref 91), (1, .int b), (2, .int q)] [] mm
  refine pw_lvp [2, 3, 4, 1, 0] rfl ?_
  exact loop 0 (by omega) _ rfl
end
section
section PWQ2
variable {A : pw_m}
theorem pw_q21 (h : pw_ok A) : A 2 1 = nI (pw_g A 2 1) := h.2.2.2.2.1.1
theorem pw_b21 (h : pw_ok A) : pw_g A 2 1 ≤ 160 := Nat.le_of_lt_succ h.2.2.2.2.1.2
theorem pw_q144 (h : pw_ok A) : A 14 4 = nI (pw_g A 14 4) := h.2.2.2.1.1.1
theorem pw_b144 (h : pw_ok A) : pw_g A 14 4 ≤ 8 := Nat.le_of_lt_succ h.2.2.2.1.1.2
theorem pw_q112 (h : pw_ok A) : A 11 2 = nI (pw_g A 11 2) := h.2.2.1.1.1.1
theorem pw_b112 (h : pw_ok A) : pw_g A 11 2 ≤ 8 := Nat.le_of_lt_succ h.2.2.1.1.1.2
theorem pw_q114 (h : pw_ok A) : A 11 4 = nI (pw_g A 11 4) := h.2.2.1.1.2.1.1
theorem pw_b114 (h : pw_ok A) : pw_g A 11 4 < 8 := h.2.2.1.1.2.1.2
theorem pw_q113 (h : pw_ok A) : A 11 3 = nI (pw_g A 11 3) := h.2.2.1.2.1.1
theorem pw_b113 (h : pw_ok A) : pw_g A 11 3 < 4 := h.2.2.1.2.1.2
end PWQ2
theorem pw_inr_f3 {s : Int32} {n : Nat} (hn : n + 1 < 2 ^ 31) (h : nI n < s) : pw_inr s (n + 1) = false := by
  refine pw_inr_f2 ?_
  rw [Int32.lt_iff_toInt_lt, nI_toInt (by omega)] at h
  rw [Int32.le_iff_toInt_le, nI_toInt hn]
  omega
theorem pw_inr_y3 {s : Int32} {n : Nat} (hn : n + 1 < 2 ^ 31) (h1 : ¬ s < 0) (h : s ≤ nI n) : pw_inr s (n + 1) = true := by
  refine pw_inr_y h1 ?_
  intro z
  rw [Int32.le_iff_toInt_le, nI_toInt (by omega)] at h
  rw [Int32.le_iff_toInt_le, nI_toInt hn] at z
  omega
def F_as (A : pw_m) (k q : Int32) : Int32 := if pw_inr k (pw_k A) then (if pw_inr q 4 then (if pw_ofk pw_k0 4 q 4 (nI (pw_g A 7 (pw_c k) + 1)) then nI (pw_ob (fun s => pw_fnow A (pw_c k) s) (pw_n A)) else -4) else -3) else -2
def F_seatAs (A : pw_m) (s q : Int32) : Int32 := if pw_inr s (pw_n A) then (if pw_inr q 6 then (if pw_ofk pw_k1 6 q 6 (nI (pw_g A 5 (pw_c s) + 1)) then nI (pw_ob (fun k => (pw_g A 42 1).testBit k && pw_fnow A k (pw_c s)) (pw_k A)) else -4) else -3) else -2
def F_judge (A : pw_m) (w : Int32) : Int32 := if w = nI 0 then nI (pw_wrs A) else if w = nI 1 then nI (pw_ct_ (pw_qu A) (pw_n A)) else -3
def F_count (A : pw_m) (w : Int32) : Int32 := if w = nI 0 then A 4 0 else if w = nI 1 then A 4 1 else if w = nI 2 then A 42 0 else if w = nI 3 then pw_o (pw_pon A) else if w = nI 4 then A 42 1 else if w = nI 5 then nI (pw_sb A) else if w = nI 6 then A 14 4 else if w = nI 7 then nI (pw_sm (fun j => pw_pc (pw_g A 10 j)) (pw_k A) / 2) else if w = nI 8 then A 11 2 else if w = nI 9 then A 2 1 else -3
def F_write (A : pw_m) (l : Int32) : Int32 := if pw_inr l 256 then (if pw_g A 2 1 < 160 then nI (pw_g A 2 1 + 1) else -5) else -3
def G_write (A : pw_m) (l : Int32) : pw_m := if pw_inr l 256 = true ∧ pw_g A 2 1 < 160 then pw_up (pw_up A 3 (pw_g A 2 1) l) 2 1 (nI (pw_g A 2 1 + 1)) else A
def F_seen (A : pw_m) (k s d t : Int32) : Int32 := if pw_inr k (pw_k A) = true ∧ pw_inr s (pw_n A) = true then (if pw_inr d (pw_g A 42 0 + 1) = true ∧ pw_inr t 2 = true then (if pw_g A 14 4 < 8 then nI (pw_g A 14 4 + 1) else -5) else -3) else -2
def G_seen (A : pw_m) (k s d t : Int32) : pw_m := if (pw_inr k (pw_k A) = true ∧ pw_inr s (pw_n A) = true) ∧ (pw_inr d (pw_g A 42 0 + 1) = true ∧ pw_inr t 2 = true) ∧ pw_g A 14 4 < 8 then pw_up (pw_up (pw_up (pw_up (pw_up A 15 (pw_g A 14 4) k) 16 (pw_g A 14 4) s) 17 (pw_g A 14 4) d) 18 (pw_g A 14 4) t) 14 4 (nI (pw_g A 14 4 + 1)) else A

set_option maxHeartbeats 4000000 in
set_option maxRecDepth 100000 in
theorem c_as (s q : Int32) (mm : pw_m) (hok : pw_ok mm) : pw_Ct 2 yX7_as m_X7_as [.ref 0, .int s, .int q] mm (fun r m' => r = some (.int (F_as mm s q)) ∧ m' = mm) := by
  refine pw_ct (by decide +kernel) rfl (Nat.le_of_ble_eq_true rfl) (fun x => ?_)
  generalize hZ : pw_Z x _ = Z
  have bn := pw_bn hok
  have bk := pw_bk hok
  have bt := pw_b421' hok
  show pw_V x m_X7_as 2 Z 0 [(0, .ref 0), (1, .int s), (2, .int q)] [] mm
  refine pw_blk (pc' := 2) [.aload 0, .iload 1] (by decide +kernel) ?_
  show pw_V x m_X7_as 2 Z 2 [(0, .ref 0), (1, .int s), (2, .int q)] [.int s, .ref 0] mm
  refine pw_cV (vs := [.int s]) (rest := []) k_X7_isKnight (c_isKnight s mm hok) l_7_106 rfl rfl rfl rfl (by decide) (Nat.le_of_ble_eq_true rfl) (by decide +kernel) ?_
  rintro _ m1 ⟨rfl, e1⟩
  rw [e1]
  clear e1 m1
  show pw_V x m_X7_as 2 Z 5 [(0, .ref 0), (1, .int s), (2, .int q)] [.int (pw_b (pw_inr s (pw_k mm)))] mm
  refine pw_ib_ne (tgt := 11) (off := 6) (by decide +kernel) (by decide) (fun h5 => ?_) (fun h5 => ?_)
  · obtain ⟨j5, b5, e5⟩ := pw_inr_t (by omega) h5
    subst e5
    refine pw_blk (pc' := 12) [.iload 2] (by decide +kernel) ?_
    show pw_V x m_X7_as 2 Z 12 [(0, .ref 0), (1, .int (nI j5)), (2, .int q)] [.int q] mm
    refine pw_if_lt (tgt := 23) (off := 11) (by decide +kernel) (by decide) (fun h12 => ?_) (fun h12 => ?_)
    · refine pw_blk (pc' := 25) [.iconst (-3)] (by decide +kernel) ?_
      show pw_V x m_X7_as 2 Z 25 [(0, .ref 0), (1, .int (nI j5)), (2, .int q)] [.int (-3)] mm
      rw [← hZ]
      refine pw_ri (by decide +kernel) ?_
      refine ⟨?_, rfl⟩
      unfold F_as
      rw [if_pos (show pw_inr (nI j5) (pw_k mm) = true from by rw [pw_inr_nI (show j5 < 2 ^ 31 by omega) (show pw_k mm < 2 ^ 31 by omega)]; exact decide_eq_true b5)]
      rw [if_neg (by rw [pw_inr_f1 h12]; decide)]
    · refine pw_blk (pc' := 20) [.iload 2, .getstatic 0, .arraylength] (by decide +kernel) ?_
      show pw_V x m_X7_as 2 Z 20 [(0, .ref 0), (1, .int (nI j5)), (2, .int q)] [.int (nI 4), .int q] mm
      refine pw_ic_lt (tgt := 26) (off := 6) (by decide +kernel) (by decide) (fun h20 => ?_) (fun h20 => ?_)
      · have b7 := pw_b7 hok (show j5 < 6 by omega)
        refine pw_blk (pc' := 41) [.getstatic 0, .aload 0, .getfield 701, .getfield 504, .iload 1, .iaload, .iconst 1, .iadd, .iload 2] (by decide +kernel) ?_
        refine ⟨j5, rfl, by omega, ?_⟩
        show pw_V x m_X7_as 2 Z 41 [(0, .ref 0), (1, .int (nI j5)), (2, .int q)] [.int q, .int ((mm 7 j5) + (nI 1)), .ref 90] mm
        rw [show mm 7 j5 = nI (pw_g mm 7 j5) from pw_q7 hok (by omega)]
        rw [show (nI (pw_g mm 7 j5)) + (nI 1) = nI ((pw_g mm 7 j5) + 1) from nI_add _ _]
        refine pw_cS (vs := [.ref 90, .int (nI ((pw_g mm 7 j5) + 1)), .int q]) (rest := []) k_X7_isOfKind (c_isOfKind_90 (nI ((pw_g mm 7 j5) + 1)) q mm) l_7_137 rfl (by decide) (Nat.le_of_ble_eq_true rfl) (by decide +kernel) ?_
        rintro _ m1 ⟨rfl, e1⟩
        rw [e1]
        clear e1 m1
        show pw_V x m_X7_as 2 Z 44 [(0, .ref 0), (1, .int (nI j5)), (2, .int q)] [.int (pw_b (pw_ofk pw_k0 4 q 4 (nI ((pw_g mm 7 j5) + 1))))] mm
        refine pw_ib_ne (tgt := 50) (off := 6) (by decide +kernel) (by decide) (fun h44 => ?_) (fun h44 => ?_)
        · refine pw_blk (pc' := 55) [.iconst 0, .istore 3, .iconst 0, .istore 4] (by decide +kernel) ?_
          show pw_V x m_X7_as 2 Z 55 [(4, .int (nI 0)), (3, .int (nI 0)), (0, .ref 0), (1, .int (nI j5)), (2, .int q)] [] mm
          refine pw_lvp [2, 3, 4, 1, 0] rfl ?_
          suffices loop : ∀ i : Nat, i ≤ pw_n mm → pw_V x m_X7_as 2 Z 55 [(0, .ref 0), (1, .int (nI j5)), (2, .int q), (3, .int (nI (pw_ob (fun s => pw_fnow mm j5 s) i))), (4, .int (nI i))] [] mm from loop 0 (by omega)
          refine pw_dn (pw_n mm) (fun i hi ih => ?_)
          refine pw_blk (pc' := 64) [.iload 4, .aload 0, .getfield 701, .getfield 500] (by decide +kernel) ?_
          show pw_V x m_X7_as 2 Z 64 [(0, .ref 0), (1, .int (nI j5)), (2, .int q), (3, .int (nI (pw_ob (fun s => pw_fnow mm j5 s) i))), (4, .int (nI i))] [.int (mm 4 0), .int (nI i)] mm
          rw [show mm 4 0 = nI (pw_n mm) from pw_q40 hok]
          refine pw_in_ge (tgt := 90) (off := 26) (by omega) (by omega) (by decide +kernel) (by decide) (fun h64 => ?_) (fun h64 => ?_)
          · refine pw_blk (pc' := 91) [.iload 3] (by decide +kernel) ?_
            show pw_V x m_X7_as 2 Z 91 [(0, .ref 0), (1, .int (nI j5)), (2, .int q), (3, .int (nI (pw_ob (fun s => pw_fnow mm j5 s) i))), (4, .int (nI i))] [.int (nI (pw_ob (fun s => pw_fnow mm j5 s) i))] mm
            rw [← hZ]
            refine pw_ri (by decide +kernel) ?_
            refine ⟨?_, rfl⟩
            unfold F_as
            rw [if_pos (show pw_inr (nI j5) (pw_k mm) = true from by rw [pw_inr_nI (show j5 < 2 ^ 31 by omega) (show pw_k mm < 2 ^ 31 by omega)]; exact decide_eq_true b5)]
            rw [if_pos (pw_inr_y h12 (fun z => pw_nlt z h20)), pw_c_nI (show j5 < 2 ^ 31 by omega)]
            rw [if_pos h44]
            have e : i = pw_n mm := by omega
            subst e
            rfl
          · refine pw_blk (pc' := 71) [.aload 0, .iload 1, .iload 4] (by decide +kernel) ?_
            show pw_V x m_X7_as 2 Z 71 [(0, .ref 0), (1, .int (nI j5)), (2, .int q), (3, .int (nI (pw_ob (fun s => pw_fnow mm j5 s) i))), (4, .int (nI i))] [.int (nI i), .int (nI j5), .ref 0] mm
            refine pw_cV (vs := [.int (nI j5), .int (nI i)]) (rest := []) k_X7_fitsNow (c_fitsNow j5 i mm hok (by omega) (by omega)) l_7_144 rfl rfl rfl rfl (by decide) (Nat.le_of_ble_eq_true rfl) (by decide +kernel) ?_
            rintro _ m1 ⟨rfl, e1⟩
            rw [e1]
            clear e1 m1
            show pw_V x m_X7_as 2 Z 74 [(0, .ref 0), (1, .int (nI j5)), (2, .int q), (3, .int (nI (pw_ob (fun s => pw_fnow mm j5 s) i))), (4, .int (nI i))] [.int (pw_b (pw_fnow mm j5 i))] mm
            refine pw_ib_eq (tgt := 84) (off := 10) (by decide +kernel) (by decide) (fun h74 => ?_) (fun h74 => ?_)
            · refine pw_blk (pc' := 87) [.iinc 4 1] (by decide +kernel) ?_
              show pw_V x m_X7_as 2 Z 87 [(4, .int ((nI i) + (nI 1))), (0, .ref 0), (1, .int (nI j5)), (2, .int q), (3, .int (nI (pw_ob (fun s => pw_fnow mm j5 s) i)))] [] mm
              rw [show (nI i) + (nI 1) = nI (i + 1) from nI_add _ _]
              refine pw_goto (tgt := 55) (off := -32) (by decide +kernel) (by decide) ?_
              rw [show (pw_ob (fun s => pw_fnow mm j5 s) i) = (pw_ob (fun s => pw_fnow mm j5 s) (i + 1)) from by simp [pw_ob, h74]]
              refine pw_lvp [1, 2, 3, 4, 0] rfl ?_
              exact ih (by omega)
            · refine pw_blk (pc' := 87) [.iload 3, .iconst 1, .iload 4, .ishl, .ior, .istore 3, .iinc 4 1] (by decide +kernel) ?_
              show pw_V x m_X7_as 2 Z 87 [(4, .int ((nI i) + (nI 1))), (3, .int ((nI (pw_ob (fun s => pw_fnow mm j5 s) i)) ||| ((nI 1) <<< ((nI i) &&& 31)))), (0, .ref 0), (1, .int (nI j5)), (2, .int q)] [] mm
              rw [show (nI i) + (nI 1) = nI (i + 1) from nI_add _ _]
              rw [show (nI 1) <<< ((nI i) &&& 31) = nI (2 ^ i) from pw_shl1 (by omega)]
              rw [show (nI (pw_ob (fun s => pw_fnow mm j5 s) i)) ||| (nI (2 ^ i)) = nI ((pw_ob (fun s => pw_fnow mm j5 s) i) ||| (2 ^ i)) from fa_or _ _]
              refine pw_goto (tgt := 55) (off := -32) (by decide +kernel) (by decide) ?_
              rw [show ((pw_ob (fun s => pw_fnow mm j5 s) i) ||| (2 ^ i)) = (pw_ob (fun s => pw_fnow mm j5 s) (i + 1)) from by simp [pw_ob, h74]]
              refine pw_lvp [2, 3, 4, 1, 0] rfl ?_
              exact ih (by omega)
        · refine pw_blk (pc' := 49) [.iconst (-4)] (by decide +kernel) ?_
          show pw_V x m_X7_as 2 Z 49 [(0, .ref 0), (1, .int (nI j5)), (2, .int q)] [.int (-4)] mm
          rw [← hZ]
          refine pw_ri (by decide +kernel) ?_
          refine ⟨?_, rfl⟩
          unfold F_as
          rw [if_pos (show pw_inr (nI j5) (pw_k mm) = true from by rw [pw_inr_nI (show j5 < 2 ^ 31 by omega) (show pw_k mm < 2 ^ 31 by omega)]; exact decide_eq_true b5)]
          rw [if_pos (pw_inr_y h12 (fun z => pw_nlt z h20)), pw_c_nI (show j5 < 2 ^ 31 by omega)]
          rw [if_neg (by rw [h44]; decide)]
      · refine pw_blk (pc' := 25) [.iconst (-3)] (by decide +kernel) ?_
        show pw_V x m_X7_as 2 Z 25 [(0, .ref 0), (1, .int (nI j5)), (2, .int q)] [.int (-3)] mm
        rw [← hZ]
        refine pw_ri (by decide +kernel) ?_
        refine ⟨?_, rfl⟩
        unfold F_as
        rw [if_pos (show pw_inr (nI j5) (pw_k mm) = true from by rw [pw_inr_nI (show j5 < 2 ^ 31 by omega) (show pw_k mm < 2 ^ 31 by omega)]; exact decide_eq_true b5)]
        rw [if_neg (by rw [pw_inr_f2 (Int32.not_lt.mp h20)]; decide)]
  · refine pw_blk (pc' := 10) [.iconst (-2)] (by decide +kernel) ?_
    show pw_V x m_X7_as 2 Z 10 [(0, .ref 0), (1, .int s), (2, .int q)] [.int (-2)] mm
    rw [← hZ]
    refine pw_ri (by decide +kernel) ?_
    refine ⟨?_, rfl⟩
    unfold F_as
    rw [if_neg (by rw [h5]; decide)]

set_option maxHeartbeats 4000000 in
set_option maxRecDepth 100000 in
theorem c_seatAs (s q : Int32) (mm : pw_m) (hok : pw_ok mm) : pw_Ct 2 yX7_seatAs m_X7_seatAs [.ref 0, .int s, .int q] mm (fun r m' => r = some (.int (F_seatAs mm s q)) ∧ m' = mm) := by
  refine pw_ct (by decide +kernel) rfl (Nat.le_of_ble_eq_true rfl) (fun x => ?_)
  generalize hZ : pw_Z x _ = Z
  have bn := pw_bn hok
  have bk := pw_bk hok
  have bt := pw_b421' hok
  show pw_V x m_X7_seatAs 2 Z 0 [(0, .ref 0), (1, .int s), (2, .int q)] [] mm
  refine pw_blk (pc' := 2) [.aload 0, .iload 1] (by decide +kernel) ?_
  show pw_V x m_X7_seatAs 2 Z 2 [(0, .ref 0), (1, .int s), (2, .int q)] [.int s, .ref 0] mm
  refine pw_cV (vs := [.int s]) (rest := []) k_X7_isSeat (c_isSeat s mm hok) l_7_86 rfl rfl rfl rfl (by decide) (Nat.le_of_ble_eq_true rfl) (by decide +kernel) ?_
  rintro _ m1 ⟨rfl, e1⟩
  rw [e1]
  clear e1 m1
  show pw_V x m_X7_seatAs 2 Z 5 [(0, .ref 0), (1, .int s), (2, .int q)] [.int (pw_b (pw_inr s (pw_n mm)))] mm
  refine pw_ib_ne (tgt := 11) (off := 6) (by decide +kernel) (by decide) (fun h5 => ?_) (fun h5 => ?_)
  · obtain ⟨j5, b5, e5⟩ := pw_inr_t (by omega) h5
    subst e5
    refine pw_blk (pc' := 12) [.iload 2] (by decide +kernel) ?_
    show pw_V x m_X7_seatAs 2 Z 12 [(0, .ref 0), (1, .int (nI j5)), (2, .int q)] [.int q] mm
    refine pw_if_lt (tgt := 23) (off := 11) (by decide +kernel) (by decide) (fun h12 => ?_) (fun h12 => ?_)
    · refine pw_blk (pc' := 25) [.iconst (-3)] (by decide +kernel) ?_
      show pw_V x m_X7_seatAs 2 Z 25 [(0, .ref 0), (1, .int (nI j5)), (2, .int q)] [.int (-3)] mm
      rw [← hZ]
      refine pw_ri (by decide +kernel) ?_
      refine ⟨?_, rfl⟩
      unfold F_seatAs
      rw [if_pos (show pw_inr (nI j5) (pw_n mm) = true from by rw [pw_inr_nI (show j5 < 2 ^ 31 by omega) (show pw_n mm < 2 ^ 31 by omega)]; exact decide_eq_true b5)]
      rw [if_neg (by rw [pw_inr_f1 h12]; decide)]
    · refine pw_blk (pc' := 20) [.iload 2, .getstatic 1, .arraylength] (by decide +kernel) ?_
      show pw_V x m_X7_seatAs 2 Z 20 [(0, .ref 0), (1, .int (nI j5)), (2, .int q)] [.int (nI 6), .int q] mm
      refine pw_ic_lt (tgt := 26) (off := 6) (by decide +kernel) (by decide) (fun h20 => ?_) (fun h20 => ?_)
      · have b5_ := pw_b5 hok (show j5 < 8 by omega)
        refine pw_blk (pc' := 41) [.getstatic 1, .aload 0, .getfield 701, .getfield 502, .iload 1, .iaload, .iconst 1, .iadd, .iload 2] (by decide +kernel) ?_
        refine ⟨j5, rfl, by omega, ?_⟩
        show pw_V x m_X7_seatAs 2 Z 41 [(0, .ref 0), (1, .int (nI j5)), (2, .int q)] [.int q, .int ((mm 5 j5) + (nI 1)), .ref 91] mm
        rw [show mm 5 j5 = nI (pw_g mm 5 j5) from pw_q5 hok (by omega)]
        rw [show (nI (pw_g mm 5 j5)) + (nI 1) = nI ((pw_g mm 5 j5) + 1) from nI_add _ _]
        refine pw_cS (vs := [.ref 91, .int (nI ((pw_g mm 5 j5) + 1)), .int q]) (rest := []) k_X7_isOfKind (c_isOfKind_91 (nI ((pw_g mm 5 j5) + 1)) q mm) l_7_137 rfl (by decide) (Nat.le_of_ble_eq_true rfl) (by decide +kernel) ?_
        rintro _ m1 ⟨rfl, e1⟩
        rw [e1]
        clear e1 m1
        show pw_V x m_X7_seatAs 2 Z 44 [(0, .ref 0), (1, .int (nI j5)), (2, .int q)] [.int (pw_b (pw_ofk pw_k1 6 q 6 (nI ((pw_g mm 5 j5) + 1))))] mm
        refine pw_ib_ne (tgt := 50) (off := 6) (by decide +kernel) (by decide) (fun h44 => ?_) (fun h44 => ?_)
        · refine pw_blk (pc' := 55) [.iconst 0, .istore 3, .iconst 0, .istore 4] (by decide +kernel) ?_
          show pw_V x m_X7_seatAs 2 Z 55 [(4, .int (nI 0)), (3, .int (nI 0)), (0, .ref 0), (1, .int (nI j5)), (2, .int q)] [] mm
          refine pw_lvp [2, 3, 4, 1, 0] rfl ?_
          suffices loop : ∀ i : Nat, i ≤ pw_k mm → pw_V x m_X7_seatAs 2 Z 55 [(0, .ref 0), (1, .int (nI j5)), (2, .int q), (3, .int (nI (pw_ob (fun k => (pw_g mm 42 1).testBit k && pw_fnow mm k j5) i))), (4, .int (nI i))] [] mm from loop 0 (by omega)
          refine pw_dn (pw_k mm) (fun i hi ih => ?_)
          refine pw_blk (pc' := 64) [.iload 4, .aload 0, .getfield 701, .getfield 501] (by decide +kernel) ?_
          show pw_V x m_X7_seatAs 2 Z 64 [(0, .ref 0), (1, .int (nI j5)), (2, .int q), (3, .int (nI (pw_ob (fun k => (pw_g mm 42 1).testBit k && pw_fnow mm k j5) i))), (4, .int (nI i))] [.int (mm 4 1), .int (nI i)] mm
          rw [show mm 4 1 = nI (pw_k mm) from pw_q41 hok]
          refine pw_in_ge (tgt := 105) (off := 41) (by omega) (by omega) (by decide +kernel) (by decide) (fun h64 => ?_) (fun h64 => ?_)
          · refine pw_blk (pc' := 106) [.iload 3] (by decide +kernel) ?_
            show pw_V x m_X7_seatAs 2 Z 106 [(0, .ref 0), (1, .int (nI j5)), (2, .int q), (3, .int (nI (pw_ob (fun k => (pw_g mm 42 1).testBit k && pw_fnow mm k j5) i))), (4, .int (nI i))] [.int (nI (pw_ob (fun k => (pw_g mm 42 1).testBit k && pw_fnow mm k j5) i))] mm
            rw [← hZ]
            refine pw_ri (by decide +kernel) ?_
            refine ⟨?_, rfl⟩
            unfold F_seatAs
            rw [if_pos (show pw_inr (nI j5) (pw_n mm) = true from by rw [pw_inr_nI (show j5 < 2 ^ 31 by omega) (show pw_n mm < 2 ^ 31 by omega)]; exact decide_eq_true b5)]
            rw [if_pos (pw_inr_y h12 (fun z => pw_nlt z h20)), pw_c_nI (show j5 < 2 ^ 31 by omega)]
            rw [if_pos h44]
            have e : i = pw_k mm := by omega
            subst e
            rfl
          · refine pw_blk (pc' := 76) [.aload 0, .getfield 702, .getfield 1, .iload 4] (by decide +kernel) ?_
            show pw_V x m_X7_seatAs 2 Z 76 [(0, .ref 0), (1, .int (nI j5)), (2, .int q), (3, .int (nI (pw_ob (fun k => (pw_g mm 42 1).testBit k && pw_fnow mm k j5) i))), (4, .int (nI i))] [.int (nI i), .int (mm 42 1)] mm
            rw [show mm 42 1 = nI (pw_g mm 42 1) from pw_q421 hok]
            refine pw_cS (vs := [.int (nI (pw_g mm 42 1)), .int (nI i)]) (rest := []) k_X7_has (c_has (nI (pw_g mm 42 1)) (nI i) mm) l_7_124 rfl (by decide) (Nat.le_of_ble_eq_true rfl) (by decide +kernel) ?_
            rintro _ m1 ⟨rfl, e1⟩
            rw [e1]
            clear e1 m1
            show pw_V x m_X7_seatAs 2 Z 79 [(0, .ref 0), (1, .int (nI j5)), (2, .int q), (3, .int (nI (pw_ob (fun k => (pw_g mm 42 1).testBit k && pw_fnow mm k j5) i))), (4, .int (nI i))] [.int (pw_b (pw_hs (nI (pw_g mm 42 1)) (nI i)))] mm
            rw [pw_hs_n (by omega) (by omega)]
            refine pw_ib_eq (tgt := 99) (off := 20) (by decide +kernel) (by decide) (fun h79 => ?_) (fun h79 => ?_)
            · refine pw_blk (pc' := 102) [.iinc 4 1] (by decide +kernel) ?_
              show pw_V x m_X7_seatAs 2 Z 102 [(4, .int ((nI i) + (nI 1))), (0, .ref 0), (1, .int (nI j5)), (2, .int q), (3, .int (nI (pw_ob (fun k => (pw_g mm 42 1).testBit k && pw_fnow mm k j5) i)))] [] mm
              rw [show (nI i) + (nI 1) = nI (i + 1) from nI_add _ _]
              refine pw_goto (tgt := 55) (off := -47) (by decide +kernel) (by decide) ?_
              rw [show (pw_ob (fun k => (pw_g mm 42 1).testBit k && pw_fnow mm k j5) i) = (pw_ob (fun k => (pw_g mm 42 1).testBit k && pw_fnow mm k j5) (i + 1)) from by simp [pw_ob, h79]]
              refine pw_lvp [1, 2, 3, 4, 0] rfl ?_
              exact ih (by omega)
            · refine pw_blk (pc' := 86) [.aload 0, .iload 4, .iload 1] (by decide +kernel) ?_
              show pw_V x m_X7_seatAs 2 Z 86 [(0, .ref 0), (1, .int (nI j5)), (2, .int q), (3, .int (nI (pw_ob (fun k => (pw_g mm 42 1).testBit k && pw_fnow mm k j5) i))), (4, .int (nI i))] [.int (nI j5), .int (nI i), .ref 0] mm
              refine pw_cV (vs := [.int (nI i), .int (nI j5)]) (rest := []) k_X7_fitsNow (c_fitsNow i j5 mm hok (by omega) (by omega)) l_7_144 rfl rfl rfl rfl (by decide) (Nat.le_of_ble_eq_true rfl) (by decide +kernel) ?_
              rintro _ m1 ⟨rfl, e1⟩
              rw [e1]
              clear e1 m1
              show pw_V x m_X7_seatAs 2 Z 89 [(0, .ref 0), (1, .int (nI j5)), (2, .int q), (3, .int (nI (pw_ob (fun k => (pw_g mm 42 1).testBit k && pw_fnow mm k j5) i))), (4, .int (nI i))] [.int (pw_b (pw_fnow mm i j5))] mm
              refine pw_ib_eq (tgt := 99) (off := 10) (by decide +kernel) (by decide) (fun h89 => ?_) (fun h89 => ?_)
              · refine pw_blk (pc' := 102) [.iinc 4 1] (by decide +kernel) ?_
                show pw_V x m_X7_seatAs 2 Z 102 [(4, .int ((nI i) + (nI 1))), (0, .ref 0), (1, .int (nI j5)), (2, .int q), (3, .int (nI (pw_ob (fun k => (pw_g mm 42 1).testBit k && pw_fnow mm k j5) i)))] [] mm
                rw [show (nI i) + (nI 1) = nI (i + 1) from nI_add _ _]
                refine pw_goto (tgt := 55) (off := -47) (by decide +kernel) (by decide) ?_
                rw [show (pw_ob (fun k => (pw_g mm 42 1).testBit k && pw_fnow mm k j5) i) = (pw_ob (fun k => (pw_g mm 42 1).testBit k && pw_fnow mm k j5) (i + 1)) from by simp [pw_ob, h79, h89]]
                refine pw_lvp [1, 2, 3, 4, 0] rfl ?_
                exact ih (by omega)
              · refine pw_blk (pc' := 102) [.iload 3, .iconst 1, .iload 4, .ishl, .ior, .istore 3, .iinc 4 1] (by decide +kernel) ?_
                show pw_V x m_X7_seatAs 2 Z 102 [(4, .int ((nI i) + (nI 1))), (3, .int ((nI (pw_ob (fun k => (pw_g mm 42 1).testBit k && pw_fnow mm k j5) i)) ||| ((nI 1) <<< ((nI i) &&& 31)))), (0, .ref 0), (1, .int (nI j5)), (2, .int q)] [] mm
                rw [show (nI i) + (nI 1) = nI (i + 1) from nI_add _ _]
                rw [show (nI 1) <<< ((nI i) &&& 31) = nI (2 ^ i) from pw_shl1 (by omega)]
                rw [show (nI (pw_ob (fun k => (pw_g mm 42 1).testBit k && pw_fnow mm k j5) i)) ||| (nI (2 ^ i)) = nI ((pw_ob (fun k => (pw_g mm 42 1).testBit k && pw_fnow mm k j5) i) ||| (2 ^ i)) from fa_or _ _]
                refine pw_goto (tgt := 55) (off := -47) (by decide +kernel) (by decide) ?_
                rw [show ((pw_ob (fun k => (pw_g mm 42 1).testBit k && pw_fnow mm k j5) i) ||| (2 ^ i)) = (pw_ob (fun k => (pw_g mm 42 1).testBit k && pw_fnow mm k j5) (i + 1)) from by simp [pw_ob, h79, h89]]
                refine pw_lvp [2, 3, 4, 1, 0] rfl ?_
                exact ih (by omega)
        · refine pw_blk (pc' := 49) [.iconst (-4)] (by decide +kernel) ?_
          show pw_V x m_X7_seatAs 2 Z 49 [(0, .ref 0), (1, .int (nI j5)), (2, .int q)] [.int (-4)] mm
          rw [← hZ]
          refine pw_ri (by decide +kernel) ?_
          refine ⟨?_, rfl⟩
          unfold F_seatAs
          rw [if_pos (show pw_inr (nI j5) (pw_n mm) = true from by rw [pw_inr_nI (show j5 < 2 ^ 31 by omega) (show pw_n mm < 2 ^ 31 by omega)]; exact decide_eq_true b5)]
          rw [if_pos (pw_inr_y h12 (fun z => pw_nlt z h20)), pw_c_nI (show j5 < 2 ^ 31 by omega)]
          rw [if_neg (by rw [h44]; decide)]
      · refine pw_blk (pc' := 25) [.iconst (-3)] (by decide +kernel) ?_
        show pw_V x m_X7_seatAs 2 Z 25 [(0, .ref 0), (1, .int (nI j5)), (2, .int q)] [.int (-3)] mm
        rw [← hZ]
        refine pw_ri (by decide +kernel) ?_
        refine ⟨?_, rfl⟩
        unfold F_seatAs
        rw [if_pos (show pw_inr (nI j5) (pw_n mm) = true from by rw [pw_inr_nI (show j5 < 2 ^ 31 by omega) (show pw_n mm < 2 ^ 31 by omega)]; exact decide_eq_true b5)]
        rw [if_neg (by rw [pw_inr_f2 (Int32.not_lt.mp h20)]; decide)]
  · refine pw_blk (pc' := 10) [.iconst (-2)] (by decide +kernel) ?_
    show pw_V x m_X7_seatAs 2 Z 10 [(0, .ref 0), (1, .int s), (2, .int q)] [.int (-2)] mm
    rw [← hZ]
    refine pw_ri (by decide +kernel) ?_
    refine ⟨?_, rfl⟩
    unfold F_seatAs
    rw [if_neg (by rw [h5]; decide)]

set_option maxHeartbeats 4000000 in
set_option maxRecDepth 100000 in
theorem c_judge (w : Int32) (mm : pw_m) (hok : pw_ok mm) : pw_Ct 4 yX7_judge m_X7_judge [.ref 0, .int w] mm (fun r m' => r = some (.int (F_judge mm w)) ∧ m' = mm) := by
  refine pw_ct (by decide +kernel) rfl (Nat.le_of_ble_eq_true rfl) (fun x => ?_)
  generalize hZ : pw_Z x _ = Z
  have bn := pw_bn hok
  have bk := pw_bk hok
  show pw_V x m_X7_judge 4 Z 0 [(0, .ref 0), (1, .int w)] [] mm
  refine pw_blk (pc' := 1) [.iload 1] (by decide +kernel) ?_
  show pw_V x m_X7_judge 4 Z 1 [(0, .ref 0), (1, .int w)] [.int w] mm
  refine pw_lsw (dflt := 37) (ps := #[(0, 27), (1, 32)]) (len := 27) (by decide +kernel) (by decide) ?_
  by_cases h1_0 : w = nI 0
  · refine ⟨27, 28, by rw [h1_0]; rfl, by decide, ?_⟩
    subst h1_0
    refine pw_blk (pc' := 29) [.aload 0] (by decide +kernel) ?_
    show pw_V x m_X7_judge 4 Z 29 [(0, .ref 0), (1, .int (nI 0))] [.ref 0] mm
    refine pw_cV (vs := []) (rest := []) k_X7_whoIsWrong (c_whoIsWrong mm hok) l_7_172 rfl rfl rfl rfl (by decide) (Nat.le_of_ble_eq_true rfl) (by decide +kernel) ?_
    rintro _ m1 ⟨rfl, e1⟩
    rw [e1]
    clear e1 m1
    show pw_V x m_X7_judge 4 Z 32 [(0, .ref 0), (1, .int (nI 0))] [.int (nI (pw_wrs mm))] mm
    rw [← hZ]
    refine pw_ri (by decide +kernel) ?_
    refine ⟨?_, rfl⟩
    simp [F_judge, nz10, nz20, nz21, nz30, nz31, nz32, nz40, nz41, nz42, nz43, nz50, nz51, nz52, nz53, nz54, nz60, nz61, nz62, nz63, nz64, nz65]
  by_cases h1_1 : w = nI 1
  · refine ⟨32, 33, by rw [h1_1]; rfl, by decide, ?_⟩
    subst h1_1
    refine pw_blk (pc' := 34) [.aload 0] (by decide +kernel) ?_
    show pw_V x m_X7_judge 4 Z 34 [(0, .ref 0), (1, .int (nI 1))] [.ref 0] mm
    refine pw_cV (vs := []) (rest := []) k_X7_quarrels (c_quarrels mm hok) l_7_217 rfl rfl rfl rfl (by decide) (Nat.le_of_ble_eq_true rfl) (by decide +kernel) ?_
    rintro _ m1 ⟨rfl, e1⟩
    rw [e1]
    clear e1 m1
    show pw_V x m_X7_judge 4 Z 37 [(0, .ref 0), (1, .int (nI 1))] [.int (nI (pw_ct_ (pw_qu mm) (pw_n mm)))] mm
    rw [← hZ]
    refine pw_ri (by decide +kernel) ?_
    refine ⟨?_, rfl⟩
    simp [F_judge, nz10, nz20, nz21, nz30, nz31, nz32, nz40, nz41, nz42, nz43, nz50, nz51, nz52, nz53, nz54, nz60, nz61, nz62, nz63, nz64, nz65, h1_0]
  refine ⟨37, 38, by rw [show (#[(0, 27), (1, 32)] : Array (Int × Int)).toList = [(0, 27), (1, 32)] from rfl, lv_osw h1_0 (by decide), lv_osw h1_1 (by decide)]; rfl, by decide, ?_⟩
  refine pw_blk (pc' := 40) [.iconst (-3)] (by decide +kernel) ?_
  show pw_V x m_X7_judge 4 Z 40 [(0, .ref 0), (1, .int w)] [.int (-3)] mm
  rw [← hZ]
  refine pw_ri (by decide +kernel) ?_
  refine ⟨?_, rfl⟩
  simp [F_judge, nz10, nz20, nz21, nz30, nz31, nz32, nz40, nz41, nz42, nz43, nz50, nz51, nz52, nz53, nz54, nz60, nz61, nz62, nz63, nz64, nz65, h1_0, h1_1]

set_option maxHeartbeats 4000000 in
set_option maxRecDepth 100000 in
theorem c_count (w : Int32) (mm : pw_m) (hok : pw_ok mm) : pw_Ct 2 yX7_count m_X7_count [.ref 0, .int w] mm (fun r m' => r = some (.int (F_count mm w)) ∧ m' = mm) := by
  refine pw_ct (by decide +kernel) rfl (Nat.le_of_ble_eq_true rfl) (fun x => ?_)
  generalize hZ : pw_Z x _ = Z
  have bn := pw_bn hok
  have bk := pw_bk hok
  have b8 := pw_b48 hok
  have bd := pw_b420 hok
  have bm := pw_mulb (pw_b49 hok) bd
  show pw_V x m_X7_count 2 Z 0 [(0, .ref 0), (1, .int w)] [] mm
  refine pw_blk (pc' := 1) [.iload 1] (by decide +kernel) ?_
  show pw_V x m_X7_count 2 Z 1 [(0, .ref 0), (1, .int w)] [.int w] mm
  refine pw_tsw (tgt := 146) (dflt := 145) (lo := 0) (hi := 9) (offs := #[55, 63, 71, 79, 94, 102, 110, 118, 126, 134]) (len := 55) (by decide +kernel) (by decide) (fun h1 => ?_) (fun j hj h1 => ?_)
  · have e1_0 : ¬ w = nI 0 := fun q => by rw [q] at h1; revert h1; decide
    have e1_1 : ¬ w = nI 1 := fun q => by rw [q] at h1; revert h1; decide
    have e1_2 : ¬ w = nI 2 := fun q => by rw [q] at h1; revert h1; decide
    have e1_3 : ¬ w = nI 3 := fun q => by rw [q] at h1; revert h1; decide
    have e1_4 : ¬ w = nI 4 := fun q => by rw [q] at h1; revert h1; decide
    have e1_5 : ¬ w = nI 5 := fun q => by rw [q] at h1; revert h1; decide
    have e1_6 : ¬ w = nI 6 := fun q => by rw [q] at h1; revert h1; decide
    have e1_7 : ¬ w = nI 7 := fun q => by rw [q] at h1; revert h1; decide
    have e1_8 : ¬ w = nI 8 := fun q => by rw [q] at h1; revert h1; decide
    have e1_9 : ¬ w = nI 9 := fun q => by rw [q] at h1; revert h1; decide
    refine pw_blk (pc' := 148) [.iconst (-3)] (by decide +kernel) ?_
    show pw_V x m_X7_count 2 Z 148 [(0, .ref 0), (1, .int w)] [.int (-3)] mm
    rw [← hZ]
    refine pw_ri (by decide +kernel) ?_
    refine ⟨?_, rfl⟩
    simp [F_count, e1_0, e1_1, e1_2, e1_3, e1_4, e1_5, e1_6, e1_7, e1_8, e1_9]
  · match j, hj, h1 with
    | 0, hj, h1 =>
      refine ⟨55, 56, rfl, by decide, ?_⟩
      have e1 : w = nI 0 := Int32.toInt_inj.mp (by rw [h1]; rfl)
      subst e1
      refine pw_blk (pc' := 63) [.aload 0, .getfield 701, .getfield 500] (by decide +kernel) ?_
      show pw_V x m_X7_count 2 Z 63 [(0, .ref 0), (1, .int (nI 0))] [.int (mm 4 0)] mm
      rw [← hZ]
      refine pw_ri (by decide +kernel) ?_
      refine ⟨?_, rfl⟩
      first | rfl | exact congrArg (fun z => some (Value.int z)) (pw_q420 hok).symm | exact congrArg (fun z => some (Value.int z)) (pw_q421 hok).symm
    | 1, hj, h1 =>
      refine ⟨63, 64, rfl, by decide, ?_⟩
      have e1 : w = nI 1 := Int32.toInt_inj.mp (by rw [h1]; rfl)
      subst e1
      refine pw_blk (pc' := 71) [.aload 0, .getfield 701, .getfield 501] (by decide +kernel) ?_
      show pw_V x m_X7_count 2 Z 71 [(0, .ref 0), (1, .int (nI 1))] [.int (mm 4 1)] mm
      rw [← hZ]
      refine pw_ri (by decide +kernel) ?_
      refine ⟨?_, rfl⟩
      first | rfl | exact congrArg (fun z => some (Value.int z)) (pw_q420 hok).symm | exact congrArg (fun z => some (Value.int z)) (pw_q421 hok).symm
    | 2, hj, h1 =>
      refine ⟨71, 72, rfl, by decide, ?_⟩
      have e1 : w = nI 2 := Int32.toInt_inj.mp (by rw [h1]; rfl)
      subst e1
      refine pw_blk (pc' := 79) [.aload 0, .getfield 702, .getfield 0] (by decide +kernel) ?_
      show pw_V x m_X7_count 2 Z 79 [(0, .ref 0), (1, .int (nI 2))] [.int (mm 42 0)] mm
      rw [show mm 42 0 = nI (pw_g mm 42 0) from pw_q420 hok]
      rw [← hZ]
      refine pw_ri (by decide +kernel) ?_
      refine ⟨?_, rfl⟩
      first | rfl | exact congrArg (fun z => some (Value.int z)) (pw_q420 hok).symm | exact congrArg (fun z => some (Value.int z)) (pw_q421 hok).symm
    | 3, hj, h1 =>
      refine ⟨79, 80, rfl, by decide, ?_⟩
      have e1 : w = nI 3 := Int32.toInt_inj.mp (by rw [h1]; rfl)
      subst e1
      refine pw_blk (pc' := 91) [.aload 0, .getfield 701, .aload 0, .getfield 702, .getfield 0] (by decide +kernel) ?_
      show pw_V x m_X7_count 2 Z 91 [(0, .ref 0), (1, .int (nI 3))] [.int (mm 42 0), .ref 4] mm
      rw [show mm 42 0 = nI (pw_g mm 42 0) from pw_q420 hok]
      refine pw_cV (vs := [.int (nI (pw_g mm 42 0))]) (rest := []) k_X5_perilOn (c_perilOn mm hok) l_7_103 rfl rfl rfl rfl (by decide) (Nat.le_of_ble_eq_true rfl) (by decide +kernel) ?_
      rintro _ m1 ⟨rfl, e1⟩
      rw [e1]
      clear e1 m1
      show pw_V x m_X7_count 2 Z 94 [(0, .ref 0), (1, .int (nI 3))] [.int (pw_o (pw_pon mm))] mm
      rw [← hZ]
      refine pw_ri (by decide +kernel) ?_
      refine ⟨?_, rfl⟩
      first | rfl | exact congrArg (fun z => some (Value.int z)) (pw_q420 hok).symm | exact congrArg (fun z => some (Value.int z)) (pw_q421 hok).symm
    | 4, hj, h1 =>
      refine ⟨94, 95, rfl, by decide, ?_⟩
      have e1 : w = nI 4 := Int32.toInt_inj.mp (by rw [h1]; rfl)
      subst e1
      refine pw_blk (pc' := 102) [.aload 0, .getfield 702, .getfield 1] (by decide +kernel) ?_
      show pw_V x m_X7_count 2 Z 102 [(0, .ref 0), (1, .int (nI 4))] [.int (mm 42 1)] mm
      rw [show mm 42 1 = nI (pw_g mm 42 1) from pw_q421 hok]
      rw [← hZ]
      refine pw_ri (by decide +kernel) ?_
      refine ⟨?_, rfl⟩
      first | rfl | exact congrArg (fun z => some (Value.int z)) (pw_q420 hok).symm | exact congrArg (fun z => some (Value.int z)) (pw_q421 hok).symm
    | 5, hj, h1 =>
      refine ⟨102, 103, rfl, by decide, ?_⟩
      have e1 : w = nI 5 := Int32.toInt_inj.mp (by rw [h1]; rfl)
      subst e1
      refine pw_blk (pc' := 107) [.aload 0, .getfield 702] (by decide +kernel) ?_
      show pw_V x m_X7_count 2 Z 107 [(0, .ref 0), (1, .int (nI 5))] [.ref 42] mm
      refine pw_cV (vs := []) (rest := []) k_X0_whoSit (c_whoSit mm hok) l_7_157 rfl rfl rfl rfl (by decide) (Nat.le_of_ble_eq_true rfl) (by decide +kernel) ?_
      rintro _ m1 ⟨rfl, e1⟩
      rw [e1]
      clear e1 m1
      show pw_V x m_X7_count 2 Z 110 [(0, .ref 0), (1, .int (nI 5))] [.int (nI (pw_sb mm))] mm
      rw [← hZ]
      refine pw_ri (by decide +kernel) ?_
      refine ⟨?_, rfl⟩
      first | rfl | exact congrArg (fun z => some (Value.int z)) (pw_q420 hok).symm | exact congrArg (fun z => some (Value.int z)) (pw_q421 hok).symm
    | 6, hj, h1 =>
      refine ⟨110, 111, rfl, by decide, ?_⟩
      have e1 : w = nI 6 := Int32.toInt_inj.mp (by rw [h1]; rfl)
      subst e1
      refine pw_blk (pc' := 118) [.aload 0, .getfield 704, .getfield 604] (by decide +kernel) ?_
      show pw_V x m_X7_count 2 Z 118 [(0, .ref 0), (1, .int (nI 6))] [.int (mm 14 4)] mm
      rw [← hZ]
      refine pw_ri (by decide +kernel) ?_
      refine ⟨?_, rfl⟩
      first | rfl | exact congrArg (fun z => some (Value.int z)) (pw_q420 hok).symm | exact congrArg (fun z => some (Value.int z)) (pw_q421 hok).symm
    | 7, hj, h1 =>
      refine ⟨118, 119, rfl, by decide, ?_⟩
      have e1 : w = nI 7 := Int32.toInt_inj.mp (by rw [h1]; rfl)
      subst e1
      refine pw_blk (pc' := 123) [.aload 0, .getfield 701] (by decide +kernel) ?_
      show pw_V x m_X7_count 2 Z 123 [(0, .ref 0), (1, .int (nI 7))] [.ref 4] mm
      refine pw_cV (vs := []) (rest := []) k_X5_pairsOfEnemies (c_pairs mm hok) l_7_262 rfl rfl rfl rfl (by decide) (Nat.le_of_ble_eq_true rfl) (by decide +kernel) ?_
      rintro _ m1 ⟨rfl, e1⟩
      rw [e1]
      clear e1 m1
      show pw_V x m_X7_count 2 Z 126 [(0, .ref 0), (1, .int (nI 7))] [.int (nI (pw_sm (fun j => pw_pc (pw_g mm 10 j)) (pw_k mm) / 2))] mm
      rw [← hZ]
      refine pw_ri (by decide +kernel) ?_
      refine ⟨?_, rfl⟩
      first | rfl | exact congrArg (fun z => some (Value.int z)) (pw_q420 hok).symm | exact congrArg (fun z => some (Value.int z)) (pw_q421 hok).symm
    | 8, hj, h1 =>
      refine ⟨126, 127, rfl, by decide, ?_⟩
      have e1 : w = nI 8 := Int32.toInt_inj.mp (by rw [h1]; rfl)
      subst e1
      refine pw_blk (pc' := 134) [.aload 0, .getfield 703, .getfield 102] (by decide +kernel) ?_
      show pw_V x m_X7_count 2 Z 134 [(0, .ref 0), (1, .int (nI 8))] [.int (mm 11 2)] mm
      rw [← hZ]
      refine pw_ri (by decide +kernel) ?_
      refine ⟨?_, rfl⟩
      first | rfl | exact congrArg (fun z => some (Value.int z)) (pw_q420 hok).symm | exact congrArg (fun z => some (Value.int z)) (pw_q421 hok).symm
    | 9, hj, h1 =>
      refine ⟨134, 135, rfl, by decide, ?_⟩
      have e1 : w = nI 9 := Int32.toInt_inj.mp (by rw [h1]; rfl)
      subst e1
      refine pw_blk (pc' := 145) [.aload 0, .getfield 700, .getfield 200, .getfield 301] (by decide +kernel) ?_
      show pw_V x m_X7_count 2 Z 145 [(0, .ref 0), (1, .int (nI 9))] [.int (mm 2 1)] mm
      rw [← hZ]
      refine pw_ri (by decide +kernel) ?_
      refine ⟨?_, rfl⟩
      first | rfl | exact congrArg (fun z => some (Value.int z)) (pw_q420 hok).symm | exact congrArg (fun z => some (Value.int z)) (pw_q421 hok).symm
    | j + 10, hj, h1 => exact absurd hj (by omega)

set_option maxHeartbeats 4000000 in
set_option maxRecDepth 100000 in
theorem c_add (l : Int32) (mm : pw_m) (hok : pw_ok mm) (h0 : pw_g mm 2 1 < 160) : pw_Ct 0 yX3_add m_X3_add [.ref 2, .int l] mm (fun r m' => r = none ∧ m' = pw_up (pw_up mm 3 (pw_g mm 2 1) l) 2 1 (nI (pw_g mm 2 1 + 1))) := by
  refine pw_ct (by decide +kernel) rfl (Nat.le_of_ble_eq_true rfl) (fun x => ?_)
  generalize hZ : pw_Z x _ = Z
  show pw_V x m_X3_add 0 Z 0 [(0, .ref 2), (1, .int l)] [] mm
  refine pw_blk (pc' := 7) [.aload 0, .getfield 301, .iconst (160)] (by decide +kernel) ?_
  show pw_V x m_X3_add 0 Z 7 [(0, .ref 2), (1, .int l)] [.int (nI 160), .int (mm 2 1)] mm
  rw [show mm 2 1 = nI (pw_g mm 2 1) from pw_q21 hok]
  refine pw_in_ge (tgt := 30) (off := 23) (by omega) (by omega) (by decide +kernel) (by decide) (fun h7 => ?_) (fun h7 => ?_)
  · omega
  · refine pw_blk (pc' := 30) [.aload 0, .getfield 300, .aload 0, .getfield 301, .iload 1, .iastore, .aload 0, .dup, .getfield 301, .iconst 1, .iadd, .putfield 301] (by decide +kernel) ?_
    refine ⟨(pw_g mm 2 1), (show mm 2 1 = nI (pw_g mm 2 1) from by rw [show mm 2 1 = nI (pw_g mm 2 1) from pw_q21 hok]), by omega, ?_⟩
    show pw_V x m_X3_add 0 Z 30 [(0, .ref 2), (1, .int l)] [] (pw_up (pw_up mm 3 (pw_g mm 2 1) l) 2 1 ((mm 2 1) + (nI 1)))
    rw [show mm 2 1 = nI (pw_g mm 2 1) from pw_q21 hok]
    rw [show (nI (pw_g mm 2 1)) + (nI 1) = nI ((pw_g mm 2 1) + 1) from nI_add _ _]
    rw [← hZ]
    refine pw_rv (by decide +kernel) ?_
    exact ⟨rfl, rfl⟩

set_option maxHeartbeats 4000000 in
set_option maxRecDepth 100000 in
theorem c_write (l : Int32) (mm : pw_m) (hok : pw_ok mm) : pw_Ct 1 yX7_write m_X7_write [.ref 0, .int l] mm (fun r m' => r = some (.int (F_write mm l)) ∧ m' = G_write mm l) := by
  refine pw_ct (by decide +kernel) rfl (Nat.le_of_ble_eq_true rfl) (fun x => ?_)
  generalize hZ : pw_Z x _ = Z
  have bn := pw_bn hok
  have bk := pw_bk hok
  have b2 := pw_b21 hok
  show pw_V x m_X7_write 1 Z 0 [(0, .ref 0), (1, .int l)] [] mm
  refine pw_blk (pc' := 1) [.iload 1] (by decide +kernel) ?_
  show pw_V x m_X7_write 1 Z 1 [(0, .ref 0), (1, .int l)] [.int l] mm
  refine pw_if_lt (tgt := 11) (off := 10) (by decide +kernel) (by decide) (fun h1 => ?_) (fun h1 => ?_)
  · refine pw_blk (pc' := 13) [.iconst (-3)] (by decide +kernel) ?_
    show pw_V x m_X7_write 1 Z 13 [(0, .ref 0), (1, .int l)] [.int (-3)] mm
    rw [← hZ]
    refine pw_ri (by decide +kernel) ?_
    constructor
    · simp [F_write, pw_inr_f1 h1]
    · simp [G_write, pw_inr_f1 h1]
  · refine pw_blk (pc' := 8) [.iload 1, .iconst (255)] (by decide +kernel) ?_
    show pw_V x m_X7_write 1 Z 8 [(0, .ref 0), (1, .int l)] [.int (nI 255), .int l] mm
    refine pw_ic_le (tgt := 14) (off := 6) (by decide +kernel) (by decide) (fun h8 => ?_) (fun h8 => ?_)
    · refine pw_blk (pc' := 27) [.aload 0, .getfield 700, .getfield 200, .getfield 301, .iconst (160)] (by decide +kernel) ?_
      show pw_V x m_X7_write 1 Z 27 [(0, .ref 0), (1, .int l)] [.int (nI 160), .int (mm 2 1)] mm
      rw [show mm 2 1 = nI (pw_g mm 2 1) from pw_q21 hok]
      refine pw_in_lt (tgt := 33) (off := 6) (by omega) (by omega) (by decide +kernel) (by decide) (fun h27 => ?_) (fun h27 => ?_)
      · refine pw_blk (pc' := 41) [.aload 0, .getfield 700, .getfield 200, .iload 1] (by decide +kernel) ?_
        show pw_V x m_X7_write 1 Z 41 [(0, .ref 0), (1, .int l)] [.int l, .ref 2] mm
        refine pw_cV (vs := [.int l]) (rest := []) k_X3_add (c_add l mm hok (by omega)) l_7_65 rfl rfl rfl rfl (by decide) (Nat.le_of_ble_eq_true rfl) (by decide +kernel) ?_
        rintro _ m1 ⟨rfl, e1⟩
        rw [e1]
        clear e1 m1
        show pw_V x m_X7_write 1 Z 44 [(0, .ref 0), (1, .int l)] [] (pw_up (pw_up mm 3 (pw_g mm 2 1) l) 2 1 (nI (pw_g mm 2 1 + 1)))
        refine pw_blk (pc' := 54) [.aload 0, .getfield 700, .getfield 200, .getfield 301] (by decide +kernel) ?_
        show pw_V x m_X7_write 1 Z 54 [(0, .ref 0), (1, .int l)] [.int (nI (pw_g mm 2 1 + 1))] (pw_up (pw_up mm 3 (pw_g mm 2 1) l) 2 1 (nI (pw_g mm 2 1 + 1)))
        rw [← hZ]
        refine pw_ri (by decide +kernel) ?_
        constructor
        · simp [F_write, pw_inr_y3 (n := 255) (by omega) h1 h8, h27]
        · simp [G_write, pw_inr_y3 (n := 255) (by omega) h1 h8, h27]
      · refine pw_blk (pc' := 32) [.iconst (-5)] (by decide +kernel) ?_
        show pw_V x m_X7_write 1 Z 32 [(0, .ref 0), (1, .int l)] [.int (-5)] mm
        rw [← hZ]
        refine pw_ri (by decide +kernel) ?_
        constructor
        · simp [F_write, pw_inr_y3 (n := 255) (by omega) h1 h8, show ¬ pw_g mm 2 1 < 160 by omega]
        · simp [G_write, show ¬ pw_g mm 2 1 < 160 by omega]
    · refine pw_blk (pc' := 13) [.iconst (-3)] (by decide +kernel) ?_
      show pw_V x m_X7_write 1 Z 13 [(0, .ref 0), (1, .int l)] [.int (-3)] mm
      rw [← hZ]
      refine pw_ri (by decide +kernel) ?_
      constructor
      · simp [F_write, pw_inr_f3 (n := 255) (by omega) (Int32.not_le.mp h8)]
      · simp [G_write, pw_inr_f3 (n := 255) (by omega) (Int32.not_le.mp h8)]

set_option maxHeartbeats 4000000 in
set_option maxRecDepth 100000 in
theorem c_erase (mm : pw_m) : pw_Ct 0 yX7_erase m_X7_erase [.ref 0] mm (fun r m' => r = some (.int (mm 2 1)) ∧ m' = pw_up mm 2 1 0) := by
  refine pw_ct (by decide +kernel) rfl (Nat.le_of_ble_eq_true rfl) (fun x => ?_)
  generalize hZ : pw_Z x _ = Z
  show pw_V x m_X7_erase 0 Z 0 [(0, .ref 0)] [] mm
  refine pw_blk (pc' := 23) [.aload 0, .getfield 700, .getfield 200, .getfield 301, .istore 1, .aload 0, .getfield 700, .getfield 200, .iconst 0, .putfield 301, .iload 1] (by decide +kernel) ?_
  show pw_V x m_X7_erase 0 Z 23 [(1, .int (mm 2 1)), (0, .ref 0)] [.int (mm 2 1)] (pw_up mm 2 1 (nI 0))
  rw [← hZ]
  refine pw_ri (by decide +kernel) ?_
  exact ⟨rfl, rfl⟩

set_option maxHeartbeats 4000000 in
set_option maxRecDepth 100000 in
theorem c_forget (mm : pw_m) : pw_Ct 0 yX7_forget m_X7_forget [.ref 0] mm (fun r m' => r = some (.int (mm 14 4)) ∧ m' = pw_up mm 14 4 0) := by
  refine pw_ct (by decide +kernel) rfl (Nat.le_of_ble_eq_true rfl) (fun x => ?_)
  generalize hZ : pw_Z x _ = Z
  show pw_V x m_X7_forget 0 Z 0 [(0, .ref 0)] [] mm
  refine pw_blk (pc' := 17) [.aload 0, .getfield 704, .getfield 604, .istore 1, .aload 0, .getfield 704, .iconst 0, .putfield 604, .iload 1] (by decide +kernel) ?_
  show pw_V x m_X7_forget 0 Z 17 [(1, .int (mm 14 4)), (0, .ref 0)] [.int (mm 14 4)] (pw_up mm 14 4 (nI 0))
  rw [← hZ]
  refine pw_ri (by decide +kernel) ?_
  exact ⟨rfl, rfl⟩

set_option maxHeartbeats 4000000 in
set_option maxRecDepth 100000 in
theorem c_note (k s d t : Int32) (mm : pw_m) (hok : pw_ok mm) (h0 : pw_g mm 14 4 < 8) (ht : t = 0 ∨ t = 1) : pw_Ct 0 yX6_note m_X6_note [.ref 14, .int k, .int s, .int d, .int t] mm (fun r m' => r = none ∧ m' = pw_up (pw_up (pw_up (pw_up (pw_up mm 15 (pw_g mm 14 4) k) 16 (pw_g mm 14 4) s) 17 (pw_g mm 14 4) d) 18 (pw_g mm 14 4) t) 14 4 (nI (pw_g mm 14 4 + 1))) := by
  refine pw_ct (by decide +kernel) rfl (Nat.le_of_ble_eq_true rfl) (fun x => ?_)
  generalize hZ : pw_Z x _ = Z
  show pw_V x m_X6_note 0 Z 0 [(0, .ref 14), (1, .int k), (2, .int s), (3, .int d), (4, .int t)] [] mm
  refine pw_blk (pc' := 6) [.aload 0, .getfield 604, .iconst (8)] (by decide +kernel) ?_
  show pw_V x m_X6_note 0 Z 6 [(0, .ref 14), (1, .int k), (2, .int s), (3, .int d), (4, .int t)] [.int (nI 8), .int (mm 14 4)] mm
  rw [show mm 14 4 = nI (pw_g mm 14 4) from pw_q144 hok]
  refine pw_in_ge (tgt := 60) (off := 54) (by omega) (by omega) (by decide +kernel) (by decide) (fun h6 => ?_) (fun h6 => ?_)
  · omega
  · refine pw_blk (pc' := 60) [.aload 0, .getfield 600, .aload 0, .getfield 604, .iload 1, .iastore, .aload 0, .getfield 601, .aload 0, .getfield 604, .iload 2, .iastore, .aload 0, .getfield 602, .aload 0, .getfield 604, .iload 3, .iastore, .aload 0, .getfield 603, .aload 0, .getfield 604, .iload 4, .bastore, .aload 0, .dup, .getfield 604, .iconst 1, .iadd, .putfield 604] (by decide +kernel) ?_
    refine ⟨(pw_g mm 14 4), (show mm 14 4 = nI (pw_g mm 14 4) from by rw [show mm 14 4 = nI (pw_g mm 14 4) from pw_q144 hok]), by omega, ?_⟩
    refine ⟨(pw_g mm 14 4), (show mm 14 4 = nI (pw_g mm 14 4) from by rw [show mm 14 4 = nI (pw_g mm 14 4) from pw_q144 hok]), by omega, ?_⟩
    refine ⟨(pw_g mm 14 4), (show mm 14 4 = nI (pw_g mm 14 4) from by rw [show mm 14 4 = nI (pw_g mm 14 4) from pw_q144 hok]), by omega, ?_⟩
    refine ⟨ht, (pw_g mm 14 4), (show mm 14 4 = nI (pw_g mm 14 4) from by rw [show mm 14 4 = nI (pw_g mm 14 4) from pw_q144 hok]), by omega, ?_⟩
    show pw_V x m_X6_note 0 Z 60 [(0, .ref 14), (1, .int k), (2, .int s), (3, .int d), (4, .int t)] [] (pw_up (pw_up (pw_up (pw_up (pw_up mm 15 (pw_g mm 14 4) k) 16 (pw_g mm 14 4) s) 17 (pw_g mm 14 4) d) 18 (pw_g mm 14 4) t) 14 4 ((mm 14 4) + (nI 1)))
    rw [show mm 14 4 = nI (pw_g mm 14 4) from pw_q144 hok]
    rw [show (nI (pw_g mm 14 4)) + (nI 1) = nI ((pw_g mm 14 4) + 1) from nI_add _ _]
    rw [← hZ]
    refine pw_rv (by decide +kernel) ?_
    exact ⟨rfl, rfl⟩

theorem pw_t0 {t : Int32} (h1 : ¬ t < 0) (h2 : t ≤ nI 1) (h3 : ¬ t = nI 1) : t = nI 0 := by
  obtain ⟨j, hj, e⟩ := nI_of h1
  subst e
  have := (nI_leI hj (by omega)).mp h2
  rcases (show j = 0 ∨ j = 1 by omega) with rfl | rfl
  · rfl
  · exact absurd rfl h3

set_option maxHeartbeats 4000000 in
set_option maxRecDepth 100000 in
theorem c_seen (k s d t : Int32) (mm : pw_m) (hok : pw_ok mm) : pw_Ct 1 yX7_seen m_X7_seen [.ref 0, .int k, .int s, .int d, .int t] mm (fun r m' => r = some (.int (F_seen mm k s d t)) ∧ m' = G_seen mm k s d t) := by
  refine pw_ct (by decide +kernel) rfl (Nat.le_of_ble_eq_true rfl) (fun x => ?_)
  generalize hZ : pw_Z x _ = Z
  have bn := pw_bn hok
  have bk := pw_bk hok
  have b2 := pw_b144 hok
  have bd := pw_b420 hok
  show pw_V x m_X7_seen 1 Z 0 [(0, .ref 0), (1, .int k), (2, .int s), (3, .int d), (4, .int t)] [] mm
  refine pw_blk (pc' := 2) [.aload 0, .iload 1] (by decide +kernel) ?_
  show pw_V x m_X7_seen 1 Z 2 [(0, .ref 0), (1, .int k), (2, .int s), (3, .int d), (4, .int t)] [.int k, .ref 0] mm
  refine pw_cV (vs := [.int k]) (rest := []) k_X7_isKnight (c_isKnight k mm hok) l_7_106 rfl rfl rfl rfl (by decide) (Nat.le_of_ble_eq_true rfl) (by decide +kernel) ?_
  rintro _ m1 ⟨rfl, e1⟩
  rw [e1]
  clear e1 m1
  show pw_V x m_X7_seen 1 Z 5 [(0, .ref 0), (1, .int k), (2, .int s), (3, .int d), (4, .int t)] [.int (pw_b (pw_inr k (pw_k mm)))] mm
  refine pw_ib_eq (tgt := 16) (off := 11) (by decide +kernel) (by decide) (fun h5 => ?_) (fun h5 => ?_)
  · refine pw_blk (pc' := 18) [.iconst (-2)] (by decide +kernel) ?_
    show pw_V x m_X7_seen 1 Z 18 [(0, .ref 0), (1, .int k), (2, .int s), (3, .int d), (4, .int t)] [.int (-2)] mm
    rw [← hZ]
    refine pw_ri (by decide +kernel) ?_
    constructor
    · simp [F_seen, h5]
    · simp [G_seen, h5]
  · have h5_ := h5
    refine pw_blk (pc' := 10) [.aload 0, .iload 2] (by decide +kernel) ?_
    show pw_V x m_X7_seen 1 Z 10 [(0, .ref 0), (1, .int k), (2, .int s), (3, .int d), (4, .int t)] [.int s, .ref 0] mm
    refine pw_cV (vs := [.int s]) (rest := []) k_X7_isSeat (c_isSeat s mm hok) l_7_86 rfl rfl rfl rfl (by decide) (Nat.le_of_ble_eq_true rfl) (by decide +kernel) ?_
    rintro _ m1 ⟨rfl, e1⟩
    rw [e1]
    clear e1 m1
    show pw_V x m_X7_seen 1 Z 13 [(0, .ref 0), (1, .int k), (2, .int s), (3, .int d), (4, .int t)] [.int (pw_b (pw_inr s (pw_n mm)))] mm
    refine pw_ib_ne (tgt := 19) (off := 6) (by decide +kernel) (by decide) (fun h13 => ?_) (fun h13 => ?_)
    · have h13_ := h13
      refine pw_blk (pc' := 20) [.iload 3] (by decide +kernel) ?_
      show pw_V x m_X7_seen 1 Z 20 [(0, .ref 0), (1, .int k), (2, .int s), (3, .int d), (4, .int t)] [.int d] mm
      refine pw_if_lt (tgt := 45) (off := 25) (by decide +kernel) (by decide) (fun h20 => ?_) (fun h20 => ?_)
      · refine pw_blk (pc' := 47) [.iconst (-3)] (by decide +kernel) ?_
        show pw_V x m_X7_seen 1 Z 47 [(0, .ref 0), (1, .int k), (2, .int s), (3, .int d), (4, .int t)] [.int (-3)] mm
        rw [← hZ]
        refine pw_ri (by decide +kernel) ?_
        constructor
        · simp [F_seen, h5_, h13_, pw_inr_f1 h20]
        · simp [G_seen, pw_inr_f1 h20]
      · refine pw_blk (pc' := 31) [.iload 3, .aload 0, .getfield 702, .getfield 0] (by decide +kernel) ?_
        show pw_V x m_X7_seen 1 Z 31 [(0, .ref 0), (1, .int k), (2, .int s), (3, .int d), (4, .int t)] [.int (mm 42 0), .int d] mm
        rw [show mm 42 0 = nI (pw_g mm 42 0) from pw_q420 hok]
        refine pw_ic_gt (tgt := 45) (off := 14) (by decide +kernel) (by decide) (fun h31 => ?_) (fun h31 => ?_)
        · refine pw_blk (pc' := 47) [.iconst (-3)] (by decide +kernel) ?_
          show pw_V x m_X7_seen 1 Z 47 [(0, .ref 0), (1, .int k), (2, .int s), (3, .int d), (4, .int t)] [.int (-3)] mm
          rw [← hZ]
          refine pw_ri (by decide +kernel) ?_
          constructor
          · simp [F_seen, h5_, h13_, pw_inr_f3 (by omega) h31]
          · simp [G_seen, pw_inr_f3 (by omega) h31]
        · refine pw_blk (pc' := 36) [.iload 4] (by decide +kernel) ?_
          show pw_V x m_X7_seen 1 Z 36 [(0, .ref 0), (1, .int k), (2, .int s), (3, .int d), (4, .int t)] [.int t] mm
          refine pw_if_lt (tgt := 45) (off := 9) (by decide +kernel) (by decide) (fun h36 => ?_) (fun h36 => ?_)
          · refine pw_blk (pc' := 47) [.iconst (-3)] (by decide +kernel) ?_
            show pw_V x m_X7_seen 1 Z 47 [(0, .ref 0), (1, .int k), (2, .int s), (3, .int d), (4, .int t)] [.int (-3)] mm
            rw [← hZ]
            refine pw_ri (by decide +kernel) ?_
            constructor
            · simp [F_seen, h5_, h13_, pw_inr_f1 h36]
            · simp [G_seen, pw_inr_f1 h36]
          · refine pw_blk (pc' := 42) [.iload 4, .iconst 1] (by decide +kernel) ?_
            show pw_V x m_X7_seen 1 Z 42 [(0, .ref 0), (1, .int k), (2, .int s), (3, .int d), (4, .int t)] [.int (nI 1), .int t] mm
            refine pw_ic_le (tgt := 48) (off := 6) (by decide +kernel) (by decide) (fun h42 => ?_) (fun h42 => ?_)
            · refine pw_blk (pc' := 57) [.aload 0, .getfield 704, .getfield 604, .iconst (8)] (by decide +kernel) ?_
              show pw_V x m_X7_seen 1 Z 57 [(0, .ref 0), (1, .int k), (2, .int s), (3, .int d), (4, .int t)] [.int (nI 8), .int (mm 14 4)] mm
              rw [show mm 14 4 = nI (pw_g mm 14 4) from pw_q144 hok]
              refine pw_in_lt (tgt := 63) (off := 6) (by omega) (by omega) (by decide +kernel) (by decide) (fun h57 => ?_) (fun h57 => ?_)
              · refine pw_blk (pc' := 73) [.aload 0, .getfield 704, .iload 1, .iload 2, .iload 3, .iload 4, .iconst 1] (by decide +kernel) ?_
                show pw_V x m_X7_seen 1 Z 73 [(0, .ref 0), (1, .int k), (2, .int s), (3, .int d), (4, .int t)] [.int (nI 1), .int t, .int d, .int s, .int k, .ref 14] mm
                refine pw_ic_ne (tgt := 80) (off := 7) (by decide +kernel) (by decide) (fun h73 => ?_) (fun h73 => ?_)
                · refine pw_blk (pc' := 81) [.iconst 0] (by decide +kernel) ?_
                  show pw_V x m_X7_seen 1 Z 81 [(0, .ref 0), (1, .int k), (2, .int s), (3, .int d), (4, .int t)] [.int (nI 0), .int d, .int s, .int k, .ref 14] mm
                  refine pw_cV (vs := [.int k, .int s, .int d, .int (nI 0)]) (rest := []) k_X6_note (c_note k s d (nI 0) mm hok (by omega) (by decide)) l_7_220 rfl rfl rfl rfl (by decide) (Nat.le_of_ble_eq_true rfl) (by decide +kernel) ?_
                  rintro _ m1 ⟨rfl, e1⟩
                  rw [e1]
                  clear e1 m1
                  show pw_V x m_X7_seen 1 Z 84 [(0, .ref 0), (1, .int k), (2, .int s), (3, .int d), (4, .int t)] [] (pw_up (pw_up (pw_up (pw_up (pw_up mm 15 (pw_g mm 14 4) k) 16 (pw_g mm 14 4) s) 17 (pw_g mm 14 4) d) 18 (pw_g mm 14 4) (nI 0)) 14 4 (nI (pw_g mm 14 4 + 1)))
                  refine pw_blk (pc' := 91) [.aload 0, .getfield 704, .getfield 604] (by decide +kernel) ?_
                  show pw_V x m_X7_seen 1 Z 91 [(0, .ref 0), (1, .int k), (2, .int s), (3, .int d), (4, .int t)] [.int (nI (pw_g mm 14 4 + 1))] (pw_up (pw_up (pw_up (pw_up (pw_up mm 15 (pw_g mm 14 4) k) 16 (pw_g mm 14 4) s) 17 (pw_g mm 14 4) d) 18 (pw_g mm 14 4) (nI 0)) 14 4 (nI (pw_g mm 14 4 + 1)))
                  rw [← hZ]
                  refine pw_ri (by decide +kernel) ?_
                  have y1 := pw_inr_y3 (n := pw_g mm 42 0) (by omega) h20 (Int32.not_lt.mp h31)
                  have y2 := pw_inr_y3 (n := 1) (by omega) h36 h42
                  have et : t = nI 0 := pw_t0 h36 h42 h73
                  subst et
                  constructor
                  · simp [F_seen, h5_, h13_, y1, y2, h57]
                  · simp [G_seen, h5_, h13_, y1, y2, h57]
                · refine pw_blk (pc' := 77) [.iconst 1] (by decide +kernel) ?_
                  show pw_V x m_X7_seen 1 Z 77 [(0, .ref 0), (1, .int k), (2, .int s), (3, .int d), (4, .int t)] [.int (nI 1), .int d, .int s, .int k, .ref 14] mm
                  refine pw_goto (tgt := 81) (off := 4) (by decide +kernel) (by decide) ?_
                  refine pw_cV (vs := [.int k, .int s, .int d, .int (nI 1)]) (rest := []) k_X6_note (c_note k s d (nI 1) mm hok (by omega) (by decide)) l_7_220 rfl rfl rfl rfl (by decide) (Nat.le_of_ble_eq_true rfl) (by decide +kernel) ?_
                  rintro _ m1 ⟨rfl, e1⟩
                  rw [e1]
                  clear e1 m1
                  show pw_V x m_X7_seen 1 Z 84 [(0, .ref 0), (1, .int k), (2, .int s), (3, .int d), (4, .int t)] [] (pw_up (pw_up (pw_up (pw_up (pw_up mm 15 (pw_g mm 14 4) k) 16 (pw_g mm 14 4) s) 17 (pw_g mm 14 4) d) 18 (pw_g mm 14 4) (nI 1)) 14 4 (nI (pw_g mm 14 4 + 1)))
                  refine pw_blk (pc' := 91) [.aload 0, .getfield 704, .getfield 604] (by decide +kernel) ?_
                  show pw_V x m_X7_seen 1 Z 91 [(0, .ref 0), (1, .int k), (2, .int s), (3, .int d), (4, .int t)] [.int (nI (pw_g mm 14 4 + 1))] (pw_up (pw_up (pw_up (pw_up (pw_up mm 15 (pw_g mm 14 4) k) 16 (pw_g mm 14 4) s) 17 (pw_g mm 14 4) d) 18 (pw_g mm 14 4) (nI 1)) 14 4 (nI (pw_g mm 14 4 + 1)))
                  rw [← hZ]
                  refine pw_ri (by decide +kernel) ?_
                  have y1 := pw_inr_y3 (n := pw_g mm 42 0) (by omega) h20 (Int32.not_lt.mp h31)
                  have y2 := pw_inr_y3 (n := 1) (by omega) h36 h42
                  have et : t = nI 1 := h73
                  subst et
                  constructor
                  · simp [F_seen, h5_, h13_, y1, y2, h57]
                  · simp [G_seen, h5_, h13_, y1, y2, h57]
              · refine pw_blk (pc' := 62) [.iconst (-5)] (by decide +kernel) ?_
                show pw_V x m_X7_seen 1 Z 62 [(0, .ref 0), (1, .int k), (2, .int s), (3, .int d), (4, .int t)] [.int (-5)] mm
                rw [← hZ]
                refine pw_ri (by decide +kernel) ?_
                have y1 := pw_inr_y3 (n := pw_g mm 42 0) (by omega) h20 (Int32.not_lt.mp h31)
                have y2 := pw_inr_y3 (n := 1) (by omega) h36 h42
                constructor
                · simp [F_seen, h5_, h13_, y1, y2, show ¬ pw_g mm 14 4 < 8 by omega]
                · simp [G_seen, show ¬ pw_g mm 14 4 < 8 by omega]
            · refine pw_blk (pc' := 47) [.iconst (-3)] (by decide +kernel) ?_
              show pw_V x m_X7_seen 1 Z 47 [(0, .ref 0), (1, .int k), (2, .int s), (3, .int d), (4, .int t)] [.int (-3)] mm
              rw [← hZ]
              refine pw_ri (by decide +kernel) ?_
              constructor
              · simp [F_seen, h5_, h13_, pw_inr_f3 (n := 1) (by omega) (Int32.not_le.mp h42)]
              · simp [G_seen, pw_inr_f3 (n := 1) (by omega) (Int32.not_le.mp h42)]
    · refine pw_blk (pc' := 18) [.iconst (-2)] (by decide +kernel) ?_
      show pw_V x m_X7_seen 1 Z 18 [(0, .ref 0), (1, .int k), (2, .int s), (3, .int d), (4, .int t)] [.int (-2)] mm
      rw [← hZ]
      refine pw_ri (by decide +kernel) ?_
      constructor
      · simp [F_seen, h13]
      · simp [G_seen, h13]
end
section
/-! memories made of memories: copies of evenings; what stays well -/
def pw_c6 (f g : Nat → Int32) (i : Nat) : Nat → Int32 := fun k => if k < i then g k else f k
def pw_cpI (A : pw_m) (d s i : Nat) : pw_m := fun c => if c = d then upd (upd (A d) 0 (A s 0)) 1 (A s 1) else if c = d + 1 then pw_c6 (A (d + 1)) (A (s + 1)) i else if c = d + 2 then pw_c6 (A (d + 2)) (A (s + 2)) i else if c = d + 3 then pw_c6 (A (d + 3)) (A (s + 3)) i else A c
theorem pw_c6_s {f g : Nat → Int32} {i : Nat} : upd (pw_c6 f g i) i (g i) = pw_c6 f g (i + 1) := by
  funext k
  unfold upd pw_c6
  rcases Nat.lt_trichotomy k i with q | q | q
  · rw [if_neg (by omega), if_pos q, if_pos (by omega)]
  · subst q; rw [if_pos rfl, if_pos (by omega)]
  · rw [if_neg (by omega), if_neg (by omega), if_neg (by omega)]
theorem pw_c6_0 {f g : Nat → Int32} : pw_c6 f g 0 = f := by
  funext k
  simp [pw_c6]
theorem pw_cpI_d {A : pw_m} {d s i : Nat} : pw_cpI A d s i d = upd (upd (A d) 0 (A s 0)) 1 (A s 1) := by simp [pw_cpI]
theorem pw_cpI_1 {A : pw_m} {d s i : Nat} : pw_cpI A d s i (d + 1) = pw_c6 (A (d + 1)) (A (s + 1)) i := by simp [pw_cpI]
theorem pw_cpI_2 {A : pw_m} {d s i : Nat} : pw_cpI A d s i (d + 2) = pw_c6 (A (d + 2)) (A (s + 2)) i := by simp [pw_cpI]
theorem pw_cpI_3 {A : pw_m} {d s i : Nat} : pw_cpI A d s i (d + 3) = pw_c6 (A (d + 3)) (A (s + 3)) i := by simp [pw_cpI]
theorem pw_cpI_o {A : pw_m} {d s i c : Nat} (h : c < d ∨ d + 4 ≤ c) : pw_cpI A d s i c = A c := by
  unfold pw_cpI
  rw [if_neg (by omega), if_neg (by omega), if_neg (by omega), if_neg (by omega)]
theorem pw_cpI_0 {A : pw_m} {d s : Nat} (h : d + 4 ≤ s ∨ s + 4 ≤ d) : pw_up (pw_up A d 0 (A s 0)) d 1 (A s 1) = pw_cpI A d s 0 := by
  funext c
  by_cases h0 : c = d
  · subst h0; rw [pw_up_eq, pw_up_eq, pw_cpI_d]
  · rw [pw_up_ne h0, pw_up_ne h0]
    unfold pw_cpI
    rw [if_neg h0]
    by_cases h1 : c = d + 1
    · subst h1; rw [if_pos rfl, pw_c6_0]
    · rw [if_neg h1]
      by_cases h2 : c = d + 2
      · subst h2; rw [if_pos rfl, pw_c6_0]
      · rw [if_neg h2]
        by_cases h3 : c = d + 3
        · subst h3; rw [if_pos rfl, pw_c6_0]
        · rw [if_neg h3]
theorem pw_cpI_s {A : pw_m} {d s i : Nat} (h : d + 4 ≤ s ∨ s + 4 ≤ d) : pw_up (pw_up (pw_up (pw_cpI A d s i) (d + 1) i ((pw_cpI A d s i) (s + 1) i)) (d + 2) i ((pw_cpI A d s i) (s + 2) i)) (d + 3) i ((pw_cpI A d s i) (s + 3) i) = pw_cpI A d s (i + 1) := by
  rw [pw_cpI_o (c := s + 1) (by omega), pw_cpI_o (c := s + 2) (by omega), pw_cpI_o (c := s + 3) (by omega)]
  funext c
  by_cases h3 : c = d + 3
  · subst h3
    rw [pw_up_eq, pw_up_ne (by omega), pw_up_ne (by omega), pw_cpI_3, pw_cpI_3, pw_c6_s]
  · rw [pw_up_ne h3]
    by_cases h2 : c = d + 2
    · subst h2
      rw [pw_up_eq, pw_up_ne (by omega), pw_cpI_2, pw_cpI_2, pw_c6_s]
    · rw [pw_up_ne h2]
      by_cases h1 : c = d + 1
      · subst h1
        rw [pw_up_eq, pw_cpI_1, pw_cpI_1, pw_c6_s]
      · rw [pw_up_ne h1]
        by_cases h0 : c = d
        · subst h0; rw [pw_cpI_d, pw_cpI_d]
        · rw [pw_cpI_o (by omega), pw_cpI_o (by omega)]
/-! what the words rest on -/
theorem pw_okT_c {A B : pw_m} (h : ∀ c, 4 ≤ c → c ≤ 10 → B c = A c) (q : pw_okT A) : pw_okT B := by
  unfold pw_okT at q ⊢
  rw [h 4 (by omega) (by omega), h 5 (by omega) (by omega), h 6 (by omega) (by omega), h 7 (by omega) (by omega), h 8 (by omega) (by omega), h 9 (by omega) (by omega), h 10 (by omega) (by omega)]
  exact q
theorem pw_n_c {A B : pw_m} (h : ∀ c, 4 ≤ c → c ≤ 10 → B c = A c) : pw_n B = pw_n A := by unfold pw_n; rw [h 4 (by omega) (by omega)]
theorem pw_k_c {A B : pw_m} (h : ∀ c, 4 ≤ c → c ≤ 10 → B c = A c) : pw_k B = pw_k A := by unfold pw_k; rw [h 4 (by omega) (by omega)]
theorem pw_ev_c {A B : pw_m} {e n k : Nat} (h : ∀ c, e ≤ c → c < e + 4 → B c = A c) (q : pw_ev A e n k) : pw_ev B e n k := by
  unfold pw_ev at q ⊢
  rw [h e (by omega) (by omega), h (e + 1) (by omega) (by omega), h (e + 2) (by omega) (by omega), h (e + 3) (by omega) (by omega)]
  exact q
/-- an evening that is another's copy, in what counts -/
theorem pw_ev_y {A B : pw_m} {e d n k : Nat} (h0 : B d 0 = A e 0) (h1 : B d 1 = A e 1) (h2 : ∀ j, j < 6 → B (d + 1) j = A (e + 1) j ∧ B (d + 2) j = A (e + 2) j ∧ B (d + 3) j = A (e + 3) j) (q : pw_ev A e n k) : pw_ev B d n k := by
  obtain ⟨⟨a, b⟩, c, f, g, i, j⟩ := q
  refine ⟨⟨by rw [h0]; exact a, by rw [h1]; exact b⟩, fun z hz => by rw [(h2 z hz).1]; exact c z hz, fun z hz => by rw [(h2 z hz).2.1]; exact f z hz, fun z hz => by rw [(h2 z hz).2.2]; exact g z hz, fun z hz hk => by rw [(h2 z hz).2.2]; exact i z hz hk, fun y z s hy hz e1 e2 => ?_⟩
  rw [(h2 y hy).2.2] at e1
  rw [(h2 z hz).2.2] at e2
  exact j y z s hy hz e1 e2
theorem pw_ev_cp {A : pw_m} {d s n k : Nat} (q : pw_ev A s n k) : pw_ev (pw_cpI A d s 6) d n k := by
  refine pw_ev_y ?_ ?_ (fun j hj => ?_) q
  · rw [pw_cpI_d]; simp [upd]
  · rw [pw_cpI_d]; simp [upd]
  · rw [pw_cpI_1, pw_cpI_2, pw_cpI_3]; simp [pw_c6, hj]
theorem pw_okW_c {A B : pw_m} (h : ∀ c, 4 ≤ c → c ≤ 10 → B c = A c) (h2 : ∀ c, 15 ≤ c → c ≤ 18 → B c = A c) (h3 : B 14 4 = A 14 4) (q : pw_okW A) : pw_okW B := by
  unfold pw_okW pw_g at q ⊢
  rw [pw_n_c h, pw_k_c h, h3, h2 15 (by omega) (by omega), h2 16 (by omega) (by omega), h2 17 (by omega) (by omega), h2 18 (by omega) (by omega)]
  exact q
theorem pw_okX_c {A B : pw_m} (h : B 3 = A 3) (h2 : B 2 1 = A 2 1) (q : pw_okX A) : pw_okX B := by
  unfold pw_okX pw_g at q ⊢
  rw [h, h2]
  exact q
theorem pw_okU_c {A B : pw_m} (h : ∀ c, 4 ≤ c → c ≤ 10 → B c = A c) (h2 : ∀ k, 2 ≤ k → k ≤ 4 → B 11 k = A 11 k) (h3 : ∀ c, 46 ≤ c → c ≤ 85 → B c = A c) (q : pw_okU A) : pw_okU B := by
  obtain ⟨⟨a1, a2, a3⟩, a4, a5⟩ := q
  have e2 := h2 2 (by omega) (by omega)
  have e3 := h2 3 (by omega) (by omega)
  have e4 := h2 4 (by omega) (by omega)
  have er : ∀ i, pw_rg B i = pw_rg A i := fun i => by unfold pw_rg pw_g; rw [e2, e4]
  refine ⟨⟨by rw [e2]; exact a1, by rw [e4]; exact a2, fun i hi => ?_⟩, by rw [e3]; exact a4, fun i hi ht => ?_⟩
  · have hi' : i < pw_g A 11 2 := by unfold pw_g at hi ⊢; rw [← e2]; exact hi
    rw [er, pw_n_c h, pw_k_c h]
    refine pw_ev_c (fun c h1 h4 => h3 c ?_ ?_) (a3 i hi')
    · unfold pw_rg at h1; omega
    · unfold pw_rg at h4; omega
  · have ht' : (pw_g A 11 3).testBit i = true := by unfold pw_g at ht ⊢; rw [← e3]; exact ht
    rw [pw_n_c h, pw_k_c h]
    exact pw_ev_c (fun c h1 h4 => h3 c (by omega) (by omega)) (a5 i hi ht')
/-! remember, recall, keep, back -/
def pw_nx (a : Nat) : Nat := if a + 1 < 8 then a + 1 else 0
def pw_px (a : Nat) : Nat := if 0 < a then a - 1 else 7
def pw_rem (A : pw_m) : pw_m := pw_up (pw_up (pw_cpI A (46 + 4 * pw_g A 11 4) 42 6) 11 4 (nI (pw_nx (pw_g A 11 4)))) 11 2 (nI (min 8 (pw_g A 11 2 + 1)))
def pw_rec (A : pw_m) : pw_m := pw_up (pw_cpI (pw_up A 11 4 (nI (pw_px (pw_g A 11 4)))) 42 (46 + 4 * pw_px (pw_g A 11 4)) 6) 11 2 (nI (pw_g A 11 2 - 1))
theorem pw_rem_o {A : pw_m} {c : Nat} (hx : pw_g A 11 4 < 8) (h : c < 46 ∨ 78 ≤ c) (h2 : c ≠ 11) : pw_rem A c = A c := by
  unfold pw_rem
  rw [pw_up_ne h2, pw_up_ne h2, pw_cpI_o (by omega)]
theorem pw_rem_2 {A : pw_m} : pw_rem A 11 2 = nI (min 8 (pw_g A 11 2 + 1)) := by unfold pw_rem; rw [pw_up_eq]; simp [upd]
theorem pw_rem_4 {A : pw_m} : pw_rem A 11 4 = nI (pw_nx (pw_g A 11 4)) := by unfold pw_rem; rw [pw_up_eq, pw_up_eq]; simp [upd]
theorem pw_rem_3 {A : pw_m} (hx : pw_g A 11 4 < 8) : pw_rem A 11 3 = A 11 3 := by unfold pw_rem; rw [pw_up_eq, pw_up_eq, pw_cpI_o (by omega)]; simp [upd]
theorem pw_rem_e {A : pw_m} {c : Nat} (h2 : c ≠ 11) : pw_rem A c = pw_cpI A (46 + 4 * pw_g A 11 4) 42 6 c := by
  unfold pw_rem
  rw [pw_up_ne h2, pw_up_ne h2]
theorem pw_ok_rem {A : pw_m} (h : pw_ok A) : pw_ok (pw_rem A) := by
  have hx := pw_b114 h
  have hu := pw_b112 h
  have hT : ∀ c, 4 ≤ c → c ≤ 10 → pw_rem A c = A c := fun c h1 h2 => pw_rem_o hx (by omega) (by omega)
  obtain ⟨q1, q2, ⟨⟨a1, a2, a3⟩, a4, a5⟩, q4, q5⟩ := h
  have g2 : pw_g (pw_rem A) 11 2 = min 8 (pw_g A 11 2 + 1) := by unfold pw_g; rw [pw_rem_2]; exact pw_c_nI (by omega)
  have g4 : pw_g (pw_rem A) 11 4 = pw_nx (pw_g A 11 4) := by unfold pw_g; rw [pw_rem_4]; exact pw_c_nI (by unfold pw_nx; split <;> omega)
  have hn : pw_nx (pw_g A 11 4) < 8 := by unfold pw_nx; split <;> omega
  refine ⟨pw_okT_c hT q1, ?_, ⟨⟨?_, ?_, fun i hi => ?_⟩, ?_, fun i hi ht => ?_⟩, pw_okW_c hT (fun c h1 h2 => pw_rem_o hx (by omega) (by omega)) (by rw [pw_rem_o hx (by omega) (by omega)]) q4, pw_okX_c (pw_rem_o hx (by omega) (by omega)) (by rw [pw_rem_o hx (by omega) (by omega)]) q5⟩
  · rw [pw_n_c hT, pw_k_c hT]
    exact pw_ev_c (fun c h1 h2 => pw_rem_o hx (by omega) (by omega)) q2
  · rw [pw_rem_2]; exact pw_fine_nI (by omega) (by omega)
  · rw [pw_rem_4]; exact pw_fine_nI hn (by omega)
  · rw [pw_n_c hT, pw_k_c hT]
    rw [g2] at hi
    have hr : pw_rg (pw_rem A) i = (pw_nx (pw_g A 11 4) + 8 - min 8 (pw_g A 11 2 + 1) + i) % 8 := by unfold pw_rg; rw [g2, g4]
    rw [hr]
    by_cases hl : i = min 8 (pw_g A 11 2 + 1) - 1
    · have e : (pw_nx (pw_g A 11 4) + 8 - min 8 (pw_g A 11 2 + 1) + i) % 8 = pw_g A 11 4 := by unfold pw_nx; split <;> omega
      rw [e]
      exact pw_ev_c (fun c h1 h2 => pw_rem_e (by omega)) (pw_ev_cp q2)
    · have e : ∃ i', i' < pw_g A 11 2 ∧ (pw_nx (pw_g A 11 4) + 8 - min 8 (pw_g A 11 2 + 1) + i) % 8 = pw_rg A i' ∧ pw_rg A i' ≠ pw_g A 11 4 := by
        unfold pw_rg pw_nx
        by_cases h8 : pw_g A 11 2 = 8
        · refine ⟨i + 1, by omega, ?_, ?_⟩
          · split <;> omega
          · omega
        · refine ⟨i, by omega, ?_, ?_⟩
          · split <;> omega
          · omega
      obtain ⟨i', h1, h2, h3⟩ := e
      rw [h2]
      refine pw_ev_c (fun c h4 h5 => ?_) (a3 i' h1)
      rw [pw_rem_e (by omega), pw_cpI_o (by omega)]
  · rw [pw_rem_3 hx]; exact a4
  · rw [pw_n_c hT, pw_k_c hT]
    have ht' : (pw_g A 11 3).testBit i = true := by unfold pw_g at ht ⊢; rw [pw_rem_3 hx] at ht; exact ht
    exact pw_ev_c (fun c h1 h2 => pw_rem_o hx (by omega) (by omega)) (a5 i hi ht')
end
section
set_option maxHeartbeats 4000000 in
set_option maxRecDepth 100000 in
theorem c_copy_46_42 (mm : pw_m) : pw_Ct 0 yX0_copy m_X0_copy [.ref 46, .ref 42] mm (fun r m' => r = none ∧ m' = pw_cpI mm 46 42 6) := by
  refine pw_ct (by decide +kernel) rfl (Nat.le_of_ble_eq_true rfl) (fun x => ?_)
  generalize hZ : pw_Z x _ = Z
  have loop : ∀ i : Nat, i ≤ 6 → pw_V x m_X0_copy 0 Z 18 [(0, .ref 46), (1, .ref 42), (2, .int (nI i))] [] (pw_cpI mm 46 42 i) := by
    refine pw_dn 6 (fun i hi ih => ?_)
    refine pw_blk (pc' := 21) [.iload 2, .iconst (6)] (by decide +kernel) ?_
    show pw_V x m_X0_copy 0 Z 21 [(0, .ref 46), (1, .ref 42), (2, .int (nI i))] [.int (nI 6), .int (nI i)] (pw_cpI mm 46 42 i)
    refine pw_in_ge (tgt := 66) (off := 45) (by omega) (by omega) (by decide +kernel) (by decide) (fun h21 => ?_) (fun h21 => ?_)
    · rw [← hZ]
      refine pw_rv (by decide +kernel) ?_
      have e : i = 6 := by omega
      subst e
      exact ⟨rfl, rfl⟩
    · refine pw_blk (pc' := 63) [.aload 0, .getfield 2, .iload 2, .aload 1, .getfield 2, .iload 2, .iaload, .iastore, .aload 0, .getfield 3, .iload 2, .aload 1, .getfield 3, .iload 2, .iaload, .iastore, .aload 0, .getfield 4, .iload 2, .aload 1, .getfield 4, .iload 2, .iaload, .iastore, .iinc 2 1] (by decide +kernel) ?_
      refine ⟨i, rfl, by omega, ?_⟩
      refine ⟨i, rfl, by omega, ?_⟩
      refine ⟨i, rfl, by omega, ?_⟩
      refine ⟨i, rfl, by omega, ?_⟩
      refine ⟨i, rfl, by omega, ?_⟩
      refine ⟨i, rfl, by omega, ?_⟩
      show pw_V x m_X0_copy 0 Z 63 [(2, .int ((nI i) + (nI 1))), (0, .ref 46), (1, .ref 42)] [] (pw_up (pw_up (pw_up (pw_cpI mm 46 42 i) 47 i ((pw_cpI mm 46 42 i) 43 i)) 48 i ((pw_cpI mm 46 42 i) 44 i)) 49 i ((pw_cpI mm 46 42 i) 45 i))
      rw [show (nI i) + (nI 1) = nI (i + 1) from nI_add _ _]
      refine pw_goto (tgt := 18) (off := -45) (by decide +kernel) (by decide) ?_
      refine pw_lvp [1, 2, 0] rfl ?_
      have e := ih (by omega)
      rw [← pw_cpI_s (A := mm) (d := 46) (s := 42) (i := i) (by omega)] at e
      exact e
  show pw_V x m_X0_copy 0 Z 0 [(0, .ref 46), (1, .ref 42)] [] mm
  refine pw_blk (pc' := 18) [.aload 0, .aload 1, .getfield 0, .putfield 0, .aload 0, .aload 1, .getfield 1, .putfield 1, .iconst 0, .istore 2] (by decide +kernel) ?_
  show pw_V x m_X0_copy 0 Z 18 [(2, .int (nI 0)), (0, .ref 46), (1, .ref 42)] [] (pw_up (pw_up mm 46 0 (mm 42 0)) 46 1 (mm 42 1))
  refine pw_lvp [1, 2, 0] rfl ?_
  rw [pw_cpI_0 (A := mm) (d := 46) (s := 42) (by omega)]
  exact loop 0 (by omega)

set_option maxHeartbeats 4000000 in
set_option maxRecDepth 100000 in
theorem c_copy_50_42 (mm : pw_m) : pw_Ct 0 yX0_copy m_X0_copy [.ref 50, .ref 42] mm (fun r m' => r = none ∧ m' = pw_cpI mm 50 42 6) := by
  refine pw_ct (by decide +kernel) rfl (Nat.le_of_ble_eq_true rfl) (fun x => ?_)
  generalize hZ : pw_Z x _ = Z
  have loop : ∀ i : Nat, i ≤ 6 → pw_V x m_X0_copy 0 Z 18 [(0, .ref 50), (1, .ref 42), (2, .int (nI i))] [] (pw_cpI mm 50 42 i) := by
    refine pw_dn 6 (fun i hi ih => ?_)
    refine pw_blk (pc' := 21) [.iload 2, .iconst (6)] (by decide +kernel) ?_
    show pw_V x m_X0_copy 0 Z 21 [(0, .ref 50), (1, .ref 42), (2, .int (nI i))] [.int (nI 6), .int (nI i)] (pw_cpI mm 50 42 i)
    refine pw_in_ge (tgt := 66) (off := 45) (by omega) (by omega) (by decide +kernel) (by decide) (fun h21 => ?_) (fun h21 => ?_)
    · rw [← hZ]
      refine pw_rv (by decide +kernel) ?_
      have e : i = 6 := by omega
      subst e
      exact ⟨rfl, rfl⟩
    · refine pw_blk (pc' := 63) [.aload 0, .getfield 2, .iload 2, .aload 1, .getfield 2, .iload 2, .iaload, .iastore, .aload 0, .getfield 3, .iload 2, .aload 1, .getfield 3, .iload 2, .iaload, .iastore, .aload 0, .getfield 4, .iload 2, .aload 1, .getfield 4, .iload 2, .iaload, .iastore, .iinc 2 1] (by decide +kernel) ?_
      refine ⟨i, rfl, by omega, ?_⟩
      refine ⟨i, rfl, by omega, ?_⟩
      refine ⟨i, rfl, by omega, ?_⟩
      refine ⟨i, rfl, by omega, ?_⟩
      refine ⟨i, rfl, by omega, ?_⟩
      refine ⟨i, rfl, by omega, ?_⟩
      show pw_V x m_X0_copy 0 Z 63 [(2, .int ((nI i) + (nI 1))), (0, .ref 50), (1, .ref 42)] [] (pw_up (pw_up (pw_up (pw_cpI mm 50 42 i) 51 i ((pw_cpI mm 50 42 i) 43 i)) 52 i ((pw_cpI mm 50 42 i) 44 i)) 53 i ((pw_cpI mm 50 42 i) 45 i))
      rw [show (nI i) + (nI 1) = nI (i + 1) from nI_add _ _]
      refine pw_goto (tgt := 18) (off := -45) (by decide +kernel) (by decide) ?_
      refine pw_lvp [1, 2, 0] rfl ?_
      have e := ih (by omega)
      rw [← pw_cpI_s (A := mm) (d := 50) (s := 42) (i := i) (by omega)] at e
      exact e
  show pw_V x m_X0_copy 0 Z 0 [(0, .ref 50), (1, .ref 42)] [] mm
  refine pw_blk (pc' := 18) [.aload 0, .aload 1, .getfield 0, .putfield 0, .aload 0, .aload 1, .getfield 1, .putfield 1, .iconst 0, .istore 2] (by decide +kernel) ?_
  show pw_V x m_X0_copy 0 Z 18 [(2, .int (nI 0)), (0, .ref 50), (1, .ref 42)] [] (pw_up (pw_up mm 50 0 (mm 42 0)) 50 1 (mm 42 1))
  refine pw_lvp [1, 2, 0] rfl ?_
  rw [pw_cpI_0 (A := mm) (d := 50) (s := 42) (by omega)]
  exact loop 0 (by omega)

set_option maxHeartbeats 4000000 in
set_option maxRecDepth 100000 in
theorem c_copy_54_42 (mm : pw_m) : pw_Ct 0 yX0_copy m_X0_copy [.ref 54, .ref 42] mm (fun r m' => r = none ∧ m' = pw_cpI mm 54 42 6) := by
  refine pw_ct (by decide +kernel) rfl (Nat.le_of_ble_eq_true rfl) (fun x => ?_)
  generalize hZ : pw_Z x _ = Z
  have loop : ∀ i : Nat, i ≤ 6 → pw_V x m_X0_copy 0 Z 18 [(0, .ref 54), (1, .ref 42), (2, .int (nI i))] [] (pw_cpI mm 54 42 i) := by
    refine pw_dn 6 (fun i hi ih => ?_)
    refine pw_blk (pc' := 21) [.iload 2, .iconst (6)] (by decide +kernel) ?_
    show pw_V x m_X0_copy 0 Z 21 [(0, .ref 54), (1, .ref 42), (2, .int (nI i))] [.int (nI 6), .int (nI i)] (pw_cpI mm 54 42 i)
    refine pw_in_ge (tgt := 66) (off := 45) (by omega) (by omega) (by decide +kernel) (by decide) (fun h21 => ?_) (fun h21 => ?_)
    · rw [← hZ]
      refine pw_rv (by decide +kernel) ?_
      have e : i = 6 := by omega
      subst e
      exact ⟨rfl, rfl⟩
    · refine pw_blk (pc' := 63) [.aload 0, .getfield 2, .iload 2, .aload 1, .getfield 2, .iload 2, .iaload, .iastore, .aload 0, .getfield 3, .iload 2, .aload 1, .getfield 3, .iload 2, .iaload, .iastore, .aload 0, .getfield 4, .iload 2, .aload 1, .getfield 4, .iload 2, .iaload, .iastore, .iinc 2 1] (by decide +kernel) ?_
      refine ⟨i, rfl, by omega, ?_⟩
      refine ⟨i, rfl, by omega, ?_⟩
      refine ⟨i, rfl, by omega, ?_⟩
      refine ⟨i, rfl, by omega, ?_⟩
      refine ⟨i, rfl, by omega, ?_⟩
      refine ⟨i, rfl, by omega, ?_⟩
      show pw_V x m_X0_copy 0 Z 63 [(2, .int ((nI i) + (nI 1))), (0, .ref 54), (1, .ref 42)] [] (pw_up (pw_up (pw_up (pw_cpI mm 54 42 i) 55 i ((pw_cpI mm 54 42 i) 43 i)) 56 i ((pw_cpI mm 54 42 i) 44 i)) 57 i ((pw_cpI mm 54 42 i) 45 i))
      rw [show (nI i) + (nI 1) = nI (i + 1) from nI_add _ _]
      refine pw_goto (tgt := 18) (off := -45) (by decide +kernel) (by decide) ?_
      refine pw_lvp [1, 2, 0] rfl ?_
      have e := ih (by omega)
      rw [← pw_cpI_s (A := mm) (d := 54) (s := 42) (i := i) (by omega)] at e
      exact e
  show pw_V x m_X0_copy 0 Z 0 [(0, .ref 54), (1, .ref 42)] [] mm
  refine pw_blk (pc' := 18) [.aload 0, .aload 1, .getfield 0, .putfield 0, .aload 0, .aload 1, .getfield 1, .putfield 1, .iconst 0, .istore 2] (by decide +kernel) ?_
  show pw_V x m_X0_copy 0 Z 18 [(2, .int (nI 0)), (0, .ref 54), (1, .ref 42)] [] (pw_up (pw_up mm 54 0 (mm 42 0)) 54 1 (mm 42 1))
  refine pw_lvp [1, 2, 0] rfl ?_
  rw [pw_cpI_0 (A := mm) (d := 54) (s := 42) (by omega)]
  exact loop 0 (by omega)

set_option maxHeartbeats 4000000 in
set_option maxRecDepth 100000 in
theorem c_copy_58_42 (mm : pw_m) : pw_Ct 0 yX0_copy m_X0_copy [.ref 58, .ref 42] mm (fun r m' => r = none ∧ m' = pw_cpI mm 58 42 6) := by
  refine pw_ct (by decide +kernel) rfl (Nat.le_of_ble_eq_true rfl) (fun x => ?_)
  generalize hZ : pw_Z x _ = Z
  have loop : ∀ i : Nat, i ≤ 6 → pw_V x m_X0_copy 0 Z 18 [(0, .ref 58), (1, .ref 42), (2, .int (nI i))] [] (pw_cpI mm 58 42 i) := by
    refine pw_dn 6 (fun i hi ih => ?_)
    refine pw_blk (pc' := 21) [.iload 2, .iconst (6)] (by decide +kernel) ?_
    show pw_V x m_X0_copy 0 Z 21 [(0, .ref 58), (1, .ref 42), (2, .int (nI i))] [.int (nI 6), .int (nI i)] (pw_cpI mm 58 42 i)
    refine pw_in_ge (tgt := 66) (off := 45) (by omega) (by omega) (by decide +kernel) (by decide) (fun h21 => ?_) (fun h21 => ?_)
    · rw [← hZ]
      refine pw_rv (by decide +kernel) ?_
      have e : i = 6 := by omega
      subst e
      exact ⟨rfl, rfl⟩
    · refine pw_blk (pc' := 63) [.aload 0, .getfield 2, .iload 2, .aload 1, .getfield 2, .iload 2, .iaload, .iastore, .aload 0, .getfield 3, .iload 2, .aload 1, .getfield 3, .iload 2, .iaload, .iastore, .aload 0, .getfield 4, .iload 2, .aload 1, .getfield 4, .iload 2, .iaload, .iastore, .iinc 2 1] (by decide +kernel) ?_
      refine ⟨i, rfl, by omega, ?_⟩
      refine ⟨i, rfl, by omega, ?_⟩
      refine ⟨i, rfl, by omega, ?_⟩
      refine ⟨i, rfl, by omega, ?_⟩
      refine ⟨i, rfl, by omega, ?_⟩
      refine ⟨i, rfl, by omega, ?_⟩
      show pw_V x m_X0_copy 0 Z 63 [(2, .int ((nI i) + (nI 1))), (0, .ref 58), (1, .ref 42)] [] (pw_up (pw_up (pw_up (pw_cpI mm 58 42 i) 59 i ((pw_cpI mm 58 42 i) 43 i)) 60 i ((pw_cpI mm 58 42 i) 44 i)) 61 i ((pw_cpI mm 58 42 i) 45 i))
      rw [show (nI i) + (nI 1) = nI (i + 1) from nI_add _ _]
      refine pw_goto (tgt := 18) (off := -45) (by decide +kernel) (by decide) ?_
      refine pw_lvp [1, 2, 0] rfl ?_
      have e := ih (by omega)
      rw [← pw_cpI_s (A := mm) (d := 58) (s := 42) (i := i) (by omega)] at e
      exact e
  show pw_V x m_X0_copy 0 Z 0 [(0, .ref 58), (1, .ref 42)] [] mm
  refine pw_blk (pc' := 18) [.aload 0, .aload 1, .getfield 0, .putfield 0, .aload 0, .aload 1, .getfield 1, .putfield 1, .iconst 0, .istore 2] (by decide +kernel) ?_
  show pw_V x m_X0_copy 0 Z 18 [(2, .int (nI 0)), (0, .ref 58), (1, .ref 42)] [] (pw_up (pw_up mm 58 0 (mm 42 0)) 58 1 (mm 42 1))
  refine pw_lvp [1, 2, 0] rfl ?_
  rw [pw_cpI_0 (A := mm) (d := 58) (s := 42) (by omega)]
  exact loop 0 (by omega)

set_option maxHeartbeats 4000000 in
set_option maxRecDepth 100000 in
theorem c_copy_62_42 (mm : pw_m) : pw_Ct 0 yX0_copy m_X0_copy [.ref 62, .ref 42] mm (fun r m' => r = none ∧ m' = pw_cpI mm 62 42 6) := by
  refine pw_ct (by decide +kernel) rfl (Nat.le_of_ble_eq_true rfl) (fun x => ?_)
  generalize hZ : pw_Z x _ = Z
  have loop : ∀ i : Nat, i ≤ 6 → pw_V x m_X0_copy 0 Z 18 [(0, .ref 62), (1, .ref 42), (2, .int (nI i))] [] (pw_cpI mm 62 42 i) := by
    refine pw_dn 6 (fun i hi ih => ?_)
    refine pw_blk (pc' := 21) [.iload 2, .iconst (6)] (by decide +kernel) ?_
    show pw_V x m_X0_copy 0 Z 21 [(0, .ref 62), (1, .ref 42), (2, .int (nI i))] [.int (nI 6), .int (nI i)] (pw_cpI mm 62 42 i)
    refine pw_in_ge (tgt := 66) (off := 45) (by omega) (by omega) (by decide +kernel) (by decide) (fun h21 => ?_) (fun h21 => ?_)
    · rw [← hZ]
      refine pw_rv (by decide +kernel) ?_
      have e : i = 6 := by omega
      subst e
      exact ⟨rfl, rfl⟩
    · refine pw_blk (pc' := 63) [.aload 0, .getfield 2, .iload 2, .aload 1, .getfield 2, .iload 2, .iaload, .iastore, .aload 0, .getfield 3, .iload 2, .aload 1, .getfield 3, .iload 2, .iaload, .iastore, .aload 0, .getfield 4, .iload 2, .aload 1, .getfield 4, .iload 2, .iaload, .iastore, .iinc 2 1] (by decide +kernel) ?_
      refine ⟨i, rfl, by omega, ?_⟩
      refine ⟨i, rfl, by omega, ?_⟩
      refine ⟨i, rfl, by omega, ?_⟩
      refine ⟨i, rfl, by omega, ?_⟩
      refine ⟨i, rfl, by omega, ?_⟩
      refine ⟨i, rfl, by omega, ?_⟩
      show pw_V x m_X0_copy 0 Z 63 [(2, .int ((nI i) + (nI 1))), (0, .ref 62), (1, .ref 42)] [] (pw_up (pw_up (pw_up (pw_cpI mm 62 42 i) 63 i ((pw_cpI mm 62 42 i) 43 i)) 64 i ((pw_cpI mm 62 42 i) 44 i)) 65 i ((pw_cpI mm 62 42 i) 45 i))
      rw [show (nI i) + (nI 1) = nI (i + 1) from nI_add _ _]
      refine pw_goto (tgt := 18) (off := -45) (by decide +kernel) (by decide) ?_
      refine pw_lvp [1, 2, 0] rfl ?_
      have e := ih (by omega)
      rw [← pw_cpI_s (A := mm) (d := 62) (s := 42) (i := i) (by omega)] at e
      exact e
  show pw_V x m_X0_copy 0 Z 0 [(0, .ref 62), (1, .ref 42)] [] mm
  refine pw_blk (pc' := 18) [.aload 0, .aload 1, .getfield 0, .putfield 0, .aload 0, .aload 1, .getfield 1, .putfield 1, .iconst 0, .istore 2] (by decide +kernel) ?_
  show pw_V x m_X0_copy 0 Z 18 [(2, .int (nI 0)), (0, .ref 62), (1, .ref 42)] [] (pw_up (pw_up mm 62 0 (mm 42 0)) 62 1 (mm 42 1))
  refine pw_lvp [1, 2, 0] rfl ?_
  rw [pw_cpI_0 (A := mm) (d := 62) (s := 42) (by omega)]
  exact loop 0 (by omega)

set_option maxHeartbeats 4000000 in
set_option maxRecDepth 100000 in
theorem c_copy_66_42 (mm : pw_m) : pw_Ct 0 yX0_copy m_X0_copy [.ref 66, .ref 42] mm (fun r m' => r = none ∧ m' = pw_cpI mm 66 42 6) := by
  refine pw_ct (by decide +kernel) rfl (Nat.le_of_ble_eq_true rfl) (fun x => ?_)
  generalize hZ : pw_Z x _ = Z
  have loop : ∀ i : Nat, i ≤ 6 → pw_V x m_X0_copy 0 Z 18 [(0, .ref 66), (1, .ref 42), (2, .int (nI i))] [] (pw_cpI mm 66 42 i) := by
    refine pw_dn 6 (fun i hi ih => ?_)
    refine pw_blk (pc' := 21) [.iload 2, .iconst (6)] (by decide +kernel) ?_
    show pw_V x m_X0_copy 0 Z 21 [(0, .ref 66), (1, .ref 42), (2, .int (nI i))] [.int (nI 6), .int (nI i)] (pw_cpI mm 66 42 i)
    refine pw_in_ge (tgt := 66) (off := 45) (by omega) (by omega) (by decide +kernel) (by decide) (fun h21 => ?_) (fun h21 => ?_)
    · rw [← hZ]
      refine pw_rv (by decide +kernel) ?_
      have e : i = 6 := by omega
      subst e
      exact ⟨rfl, rfl⟩
    · refine pw_blk (pc' := 63) [.aload 0, .getfield 2, .iload 2, .aload 1, .getfield 2, .iload 2, .iaload, .iastore, .aload 0, .getfield 3, .iload 2, .aload 1, .getfield 3, .iload 2, .iaload, .iastore, .aload 0, .getfield 4, .iload 2, .aload 1, .getfield 4, .iload 2, .iaload, .iastore, .iinc 2 1] (by decide +kernel) ?_
      refine ⟨i, rfl, by omega, ?_⟩
      refine ⟨i, rfl, by omega, ?_⟩
      refine ⟨i, rfl, by omega, ?_⟩
      refine ⟨i, rfl, by omega, ?_⟩
      refine ⟨i, rfl, by omega, ?_⟩
      refine ⟨i, rfl, by omega, ?_⟩
      show pw_V x m_X0_copy 0 Z 63 [(2, .int ((nI i) + (nI 1))), (0, .ref 66), (1, .ref 42)] [] (pw_up (pw_up (pw_up (pw_cpI mm 66 42 i) 67 i ((pw_cpI mm 66 42 i) 43 i)) 68 i ((pw_cpI mm 66 42 i) 44 i)) 69 i ((pw_cpI mm 66 42 i) 45 i))
      rw [show (nI i) + (nI 1) = nI (i + 1) from nI_add _ _]
      refine pw_goto (tgt := 18) (off := -45) (by decide +kernel) (by decide) ?_
      refine pw_lvp [1, 2, 0] rfl ?_
      have e := ih (by omega)
      rw [← pw_cpI_s (A := mm) (d := 66) (s := 42) (i := i) (by omega)] at e
      exact e
  show pw_V x m_X0_copy 0 Z 0 [(0, .ref 66), (1, .ref 42)] [] mm
  refine pw_blk (pc' := 18) [.aload 0, .aload 1, .getfield 0, .putfield 0, .aload 0, .aload 1, .getfield 1, .putfield 1, .iconst 0, .istore 2] (by decide +kernel) ?_
  show pw_V x m_X0_copy 0 Z 18 [(2, .int (nI 0)), (0, .ref 66), (1, .ref 42)] [] (pw_up (pw_up mm 66 0 (mm 42 0)) 66 1 (mm 42 1))
  refine pw_lvp [1, 2, 0] rfl ?_
  rw [pw_cpI_0 (A := mm) (d := 66) (s := 42) (by omega)]
  exact loop 0 (by omega)

set_option maxHeartbeats 4000000 in
set_option maxRecDepth 100000 in
theorem c_copy_70_42 (mm : pw_m) : pw_Ct 0 yX0_copy m_X0_copy [.ref 70, .ref 42] mm (fun r m' => r = none ∧ m' = pw_cpI mm 70 42 6) := by
  refine pw_ct (by decide +kernel) rfl (Nat.le_of_ble_eq_true rfl) (fun x => ?_)
  generalize hZ : pw_Z x _ = Z
  have loop : ∀ i : Nat, i ≤ 6 → pw_V x m_X0_copy 0 Z 18 [(0, .ref 70), (1, .ref 42), (2, .int (nI i))] [] (pw_cpI mm 70 42 i) := by
    refine pw_dn 6 (fun i hi ih => ?_)
    refine pw_blk (pc' := 21) [.iload 2, .iconst (6)] (by decide +kernel) ?_
    show pw_V x m_X0_copy 0 Z 21 [(0, .ref 70), (1, .ref 42), (2, .int (nI i))] [.int (nI 6), .int (nI i)] (pw_cpI mm 70 42 i)
    refine pw_in_ge (tgt := 66) (off := 45) (by omega) (by omega) (by decide +kernel) (by decide) (fun h21 => ?_) (fun h21 => ?_)
    · rw [← hZ]
      refine pw_rv (by decide +kernel) ?_
      have e : i = 6 := by omega
      subst e
      exact ⟨rfl, rfl⟩
    · refine pw_blk (pc' := 63) [.aload 0, .getfield 2, .iload 2, .aload 1, .getfield 2, .iload 2, .iaload, .iastore, .aload 0, .getfield 3, .iload 2, .aload 1, .getfield 3, .iload 2, .iaload, .iastore, .aload 0, .getfield 4, .iload 2, .aload 1, .getfield 4, .iload 2, .iaload, .iastore, .iinc 2 1] (by decide +kernel) ?_
      refine ⟨i, rfl, by omega, ?_⟩
      refine ⟨i, rfl, by omega, ?_⟩
      refine ⟨i, rfl, by omega, ?_⟩
      refine ⟨i, rfl, by omega, ?_⟩
      refine ⟨i, rfl, by omega, ?_⟩
      refine ⟨i, rfl, by omega, ?_⟩
      show pw_V x m_X0_copy 0 Z 63 [(2, .int ((nI i) + (nI 1))), (0, .ref 70), (1, .ref 42)] [] (pw_up (pw_up (pw_up (pw_cpI mm 70 42 i) 71 i ((pw_cpI mm 70 42 i) 43 i)) 72 i ((pw_cpI mm 70 42 i) 44 i)) 73 i ((pw_cpI mm 70 42 i) 45 i))
      rw [show (nI i) + (nI 1) = nI (i + 1) from nI_add _ _]
      refine pw_goto (tgt := 18) (off := -45) (by decide +kernel) (by decide) ?_
      refine pw_lvp [1, 2, 0] rfl ?_
      have e := ih (by omega)
      rw [← pw_cpI_s (A := mm) (d := 70) (s := 42) (i := i) (by omega)] at e
      exact e
  show pw_V x m_X0_copy 0 Z 0 [(0, .ref 70), (1, .ref 42)] [] mm
  refine pw_blk (pc' := 18) [.aload 0, .aload 1, .getfield 0, .putfield 0, .aload 0, .aload 1, .getfield 1, .putfield 1, .iconst 0, .istore 2] (by decide +kernel) ?_
  show pw_V x m_X0_copy 0 Z 18 [(2, .int (nI 0)), (0, .ref 70), (1, .ref 42)] [] (pw_up (pw_up mm 70 0 (mm 42 0)) 70 1 (mm 42 1))
  refine pw_lvp [1, 2, 0] rfl ?_
  rw [pw_cpI_0 (A := mm) (d := 70) (s := 42) (by omega)]
  exact loop 0 (by omega)

set_option maxHeartbeats 4000000 in
set_option maxRecDepth 100000 in
theorem c_copy_74_42 (mm : pw_m) : pw_Ct 0 yX0_copy m_X0_copy [.ref 74, .ref 42] mm (fun r m' => r = none ∧ m' = pw_cpI mm 74 42 6) := by
  refine pw_ct (by decide +kernel) rfl (Nat.le_of_ble_eq_true rfl) (fun x => ?_)
  generalize hZ : pw_Z x _ = Z
  have loop : ∀ i : Nat, i ≤ 6 → pw_V x m_X0_copy 0 Z 18 [(0, .ref 74), (1, .ref 42), (2, .int (nI i))] [] (pw_cpI mm 74 42 i) := by
    refine pw_dn 6 (fun i hi ih => ?_)
    refine pw_blk (pc' := 21) [.iload 2, .iconst (6)] (by decide +kernel) ?_
    show pw_V x m_X0_copy 0 Z 21 [(0, .ref 74), (1, .ref 42), (2, .int (nI i))] [.int (nI 6), .int (nI i)] (pw_cpI mm 74 42 i)
    refine pw_in_ge (tgt := 66) (off := 45) (by omega) (by omega) (by decide +kernel) (by decide) (fun h21 => ?_) (fun h21 => ?_)
    · rw [← hZ]
      refine pw_rv (by decide +kernel) ?_
      have e : i = 6 := by omega
      subst e
      exact ⟨rfl, rfl⟩
    · refine pw_blk (pc' := 63) [.aload 0, .getfield 2, .iload 2, .aload 1, .getfield 2, .iload 2, .iaload, .iastore, .aload 0, .getfield 3, .iload 2, .aload 1, .getfield 3, .iload 2, .iaload, .iastore, .aload 0, .getfield 4, .iload 2, .aload 1, .getfield 4, .iload 2, .iaload, .iastore, .iinc 2 1] (by decide +kernel) ?_
      refine ⟨i, rfl, by omega, ?_⟩
      refine ⟨i, rfl, by omega, ?_⟩
      refine ⟨i, rfl, by omega, ?_⟩
      refine ⟨i, rfl, by omega, ?_⟩
      refine ⟨i, rfl, by omega, ?_⟩
      refine ⟨i, rfl, by omega, ?_⟩
      show pw_V x m_X0_copy 0 Z 63 [(2, .int ((nI i) + (nI 1))), (0, .ref 74), (1, .ref 42)] [] (pw_up (pw_up (pw_up (pw_cpI mm 74 42 i) 75 i ((pw_cpI mm 74 42 i) 43 i)) 76 i ((pw_cpI mm 74 42 i) 44 i)) 77 i ((pw_cpI mm 74 42 i) 45 i))
      rw [show (nI i) + (nI 1) = nI (i + 1) from nI_add _ _]
      refine pw_goto (tgt := 18) (off := -45) (by decide +kernel) (by decide) ?_
      refine pw_lvp [1, 2, 0] rfl ?_
      have e := ih (by omega)
      rw [← pw_cpI_s (A := mm) (d := 74) (s := 42) (i := i) (by omega)] at e
      exact e
  show pw_V x m_X0_copy 0 Z 0 [(0, .ref 74), (1, .ref 42)] [] mm
  refine pw_blk (pc' := 18) [.aload 0, .aload 1, .getfield 0, .putfield 0, .aload 0, .aload 1, .getfield 1, .putfield 1, .iconst 0, .istore 2] (by decide +kernel) ?_
  show pw_V x m_X0_copy 0 Z 18 [(2, .int (nI 0)), (0, .ref 74), (1, .ref 42)] [] (pw_up (pw_up mm 74 0 (mm 42 0)) 74 1 (mm 42 1))
  refine pw_lvp [1, 2, 0] rfl ?_
  rw [pw_cpI_0 (A := mm) (d := 74) (s := 42) (by omega)]
  exact loop 0 (by omega)

set_option maxHeartbeats 4000000 in
set_option maxRecDepth 100000 in
theorem c_copy_42_46 (mm : pw_m) : pw_Ct 0 yX0_copy m_X0_copy [.ref 42, .ref 46] mm (fun r m' => r = none ∧ m' = pw_cpI mm 42 46 6) := by
  refine pw_ct (by decide +kernel) rfl (Nat.le_of_ble_eq_true rfl) (fun x => ?_)
  generalize hZ : pw_Z x _ = Z
  have loop : ∀ i : Nat, i ≤ 6 → pw_V x m_X0_copy 0 Z 18 [(0, .ref 42), (1, .ref 46), (2, .int (nI i))] [] (pw_cpI mm 42 46 i) := by
    refine pw_dn 6 (fun i hi ih => ?_)
    refine pw_blk (pc' := 21) [.iload 2, .iconst (6)] (by decide +kernel) ?_
    show pw_V x m_X0_copy 0 Z 21 [(0, .ref 42), (1, .ref 46), (2, .int (nI i))] [.int (nI 6), .int (nI i)] (pw_cpI mm 42 46 i)
    refine pw_in_ge (tgt := 66) (off := 45) (by omega) (by omega) (by decide +kernel) (by decide) (fun h21 => ?_) (fun h21 => ?_)
    · rw [← hZ]
      refine pw_rv (by decide +kernel) ?_
      have e : i = 6 := by omega
      subst e
      exact ⟨rfl, rfl⟩
    · refine pw_blk (pc' := 63) [.aload 0, .getfield 2, .iload 2, .aload 1, .getfield 2, .iload 2, .iaload, .iastore, .aload 0, .getfield 3, .iload 2, .aload 1, .getfield 3, .iload 2, .iaload, .iastore, .aload 0, .getfield 4, .iload 2, .aload 1, .getfield 4, .iload 2, .iaload, .iastore, .iinc 2 1] (by decide +kernel) ?_
      refine ⟨i, rfl, by omega, ?_⟩
      refine ⟨i, rfl, by omega, ?_⟩
      refine ⟨i, rfl, by omega, ?_⟩
      refine ⟨i, rfl, by omega, ?_⟩
      refine ⟨i, rfl, by omega, ?_⟩
      refine ⟨i, rfl, by omega, ?_⟩
      show pw_V x m_X0_copy 0 Z 63 [(2, .int ((nI i) + (nI 1))), (0, .ref 42), (1, .ref 46)] [] (pw_up (pw_up (pw_up (pw_cpI mm 42 46 i) 43 i ((pw_cpI mm 42 46 i) 47 i)) 44 i ((pw_cpI mm 42 46 i) 48 i)) 45 i ((pw_cpI mm 42 46 i) 49 i))
      rw [show (nI i) + (nI 1) = nI (i + 1) from nI_add _ _]
      refine pw_goto (tgt := 18) (off := -45) (by decide +kernel) (by decide) ?_
      refine pw_lvp [1, 2, 0] rfl ?_
      have e := ih (by omega)
      rw [← pw_cpI_s (A := mm) (d := 42) (s := 46) (i := i) (by omega)] at e
      exact e
  show pw_V x m_X0_copy 0 Z 0 [(0, .ref 42), (1, .ref 46)] [] mm
  refine pw_blk (pc' := 18) [.aload 0, .aload 1, .getfield 0, .putfield 0, .aload 0, .aload 1, .getfield 1, .putfield 1, .iconst 0, .istore 2] (by decide +kernel) ?_
  show pw_V x m_X0_copy 0 Z 18 [(2, .int (nI 0)), (0, .ref 42), (1, .ref 46)] [] (pw_up (pw_up mm 42 0 (mm 46 0)) 42 1 (mm 46 1))
  refine pw_lvp [1, 2, 0] rfl ?_
  rw [pw_cpI_0 (A := mm) (d := 42) (s := 46) (by omega)]
  exact loop 0 (by omega)

set_option maxHeartbeats 4000000 in
set_option maxRecDepth 100000 in
theorem c_copy_42_50 (mm : pw_m) : pw_Ct 0 yX0_copy m_X0_copy [.ref 42, .ref 50] mm (fun r m' => r = none ∧ m' = pw_cpI mm 42 50 6) := by
  refine pw_ct (by decide +kernel) rfl (Nat.le_of_ble_eq_true rfl) (fun x => ?_)
  generalize hZ : pw_Z x _ = Z
  have loop : ∀ i : Nat, i ≤ 6 → pw_V x m_X0_copy 0 Z 18 [(0, .ref 42), (1, .ref 50), (2, .int (nI i))] [] (pw_cpI mm 42 50 i) := by
    refine pw_dn 6 (fun i hi ih => ?_)
    refine pw_blk (pc' := 21) [.iload 2, .iconst (6)] (by decide +kernel) ?_
    show pw_V x m_X0_copy 0 Z 21 [(0, .ref 42), (1, .ref 50), (2, .int (nI i))] [.int (nI 6), .int (nI i)] (pw_cpI mm 42 50 i)
    refine pw_in_ge (tgt := 66) (off := 45) (by omega) (by omega) (by decide +kernel) (by decide) (fun h21 => ?_) (fun h21 => ?_)
    · rw [← hZ]
      refine pw_rv (by decide +kernel) ?_
      have e : i = 6 := by omega
      subst e
      exact ⟨rfl, rfl⟩
    · refine pw_blk (pc' := 63) [.aload 0, .getfield 2, .iload 2, .aload 1, .getfield 2, .iload 2, .iaload, .iastore, .aload 0, .getfield 3, .iload 2, .aload 1, .getfield 3, .iload 2, .iaload, .iastore, .aload 0, .getfield 4, .iload 2, .aload 1, .getfield 4, .iload 2, .iaload, .iastore, .iinc 2 1] (by decide +kernel) ?_
      refine ⟨i, rfl, by omega, ?_⟩
      refine ⟨i, rfl, by omega, ?_⟩
      refine ⟨i, rfl, by omega, ?_⟩
      refine ⟨i, rfl, by omega, ?_⟩
      refine ⟨i, rfl, by omega, ?_⟩
      refine ⟨i, rfl, by omega, ?_⟩
      show pw_V x m_X0_copy 0 Z 63 [(2, .int ((nI i) + (nI 1))), (0, .ref 42), (1, .ref 50)] [] (pw_up (pw_up (pw_up (pw_cpI mm 42 50 i) 43 i ((pw_cpI mm 42 50 i) 51 i)) 44 i ((pw_cpI mm 42 50 i) 52 i)) 45 i ((pw_cpI mm 42 50 i) 53 i))
      rw [show (nI i) + (nI 1) = nI (i + 1) from nI_add _ _]
      refine pw_goto (tgt := 18) (off := -45) (by decide +kernel) (by decide) ?_
      refine pw_lvp [1, 2, 0] rfl ?_
      have e := ih (by omega)
      rw [← pw_cpI_s (A := mm) (d := 42) (s := 50) (i := i) (by omega)] at e
      exact e
  show pw_V x m_X0_copy 0 Z 0 [(0, .ref 42), (1, .ref 50)] [] mm
  refine pw_blk (pc' := 18) [.aload 0, .aload 1, .getfield 0, .putfield 0, .aload 0, .aload 1, .getfield 1, .putfield 1, .iconst 0, .istore 2] (by decide +kernel) ?_
  show pw_V x m_X0_copy 0 Z 18 [(2, .int (nI 0)), (0, .ref 42), (1, .ref 50)] [] (pw_up (pw_up mm 42 0 (mm 50 0)) 42 1 (mm 50 1))
  refine pw_lvp [1, 2, 0] rfl ?_
  rw [pw_cpI_0 (A := mm) (d := 42) (s := 50) (by omega)]
  exact loop 0 (by omega)

set_option maxHeartbeats 4000000 in
set_option maxRecDepth 100000 in
theorem c_copy_42_54 (mm : pw_m) : pw_Ct 0 yX0_copy m_X0_copy [.ref 42, .ref 54] mm (fun r m' => r = none ∧ m' = pw_cpI mm 42 54 6) := by
  refine pw_ct (by decide +kernel) rfl (Nat.le_of_ble_eq_true rfl) (fun x => ?_)
  generalize hZ : pw_Z x _ = Z
  have loop : ∀ i : Nat, i ≤ 6 → pw_V x m_X0_copy 0 Z 18 [(0, .ref 42), (1, .ref 54), (2, .int (nI i))] [] (pw_cpI mm 42 54 i) := by
    refine pw_dn 6 (fun i hi ih => ?_)
    refine pw_blk (pc' := 21) [.iload 2, .iconst (6)] (by decide +kernel) ?_
    show pw_V x m_X0_copy 0 Z 21 [(0, .ref 42), (1, .ref 54), (2, .int (nI i))] [.int (nI 6), .int (nI i)] (pw_cpI mm 42 54 i)
    refine pw_in_ge (tgt := 66) (off := 45) (by omega) (by omega) (by decide +kernel) (by decide) (fun h21 => ?_) (fun h21 => ?_)
    · rw [← hZ]
      refine pw_rv (by decide +kernel) ?_
      have e : i = 6 := by omega
      subst e
      exact ⟨rfl, rfl⟩
    · refine pw_blk (pc' := 63) [.aload 0, .getfield 2, .iload 2, .aload 1, .getfield 2, .iload 2, .iaload, .iastore, .aload 0, .getfield 3, .iload 2, .aload 1, .getfield 3, .iload 2, .iaload, .iastore, .aload 0, .getfield 4, .iload 2, .aload 1, .getfield 4, .iload 2, .iaload, .iastore, .iinc 2 1] (by decide +kernel) ?_
      refine ⟨i, rfl, by omega, ?_⟩
      refine ⟨i, rfl, by omega, ?_⟩
      refine ⟨i, rfl, by omega, ?_⟩
      refine ⟨i, rfl, by omega, ?_⟩
      refine ⟨i, rfl, by omega, ?_⟩
      refine ⟨i, rfl, by omega, ?_⟩
      show pw_V x m_X0_copy 0 Z 63 [(2, .int ((nI i) + (nI 1))), (0, .ref 42), (1, .ref 54)] [] (pw_up (pw_up (pw_up (pw_cpI mm 42 54 i) 43 i ((pw_cpI mm 42 54 i) 55 i)) 44 i ((pw_cpI mm 42 54 i) 56 i)) 45 i ((pw_cpI mm 42 54 i) 57 i))
      rw [show (nI i) + (nI 1) = nI (i + 1) from nI_add _ _]
      refine pw_goto (tgt := 18) (off := -45) (by decide +kernel) (by decide) ?_
      refine pw_lvp [1, 2, 0] rfl ?_
      have e := ih (by omega)
      rw [← pw_cpI_s (A := mm) (d := 42) (s := 54) (i := i) (by omega)] at e
      exact e
  show pw_V x m_X0_copy 0 Z 0 [(0, .ref 42), (1, .ref 54)] [] mm
  refine pw_blk (pc' := 18) [.aload 0, .aload 1, .getfield 0, .putfield 0, .aload 0, .aload 1, .getfield 1, .putfield 1, .iconst 0, .istore 2] (by decide +kernel) ?_
  show pw_V x m_X0_copy 0 Z 18 [(2, .int (nI 0)), (0, .ref 42), (1, .ref 54)] [] (pw_up (pw_up mm 42 0 (mm 54 0)) 42 1 (mm 54 1))
  refine pw_lvp [1, 2, 0] rfl ?_
  rw [pw_cpI_0 (A := mm) (d := 42) (s := 54) (by omega)]
  exact loop 0 (by omega)

set_option maxHeartbeats 4000000 in
set_option maxRecDepth 100000 in
theorem c_copy_42_58 (mm : pw_m) : pw_Ct 0 yX0_copy m_X0_copy [.ref 42, .ref 58] mm (fun r m' => r = none ∧ m' = pw_cpI mm 42 58 6) := by
  refine pw_ct (by decide +kernel) rfl (Nat.le_of_ble_eq_true rfl) (fun x => ?_)
  generalize hZ : pw_Z x _ = Z
  have loop : ∀ i : Nat, i ≤ 6 → pw_V x m_X0_copy 0 Z 18 [(0, .ref 42), (1, .ref 58), (2, .int (nI i))] [] (pw_cpI mm 42 58 i) := by
    refine pw_dn 6 (fun i hi ih => ?_)
    refine pw_blk (pc' := 21) [.iload 2, .iconst (6)] (by decide +kernel) ?_
    show pw_V x m_X0_copy 0 Z 21 [(0, .ref 42), (1, .ref 58), (2, .int (nI i))] [.int (nI 6), .int (nI i)] (pw_cpI mm 42 58 i)
    refine pw_in_ge (tgt := 66) (off := 45) (by omega) (by omega) (by decide +kernel) (by decide) (fun h21 => ?_) (fun h21 => ?_)
    · rw [← hZ]
      refine pw_rv (by decide +kernel) ?_
      have e : i = 6 := by omega
      subst e
      exact ⟨rfl, rfl⟩
    · refine pw_blk (pc' := 63) [.aload 0, .getfield 2, .iload 2, .aload 1, .getfield 2, .iload 2, .iaload, .iastore, .aload 0, .getfield 3, .iload 2, .aload 1, .getfield 3, .iload 2, .iaload, .iastore, .aload 0, .getfield 4, .iload 2, .aload 1, .getfield 4, .iload 2, .iaload, .iastore, .iinc 2 1] (by decide +kernel) ?_
      refine ⟨i, rfl, by omega, ?_⟩
      refine ⟨i, rfl, by omega, ?_⟩
      refine ⟨i, rfl, by omega, ?_⟩
      refine ⟨i, rfl, by omega, ?_⟩
      refine ⟨i, rfl, by omega, ?_⟩
      refine ⟨i, rfl, by omega, ?_⟩
      show pw_V x m_X0_copy 0 Z 63 [(2, .int ((nI i) + (nI 1))), (0, .ref 42), (1, .ref 58)] [] (pw_up (pw_up (pw_up (pw_cpI mm 42 58 i) 43 i ((pw_cpI mm 42 58 i) 59 i)) 44 i ((pw_cpI mm 42 58 i) 60 i)) 45 i ((pw_cpI mm 42 58 i) 61 i))
      rw [show (nI i) + (nI 1) = nI (i + 1) from nI_add _ _]
      refine pw_goto (tgt := 18) (off := -45) (by decide +kernel) (by decide) ?_
      refine pw_lvp [1, 2, 0] rfl ?_
      have e := ih (by omega)
      rw [← pw_cpI_s (A := mm) (d := 42) (s := 58) (i := i) (by omega)] at e
      exact e
  show pw_V x m_X0_copy 0 Z 0 [(0, .ref 42), (1, .ref 58)] [] mm
  refine pw_blk (pc' := 18) [.aload 0, .aload 1, .getfield 0, .putfield 0, .aload 0, .aload 1, .getfield 1, .putfield 1, .iconst 0, .istore 2] (by decide +kernel) ?_
  show pw_V x m_X0_copy 0 Z 18 [(2, .int (nI 0)), (0, .ref 42), (1, .ref 58)] [] (pw_up (pw_up mm 42 0 (mm 58 0)) 42 1 (mm 58 1))
  refine pw_lvp [1, 2, 0] rfl ?_
  rw [pw_cpI_0 (A := mm) (d := 42) (s := 58) (by omega)]
  exact loop 0 (by omega)

set_option maxHeartbeats 4000000 in
set_option maxRecDepth 100000 in
theorem c_copy_42_62 (mm : pw_m) : pw_Ct 0 yX0_copy m_X0_copy [.ref 42, .ref 62] mm (fun r m' => r = none ∧ m' = pw_cpI mm 42 62 6) := by
  refine pw_ct (by decide +kernel) rfl (Nat.le_of_ble_eq_true rfl) (fun x => ?_)
  generalize hZ : pw_Z x _ = Z
  have loop : ∀ i : Nat, i ≤ 6 → pw_V x m_X0_copy 0 Z 18 [(0, .ref 42), (1, .ref 62), (2, .int (nI i))] [] (pw_cpI mm 42 62 i) := by
    refine pw_dn 6 (fun i hi ih => ?_)
    refine pw_blk (pc' := 21) [.iload 2, .iconst (6)] (by decide +kernel) ?_
    show pw_V x m_X0_copy 0 Z 21 [(0, .ref 42), (1, .ref 62), (2, .int (nI i))] [.int (nI 6), .int (nI i)] (pw_cpI mm 42 62 i)
    refine pw_in_ge (tgt := 66) (off := 45) (by omega) (by omega) (by decide +kernel) (by decide) (fun h21 => ?_) (fun h21 => ?_)
    · rw [← hZ]
      refine pw_rv (by decide +kernel) ?_
      have e : i = 6 := by omega
      subst e
      exact ⟨rfl, rfl⟩
    · refine pw_blk (pc' := 63) [.aload 0, .getfield 2, .iload 2, .aload 1, .getfield 2, .iload 2, .iaload, .iastore, .aload 0, .getfield 3, .iload 2, .aload 1, .getfield 3, .iload 2, .iaload, .iastore, .aload 0, .getfield 4, .iload 2, .aload 1, .getfield 4, .iload 2, .iaload, .iastore, .iinc 2 1] (by decide +kernel) ?_
      refine ⟨i, rfl, by omega, ?_⟩
      refine ⟨i, rfl, by omega, ?_⟩
      refine ⟨i, rfl, by omega, ?_⟩
      refine ⟨i, rfl, by omega, ?_⟩
      refine ⟨i, rfl, by omega, ?_⟩
      refine ⟨i, rfl, by omega, ?_⟩
      show pw_V x m_X0_copy 0 Z 63 [(2, .int ((nI i) + (nI 1))), (0, .ref 42), (1, .ref 62)] [] (pw_up (pw_up (pw_up (pw_cpI mm 42 62 i) 43 i ((pw_cpI mm 42 62 i) 63 i)) 44 i ((pw_cpI mm 42 62 i) 64 i)) 45 i ((pw_cpI mm 42 62 i) 65 i))
      rw [show (nI i) + (nI 1) = nI (i + 1) from nI_add _ _]
      refine pw_goto (tgt := 18) (off := -45) (by decide +kernel) (by decide) ?_
      refine pw_lvp [1, 2, 0] rfl ?_
      have e := ih (by omega)
      rw [← pw_cpI_s (A := mm) (d := 42) (s := 62) (i := i) (by omega)] at e
      exact e
  show pw_V x m_X0_copy 0 Z 0 [(0, .ref 42), (1, .ref 62)] [] mm
  refine pw_blk (pc' := 18) [.aload 0, .aload 1, .getfield 0, .putfield 0, .aload 0, .aload 1, .getfield 1, .putfield 1, .iconst 0, .istore 2] (by decide +kernel) ?_
  show pw_V x m_X0_copy 0 Z 18 [(2, .int (nI 0)), (0, .ref 42), (1, .ref 62)] [] (pw_up (pw_up mm 42 0 (mm 62 0)) 42 1 (mm 62 1))
  refine pw_lvp [1, 2, 0] rfl ?_
  rw [pw_cpI_0 (A := mm) (d := 42) (s := 62) (by omega)]
  exact loop 0 (by omega)

set_option maxHeartbeats 4000000 in
set_option maxRecDepth 100000 in
theorem c_copy_42_66 (mm : pw_m) : pw_Ct 0 yX0_copy m_X0_copy [.ref 42, .ref 66] mm (fun r m' => r = none ∧ m' = pw_cpI mm 42 66 6) := by
  refine pw_ct (by decide +kernel) rfl (Nat.le_of_ble_eq_true rfl) (fun x => ?_)
  generalize hZ : pw_Z x _ = Z
  have loop : ∀ i : Nat, i ≤ 6 → pw_V x m_X0_copy 0 Z 18 [(0, .ref 42), (1, .ref 66), (2, .int (nI i))] [] (pw_cpI mm 42 66 i) := by
    refine pw_dn 6 (fun i hi ih => ?_)
    refine pw_blk (pc' := 21) [.iload 2, .iconst (6)] (by decide +kernel) ?_
    show pw_V x m_X0_copy 0 Z 21 [(0, .ref 42), (1, .ref 66), (2, .int (nI i))] [.int (nI 6), .int (nI i)] (pw_cpI mm 42 66 i)
    refine pw_in_ge (tgt := 66) (off := 45) (by omega) (by omega) (by decide +kernel) (by decide) (fun h21 => ?_) (fun h21 => ?_)
    · rw [← hZ]
      refine pw_rv (by decide +kernel) ?_
      have e : i = 6 := by omega
      subst e
      exact ⟨rfl, rfl⟩
    · refine pw_blk (pc' := 63) [.aload 0, .getfield 2, .iload 2, .aload 1, .getfield 2, .iload 2, .iaload, .iastore, .aload 0, .getfield 3, .iload 2, .aload 1, .getfield 3, .iload 2, .iaload, .iastore, .aload 0, .getfield 4, .iload 2, .aload 1, .getfield 4, .iload 2, .iaload, .iastore, .iinc 2 1] (by decide +kernel) ?_
      refine ⟨i, rfl, by omega, ?_⟩
      refine ⟨i, rfl, by omega, ?_⟩
      refine ⟨i, rfl, by omega, ?_⟩
      refine ⟨i, rfl, by omega, ?_⟩
      refine ⟨i, rfl, by omega, ?_⟩
      refine ⟨i, rfl, by omega, ?_⟩
      show pw_V x m_X0_copy 0 Z 63 [(2, .int ((nI i) + (nI 1))), (0, .ref 42), (1, .ref 66)] [] (pw_up (pw_up (pw_up (pw_cpI mm 42 66 i) 43 i ((pw_cpI mm 42 66 i) 67 i)) 44 i ((pw_cpI mm 42 66 i) 68 i)) 45 i ((pw_cpI mm 42 66 i) 69 i))
      rw [show (nI i) + (nI 1) = nI (i + 1) from nI_add _ _]
      refine pw_goto (tgt := 18) (off := -45) (by decide +kernel) (by decide) ?_
      refine pw_lvp [1, 2, 0] rfl ?_
      have e := ih (by omega)
      rw [← pw_cpI_s (A := mm) (d := 42) (s := 66) (i := i) (by omega)] at e
      exact e
  show pw_V x m_X0_copy 0 Z 0 [(0, .ref 42), (1, .ref 66)] [] mm
  refine pw_blk (pc' := 18) [.aload 0, .aload 1, .getfield 0, .putfield 0, .aload 0, .aload 1, .getfield 1, .putfield 1, .iconst 0, .istore 2] (by decide +kernel) ?_
  show pw_V x m_X0_copy 0 Z 18 [(2, .int (nI 0)), (0, .ref 42), (1, .ref 66)] [] (pw_up (pw_up mm 42 0 (mm 66 0)) 42 1 (mm 66 1))
  refine pw_lvp [1, 2, 0] rfl ?_
  rw [pw_cpI_0 (A := mm) (d := 42) (s := 66) (by omega)]
  exact loop 0 (by omega)

set_option maxHeartbeats 4000000 in
set_option maxRecDepth 100000 in
theorem c_copy_42_70 (mm : pw_m) : pw_Ct 0 yX0_copy m_X0_copy [.ref 42, .ref 70] mm (fun r m' => r = none ∧ m' = pw_cpI mm 42 70 6) := by
  refine pw_ct (by decide +kernel) rfl (Nat.le_of_ble_eq_true rfl) (fun x => ?_)
  generalize hZ : pw_Z x _ = Z
  have loop : ∀ i : Nat, i ≤ 6 → pw_V x m_X0_copy 0 Z 18 [(0, .ref 42), (1, .ref 70), (2, .int (nI i))] [] (pw_cpI mm 42 70 i) := by
    refine pw_dn 6 (fun i hi ih => ?_)
    refine pw_blk (pc' := 21) [.iload 2, .iconst (6)] (by decide +kernel) ?_
    show pw_V x m_X0_copy 0 Z 21 [(0, .ref 42), (1, .ref 70), (2, .int (nI i))] [.int (nI 6), .int (nI i)] (pw_cpI mm 42 70 i)
    refine pw_in_ge (tgt := 66) (off := 45) (by omega) (by omega) (by decide +kernel) (by decide) (fun h21 => ?_) (fun h21 => ?_)
    · rw [← hZ]
      refine pw_rv (by decide +kernel) ?_
      have e : i = 6 := by omega
      subst e
      exact ⟨rfl, rfl⟩
    · refine pw_blk (pc' := 63) [.aload 0, .getfield 2, .iload 2, .aload 1, .getfield 2, .iload 2, .iaload, .iastore, .aload 0, .getfield 3, .iload 2, .aload 1, .getfield 3, .iload 2, .iaload, .iastore, .aload 0, .getfield 4, .iload 2, .aload 1, .getfield 4, .iload 2, .iaload, .iastore, .iinc 2 1] (by decide +kernel) ?_
      refine ⟨i, rfl, by omega, ?_⟩
      refine ⟨i, rfl, by omega, ?_⟩
      refine ⟨i, rfl, by omega, ?_⟩
      refine ⟨i, rfl, by omega, ?_⟩
      refine ⟨i, rfl, by omega, ?_⟩
      refine ⟨i, rfl, by omega, ?_⟩
      show pw_V x m_X0_copy 0 Z 63 [(2, .int ((nI i) + (nI 1))), (0, .ref 42), (1, .ref 70)] [] (pw_up (pw_up (pw_up (pw_cpI mm 42 70 i) 43 i ((pw_cpI mm 42 70 i) 71 i)) 44 i ((pw_cpI mm 42 70 i) 72 i)) 45 i ((pw_cpI mm 42 70 i) 73 i))
      rw [show (nI i) + (nI 1) = nI (i + 1) from nI_add _ _]
      refine pw_goto (tgt := 18) (off := -45) (by decide +kernel) (by decide) ?_
      refine pw_lvp [1, 2, 0] rfl ?_
      have e := ih (by omega)
      rw [← pw_cpI_s (A := mm) (d := 42) (s := 70) (i := i) (by omega)] at e
      exact e
  show pw_V x m_X0_copy 0 Z 0 [(0, .ref 42), (1, .ref 70)] [] mm
  refine pw_blk (pc' := 18) [.aload 0, .aload 1, .getfield 0, .putfield 0, .aload 0, .aload 1, .getfield 1, .putfield 1, .iconst 0, .istore 2] (by decide +kernel) ?_
  show pw_V x m_X0_copy 0 Z 18 [(2, .int (nI 0)), (0, .ref 42), (1, .ref 70)] [] (pw_up (pw_up mm 42 0 (mm 70 0)) 42 1 (mm 70 1))
  refine pw_lvp [1, 2, 0] rfl ?_
  rw [pw_cpI_0 (A := mm) (d := 42) (s := 70) (by omega)]
  exact loop 0 (by omega)

set_option maxHeartbeats 4000000 in
set_option maxRecDepth 100000 in
theorem c_copy_42_74 (mm : pw_m) : pw_Ct 0 yX0_copy m_X0_copy [.ref 42, .ref 74] mm (fun r m' => r = none ∧ m' = pw_cpI mm 42 74 6) := by
  refine pw_ct (by decide +kernel) rfl (Nat.le_of_ble_eq_true rfl) (fun x => ?_)
  generalize hZ : pw_Z x _ = Z
  have loop : ∀ i : Nat, i ≤ 6 → pw_V x m_X0_copy 0 Z 18 [(0, .ref 42), (1, .ref 74), (2, .int (nI i))] [] (pw_cpI mm 42 74 i) := by
    refine pw_dn 6 (fun i hi ih => ?_)
    refine pw_blk (pc' := 21) [.iload 2, .iconst (6)] (by decide +kernel) ?_
    show pw_V x m_X0_copy 0 Z 21 [(0, .ref 42), (1, .ref 74), (2, .int (nI i))] [.int (nI 6), .int (nI i)] (pw_cpI mm 42 74 i)
    refine pw_in_ge (tgt := 66) (off := 45) (by omega) (by omega) (by decide +kernel) (by decide) (fun h21 => ?_) (fun h21 => ?_)
    · rw [← hZ]
      refine pw_rv (by decide +kernel) ?_
      have e : i = 6 := by omega
      subst e
      exact ⟨rfl, rfl⟩
    · refine pw_blk (pc' := 63) [.aload 0, .getfield 2, .iload 2, .aload 1, .getfield 2, .iload 2, .iaload, .iastore, .aload 0, .getfield 3, .iload 2, .aload 1, .getfield 3, .iload 2, .iaload, .iastore, .aload 0, .getfield 4, .iload 2, .aload 1, .getfield 4, .iload 2, .iaload, .iastore, .iinc 2 1] (by decide +kernel) ?_
      refine ⟨i, rfl, by omega, ?_⟩
      refine ⟨i, rfl, by omega, ?_⟩
      refine ⟨i, rfl, by omega, ?_⟩
      refine ⟨i, rfl, by omega, ?_⟩
      refine ⟨i, rfl, by omega, ?_⟩
      refine ⟨i, rfl, by omega, ?_⟩
      show pw_V x m_X0_copy 0 Z 63 [(2, .int ((nI i) + (nI 1))), (0, .ref 42), (1, .ref 74)] [] (pw_up (pw_up (pw_up (pw_cpI mm 42 74 i) 43 i ((pw_cpI mm 42 74 i) 75 i)) 44 i ((pw_cpI mm 42 74 i) 76 i)) 45 i ((pw_cpI mm 42 74 i) 77 i))
      rw [show (nI i) + (nI 1) = nI (i + 1) from nI_add _ _]
      refine pw_goto (tgt := 18) (off := -45) (by decide +kernel) (by decide) ?_
      refine pw_lvp [1, 2, 0] rfl ?_
      have e := ih (by omega)
      rw [← pw_cpI_s (A := mm) (d := 42) (s := 74) (i := i) (by omega)] at e
      exact e
  show pw_V x m_X0_copy 0 Z 0 [(0, .ref 42), (1, .ref 74)] [] mm
  refine pw_blk (pc' := 18) [.aload 0, .aload 1, .getfield 0, .putfield 0, .aload 0, .aload 1, .getfield 1, .putfield 1, .iconst 0, .istore 2] (by decide +kernel) ?_
  show pw_V x m_X0_copy 0 Z 18 [(2, .int (nI 0)), (0, .ref 42), (1, .ref 74)] [] (pw_up (pw_up mm 42 0 (mm 74 0)) 42 1 (mm 74 1))
  refine pw_lvp [1, 2, 0] rfl ?_
  rw [pw_cpI_0 (A := mm) (d := 42) (s := 74) (by omega)]
  exact loop 0 (by omega)

set_option maxHeartbeats 4000000 in
set_option maxRecDepth 100000 in
theorem c_copy_78_42 (mm : pw_m) : pw_Ct 0 yX0_copy m_X0_copy [.ref 78, .ref 42] mm (fun r m' => r = none ∧ m' = pw_cpI mm 78 42 6) := by
  refine pw_ct (by decide +kernel) rfl (Nat.le_of_ble_eq_true rfl) (fun x => ?_)
  generalize hZ : pw_Z x _ = Z
  have loop : ∀ i : Nat, i ≤ 6 → pw_V x m_X0_copy 0 Z 18 [(0, .ref 78), (1, .ref 42), (2, .int (nI i))] [] (pw_cpI mm 78 42 i) := by
    refine pw_dn 6 (fun i hi ih => ?_)
    refine pw_blk (pc' := 21) [.iload 2, .iconst (6)] (by decide +kernel) ?_
    show pw_V x m_X0_copy 0 Z 21 [(0, .ref 78), (1, .ref 42), (2, .int (nI i))] [.int (nI 6), .int (nI i)] (pw_cpI mm 78 42 i)
    refine pw_in_ge (tgt := 66) (off := 45) (by omega) (by omega) (by decide +kernel) (by decide) (fun h21 => ?_) (fun h21 => ?_)
    · rw [← hZ]
      refine pw_rv (by decide +kernel) ?_
      have e : i = 6 := by omega
      subst e
      exact ⟨rfl, rfl⟩
    · refine pw_blk (pc' := 63) [.aload 0, .getfield 2, .iload 2, .aload 1, .getfield 2, .iload 2, .iaload, .iastore, .aload 0, .getfield 3, .iload 2, .aload 1, .getfield 3, .iload 2, .iaload, .iastore, .aload 0, .getfield 4, .iload 2, .aload 1, .getfield 4, .iload 2, .iaload, .iastore, .iinc 2 1] (by decide +kernel) ?_
      refine ⟨i, rfl, by omega, ?_⟩
      refine ⟨i, rfl, by omega, ?_⟩
      refine ⟨i, rfl, by omega, ?_⟩
      refine ⟨i, rfl, by omega, ?_⟩
      refine ⟨i, rfl, by omega, ?_⟩
      refine ⟨i, rfl, by omega, ?_⟩
      show pw_V x m_X0_copy 0 Z 63 [(2, .int ((nI i) + (nI 1))), (0, .ref 78), (1, .ref 42)] [] (pw_up (pw_up (pw_up (pw_cpI mm 78 42 i) 79 i ((pw_cpI mm 78 42 i) 43 i)) 80 i ((pw_cpI mm 78 42 i) 44 i)) 81 i ((pw_cpI mm 78 42 i) 45 i))
      rw [show (nI i) + (nI 1) = nI (i + 1) from nI_add _ _]
      refine pw_goto (tgt := 18) (off := -45) (by decide +kernel) (by decide) ?_
      refine pw_lvp [1, 2, 0] rfl ?_
      have e := ih (by omega)
      rw [← pw_cpI_s (A := mm) (d := 78) (s := 42) (i := i) (by omega)] at e
      exact e
  show pw_V x m_X0_copy 0 Z 0 [(0, .ref 78), (1, .ref 42)] [] mm
  refine pw_blk (pc' := 18) [.aload 0, .aload 1, .getfield 0, .putfield 0, .aload 0, .aload 1, .getfield 1, .putfield 1, .iconst 0, .istore 2] (by decide +kernel) ?_
  show pw_V x m_X0_copy 0 Z 18 [(2, .int (nI 0)), (0, .ref 78), (1, .ref 42)] [] (pw_up (pw_up mm 78 0 (mm 42 0)) 78 1 (mm 42 1))
  refine pw_lvp [1, 2, 0] rfl ?_
  rw [pw_cpI_0 (A := mm) (d := 78) (s := 42) (by omega)]
  exact loop 0 (by omega)

set_option maxHeartbeats 4000000 in
set_option maxRecDepth 100000 in
theorem c_copy_82_42 (mm : pw_m) : pw_Ct 0 yX0_copy m_X0_copy [.ref 82, .ref 42] mm (fun r m' => r = none ∧ m' = pw_cpI mm 82 42 6) := by
  refine pw_ct (by decide +kernel) rfl (Nat.le_of_ble_eq_true rfl) (fun x => ?_)
  generalize hZ : pw_Z x _ = Z
  have loop : ∀ i : Nat, i ≤ 6 → pw_V x m_X0_copy 0 Z 18 [(0, .ref 82), (1, .ref 42), (2, .int (nI i))] [] (pw_cpI mm 82 42 i) := by
    refine pw_dn 6 (fun i hi ih => ?_)
    refine pw_blk (pc' := 21) [.iload 2, .iconst (6)] (by decide +kernel) ?_
    show pw_V x m_X0_copy 0 Z 21 [(0, .ref 82), (1, .ref 42), (2, .int (nI i))] [.int (nI 6), .int (nI i)] (pw_cpI mm 82 42 i)
    refine pw_in_ge (tgt := 66) (off := 45) (by omega) (by omega) (by decide +kernel) (by decide) (fun h21 => ?_) (fun h21 => ?_)
    · rw [← hZ]
      refine pw_rv (by decide +kernel) ?_
      have e : i = 6 := by omega
      subst e
      exact ⟨rfl, rfl⟩
    · refine pw_blk (pc' := 63) [.aload 0, .getfield 2, .iload 2, .aload 1, .getfield 2, .iload 2, .iaload, .iastore, .aload 0, .getfield 3, .iload 2, .aload 1, .getfield 3, .iload 2, .iaload, .iastore, .aload 0, .getfield 4, .iload 2, .aload 1, .getfield 4, .iload 2, .iaload, .iastore, .iinc 2 1] (by decide +kernel) ?_
      refine ⟨i, rfl, by omega, ?_⟩
      refine ⟨i, rfl, by omega, ?_⟩
      refine ⟨i, rfl, by omega, ?_⟩
      refine ⟨i, rfl, by omega, ?_⟩
      refine ⟨i, rfl, by omega, ?_⟩
      refine ⟨i, rfl, by omega, ?_⟩
      show pw_V x m_X0_copy 0 Z 63 [(2, .int ((nI i) + (nI 1))), (0, .ref 82), (1, .ref 42)] [] (pw_up (pw_up (pw_up (pw_cpI mm 82 42 i) 83 i ((pw_cpI mm 82 42 i) 43 i)) 84 i ((pw_cpI mm 82 42 i) 44 i)) 85 i ((pw_cpI mm 82 42 i) 45 i))
      rw [show (nI i) + (nI 1) = nI (i + 1) from nI_add _ _]
      refine pw_goto (tgt := 18) (off := -45) (by decide +kernel) (by decide) ?_
      refine pw_lvp [1, 2, 0] rfl ?_
      have e := ih (by omega)
      rw [← pw_cpI_s (A := mm) (d := 82) (s := 42) (i := i) (by omega)] at e
      exact e
  show pw_V x m_X0_copy 0 Z 0 [(0, .ref 82), (1, .ref 42)] [] mm
  refine pw_blk (pc' := 18) [.aload 0, .aload 1, .getfield 0, .putfield 0, .aload 0, .aload 1, .getfield 1, .putfield 1, .iconst 0, .istore 2] (by decide +kernel) ?_
  show pw_V x m_X0_copy 0 Z 18 [(2, .int (nI 0)), (0, .ref 82), (1, .ref 42)] [] (pw_up (pw_up mm 82 0 (mm 42 0)) 82 1 (mm 42 1))
  refine pw_lvp [1, 2, 0] rfl ?_
  rw [pw_cpI_0 (A := mm) (d := 82) (s := 42) (by omega)]
  exact loop 0 (by omega)

set_option maxHeartbeats 4000000 in
set_option maxRecDepth 100000 in
theorem c_copy_42_78 (mm : pw_m) : pw_Ct 0 yX0_copy m_X0_copy [.ref 42, .ref 78] mm (fun r m' => r = none ∧ m' = pw_cpI mm 42 78 6) := by
  refine pw_ct (by decide +kernel) rfl (Nat.le_of_ble_eq_true rfl) (fun x => ?_)
  generalize hZ : pw_Z x _ = Z
  have loop : ∀ i : Nat, i ≤ 6 → pw_V x m_X0_copy 0 Z 18 [(0, .ref 42), (1, .ref 78), (2, .int (nI i))] [] (pw_cpI mm 42 78 i) := by
    refine pw_dn 6 (fun i hi ih => ?_)
    refine pw_blk (pc' := 21) [.iload 2, .iconst (6)] (by decide +kernel) ?_
    show pw_V x m_X0_copy 0 Z 21 [(0, .ref 42), (1, .ref 78), (2, .int (nI i))] [.int (nI 6), .int (nI i)] (pw_cpI mm 42 78 i)
    refine pw_in_ge (tgt := 66) (off := 45) (by omega) (by omega) (by decide +kernel) (by decide) (fun h21 => ?_) (fun h21 => ?_)
    · rw [← hZ]
      refine pw_rv (by decide +kernel) ?_
      have e : i = 6 := by omega
      subst e
      exact ⟨rfl, rfl⟩
    · refine pw_blk (pc' := 63) [.aload 0, .getfield 2, .iload 2, .aload 1, .getfield 2, .iload 2, .iaload, .iastore, .aload 0, .getfield 3, .iload 2, .aload 1, .getfield 3, .iload 2, .iaload, .iastore, .aload 0, .getfield 4, .iload 2, .aload 1, .getfield 4, .iload 2, .iaload, .iastore, .iinc 2 1] (by decide +kernel) ?_
      refine ⟨i, rfl, by omega, ?_⟩
      refine ⟨i, rfl, by omega, ?_⟩
      refine ⟨i, rfl, by omega, ?_⟩
      refine ⟨i, rfl, by omega, ?_⟩
      refine ⟨i, rfl, by omega, ?_⟩
      refine ⟨i, rfl, by omega, ?_⟩
      show pw_V x m_X0_copy 0 Z 63 [(2, .int ((nI i) + (nI 1))), (0, .ref 42), (1, .ref 78)] [] (pw_up (pw_up (pw_up (pw_cpI mm 42 78 i) 43 i ((pw_cpI mm 42 78 i) 79 i)) 44 i ((pw_cpI mm 42 78 i) 80 i)) 45 i ((pw_cpI mm 42 78 i) 81 i))
      rw [show (nI i) + (nI 1) = nI (i + 1) from nI_add _ _]
      refine pw_goto (tgt := 18) (off := -45) (by decide +kernel) (by decide) ?_
      refine pw_lvp [1, 2, 0] rfl ?_
      have e := ih (by omega)
      rw [← pw_cpI_s (A := mm) (d := 42) (s := 78) (i := i) (by omega)] at e
      exact e
  show pw_V x m_X0_copy 0 Z 0 [(0, .ref 42), (1, .ref 78)] [] mm
  refine pw_blk (pc' := 18) [.aload 0, .aload 1, .getfield 0, .putfield 0, .aload 0, .aload 1, .getfield 1, .putfield 1, .iconst 0, .istore 2] (by decide +kernel) ?_
  show pw_V x m_X0_copy 0 Z 18 [(2, .int (nI 0)), (0, .ref 42), (1, .ref 78)] [] (pw_up (pw_up mm 42 0 (mm 78 0)) 42 1 (mm 78 1))
  refine pw_lvp [1, 2, 0] rfl ?_
  rw [pw_cpI_0 (A := mm) (d := 42) (s := 78) (by omega)]
  exact loop 0 (by omega)

set_option maxHeartbeats 4000000 in
set_option maxRecDepth 100000 in
theorem c_copy_42_82 (mm : pw_m) : pw_Ct 0 yX0_copy m_X0_copy [.ref 42, .ref 82] mm (fun r m' => r = none ∧ m' = pw_cpI mm 42 82 6) := by
  refine pw_ct (by decide +kernel) rfl (Nat.le_of_ble_eq_true rfl) (fun x => ?_)
  generalize hZ : pw_Z x _ = Z
  have loop : ∀ i : Nat, i ≤ 6 → pw_V x m_X0_copy 0 Z 18 [(0, .ref 42), (1, .ref 82), (2, .int (nI i))] [] (pw_cpI mm 42 82 i) := by
    refine pw_dn 6 (fun i hi ih => ?_)
    refine pw_blk (pc' := 21) [.iload 2, .iconst (6)] (by decide +kernel) ?_
    show pw_V x m_X0_copy 0 Z 21 [(0, .ref 42), (1, .ref 82), (2, .int (nI i))] [.int (nI 6), .int (nI i)] (pw_cpI mm 42 82 i)
    refine pw_in_ge (tgt := 66) (off := 45) (by omega) (by omega) (by decide +kernel) (by decide) (fun h21 => ?_) (fun h21 => ?_)
    · rw [← hZ]
      refine pw_rv (by decide +kernel) ?_
      have e : i = 6 := by omega
      subst e
      exact ⟨rfl, rfl⟩
    · refine pw_blk (pc' := 63) [.aload 0, .getfield 2, .iload 2, .aload 1, .getfield 2, .iload 2, .iaload, .iastore, .aload 0, .getfield 3, .iload 2, .aload 1, .getfield 3, .iload 2, .iaload, .iastore, .aload 0, .getfield 4, .iload 2, .aload 1, .getfield 4, .iload 2, .iaload, .iastore, .iinc 2 1] (by decide +kernel) ?_
      refine ⟨i, rfl, by omega, ?_⟩
      refine ⟨i, rfl, by omega, ?_⟩
      refine ⟨i, rfl, by omega, ?_⟩
      refine ⟨i, rfl, by omega, ?_⟩
      refine ⟨i, rfl, by omega, ?_⟩
      refine ⟨i, rfl, by omega, ?_⟩
      show pw_V x m_X0_copy 0 Z 63 [(2, .int ((nI i) + (nI 1))), (0, .ref 42), (1, .ref 82)] [] (pw_up (pw_up (pw_up (pw_cpI mm 42 82 i) 43 i ((pw_cpI mm 42 82 i) 83 i)) 44 i ((pw_cpI mm 42 82 i) 84 i)) 45 i ((pw_cpI mm 42 82 i) 85 i))
      rw [show (nI i) + (nI 1) = nI (i + 1) from nI_add _ _]
      refine pw_goto (tgt := 18) (off := -45) (by decide +kernel) (by decide) ?_
      refine pw_lvp [1, 2, 0] rfl ?_
      have e := ih (by omega)
      rw [← pw_cpI_s (A := mm) (d := 42) (s := 82) (i := i) (by omega)] at e
      exact e
  show pw_V x m_X0_copy 0 Z 0 [(0, .ref 42), (1, .ref 82)] [] mm
  refine pw_blk (pc' := 18) [.aload 0, .aload 1, .getfield 0, .putfield 0, .aload 0, .aload 1, .getfield 1, .putfield 1, .iconst 0, .istore 2] (by decide +kernel) ?_
  show pw_V x m_X0_copy 0 Z 18 [(2, .int (nI 0)), (0, .ref 42), (1, .ref 82)] [] (pw_up (pw_up mm 42 0 (mm 82 0)) 42 1 (mm 82 1))
  refine pw_lvp [1, 2, 0] rfl ?_
  rw [pw_cpI_0 (A := mm) (d := 42) (s := 82) (by omega)]
  exact loop 0 (by omega)

theorem pw_lt8 {a : Nat} (h : a < 8) : a = 0 ∨ a = 1 ∨ a = 2 ∨ a = 3 ∨ a = 4 ∨ a = 5 ∨ a = 6 ∨ a = 7 := by omega

set_option maxHeartbeats 4000000 in
set_option maxRecDepth 100000 in
theorem c_remember (mm : pw_m) (hok : pw_ok mm) : pw_Ct 1 yX1_remember m_X1_remember [.ref 11, .ref 42] mm (fun r m' => r = none ∧ m' = pw_rem mm) := by
  refine pw_ct (by decide +kernel) rfl (Nat.le_of_ble_eq_true rfl) (fun x => ?_)
  generalize hZ : pw_Z x _ = Z
  have bu := pw_b112 hok
  show pw_V x m_X1_remember 1 Z 0 [(0, .ref 11), (1, .ref 42)] [] mm
  refine pw_blk (pc' := 8) [.aload 0, .getfield 100, .aload 0, .getfield 104] (by decide +kernel) ?_
  show pw_V x m_X1_remember 1 Z 8 [(0, .ref 11), (1, .ref 42)] [.int (mm 11 4), .ref 12] mm
  rw [show mm 11 4 = nI (pw_g mm 11 4) from pw_q114 hok]
  have bx := pw_b114 hok
  rcases pw_lt8 bx with ex | ex | ex | ex | ex | ex | ex | ex
  · rw [ex]
    show pw_V x m_X1_remember 1 Z 8 [(0, .ref 11), (1, .ref 42)] [.int (nI 0), .ref 12] mm
    refine pw_blk (pc' := 10) [.aaload, .aload 1] (by decide +kernel) ?_
    refine ⟨0, rfl, by omega, ?_⟩
    show pw_V x m_X1_remember 1 Z 10 [(0, .ref 11), (1, .ref 42)] [.ref 42, .ref 46] mm
    refine pw_cV (vs := [.ref 42]) (rest := []) k_X0_copy (c_copy_46_42 mm) l_1_31 rfl rfl rfl rfl (by decide) (Nat.le_of_ble_eq_true rfl) (by decide +kernel) ?_
    rintro _ m1 ⟨rfl, e1⟩
    rw [e1]
    clear e1 m1
    show pw_V x m_X1_remember 1 Z 13 [(0, .ref 11), (1, .ref 42)] [] (pw_cpI mm 46 42 6)
    refine pw_blk (pc' := 22) [.aload 0, .aload 0, .getfield 104, .iconst 1, .iadd, .iconst (8)] (by decide +kernel) ?_
    show pw_V x m_X1_remember 1 Z 22 [(0, .ref 11), (1, .ref 42)] [.int (nI 8), .int ((mm 11 4) + (nI 1)), .ref 11] (pw_cpI mm 46 42 6)
    rw [show mm 11 4 = nI 0 from (pw_q114 hok).trans (congrArg nI ex)]
    rw [show (nI 0) + (nI 1) = nI (0 + 1) from nI_add _ _]
    refine pw_in_ge (tgt := 34) (off := 12) (by omega) (by omega) (by decide +kernel) (by decide) (fun h => by omega) (fun _ => ?_)
    refine pw_blk (pc' := 31) [.aload 0, .getfield 104, .iconst 1, .iadd] (by decide +kernel) ?_
    show pw_V x m_X1_remember 1 Z 31 [(0, .ref 11), (1, .ref 42)] [.int ((mm 11 4) + (nI 1)), .ref 11] (pw_cpI mm 46 42 6)
    rw [show mm 11 4 = nI 0 from (pw_q114 hok).trans (congrArg nI ex)]
    rw [show (nI 0) + (nI 1) = nI (0 + 1) from nI_add _ _]
    refine pw_goto (tgt := 35) (off := 4) (by decide +kernel) (by decide) ?_
    refine pw_blk (pc' := 47) [.putfield 104, .aload 0, .iconst (8), .aload 0, .getfield 102, .iconst 1, .iadd] (by decide +kernel) ?_
    show pw_V x m_X1_remember 1 Z 47 [(0, .ref 11), (1, .ref 42)] [.int ((mm 11 2) + (nI 1)), .int (nI 8), .ref 11] (pw_up (pw_cpI mm 46 42 6) 11 4 (nI (0 + 1)))
    rw [show mm 11 2 = nI (pw_g mm 11 2) from pw_q112 hok]
    rw [show (nI (pw_g mm 11 2)) + (nI 1) = nI ((pw_g mm 11 2) + 1) from nI_add _ _]
    refine pw_cMin l_1_35 (by decide) (Nat.le_of_ble_eq_true rfl) (by decide +kernel) ?_
    show pw_V x m_X1_remember 1 Z 50 [(0, .ref 11), (1, .ref 42)] [.int (pw_min (nI 8) (nI ((pw_g mm 11 2) + 1))), .ref 11] (pw_up (pw_cpI mm 46 42 6) 11 4 (nI (0 + 1)))
    rw [pw_minN (by omega) (by omega)]
    refine pw_blk (pc' := 53) [.putfield 102] (by decide +kernel) ?_
    show pw_V x m_X1_remember 1 Z 53 [(0, .ref 11), (1, .ref 42)] [] (pw_up (pw_up (pw_cpI mm 46 42 6) 11 4 (nI (0 + 1))) 11 2 (nI (min 8 ((pw_g mm 11 2) + 1))))
    rw [← hZ]
    refine pw_rv (by decide +kernel) ?_
    first
    | (exfalso; omega)
    | (refine ⟨rfl, ?_⟩; unfold pw_rem pw_nx; rw [ex]; rfl)
  · rw [ex]
    show pw_V x m_X1_remember 1 Z 8 [(0, .ref 11), (1, .ref 42)] [.int (nI 1), .ref 12] mm
    refine pw_blk (pc' := 10) [.aaload, .aload 1] (by decide +kernel) ?_
    refine ⟨1, rfl, by omega, ?_⟩
    show pw_V x m_X1_remember 1 Z 10 [(0, .ref 11), (1, .ref 42)] [.ref 42, .ref 50] mm
    refine pw_cV (vs := [.ref 42]) (rest := []) k_X0_copy (c_copy_50_42 mm) l_1_31 rfl rfl rfl rfl (by decide) (Nat.le_of_ble_eq_true rfl) (by decide +kernel) ?_
    rintro _ m1 ⟨rfl, e1⟩
    rw [e1]
    clear e1 m1
    show pw_V x m_X1_remember 1 Z 13 [(0, .ref 11), (1, .ref 42)] [] (pw_cpI mm 50 42 6)
    refine pw_blk (pc' := 22) [.aload 0, .aload 0, .getfield 104, .iconst 1, .iadd, .iconst (8)] (by decide +kernel) ?_
    show pw_V x m_X1_remember 1 Z 22 [(0, .ref 11), (1, .ref 42)] [.int (nI 8), .int ((mm 11 4) + (nI 1)), .ref 11] (pw_cpI mm 50 42 6)
    rw [show mm 11 4 = nI 1 from (pw_q114 hok).trans (congrArg nI ex)]
    rw [show (nI 1) + (nI 1) = nI (1 + 1) from nI_add _ _]
    refine pw_in_ge (tgt := 34) (off := 12) (by omega) (by omega) (by decide +kernel) (by decide) (fun h => by omega) (fun _ => ?_)
    refine pw_blk (pc' := 31) [.aload 0, .getfield 104, .iconst 1, .iadd] (by decide +kernel) ?_
    show pw_V x m_X1_remember 1 Z 31 [(0, .ref 11), (1, .ref 42)] [.int ((mm 11 4) + (nI 1)), .ref 11] (pw_cpI mm 50 42 6)
    rw [show mm 11 4 = nI 1 from (pw_q114 hok).trans (congrArg nI ex)]
    rw [show (nI 1) + (nI 1) = nI (1 + 1) from nI_add _ _]
    refine pw_goto (tgt := 35) (off := 4) (by decide +kernel) (by decide) ?_
    refine pw_blk (pc' := 47) [.putfield 104, .aload 0, .iconst (8), .aload 0, .getfield 102, .iconst 1, .iadd] (by decide +kernel) ?_
    show pw_V x m_X1_remember 1 Z 47 [(0, .ref 11), (1, .ref 42)] [.int ((mm 11 2) + (nI 1)), .int (nI 8), .ref 11] (pw_up (pw_cpI mm 50 42 6) 11 4 (nI (1 + 1)))
    rw [show mm 11 2 = nI (pw_g mm 11 2) from pw_q112 hok]
    rw [show (nI (pw_g mm 11 2)) + (nI 1) = nI ((pw_g mm 11 2) + 1) from nI_add _ _]
    refine pw_cMin l_1_35 (by decide) (Nat.le_of_ble_eq_true rfl) (by decide +kernel) ?_
    show pw_V x m_X1_remember 1 Z 50 [(0, .ref 11), (1, .ref 42)] [.int (pw_min (nI 8) (nI ((pw_g mm 11 2) + 1))), .ref 11] (pw_up (pw_cpI mm 50 42 6) 11 4 (nI (1 + 1)))
    rw [pw_minN (by omega) (by omega)]
    refine pw_blk (pc' := 53) [.putfield 102] (by decide +kernel) ?_
    show pw_V x m_X1_remember 1 Z 53 [(0, .ref 11), (1, .ref 42)] [] (pw_up (pw_up (pw_cpI mm 50 42 6) 11 4 (nI (1 + 1))) 11 2 (nI (min 8 ((pw_g mm 11 2) + 1))))
    rw [← hZ]
    refine pw_rv (by decide +kernel) ?_
    first
    | (exfalso; omega)
    | (refine ⟨rfl, ?_⟩; unfold pw_rem pw_nx; rw [ex]; rfl)
  · rw [ex]
    show pw_V x m_X1_remember 1 Z 8 [(0, .ref 11), (1, .ref 42)] [.int (nI 2), .ref 12] mm
    refine pw_blk (pc' := 10) [.aaload, .aload 1] (by decide +kernel) ?_
    refine ⟨2, rfl, by omega, ?_⟩
    show pw_V x m_X1_remember 1 Z 10 [(0, .ref 11), (1, .ref 42)] [.ref 42, .ref 54] mm
    refine pw_cV (vs := [.ref 42]) (rest := []) k_X0_copy (c_copy_54_42 mm) l_1_31 rfl rfl rfl rfl (by decide) (Nat.le_of_ble_eq_true rfl) (by decide +kernel) ?_
    rintro _ m1 ⟨rfl, e1⟩
    rw [e1]
    clear e1 m1
    show pw_V x m_X1_remember 1 Z 13 [(0, .ref 11), (1, .ref 42)] [] (pw_cpI mm 54 42 6)
    refine pw_blk (pc' := 22) [.aload 0, .aload 0, .getfield 104, .iconst 1, .iadd, .iconst (8)] (by decide +kernel) ?_
    show pw_V x m_X1_remember 1 Z 22 [(0, .ref 11), (1, .ref 42)] [.int (nI 8), .int ((mm 11 4) + (nI 1)), .ref 11] (pw_cpI mm 54 42 6)
    rw [show mm 11 4 = nI 2 from (pw_q114 hok).trans (congrArg nI ex)]
    rw [show (nI 2) + (nI 1) = nI (2 + 1) from nI_add _ _]
    refine pw_in_ge (tgt := 34) (off := 12) (by omega) (by omega) (by decide +kernel) (by decide) (fun h => by omega) (fun _ => ?_)
    refine pw_blk (pc' := 31) [.aload 0, .getfield 104, .iconst 1, .iadd] (by decide +kernel) ?_
    show pw_V x m_X1_remember 1 Z 31 [(0, .ref 11), (1, .ref 42)] [.int ((mm 11 4) + (nI 1)), .ref 11] (pw_cpI mm 54 42 6)
    rw [show mm 11 4 = nI 2 from (pw_q114 hok).trans (congrArg nI ex)]
    rw [show (nI 2) + (nI 1) = nI (2 + 1) from nI_add _ _]
    refine pw_goto (tgt := 35) (off := 4) (by decide +kernel) (by decide) ?_
    refine pw_blk (pc' := 47) [.putfield 104, .aload 0, .iconst (8), .aload 0, .getfield 102, .iconst 1, .iadd] (by decide +kernel) ?_
    show pw_V x m_X1_remember 1 Z 47 [(0, .ref 11), (1, .ref 42)] [.int ((mm 11 2) + (nI 1)), .int (nI 8), .ref 11] (pw_up (pw_cpI mm 54 42 6) 11 4 (nI (2 + 1)))
    rw [show mm 11 2 = nI (pw_g mm 11 2) from pw_q112 hok]
    rw [show (nI (pw_g mm 11 2)) + (nI 1) = nI ((pw_g mm 11 2) + 1) from nI_add _ _]
    refine pw_cMin l_1_35 (by decide) (Nat.le_of_ble_eq_true rfl) (by decide +kernel) ?_
    show pw_V x m_X1_remember 1 Z 50 [(0, .ref 11), (1, .ref 42)] [.int (pw_min (nI 8) (nI ((pw_g mm 11 2) + 1))), .ref 11] (pw_up (pw_cpI mm 54 42 6) 11 4 (nI (2 + 1)))
    rw [pw_minN (by omega) (by omega)]
    refine pw_blk (pc' := 53) [.putfield 102] (by decide +kernel) ?_
    show pw_V x m_X1_remember 1 Z 53 [(0, .ref 11), (1, .ref 42)] [] (pw_up (pw_up (pw_cpI mm 54 42 6) 11 4 (nI (2 + 1))) 11 2 (nI (min 8 ((pw_g mm 11 2) + 1))))
    rw [← hZ]
    refine pw_rv (by decide +kernel) ?_
    first
    | (exfalso; omega)
    | (refine ⟨rfl, ?_⟩; unfold pw_rem pw_nx; rw [ex]; rfl)
  · rw [ex]
    show pw_V x m_X1_remember 1 Z 8 [(0, .ref 11), (1, .ref 42)] [.int (nI 3), .ref 12] mm
    refine pw_blk (pc' := 10) [.aaload, .aload 1] (by decide +kernel) ?_
    refine ⟨3, rfl, by omega, ?_⟩
    show pw_V x m_X1_remember 1 Z 10 [(0, .ref 11), (1, .ref 42)] [.ref 42, .ref 58] mm
    refine pw_cV (vs := [.ref 42]) (rest := []) k_X0_copy (c_copy_58_42 mm) l_1_31 rfl rfl rfl rfl (by decide) (Nat.le_of_ble_eq_true rfl) (by decide +kernel) ?_
    rintro _ m1 ⟨rfl, e1⟩
    rw [e1]
    clear e1 m1
    show pw_V x m_X1_remember 1 Z 13 [(0, .ref 11), (1, .ref 42)] [] (pw_cpI mm 58 42 6)
    refine pw_blk (pc' := 22) [.aload 0, .aload 0, .getfield 104, .iconst 1, .iadd, .iconst (8)] (by decide +kernel) ?_
    show pw_V x m_X1_remember 1 Z 22 [(0, .ref 11), (1, .ref 42)] [.int (nI 8), .int ((mm 11 4) + (nI 1)), .ref 11] (pw_cpI mm 58 42 6)
    rw [show mm 11 4 = nI 3 from (pw_q114 hok).trans (congrArg nI ex)]
    rw [show (nI 3) + (nI 1) = nI (3 + 1) from nI_add _ _]
    refine pw_in_ge (tgt := 34) (off := 12) (by omega) (by omega) (by decide +kernel) (by decide) (fun h => by omega) (fun _ => ?_)
    refine pw_blk (pc' := 31) [.aload 0, .getfield 104, .iconst 1, .iadd] (by decide +kernel) ?_
    show pw_V x m_X1_remember 1 Z 31 [(0, .ref 11), (1, .ref 42)] [.int ((mm 11 4) + (nI 1)), .ref 11] (pw_cpI mm 58 42 6)
    rw [show mm 11 4 = nI 3 from (pw_q114 hok).trans (congrArg nI ex)]
    rw [show (nI 3) + (nI 1) = nI (3 + 1) from nI_add _ _]
    refine pw_goto (tgt := 35) (off := 4) (by decide +kernel) (by decide) ?_
    refine pw_blk (pc' := 47) [.putfield 104, .aload 0, .iconst (8), .aload 0, .getfield 102, .iconst 1, .iadd] (by decide +kernel) ?_
    show pw_V x m_X1_remember 1 Z 47 [(0, .ref 11), (1, .ref 42)] [.int ((mm 11 2) + (nI 1)), .int (nI 8), .ref 11] (pw_up (pw_cpI mm 58 42 6) 11 4 (nI (3 + 1)))
    rw [show mm 11 2 = nI (pw_g mm 11 2) from pw_q112 hok]
    rw [show (nI (pw_g mm 11 2)) + (nI 1) = nI ((pw_g mm 11 2) + 1) from nI_add _ _]
    refine pw_cMin l_1_35 (by decide) (Nat.le_of_ble_eq_true rfl) (by decide +kernel) ?_
    show pw_V x m_X1_remember 1 Z 50 [(0, .ref 11), (1, .ref 42)] [.int (pw_min (nI 8) (nI ((pw_g mm 11 2) + 1))), .ref 11] (pw_up (pw_cpI mm 58 42 6) 11 4 (nI (3 + 1)))
    rw [pw_minN (by omega) (by omega)]
    refine pw_blk (pc' := 53) [.putfield 102] (by decide +kernel) ?_
    show pw_V x m_X1_remember 1 Z 53 [(0, .ref 11), (1, .ref 42)] [] (pw_up (pw_up (pw_cpI mm 58 42 6) 11 4 (nI (3 + 1))) 11 2 (nI (min 8 ((pw_g mm 11 2) + 1))))
    rw [← hZ]
    refine pw_rv (by decide +kernel) ?_
    first
    | (exfalso; omega)
    | (refine ⟨rfl, ?_⟩; unfold pw_rem pw_nx; rw [ex]; rfl)
  · rw [ex]
    show pw_V x m_X1_remember 1 Z 8 [(0, .ref 11), (1, .ref 42)] [.int (nI 4), .ref 12] mm
    refine pw_blk (pc' := 10) [.aaload, .aload 1] (by decide +kernel) ?_
    refine ⟨4, rfl, by omega, ?_⟩
    show pw_V x m_X1_remember 1 Z 10 [(0, .ref 11), (1, .ref 42)] [.ref 42, .ref 62] mm
    refine pw_cV (vs := [.ref 42]) (rest := []) k_X0_copy (c_copy_62_42 mm) l_1_31 rfl rfl rfl rfl (by decide) (Nat.le_of_ble_eq_true rfl) (by decide +kernel) ?_
    rintro _ m1 ⟨rfl, e1⟩
    rw [e1]
    clear e1 m1
    show pw_V x m_X1_remember 1 Z 13 [(0, .ref 11), (1, .ref 42)] [] (pw_cpI mm 62 42 6)
    refine pw_blk (pc' := 22) [.aload 0, .aload 0, .getfield 104, .iconst 1, .iadd, .iconst (8)] (by decide +kernel) ?_
    show pw_V x m_X1_remember 1 Z 22 [(0, .ref 11), (1, .ref 42)] [.int (nI 8), .int ((mm 11 4) + (nI 1)), .ref 11] (pw_cpI mm 62 42 6)
    rw [show mm 11 4 = nI 4 from (pw_q114 hok).trans (congrArg nI ex)]
    rw [show (nI 4) + (nI 1) = nI (4 + 1) from nI_add _ _]
    refine pw_in_ge (tgt := 34) (off := 12) (by omega) (by omega) (by decide +kernel) (by decide) (fun h => by omega) (fun _ => ?_)
    refine pw_blk (pc' := 31) [.aload 0, .getfield 104, .iconst 1, .iadd] (by decide +kernel) ?_
    show pw_V x m_X1_remember 1 Z 31 [(0, .ref 11), (1, .ref 42)] [.int ((mm 11 4) + (nI 1)), .ref 11] (pw_cpI mm 62 42 6)
    rw [show mm 11 4 = nI 4 from (pw_q114 hok).trans (congrArg nI ex)]
    rw [show (nI 4) + (nI 1) = nI (4 + 1) from nI_add _ _]
    refine pw_goto (tgt := 35) (off := 4) (by decide +kernel) (by decide) ?_
    refine pw_blk (pc' := 47) [.putfield 104, .aload 0, .iconst (8), .aload 0, .getfield 102, .iconst 1, .iadd] (by decide +kernel) ?_
    show pw_V x m_X1_remember 1 Z 47 [(0, .ref 11), (1, .ref 42)] [.int ((mm 11 2) + (nI 1)), .int (nI 8), .ref 11] (pw_up (pw_cpI mm 62 42 6) 11 4 (nI (4 + 1)))
    rw [show mm 11 2 = nI (pw_g mm 11 2) from pw_q112 hok]
    rw [show (nI (pw_g mm 11 2)) + (nI 1) = nI ((pw_g mm 11 2) + 1) from nI_add _ _]
    refine pw_cMin l_1_35 (by decide) (Nat.le_of_ble_eq_true rfl) (by decide +kernel) ?_
    show pw_V x m_X1_remember 1 Z 50 [(0, .ref 11), (1, .ref 42)] [.int (pw_min (nI 8) (nI ((pw_g mm 11 2) + 1))), .ref 11] (pw_up (pw_cpI mm 62 42 6) 11 4 (nI (4 + 1)))
    rw [pw_minN (by omega) (by omega)]
    refine pw_blk (pc' := 53) [.putfield 102] (by decide +kernel) ?_
    show pw_V x m_X1_remember 1 Z 53 [(0, .ref 11), (1, .ref 42)] [] (pw_up (pw_up (pw_cpI mm 62 42 6) 11 4 (nI (4 + 1))) 11 2 (nI (min 8 ((pw_g mm 11 2) + 1))))
    rw [← hZ]
    refine pw_rv (by decide +kernel) ?_
    first
    | (exfalso; omega)
    | (refine ⟨rfl, ?_⟩; unfold pw_rem pw_nx; rw [ex]; rfl)
  · rw [ex]
    show pw_V x m_X1_remember 1 Z 8 [(0, .ref 11), (1, .ref 42)] [.int (nI 5), .ref 12] mm
    refine pw_blk (pc' := 10) [.aaload, .aload 1] (by decide +kernel) ?_
    refine ⟨5, rfl, by omega, ?_⟩
    show pw_V x m_X1_remember 1 Z 10 [(0, .ref 11), (1, .ref 42)] [.ref 42, .ref 66] mm
    refine pw_cV (vs := [.ref 42]) (rest := []) k_X0_copy (c_copy_66_42 mm) l_1_31 rfl rfl rfl rfl (by decide) (Nat.le_of_ble_eq_true rfl) (by decide +kernel) ?_
    rintro _ m1 ⟨rfl, e1⟩
    rw [e1]
    clear e1 m1
    show pw_V x m_X1_remember 1 Z 13 [(0, .ref 11), (1, .ref 42)] [] (pw_cpI mm 66 42 6)
    refine pw_blk (pc' := 22) [.aload 0, .aload 0, .getfield 104, .iconst 1, .iadd, .iconst (8)] (by decide +kernel) ?_
    show pw_V x m_X1_remember 1 Z 22 [(0, .ref 11), (1, .ref 42)] [.int (nI 8), .int ((mm 11 4) + (nI 1)), .ref 11] (pw_cpI mm 66 42 6)
    rw [show mm 11 4 = nI 5 from (pw_q114 hok).trans (congrArg nI ex)]
    rw [show (nI 5) + (nI 1) = nI (5 + 1) from nI_add _ _]
    refine pw_in_ge (tgt := 34) (off := 12) (by omega) (by omega) (by decide +kernel) (by decide) (fun h => by omega) (fun _ => ?_)
    refine pw_blk (pc' := 31) [.aload 0, .getfield 104, .iconst 1, .iadd] (by decide +kernel) ?_
    show pw_V x m_X1_remember 1 Z 31 [(0, .ref 11), (1, .ref 42)] [.int ((mm 11 4) + (nI 1)), .ref 11] (pw_cpI mm 66 42 6)
    rw [show mm 11 4 = nI 5 from (pw_q114 hok).trans (congrArg nI ex)]
    rw [show (nI 5) + (nI 1) = nI (5 + 1) from nI_add _ _]
    refine pw_goto (tgt := 35) (off := 4) (by decide +kernel) (by decide) ?_
    refine pw_blk (pc' := 47) [.putfield 104, .aload 0, .iconst (8), .aload 0, .getfield 102, .iconst 1, .iadd] (by decide +kernel) ?_
    show pw_V x m_X1_remember 1 Z 47 [(0, .ref 11), (1, .ref 42)] [.int ((mm 11 2) + (nI 1)), .int (nI 8), .ref 11] (pw_up (pw_cpI mm 66 42 6) 11 4 (nI (5 + 1)))
    rw [show mm 11 2 = nI (pw_g mm 11 2) from pw_q112 hok]
    rw [show (nI (pw_g mm 11 2)) + (nI 1) = nI ((pw_g mm 11 2) + 1) from nI_add _ _]
    refine pw_cMin l_1_35 (by decide) (Nat.le_of_ble_eq_true rfl) (by decide +kernel) ?_
    show pw_V x m_X1_remember 1 Z 50 [(0, .ref 11), (1, .ref 42)] [.int (pw_min (nI 8) (nI ((pw_g mm 11 2) + 1))), .ref 11] (pw_up (pw_cpI mm 66 42 6) 11 4 (nI (5 + 1)))
    rw [pw_minN (by omega) (by omega)]
    refine pw_blk (pc' := 53) [.putfield 102] (by decide +kernel) ?_
    show pw_V x m_X1_remember 1 Z 53 [(0, .ref 11), (1, .ref 42)] [] (pw_up (pw_up (pw_cpI mm 66 42 6) 11 4 (nI (5 + 1))) 11 2 (nI (min 8 ((pw_g mm 11 2) + 1))))
    rw [← hZ]
    refine pw_rv (by decide +kernel) ?_
    first
    | (exfalso; omega)
    | (refine ⟨rfl, ?_⟩; unfold pw_rem pw_nx; rw [ex]; rfl)
  · rw [ex]
    show pw_V x m_X1_remember 1 Z 8 [(0, .ref 11), (1, .ref 42)] [.int (nI 6), .ref 12] mm
    refine pw_blk (pc' := 10) [.aaload, .aload 1] (by decide +kernel) ?_
    refine ⟨6, rfl, by omega, ?_⟩
    show pw_V x m_X1_remember 1 Z 10 [(0, .ref 11), (1, .ref 42)] [.ref 42, .ref 70] mm
    refine pw_cV (vs := [.ref 42]) (rest := []) k_X0_copy (c_copy_70_42 mm) l_1_31 rfl rfl rfl rfl (by decide) (Nat.le_of_ble_eq_true rfl) (by decide +kernel) ?_
    rintro _ m1 ⟨rfl, e1⟩
    rw [e1]
    clear e1 m1
    show pw_V x m_X1_remember 1 Z 13 [(0, .ref 11), (1, .ref 42)] [] (pw_cpI mm 70 42 6)
    refine pw_blk (pc' := 22) [.aload 0, .aload 0, .getfield 104, .iconst 1, .iadd, .iconst (8)] (by decide +kernel) ?_
    show pw_V x m_X1_remember 1 Z 22 [(0, .ref 11), (1, .ref 42)] [.int (nI 8), .int ((mm 11 4) + (nI 1)), .ref 11] (pw_cpI mm 70 42 6)
    rw [show mm 11 4 = nI 6 from (pw_q114 hok).trans (congrArg nI ex)]
    rw [show (nI 6) + (nI 1) = nI (6 + 1) from nI_add _ _]
    refine pw_in_ge (tgt := 34) (off := 12) (by omega) (by omega) (by decide +kernel) (by decide) (fun h => by omega) (fun _ => ?_)
    refine pw_blk (pc' := 31) [.aload 0, .getfield 104, .iconst 1, .iadd] (by decide +kernel) ?_
    show pw_V x m_X1_remember 1 Z 31 [(0, .ref 11), (1, .ref 42)] [.int ((mm 11 4) + (nI 1)), .ref 11] (pw_cpI mm 70 42 6)
    rw [show mm 11 4 = nI 6 from (pw_q114 hok).trans (congrArg nI ex)]
    rw [show (nI 6) + (nI 1) = nI (6 + 1) from nI_add _ _]
    refine pw_goto (tgt := 35) (off := 4) (by decide +kernel) (by decide) ?_
    refine pw_blk (pc' := 47) [.putfield 104, .aload 0, .iconst (8), .aload 0, .getfield 102, .iconst 1, .iadd] (by decide +kernel) ?_
    show pw_V x m_X1_remember 1 Z 47 [(0, .ref 11), (1, .ref 42)] [.int ((mm 11 2) + (nI 1)), .int (nI 8), .ref 11] (pw_up (pw_cpI mm 70 42 6) 11 4 (nI (6 + 1)))
    rw [show mm 11 2 = nI (pw_g mm 11 2) from pw_q112 hok]
    rw [show (nI (pw_g mm 11 2)) + (nI 1) = nI ((pw_g mm 11 2) + 1) from nI_add _ _]
    refine pw_cMin l_1_35 (by decide) (Nat.le_of_ble_eq_true rfl) (by decide +kernel) ?_
    show pw_V x m_X1_remember 1 Z 50 [(0, .ref 11), (1, .ref 42)] [.int (pw_min (nI 8) (nI ((pw_g mm 11 2) + 1))), .ref 11] (pw_up (pw_cpI mm 70 42 6) 11 4 (nI (6 + 1)))
    rw [pw_minN (by omega) (by omega)]
    refine pw_blk (pc' := 53) [.putfield 102] (by decide +kernel) ?_
    show pw_V x m_X1_remember 1 Z 53 [(0, .ref 11), (1, .ref 42)] [] (pw_up (pw_up (pw_cpI mm 70 42 6) 11 4 (nI (6 + 1))) 11 2 (nI (min 8 ((pw_g mm 11 2) + 1))))
    rw [← hZ]
    refine pw_rv (by decide +kernel) ?_
    first
    | (exfalso; omega)
    | (refine ⟨rfl, ?_⟩; unfold pw_rem pw_nx; rw [ex]; rfl)
  · rw [ex]
    show pw_V x m_X1_remember 1 Z 8 [(0, .ref 11), (1, .ref 42)] [.int (nI 7), .ref 12] mm
    refine pw_blk (pc' := 10) [.aaload, .aload 1] (by decide +kernel) ?_
    refine ⟨7, rfl, by omega, ?_⟩
    show pw_V x m_X1_remember 1 Z 10 [(0, .ref 11), (1, .ref 42)] [.ref 42, .ref 74] mm
    refine pw_cV (vs := [.ref 42]) (rest := []) k_X0_copy (c_copy_74_42 mm) l_1_31 rfl rfl rfl rfl (by decide) (Nat.le_of_ble_eq_true rfl) (by decide +kernel) ?_
    rintro _ m1 ⟨rfl, e1⟩
    rw [e1]
    clear e1 m1
    show pw_V x m_X1_remember 1 Z 13 [(0, .ref 11), (1, .ref 42)] [] (pw_cpI mm 74 42 6)
    refine pw_blk (pc' := 22) [.aload 0, .aload 0, .getfield 104, .iconst 1, .iadd, .iconst (8)] (by decide +kernel) ?_
    show pw_V x m_X1_remember 1 Z 22 [(0, .ref 11), (1, .ref 42)] [.int (nI 8), .int ((mm 11 4) + (nI 1)), .ref 11] (pw_cpI mm 74 42 6)
    rw [show mm 11 4 = nI 7 from (pw_q114 hok).trans (congrArg nI ex)]
    rw [show (nI 7) + (nI 1) = nI (7 + 1) from nI_add _ _]
    refine pw_in_ge (tgt := 34) (off := 12) (by omega) (by omega) (by decide +kernel) (by decide) (fun _ => ?_) (fun h => by omega)
    refine pw_blk (pc' := 47) [.iconst 0, .putfield 104, .aload 0, .iconst (8), .aload 0, .getfield 102, .iconst 1, .iadd] (by decide +kernel) ?_
    show pw_V x m_X1_remember 1 Z 47 [(0, .ref 11), (1, .ref 42)] [.int ((mm 11 2) + (nI 1)), .int (nI 8), .ref 11] (pw_up (pw_cpI mm 74 42 6) 11 4 (nI 0))
    rw [show mm 11 2 = nI (pw_g mm 11 2) from pw_q112 hok]
    rw [show (nI (pw_g mm 11 2)) + (nI 1) = nI ((pw_g mm 11 2) + 1) from nI_add _ _]
    refine pw_cMin l_1_35 (by decide) (Nat.le_of_ble_eq_true rfl) (by decide +kernel) ?_
    show pw_V x m_X1_remember 1 Z 50 [(0, .ref 11), (1, .ref 42)] [.int (pw_min (nI 8) (nI ((pw_g mm 11 2) + 1))), .ref 11] (pw_up (pw_cpI mm 74 42 6) 11 4 (nI 0))
    rw [pw_minN (by omega) (by omega)]
    refine pw_blk (pc' := 53) [.putfield 102] (by decide +kernel) ?_
    show pw_V x m_X1_remember 1 Z 53 [(0, .ref 11), (1, .ref 42)] [] (pw_up (pw_up (pw_cpI mm 74 42 6) 11 4 (nI 0)) 11 2 (nI (min 8 ((pw_g mm 11 2) + 1))))
    rw [← hZ]
    refine pw_rv (by decide +kernel) ?_
    first
    | (exfalso; omega)
    | (refine ⟨rfl, ?_⟩; unfold pw_rem pw_nx; rw [ex]; rfl)

set_option maxHeartbeats 4000000 in
set_option maxRecDepth 100000 in
theorem c_recall (mm : pw_m) (hok : pw_ok mm) (h0 : 0 < pw_g mm 11 2) : pw_Ct 1 yX1_recall m_X1_recall [.ref 11, .ref 42] mm (fun r m' => r = none ∧ m' = pw_rec mm) := by
  refine pw_ct (by decide +kernel) rfl (Nat.le_of_ble_eq_true rfl) (fun x => ?_)
  generalize hZ : pw_Z x _ = Z
  have bu := pw_b112 hok
  show pw_V x m_X1_recall 1 Z 0 [(0, .ref 11), (1, .ref 42)] [] mm
  refine pw_blk (pc' := 1) [.aload 0] (by decide +kernel) ?_
  show pw_V x m_X1_recall 1 Z 1 [(0, .ref 11), (1, .ref 42)] [.ref 11] mm
  have bx := pw_b114 hok
  rcases pw_lt8 bx with ex | ex | ex | ex | ex | ex | ex | ex
  · show pw_V x m_X1_recall 1 Z 1 [(0, .ref 11), (1, .ref 42)] [.ref 11] mm
    refine pw_blk (pc' := 5) [.aload 0, .getfield 104] (by decide +kernel) ?_
    show pw_V x m_X1_recall 1 Z 5 [(0, .ref 11), (1, .ref 42)] [.int (mm 11 4), .ref 11] mm
    rw [show mm 11 4 = nI 0 from (pw_q114 hok).trans (congrArg nI ex)]
    refine pw_iz_le (tgt := 17) (off := 12) (by omega) (by decide +kernel) (by decide) (fun _ => ?_) (fun h => by omega)
    refine pw_blk (pc' := 32) [.iconst (7), .putfield 104, .aload 1, .aload 0, .getfield 100, .aload 0, .getfield 104, .aaload] (by decide +kernel) ?_
    refine ⟨7, rfl, by omega, ?_⟩
    show pw_V x m_X1_recall 1 Z 32 [(0, .ref 11), (1, .ref 42)] [.ref 74, .ref 42] (pw_up mm 11 4 (nI 7))
    refine pw_cV (vs := [.ref 74]) (rest := []) k_X0_copy (c_copy_42_74 (pw_up mm 11 4 (nI 7))) l_1_31 rfl rfl rfl rfl (by decide) (Nat.le_of_ble_eq_true rfl) (by decide +kernel) ?_
    rintro _ m1 ⟨rfl, e1⟩
    rw [e1]
    clear e1 m1
    show pw_V x m_X1_recall 1 Z 35 [(0, .ref 11), (1, .ref 42)] [] (pw_cpI (pw_up mm 11 4 (nI 7)) 42 74 6)
    refine pw_blk (pc' := 41) [.aload 0, .dup, .getfield 102, .iconst 1] (by decide +kernel) ?_
    show pw_V x m_X1_recall 1 Z 41 [(0, .ref 11), (1, .ref 42)] [.int (nI 1), .int (mm 11 2), .ref 11] (pw_cpI (pw_up mm 11 4 (nI 7)) 42 74 6)
    rw [show mm 11 2 = nI (pw_g mm 11 2) from pw_q112 hok]
    refine pw_blk (pc' := 42) [.isub] (by decide +kernel) ?_
    show pw_V x m_X1_recall 1 Z 42 [(0, .ref 11), (1, .ref 42)] [.int (nI (pw_g mm 11 2) - nI 1), .ref 11] (pw_cpI (pw_up mm 11 4 (nI 7)) 42 74 6)
    rw [pk_sub (show 1 ≤ (pw_g mm 11 2) by omega)]
    refine pw_blk (pc' := 45) [.putfield 102] (by decide +kernel) ?_
    show pw_V x m_X1_recall 1 Z 45 [(0, .ref 11), (1, .ref 42)] [] (pw_up (pw_cpI (pw_up mm 11 4 (nI 7)) 42 74 6) 11 2 (nI ((pw_g mm 11 2) - 1)))
    rw [← hZ]
    refine pw_rv (by decide +kernel) ?_
    first
    | (exfalso; omega)
    | (refine ⟨rfl, ?_⟩; unfold pw_rec pw_px; rw [ex]; rfl)
  · show pw_V x m_X1_recall 1 Z 1 [(0, .ref 11), (1, .ref 42)] [.ref 11] mm
    refine pw_blk (pc' := 5) [.aload 0, .getfield 104] (by decide +kernel) ?_
    show pw_V x m_X1_recall 1 Z 5 [(0, .ref 11), (1, .ref 42)] [.int (mm 11 4), .ref 11] mm
    rw [show mm 11 4 = nI 1 from (pw_q114 hok).trans (congrArg nI ex)]
    refine pw_iz_le (tgt := 17) (off := 12) (by omega) (by decide +kernel) (by decide) (fun h => by omega) (fun _ => ?_)
    refine pw_blk (pc' := 13) [.aload 0, .getfield 104, .iconst 1] (by decide +kernel) ?_
    show pw_V x m_X1_recall 1 Z 13 [(0, .ref 11), (1, .ref 42)] [.int (nI 1), .int (mm 11 4), .ref 11] mm
    rw [show mm 11 4 = nI 1 from (pw_q114 hok).trans (congrArg nI ex)]
    refine pw_blk (pc' := 14) [.isub] (by decide +kernel) ?_
    show pw_V x m_X1_recall 1 Z 14 [(0, .ref 11), (1, .ref 42)] [.int (nI 1 - nI 1), .ref 11] mm
    rw [pk_sub (show 1 ≤ 1 by omega)]
    refine pw_goto (tgt := 19) (off := 5) (by decide +kernel) (by decide) ?_
    refine pw_blk (pc' := 32) [.putfield 104, .aload 1, .aload 0, .getfield 100, .aload 0, .getfield 104, .aaload] (by decide +kernel) ?_
    refine ⟨(1 - 1), rfl, by omega, ?_⟩
    show pw_V x m_X1_recall 1 Z 32 [(0, .ref 11), (1, .ref 42)] [.ref 46, .ref 42] (pw_up mm 11 4 (nI (1 - 1)))
    refine pw_cV (vs := [.ref 46]) (rest := []) k_X0_copy (c_copy_42_46 (pw_up mm 11 4 (nI (1 - 1)))) l_1_31 rfl rfl rfl rfl (by decide) (Nat.le_of_ble_eq_true rfl) (by decide +kernel) ?_
    rintro _ m1 ⟨rfl, e1⟩
    rw [e1]
    clear e1 m1
    show pw_V x m_X1_recall 1 Z 35 [(0, .ref 11), (1, .ref 42)] [] (pw_cpI (pw_up mm 11 4 (nI (1 - 1))) 42 46 6)
    refine pw_blk (pc' := 41) [.aload 0, .dup, .getfield 102, .iconst 1] (by decide +kernel) ?_
    show pw_V x m_X1_recall 1 Z 41 [(0, .ref 11), (1, .ref 42)] [.int (nI 1), .int (mm 11 2), .ref 11] (pw_cpI (pw_up mm 11 4 (nI (1 - 1))) 42 46 6)
    rw [show mm 11 2 = nI (pw_g mm 11 2) from pw_q112 hok]
    refine pw_blk (pc' := 42) [.isub] (by decide +kernel) ?_
    show pw_V x m_X1_recall 1 Z 42 [(0, .ref 11), (1, .ref 42)] [.int (nI (pw_g mm 11 2) - nI 1), .ref 11] (pw_cpI (pw_up mm 11 4 (nI (1 - 1))) 42 46 6)
    rw [pk_sub (show 1 ≤ (pw_g mm 11 2) by omega)]
    refine pw_blk (pc' := 45) [.putfield 102] (by decide +kernel) ?_
    show pw_V x m_X1_recall 1 Z 45 [(0, .ref 11), (1, .ref 42)] [] (pw_up (pw_cpI (pw_up mm 11 4 (nI (1 - 1))) 42 46 6) 11 2 (nI ((pw_g mm 11 2) - 1)))
    rw [← hZ]
    refine pw_rv (by decide +kernel) ?_
    first
    | (exfalso; omega)
    | (refine ⟨rfl, ?_⟩; unfold pw_rec pw_px; rw [ex]; rfl)
  · show pw_V x m_X1_recall 1 Z 1 [(0, .ref 11), (1, .ref 42)] [.ref 11] mm
    refine pw_blk (pc' := 5) [.aload 0, .getfield 104] (by decide +kernel) ?_
    show pw_V x m_X1_recall 1 Z 5 [(0, .ref 11), (1, .ref 42)] [.int (mm 11 4), .ref 11] mm
    rw [show mm 11 4 = nI 2 from (pw_q114 hok).trans (congrArg nI ex)]
    refine pw_iz_le (tgt := 17) (off := 12) (by omega) (by decide +kernel) (by decide) (fun h => by omega) (fun _ => ?_)
    refine pw_blk (pc' := 13) [.aload 0, .getfield 104, .iconst 1] (by decide +kernel) ?_
    show pw_V x m_X1_recall 1 Z 13 [(0, .ref 11), (1, .ref 42)] [.int (nI 1), .int (mm 11 4), .ref 11] mm
    rw [show mm 11 4 = nI 2 from (pw_q114 hok).trans (congrArg nI ex)]
    refine pw_blk (pc' := 14) [.isub] (by decide +kernel) ?_
    show pw_V x m_X1_recall 1 Z 14 [(0, .ref 11), (1, .ref 42)] [.int (nI 2 - nI 1), .ref 11] mm
    rw [pk_sub (show 1 ≤ 2 by omega)]
    refine pw_goto (tgt := 19) (off := 5) (by decide +kernel) (by decide) ?_
    refine pw_blk (pc' := 32) [.putfield 104, .aload 1, .aload 0, .getfield 100, .aload 0, .getfield 104, .aaload] (by decide +kernel) ?_
    refine ⟨(2 - 1), rfl, by omega, ?_⟩
    show pw_V x m_X1_recall 1 Z 32 [(0, .ref 11), (1, .ref 42)] [.ref 50, .ref 42] (pw_up mm 11 4 (nI (2 - 1)))
    refine pw_cV (vs := [.ref 50]) (rest := []) k_X0_copy (c_copy_42_50 (pw_up mm 11 4 (nI (2 - 1)))) l_1_31 rfl rfl rfl rfl (by decide) (Nat.le_of_ble_eq_true rfl) (by decide +kernel) ?_
    rintro _ m1 ⟨rfl, e1⟩
    rw [e1]
    clear e1 m1
    show pw_V x m_X1_recall 1 Z 35 [(0, .ref 11), (1, .ref 42)] [] (pw_cpI (pw_up mm 11 4 (nI (2 - 1))) 42 50 6)
    refine pw_blk (pc' := 41) [.aload 0, .dup, .getfield 102, .iconst 1] (by decide +kernel) ?_
    show pw_V x m_X1_recall 1 Z 41 [(0, .ref 11), (1, .ref 42)] [.int (nI 1), .int (mm 11 2), .ref 11] (pw_cpI (pw_up mm 11 4 (nI (2 - 1))) 42 50 6)
    rw [show mm 11 2 = nI (pw_g mm 11 2) from pw_q112 hok]
    refine pw_blk (pc' := 42) [.isub] (by decide +kernel) ?_
    show pw_V x m_X1_recall 1 Z 42 [(0, .ref 11), (1, .ref 42)] [.int (nI (pw_g mm 11 2) - nI 1), .ref 11] (pw_cpI (pw_up mm 11 4 (nI (2 - 1))) 42 50 6)
    rw [pk_sub (show 1 ≤ (pw_g mm 11 2) by omega)]
    refine pw_blk (pc' := 45) [.putfield 102] (by decide +kernel) ?_
    show pw_V x m_X1_recall 1 Z 45 [(0, .ref 11), (1, .ref 42)] [] (pw_up (pw_cpI (pw_up mm 11 4 (nI (2 - 1))) 42 50 6) 11 2 (nI ((pw_g mm 11 2) - 1)))
    rw [← hZ]
    refine pw_rv (by decide +kernel) ?_
    first
    | (exfalso; omega)
    | (refine ⟨rfl, ?_⟩; unfold pw_rec pw_px; rw [ex]; rfl)
  · show pw_V x m_X1_recall 1 Z 1 [(0, .ref 11), (1, .ref 42)] [.ref 11] mm
    refine pw_blk (pc' := 5) [.aload 0, .getfield 104] (by decide +kernel) ?_
    show pw_V x m_X1_recall 1 Z 5 [(0, .ref 11), (1, .ref 42)] [.int (mm 11 4), .ref 11] mm
    rw [show mm 11 4 = nI 3 from (pw_q114 hok).trans (congrArg nI ex)]
    refine pw_iz_le (tgt := 17) (off := 12) (by omega) (by decide +kernel) (by decide) (fun h => by omega) (fun _ => ?_)
    refine pw_blk (pc' := 13) [.aload 0, .getfield 104, .iconst 1] (by decide +kernel) ?_
    show pw_V x m_X1_recall 1 Z 13 [(0, .ref 11), (1, .ref 42)] [.int (nI 1), .int (mm 11 4), .ref 11] mm
    rw [show mm 11 4 = nI 3 from (pw_q114 hok).trans (congrArg nI ex)]
    refine pw_blk (pc' := 14) [.isub] (by decide +kernel) ?_
    show pw_V x m_X1_recall 1 Z 14 [(0, .ref 11), (1, .ref 42)] [.int (nI 3 - nI 1), .ref 11] mm
    rw [pk_sub (show 1 ≤ 3 by omega)]
    refine pw_goto (tgt := 19) (off := 5) (by decide +kernel) (by decide) ?_
    refine pw_blk (pc' := 32) [.putfield 104, .aload 1, .aload 0, .getfield 100, .aload 0, .getfield 104, .aaload] (by decide +kernel) ?_
    refine ⟨(3 - 1), rfl, by omega, ?_⟩
    show pw_V x m_X1_recall 1 Z 32 [(0, .ref 11), (1, .ref 42)] [.ref 54, .ref 42] (pw_up mm 11 4 (nI (3 - 1)))
    refine pw_cV (vs := [.ref 54]) (rest := []) k_X0_copy (c_copy_42_54 (pw_up mm 11 4 (nI (3 - 1)))) l_1_31 rfl rfl rfl rfl (by decide) (Nat.le_of_ble_eq_true rfl) (by decide +kernel) ?_
    rintro _ m1 ⟨rfl, e1⟩
    rw [e1]
    clear e1 m1
    show pw_V x m_X1_recall 1 Z 35 [(0, .ref 11), (1, .ref 42)] [] (pw_cpI (pw_up mm 11 4 (nI (3 - 1))) 42 54 6)
    refine pw_blk (pc' := 41) [.aload 0, .dup, .getfield 102, .iconst 1] (by decide +kernel) ?_
    show pw_V x m_X1_recall 1 Z 41 [(0, .ref 11), (1, .ref 42)] [.int (nI 1), .int (mm 11 2), .ref 11] (pw_cpI (pw_up mm 11 4 (nI (3 - 1))) 42 54 6)
    rw [show mm 11 2 = nI (pw_g mm 11 2) from pw_q112 hok]
    refine pw_blk (pc' := 42) [.isub] (by decide +kernel) ?_
    show pw_V x m_X1_recall 1 Z 42 [(0, .ref 11), (1, .ref 42)] [.int (nI (pw_g mm 11 2) - nI 1), .ref 11] (pw_cpI (pw_up mm 11 4 (nI (3 - 1))) 42 54 6)
    rw [pk_sub (show 1 ≤ (pw_g mm 11 2) by omega)]
    refine pw_blk (pc' := 45) [.putfield 102] (by decide +kernel) ?_
    show pw_V x m_X1_recall 1 Z 45 [(0, .ref 11), (1, .ref 42)] [] (pw_up (pw_cpI (pw_up mm 11 4 (nI (3 - 1))) 42 54 6) 11 2 (nI ((pw_g mm 11 2) - 1)))
    rw [← hZ]
    refine pw_rv (by decide +kernel) ?_
    first
    | (exfalso; omega)
    | (refine ⟨rfl, ?_⟩; unfold pw_rec pw_px; rw [ex]; rfl)
  · show pw_V x m_X1_recall 1 Z 1 [(0, .ref 11), (1, .ref 42)] [.ref 11] mm
    refine pw_blk (pc' := 5) [.aload 0, .getfield 104] (by decide +kernel) ?_
    show pw_V x m_X1_recall 1 Z 5 [(0, .ref 11), (1, .ref 42)] [.int (mm 11 4), .ref 11] mm
    rw [show mm 11 4 = nI 4 from (pw_q114 hok).trans (congrArg nI ex)]
    refine pw_iz_le (tgt := 17) (off := 12) (by omega) (by decide +kernel) (by decide) (fun h => by omega) (fun _ => ?_)
    refine pw_blk (pc' := 13) [.aload 0, .getfield 104, .iconst 1] (by decide +kernel) ?_
    show pw_V x m_X1_recall 1 Z 13 [(0, .ref 11), (1, .ref 42)] [.int (nI 1), .int (mm 11 4), .ref 11] mm
    rw [show mm 11 4 = nI 4 from (pw_q114 hok).trans (congrArg nI ex)]
    refine pw_blk (pc' := 14) [.isub] (by decide +kernel) ?_
    show pw_V x m_X1_recall 1 Z 14 [(0, .ref 11), (1, .ref 42)] [.int (nI 4 - nI 1), .ref 11] mm
    rw [pk_sub (show 1 ≤ 4 by omega)]
    refine pw_goto (tgt := 19) (off := 5) (by decide +kernel) (by decide) ?_
    refine pw_blk (pc' := 32) [.putfield 104, .aload 1, .aload 0, .getfield 100, .aload 0, .getfield 104, .aaload] (by decide +kernel) ?_
    refine ⟨(4 - 1), rfl, by omega, ?_⟩
    show pw_V x m_X1_recall 1 Z 32 [(0, .ref 11), (1, .ref 42)] [.ref 58, .ref 42] (pw_up mm 11 4 (nI (4 - 1)))
    refine pw_cV (vs := [.ref 58]) (rest := []) k_X0_copy (c_copy_42_58 (pw_up mm 11 4 (nI (4 - 1)))) l_1_31 rfl rfl rfl rfl (by decide) (Nat.le_of_ble_eq_true rfl) (by decide +kernel) ?_
    rintro _ m1 ⟨rfl, e1⟩
    rw [e1]
    clear e1 m1
    show pw_V x m_X1_recall 1 Z 35 [(0, .ref 11), (1, .ref 42)] [] (pw_cpI (pw_up mm 11 4 (nI (4 - 1))) 42 58 6)
    refine pw_blk (pc' := 41) [.aload 0, .dup, .getfield 102, .iconst 1] (by decide +kernel) ?_
    show pw_V x m_X1_recall 1 Z 41 [(0, .ref 11), (1, .ref 42)] [.int (nI 1), .int (mm 11 2), .ref 11] (pw_cpI (pw_up mm 11 4 (nI (4 - 1))) 42 58 6)
    rw [show mm 11 2 = nI (pw_g mm 11 2) from pw_q112 hok]
    refine pw_blk (pc' := 42) [.isub] (by decide +kernel) ?_
    show pw_V x m_X1_recall 1 Z 42 [(0, .ref 11), (1, .ref 42)] [.int (nI (pw_g mm 11 2) - nI 1), .ref 11] (pw_cpI (pw_up mm 11 4 (nI (4 - 1))) 42 58 6)
    rw [pk_sub (show 1 ≤ (pw_g mm 11 2) by omega)]
    refine pw_blk (pc' := 45) [.putfield 102] (by decide +kernel) ?_
    show pw_V x m_X1_recall 1 Z 45 [(0, .ref 11), (1, .ref 42)] [] (pw_up (pw_cpI (pw_up mm 11 4 (nI (4 - 1))) 42 58 6) 11 2 (nI ((pw_g mm 11 2) - 1)))
    rw [← hZ]
    refine pw_rv (by decide +kernel) ?_
    first
    | (exfalso; omega)
    | (refine ⟨rfl, ?_⟩; unfold pw_rec pw_px; rw [ex]; rfl)
  · show pw_V x m_X1_recall 1 Z 1 [(0, .ref 11), (1, .ref 42)] [.ref 11] mm
    refine pw_blk (pc' := 5) [.aload 0, .getfield 104] (by decide +kernel) ?_
    show pw_V x m_X1_recall 1 Z 5 [(0, .ref 11), (1, .ref 42)] [.int (mm 11 4), .ref 11] mm
    rw [show mm 11 4 = nI 5 from (pw_q114 hok).trans (congrArg nI ex)]
    refine pw_iz_le (tgt := 17) (off := 12) (by omega) (by decide +kernel) (by decide) (fun h => by omega) (fun _ => ?_)
    refine pw_blk (pc' := 13) [.aload 0, .getfield 104, .iconst 1] (by decide +kernel) ?_
    show pw_V x m_X1_recall 1 Z 13 [(0, .ref 11), (1, .ref 42)] [.int (nI 1), .int (mm 11 4), .ref 11] mm
    rw [show mm 11 4 = nI 5 from (pw_q114 hok).trans (congrArg nI ex)]
    refine pw_blk (pc' := 14) [.isub] (by decide +kernel) ?_
    show pw_V x m_X1_recall 1 Z 14 [(0, .ref 11), (1, .ref 42)] [.int (nI 5 - nI 1), .ref 11] mm
    rw [pk_sub (show 1 ≤ 5 by omega)]
    refine pw_goto (tgt := 19) (off := 5) (by decide +kernel) (by decide) ?_
    refine pw_blk (pc' := 32) [.putfield 104, .aload 1, .aload 0, .getfield 100, .aload 0, .getfield 104, .aaload] (by decide +kernel) ?_
    refine ⟨(5 - 1), rfl, by omega, ?_⟩
    show pw_V x m_X1_recall 1 Z 32 [(0, .ref 11), (1, .ref 42)] [.ref 62, .ref 42] (pw_up mm 11 4 (nI (5 - 1)))
    refine pw_cV (vs := [.ref 62]) (rest := []) k_X0_copy (c_copy_42_62 (pw_up mm 11 4 (nI (5 - 1)))) l_1_31 rfl rfl rfl rfl (by decide) (Nat.le_of_ble_eq_true rfl) (by decide +kernel) ?_
    rintro _ m1 ⟨rfl, e1⟩
    rw [e1]
    clear e1 m1
    show pw_V x m_X1_recall 1 Z 35 [(0, .ref 11), (1, .ref 42)] [] (pw_cpI (pw_up mm 11 4 (nI (5 - 1))) 42 62 6)
    refine pw_blk (pc' := 41) [.aload 0, .dup, .getfield 102, .iconst 1] (by decide +kernel) ?_
    show pw_V x m_X1_recall 1 Z 41 [(0, .ref 11), (1, .ref 42)] [.int (nI 1), .int (mm 11 2), .ref 11] (pw_cpI (pw_up mm 11 4 (nI (5 - 1))) 42 62 6)
    rw [show mm 11 2 = nI (pw_g mm 11 2) from pw_q112 hok]
    refine pw_blk (pc' := 42) [.isub] (by decide +kernel) ?_
    show pw_V x m_X1_recall 1 Z 42 [(0, .ref 11), (1, .ref 42)] [.int (nI (pw_g mm 11 2) - nI 1), .ref 11] (pw_cpI (pw_up mm 11 4 (nI (5 - 1))) 42 62 6)
    rw [pk_sub (show 1 ≤ (pw_g mm 11 2) by omega)]
    refine pw_blk (pc' := 45) [.putfield 102] (by decide +kernel) ?_
    show pw_V x m_X1_recall 1 Z 45 [(0, .ref 11), (1, .ref 42)] [] (pw_up (pw_cpI (pw_up mm 11 4 (nI (5 - 1))) 42 62 6) 11 2 (nI ((pw_g mm 11 2) - 1)))
    rw [← hZ]
    refine pw_rv (by decide +kernel) ?_
    first
    | (exfalso; omega)
    | (refine ⟨rfl, ?_⟩; unfold pw_rec pw_px; rw [ex]; rfl)
  · show pw_V x m_X1_recall 1 Z 1 [(0, .ref 11), (1, .ref 42)] [.ref 11] mm
    refine pw_blk (pc' := 5) [.aload 0, .getfield 104] (by decide +kernel) ?_
    show pw_V x m_X1_recall 1 Z 5 [(0, .ref 11), (1, .ref 42)] [.int (mm 11 4), .ref 11] mm
    rw [show mm 11 4 = nI 6 from (pw_q114 hok).trans (congrArg nI ex)]
    refine pw_iz_le (tgt := 17) (off := 12) (by omega) (by decide +kernel) (by decide) (fun h => by omega) (fun _ => ?_)
    refine pw_blk (pc' := 13) [.aload 0, .getfield 104, .iconst 1] (by decide +kernel) ?_
    show pw_V x m_X1_recall 1 Z 13 [(0, .ref 11), (1, .ref 42)] [.int (nI 1), .int (mm 11 4), .ref 11] mm
    rw [show mm 11 4 = nI 6 from (pw_q114 hok).trans (congrArg nI ex)]
    refine pw_blk (pc' := 14) [.isub] (by decide +kernel) ?_
    show pw_V x m_X1_recall 1 Z 14 [(0, .ref 11), (1, .ref 42)] [.int (nI 6 - nI 1), .ref 11] mm
    rw [pk_sub (show 1 ≤ 6 by omega)]
    refine pw_goto (tgt := 19) (off := 5) (by decide +kernel) (by decide) ?_
    refine pw_blk (pc' := 32) [.putfield 104, .aload 1, .aload 0, .getfield 100, .aload 0, .getfield 104, .aaload] (by decide +kernel) ?_
    refine ⟨(6 - 1), rfl, by omega, ?_⟩
    show pw_V x m_X1_recall 1 Z 32 [(0, .ref 11), (1, .ref 42)] [.ref 66, .ref 42] (pw_up mm 11 4 (nI (6 - 1)))
    refine pw_cV (vs := [.ref 66]) (rest := []) k_X0_copy (c_copy_42_66 (pw_up mm 11 4 (nI (6 - 1)))) l_1_31 rfl rfl rfl rfl (by decide) (Nat.le_of_ble_eq_true rfl) (by decide +kernel) ?_
    rintro _ m1 ⟨rfl, e1⟩
    rw [e1]
    clear e1 m1
    show pw_V x m_X1_recall 1 Z 35 [(0, .ref 11), (1, .ref 42)] [] (pw_cpI (pw_up mm 11 4 (nI (6 - 1))) 42 66 6)
    refine pw_blk (pc' := 41) [.aload 0, .dup, .getfield 102, .iconst 1] (by decide +kernel) ?_
    show pw_V x m_X1_recall 1 Z 41 [(0, .ref 11), (1, .ref 42)] [.int (nI 1), .int (mm 11 2), .ref 11] (pw_cpI (pw_up mm 11 4 (nI (6 - 1))) 42 66 6)
    rw [show mm 11 2 = nI (pw_g mm 11 2) from pw_q112 hok]
    refine pw_blk (pc' := 42) [.isub] (by decide +kernel) ?_
    show pw_V x m_X1_recall 1 Z 42 [(0, .ref 11), (1, .ref 42)] [.int (nI (pw_g mm 11 2) - nI 1), .ref 11] (pw_cpI (pw_up mm 11 4 (nI (6 - 1))) 42 66 6)
    rw [pk_sub (show 1 ≤ (pw_g mm 11 2) by omega)]
    refine pw_blk (pc' := 45) [.putfield 102] (by decide +kernel) ?_
    show pw_V x m_X1_recall 1 Z 45 [(0, .ref 11), (1, .ref 42)] [] (pw_up (pw_cpI (pw_up mm 11 4 (nI (6 - 1))) 42 66 6) 11 2 (nI ((pw_g mm 11 2) - 1)))
    rw [← hZ]
    refine pw_rv (by decide +kernel) ?_
    first
    | (exfalso; omega)
    | (refine ⟨rfl, ?_⟩; unfold pw_rec pw_px; rw [ex]; rfl)
  · show pw_V x m_X1_recall 1 Z 1 [(0, .ref 11), (1, .ref 42)] [.ref 11] mm
    refine pw_blk (pc' := 5) [.aload 0, .getfield 104] (by decide +kernel) ?_
    show pw_V x m_X1_recall 1 Z 5 [(0, .ref 11), (1, .ref 42)] [.int (mm 11 4), .ref 11] mm
    rw [show mm 11 4 = nI 7 from (pw_q114 hok).trans (congrArg nI ex)]
    refine pw_iz_le (tgt := 17) (off := 12) (by omega) (by decide +kernel) (by decide) (fun h => by omega) (fun _ => ?_)
    refine pw_blk (pc' := 13) [.aload 0, .getfield 104, .iconst 1] (by decide +kernel) ?_
    show pw_V x m_X1_recall 1 Z 13 [(0, .ref 11), (1, .ref 42)] [.int (nI 1), .int (mm 11 4), .ref 11] mm
    rw [show mm 11 4 = nI 7 from (pw_q114 hok).trans (congrArg nI ex)]
    refine pw_blk (pc' := 14) [.isub] (by decide +kernel) ?_
    show pw_V x m_X1_recall 1 Z 14 [(0, .ref 11), (1, .ref 42)] [.int (nI 7 - nI 1), .ref 11] mm
    rw [pk_sub (show 1 ≤ 7 by omega)]
    refine pw_goto (tgt := 19) (off := 5) (by decide +kernel) (by decide) ?_
    refine pw_blk (pc' := 32) [.putfield 104, .aload 1, .aload 0, .getfield 100, .aload 0, .getfield 104, .aaload] (by decide +kernel) ?_
    refine ⟨(7 - 1), rfl, by omega, ?_⟩
    show pw_V x m_X1_recall 1 Z 32 [(0, .ref 11), (1, .ref 42)] [.ref 70, .ref 42] (pw_up mm 11 4 (nI (7 - 1)))
    refine pw_cV (vs := [.ref 70]) (rest := []) k_X0_copy (c_copy_42_70 (pw_up mm 11 4 (nI (7 - 1)))) l_1_31 rfl rfl rfl rfl (by decide) (Nat.le_of_ble_eq_true rfl) (by decide +kernel) ?_
    rintro _ m1 ⟨rfl, e1⟩
    rw [e1]
    clear e1 m1
    show pw_V x m_X1_recall 1 Z 35 [(0, .ref 11), (1, .ref 42)] [] (pw_cpI (pw_up mm 11 4 (nI (7 - 1))) 42 70 6)
    refine pw_blk (pc' := 41) [.aload 0, .dup, .getfield 102, .iconst 1] (by decide +kernel) ?_
    show pw_V x m_X1_recall 1 Z 41 [(0, .ref 11), (1, .ref 42)] [.int (nI 1), .int (mm 11 2), .ref 11] (pw_cpI (pw_up mm 11 4 (nI (7 - 1))) 42 70 6)
    rw [show mm 11 2 = nI (pw_g mm 11 2) from pw_q112 hok]
    refine pw_blk (pc' := 42) [.isub] (by decide +kernel) ?_
    show pw_V x m_X1_recall 1 Z 42 [(0, .ref 11), (1, .ref 42)] [.int (nI (pw_g mm 11 2) - nI 1), .ref 11] (pw_cpI (pw_up mm 11 4 (nI (7 - 1))) 42 70 6)
    rw [pk_sub (show 1 ≤ (pw_g mm 11 2) by omega)]
    refine pw_blk (pc' := 45) [.putfield 102] (by decide +kernel) ?_
    show pw_V x m_X1_recall 1 Z 45 [(0, .ref 11), (1, .ref 42)] [] (pw_up (pw_cpI (pw_up mm 11 4 (nI (7 - 1))) 42 70 6) 11 2 (nI ((pw_g mm 11 2) - 1)))
    rw [← hZ]
    refine pw_rv (by decide +kernel) ?_
    first
    | (exfalso; omega)
    | (refine ⟨rfl, ?_⟩; unfold pw_rec pw_px; rw [ex]; rfl)

set_option maxHeartbeats 4000000 in
set_option maxRecDepth 100000 in
theorem c_clear (mm : pw_m) : pw_Ct 0 yX1_clear m_X1_clear [.ref 11] mm (fun r m' => r = none ∧ m' = pw_up (pw_up mm 11 2 0) 11 3 0) := by
  refine pw_ct (by decide +kernel) rfl (Nat.le_of_ble_eq_true rfl) (fun x => ?_)
  generalize hZ : pw_Z x _ = Z
  show pw_V x m_X1_clear 0 Z 0 [(0, .ref 11)] [] mm
  refine pw_blk (pc' := 10) [.aload 0, .iconst 0, .putfield 102, .aload 0, .iconst 0, .putfield 103] (by decide +kernel) ?_
  show pw_V x m_X1_clear 0 Z 10 [(0, .ref 11)] [] (pw_up (pw_up mm 11 2 (nI 0)) 11 3 (nI 0))
  rw [← hZ]
  refine pw_rv (by decide +kernel) ?_
  exact ⟨rfl, rfl⟩

def pw_rsI (A : pw_m) (i : Nat) : pw_m := fun c => if c = 45 then pw_c6 (A 45) (fun _ => -1) i else A c
theorem pw_rsI_s {A : pw_m} {i : Nat} : pw_up (pw_rsI A i) 45 i (-1) = pw_rsI A (i + 1) := by
  funext c
  by_cases h : c = 45
  · subst h; rw [pw_up_eq]; exact pw_c6_s (g := fun _ => -1)
  · rw [pw_up_ne h]; unfold pw_rsI; rw [if_neg h, if_neg h]
theorem pw_rsI_0 {A : pw_m} : pw_rsI A 0 = A := by
  funext c
  unfold pw_rsI
  split
  · rename_i h; subst h; exact pw_c6_0
  · rfl

set_option maxHeartbeats 4000000 in
set_option maxRecDepth 100000 in
theorem c_allRise (mm : pw_m) : pw_Ct 0 yX0_allRise m_X0_allRise [.ref 42] mm (fun r m' => r = none ∧ m' = pw_rsI mm 6) := by
  refine pw_ct (by decide +kernel) rfl (Nat.le_of_ble_eq_true rfl) (fun x => ?_)
  generalize hZ : pw_Z x _ = Z
  have loop : ∀ i : Nat, i ≤ 6 → pw_V x m_X0_allRise 0 Z 2 [(0, .ref 42), (1, .int (nI i))] [] (pw_rsI mm i) := by
    refine pw_dn 6 (fun i hi ih => ?_)
    refine pw_blk (pc' := 5) [.iload 1, .iconst (6)] (by decide +kernel) ?_
    show pw_V x m_X0_allRise 0 Z 5 [(0, .ref 42), (1, .int (nI i))] [.int (nI 6), .int (nI i)] (pw_rsI mm i)
    refine pw_in_ge (tgt := 21) (off := 16) (by omega) (by omega) (by decide +kernel) (by decide) (fun h5 => ?_) (fun h5 => ?_)
    · rw [← hZ]
      refine pw_rv (by decide +kernel) ?_
      have e : i = 6 := by omega
      subst e
      exact ⟨rfl, rfl⟩
    · refine pw_blk (pc' := 18) [.aload 0, .getfield 4, .iload 1, .iconst (-1), .iastore, .iinc 1 1] (by decide +kernel) ?_
      refine ⟨i, rfl, by omega, ?_⟩
      show pw_V x m_X0_allRise 0 Z 18 [(1, .int ((nI i) + (nI 1))), (0, .ref 42)] [] (pw_up (pw_rsI mm i) 45 i (-1))
      rw [show (nI i) + (nI 1) = nI (i + 1) from nI_add _ _]
      refine pw_goto (tgt := 2) (off := -16) (by decide +kernel) (by decide) ?_
      refine pw_lvp [1, 0] rfl ?_
      rw [pw_rsI_s]
      exact ih (by omega)
  show pw_V x m_X0_allRise 0 Z 0 [(0, .ref 42)] [] mm
  refine pw_blk (pc' := 2) [.iconst 0, .istore 1] (by decide +kernel) ?_
  show pw_V x m_X0_allRise 0 Z 2 [(1, .int (nI 0)), (0, .ref 42)] [] mm
  refine pw_lvp [1, 0] rfl ?_
  have e := loop 0 (by omega)
  rw [pw_rsI_0] at e
  exact e
end
section
/-! what feasts, undo, keep and back make of a memory, and that it stays well -/
theorem pw_ok_e {A B : pw_m} (h : ∀ c, (3 ≤ c ∧ c ≤ 13) ∨ (15 ≤ c ∧ c ≤ 18) ∨ (46 ≤ c ∧ c ≤ 85) → B c = A c) (h1 : B 2 1 = A 2 1) (h2 : B 14 4 = A 14 4) (he : pw_ev B 42 (pw_n A) (pw_k A)) (q : pw_ok A) : pw_ok B := by
  have hT : ∀ c, 4 ≤ c → c ≤ 10 → B c = A c := fun c h1 h2 => h c (by omega)
  obtain ⟨q1, q2, q3, q4, q5⟩ := q
  refine ⟨pw_okT_c hT q1, by rw [pw_n_c hT, pw_k_c hT]; exact he, pw_okU_c hT (fun k _ _ => by rw [h 11 (by omega)]) (fun c h1 h2 => h c (by omega)) q3, pw_okW_c hT (fun c h1 h2 => h c (by omega)) h2 q4, pw_okX_c (h 3 (by omega)) h1 q5⟩
theorem pw_ok_f {A B : pw_m} (h : ∀ c, (3 ≤ c ∧ c ≤ 13) ∨ (15 ≤ c ∧ c ≤ 18) ∨ (42 ≤ c ∧ c ≤ 85) → B c = A c) (h1 : B 2 1 = A 2 1) (h2 : B 14 4 = A 14 4) (q : pw_ok A) : pw_ok B :=
  pw_ok_e (fun c hc => h c (by omega)) h1 h2 (pw_ev_c (fun c h3 h4 => h c (by omega)) q.2.1) q
theorem pw_up_gs {m : pw_m} {c k : Nat} {v : Int32} : pw_up m c k v c k = v := by simp [pw_up, upd]
theorem pw_sb_lt {A : pw_m} : pw_sb A < 64 := pw_ob_lt
theorem pw_wrs_lt {A : pw_m} (h : pw_ok A) : pw_wrs A < 64 := Nat.lt_of_lt_of_le pw_ob_lt (Nat.pow_le_pow_right (by omega) (pw_bk h) : 2 ^ pw_k A ≤ 2 ^ 6)
theorem pw_ok_sit {A : pw_m} (h : pw_ok A) {k s : Nat} (hk : k < pw_k A) (hs : s < pw_n A) (h1 : pw_pl A k = none) (h2 : pw_si A s = none) : pw_ok (pw_up A 45 k (nI s)) := by
  have bk := pw_bk h
  have bn := pw_bn h
  refine pw_ok_e (fun c hc => pw_up_ne (by omega)) (by rw [pw_up_ne (by omega)]) (by rw [pw_up_ne (by omega)]) ?_ h
  obtain ⟨⟨a, b⟩, c, f, g, i, j⟩ := h.2.1
  have hsi := pw_ff_n.mp h2
  have e : ∀ z, pw_up A 45 k (nI s) (42 + 3) z = if z = k then nI s else A 45 z := fun z => by rw [pw_up_eq]; rfl
  have e45 : pw_oc (nI s) = some s := by unfold pw_oc; rw [if_neg (pw_n1 (by omega)), pw_c_nI (by omega)]
  refine ⟨⟨by rw [pw_up_ne (by omega)]; exact a, by rw [pw_up_ne (by omega)]; exact b⟩, fun z hz => by rw [pw_up_ne (by omega)]; exact c z hz, fun z hz => by rw [pw_up_ne (by omega)]; exact f z hz, fun z hz => ?_, fun z hz hk2 => ?_, fun y z t hy hz e1 e2 => ?_⟩
  · rw [e]
    split
    · exact pw_fino_o (q := some s) (fun a ha => by cases ha; exact hs) (by omega)
    · exact g z hz
  · rw [e, if_neg (by omega)]
    exact i z hz hk2
  · rw [e] at e1 e2
    by_cases hy' : y = k
    · by_cases hz' : z = k
      · rw [hy', hz']
      · rw [if_pos hy', e45] at e1
        rw [if_neg hz'] at e2
        have := hsi z hz
        rw [show pw_pl A z = some s from by rw [← e1] at e2; exact e2] at this
        simp at this
    · by_cases hz' : z = k
      · rw [if_pos hz', e45] at e2
        rw [if_neg hy'] at e1
        have := hsi y hy
        rw [show pw_pl A y = some s from by rw [← e2] at e1; exact e1] at this
        simp at this
      · rw [if_neg hy'] at e1
        rw [if_neg hz'] at e2
        exact j y z t hy hz e1 e2
theorem pw_ok_rise {A : pw_m} (h : pw_ok A) : pw_ok (pw_rsI A 6) := by
  have e : ∀ c, c ≠ 45 → pw_rsI A 6 c = A c := fun c hc => by unfold pw_rsI; rw [if_neg hc]
  have e45 : ∀ z, z < 6 → pw_oc (pw_rsI A 6 (42 + 3) z) = none := fun z hz => by simp [pw_rsI, pw_c6, hz, pw_oc]
  refine pw_ok_e (fun c hc => e c (by omega)) (by rw [e 2 (by omega)]) (by rw [e 14 (by omega)]) ?_ h
  obtain ⟨⟨a, b⟩, c, f, g, i, j⟩ := h.2.1
  refine ⟨⟨by rw [e 42 (by omega)]; exact a, by rw [e 42 (by omega)]; exact b⟩, fun z hz => by rw [e (42 + 1) (by omega)]; exact c z hz, fun z hz => by rw [e (42 + 2) (by omega)]; exact f z hz, fun z hz => ⟨?_, fun a ha => ?_⟩, fun z hz _ => e45 z hz, fun y z t hy hz e1 e2 => ?_⟩
  · rw [e45 z hz]; simp [pw_rsI, pw_c6, hz, pw_o]
  · rw [e45 z hz] at ha; cases ha
  · rw [e45 y hy] at e1; cases e1
theorem pw_ok_news {A : pw_m} (h : pw_ok A) {k v : Nat} (hv : v < 16) : pw_ok (pw_up A 44 k (nI v)) := by
  refine pw_ok_e (fun c hc => pw_up_ne (by omega)) (by rw [pw_up_ne (by omega)]) (by rw [pw_up_ne (by omega)]) ?_ h
  obtain ⟨⟨a, b⟩, c, f, g⟩ := h.2.1
  refine ⟨⟨by rw [pw_up_ne (by omega)]; exact a, by rw [pw_up_ne (by omega)]; exact b⟩, fun z hz => by rw [pw_up_ne (by omega)]; exact c z hz, fun z hz => ?_, by rw [pw_up_ne (by omega)]; exact g⟩
  rw [pw_up_eq]
  unfold upd
  split
  · exact pw_fine_nI hv (by omega)
  · exact f z hz
theorem pw_or16 {a w : Nat} (h : a < 16) (hw : w < 4) : a ||| 2 ^ w < 16 := Nat.or_lt_two_pow (n := 4) h (by have := Nat.pow_lt_pow_right (show 1 < 2 by omega) hw; omega)
theorem pw_gx {A B : pw_m} {c k : Nat} (h : B c = A c) : pw_g B c k = pw_g A c k := by unfold pw_g; rw [h]
theorem pw_ok_rec {A : pw_m} (h : pw_ok A) (h0 : 0 < pw_g A 11 2) : pw_ok (pw_rec A) := by
  have hx := pw_b114 h
  have hu := pw_b112 h
  have hp : pw_px (pw_g A 11 4) < 8 := by unfold pw_px; split <;> omega
  have eo : ∀ c, c ≠ 11 → (c < 42 ∨ 46 ≤ c) → pw_rec A c = A c := fun c h1 h2 => by unfold pw_rec; rw [pw_up_ne h1, pw_cpI_o (by omega), pw_up_ne h1]
  have hT : ∀ c, 4 ≤ c → c ≤ 10 → pw_rec A c = A c := fun c h1 h2 => eo c (by omega) (by omega)
  have e2 : pw_rec A 11 2 = nI (pw_g A 11 2 - 1) := by unfold pw_rec; rw [pw_up_eq]; simp [upd]
  have e4 : pw_rec A 11 4 = nI (pw_px (pw_g A 11 4)) := by unfold pw_rec; rw [pw_up_eq, pw_cpI_o (by omega), pw_up_eq]; simp [upd]
  have e3 : pw_rec A 11 3 = A 11 3 := by unfold pw_rec; rw [pw_up_eq, pw_cpI_o (by omega), pw_up_eq]; simp [upd]
  have g2 : pw_g (pw_rec A) 11 2 = pw_g A 11 2 - 1 := by unfold pw_g; rw [e2]; exact pw_c_nI (by unfold pw_g at *; omega)
  have g4 : pw_g (pw_rec A) 11 4 = pw_px (pw_g A 11 4) := by unfold pw_g; rw [e4]; exact pw_c_nI (by unfold pw_g at *; omega)
  obtain ⟨q1, q2, ⟨⟨a1, a2, a3⟩, a4, a5⟩, q4, q5⟩ := h
  refine ⟨pw_okT_c hT q1, ?_, ⟨⟨?_, ?_, fun i hi => ?_⟩, by rw [e3]; exact a4, fun i hi ht => ?_⟩, pw_okW_c hT (fun c h1 h2 => eo c (by omega) (by omega)) (by rw [eo 14 (by omega) (by omega)]) q4, pw_okX_c (eo 3 (by omega) (by omega)) (by rw [eo 2 (by omega) (by omega)]) q5⟩
  · rw [pw_n_c hT, pw_k_c hT]
    have hv := a3 (pw_g A 11 2 - 1) (by omega)
    have er : pw_rg A (pw_g A 11 2 - 1) = pw_px (pw_g A 11 4) := by unfold pw_rg pw_px; split <;> omega
    rw [er] at hv
    refine pw_ev_c (A := pw_cpI (pw_up A 11 4 (nI (pw_px (pw_g A 11 4)))) 42 (46 + 4 * pw_px (pw_g A 11 4)) 6) (fun c h1 h2 => by unfold pw_rec; rw [pw_up_ne (by omega)]) (pw_ev_cp (pw_ev_c (fun c h1 h2 => pw_up_ne (by omega)) hv))
  · rw [e2]; exact pw_fine_nI (by omega) (by omega)
  · rw [e4]; exact pw_fine_nI hp (by omega)
  · rw [pw_n_c hT, pw_k_c hT]
    rw [g2] at hi
    have er : pw_rg (pw_rec A) i = pw_rg A i := by unfold pw_rg; rw [g2, g4]; unfold pw_px; split <;> omega
    rw [er]
    exact pw_ev_c (fun c h1 h2 => eo c (by omega) (by omega)) (a3 i (by omega))
  · rw [pw_n_c hT, pw_k_c hT]
    have ht' : (pw_g A 11 3).testBit i = true := by unfold pw_g at ht ⊢; rw [e3] at ht; exact ht
    exact pw_ev_c (fun c h1 h2 => eo c (by omega) (by omega)) (a5 i hi ht')
def pw_kp (A : pw_m) (j : Nat) : pw_m := pw_up (pw_cpI A (78 + 4 * j) 42 6) 11 3 (nI (pw_g A 11 3 ||| 2 ^ j))
def pw_bk_ (A : pw_m) (j : Nat) : pw_m := pw_up (pw_cpI A 42 (78 + 4 * j) 6) 11 2 (nI 0)
theorem pw_or4 {a j : Nat} (h : a < 4) (hj : j < 2) : a ||| 2 ^ j < 4 := Nat.or_lt_two_pow (n := 2) h (by have := Nat.pow_lt_pow_right (show 1 < 2 by omega) hj; omega)
theorem pw_ok_kp {A : pw_m} (h : pw_ok A) {j : Nat} (hj : j < 2) : pw_ok (pw_kp A j) := by
  have hb := pw_or4 (pw_b113 h) hj
  have eo : ∀ c, c ≠ 11 → (c < 78 + 4 * j ∨ 82 + 4 * j ≤ c) → pw_kp A j c = A c := fun c h1 h2 => by unfold pw_kp; rw [pw_up_ne h1, pw_cpI_o (by omega)]
  have hT : ∀ c, 4 ≤ c → c ≤ 10 → pw_kp A j c = A c := fun c h1 h2 => eo c (by omega) (by omega)
  have e2 : ∀ k, k ≠ 3 → pw_kp A j 11 k = A 11 k := fun k hk => by unfold pw_kp; rw [pw_up_eq, pw_cpI_o (by omega)]; simp [upd, hk]
  have e3 : pw_kp A j 11 3 = nI (pw_g A 11 3 ||| 2 ^ j) := by unfold pw_kp; rw [pw_up_eq]; simp [upd]
  obtain ⟨q1, q2, ⟨⟨a1, a2, a3⟩, a4, a5⟩, q4, q5⟩ := h
  refine ⟨pw_okT_c hT q1, ?_, ⟨⟨by rw [e2 2 (by omega)]; exact a1, by rw [e2 4 (by omega)]; exact a2, fun i hi => ?_⟩, by rw [e3]; exact pw_fine_nI hb (by omega), fun i hi ht => ?_⟩, pw_okW_c hT (fun c h1 h2 => eo c (by omega) (by omega)) (by rw [eo 14 (by omega) (by omega)]) q4, pw_okX_c (eo 3 (by omega) (by omega)) (by rw [eo 2 (by omega) (by omega)]) q5⟩
  · rw [pw_n_c hT, pw_k_c hT]
    exact pw_ev_c (fun c h1 h2 => eo c (by omega) (by omega)) q2
  · rw [pw_n_c hT, pw_k_c hT]
    have er : pw_rg (pw_kp A j) i = pw_rg A i := by unfold pw_rg pw_g; rw [e2 2 (by omega), e2 4 (by omega)]
    have hr : pw_rg A i < 8 := by unfold pw_rg; omega
    rw [er]
    exact pw_ev_c (fun c h1 h2 => eo c (by omega) (by omega)) (a3 i (by unfold pw_g at hi ⊢; rw [e2 2 (by omega)] at hi; exact hi))
  · rw [pw_n_c hT, pw_k_c hT]
    by_cases hij : i = j
    · subst hij
      exact pw_ev_c (fun c h1 h2 => by unfold pw_kp; rw [pw_up_ne (by omega)]) (pw_ev_cp q2)
    · have ht' : (pw_g A 11 3).testBit i = true := by
        unfold pw_g at ht
        rw [e3, pw_c_nI (by omega), Nat.testBit_or, Nat.testBit_two_pow] at ht
        have ht2 : (pw_g A 11 3).testBit i = true ∨ j = i := by simpa using ht
        exact ht2.resolve_right (fun z => hij z.symm)
      exact pw_ev_c (fun c h1 h2 => eo c (by omega) (by omega)) (a5 i hi ht')
theorem pw_ok_bk {A : pw_m} (h : pw_ok A) {j : Nat} (hj : j < 2) (hb : (pw_g A 11 3).testBit j = true) : pw_ok (pw_bk_ A j) := by
  have eo : ∀ c, c ≠ 11 → (c < 42 ∨ 46 ≤ c) → pw_bk_ A j c = A c := fun c h1 h2 => by unfold pw_bk_; rw [pw_up_ne h1, pw_cpI_o (by omega)]
  have hT : ∀ c, 4 ≤ c → c ≤ 10 → pw_bk_ A j c = A c := fun c h1 h2 => eo c (by omega) (by omega)
  have e2 : ∀ k, k ≠ 2 → pw_bk_ A j 11 k = A 11 k := fun k hk => by unfold pw_bk_; rw [pw_up_eq, pw_cpI_o (by omega)]; simp [upd, hk]
  have e3 : pw_bk_ A j 11 2 = nI 0 := by unfold pw_bk_; rw [pw_up_eq]; simp [upd]
  obtain ⟨q1, q2, ⟨⟨a1, a2, a3⟩, a4, a5⟩, q4, q5⟩ := h
  refine ⟨pw_okT_c hT q1, ?_, ⟨⟨by rw [e3]; exact pw_fine_nI (by omega) (by omega), by rw [e2 4 (by omega)]; exact a2, fun i hi => ?_⟩, by rw [e2 3 (by omega)]; exact a4, fun i hi ht => ?_⟩, pw_okW_c hT (fun c h1 h2 => eo c (by omega) (by omega)) (by rw [eo 14 (by omega) (by omega)]) q4, pw_okX_c (eo 3 (by omega) (by omega)) (by rw [eo 2 (by omega) (by omega)]) q5⟩
  · rw [pw_n_c hT, pw_k_c hT]
    exact pw_ev_c (fun c h1 h2 => by unfold pw_bk_; rw [pw_up_ne (by omega)]) (pw_ev_cp (a5 j hj hb))
  · exfalso
    unfold pw_g at hi
    rw [e3, pw_c_nI (by omega)] at hi
    omega
  · rw [pw_n_c hT, pw_k_c hT]
    have ht' : (pw_g A 11 3).testBit i = true := by unfold pw_g at ht ⊢; rw [e2 3 (by omega)] at ht; exact ht
    exact pw_ev_c (fun c h1 h2 => eo c (by omega) (by omega)) (a5 i hi ht')
end
section
def F_sit (A : pw_m) (k s : Int32) : Int32 := if pw_inr k (pw_k A) = true ∧ pw_inr s (pw_n A) = true then (if (pw_g A 42 1).testBit (pw_c k) = true ∧ pw_pl A (pw_c k) = none ∧ pw_si A (pw_c s) = none then nI (pw_pc (pw_sb (pw_up (pw_rem A) 45 (pw_c k) s))) else -4) else -2
def G_sit (A : pw_m) (k s : Int32) : pw_m := if (pw_inr k (pw_k A) = true ∧ pw_inr s (pw_n A) = true) ∧ (pw_g A 42 1).testBit (pw_c k) = true ∧ pw_pl A (pw_c k) = none ∧ pw_si A (pw_c s) = none then pw_up (pw_rem A) 45 (pw_c k) s else A
def F_tell (A : pw_m) (k w : Int32) : Int32 := if pw_inr k (pw_k A) then (if pw_inr w 4 then (if (pw_g A 42 1).testBit (pw_c k) then nI (pw_g (pw_rem A) 44 (pw_c k) ||| 2 ^ pw_c w) else -4) else -3) else -2
def G_tell (A : pw_m) (k w : Int32) : pw_m := if pw_inr k (pw_k A) = true ∧ pw_inr w 4 = true ∧ (pw_g A 42 1).testBit (pw_c k) = true then pw_up (pw_rem A) 44 (pw_c k) (nI (pw_g (pw_rem A) 44 (pw_c k) ||| 2 ^ pw_c w)) else A
def F_undo (A : pw_m) : Int32 := if pw_g A 11 2 = 0 then -4 else nI (pw_g A 11 2 - 1)
def G_undo (A : pw_m) : pw_m := if pw_g A 11 2 = 0 then A else pw_rec A
def F_keep (A : pw_m) (k : Int32) : Int32 := if pw_inr k 2 then A 42 0 else -2
def G_keep (A : pw_m) (k : Int32) : pw_m := if pw_inr k 2 then pw_kp A (pw_c k) else A
def F_back (A : pw_m) (k : Int32) : Int32 := if pw_inr k 2 then (if (pw_g A 11 3).testBit (pw_c k) then A (78 + 4 * pw_c k) 0 else -4) else -2
def G_back (A : pw_m) (k : Int32) : pw_m := if pw_inr k 2 = true ∧ (pw_g A 11 3).testBit (pw_c k) = true then pw_bk_ A (pw_c k) else A

set_option maxHeartbeats 4000000 in
set_option maxRecDepth 100000 in
theorem c_sit (k s : Int32) (mm : pw_m) (hok : pw_ok mm) : pw_Ct 2 yX7_sit m_X7_sit [.ref 0, .int k, .int s] mm (fun r m' => r = some (.int (F_sit mm k s)) ∧ m' = G_sit mm k s) := by
  refine pw_ct (by decide +kernel) rfl (Nat.le_of_ble_eq_true rfl) (fun x => ?_)
  generalize hZ : pw_Z x _ = Z
  have bn := pw_bn hok
  have bk := pw_bk hok
  have bt := pw_b421' hok
  have bx := pw_b114 hok
  have hok1 := pw_ok_rem hok
  have hT : ∀ c, 4 ≤ c → c ≤ 10 → pw_rem mm c = mm c := fun c h1 h2 => pw_rem_o bx (by omega) (by omega)
  show pw_V x m_X7_sit 2 Z 0 [(0, .ref 0), (1, .int k), (2, .int s)] [] mm
  refine pw_blk (pc' := 2) [.aload 0, .iload 1] (by decide +kernel) ?_
  show pw_V x m_X7_sit 2 Z 2 [(0, .ref 0), (1, .int k), (2, .int s)] [.int k, .ref 0] mm
  refine pw_cV (vs := [.int k]) (rest := []) k_X7_isKnight (c_isKnight k mm hok) l_7_106 rfl rfl rfl rfl (by decide) (Nat.le_of_ble_eq_true rfl) (by decide +kernel) ?_
  rintro _ m1 ⟨rfl, e1⟩
  rw [e1]
  clear e1 m1
  show pw_V x m_X7_sit 2 Z 5 [(0, .ref 0), (1, .int k), (2, .int s)] [.int (pw_b (pw_inr k (pw_k mm)))] mm
  refine pw_ib_eq (tgt := 16) (off := 11) (by decide +kernel) (by decide) (fun h5 => ?_) (fun h5 => ?_)
  · refine pw_blk (pc' := 18) [.iconst (-2)] (by decide +kernel) ?_
    show pw_V x m_X7_sit 2 Z 18 [(0, .ref 0), (1, .int k), (2, .int s)] [.int (-2)] mm
    rw [← hZ]
    refine pw_ri (by decide +kernel) ?_
    constructor
    · simp [F_sit, h5]
    · simp [G_sit, h5]
  · obtain ⟨j5, b5, e5⟩ := pw_inr_t (by omega) h5
    subst e5
    refine pw_blk (pc' := 10) [.aload 0, .iload 2] (by decide +kernel) ?_
    show pw_V x m_X7_sit 2 Z 10 [(0, .ref 0), (1, .int (nI j5)), (2, .int s)] [.int s, .ref 0] mm
    refine pw_cV (vs := [.int s]) (rest := []) k_X7_isSeat (c_isSeat s mm hok) l_7_86 rfl rfl rfl rfl (by decide) (Nat.le_of_ble_eq_true rfl) (by decide +kernel) ?_
    rintro _ m1 ⟨rfl, e1⟩
    rw [e1]
    clear e1 m1
    show pw_V x m_X7_sit 2 Z 13 [(0, .ref 0), (1, .int (nI j5)), (2, .int s)] [.int (pw_b (pw_inr s (pw_n mm)))] mm
    refine pw_ib_ne (tgt := 19) (off := 6) (by decide +kernel) (by decide) (fun h13 => ?_) (fun h13 => ?_)
    · obtain ⟨j13, b13, e13⟩ := pw_inr_t (by omega) h13
      subst e13
      refine pw_blk (pc' := 27) [.aload 0, .getfield 702, .getfield 1, .iload 1] (by decide +kernel) ?_
      show pw_V x m_X7_sit 2 Z 27 [(0, .ref 0), (1, .int (nI j5)), (2, .int (nI j13))] [.int (nI j5), .int (mm 42 1)] mm
      rw [show mm 42 1 = nI (pw_g mm 42 1) from pw_q421 hok]
      refine pw_cS (vs := [.int (nI (pw_g mm 42 1)), .int (nI j5)]) (rest := []) k_X7_has (c_has (nI (pw_g mm 42 1)) (nI j5) mm) l_7_124 rfl (by decide) (Nat.le_of_ble_eq_true rfl) (by decide +kernel) ?_
      rintro _ m1 ⟨rfl, e1⟩
      rw [e1]
      clear e1 m1
      show pw_V x m_X7_sit 2 Z 30 [(0, .ref 0), (1, .int (nI j5)), (2, .int (nI j13))] [.int (pw_b (pw_hs (nI (pw_g mm 42 1)) (nI j5)))] mm
      rw [pw_hs_n (by omega) (by omega)]
      refine pw_ib_eq (tgt := 58) (off := 28) (by decide +kernel) (by decide) (fun h30 => ?_) (fun h30 => ?_)
      · refine pw_blk (pc' := 60) [.iconst (-4)] (by decide +kernel) ?_
        show pw_V x m_X7_sit 2 Z 60 [(0, .ref 0), (1, .int (nI j5)), (2, .int (nI j13))] [.int (-4)] mm
        rw [← hZ]
        refine pw_ri (by decide +kernel) ?_
        constructor
        · simp [F_sit, pw_inr_nI (show j5 < 2 ^ 31 by omega) (show pw_k mm < 2 ^ 31 by omega), pw_c_nI (show j5 < 2 ^ 31 by omega), b5, pw_inr_nI (show j13 < 2 ^ 31 by omega) (show pw_n mm < 2 ^ 31 by omega), pw_c_nI (show j13 < 2 ^ 31 by omega), b13, h5, h13, h30]
        · simp [G_sit, pw_inr_nI (show j5 < 2 ^ 31 by omega) (show pw_k mm < 2 ^ 31 by omega), pw_c_nI (show j5 < 2 ^ 31 by omega), b5, pw_inr_nI (show j13 < 2 ^ 31 by omega) (show pw_n mm < 2 ^ 31 by omega), pw_c_nI (show j13 < 2 ^ 31 by omega), b13, h5, h13, h30]
      · refine pw_blk (pc' := 43) [.aload 0, .getfield 702, .getfield 4, .iload 1, .iaload, .iconst (-1)] (by decide +kernel) ?_
        refine ⟨j5, rfl, by omega, ?_⟩
        show pw_V x m_X7_sit 2 Z 43 [(0, .ref 0), (1, .int (nI j5)), (2, .int (nI j13))] [.int (-1), .int (mm 45 j5)] mm
        rw [show mm 45 j5 = pw_o (pw_pl mm j5) from pw_q45 hok (by omega)]
        rcases h43 : pw_pl mm j5 with _ | s43
        · show pw_V x m_X7_sit 2 Z 43 [(0, .ref 0), (1, .int (nI j5)), (2, .int (nI j13))] [.int (-1), .int (-1)] mm
          refine pw_ic_ne (tgt := 58) (off := 15) (by decide +kernel) (by decide) (fun h => absurd rfl h) (fun _ => ?_)
          refine pw_blk (pc' := 51) [.aload 0, .getfield 702, .iload 2] (by decide +kernel) ?_
          show pw_V x m_X7_sit 2 Z 51 [(0, .ref 0), (1, .int (nI j5)), (2, .int (nI j13))] [.int (nI j13), .ref 42] mm
          refine pw_cV (vs := [.int (nI j13)]) (rest := []) k_X0_whoSitsOn (c_whoSitsOn j13 mm hok (by omega)) l_7_96 rfl rfl rfl rfl (by decide) (Nat.le_of_ble_eq_true rfl) (by decide +kernel) ?_
          rintro _ m1 ⟨rfl, e1⟩
          rw [e1]
          clear e1 m1
          show pw_V x m_X7_sit 2 Z 54 [(0, .ref 0), (1, .int (nI j5)), (2, .int (nI j13))] [.int (pw_o (pw_si mm j13))] mm
          refine pw_blk (pc' := 55) [.iconst (-1)] (by decide +kernel) ?_
          show pw_V x m_X7_sit 2 Z 55 [(0, .ref 0), (1, .int (nI j5)), (2, .int (nI j13))] [.int (-1), .int (pw_o (pw_si mm j13))] mm
          rcases h55 : pw_si mm j13 with _ | s55
          · show pw_V x m_X7_sit 2 Z 55 [(0, .ref 0), (1, .int (nI j5)), (2, .int (nI j13))] [.int (-1), .int (-1)] mm
            refine pw_ic_eq (tgt := 61) (off := 6) (by decide +kernel) (by decide) (fun _ => ?_) (fun h => absurd rfl h)
            refine pw_blk (pc' := 69) [.aload 0, .getfield 703, .aload 0, .getfield 702] (by decide +kernel) ?_
            show pw_V x m_X7_sit 2 Z 69 [(0, .ref 0), (1, .int (nI j5)), (2, .int (nI j13))] [.ref 42, .ref 11] mm
            refine pw_cV (vs := [.ref 42]) (rest := []) k_X1_remember (c_remember mm hok) l_7_153 rfl rfl rfl rfl (by decide) (Nat.le_of_ble_eq_true rfl) (by decide +kernel) ?_
            rintro _ m1 ⟨rfl, e1⟩
            rw [e1]
            clear e1 m1
            show pw_V x m_X7_sit 2 Z 72 [(0, .ref 0), (1, .int (nI j5)), (2, .int (nI j13))] [] (pw_rem mm)
            refine pw_blk (pc' := 82) [.aload 0, .getfield 702, .getfield 4, .iload 1, .iload 2, .iastore] (by decide +kernel) ?_
            refine ⟨j5, rfl, by omega, ?_⟩
            show pw_V x m_X7_sit 2 Z 82 [(0, .ref 0), (1, .int (nI j5)), (2, .int (nI j13))] [] (pw_up (pw_rem mm) 45 j5 (nI j13))
            have hok2 : pw_ok (pw_up (pw_rem mm) 45 j5 (nI j13)) := pw_ok_sit hok1 (by rw [pw_k_c (A := mm) hT]; exact b5) (by rw [pw_n_c (A := mm) hT]; exact b13) (by show pw_oc (pw_rem mm 45 j5) = none; rw [pw_rem_o bx (by omega) (by omega)]; exact h43) (by have e : pw_si (pw_rem mm) j13 = pw_si mm j13 := (by unfold pw_si pw_pl; rw [pw_rem_o bx (by omega) (by omega)]); rw [e]; exact h55)
            have bs := pw_sb_lt (A := pw_up (pw_rem mm) 45 j5 (nI j13))
            refine pw_blk (pc' := 86) [.aload 0, .getfield 702] (by decide +kernel) ?_
            show pw_V x m_X7_sit 2 Z 86 [(0, .ref 0), (1, .int (nI j5)), (2, .int (nI j13))] [.ref 42] (pw_up (pw_rem mm) 45 j5 (nI j13))
            refine pw_cV (vs := []) (rest := []) k_X0_whoSit (c_whoSit (pw_up (pw_rem mm) 45 j5 (nI j13)) hok2) l_7_157 rfl rfl rfl rfl (by decide) (Nat.le_of_ble_eq_true rfl) (by decide +kernel) ?_
            rintro _ m1 ⟨rfl, e1⟩
            rw [e1]
            clear e1 m1
            show pw_V x m_X7_sit 2 Z 89 [(0, .ref 0), (1, .int (nI j5)), (2, .int (nI j13))] [.int (nI (pw_sb (pw_up (pw_rem mm) 45 j5 (nI j13))))] (pw_up (pw_rem mm) 45 j5 (nI j13))
            refine pw_cS (vs := [.int (nI (pw_sb (pw_up (pw_rem mm) 45 j5 (nI j13))))]) (rest := []) k_J6_bitCount_0f7a4 (c_bitCount (nI (pw_sb (pw_up (pw_rem mm) 45 j5 (nI j13)))) (pw_up (pw_rem mm) 45 j5 (nI j13))) l_7_161 rfl (by decide) (Nat.le_of_ble_eq_true rfl) (by decide +kernel) ?_
            rintro _ m1 ⟨rfl, e1⟩
            rw [e1]
            clear e1 m1
            show pw_V x m_X7_sit 2 Z 92 [(0, .ref 0), (1, .int (nI j5)), (2, .int (nI j13))] [.int (pw_bc (nI (pw_sb (pw_up (pw_rem mm) 45 j5 (nI j13)))))] (pw_up (pw_rem mm) 45 j5 (nI j13))
            rw [pw_bcN _ (by omega)]
            rw [← hZ]
            refine pw_ri (by decide +kernel) ?_
            constructor
            · simp [F_sit, pw_inr_nI (show j5 < 2 ^ 31 by omega) (show pw_k mm < 2 ^ 31 by omega), pw_c_nI (show j5 < 2 ^ 31 by omega), b5, pw_inr_nI (show j13 < 2 ^ 31 by omega) (show pw_n mm < 2 ^ 31 by omega), pw_c_nI (show j13 < 2 ^ 31 by omega), b13, h5, h13, h30, h43, h55]
            · simp [G_sit, pw_inr_nI (show j5 < 2 ^ 31 by omega) (show pw_k mm < 2 ^ 31 by omega), pw_c_nI (show j5 < 2 ^ 31 by omega), b5, pw_inr_nI (show j13 < 2 ^ 31 by omega) (show pw_n mm < 2 ^ 31 by omega), pw_c_nI (show j13 < 2 ^ 31 by omega), b13, h5, h13, h30, h43, h55]
          · show pw_V x m_X7_sit 2 Z 55 [(0, .ref 0), (1, .int (nI j5)), (2, .int (nI j13))] [.int (-1), .int (nI s55)] mm
            have b55 := pw_si_lt h55
            refine pw_ic_eq (tgt := 61) (off := 6) (by decide +kernel) (by decide) (fun h => absurd h (pw_n1 (by omega))) (fun _ => ?_)
            refine pw_blk (pc' := 60) [.iconst (-4)] (by decide +kernel) ?_
            show pw_V x m_X7_sit 2 Z 60 [(0, .ref 0), (1, .int (nI j5)), (2, .int (nI j13))] [.int (-4)] mm
            rw [← hZ]
            refine pw_ri (by decide +kernel) ?_
            constructor
            · simp [F_sit, pw_inr_nI (show j5 < 2 ^ 31 by omega) (show pw_k mm < 2 ^ 31 by omega), pw_c_nI (show j5 < 2 ^ 31 by omega), b5, pw_inr_nI (show j13 < 2 ^ 31 by omega) (show pw_n mm < 2 ^ 31 by omega), pw_c_nI (show j13 < 2 ^ 31 by omega), b13, h5, h13, h30, h43, h55]
            · simp [G_sit, pw_inr_nI (show j5 < 2 ^ 31 by omega) (show pw_k mm < 2 ^ 31 by omega), pw_c_nI (show j5 < 2 ^ 31 by omega), b5, pw_inr_nI (show j13 < 2 ^ 31 by omega) (show pw_n mm < 2 ^ 31 by omega), pw_c_nI (show j13 < 2 ^ 31 by omega), b13, h5, h13, h30, h43, h55]
        · show pw_V x m_X7_sit 2 Z 43 [(0, .ref 0), (1, .int (nI j5)), (2, .int (nI j13))] [.int (-1), .int (nI s43)] mm
          have b43 := pw_b45 hok (show j5 < 6 by omega) h43
          refine pw_ic_ne (tgt := 58) (off := 15) (by decide +kernel) (by decide) (fun _ => ?_) (fun h => absurd h (pw_n1 (by omega)))
          refine pw_blk (pc' := 60) [.iconst (-4)] (by decide +kernel) ?_
          show pw_V x m_X7_sit 2 Z 60 [(0, .ref 0), (1, .int (nI j5)), (2, .int (nI j13))] [.int (-4)] mm
          rw [← hZ]
          refine pw_ri (by decide +kernel) ?_
          constructor
          · simp [F_sit, pw_inr_nI (show j5 < 2 ^ 31 by omega) (show pw_k mm < 2 ^ 31 by omega), pw_c_nI (show j5 < 2 ^ 31 by omega), b5, pw_inr_nI (show j13 < 2 ^ 31 by omega) (show pw_n mm < 2 ^ 31 by omega), pw_c_nI (show j13 < 2 ^ 31 by omega), b13, h5, h13, h30, h43]
          · simp [G_sit, pw_inr_nI (show j5 < 2 ^ 31 by omega) (show pw_k mm < 2 ^ 31 by omega), pw_c_nI (show j5 < 2 ^ 31 by omega), b5, pw_inr_nI (show j13 < 2 ^ 31 by omega) (show pw_n mm < 2 ^ 31 by omega), pw_c_nI (show j13 < 2 ^ 31 by omega), b13, h5, h13, h30, h43]
    · refine pw_blk (pc' := 18) [.iconst (-2)] (by decide +kernel) ?_
      show pw_V x m_X7_sit 2 Z 18 [(0, .ref 0), (1, .int (nI j5)), (2, .int s)] [.int (-2)] mm
      rw [← hZ]
      refine pw_ri (by decide +kernel) ?_
      constructor
      · simp [F_sit, pw_inr_nI (show j5 < 2 ^ 31 by omega) (show pw_k mm < 2 ^ 31 by omega), pw_c_nI (show j5 < 2 ^ 31 by omega), b5, h5, h13]
      · simp [G_sit, pw_inr_nI (show j5 < 2 ^ 31 by omega) (show pw_k mm < 2 ^ 31 by omega), pw_c_nI (show j5 < 2 ^ 31 by omega), b5, h5, h13]

set_option maxHeartbeats 4000000 in
set_option maxRecDepth 100000 in
theorem c_rise (mm : pw_m) (hok : pw_ok mm) : pw_Ct 2 yX7_rise m_X7_rise [.ref 0] mm (fun r m' => r = some (.int (nI (pw_pc (pw_sb mm)))) ∧ m' = pw_rsI (pw_rem mm) 6) := by
  refine pw_ct (by decide +kernel) rfl (Nat.le_of_ble_eq_true rfl) (fun x => ?_)
  generalize hZ : pw_Z x _ = Z
  have bn := pw_bn hok
  have bk := pw_bk hok
  have bt := pw_b421' hok
  have bx := pw_b114 hok
  have hok1 := pw_ok_rem hok
  have hT : ∀ c, 4 ≤ c → c ≤ 10 → pw_rem mm c = mm c := fun c h1 h2 => pw_rem_o bx (by omega) (by omega)
  have bs := pw_sb_lt (A := mm)
  show pw_V x m_X7_rise 2 Z 0 [(0, .ref 0)] [] mm
  refine pw_blk (pc' := 4) [.aload 0, .getfield 702] (by decide +kernel) ?_
  show pw_V x m_X7_rise 2 Z 4 [(0, .ref 0)] [.ref 42] mm
  refine pw_cV (vs := []) (rest := []) k_X0_whoSit (c_whoSit mm hok) l_7_157 rfl rfl rfl rfl (by decide) (Nat.le_of_ble_eq_true rfl) (by decide +kernel) ?_
  rintro _ m1 ⟨rfl, e1⟩
  rw [e1]
  clear e1 m1
  show pw_V x m_X7_rise 2 Z 7 [(0, .ref 0)] [.int (nI (pw_sb mm))] mm
  refine pw_cS (vs := [.int (nI (pw_sb mm))]) (rest := []) k_J6_bitCount_0f7a4 (c_bitCount (nI (pw_sb mm)) mm) l_7_161 rfl (by decide) (Nat.le_of_ble_eq_true rfl) (by decide +kernel) ?_
  rintro _ m1 ⟨rfl, e1⟩
  rw [e1]
  clear e1 m1
  show pw_V x m_X7_rise 2 Z 10 [(0, .ref 0)] [.int (pw_bc (nI (pw_sb mm)))] mm
  rw [pw_bcN _ (by omega)]
  refine pw_blk (pc' := 19) [.istore 1, .aload 0, .getfield 703, .aload 0, .getfield 702] (by decide +kernel) ?_
  show pw_V x m_X7_rise 2 Z 19 [(1, .int (nI (pw_pc (pw_sb mm)))), (0, .ref 0)] [.ref 42, .ref 11] mm
  refine pw_cV (vs := [.ref 42]) (rest := []) k_X1_remember (c_remember mm hok) l_7_153 rfl rfl rfl rfl (by decide) (Nat.le_of_ble_eq_true rfl) (by decide +kernel) ?_
  rintro _ m1 ⟨rfl, e1⟩
  rw [e1]
  clear e1 m1
  show pw_V x m_X7_rise 2 Z 22 [(1, .int (nI (pw_pc (pw_sb mm)))), (0, .ref 0)] [] (pw_rem mm)
  refine pw_blk (pc' := 26) [.aload 0, .getfield 702] (by decide +kernel) ?_
  show pw_V x m_X7_rise 2 Z 26 [(1, .int (nI (pw_pc (pw_sb mm)))), (0, .ref 0)] [.ref 42] (pw_rem mm)
  refine pw_cV (vs := []) (rest := []) k_X0_allRise (c_allRise (pw_rem mm)) l_7_166 rfl rfl rfl rfl (by decide) (Nat.le_of_ble_eq_true rfl) (by decide +kernel) ?_
  rintro _ m1 ⟨rfl, e1⟩
  rw [e1]
  clear e1 m1
  show pw_V x m_X7_rise 2 Z 29 [(1, .int (nI (pw_pc (pw_sb mm)))), (0, .ref 0)] [] (pw_rsI (pw_rem mm) 6)
  refine pw_blk (pc' := 30) [.iload 1] (by decide +kernel) ?_
  show pw_V x m_X7_rise 2 Z 30 [(1, .int (nI (pw_pc (pw_sb mm)))), (0, .ref 0)] [.int (nI (pw_pc (pw_sb mm)))] (pw_rsI (pw_rem mm) 6)
  rw [← hZ]
  refine pw_ri (by decide +kernel) ?_
  exact ⟨rfl, rfl⟩

set_option maxHeartbeats 4000000 in
set_option maxRecDepth 100000 in
theorem c_tell (k w : Int32) (mm : pw_m) (hok : pw_ok mm) : pw_Ct 2 yX7_tell m_X7_tell [.ref 0, .int k, .int w] mm (fun r m' => r = some (.int (F_tell mm k w)) ∧ m' = G_tell mm k w) := by
  refine pw_ct (by decide +kernel) rfl (Nat.le_of_ble_eq_true rfl) (fun x => ?_)
  generalize hZ : pw_Z x _ = Z
  have bn := pw_bn hok
  have bk := pw_bk hok
  have bt := pw_b421' hok
  have bx := pw_b114 hok
  have hok1 := pw_ok_rem hok
  have hT : ∀ c, 4 ≤ c → c ≤ 10 → pw_rem mm c = mm c := fun c h1 h2 => pw_rem_o bx (by omega) (by omega)
  show pw_V x m_X7_tell 2 Z 0 [(0, .ref 0), (1, .int k), (2, .int w)] [] mm
  refine pw_blk (pc' := 2) [.aload 0, .iload 1] (by decide +kernel) ?_
  show pw_V x m_X7_tell 2 Z 2 [(0, .ref 0), (1, .int k), (2, .int w)] [.int k, .ref 0] mm
  refine pw_cV (vs := [.int k]) (rest := []) k_X7_isKnight (c_isKnight k mm hok) l_7_106 rfl rfl rfl rfl (by decide) (Nat.le_of_ble_eq_true rfl) (by decide +kernel) ?_
  rintro _ m1 ⟨rfl, e1⟩
  rw [e1]
  clear e1 m1
  show pw_V x m_X7_tell 2 Z 5 [(0, .ref 0), (1, .int k), (2, .int w)] [.int (pw_b (pw_inr k (pw_k mm)))] mm
  refine pw_ib_ne (tgt := 11) (off := 6) (by decide +kernel) (by decide) (fun h5 => ?_) (fun h5 => ?_)
  · obtain ⟨j5, b5, e5⟩ := pw_inr_t (by omega) h5
    subst e5
    refine pw_blk (pc' := 12) [.iload 2] (by decide +kernel) ?_
    show pw_V x m_X7_tell 2 Z 12 [(0, .ref 0), (1, .int (nI j5)), (2, .int w)] [.int w] mm
    refine pw_cS (vs := [.int w]) (rest := []) k_X7_isNews (c_isNews w mm) l_7_169 rfl (by decide) (Nat.le_of_ble_eq_true rfl) (by decide +kernel) ?_
    rintro _ m1 ⟨rfl, e1⟩
    rw [e1]
    clear e1 m1
    show pw_V x m_X7_tell 2 Z 15 [(0, .ref 0), (1, .int (nI j5)), (2, .int w)] [.int (pw_b (pw_inr w 4))] mm
    refine pw_ib_ne (tgt := 21) (off := 6) (by decide +kernel) (by decide) (fun h15 => ?_) (fun h15 => ?_)
    · obtain ⟨j15, b15, e15⟩ := pw_inr_t (by omega) h15
      subst e15
      refine pw_blk (pc' := 29) [.aload 0, .getfield 702, .getfield 1, .iload 1] (by decide +kernel) ?_
      show pw_V x m_X7_tell 2 Z 29 [(0, .ref 0), (1, .int (nI j5)), (2, .int (nI j15))] [.int (nI j5), .int (mm 42 1)] mm
      rw [show mm 42 1 = nI (pw_g mm 42 1) from pw_q421 hok]
      refine pw_cS (vs := [.int (nI (pw_g mm 42 1)), .int (nI j5)]) (rest := []) k_X7_has (c_has (nI (pw_g mm 42 1)) (nI j5) mm) l_7_124 rfl (by decide) (Nat.le_of_ble_eq_true rfl) (by decide +kernel) ?_
      rintro _ m1 ⟨rfl, e1⟩
      rw [e1]
      clear e1 m1
      show pw_V x m_X7_tell 2 Z 32 [(0, .ref 0), (1, .int (nI j5)), (2, .int (nI j15))] [.int (pw_b (pw_hs (nI (pw_g mm 42 1)) (nI j5)))] mm
      rw [pw_hs_n (by omega) (by omega)]
      refine pw_ib_ne (tgt := 38) (off := 6) (by decide +kernel) (by decide) (fun h32 => ?_) (fun h32 => ?_)
      · refine pw_blk (pc' := 46) [.aload 0, .getfield 703, .aload 0, .getfield 702] (by decide +kernel) ?_
        show pw_V x m_X7_tell 2 Z 46 [(0, .ref 0), (1, .int (nI j5)), (2, .int (nI j15))] [.ref 42, .ref 11] mm
        refine pw_cV (vs := [.ref 42]) (rest := []) k_X1_remember (c_remember mm hok) l_7_153 rfl rfl rfl rfl (by decide) (Nat.le_of_ble_eq_true rfl) (by decide +kernel) ?_
        rintro _ m1 ⟨rfl, e1⟩
        rw [e1]
        clear e1 m1
        show pw_V x m_X7_tell 2 Z 49 [(0, .ref 0), (1, .int (nI j5)), (2, .int (nI j15))] [] (pw_rem mm)
        refine pw_blk (pc' := 73) [.aload 0, .getfield 702, .getfield 3, .iload 1, .dup2, .iaload, .iconst 1, .iload 2, .ishl, .ior, .iastore, .aload 0, .getfield 702, .getfield 3, .iload 1, .iaload] (by decide +kernel) ?_
        refine ⟨j5, rfl, by omega, ?_⟩
        refine ⟨j5, rfl, by omega, ?_⟩
        refine ⟨j5, rfl, by omega, ?_⟩
        show pw_V x m_X7_tell 2 Z 73 [(0, .ref 0), (1, .int (nI j5)), (2, .int (nI j15))] [.int ((pw_up (pw_rem mm) 44 j5 (((pw_rem mm) 44 j5) ||| ((nI 1) <<< ((nI j15) &&& 31)))) 44 j5)] (pw_up (pw_rem mm) 44 j5 (((pw_rem mm) 44 j5) ||| ((nI 1) <<< ((nI j15) &&& 31))))
        rw [show (pw_rem mm) 44 j5 = nI (pw_g (pw_rem mm) 44 j5) from pw_q44 hok1 (by omega)]
        rw [show (nI 1) <<< ((nI j15) &&& 31) = nI (2 ^ j15) from pw_shl1 (by omega)]
        rw [show (nI (pw_g (pw_rem mm) 44 j5)) ||| (nI (2 ^ j15)) = nI ((pw_g (pw_rem mm) 44 j5) ||| (2 ^ j15)) from fa_or _ _]
        rw [show (pw_up (pw_rem mm) 44 j5 (nI ((pw_g (pw_rem mm) 44 j5) ||| (2 ^ j15)))) 44 j5 = nI ((pw_g (pw_rem mm) 44 j5) ||| (2 ^ j15)) from pw_up_gs]
        rw [← hZ]
        refine pw_ri (by decide +kernel) ?_
        constructor
        · simp [F_tell, pw_inr_nI (show j5 < 2 ^ 31 by omega) (show pw_k mm < 2 ^ 31 by omega), pw_c_nI (show j5 < 2 ^ 31 by omega), b5, pw_inr_nI (show j15 < 2 ^ 31 by omega) (show 4 < 2 ^ 31 by omega), pw_c_nI (show j15 < 2 ^ 31 by omega), b15, h5, h15, h32]
        · simp [G_tell, pw_inr_nI (show j5 < 2 ^ 31 by omega) (show pw_k mm < 2 ^ 31 by omega), pw_c_nI (show j5 < 2 ^ 31 by omega), b5, pw_inr_nI (show j15 < 2 ^ 31 by omega) (show 4 < 2 ^ 31 by omega), pw_c_nI (show j15 < 2 ^ 31 by omega), b15, h5, h15, h32]
      · refine pw_blk (pc' := 37) [.iconst (-4)] (by decide +kernel) ?_
        show pw_V x m_X7_tell 2 Z 37 [(0, .ref 0), (1, .int (nI j5)), (2, .int (nI j15))] [.int (-4)] mm
        rw [← hZ]
        refine pw_ri (by decide +kernel) ?_
        constructor
        · simp [F_tell, pw_inr_nI (show j5 < 2 ^ 31 by omega) (show pw_k mm < 2 ^ 31 by omega), pw_c_nI (show j5 < 2 ^ 31 by omega), b5, pw_inr_nI (show j15 < 2 ^ 31 by omega) (show 4 < 2 ^ 31 by omega), pw_c_nI (show j15 < 2 ^ 31 by omega), b15, h5, h15, h32]
        · simp [G_tell, pw_inr_nI (show j5 < 2 ^ 31 by omega) (show pw_k mm < 2 ^ 31 by omega), pw_c_nI (show j5 < 2 ^ 31 by omega), b5, pw_inr_nI (show j15 < 2 ^ 31 by omega) (show 4 < 2 ^ 31 by omega), pw_c_nI (show j15 < 2 ^ 31 by omega), b15, h5, h15, h32]
    · refine pw_blk (pc' := 20) [.iconst (-3)] (by decide +kernel) ?_
      show pw_V x m_X7_tell 2 Z 20 [(0, .ref 0), (1, .int (nI j5)), (2, .int w)] [.int (-3)] mm
      rw [← hZ]
      refine pw_ri (by decide +kernel) ?_
      constructor
      · simp [F_tell, pw_inr_nI (show j5 < 2 ^ 31 by omega) (show pw_k mm < 2 ^ 31 by omega), pw_c_nI (show j5 < 2 ^ 31 by omega), b5, h5, h15]
      · simp [G_tell, pw_inr_nI (show j5 < 2 ^ 31 by omega) (show pw_k mm < 2 ^ 31 by omega), pw_c_nI (show j5 < 2 ^ 31 by omega), b5, h5, h15]
  · refine pw_blk (pc' := 10) [.iconst (-2)] (by decide +kernel) ?_
    show pw_V x m_X7_tell 2 Z 10 [(0, .ref 0), (1, .int k), (2, .int w)] [.int (-2)] mm
    rw [← hZ]
    refine pw_ri (by decide +kernel) ?_
    constructor
    · simp [F_tell, h5]
    · simp [G_tell, h5]

set_option maxHeartbeats 4000000 in
set_option maxRecDepth 100000 in
theorem c_undo (mm : pw_m) (hok : pw_ok mm) : pw_Ct 2 yX7_undo m_X7_undo [.ref 0] mm (fun r m' => r = some (.int (F_undo mm)) ∧ m' = G_undo mm) := by
  refine pw_ct (by decide +kernel) rfl (Nat.le_of_ble_eq_true rfl) (fun x => ?_)
  generalize hZ : pw_Z x _ = Z
  have bu := pw_b112 hok
  show pw_V x m_X7_undo 2 Z 0 [(0, .ref 0)] [] mm
  refine pw_blk (pc' := 7) [.aload 0, .getfield 703, .getfield 102] (by decide +kernel) ?_
  show pw_V x m_X7_undo 2 Z 7 [(0, .ref 0)] [.int (mm 11 2)] mm
  rw [show mm 11 2 = nI (pw_g mm 11 2) from pw_q112 hok]
  refine pw_iz_ne (tgt := 13) (off := 6) (by omega) (by decide +kernel) (by decide) (fun h7 => ?_) (fun h7 => ?_)
  · refine pw_blk (pc' := 21) [.aload 0, .getfield 703, .aload 0, .getfield 702] (by decide +kernel) ?_
    show pw_V x m_X7_undo 2 Z 21 [(0, .ref 0)] [.ref 42, .ref 11] mm
    refine pw_cV (vs := [.ref 42]) (rest := []) k_X1_recall (c_recall mm hok (by omega)) l_7_184 rfl rfl rfl rfl (by decide) (Nat.le_of_ble_eq_true rfl) (by decide +kernel) ?_
    rintro _ m1 ⟨rfl, e1⟩
    rw [e1]
    clear e1 m1
    show pw_V x m_X7_undo 2 Z 24 [(0, .ref 0)] [] (pw_rec mm)
    refine pw_blk (pc' := 31) [.aload 0, .getfield 703, .getfield 102] (by decide +kernel) ?_
    show pw_V x m_X7_undo 2 Z 31 [(0, .ref 0)] [.int ((pw_rec mm) 11 2)] (pw_rec mm)
    rw [← hZ]
    refine pw_ri (by decide +kernel) ?_
    constructor
    · simp only [F_undo, if_neg h7]; rfl
    · simp [G_undo, h7]
  · refine pw_blk (pc' := 12) [.iconst (-4)] (by decide +kernel) ?_
    show pw_V x m_X7_undo 2 Z 12 [(0, .ref 0)] [.int (-4)] mm
    rw [← hZ]
    refine pw_ri (by decide +kernel) ?_
    constructor
    · simp [F_undo, h7]
    · simp [G_undo, h7]

set_option maxHeartbeats 4000000 in
set_option maxRecDepth 100000 in
theorem c_keep (k : Int32) (mm : pw_m) (hok : pw_ok mm) : pw_Ct 1 yX7_keep m_X7_keep [.ref 0, .int k] mm (fun r m' => r = some (.int (F_keep mm k)) ∧ m' = G_keep mm k) := by
  refine pw_ct (by decide +kernel) rfl (Nat.le_of_ble_eq_true rfl) (fun x => ?_)
  generalize hZ : pw_Z x _ = Z
  have bb := pw_b113 hok
  show pw_V x m_X7_keep 1 Z 0 [(0, .ref 0), (1, .int k)] [] mm
  refine pw_blk (pc' := 1) [.iload 1] (by decide +kernel) ?_
  show pw_V x m_X7_keep 1 Z 1 [(0, .ref 0), (1, .int k)] [.int k] mm
  refine pw_if_lt (tgt := 9) (off := 8) (by decide +kernel) (by decide) (fun h1 => ?_) (fun h1 => ?_)
  · refine pw_blk (pc' := 11) [.iconst (-2)] (by decide +kernel) ?_
    show pw_V x m_X7_keep 1 Z 11 [(0, .ref 0), (1, .int k)] [.int (-2)] mm
    rw [← hZ]
    refine pw_ri (by decide +kernel) ?_
    constructor
    · simp [F_keep, pw_inr_f1 h1]
    · simp [G_keep, pw_inr_f1 h1]
  · refine pw_blk (pc' := 6) [.iload 1, .iconst 2] (by decide +kernel) ?_
    show pw_V x m_X7_keep 1 Z 6 [(0, .ref 0), (1, .int k)] [.int (nI 2), .int k] mm
    refine pw_ic_lt (tgt := 12) (off := 6) (by decide +kernel) (by decide) (fun h6 => ?_) (fun h6 => ?_)
    · have y1 := pw_inr_y (n := 2) h1 (fun z => pw_nlt z h6)
      obtain ⟨j, bj, ej⟩ := pw_inr_t (by omega) y1
      subst ej
      rcases (show j = 0 ∨ j = 1 by omega) with ex | ex
      · subst ex
        show pw_V x m_X7_keep 1 Z 12 [(0, .ref 0), (1, .int (nI 0))] [] mm
        refine pw_blk (pc' := 25) [.aload 0, .getfield 703, .getfield 101, .iload 1, .aaload, .aload 0, .getfield 702] (by decide +kernel) ?_
        refine ⟨0, rfl, by omega, ?_⟩
        show pw_V x m_X7_keep 1 Z 25 [(0, .ref 0), (1, .int (nI 0))] [.ref 42, .ref 78] mm
        refine pw_cV (vs := [.ref 42]) (rest := []) k_X0_copy (c_copy_78_42 mm) l_7_191 rfl rfl rfl rfl (by decide) (Nat.le_of_ble_eq_true rfl) (by decide +kernel) ?_
        rintro _ m1 ⟨rfl, e1⟩
        rw [e1]
        clear e1 m1
        show pw_V x m_X7_keep 1 Z 28 [(0, .ref 0), (1, .int (nI 0))] [] (pw_cpI mm 78 42 6)
        refine pw_blk (pc' := 50) [.aload 0, .getfield 703, .dup, .getfield 103, .iconst 1, .iload 1, .ishl, .ior, .putfield 103, .aload 0, .getfield 702, .getfield 0] (by decide +kernel) ?_
        show pw_V x m_X7_keep 1 Z 50 [(0, .ref 0), (1, .int (nI 0))] [.int (mm 42 0)] (pw_up (pw_cpI mm 78 42 6) 11 3 ((mm 11 3) ||| ((nI 1) <<< ((nI 0) &&& 31))))
        rw [show mm 11 3 = nI (pw_g mm 11 3) from pw_q113 hok]
        rw [show (nI 1) <<< ((nI 0) &&& 31) = nI (2 ^ 0) from pw_shl1 (by omega)]
        rw [show (nI (pw_g mm 11 3)) ||| (nI (2 ^ 0)) = nI ((pw_g mm 11 3) ||| (2 ^ 0)) from fa_or _ _]
        rw [← hZ]
        refine pw_ri (by decide +kernel) ?_
        constructor
        · unfold F_keep; rw [if_pos y1]
        · unfold G_keep; rw [if_pos y1]; rfl
      · subst ex
        show pw_V x m_X7_keep 1 Z 12 [(0, .ref 0), (1, .int (nI 1))] [] mm
        refine pw_blk (pc' := 25) [.aload 0, .getfield 703, .getfield 101, .iload 1, .aaload, .aload 0, .getfield 702] (by decide +kernel) ?_
        refine ⟨1, rfl, by omega, ?_⟩
        show pw_V x m_X7_keep 1 Z 25 [(0, .ref 0), (1, .int (nI 1))] [.ref 42, .ref 82] mm
        refine pw_cV (vs := [.ref 42]) (rest := []) k_X0_copy (c_copy_82_42 mm) l_7_191 rfl rfl rfl rfl (by decide) (Nat.le_of_ble_eq_true rfl) (by decide +kernel) ?_
        rintro _ m1 ⟨rfl, e1⟩
        rw [e1]
        clear e1 m1
        show pw_V x m_X7_keep 1 Z 28 [(0, .ref 0), (1, .int (nI 1))] [] (pw_cpI mm 82 42 6)
        refine pw_blk (pc' := 50) [.aload 0, .getfield 703, .dup, .getfield 103, .iconst 1, .iload 1, .ishl, .ior, .putfield 103, .aload 0, .getfield 702, .getfield 0] (by decide +kernel) ?_
        show pw_V x m_X7_keep 1 Z 50 [(0, .ref 0), (1, .int (nI 1))] [.int (mm 42 0)] (pw_up (pw_cpI mm 82 42 6) 11 3 ((mm 11 3) ||| ((nI 1) <<< ((nI 1) &&& 31))))
        rw [show mm 11 3 = nI (pw_g mm 11 3) from pw_q113 hok]
        rw [show (nI 1) <<< ((nI 1) &&& 31) = nI (2 ^ 1) from pw_shl1 (by omega)]
        rw [show (nI (pw_g mm 11 3)) ||| (nI (2 ^ 1)) = nI ((pw_g mm 11 3) ||| (2 ^ 1)) from fa_or _ _]
        rw [← hZ]
        refine pw_ri (by decide +kernel) ?_
        constructor
        · unfold F_keep; rw [if_pos y1]
        · unfold G_keep; rw [if_pos y1]; rfl
    · refine pw_blk (pc' := 11) [.iconst (-2)] (by decide +kernel) ?_
      show pw_V x m_X7_keep 1 Z 11 [(0, .ref 0), (1, .int k)] [.int (-2)] mm
      rw [← hZ]
      refine pw_ri (by decide +kernel) ?_
      constructor
      · simp [F_keep, pw_inr_f2 (Int32.not_lt.mp h6)]
      · simp [G_keep, pw_inr_f2 (Int32.not_lt.mp h6)]

set_option maxHeartbeats 4000000 in
set_option maxRecDepth 100000 in
theorem c_back (k : Int32) (mm : pw_m) (hok : pw_ok mm) : pw_Ct 1 yX7_back m_X7_back [.ref 0, .int k] mm (fun r m' => r = some (.int (F_back mm k)) ∧ m' = G_back mm k) := by
  refine pw_ct (by decide +kernel) rfl (Nat.le_of_ble_eq_true rfl) (fun x => ?_)
  generalize hZ : pw_Z x _ = Z
  have bb := pw_b113 hok
  show pw_V x m_X7_back 1 Z 0 [(0, .ref 0), (1, .int k)] [] mm
  refine pw_blk (pc' := 1) [.iload 1] (by decide +kernel) ?_
  show pw_V x m_X7_back 1 Z 1 [(0, .ref 0), (1, .int k)] [.int k] mm
  refine pw_if_lt (tgt := 9) (off := 8) (by decide +kernel) (by decide) (fun h1 => ?_) (fun h1 => ?_)
  · refine pw_blk (pc' := 11) [.iconst (-2)] (by decide +kernel) ?_
    show pw_V x m_X7_back 1 Z 11 [(0, .ref 0), (1, .int k)] [.int (-2)] mm
    rw [← hZ]
    refine pw_ri (by decide +kernel) ?_
    constructor
    · simp [F_back, pw_inr_f1 h1]
    · simp [G_back, pw_inr_f1 h1]
  · refine pw_blk (pc' := 6) [.iload 1, .iconst 2] (by decide +kernel) ?_
    show pw_V x m_X7_back 1 Z 6 [(0, .ref 0), (1, .int k)] [.int (nI 2), .int k] mm
    refine pw_ic_lt (tgt := 12) (off := 6) (by decide +kernel) (by decide) (fun h6 => ?_) (fun h6 => ?_)
    · have y1 := pw_inr_y (n := 2) h1 (fun z => pw_nlt z h6)
      obtain ⟨j, bj, ej⟩ := pw_inr_t (by omega) y1
      subst ej
      rcases (show j = 0 ∨ j = 1 by omega) with ex | ex
      · subst ex
        show pw_V x m_X7_back 1 Z 12 [(0, .ref 0), (1, .int (nI 0))] [] mm
        refine pw_blk (pc' := 20) [.aload 0, .getfield 703, .getfield 103, .iload 1] (by decide +kernel) ?_
        show pw_V x m_X7_back 1 Z 20 [(0, .ref 0), (1, .int (nI 0))] [.int (nI 0), .int (mm 11 3)] mm
        rw [show mm 11 3 = nI (pw_g mm 11 3) from pw_q113 hok]
        refine pw_cS (vs := [.int (nI (pw_g mm 11 3)), .int (nI 0)]) (rest := []) k_X7_has (c_has (nI (pw_g mm 11 3)) (nI 0) mm) l_7_124 rfl (by decide) (Nat.le_of_ble_eq_true rfl) (by decide +kernel) ?_
        rintro _ m1 ⟨rfl, e1⟩
        rw [e1]
        clear e1 m1
        show pw_V x m_X7_back 1 Z 23 [(0, .ref 0), (1, .int (nI 0))] [.int (pw_b (pw_hs (nI (pw_g mm 11 3)) (nI 0)))] mm
        rw [pw_hs_n (by omega) (by omega)]
        refine pw_ib_ne (tgt := 29) (off := 6) (by decide +kernel) (by decide) (fun h23 => ?_) (fun h23 => ?_)
        · refine pw_blk (pc' := 42) [.aload 0, .getfield 702, .aload 0, .getfield 703, .getfield 101, .iload 1, .aaload] (by decide +kernel) ?_
          refine ⟨0, rfl, by omega, ?_⟩
          show pw_V x m_X7_back 1 Z 42 [(0, .ref 0), (1, .int (nI 0))] [.ref 78, .ref 42] mm
          refine pw_cV (vs := [.ref 78]) (rest := []) k_X0_copy (c_copy_42_78 mm) l_7_191 rfl rfl rfl rfl (by decide) (Nat.le_of_ble_eq_true rfl) (by decide +kernel) ?_
          rintro _ m1 ⟨rfl, e1⟩
          rw [e1]
          clear e1 m1
          show pw_V x m_X7_back 1 Z 45 [(0, .ref 0), (1, .int (nI 0))] [] (pw_cpI mm 42 78 6)
          refine pw_blk (pc' := 60) [.aload 0, .getfield 703, .iconst 0, .putfield 102, .aload 0, .getfield 702, .getfield 0] (by decide +kernel) ?_
          show pw_V x m_X7_back 1 Z 60 [(0, .ref 0), (1, .int (nI 0))] [.int ((pw_cpI mm 42 78 6) 42 0)] (pw_up (pw_cpI mm 42 78 6) 11 2 (nI 0))
          rw [← hZ]
          refine pw_ri (by decide +kernel) ?_
          constructor
          · unfold F_back; rw [if_pos y1, show pw_c (nI 0) = 0 from rfl, if_pos h23]; rfl
          · unfold G_back; rw [show pw_c (nI 0) = 0 from rfl, if_pos ⟨y1, h23⟩]; rfl
        · refine pw_blk (pc' := 28) [.iconst (-4)] (by decide +kernel) ?_
          show pw_V x m_X7_back 1 Z 28 [(0, .ref 0), (1, .int (nI 0))] [.int (-4)] mm
          rw [← hZ]
          refine pw_ri (by decide +kernel) ?_
          constructor
          · unfold F_back; rw [if_pos y1, show pw_c (nI 0) = 0 from rfl, if_neg (by rw [h23]; decide)]
          · unfold G_back; rw [show pw_c (nI 0) = 0 from rfl, if_neg (by rw [h23]; simp)]
      · subst ex
        show pw_V x m_X7_back 1 Z 12 [(0, .ref 0), (1, .int (nI 1))] [] mm
        refine pw_blk (pc' := 20) [.aload 0, .getfield 703, .getfield 103, .iload 1] (by decide +kernel) ?_
        show pw_V x m_X7_back 1 Z 20 [(0, .ref 0), (1, .int (nI 1))] [.int (nI 1), .int (mm 11 3)] mm
        rw [show mm 11 3 = nI (pw_g mm 11 3) from pw_q113 hok]
        refine pw_cS (vs := [.int (nI (pw_g mm 11 3)), .int (nI 1)]) (rest := []) k_X7_has (c_has (nI (pw_g mm 11 3)) (nI 1) mm) l_7_124 rfl (by decide) (Nat.le_of_ble_eq_true rfl) (by decide +kernel) ?_
        rintro _ m1 ⟨rfl, e1⟩
        rw [e1]
        clear e1 m1
        show pw_V x m_X7_back 1 Z 23 [(0, .ref 0), (1, .int (nI 1))] [.int (pw_b (pw_hs (nI (pw_g mm 11 3)) (nI 1)))] mm
        rw [pw_hs_n (by omega) (by omega)]
        refine pw_ib_ne (tgt := 29) (off := 6) (by decide +kernel) (by decide) (fun h23 => ?_) (fun h23 => ?_)
        · refine pw_blk (pc' := 42) [.aload 0, .getfield 702, .aload 0, .getfield 703, .getfield 101, .iload 1, .aaload] (by decide +kernel) ?_
          refine ⟨1, rfl, by omega, ?_⟩
          show pw_V x m_X7_back 1 Z 42 [(0, .ref 0), (1, .int (nI 1))] [.ref 82, .ref 42] mm
          refine pw_cV (vs := [.ref 82]) (rest := []) k_X0_copy (c_copy_42_82 mm) l_7_191 rfl rfl rfl rfl (by decide) (Nat.le_of_ble_eq_true rfl) (by decide +kernel) ?_
          rintro _ m1 ⟨rfl, e1⟩
          rw [e1]
          clear e1 m1
          show pw_V x m_X7_back 1 Z 45 [(0, .ref 0), (1, .int (nI 1))] [] (pw_cpI mm 42 82 6)
          refine pw_blk (pc' := 60) [.aload 0, .getfield 703, .iconst 0, .putfield 102, .aload 0, .getfield 702, .getfield 0] (by decide +kernel) ?_
          show pw_V x m_X7_back 1 Z 60 [(0, .ref 0), (1, .int (nI 1))] [.int ((pw_cpI mm 42 82 6) 42 0)] (pw_up (pw_cpI mm 42 82 6) 11 2 (nI 0))
          rw [← hZ]
          refine pw_ri (by decide +kernel) ?_
          constructor
          · unfold F_back; rw [if_pos y1, show pw_c (nI 1) = 1 from rfl, if_pos h23]; rfl
          · unfold G_back; rw [show pw_c (nI 1) = 1 from rfl, if_pos ⟨y1, h23⟩]; rfl
        · refine pw_blk (pc' := 28) [.iconst (-4)] (by decide +kernel) ?_
          show pw_V x m_X7_back 1 Z 28 [(0, .ref 0), (1, .int (nI 1))] [.int (-4)] mm
          rw [← hZ]
          refine pw_ri (by decide +kernel) ?_
          constructor
          · unfold F_back; rw [if_pos y1, show pw_c (nI 1) = 1 from rfl, if_neg (by rw [h23]; decide)]
          · unfold G_back; rw [show pw_c (nI 1) = 1 from rfl, if_neg (by rw [h23]; simp)]
    · refine pw_blk (pc' := 11) [.iconst (-2)] (by decide +kernel) ?_
      show pw_V x m_X7_back 1 Z 11 [(0, .ref 0), (1, .int k)] [.int (-2)] mm
      rw [← hZ]
      refine pw_ri (by decide +kernel) ?_
      constructor
      · simp [F_back, pw_inr_f2 (Int32.not_lt.mp h6)]
      · simp [G_back, pw_inr_f2 (Int32.not_lt.mp h6)]
end
section
def pw_qr (A : pw_m) (k s : Nat) : Bool := pw_en2 A (some k) (pw_si A (pw_bh (pw_n A) s)) || pw_en2 A (some k) (pw_si A (pw_ah (pw_n A) s))
def pw_crv (A : pw_m) (t k : Nat) : Int32 := match pw_pl A k with
  | none => A 43 k
  | some s => if t.testBit k then A 43 k else if pw_qr A k s then nI (pw_g A 43 k - 1) else nI (min 9 (pw_g A 43 k + 1))
def pw_crI (A : pw_m) (t i : Nat) : pw_m := fun c => if c = 43 then pw_c6 (A 43) (pw_crv A t) i else A c
theorem pw_crI_g {A : pw_m} {t i : Nat} : pw_crI A t i 43 i = A 43 i := by simp [pw_crI, pw_c6]
theorem pw_crI_o {A : pw_m} {t i c : Nat} (h : c ≠ 43) : pw_crI A t i c = A c := by simp [pw_crI, h]
theorem pw_crI_s {A : pw_m} {t i : Nat} : pw_up (pw_crI A t i) 43 i (pw_crv A t i) = pw_crI A t (i + 1) := by
  funext c
  by_cases h : c = 43
  · subst h; rw [pw_up_eq]; exact pw_c6_s
  · rw [pw_up_ne h, pw_crI_o h, pw_crI_o h]
theorem pw_c6_n {f g : Nat → Int32} {i : Nat} (h : g i = f i) : pw_c6 f g i = pw_c6 f g (i + 1) := by
  rw [← pw_c6_s, h]
  funext k
  unfold upd pw_c6
  by_cases q : k = i
  · subst q; simp
  · rw [if_neg q]
theorem pw_crI_n {A : pw_m} {t i : Nat} (h : pw_crv A t i = A 43 i) : pw_crI A t i = pw_crI A t (i + 1) := by
  funext c
  by_cases q : c = 43
  · subst q; exact pw_c6_n h
  · rw [pw_crI_o q, pw_crI_o q]
theorem pw_crI_0 {A : pw_m} {t : Nat} : pw_crI A t 0 = A := by
  funext c
  unfold pw_crI
  split
  · rename_i h; subst h; exact pw_c6_0
  · rfl
theorem pw_crv_ok {A : pw_m} {t k : Nat} (h : pw_ok A) (hk : k < 6) : pw_fine (pw_crv A t k) 10 := by
  have b := pw_b43 h hk
  unfold pw_crv
  split
  · exact h.2.1.2.1 k hk
  · split
    · exact h.2.1.2.1 k hk
    · split
      · exact pw_fine_nI (by omega) (by omega)
      · exact pw_fine_nI (by omega) (by omega)
theorem pw_ok_crI {A : pw_m} {t i : Nat} (h : pw_ok A) : pw_ok (pw_crI A t i) := by
  refine pw_ok_e (fun c hc => pw_crI_o (by omega)) (by rw [pw_crI_o (by omega)]) (by rw [pw_crI_o (by omega)]) ?_ h
  obtain ⟨a, c, f⟩ := h.2.1
  refine ⟨by rw [pw_crI_o (by omega)]; exact a, fun z hz => ?_, by rw [pw_crI_o (c := 42 + 2) (by omega), pw_crI_o (c := 42 + 3) (by omega)]; exact f⟩
  show pw_fine (pw_c6 (A 43) (pw_crv A t) i z) 10
  unfold pw_c6
  split
  · exact pw_crv_ok h hz
  · exact c z hz
theorem pw_max0 {g : Nat} (h : g < 2 ^ 30) : pw_max (nI 0) (nI g - nI 1) = nI (g - 1) := by
  unfold pw_max
  rcases Nat.eq_zero_or_pos g with q | q
  · subst q; decide
  · rw [pk_sub (show 1 ≤ g from q)]
    by_cases z : 0 < g - 1
    · rw [if_pos (nI_lt z (by omega))]
    · rw [show g - 1 = 0 by omega]; rfl
/-! news -/
def pw_hn (A : pw_m) (k : Nat) : Nat := match pw_pl A k with
  | none => 0
  | some s => match pw_si A (pw_bh (pw_n A) s) with
    | none => 0
    | some t => pw_g A 44 t
def pw_hdI (A : pw_m) (i : Nat) : pw_m := fun c => if c = 25 then pw_c6 (A 25) (fun k => nI (pw_hn A k)) i else A c
theorem pw_hdI_o {A : pw_m} {i c : Nat} (h : c ≠ 25) : pw_hdI A i c = A c := by simp [pw_hdI, h]
theorem pw_hdI_s {A : pw_m} {i : Nat} : pw_up (pw_hdI A i) 25 i (nI (pw_hn A i)) = pw_hdI A (i + 1) := by
  funext c
  by_cases h : c = 25
  · subst h; rw [pw_up_eq]; exact pw_c6_s (g := fun k => nI (pw_hn A k))
  · rw [pw_up_ne h, pw_hdI_o h, pw_hdI_o h]
theorem pw_hdI_0 {A : pw_m} : pw_hdI A 0 = A := by
  funext c
  unfold pw_hdI
  split
  · rename_i h; subst h; exact pw_c6_0
  · rfl
theorem pw_ok_hdI {A : pw_m} {i : Nat} (h : pw_ok A) : pw_ok (pw_hdI A i) := pw_ok_f (fun c hc => pw_hdI_o (by omega)) (by rw [pw_hdI_o (by omega)]) (by rw [pw_hdI_o (by omega)]) h
theorem pw_hn_lt {A : pw_m} {k : Nat} (h : pw_ok A) : pw_hn A k < 16 := by
  unfold pw_hn
  split
  · omega
  · split
    · omega
    · rename_i t ht; exact pw_b44 h (pw_si_lt ht)
def pw_snI (A : pw_m) (i : Nat) : pw_m := fun c => if c = 44 then pw_c6 (A 44) (fun k => nI (pw_g A 44 k ||| pw_hn A k)) i else if c = 25 then pw_c6 (A 25) (fun k => nI (pw_hn A k)) (pw_k A) else A c
theorem pw_snI_o {A : pw_m} {i c : Nat} (h : c ≠ 44) (h2 : c ≠ 25) : pw_snI A i c = A c := by simp [pw_snI, h, h2]
theorem pw_snI_s {A : pw_m} {i : Nat} : pw_up (pw_snI A i) 44 i (nI (pw_g A 44 i ||| pw_hn A i)) = pw_snI A (i + 1) := by
  funext c
  by_cases h : c = 44
  · subst h; rw [pw_up_eq]; exact pw_c6_s (g := fun k => nI (pw_g A 44 k ||| pw_hn A k))
  · rw [pw_up_ne h]; unfold pw_snI; rw [if_neg h, if_neg h]
theorem pw_snI_0 {A : pw_m} : pw_hdI A (pw_k A) = pw_snI A 0 := by
  funext c
  unfold pw_snI
  split
  · rename_i h; subst h; rw [pw_c6_0, pw_hdI_o (by omega)]
  · split
    · rename_i h; subst h; simp [pw_hdI]
    · rename_i h; rw [pw_hdI_o h]
theorem pw_snI_g {A : pw_m} {i : Nat} : pw_snI A i 44 i = A 44 i := by simp [pw_snI, pw_c6]
theorem pw_snI_h {A : pw_m} {i j : Nat} (h : j < pw_k A) : pw_snI A i 25 j = nI (pw_hn A j) := by simp [pw_snI, pw_c6, h]
theorem pw_ok_snI {A : pw_m} {i : Nat} (h : pw_ok A) : pw_ok (pw_snI A i) := by
  refine pw_ok_e (fun c hc => pw_snI_o (by omega) (by omega)) (by rw [pw_snI_o (by omega) (by omega)]) (by rw [pw_snI_o (by omega) (by omega)]) ?_ h
  obtain ⟨a, c, f, g⟩ := h.2.1
  refine ⟨by rw [pw_snI_o (by omega) (by omega)]; exact a, by rw [pw_snI_o (c := 42 + 1) (by omega) (by omega)]; exact c, fun z hz => ?_, by rw [pw_snI_o (c := 42 + 3) (by omega) (by omega)]; exact g⟩
  show pw_fine (pw_c6 (A 44) (fun k => nI (pw_g A 44 k ||| pw_hn A k)) i z) 16
  unfold pw_c6
  split
  · exact pw_fine_nI (Nat.or_lt_two_pow (n := 4) (pw_b44 h hz) (pw_hn_lt h)) (by omega)
  · exact f z hz
/-! who is there no more -/
def pw_an (a b : Nat) : Nat := a ^^^ (a &&& b)
theorem pw_anN : ∀ a, a < 64 → ∀ b, b < 64 → nI a &&& (nI b ^^^ (-1)) = nI (pw_an a b) := by decide +kernel
theorem pw_an_bit {a b i : Nat} : (pw_an a b).testBit i = (a.testBit i && !b.testBit i) := by
  unfold pw_an
  rw [Nat.testBit_xor, Nat.testBit_and]
  cases a.testBit i <;> cases b.testBit i <;> rfl
theorem pw_an_lt {a b k : Nat} (h : a < 2 ^ k) : pw_an a b < 2 ^ k := by
  apply Nat.lt_pow_two_of_testBit
  intro i hi
  rw [pw_an_bit, Nat.testBit_lt_two_pow (Nat.lt_of_lt_of_le h (Nat.pow_le_pow_right (by omega) hi))]
  rfl
theorem pw_ok_th {A : pw_m} {v : Nat} (h : pw_ok A) (hv : v < 2 ^ pw_k A) : pw_ok (pw_up A 42 1 (nI v)) := by
  have hv64 : v < 64 := Nat.lt_of_lt_of_le hv (Nat.pow_le_pow_right (by omega) (pw_bk h) : 2 ^ pw_k A ≤ 2 ^ 6)
  refine pw_ok_e (fun c hc => pw_up_ne (by omega)) (by rw [pw_up_ne (by omega)]) (by rw [pw_up_ne (by omega)]) ?_ h
  obtain ⟨⟨a, b⟩, c⟩ := h.2.1
  refine ⟨⟨by rw [pw_up_eq]; simpa [upd] using a, ?_⟩, by rw [pw_up_ne (by omega), pw_up_ne (by omega), pw_up_ne (by omega)]; exact c⟩
  rw [pw_up_eq]
  have hp : 2 ^ pw_k A ≤ 64 := Nat.pow_le_pow_right (by omega) (pw_bk h)
  simpa [upd] using pw_fine_nI hv (by omega)
theorem pw_ok_dy {A : pw_m} {v : Nat} (h : pw_ok A) (hv : v < 1000) : pw_ok (pw_up A 42 0 (nI v)) := by
  refine pw_ok_e (fun c hc => pw_up_ne (by omega)) (by rw [pw_up_ne (by omega)]) (by rw [pw_up_ne (by omega)]) ?_ h
  obtain ⟨⟨a, b⟩, c⟩ := h.2.1
  refine ⟨⟨?_, by rw [pw_up_eq]; simpa [upd] using b⟩, by rw [pw_up_ne (by omega), pw_up_ne (by omega), pw_up_ne (by omega)]; exact c⟩
  rw [pw_up_eq]
  simpa [upd] using pw_fine_nI hv (by omega)

set_option maxHeartbeats 4000000 in
set_option maxRecDepth 100000 in
theorem c_changeRenown (t : Nat) (mm : pw_m) (hok : pw_ok mm) (ht : t < 64) : pw_Ct 2 yX7_changeRenown m_X7_changeRenown [.ref 0, .int (nI t)] mm (fun r m' => r = none ∧ m' = pw_crI mm t (pw_k mm)) := by
  refine pw_ct (by decide +kernel) rfl (Nat.le_of_ble_eq_true rfl) (fun x => ?_)
  generalize hZ : pw_Z x _ = Z
  have bn := pw_bn hok
  have bk := pw_bk hok
  have loop : ∀ i : Nat, i ≤ pw_k mm → pw_V x m_X7_changeRenown 2 Z 2 [(0, .ref 0), (1, .int (nI t)), (2, .int (nI i))] [] (pw_crI mm t i) := by
    refine pw_dn (pw_k mm) (fun i hi ih => ?_)
    have hokI : pw_ok (pw_crI mm t i) := pw_ok_crI hok
    refine pw_blk (pc' := 10) [.iload 2, .aload 0, .getfield 701, .getfield 501] (by decide +kernel) ?_
    show pw_V x m_X7_changeRenown 2 Z 10 [(0, .ref 0), (1, .int (nI t)), (2, .int (nI i))] [.int (mm 4 1), .int (nI i)] (pw_crI mm t i)
    rw [show mm 4 1 = nI (pw_k mm) from pw_q41 hok]
    refine pw_in_ge (tgt := 139) (off := 129) (by omega) (by omega) (by decide +kernel) (by decide) (fun h10 => ?_) (fun h10 => ?_)
    · rw [← hZ]
      refine pw_rv (by decide +kernel) ?_
      have e : i = pw_k mm := by omega
      subst e
      exact ⟨rfl, rfl⟩
    · refine pw_blk (pc' := 25) [.aload 0, .getfield 702, .getfield 4, .iload 2, .iaload, .istore 3, .iload 3, .iconst (-1)] (by decide +kernel) ?_
      refine ⟨i, rfl, by omega, ?_⟩
      show pw_V x m_X7_changeRenown 2 Z 25 [(3, .int (mm 45 i)), (0, .ref 0), (1, .int (nI t)), (2, .int (nI i))] [.int (-1), .int (mm 45 i)] (pw_crI mm t i)
      rw [show mm 45 i = pw_o (pw_pl mm i) from pw_q45 hok (by omega)]
      rcases h25 : pw_pl mm i with _ | s25
      · show pw_V x m_X7_changeRenown 2 Z 25 [(3, .int (-1)), (0, .ref 0), (1, .int (nI t)), (2, .int (nI i))] [.int (-1), .int (-1)] (pw_crI mm t i)
        refine pw_ic_eq (tgt := 133) (off := 108) (by decide +kernel) (by decide) (fun _ => ?_) (fun h => absurd rfl h)
        refine pw_blk (pc' := 136) [.iinc 2 1] (by decide +kernel) ?_
        show pw_V x m_X7_changeRenown 2 Z 136 [(2, .int ((nI i) + (nI 1))), (3, .int (-1)), (0, .ref 0), (1, .int (nI t))] [] (pw_crI mm t i)
        rw [show (nI i) + (nI 1) = nI (i + 1) from nI_add _ _]
        refine pw_goto (tgt := 2) (off := -134) (by decide +kernel) (by decide) ?_
        rw [pw_crI_n (show pw_crv mm t i = mm 43 i from by simp [pw_crv, h25])]
        refine pw_lvp [2, 3, 0] rfl ?_
        exact ih (by omega)
      · show pw_V x m_X7_changeRenown 2 Z 25 [(3, .int (nI s25)), (0, .ref 0), (1, .int (nI t)), (2, .int (nI i))] [.int (-1), .int (nI s25)] (pw_crI mm t i)
        have b25 := pw_b45 hok (show i < 6 by omega) h25
        refine pw_ic_eq (tgt := 133) (off := 108) (by decide +kernel) (by decide) (fun h => absurd h (pw_n1 (by omega))) (fun _ => ?_)
        have bh := pw_bh_lt b25
        have ba := pw_ah_lt b25
        have b43 := pw_b43 hok (show i < 6 by omega)
        refine pw_blk (pc' := 30) [.iload 1, .iload 2] (by decide +kernel) ?_
        show pw_V x m_X7_changeRenown 2 Z 30 [(3, .int (nI s25)), (0, .ref 0), (1, .int (nI t)), (2, .int (nI i))] [.int (nI i), .int (nI t)] (pw_crI mm t i)
        refine pw_cS (vs := [.int (nI t), .int (nI i)]) (rest := []) k_X7_has (c_has (nI t) (nI i) (pw_crI mm t i)) l_7_124 rfl (by decide) (Nat.le_of_ble_eq_true rfl) (by decide +kernel) ?_
        rintro _ m1 ⟨rfl, e1⟩
        rw [e1]
        clear e1 m1
        show pw_V x m_X7_changeRenown 2 Z 33 [(3, .int (nI s25)), (0, .ref 0), (1, .int (nI t)), (2, .int (nI i))] [.int (pw_b (pw_hs (nI t) (nI i)))] (pw_crI mm t i)
        rw [pw_hs_n (by omega) (by omega)]
        refine pw_ib_eq (tgt := 39) (off := 6) (by decide +kernel) (by decide) (fun h33 => ?_) (fun h33 => ?_)
        · refine pw_blk (pc' := 43) [.aload 0, .iload 2, .aload 0, .iload 3] (by decide +kernel) ?_
          show pw_V x m_X7_changeRenown 2 Z 43 [(3, .int (nI s25)), (0, .ref 0), (1, .int (nI t)), (2, .int (nI i))] [.int (nI s25), .ref 0, .int (nI i), .ref 0] (pw_crI mm t i)
          refine pw_cV (vs := [.int (nI s25)]) (rest := [.int (nI i), .ref 0]) k_X7_whoSitsBehind (c_whoSitsBehind s25 (pw_crI mm t i) hokI (show s25 < pw_n mm from by omega)) l_7_274 rfl rfl rfl rfl (by decide) (Nat.le_of_ble_eq_true rfl) (by decide +kernel) ?_
          rintro _ m1 ⟨rfl, e1⟩
          rw [e1]
          clear e1 m1
          show pw_V x m_X7_changeRenown 2 Z 46 [(3, .int (nI s25)), (0, .ref 0), (1, .int (nI t)), (2, .int (nI i))] [.int (pw_o (pw_si mm (pw_bh (pw_n mm) s25))), .int (nI i), .ref 0] (pw_crI mm t i)
          refine pw_cV (vs := [.int (nI i), .int (pw_o (pw_si mm (pw_bh (pw_n mm) s25)))]) (rest := []) k_X7_areEnemies (c_areEnemies (some i) (pw_si mm (pw_bh (pw_n mm) s25)) (pw_crI mm t i) hokI (fun c hc => by cases hc; omega) (fun c hc => pw_si_lt hc)) l_7_277 rfl rfl rfl rfl (by decide) (Nat.le_of_ble_eq_true rfl) (by decide +kernel) ?_
          rintro _ m1 ⟨rfl, e1⟩
          rw [e1]
          clear e1 m1
          show pw_V x m_X7_changeRenown 2 Z 49 [(3, .int (nI s25)), (0, .ref 0), (1, .int (nI t)), (2, .int (nI i))] [.int (pw_b (pw_en2 mm (some i) (pw_si mm (pw_bh (pw_n mm) s25))))] (pw_crI mm t i)
          refine pw_ib_ne (tgt := 78) (off := 29) (by decide +kernel) (by decide) (fun h49 => ?_) (fun h49 => ?_)
          · refine pw_blk (pc' := 79) [.iconst 1] (by decide +kernel) ?_
            show pw_V x m_X7_changeRenown 2 Z 79 [(3, .int (nI s25)), (0, .ref 0), (1, .int (nI t)), (2, .int (nI i))] [.int (nI 1)] (pw_crI mm t i)
            refine pw_goto (tgt := 83) (off := 4) (by decide +kernel) (by decide) ?_
            refine pw_blk (pc' := 95) [.istore 4, .aload 0, .getfield 702, .getfield 2, .iload 2, .iload 4] (by decide +kernel) ?_
            show pw_V x m_X7_changeRenown 2 Z 95 [(4, .int (nI 1)), (3, .int (nI s25)), (0, .ref 0), (1, .int (nI t)), (2, .int (nI i))] [.int (nI 1), .int (nI i), .ref 43] (pw_crI mm t i)
            refine pw_iz_eq (tgt := 116) (off := 21) (by omega) (by decide +kernel) (by decide) (fun h => by omega) (fun _ => ?_)
            refine pw_blk (pc' := 110) [.iconst 0, .aload 0, .getfield 702, .getfield 2, .iload 2, .iaload, .iconst 1, .isub] (by decide +kernel) ?_
            refine ⟨i, rfl, by omega, ?_⟩
            show pw_V x m_X7_changeRenown 2 Z 110 [(4, .int (nI 1)), (3, .int (nI s25)), (0, .ref 0), (1, .int (nI t)), (2, .int (nI i))] [.int (((pw_crI mm t i) 43 i) - (nI 1)), .int (nI 0), .int (nI i), .ref 43] (pw_crI mm t i)
            rw [show (pw_crI mm t i) 43 i = nI (pw_g mm 43 i) from pw_crI_g.trans (pw_q43 hok (by omega))]
            refine pw_cMax l_7_283 (by decide) (Nat.le_of_ble_eq_true rfl) (by decide +kernel) ?_
            show pw_V x m_X7_changeRenown 2 Z 113 [(4, .int (nI 1)), (3, .int (nI s25)), (0, .ref 0), (1, .int (nI t)), (2, .int (nI i))] [.int (pw_max (nI 0) ((nI (pw_g mm 43 i)) - (nI 1))), .int (nI i), .ref 43] (pw_crI mm t i)
            rw [pw_max0 (g := pw_g mm 43 i) (by omega)]
            refine pw_goto (tgt := 132) (off := 19) (by decide +kernel) (by decide) ?_
            refine pw_blk (pc' := 136) [.iastore, .iinc 2 1] (by decide +kernel) ?_
            refine ⟨i, rfl, by omega, ?_⟩
            show pw_V x m_X7_changeRenown 2 Z 136 [(2, .int ((nI i) + (nI 1))), (4, .int (nI 1)), (3, .int (nI s25)), (0, .ref 0), (1, .int (nI t))] [] (pw_up (pw_crI mm t i) 43 i (nI (pw_g mm 43 i - 1)))
            rw [show (nI i) + (nI 1) = nI (i + 1) from nI_add _ _]
            refine pw_goto (tgt := 2) (off := -134) (by decide +kernel) (by decide) ?_
            rw [show nI (pw_g mm 43 i - 1) = pw_crv mm t i from by simp [pw_crv, pw_qr, h25, h33, h49], pw_crI_s]
            refine pw_lvp [3, 4, 0] rfl ?_
            exact ih (by omega)
          · refine pw_blk (pc' := 66) [.aload 0, .iload 2, .aload 0, .getfield 702, .iload 3, .aload 0, .getfield 701, .getfield 500] (by decide +kernel) ?_
            show pw_V x m_X7_changeRenown 2 Z 66 [(3, .int (nI s25)), (0, .ref 0), (1, .int (nI t)), (2, .int (nI i))] [.int (mm 4 0), .int (nI s25), .ref 42, .int (nI i), .ref 0] (pw_crI mm t i)
            rw [show mm 4 0 = nI (pw_n mm) from pw_q40 hok]
            refine pw_cS (vs := [.int (nI s25), .int (nI (pw_n mm))]) (rest := [.ref 42, .int (nI i), .ref 0]) k_X7_ahead (c_ahead s25 (pw_n mm) (by omega) (by omega) (pw_crI mm t i)) l_7_280 rfl (by decide) (Nat.le_of_ble_eq_true rfl) (by decide +kernel) ?_
            rintro _ m1 ⟨rfl, e1⟩
            rw [e1]
            clear e1 m1
            show pw_V x m_X7_changeRenown 2 Z 69 [(3, .int (nI s25)), (0, .ref 0), (1, .int (nI t)), (2, .int (nI i))] [.int (nI (pw_ah (pw_n mm) s25)), .ref 42, .int (nI i), .ref 0] (pw_crI mm t i)
            refine pw_cV (vs := [.int (nI (pw_ah (pw_n mm) s25))]) (rest := [.int (nI i), .ref 0]) k_X0_whoSitsOn (c_whoSitsOn (pw_ah (pw_n mm) s25) (pw_crI mm t i) hokI (by omega)) l_7_96 rfl rfl rfl rfl (by decide) (Nat.le_of_ble_eq_true rfl) (by decide +kernel) ?_
            rintro _ m1 ⟨rfl, e1⟩
            rw [e1]
            clear e1 m1
            show pw_V x m_X7_changeRenown 2 Z 72 [(3, .int (nI s25)), (0, .ref 0), (1, .int (nI t)), (2, .int (nI i))] [.int (pw_o (pw_si mm (pw_ah (pw_n mm) s25))), .int (nI i), .ref 0] (pw_crI mm t i)
            refine pw_cV (vs := [.int (nI i), .int (pw_o (pw_si mm (pw_ah (pw_n mm) s25)))]) (rest := []) k_X7_areEnemies (c_areEnemies (some i) (pw_si mm (pw_ah (pw_n mm) s25)) (pw_crI mm t i) hokI (fun c hc => by cases hc; omega) (fun c hc => pw_si_lt hc)) l_7_277 rfl rfl rfl rfl (by decide) (Nat.le_of_ble_eq_true rfl) (by decide +kernel) ?_
            rintro _ m1 ⟨rfl, e1⟩
            rw [e1]
            clear e1 m1
            show pw_V x m_X7_changeRenown 2 Z 75 [(3, .int (nI s25)), (0, .ref 0), (1, .int (nI t)), (2, .int (nI i))] [.int (pw_b (pw_en2 mm (some i) (pw_si mm (pw_ah (pw_n mm) s25))))] (pw_crI mm t i)
            refine pw_ib_eq (tgt := 82) (off := 7) (by decide +kernel) (by decide) (fun h75 => ?_) (fun h75 => ?_)
            · refine pw_blk (pc' := 95) [.iconst 0, .istore 4, .aload 0, .getfield 702, .getfield 2, .iload 2, .iload 4] (by decide +kernel) ?_
              show pw_V x m_X7_changeRenown 2 Z 95 [(4, .int (nI 0)), (3, .int (nI s25)), (0, .ref 0), (1, .int (nI t)), (2, .int (nI i))] [.int (nI 0), .int (nI i), .ref 43] (pw_crI mm t i)
              refine pw_iz_eq (tgt := 116) (off := 21) (by omega) (by decide +kernel) (by decide) (fun _ => ?_) (fun h => by omega)
              refine pw_blk (pc' := 129) [.iconst (9), .aload 0, .getfield 702, .getfield 2, .iload 2, .iaload, .iconst 1, .iadd] (by decide +kernel) ?_
              refine ⟨i, rfl, by omega, ?_⟩
              show pw_V x m_X7_changeRenown 2 Z 129 [(4, .int (nI 0)), (3, .int (nI s25)), (0, .ref 0), (1, .int (nI t)), (2, .int (nI i))] [.int (((pw_crI mm t i) 43 i) + (nI 1)), .int (nI 9), .int (nI i), .ref 43] (pw_crI mm t i)
              rw [show (pw_crI mm t i) 43 i = nI (pw_g mm 43 i) from pw_crI_g.trans (pw_q43 hok (by omega))]
              rw [show (nI (pw_g mm 43 i)) + (nI 1) = nI ((pw_g mm 43 i) + 1) from nI_add _ _]
              refine pw_cMin l_7_244 (by decide) (Nat.le_of_ble_eq_true rfl) (by decide +kernel) ?_
              show pw_V x m_X7_changeRenown 2 Z 132 [(4, .int (nI 0)), (3, .int (nI s25)), (0, .ref 0), (1, .int (nI t)), (2, .int (nI i))] [.int (pw_min (nI 9) (nI ((pw_g mm 43 i) + 1))), .int (nI i), .ref 43] (pw_crI mm t i)
              rw [pw_minN (by omega) (by omega)]
              refine pw_blk (pc' := 136) [.iastore, .iinc 2 1] (by decide +kernel) ?_
              refine ⟨i, rfl, by omega, ?_⟩
              show pw_V x m_X7_changeRenown 2 Z 136 [(2, .int ((nI i) + (nI 1))), (4, .int (nI 0)), (3, .int (nI s25)), (0, .ref 0), (1, .int (nI t))] [] (pw_up (pw_crI mm t i) 43 i (nI (min 9 ((pw_g mm 43 i) + 1))))
              rw [show (nI i) + (nI 1) = nI (i + 1) from nI_add _ _]
              refine pw_goto (tgt := 2) (off := -134) (by decide +kernel) (by decide) ?_
              rw [show nI (min 9 ((pw_g mm 43 i) + 1)) = pw_crv mm t i from by simp [pw_crv, pw_qr, h25, h33, h49, h75], pw_crI_s]
              refine pw_lvp [3, 4, 0] rfl ?_
              exact ih (by omega)
            · refine pw_blk (pc' := 79) [.iconst 1] (by decide +kernel) ?_
              show pw_V x m_X7_changeRenown 2 Z 79 [(3, .int (nI s25)), (0, .ref 0), (1, .int (nI t)), (2, .int (nI i))] [.int (nI 1)] (pw_crI mm t i)
              refine pw_goto (tgt := 83) (off := 4) (by decide +kernel) (by decide) ?_
              refine pw_blk (pc' := 95) [.istore 4, .aload 0, .getfield 702, .getfield 2, .iload 2, .iload 4] (by decide +kernel) ?_
              show pw_V x m_X7_changeRenown 2 Z 95 [(4, .int (nI 1)), (3, .int (nI s25)), (0, .ref 0), (1, .int (nI t)), (2, .int (nI i))] [.int (nI 1), .int (nI i), .ref 43] (pw_crI mm t i)
              refine pw_iz_eq (tgt := 116) (off := 21) (by omega) (by decide +kernel) (by decide) (fun h => by omega) (fun _ => ?_)
              refine pw_blk (pc' := 110) [.iconst 0, .aload 0, .getfield 702, .getfield 2, .iload 2, .iaload, .iconst 1, .isub] (by decide +kernel) ?_
              refine ⟨i, rfl, by omega, ?_⟩
              show pw_V x m_X7_changeRenown 2 Z 110 [(4, .int (nI 1)), (3, .int (nI s25)), (0, .ref 0), (1, .int (nI t)), (2, .int (nI i))] [.int (((pw_crI mm t i) 43 i) - (nI 1)), .int (nI 0), .int (nI i), .ref 43] (pw_crI mm t i)
              rw [show (pw_crI mm t i) 43 i = nI (pw_g mm 43 i) from pw_crI_g.trans (pw_q43 hok (by omega))]
              refine pw_cMax l_7_283 (by decide) (Nat.le_of_ble_eq_true rfl) (by decide +kernel) ?_
              show pw_V x m_X7_changeRenown 2 Z 113 [(4, .int (nI 1)), (3, .int (nI s25)), (0, .ref 0), (1, .int (nI t)), (2, .int (nI i))] [.int (pw_max (nI 0) ((nI (pw_g mm 43 i)) - (nI 1))), .int (nI i), .ref 43] (pw_crI mm t i)
              rw [pw_max0 (g := pw_g mm 43 i) (by omega)]
              refine pw_goto (tgt := 132) (off := 19) (by decide +kernel) (by decide) ?_
              refine pw_blk (pc' := 136) [.iastore, .iinc 2 1] (by decide +kernel) ?_
              refine ⟨i, rfl, by omega, ?_⟩
              show pw_V x m_X7_changeRenown 2 Z 136 [(2, .int ((nI i) + (nI 1))), (4, .int (nI 1)), (3, .int (nI s25)), (0, .ref 0), (1, .int (nI t))] [] (pw_up (pw_crI mm t i) 43 i (nI (pw_g mm 43 i - 1)))
              rw [show (nI i) + (nI 1) = nI (i + 1) from nI_add _ _]
              refine pw_goto (tgt := 2) (off := -134) (by decide +kernel) (by decide) ?_
              rw [show nI (pw_g mm 43 i - 1) = pw_crv mm t i from by simp [pw_crv, pw_qr, h25, h33, h49, h75], pw_crI_s]
              refine pw_lvp [3, 4, 0] rfl ?_
              exact ih (by omega)
        · refine pw_goto (tgt := 133) (off := 97) (by decide +kernel) (by decide) ?_
          refine pw_blk (pc' := 136) [.iinc 2 1] (by decide +kernel) ?_
          show pw_V x m_X7_changeRenown 2 Z 136 [(2, .int ((nI i) + (nI 1))), (3, .int (nI s25)), (0, .ref 0), (1, .int (nI t))] [] (pw_crI mm t i)
          rw [show (nI i) + (nI 1) = nI (i + 1) from nI_add _ _]
          refine pw_goto (tgt := 2) (off := -134) (by decide +kernel) (by decide) ?_
          rw [pw_crI_n (show pw_crv mm t i = mm 43 i from by simp [pw_crv, h25, h33])]
          refine pw_lvp [2, 3, 0] rfl ?_
          exact ih (by omega)
  show pw_V x m_X7_changeRenown 2 Z 0 [(0, .ref 0), (1, .int (nI t))] [] mm
  refine pw_blk (pc' := 2) [.iconst 0, .istore 2] (by decide +kernel) ?_
  show pw_V x m_X7_changeRenown 2 Z 2 [(2, .int (nI 0)), (0, .ref 0), (1, .int (nI t))] [] mm
  refine pw_lvp [1, 2, 0] rfl ?_
  have e := loop 0 (by omega)
  rw [pw_crI_0] at e
  exact e

set_option maxHeartbeats 4000000 in
set_option maxRecDepth 100000 in
theorem c_spreadNews (mm : pw_m) (hok : pw_ok mm) : pw_Ct 2 yX7_spreadNews m_X7_spreadNews [.ref 0] mm (fun r m' => r = none ∧ m' = pw_snI mm (pw_k mm)) := by
  refine pw_ct (by decide +kernel) rfl (Nat.le_of_ble_eq_true rfl) (fun x => ?_)
  generalize hZ : pw_Z x _ = Z
  have bn := pw_bn hok
  have bk := pw_bk hok
  have loop2 : ∀ i : Nat, i ≤ pw_k mm → pw_V x m_X7_spreadNews 2 Z 70 [(0, .ref 0), (1, .int (nI i))] [] (pw_snI mm i) := by
    refine pw_dn (pw_k mm) (fun i hi ih => ?_)
    refine pw_blk (pc' := 78) [.iload 1, .aload 0, .getfield 701, .getfield 501] (by decide +kernel) ?_
    show pw_V x m_X7_spreadNews 2 Z 78 [(0, .ref 0), (1, .int (nI i))] [.int (mm 4 1), .int (nI i)] (pw_snI mm i)
    rw [show mm 4 1 = nI (pw_k mm) from pw_q41 hok]
    refine pw_in_ge (tgt := 105) (off := 27) (by omega) (by omega) (by decide +kernel) (by decide) (fun h78 => ?_) (fun h78 => ?_)
    · rw [← hZ]
      refine pw_rv (by decide +kernel) ?_
      have e : i = pw_k mm := by omega
      subst e
      exact ⟨rfl, rfl⟩
    · refine pw_blk (pc' := 102) [.aload 0, .getfield 702, .getfield 3, .iload 1, .dup2, .iaload, .aload 0, .getfield 706, .iload 1, .iaload, .ior, .iastore, .iinc 1 1] (by decide +kernel) ?_
      refine ⟨i, rfl, by omega, ?_⟩
      refine ⟨i, rfl, by omega, ?_⟩
      refine ⟨i, rfl, by omega, ?_⟩
      show pw_V x m_X7_spreadNews 2 Z 102 [(1, .int ((nI i) + (nI 1))), (0, .ref 0)] [] (pw_up (pw_snI mm i) 44 i (((pw_snI mm i) 44 i) ||| ((pw_snI mm i) 25 i)))
      rw [show (nI i) + (nI 1) = nI (i + 1) from nI_add _ _]
      rw [show (pw_snI mm i) 44 i = nI (pw_g mm 44 i) from pw_snI_g.trans (pw_q44 hok (by omega))]
      rw [show (pw_snI mm i) 25 i = nI (pw_hn mm i) from pw_snI_h (by omega)]
      rw [show (nI (pw_g mm 44 i)) ||| (nI (pw_hn mm i)) = nI ((pw_g mm 44 i) ||| (pw_hn mm i)) from fa_or _ _]
      refine pw_goto (tgt := 70) (off := -32) (by decide +kernel) (by decide) ?_
      rw [pw_snI_s]
      refine pw_lvp [1, 0] rfl ?_
      exact ih (by omega)
  have loop1 : ∀ i : Nat, i ≤ pw_k mm → pw_V x m_X7_spreadNews 2 Z 2 [(0, .ref 0), (1, .int (nI i))] [] (pw_hdI mm i) := by
    refine pw_dn (pw_k mm) (fun i hi ih => ?_)
    have hokI : pw_ok (pw_hdI mm i) := pw_ok_hdI hok
    refine pw_blk (pc' := 10) [.iload 1, .aload 0, .getfield 701, .getfield 501] (by decide +kernel) ?_
    show pw_V x m_X7_spreadNews 2 Z 10 [(0, .ref 0), (1, .int (nI i))] [.int (mm 4 1), .int (nI i)] (pw_hdI mm i)
    rw [show mm 4 1 = nI (pw_k mm) from pw_q41 hok]
    refine pw_in_ge (tgt := 68) (off := 58) (by omega) (by omega) (by decide +kernel) (by decide) (fun h10 => ?_) (fun h10 => ?_)
    · refine pw_blk (pc' := 70) [.iconst 0, .istore 1] (by decide +kernel) ?_
      show pw_V x m_X7_spreadNews 2 Z 70 [(1, .int (nI 0)), (0, .ref 0)] [] (pw_hdI mm i)
      have e : i = pw_k mm := by omega
      subst e
      rw [pw_snI_0]
      refine pw_lvp [1, 0] rfl ?_
      exact loop2 0 (by omega)
    · refine pw_blk (pc' := 25) [.aload 0, .getfield 702, .getfield 4, .iload 1, .iaload, .istore 2, .iload 2, .iconst (-1)] (by decide +kernel) ?_
      refine ⟨i, rfl, by omega, ?_⟩
      show pw_V x m_X7_spreadNews 2 Z 25 [(2, .int (mm 45 i)), (0, .ref 0), (1, .int (nI i))] [.int (-1), .int (mm 45 i)] (pw_hdI mm i)
      rw [show mm 45 i = pw_o (pw_pl mm i) from pw_q45 hok (by omega)]
      rcases h25 : pw_pl mm i with _ | s25
      · show pw_V x m_X7_spreadNews 2 Z 25 [(2, .int (-1)), (0, .ref 0), (1, .int (nI i))] [.int (-1), .int (-1)] (pw_hdI mm i)
        refine pw_ic_ne (tgt := 32) (off := 7) (by decide +kernel) (by decide) (fun h => absurd rfl h) (fun _ => ?_)
        refine pw_blk (pc' := 29) [.iconst (-1)] (by decide +kernel) ?_
        show pw_V x m_X7_spreadNews 2 Z 29 [(2, .int (-1)), (0, .ref 0), (1, .int (nI i))] [.int (-1)] (pw_hdI mm i)
        refine pw_goto (tgt := 37) (off := 8) (by decide +kernel) (by decide) ?_
        refine pw_blk (pc' := 45) [.istore 3, .aload 0, .getfield 706, .iload 1, .iload 3, .iconst (-1)] (by decide +kernel) ?_
        show pw_V x m_X7_spreadNews 2 Z 45 [(3, .int (-1)), (2, .int (-1)), (0, .ref 0), (1, .int (nI i))] [.int (-1), .int (-1), .int (nI i), .ref 25] (pw_hdI mm i)
        refine pw_ic_ne (tgt := 52) (off := 7) (by decide +kernel) (by decide) (fun h => absurd rfl h) (fun _ => ?_)
        refine pw_blk (pc' := 49) [.iconst 0] (by decide +kernel) ?_
        show pw_V x m_X7_spreadNews 2 Z 49 [(3, .int (-1)), (2, .int (-1)), (0, .ref 0), (1, .int (nI i))] [.int (nI 0), .int (nI i), .ref 25] (pw_hdI mm i)
        refine pw_goto (tgt := 61) (off := 12) (by decide +kernel) (by decide) ?_
        refine pw_blk (pc' := 65) [.iastore, .iinc 1 1] (by decide +kernel) ?_
        refine ⟨i, rfl, by omega, ?_⟩
        show pw_V x m_X7_spreadNews 2 Z 65 [(1, .int ((nI i) + (nI 1))), (3, .int (-1)), (2, .int (-1)), (0, .ref 0)] [] (pw_up (pw_hdI mm i) 25 i (nI 0))
        rw [show (nI i) + (nI 1) = nI (i + 1) from nI_add _ _]
        refine pw_goto (tgt := 2) (off := -63) (by decide +kernel) (by decide) ?_
        rw [show nI 0 = nI (pw_hn mm i) from by simp [pw_hn, h25], pw_hdI_s]
        refine pw_lvp [3, 0] rfl ?_
        exact ih (by omega)
      · show pw_V x m_X7_spreadNews 2 Z 25 [(2, .int (nI s25)), (0, .ref 0), (1, .int (nI i))] [.int (-1), .int (nI s25)] (pw_hdI mm i)
        have b25 := pw_b45 hok (show i < 6 by omega) h25
        refine pw_ic_ne (tgt := 32) (off := 7) (by decide +kernel) (by decide) (fun _ => ?_) (fun h => absurd h (pw_n1 (by omega)))
        refine pw_blk (pc' := 34) [.aload 0, .iload 2] (by decide +kernel) ?_
        show pw_V x m_X7_spreadNews 2 Z 34 [(2, .int (nI s25)), (0, .ref 0), (1, .int (nI i))] [.int (nI s25), .ref 0] (pw_hdI mm i)
        refine pw_cV (vs := [.int (nI s25)]) (rest := []) k_X7_whoSitsBehind (c_whoSitsBehind s25 (pw_hdI mm i) hokI (show s25 < pw_n mm from by omega)) l_7_274 rfl rfl rfl rfl (by decide) (Nat.le_of_ble_eq_true rfl) (by decide +kernel) ?_
        rintro _ m1 ⟨rfl, e1⟩
        rw [e1]
        clear e1 m1
        show pw_V x m_X7_spreadNews 2 Z 37 [(2, .int (nI s25)), (0, .ref 0), (1, .int (nI i))] [.int (pw_o (pw_si mm (pw_bh (pw_n mm) s25)))] (pw_hdI mm i)
        refine pw_blk (pc' := 45) [.istore 3, .aload 0, .getfield 706, .iload 1, .iload 3, .iconst (-1)] (by decide +kernel) ?_
        show pw_V x m_X7_spreadNews 2 Z 45 [(3, .int (pw_o (pw_si mm (pw_bh (pw_n mm) s25)))), (2, .int (nI s25)), (0, .ref 0), (1, .int (nI i))] [.int (-1), .int (pw_o (pw_si mm (pw_bh (pw_n mm) s25))), .int (nI i), .ref 25] (pw_hdI mm i)
        rcases h45 : pw_si mm (pw_bh (pw_n mm) s25) with _ | s45
        · show pw_V x m_X7_spreadNews 2 Z 45 [(3, .int (-1)), (2, .int (nI s25)), (0, .ref 0), (1, .int (nI i))] [.int (-1), .int (-1), .int (nI i), .ref 25] (pw_hdI mm i)
          refine pw_ic_ne (tgt := 52) (off := 7) (by decide +kernel) (by decide) (fun h => absurd rfl h) (fun _ => ?_)
          refine pw_blk (pc' := 49) [.iconst 0] (by decide +kernel) ?_
          show pw_V x m_X7_spreadNews 2 Z 49 [(3, .int (-1)), (2, .int (nI s25)), (0, .ref 0), (1, .int (nI i))] [.int (nI 0), .int (nI i), .ref 25] (pw_hdI mm i)
          refine pw_goto (tgt := 61) (off := 12) (by decide +kernel) (by decide) ?_
          refine pw_blk (pc' := 65) [.iastore, .iinc 1 1] (by decide +kernel) ?_
          refine ⟨i, rfl, by omega, ?_⟩
          show pw_V x m_X7_spreadNews 2 Z 65 [(1, .int ((nI i) + (nI 1))), (3, .int (-1)), (2, .int (nI s25)), (0, .ref 0)] [] (pw_up (pw_hdI mm i) 25 i (nI 0))
          rw [show (nI i) + (nI 1) = nI (i + 1) from nI_add _ _]
          refine pw_goto (tgt := 2) (off := -63) (by decide +kernel) (by decide) ?_
          rw [show nI 0 = nI (pw_hn mm i) from by simp [pw_hn, h25, h45], pw_hdI_s]
          refine pw_lvp [3, 0] rfl ?_
          exact ih (by omega)
        · show pw_V x m_X7_spreadNews 2 Z 45 [(3, .int (nI s45)), (2, .int (nI s25)), (0, .ref 0), (1, .int (nI i))] [.int (-1), .int (nI s45), .int (nI i), .ref 25] (pw_hdI mm i)
          have b45 := pw_si_lt h45
          refine pw_ic_ne (tgt := 52) (off := 7) (by decide +kernel) (by decide) (fun _ => ?_) (fun h => absurd h (pw_n1 (by omega)))
          refine pw_blk (pc' := 65) [.aload 0, .getfield 702, .getfield 3, .iload 3, .iaload, .iastore, .iinc 1 1] (by decide +kernel) ?_
          refine ⟨s45, rfl, by omega, ?_⟩
          refine ⟨i, rfl, by omega, ?_⟩
          show pw_V x m_X7_spreadNews 2 Z 65 [(1, .int ((nI i) + (nI 1))), (3, .int (nI s45)), (2, .int (nI s25)), (0, .ref 0)] [] (pw_up (pw_hdI mm i) 25 i (mm 44 s45))
          rw [show (nI i) + (nI 1) = nI (i + 1) from nI_add _ _]
          rw [show mm 44 s45 = nI (pw_g mm 44 s45) from pw_q44 hok (by omega)]
          refine pw_goto (tgt := 2) (off := -63) (by decide +kernel) (by decide) ?_
          rw [show nI (pw_g mm 44 s45) = nI (pw_hn mm i) from by simp [pw_hn, h25, h45], pw_hdI_s]
          refine pw_lvp [3, 0] rfl ?_
          exact ih (by omega)
  show pw_V x m_X7_spreadNews 2 Z 0 [(0, .ref 0)] [] mm
  refine pw_blk (pc' := 2) [.iconst 0, .istore 1] (by decide +kernel) ?_
  show pw_V x m_X7_spreadNews 2 Z 2 [(1, .int (nI 0)), (0, .ref 0)] [] mm
  refine pw_lvp [1, 0] rfl ?_
  have e := loop1 0 (by omega)
  rw [pw_hdI_0] at e
  exact e
end
section
def pw_f2 (A : pw_m) : pw_m := pw_crI (pw_rem A) (pw_wrs (pw_rem A)) (pw_k (pw_rem A))
def pw_f3 (A : pw_m) : pw_m := pw_snI (pw_f2 A) (pw_k (pw_f2 A))
def pw_f4 (A : pw_m) : pw_m := pw_up (pw_f3 A) 42 1 (nI (pw_an (pw_g (pw_f3 A) 42 1) (pw_wrs (pw_rem A))))
def pw_f5 (A : pw_m) : pw_m := pw_rsI (pw_f4 A) 6
def pw_f6 (A : pw_m) : pw_m := pw_up (pw_f5 A) 42 0 (nI (pw_g (pw_f5 A) 42 0 + 1))
def F_feast (A : pw_m) : Int32 := if pw_sb A = 0 then -4 else if pw_g A 42 0 < 999 then nI (pw_wrs (pw_rem A)) else -5
def G_feast (A : pw_m) : pw_m := if pw_sb A = 0 then A else if pw_g A 42 0 < 999 then pw_f6 A else A
theorem pw_okf2 {A : pw_m} (h : pw_ok A) : pw_ok (pw_f2 A) := pw_ok_crI (pw_ok_rem h)
theorem pw_okf3 {A : pw_m} (h : pw_ok A) : pw_ok (pw_f3 A) := pw_ok_snI (pw_okf2 h)
theorem pw_okf4 {A : pw_m} (h : pw_ok A) : pw_ok (pw_f4 A) := pw_ok_th (pw_okf3 h) (pw_an_lt (pw_b421 (pw_okf3 h)))
theorem pw_okf5 {A : pw_m} (h : pw_ok A) : pw_ok (pw_f5 A) := pw_ok_rise (pw_okf4 h)
theorem pw_gf5 {A : pw_m} (h : pw_ok A) : pw_g (pw_f5 A) 42 0 = pw_g A 42 0 := by
  have bx := pw_b114 h
  have e : pw_f5 A 42 0 = A 42 0 := by
    show pw_rsI (pw_f4 A) 6 42 0 = _
    unfold pw_rsI
    rw [if_neg (by omega)]
    unfold pw_f4
    rw [pw_up_eq]
    unfold upd
    rw [if_neg (by omega)]
    unfold pw_f3
    rw [pw_snI_o (by omega) (by omega)]
    unfold pw_f2
    rw [pw_crI_o (by omega), pw_rem_o bx (by omega) (by omega)]
  unfold pw_g
  rw [e]
theorem pw_okf6 {A : pw_m} (h : pw_ok A) (hd : pw_g A 42 0 < 999) : pw_ok (pw_f6 A) := pw_ok_dy (pw_okf5 h) (by rw [pw_gf5 h]; omega)

set_option maxHeartbeats 4000000 in
set_option maxRecDepth 100000 in
theorem c_feast (mm : pw_m) (hok : pw_ok mm) : pw_Ct 4 yX7_feast m_X7_feast [.ref 0] mm (fun r m' => r = some (.int (F_feast mm)) ∧ m' = G_feast mm) := by
  refine pw_ct (by decide +kernel) rfl (Nat.le_of_ble_eq_true rfl) (fun x => ?_)
  generalize hZ : pw_Z x _ = Z
  have bn := pw_bn hok
  have bk := pw_bk hok
  have bt := pw_b421' hok
  have bx := pw_b114 hok
  have hok1 := pw_ok_rem hok
  have hT : ∀ c, 4 ≤ c → c ≤ 10 → pw_rem mm c = mm c := fun c h1 h2 => pw_rem_o bx (by omega) (by omega)
  have bs := pw_sb_lt (A := mm)
  have hok2 := pw_okf2 hok
  have hok3 := pw_okf3 hok
  have hok4 := pw_okf4 hok
  have hok5 := pw_okf5 hok
  have bw := pw_wrs_lt hok1
  have bd := pw_b420 hok5
  have bd0 := pw_b420 hok
  show pw_V x m_X7_feast 4 Z 0 [(0, .ref 0)] [] mm
  refine pw_blk (pc' := 4) [.aload 0, .getfield 702] (by decide +kernel) ?_
  show pw_V x m_X7_feast 4 Z 4 [(0, .ref 0)] [.ref 42] mm
  refine pw_cV (vs := []) (rest := []) k_X0_whoSit (c_whoSit mm hok) l_7_157 rfl rfl rfl rfl (by decide) (Nat.le_of_ble_eq_true rfl) (by decide +kernel) ?_
  rintro _ m1 ⟨rfl, e1⟩
  rw [e1]
  clear e1 m1
  show pw_V x m_X7_feast 4 Z 7 [(0, .ref 0)] [.int (nI (pw_sb mm))] mm
  refine pw_iz_ne (tgt := 13) (off := 6) (by omega) (by decide +kernel) (by decide) (fun h7 => ?_) (fun h7 => ?_)
  · refine pw_blk (pc' := 23) [.aload 0, .getfield 702, .getfield 0, .iconst (999)] (by decide +kernel) ?_
    show pw_V x m_X7_feast 4 Z 23 [(0, .ref 0)] [.int (nI 999), .int (mm 42 0)] mm
    rw [show mm 42 0 = nI (pw_g mm 42 0) from pw_q420 hok]
    refine pw_in_lt (tgt := 29) (off := 6) (by omega) (by omega) (by decide +kernel) (by decide) (fun h23 => ?_) (fun h23 => ?_)
    · refine pw_blk (pc' := 37) [.aload 0, .getfield 703, .aload 0, .getfield 702] (by decide +kernel) ?_
      show pw_V x m_X7_feast 4 Z 37 [(0, .ref 0)] [.ref 42, .ref 11] mm
      refine pw_cV (vs := [.ref 42]) (rest := []) k_X1_remember (c_remember mm hok) l_7_153 rfl rfl rfl rfl (by decide) (Nat.le_of_ble_eq_true rfl) (by decide +kernel) ?_
      rintro _ m1 ⟨rfl, e1⟩
      rw [e1]
      clear e1 m1
      show pw_V x m_X7_feast 4 Z 40 [(0, .ref 0)] [] (pw_rem mm)
      refine pw_blk (pc' := 41) [.aload 0] (by decide +kernel) ?_
      show pw_V x m_X7_feast 4 Z 41 [(0, .ref 0)] [.ref 0] (pw_rem mm)
      refine pw_cV (vs := []) (rest := []) k_X7_whoIsWrong (c_whoIsWrong (pw_rem mm) hok1) l_7_172 rfl rfl rfl rfl (by decide) (Nat.le_of_ble_eq_true rfl) (by decide +kernel) ?_
      rintro _ m1 ⟨rfl, e1⟩
      rw [e1]
      clear e1 m1
      show pw_V x m_X7_feast 4 Z 44 [(0, .ref 0)] [.int (nI (pw_wrs (pw_rem mm)))] (pw_rem mm)
      refine pw_blk (pc' := 47) [.istore 1, .aload 0, .iload 1] (by decide +kernel) ?_
      show pw_V x m_X7_feast 4 Z 47 [(1, .int (nI (pw_wrs (pw_rem mm)))), (0, .ref 0)] [.int (nI (pw_wrs (pw_rem mm))), .ref 0] (pw_rem mm)
      refine pw_cV (vs := [.int (nI (pw_wrs (pw_rem mm)))]) (rest := []) k_X7_changeRenown (c_changeRenown (pw_wrs (pw_rem mm)) (pw_rem mm) hok1 (by omega)) l_7_175 rfl rfl rfl rfl (by decide) (Nat.le_of_ble_eq_true rfl) (by decide +kernel) ?_
      rintro _ m1 ⟨rfl, e1⟩
      rw [e1]
      clear e1 m1
      show pw_V x m_X7_feast 4 Z 50 [(1, .int (nI (pw_wrs (pw_rem mm)))), (0, .ref 0)] [] (pw_f2 mm)
      refine pw_blk (pc' := 51) [.aload 0] (by decide +kernel) ?_
      show pw_V x m_X7_feast 4 Z 51 [(1, .int (nI (pw_wrs (pw_rem mm)))), (0, .ref 0)] [.ref 0] (pw_f2 mm)
      refine pw_cV (vs := []) (rest := []) k_X7_spreadNews (c_spreadNews (pw_f2 mm) hok2) l_7_178 rfl rfl rfl rfl (by decide) (Nat.le_of_ble_eq_true rfl) (by decide +kernel) ?_
      rintro _ m1 ⟨rfl, e1⟩
      rw [e1]
      clear e1 m1
      show pw_V x m_X7_feast 4 Z 54 [(1, .int (nI (pw_wrs (pw_rem mm)))), (0, .ref 0)] [] (pw_f3 mm)
      refine pw_blk (pc' := 69) [.aload 0, .getfield 702, .dup, .getfield 1, .iload 1, .iconst (-1), .ixor, .iand, .putfield 1] (by decide +kernel) ?_
      show pw_V x m_X7_feast 4 Z 69 [(1, .int (nI (pw_wrs (pw_rem mm)))), (0, .ref 0)] [] (pw_up (pw_f3 mm) 42 1 (((pw_f3 mm) 42 1) &&& ((nI (pw_wrs (pw_rem mm))) ^^^ (-1))))
      rw [show (pw_f3 mm) 42 1 = nI (pw_g (pw_f3 mm) 42 1) from pw_q421 hok3]
      have b3 := pw_b421' hok3
      rw [pw_anN _ b3 _ bw]
      show pw_V x m_X7_feast 4 Z 69 [(1, .int (nI (pw_wrs (pw_rem mm)))), (0, .ref 0)] [] (pw_f4 mm)
      refine pw_blk (pc' := 73) [.aload 0, .getfield 702] (by decide +kernel) ?_
      show pw_V x m_X7_feast 4 Z 73 [(1, .int (nI (pw_wrs (pw_rem mm)))), (0, .ref 0)] [.ref 42] (pw_f4 mm)
      refine pw_cV (vs := []) (rest := []) k_X0_allRise (c_allRise (pw_f4 mm)) l_7_166 rfl rfl rfl rfl (by decide) (Nat.le_of_ble_eq_true rfl) (by decide +kernel) ?_
      rintro _ m1 ⟨rfl, e1⟩
      rw [e1]
      clear e1 m1
      show pw_V x m_X7_feast 4 Z 76 [(1, .int (nI (pw_wrs (pw_rem mm)))), (0, .ref 0)] [] (pw_f5 mm)
      refine pw_blk (pc' := 90) [.aload 0, .getfield 702, .dup, .getfield 0, .iconst 1, .iadd, .putfield 0, .iload 1] (by decide +kernel) ?_
      show pw_V x m_X7_feast 4 Z 90 [(1, .int (nI (pw_wrs (pw_rem mm)))), (0, .ref 0)] [.int (nI (pw_wrs (pw_rem mm)))] (pw_up (pw_f5 mm) 42 0 (((pw_f5 mm) 42 0) + (nI 1)))
      rw [show (pw_f5 mm) 42 0 = nI (pw_g (pw_f5 mm) 42 0) from pw_q420 hok5]
      rw [show (nI (pw_g (pw_f5 mm) 42 0)) + (nI 1) = nI ((pw_g (pw_f5 mm) 42 0) + 1) from nI_add _ _]
      rw [← hZ]
      refine pw_ri (by decide +kernel) ?_
      constructor
      · simp [F_feast, h7, h23]
      · simp only [G_feast, if_neg h7, if_pos h23]; rfl
    · refine pw_blk (pc' := 28) [.iconst (-5)] (by decide +kernel) ?_
      show pw_V x m_X7_feast 4 Z 28 [(0, .ref 0)] [.int (-5)] mm
      rw [← hZ]
      refine pw_ri (by decide +kernel) ?_
      constructor
      · simp [F_feast, h7, show ¬ pw_g mm 42 0 < 999 by omega]
      · simp [G_feast, h7, show ¬ pw_g mm 42 0 < 999 by omega]
  · refine pw_blk (pc' := 12) [.iconst (-4)] (by decide +kernel) ?_
    show pw_V x m_X7_feast 4 Z 12 [(0, .ref 0)] [.int (-4)] mm
    rw [← hZ]
    refine pw_ri (by decide +kernel) ?_
    constructor
    · simp [F_feast, h7]
    · simp [G_feast, h7]
end
section
/-! the search, prepared -/
def pw_gdb (A : pw_m) (q : Option Nat) (k s : Nat) : Bool := (decide (q = some s) || pw_fnow A k s) && !pw_inp A k s
def pw_gd (A : pw_m) (q : Option Nat) (k : Nat) : Nat := pw_ob (pw_gdb A q k) (pw_n A)
def pw_psI (A : pw_m) (q : Option Nat) (i : Nat) : pw_m := fun c => if c = 20 then upd (upd (upd (A 20) 0 (A 4 0)) 1 (A 4 1)) 2 (A 42 1) else if c = 21 then pw_c6 (A 21) (fun k => nI (pw_gd A q k)) i else if c = 22 then pw_c6 (A 22) (A 10) i else if c = 24 then pw_c6 (A 24) (A 45) i else A c
theorem pw_psI_o {A : pw_m} {q : Option Nat} {i c : Nat} (h : c < 20 ∨ c = 23 ∨ 25 ≤ c) : pw_psI A q i c = A c := by
  unfold pw_psI
  rw [if_neg (by omega), if_neg (by omega), if_neg (by omega), if_neg (by omega)]
theorem pw_psI_0 {A : pw_m} {q : Option Nat} : pw_up (pw_up (pw_up A 20 0 (A 4 0)) 20 1 (A 4 1)) 20 2 (A 42 1) = pw_psI A q 0 := by
  funext c
  by_cases h : c = 20
  · subst h; rw [pw_up_eq, pw_up_eq, pw_up_eq]; rfl
  · rw [pw_up_ne h, pw_up_ne h, pw_up_ne h]
    unfold pw_psI
    rw [if_neg h]
    split
    · rename_i e; subst e; rw [pw_c6_0]
    · split
      · rename_i e; subst e; rw [pw_c6_0]
      · split
        · rename_i e; subst e; rw [pw_c6_0]
        · rfl
theorem pw_psI_s {A : pw_m} {q : Option Nat} {i : Nat} : pw_up (pw_up (pw_up (pw_psI A q i) 21 i (nI (pw_gd A q i))) 22 i (A 10 i)) 24 i (A 45 i) = pw_psI A q (i + 1) := by
  funext c
  by_cases h4 : c = 24
  · subst h4; rw [pw_up_eq, pw_up_ne (by omega), pw_up_ne (by omega)]; exact pw_c6_s
  · rw [pw_up_ne h4]
    by_cases h2 : c = 22
    · subst h2; rw [pw_up_eq, pw_up_ne (by omega)]; exact pw_c6_s
    · rw [pw_up_ne h2]
      by_cases h1 : c = 21
      · subst h1; rw [pw_up_eq]; exact pw_c6_s (g := fun k => nI (pw_gd A q k))
      · rw [pw_up_ne h1]
        unfold pw_psI
        rw [if_neg h1, if_neg h1, if_neg h2, if_neg h2, if_neg h4, if_neg h4]
theorem pw_ok_ps {A : pw_m} {q : Option Nat} {i : Nat} (h : pw_ok A) : pw_ok (pw_psI A q i) := pw_ok_f (fun c hc => pw_psI_o (by omega)) (by rw [pw_psI_o (by omega)]) (by rw [pw_psI_o (by omega)]) h

set_option maxHeartbeats 4000000 in
set_option maxRecDepth 100000 in
theorem c_prepareSearch (q : Option Nat) (mm : pw_m) (hok : pw_ok mm) (hq : ∀ c, q = some c → c < 8) : pw_Ct 3 yX7_prepareSearch m_X7_prepareSearch [.ref 0, .int (pw_o (q))] mm (fun r m' => r = none ∧ m' = pw_psI mm q (pw_k mm)) := by
  refine pw_ct (by decide +kernel) rfl (Nat.le_of_ble_eq_true rfl) (fun x => ?_)
  generalize hZ : pw_Z x _ = Z
  have bn := pw_bn hok
  have bk := pw_bk hok
  have loop : ∀ i : Nat, i ≤ pw_k mm → pw_V x m_X7_prepareSearch 3 Z 44 [(0, .ref 0), (1, .int (pw_o (q))), (2, .int (nI i))] [] (pw_psI mm q i) := by
    refine pw_dn (pw_k mm) (fun i hi ih => ?_)
    have hokI : pw_ok (pw_psI mm q i) := pw_ok_ps hok
    refine pw_blk (pc' := 52) [.iload 2, .aload 0, .getfield 701, .getfield 501] (by decide +kernel) ?_
    show pw_V x m_X7_prepareSearch 3 Z 52 [(0, .ref 0), (1, .int (pw_o (q))), (2, .int (nI i))] [.int (mm 4 1), .int (nI i)] (pw_psI mm q i)
    rw [show mm 4 1 = nI (pw_k mm) from pw_q41 hok]
    refine pw_in_ge (tgt := 163) (off := 111) (by omega) (by omega) (by decide +kernel) (by decide) (fun h52 => ?_) (fun h52 => ?_)
    · rw [← hZ]
      refine pw_rv (by decide +kernel) ?_
      have e : i = pw_k mm := by omega
      subst e
      exact ⟨rfl, rfl⟩
    · refine pw_blk (pc' := 60) [.iconst 0, .istore 3, .iconst 0, .istore 4] (by decide +kernel) ?_
      show pw_V x m_X7_prepareSearch 3 Z 60 [(4, .int (nI 0)), (3, .int (nI 0)), (0, .ref 0), (1, .int (pw_o (q))), (2, .int (nI i))] [] (pw_psI mm q i)
      refine pw_lvp [2, 3, 4, 1, 0] rfl ?_
      suffices inn : ∀ s : Nat, s ≤ pw_n mm → pw_V x m_X7_prepareSearch 3 Z 60 [(0, .ref 0), (1, .int (pw_o (q))), (2, .int (nI i)), (3, .int (nI (pw_ob (pw_gdb mm q i) s))), (4, .int (nI s))] [] (pw_psI mm q i) from inn 0 (by omega)
      refine pw_dn (pw_n mm) (fun s hs ih2 => ?_)
      refine pw_blk (pc' := 69) [.iload 4, .aload 0, .getfield 701, .getfield 500] (by decide +kernel) ?_
      show pw_V x m_X7_prepareSearch 3 Z 69 [(0, .ref 0), (1, .int (pw_o (q))), (2, .int (nI i)), (3, .int (nI (pw_ob (pw_gdb mm q i) s))), (4, .int (nI s))] [.int (mm 4 0), .int (nI s)] (pw_psI mm q i)
      rw [show mm 4 0 = nI (pw_n mm) from pw_q40 hok]
      refine pw_in_ge (tgt := 111) (off := 42) (by omega) (by omega) (by decide +kernel) (by decide) (fun h69 => ?_) (fun h69 => ?_)
      · have e9 : s = pw_n mm := by omega
        rw [show pw_ob (pw_gdb mm q i) s = pw_gd mm q i from by rw [e9]; rfl]
        show pw_V x m_X7_prepareSearch 3 Z 111 [(0, .ref 0), (1, .int (pw_o (q))), (2, .int (nI i)), (3, .int (nI (pw_gd mm q i))), (4, .int (nI s))] [] (pw_psI mm q i)
        refine pw_blk (pc' := 160) [.aload 0, .getfield 705, .getfield 403, .iload 2, .iload 3, .iastore, .aload 0, .getfield 705, .getfield 404, .iload 2, .aload 0, .getfield 701, .getfield 507, .iload 2, .iaload, .iastore, .aload 0, .getfield 705, .getfield 406, .iload 2, .aload 0, .getfield 702, .getfield 4, .iload 2, .iaload, .iastore, .iinc 2 1] (by decide +kernel) ?_
        refine ⟨i, rfl, by omega, ?_⟩
        refine ⟨i, rfl, by omega, ?_⟩
        refine ⟨i, rfl, by omega, ?_⟩
        refine ⟨i, rfl, by omega, ?_⟩
        refine ⟨i, rfl, by omega, ?_⟩
        show pw_V x m_X7_prepareSearch 3 Z 160 [(2, .int ((nI i) + (nI 1))), (0, .ref 0), (1, .int (pw_o (q))), (3, .int (nI (pw_gd mm q i))), (4, .int (nI s))] [] (pw_up (pw_up (pw_up (pw_psI mm q i) 21 i (nI (pw_gd mm q i))) 22 i (mm 10 i)) 24 i (mm 45 i))
        rw [show (nI i) + (nI 1) = nI (i + 1) from nI_add _ _]
        refine pw_goto (tgt := 44) (off := -116) (by decide +kernel) (by decide) ?_
        have e := ih (by omega)
        rw [← pw_psI_s] at e
        refine pw_lvp [1, 2, 0] rfl ?_
        exact e
      · refine pw_blk (pc' := 75) [.iload 4, .iload 1] (by decide +kernel) ?_
        show pw_V x m_X7_prepareSearch 3 Z 75 [(0, .ref 0), (1, .int (pw_o (q))), (2, .int (nI i)), (3, .int (nI (pw_ob (pw_gdb mm q i) s))), (4, .int (nI s))] [.int (pw_o (q)), .int (nI s)] (pw_psI mm q i)
        refine pw_no_eq (tgt := 88) (off := 13) (by decide +kernel) (by decide) (by omega) (fun a ha => Nat.lt_trans (hq _ ha) (by omega)) (fun h75 => ?_) (fun h75 => ?_)
        · refine pw_blk (pc' := 92) [.aload 0, .iload 2, .iload 4] (by decide +kernel) ?_
          show pw_V x m_X7_prepareSearch 3 Z 92 [(0, .ref 0), (1, .int (pw_o (q))), (2, .int (nI i)), (3, .int (nI (pw_ob (pw_gdb mm q i) s))), (4, .int (nI s))] [.int (nI s), .int (nI i), .ref 0] (pw_psI mm q i)
          refine pw_cV (vs := [.int (nI i), .int (nI s)]) (rest := []) k_X7_isInPeril (c_isInPeril i s (pw_psI mm q i) hokI (by omega) (by omega)) l_7_268 rfl rfl rfl rfl (by decide) (Nat.le_of_ble_eq_true rfl) (by decide +kernel) ?_
          rintro _ m1 ⟨rfl, e1⟩
          rw [e1]
          clear e1 m1
          show pw_V x m_X7_prepareSearch 3 Z 95 [(0, .ref 0), (1, .int (pw_o (q))), (2, .int (nI i)), (3, .int (nI (pw_ob (pw_gdb mm q i) s))), (4, .int (nI s))] [.int (pw_b (pw_inp mm i s))] (pw_psI mm q i)
          refine pw_ib_ne (tgt := 105) (off := 10) (by decide +kernel) (by decide) (fun h95 => ?_) (fun h95 => ?_)
          · refine pw_blk (pc' := 108) [.iinc 4 1] (by decide +kernel) ?_
            show pw_V x m_X7_prepareSearch 3 Z 108 [(4, .int ((nI s) + (nI 1))), (0, .ref 0), (1, .int (pw_o (q))), (2, .int (nI i)), (3, .int (nI (pw_ob (pw_gdb mm q i) s)))] [] (pw_psI mm q i)
            rw [show (nI s) + (nI 1) = nI (s + 1) from nI_add _ _]
            refine pw_goto (tgt := 60) (off := -48) (by decide +kernel) (by decide) ?_
            rw [show (pw_ob (pw_gdb mm q i) s) = (pw_ob (pw_gdb mm q i) (s + 1)) from by simp [pw_ob, pw_gdb, h75, h95]]
            refine pw_lvp [1, 2, 3, 4, 0] rfl ?_
            exact ih2 (by omega)
          · refine pw_blk (pc' := 108) [.iload 3, .iconst 1, .iload 4, .ishl, .ior, .istore 3, .iinc 4 1] (by decide +kernel) ?_
            show pw_V x m_X7_prepareSearch 3 Z 108 [(4, .int ((nI s) + (nI 1))), (3, .int ((nI (pw_ob (pw_gdb mm q i) s)) ||| ((nI 1) <<< ((nI s) &&& 31)))), (0, .ref 0), (1, .int (pw_o (q))), (2, .int (nI i))] [] (pw_psI mm q i)
            rw [show (nI s) + (nI 1) = nI (s + 1) from nI_add _ _]
            rw [show (nI 1) <<< ((nI s) &&& 31) = nI (2 ^ s) from pw_shl1 (by omega)]
            rw [show (nI (pw_ob (pw_gdb mm q i) s)) ||| (nI (2 ^ s)) = nI ((pw_ob (pw_gdb mm q i) s) ||| (2 ^ s)) from fa_or _ _]
            refine pw_goto (tgt := 60) (off := -48) (by decide +kernel) (by decide) ?_
            rw [show ((pw_ob (pw_gdb mm q i) s) ||| (2 ^ s)) = (pw_ob (pw_gdb mm q i) (s + 1)) from by simp [pw_ob, pw_gdb, h75, h95]]
            refine pw_lvp [2, 3, 4, 1, 0] rfl ?_
            exact ih2 (by omega)
        · refine pw_blk (pc' := 82) [.aload 0, .iload 2, .iload 4] (by decide +kernel) ?_
          show pw_V x m_X7_prepareSearch 3 Z 82 [(0, .ref 0), (1, .int (pw_o (q))), (2, .int (nI i)), (3, .int (nI (pw_ob (pw_gdb mm q i) s))), (4, .int (nI s))] [.int (nI s), .int (nI i), .ref 0] (pw_psI mm q i)
          refine pw_cV (vs := [.int (nI i), .int (nI s)]) (rest := []) k_X7_fitsNow (c_fitsNow i s (pw_psI mm q i) hokI (by omega) (by omega)) l_7_144 rfl rfl rfl rfl (by decide) (Nat.le_of_ble_eq_true rfl) (by decide +kernel) ?_
          rintro _ m1 ⟨rfl, e1⟩
          rw [e1]
          clear e1 m1
          show pw_V x m_X7_prepareSearch 3 Z 85 [(0, .ref 0), (1, .int (pw_o (q))), (2, .int (nI i)), (3, .int (nI (pw_ob (pw_gdb mm q i) s))), (4, .int (nI s))] [.int (pw_b (pw_fnow mm i s))] (pw_psI mm q i)
          refine pw_ib_eq (tgt := 105) (off := 20) (by decide +kernel) (by decide) (fun h85 => ?_) (fun h85 => ?_)
          · refine pw_blk (pc' := 108) [.iinc 4 1] (by decide +kernel) ?_
            show pw_V x m_X7_prepareSearch 3 Z 108 [(4, .int ((nI s) + (nI 1))), (0, .ref 0), (1, .int (pw_o (q))), (2, .int (nI i)), (3, .int (nI (pw_ob (pw_gdb mm q i) s)))] [] (pw_psI mm q i)
            rw [show (nI s) + (nI 1) = nI (s + 1) from nI_add _ _]
            refine pw_goto (tgt := 60) (off := -48) (by decide +kernel) (by decide) ?_
            rw [show (pw_ob (pw_gdb mm q i) s) = (pw_ob (pw_gdb mm q i) (s + 1)) from by simp [pw_ob, pw_gdb, h75, h85]]
            refine pw_lvp [1, 2, 3, 4, 0] rfl ?_
            exact ih2 (by omega)
          · refine pw_blk (pc' := 92) [.aload 0, .iload 2, .iload 4] (by decide +kernel) ?_
            show pw_V x m_X7_prepareSearch 3 Z 92 [(0, .ref 0), (1, .int (pw_o (q))), (2, .int (nI i)), (3, .int (nI (pw_ob (pw_gdb mm q i) s))), (4, .int (nI s))] [.int (nI s), .int (nI i), .ref 0] (pw_psI mm q i)
            refine pw_cV (vs := [.int (nI i), .int (nI s)]) (rest := []) k_X7_isInPeril (c_isInPeril i s (pw_psI mm q i) hokI (by omega) (by omega)) l_7_268 rfl rfl rfl rfl (by decide) (Nat.le_of_ble_eq_true rfl) (by decide +kernel) ?_
            rintro _ m1 ⟨rfl, e1⟩
            rw [e1]
            clear e1 m1
            show pw_V x m_X7_prepareSearch 3 Z 95 [(0, .ref 0), (1, .int (pw_o (q))), (2, .int (nI i)), (3, .int (nI (pw_ob (pw_gdb mm q i) s))), (4, .int (nI s))] [.int (pw_b (pw_inp mm i s))] (pw_psI mm q i)
            refine pw_ib_ne (tgt := 105) (off := 10) (by decide +kernel) (by decide) (fun h95 => ?_) (fun h95 => ?_)
            · refine pw_blk (pc' := 108) [.iinc 4 1] (by decide +kernel) ?_
              show pw_V x m_X7_prepareSearch 3 Z 108 [(4, .int ((nI s) + (nI 1))), (0, .ref 0), (1, .int (pw_o (q))), (2, .int (nI i)), (3, .int (nI (pw_ob (pw_gdb mm q i) s)))] [] (pw_psI mm q i)
              rw [show (nI s) + (nI 1) = nI (s + 1) from nI_add _ _]
              refine pw_goto (tgt := 60) (off := -48) (by decide +kernel) (by decide) ?_
              rw [show (pw_ob (pw_gdb mm q i) s) = (pw_ob (pw_gdb mm q i) (s + 1)) from by simp [pw_ob, pw_gdb, h75, h85, h95]]
              refine pw_lvp [1, 2, 3, 4, 0] rfl ?_
              exact ih2 (by omega)
            · refine pw_blk (pc' := 108) [.iload 3, .iconst 1, .iload 4, .ishl, .ior, .istore 3, .iinc 4 1] (by decide +kernel) ?_
              show pw_V x m_X7_prepareSearch 3 Z 108 [(4, .int ((nI s) + (nI 1))), (3, .int ((nI (pw_ob (pw_gdb mm q i) s)) ||| ((nI 1) <<< ((nI s) &&& 31)))), (0, .ref 0), (1, .int (pw_o (q))), (2, .int (nI i))] [] (pw_psI mm q i)
              rw [show (nI s) + (nI 1) = nI (s + 1) from nI_add _ _]
              rw [show (nI 1) <<< ((nI s) &&& 31) = nI (2 ^ s) from pw_shl1 (by omega)]
              rw [show (nI (pw_ob (pw_gdb mm q i) s)) ||| (nI (2 ^ s)) = nI ((pw_ob (pw_gdb mm q i) s) ||| (2 ^ s)) from fa_or _ _]
              refine pw_goto (tgt := 60) (off := -48) (by decide +kernel) (by decide) ?_
              rw [show ((pw_ob (pw_gdb mm q i) s) ||| (2 ^ s)) = (pw_ob (pw_gdb mm q i) (s + 1)) from by simp [pw_ob, pw_gdb, h75, h85, h95]]
              refine pw_lvp [2, 3, 4, 1, 0] rfl ?_
              exact ih2 (by omega)
  show pw_V x m_X7_prepareSearch 3 Z 0 [(0, .ref 0), (1, .int (pw_o (q)))] [] mm
  refine pw_blk (pc' := 44) [.aload 0, .getfield 705, .aload 0, .getfield 701, .getfield 500, .putfield 400, .aload 0, .getfield 705, .aload 0, .getfield 701, .getfield 501, .putfield 401, .aload 0, .getfield 705, .aload 0, .getfield 702, .getfield 1, .putfield 402, .iconst 0, .istore 2] (by decide +kernel) ?_
  show pw_V x m_X7_prepareSearch 3 Z 44 [(2, .int (nI 0)), (0, .ref 0), (1, .int (pw_o (q)))] [] (pw_up (pw_up (pw_up mm 20 0 (mm 4 0)) 20 1 (mm 4 1)) 20 2 (mm 42 1))
  rw [show mm 4 0 = nI (pw_n mm) from pw_q40 hok]
  rw [show mm 4 1 = nI (pw_k mm) from pw_q41 hok]
  refine pw_lvp [1, 2, 0] rfl ?_
  have e := loop 0 (by omega)
  rw [← pw_psI_0, pw_q40 hok, pw_q41 hok] at e
  exact e
end
section
/-! the search itself -/
theorem pw_anG (a b : Nat) : nI a &&& (nI b ^^^ (-1)) = nI (pw_an a b) := by
  apply Int32.toBitVec_inj.1
  show BitVec.ofNat 32 a &&& (BitVec.ofNat 32 b ^^^ BitVec.allOnes 32) = BitVec.ofNat 32 (a ^^^ (a &&& b))
  apply BitVec.eq_of_getLsbD_eq
  intro i hi
  simp only [BitVec.getLsbD_and, BitVec.getLsbD_xor, BitVec.getLsbD_allOnes, BitVec.getLsbD_ofNat, Nat.testBit_xor, Nat.testBit_and, hi, decide_true, Bool.true_and]
  cases a.testBit i <;> cases b.testBit i <;> rfl
/-- what the search knows: seats, knights, who is there, good seats, enemies -/
def pw_SC (m : pw_m) (n kn th : Nat) (gd en : Nat → Nat) : Prop := (n ≤ 8 ∧ kn ≤ 6 ∧ th < 64) ∧ (m 20 0 = nI n ∧ m 20 1 = nI kn ∧ m 20 2 = nI th) ∧ ∀ k, k < kn → (m 21 k = nI (gd k) ∧ gd k < 2 ^ n) ∧ m 22 k = nI (en k) ∧ en k < 64
theorem pw_SC.c {m m' : pw_m} {n kn th : Nat} {gd en : Nat → Nat} (h : pw_SC m n kn th gd en) (hc : ∀ c, c ≠ 23 → m' c = m c) : pw_SC m' n kn th gd en := by
  obtain ⟨h1, h2, h3⟩ := h
  exact ⟨h1, by rw [hc 20 (by omega)]; exact h2, fun k hk => by rw [hc 21 (by omega), hc 22 (by omega)]; exact h3 k hk⟩
/-- those below k who are there sit as pl says -/
def pw_PL (m : pw_m) (n th : Nat) (pl : Nat → Nat) (k : Nat) : Prop := ∀ j, j < k → th.testBit j = true → m 23 j = nI (pl j) ∧ pl j < n
def pw_ns (pl : Nat → Nat) (k s : Nat) : Nat → Nat := fun j => if j = k then s else pl j
theorem pw_PL.put {m : pw_m} {n th k s : Nat} {pl : Nat → Nat} (h : pw_PL m n th pl k) (hs : s < n) : pw_PL (pw_up m 23 k (nI s)) n th (pw_ns pl k s) (k + 1) := by
  intro j hj ht
  rw [pw_up_eq]
  unfold upd pw_ns
  by_cases e : j = k
  · rw [if_pos e, if_pos e]; exact ⟨rfl, hs⟩
  · rw [if_neg e, if_neg e]; exact h j (by omega) ht
theorem pw_PL.skip {m : pw_m} {n th k : Nat} {pl : Nat → Nat} (h : pw_PL m n th pl k) (ht : th.testBit k = false) : pw_PL m n th pl (k + 1) := by
  intro j hj hb
  by_cases e : j = k
  · rw [e, ht] at hb; cases hb
  · exact h j (by omega) hb
theorem pw_PL.c {m m' : pw_m} {n th k : Nat} {pl : Nat → Nat} (h : pw_PL m n th pl k) (hc : ∀ j, j < k → m' 23 j = m 23 j) : pw_PL m' n th pl k := fun j hj ht => by rw [hc j hj]; exact h j hj ht
def pw_bs (n s : Nat) : Nat := 2 ^ pw_bh n s ||| 2 ^ pw_ah n s
def pw_frI (n th gd en : Nat) (pl : Nat → Nat) (us : Nat) : Nat → Nat
  | 0 => pw_an gd us
  | i + 1 => if (en.testBit i && th.testBit i) = true then pw_an (pw_frI n th gd en pl us i) (pw_bs n (pl i)) else pw_frI n th gd en pl us i
theorem pw_frI_lt {n th gd en us i : Nat} {pl : Nat → Nat} (h : gd < 2 ^ n) : pw_frI n th gd en pl us i < 2 ^ n := by
  induction i with
  | zero => exact pw_an_lt h
  | succ i ih =>
    unfold pw_frI
    split
    · exact pw_an_lt ih
    · exact ih
theorem pw_bs_lt {n s : Nat} (h : s < n) : pw_bs n s < 2 ^ n := Nat.or_lt_two_pow (Nat.pow_lt_pow_right (by omega) (pw_bh_lt h)) (Nat.pow_lt_pow_right (by omega) (pw_ah_lt h))
theorem pw_p8 {n a : Nat} (hn : n ≤ 8) (h : a < 2 ^ n) : a < 256 := Nat.lt_of_lt_of_le h (Nat.pow_le_pow_right (by omega) hn : 2 ^ n ≤ 2 ^ 8)

set_option maxHeartbeats 4000000 in
set_option maxRecDepth 100000 in
theorem c_besides (s : Nat) (mm : pw_m) {n kn th : Nat} {gd en : Nat → Nat} (hs : pw_SC mm n kn th gd en) (h0 : s < n) : pw_Ct 1 yX4_besides m_X4_besides [.ref 20, .int (nI s)] mm (fun r m' => r = some (.int (nI (pw_bs n s))) ∧ m' = mm) := by
  refine pw_ct (by decide +kernel) rfl (Nat.le_of_ble_eq_true rfl) (fun x => ?_)
  generalize hZ : pw_Z x _ = Z
  obtain ⟨bn, bk, bt⟩ := hs.1
  have b1 := pw_bh_lt h0
  have b2 := pw_ah_lt h0
  show pw_V x m_X4_besides 1 Z 0 [(0, .ref 20), (1, .int (nI s))] [] mm
  refine pw_blk (pc' := 6) [.iconst 1, .iload 1, .aload 0, .getfield 400] (by decide +kernel) ?_
  show pw_V x m_X4_besides 1 Z 6 [(0, .ref 20), (1, .int (nI s))] [.int (mm 20 0), .int (nI s), .int (nI 1)] mm
  rw [show mm 20 0 = nI n from hs.2.1.1]
  refine pw_cN (idx := 81) (vs := [.int (nI s), .int (nI n)]) (rest := [.int (nI 1)]) (host := RX7) k_X7_behind (c_behind s n (by omega) (by omega) mm) (by decide +kernel) rfl (by decide) (Nat.le_of_ble_eq_true rfl) (by decide +kernel) ?_
  rintro _ m1 ⟨rfl, e1⟩
  rw [e1]
  clear e1 m1
  show pw_V x m_X4_besides 1 Z 9 [(0, .ref 20), (1, .int (nI s))] [.int (nI (pw_bh n s)), .int (nI 1)] mm
  refine pw_blk (pc' := 16) [.ishl, .iconst 1, .iload 1, .aload 0, .getfield 400] (by decide +kernel) ?_
  show pw_V x m_X4_besides 1 Z 16 [(0, .ref 20), (1, .int (nI s))] [.int (mm 20 0), .int (nI s), .int (nI 1), .int ((nI 1) <<< ((nI (pw_bh n s)) &&& 31))] mm
  rw [show mm 20 0 = nI n from hs.2.1.1]
  rw [show (nI 1) <<< ((nI (pw_bh n s)) &&& 31) = nI (2 ^ (pw_bh n s)) from pw_shl1 (by omega)]
  refine pw_cN (idx := 84) (vs := [.int (nI s), .int (nI n)]) (rest := [.int (nI 1), .int (nI (2 ^ (pw_bh n s)))]) (host := RX7) k_X7_ahead (c_ahead s n (by omega) (by omega) mm) (by decide +kernel) rfl (by decide) (Nat.le_of_ble_eq_true rfl) (by decide +kernel) ?_
  rintro _ m1 ⟨rfl, e1⟩
  rw [e1]
  clear e1 m1
  show pw_V x m_X4_besides 1 Z 19 [(0, .ref 20), (1, .int (nI s))] [.int (nI (pw_ah n s)), .int (nI 1), .int (nI (2 ^ (pw_bh n s)))] mm
  refine pw_blk (pc' := 21) [.ishl, .ior] (by decide +kernel) ?_
  show pw_V x m_X4_besides 1 Z 21 [(0, .ref 20), (1, .int (nI s))] [.int ((nI (2 ^ (pw_bh n s))) ||| ((nI 1) <<< ((nI (pw_ah n s)) &&& 31)))] mm
  rw [show (nI 1) <<< ((nI (pw_ah n s)) &&& 31) = nI (2 ^ (pw_ah n s)) from pw_shl1 (by omega)]
  rw [show (nI (2 ^ (pw_bh n s))) ||| (nI (2 ^ (pw_ah n s))) = nI ((2 ^ (pw_bh n s)) ||| (2 ^ (pw_ah n s))) from fa_or _ _]
  rw [← hZ]
  refine pw_ri (by decide +kernel) ?_
  exact ⟨rfl, rfl⟩

set_option maxHeartbeats 4000000 in
set_option maxRecDepth 100000 in
theorem c_freeSeats (k us : Nat) (pl : Nat → Nat) (mm : pw_m) {n kn th : Nat} {gd en : Nat → Nat} (hs : pw_SC mm n kn th gd en) (hk : k < kn) (hp : pw_PL mm n th pl k) : pw_Ct 2 yX4_freeSeats m_X4_freeSeats [.ref 20, .int (nI k), .int (nI us)] mm (fun r m' => r = some (.int (nI (pw_frI n th (gd k) (en k) pl us k))) ∧ m' = mm) := by
  refine pw_ct (by decide +kernel) rfl (Nat.le_of_ble_eq_true rfl) (fun x => ?_)
  generalize hZ : pw_Z x _ = Z
  obtain ⟨bn, bk, bt⟩ := hs.1
  have be := (hs.2.2 k hk).2.2
  have loop : ∀ i : Nat, i ≤ k → pw_V x m_X4_freeSeats 2 Z 14 [(0, .ref 20), (1, .int (nI k)), (2, .int (nI us)), (3, .int (nI (pw_frI n th (gd k) (en k) pl us i))), (4, .int (nI i))] [] mm := by
    refine pw_dn k (fun i hi ih => ?_)
    refine pw_blk (pc' := 17) [.iload 4, .iload 1] (by decide +kernel) ?_
    show pw_V x m_X4_freeSeats 2 Z 17 [(0, .ref 20), (1, .int (nI k)), (2, .int (nI us)), (3, .int (nI (pw_frI n th (gd k) (en k) pl us i))), (4, .int (nI i))] [.int (nI k), .int (nI i)] mm
    refine pw_in_ge (tgt := 68) (off := 51) (by omega) (by omega) (by decide +kernel) (by decide) (fun h17 => ?_) (fun h17 => ?_)
    · refine pw_blk (pc' := 69) [.iload 3] (by decide +kernel) ?_
      show pw_V x m_X4_freeSeats 2 Z 69 [(0, .ref 20), (1, .int (nI k)), (2, .int (nI us)), (3, .int (nI (pw_frI n th (gd k) (en k) pl us i))), (4, .int (nI i))] [.int (nI (pw_frI n th (gd k) (en k) pl us i))] mm
      rw [← hZ]
      refine pw_ri (by decide +kernel) ?_
      have e : i = k := by omega
      subst e
      exact ⟨rfl, rfl⟩
    · refine pw_blk (pc' := 28) [.aload 0, .getfield 404, .iload 1, .iaload, .iload 4] (by decide +kernel) ?_
      refine ⟨k, rfl, by omega, ?_⟩
      show pw_V x m_X4_freeSeats 2 Z 28 [(0, .ref 20), (1, .int (nI k)), (2, .int (nI us)), (3, .int (nI (pw_frI n th (gd k) (en k) pl us i))), (4, .int (nI i))] [.int (nI i), .int (mm 22 k)] mm
      rw [show mm 22 k = nI (en k) from (hs.2.2 k (by omega)).2.1]
      refine pw_cN (idx := 63) (vs := [.int (nI (en k)), .int (nI i)]) (rest := []) (host := RX7) k_X7_has (c_has (nI (en k)) (nI i) mm) (by decide +kernel) rfl (by decide) (Nat.le_of_ble_eq_true rfl) (by decide +kernel) ?_
      rintro _ m1 ⟨rfl, e1⟩
      rw [e1]
      clear e1 m1
      show pw_V x m_X4_freeSeats 2 Z 31 [(0, .ref 20), (1, .int (nI k)), (2, .int (nI us)), (3, .int (nI (pw_frI n th (gd k) (en k) pl us i))), (4, .int (nI i))] [.int (pw_b (pw_hs (nI (en k)) (nI i)))] mm
      rw [pw_hs_n (by omega) (by omega)]
      refine pw_ib_eq (tgt := 62) (off := 31) (by decide +kernel) (by decide) (fun h31 => ?_) (fun h31 => ?_)
      · refine pw_blk (pc' := 65) [.iinc 4 1] (by decide +kernel) ?_
        show pw_V x m_X4_freeSeats 2 Z 65 [(4, .int ((nI i) + (nI 1))), (0, .ref 20), (1, .int (nI k)), (2, .int (nI us)), (3, .int (nI (pw_frI n th (gd k) (en k) pl us i)))] [] mm
        rw [show (nI i) + (nI 1) = nI (i + 1) from nI_add _ _]
        refine pw_goto (tgt := 14) (off := -51) (by decide +kernel) (by decide) ?_
        rw [show (pw_frI n th (gd k) (en k) pl us i) = (pw_frI n th (gd k) (en k) pl us (i + 1)) from by simp [pw_frI, h31]]
        refine pw_lvp [1, 2, 3, 4, 0] rfl ?_
        exact ih (by omega)
      · refine pw_blk (pc' := 40) [.aload 0, .getfield 402, .iload 4] (by decide +kernel) ?_
        show pw_V x m_X4_freeSeats 2 Z 40 [(0, .ref 20), (1, .int (nI k)), (2, .int (nI us)), (3, .int (nI (pw_frI n th (gd k) (en k) pl us i))), (4, .int (nI i))] [.int (nI i), .int (mm 20 2)] mm
        rw [show mm 20 2 = nI th from hs.2.1.2.2]
        refine pw_cN (idx := 63) (vs := [.int (nI th), .int (nI i)]) (rest := []) (host := RX7) k_X7_has (c_has (nI th) (nI i) mm) (by decide +kernel) rfl (by decide) (Nat.le_of_ble_eq_true rfl) (by decide +kernel) ?_
        rintro _ m1 ⟨rfl, e1⟩
        rw [e1]
        clear e1 m1
        show pw_V x m_X4_freeSeats 2 Z 43 [(0, .ref 20), (1, .int (nI k)), (2, .int (nI us)), (3, .int (nI (pw_frI n th (gd k) (en k) pl us i))), (4, .int (nI i))] [.int (pw_b (pw_hs (nI th) (nI i)))] mm
        rw [pw_hs_n (by omega) (by omega)]
        refine pw_ib_eq (tgt := 62) (off := 19) (by decide +kernel) (by decide) (fun h43 => ?_) (fun h43 => ?_)
        · refine pw_blk (pc' := 65) [.iinc 4 1] (by decide +kernel) ?_
          show pw_V x m_X4_freeSeats 2 Z 65 [(4, .int ((nI i) + (nI 1))), (0, .ref 20), (1, .int (nI k)), (2, .int (nI us)), (3, .int (nI (pw_frI n th (gd k) (en k) pl us i)))] [] mm
          rw [show (nI i) + (nI 1) = nI (i + 1) from nI_add _ _]
          refine pw_goto (tgt := 14) (off := -51) (by decide +kernel) (by decide) ?_
          rw [show (pw_frI n th (gd k) (en k) pl us i) = (pw_frI n th (gd k) (en k) pl us (i + 1)) from by simp [pw_frI, h31, h43]]
          refine pw_lvp [1, 2, 3, 4, 0] rfl ?_
          exact ih (by omega)
        · obtain ⟨p1, p2⟩ := hp i (by omega) h43
          refine pw_blk (pc' := 55) [.iload 3, .aload 0, .aload 0, .getfield 405, .iload 4, .iaload] (by decide +kernel) ?_
          refine ⟨i, rfl, by omega, ?_⟩
          show pw_V x m_X4_freeSeats 2 Z 55 [(0, .ref 20), (1, .int (nI k)), (2, .int (nI us)), (3, .int (nI (pw_frI n th (gd k) (en k) pl us i))), (4, .int (nI i))] [.int (mm 23 i), .ref 20, .int (nI (pw_frI n th (gd k) (en k) pl us i))] mm
          rw [show mm 23 i = nI (pl i) from p1]
          refine pw_cV (vs := [.int (nI (pl i))]) (rest := [.int (nI (pw_frI n th (gd k) (en k) pl us i))]) k_X4_besides (c_besides (pl i) mm hs (by omega)) l_4_78 rfl rfl rfl rfl (by decide) (Nat.le_of_ble_eq_true rfl) (by decide +kernel) ?_
          rintro _ m1 ⟨rfl, e1⟩
          rw [e1]
          clear e1 m1
          show pw_V x m_X4_freeSeats 2 Z 58 [(0, .ref 20), (1, .int (nI k)), (2, .int (nI us)), (3, .int (nI (pw_frI n th (gd k) (en k) pl us i))), (4, .int (nI i))] [.int (nI (pw_bs n (pl i))), .int (nI (pw_frI n th (gd k) (en k) pl us i))] mm
          refine pw_blk (pc' := 60) [.iconst (-1), .ixor] (by decide +kernel) ?_
          show pw_V x m_X4_freeSeats 2 Z 60 [(0, .ref 20), (1, .int (nI k)), (2, .int (nI us)), (3, .int (nI (pw_frI n th (gd k) (en k) pl us i))), (4, .int (nI i))] [.int ((nI (pw_bs n (pl i))) ^^^ (-1)), .int (nI (pw_frI n th (gd k) (en k) pl us i))] mm
          refine pw_blk (pc' := 61) [.iand] (by decide +kernel) ?_
          show pw_V x m_X4_freeSeats 2 Z 61 [(0, .ref 20), (1, .int (nI k)), (2, .int (nI us)), (3, .int (nI (pw_frI n th (gd k) (en k) pl us i))), (4, .int (nI i))] [.int ((nI (pw_frI n th (gd k) (en k) pl us i)) &&& ((nI (pw_bs n (pl i))) ^^^ (-1)))] mm
          rw [pw_anG]
          refine pw_blk (pc' := 65) [.istore 3, .iinc 4 1] (by decide +kernel) ?_
          show pw_V x m_X4_freeSeats 2 Z 65 [(4, .int ((nI i) + (nI 1))), (3, .int (nI (pw_an (pw_frI n th (gd k) (en k) pl us i) (pw_bs n (pl i))))), (0, .ref 20), (1, .int (nI k)), (2, .int (nI us))] [] mm
          rw [show (nI i) + (nI 1) = nI (i + 1) from nI_add _ _]
          refine pw_goto (tgt := 14) (off := -51) (by decide +kernel) (by decide) ?_
          rw [show (pw_an (pw_frI n th (gd k) (en k) pl us i) (pw_bs n (pl i))) = (pw_frI n th (gd k) (en k) pl us (i + 1)) from by simp [pw_frI, h31, h43]]
          refine pw_lvp [2, 3, 4, 1, 0] rfl ?_
          exact ih (by omega)
  show pw_V x m_X4_freeSeats 2 Z 0 [(0, .ref 20), (1, .int (nI k)), (2, .int (nI us))] [] mm
  refine pw_blk (pc' := 9) [.aload 0, .getfield 403, .iload 1, .iaload, .iload 2, .iconst (-1), .ixor] (by decide +kernel) ?_
  refine ⟨k, rfl, by omega, ?_⟩
  show pw_V x m_X4_freeSeats 2 Z 9 [(0, .ref 20), (1, .int (nI k)), (2, .int (nI us))] [.int ((nI us) ^^^ (-1)), .int (mm 21 k)] mm
  rw [show mm 21 k = nI (gd k) from (hs.2.2 k (by omega)).1.1]
  refine pw_blk (pc' := 10) [.iand] (by decide +kernel) ?_
  show pw_V x m_X4_freeSeats 2 Z 10 [(0, .ref 20), (1, .int (nI k)), (2, .int (nI us))] [.int ((nI (gd k)) &&& ((nI us) ^^^ (-1)))] mm
  rw [pw_anG]
  refine pw_blk (pc' := 14) [.istore 3, .iconst 0, .istore 4] (by decide +kernel) ?_
  show pw_V x m_X4_freeSeats 2 Z 14 [(4, .int (nI 0)), (3, .int (nI (pw_an (gd k) us))), (0, .ref 20), (1, .int (nI k)), (2, .int (nI us))] [] mm
  refine pw_lvp [2, 3, 4, 1, 0] rfl ?_
  exact loop 0 (by omega)
end
section
def pw_sumS (p : Nat → Bool) (f : Nat → Nat) : Nat → Nat
  | 0 => 0
  | s + 1 => pw_sumS p f s + (if p s then f s else 0)
/-- how many seatings go on so; f knights are left -/
def pw_wy (n kn th : Nat) (gd en : Nat → Nat) : Nat → (Nat → Nat) → Nat → Nat
  | 0, _, _ => 1
  | f + 1, pl, us => if th.testBit (kn - (f + 1)) = true then pw_sumS (fun s => (pw_frI n th (gd (kn - (f + 1))) (en (kn - (f + 1))) pl us (kn - (f + 1))).testBit s) (fun s => pw_wy n kn th gd en f (pw_ns pl (kn - (f + 1)) s) (us ||| 2 ^ s)) n else pw_wy n kn th gd en f pl us
theorem pw_ct_up {b n m : Nat} (h : b < 2 ^ n) (hm : n ≤ m) : pw_ct_ (fun i => b.testBit i) m = pw_ct_ (fun i => b.testBit i) n := by
  induction m with
  | zero => have : n = 0 := by omega
            subst this; rfl
  | succ m ih =>
    rcases Nat.lt_or_ge m n with q | q
    · have : n = m + 1 := by omega
      subst this; rfl
    · simp only [pw_ct_]
      simp [ih q, Nat.testBit_lt_two_pow (Nat.lt_of_lt_of_le h (Nat.pow_le_pow_right (by omega) q))]
theorem pw_sum1 {p : Nat → Bool} {n : Nat} : pw_sumS p (fun _ => 1) n = pw_ct_ p n := by
  induction n with
  | zero => rfl
  | succ n ih => simp only [pw_sumS, pw_ct_, ih]
theorem pw_wyS {n kn th f k : Nat} {gd en pl : Nat → Nat} {us : Nat} (hk : k + (f + 1) = kn) (ht : th.testBit k = true) : pw_wy n kn th gd en (f + 1) pl us = pw_sumS (fun s => (pw_frI n th (gd k) (en k) pl us k).testBit s) (fun s => pw_wy n kn th gd en f (pw_ns pl k s) (us ||| 2 ^ s)) n := by
  have e : kn - (f + 1) = k := by omega
  simp only [pw_wy, e, if_pos ht]
theorem pw_wyN {n kn th f k : Nat} {gd en pl : Nat → Nat} {us : Nat} (hk : k + (f + 1) = kn) (ht : th.testBit k = false) : pw_wy n kn th gd en (f + 1) pl us = pw_wy n kn th gd en f pl us := by
  have e : kn - (f + 1) = k := by omega
  simp only [pw_wy, e, ht]
  rfl

set_option maxHeartbeats 8000000 in
set_option maxRecDepth 100000 in
theorem c_waysFrom {n kn th : Nat} {gd en : Nat → Nat} : ∀ (f k : Nat), k + f = kn → ∀ (pl : Nat → Nat) (us : Nat) (mm : pw_m), pw_SC mm n kn th gd en → pw_PL mm n th pl k → pw_Ct (3 + f) yX4_waysFrom m_X4_waysFrom [.ref 20, .int (nI k), .int (nI us)] mm (fun r m' => r = some (.int (nI (pw_wy n kn th gd en f pl us))) ∧ (∀ c, c ≠ 23 → m' c = mm c) ∧ ∀ j, j < k → m' 23 j = mm 23 j) := by
  intro f
  induction f with
  | zero =>
    intro k hkf pl us mm hs hp
    obtain ⟨bn, bk, bt⟩ := hs.1
    refine pw_ct (by decide +kernel) rfl (Nat.le_of_ble_eq_true rfl) (fun x => ?_)
    generalize hZ : pw_Z x _ = Z
    show pw_V x m_X4_waysFrom (3 + 0) Z 0 [(0, .ref 20), (1, .int (nI k)), (2, .int (nI us))] [] mm
    refine pw_blk (pc' := 5) [.iload 1, .aload 0, .getfield 401] (by decide +kernel) ?_
    show pw_V x m_X4_waysFrom (3 + 0) Z 5 [(0, .ref 20), (1, .int (nI k)), (2, .int (nI us))] [.int (mm 20 1), .int (nI k)] mm
    rw [show mm 20 1 = nI kn from hs.2.1.2.1]
    refine pw_in_lt (tgt := 10) (off := 5) (by omega) (by omega) (by decide +kernel) (by decide) (fun h5 => ?_) (fun h5 => ?_)
    · omega
    · refine pw_blk (pc' := 9) [.iconst 1] (by decide +kernel) ?_
      show pw_V x m_X4_waysFrom (3 + 0) Z 9 [(0, .ref 20), (1, .int (nI k)), (2, .int (nI us))] [.int (nI 1)] mm
      rw [← hZ]
      refine pw_ri (by decide +kernel) ?_
      exact ⟨rfl, fun _ _ => rfl, fun _ _ => rfl⟩
  | succ f ih =>
    intro k hkf pl us mm hs hp
    obtain ⟨bn, bk, bt⟩ := hs.1
    refine pw_ct (by decide +kernel) rfl (Nat.le_of_ble_eq_true rfl) (fun x => ?_)
    generalize hZ : pw_Z x _ = Z
    show pw_V x m_X4_waysFrom (3 + (f + 1)) Z 0 [(0, .ref 20), (1, .int (nI k)), (2, .int (nI us))] [] mm
    refine pw_blk (pc' := 5) [.iload 1, .aload 0, .getfield 401] (by decide +kernel) ?_
    show pw_V x m_X4_waysFrom (3 + (f + 1)) Z 5 [(0, .ref 20), (1, .int (nI k)), (2, .int (nI us))] [.int (mm 20 1), .int (nI k)] mm
    rw [show mm 20 1 = nI kn from hs.2.1.2.1]
    refine pw_in_lt (tgt := 10) (off := 5) (by omega) (by omega) (by decide +kernel) (by decide) (fun h5 => ?_) (fun h5 => ?_)
    · refine pw_blk (pc' := 15) [.aload 0, .getfield 402, .iload 1] (by decide +kernel) ?_
      show pw_V x m_X4_waysFrom (3 + (f + 1)) Z 15 [(0, .ref 20), (1, .int (nI k)), (2, .int (nI us))] [.int (nI k), .int (mm 20 2)] mm
      rw [show mm 20 2 = nI th from hs.2.1.2.2]
      refine pw_cN (idx := 63) (vs := [.int (nI th), .int (nI k)]) (rest := []) (host := RX7) k_X7_has (c_has (nI th) (nI k) mm) (by decide +kernel) rfl (by omega) (Nat.le_of_ble_eq_true rfl) (by decide +kernel) ?_
      rintro _ m1 ⟨rfl, e1⟩
      rw [e1]
      clear e1 m1
      show pw_V x m_X4_waysFrom (3 + (f + 1)) Z 18 [(0, .ref 20), (1, .int (nI k)), (2, .int (nI us))] [.int (pw_b (pw_hs (nI th) (nI k)))] mm
      rw [pw_hs_n (by omega) (by omega)]
      refine pw_ib_ne (tgt := 30) (off := 12) (by decide +kernel) (by decide) (fun h18 => ?_) (fun h18 => ?_)
      · refine pw_blk (pc' := 33) [.aload 0, .iload 1, .iload 2] (by decide +kernel) ?_
        show pw_V x m_X4_waysFrom (3 + (f + 1)) Z 33 [(0, .ref 20), (1, .int (nI k)), (2, .int (nI us))] [.int (nI us), .int (nI k), .ref 20] mm
        refine pw_cV (vs := [.int (nI k), .int (nI us)]) (rest := []) k_X4_freeSeats (c_freeSeats k us pl mm hs (by omega) hp) l_4_66 rfl rfl rfl rfl (by omega) (Nat.le_of_ble_eq_true rfl) (by decide +kernel) ?_
        rintro _ m1 ⟨rfl, e1⟩
        rw [e1]
        clear e1 m1
        show pw_V x m_X4_waysFrom (3 + (f + 1)) Z 36 [(0, .ref 20), (1, .int (nI k)), (2, .int (nI us))] [.int (nI (pw_frI n th (gd k) (en k) pl us k))] mm
        refine pw_blk (pc' := 37) [.istore 3] (by decide +kernel) ?_
        show pw_V x m_X4_waysFrom (3 + (f + 1)) Z 37 [(3, .int (nI (pw_frI n th (gd k) (en k) pl us k))), (0, .ref 20), (1, .int (nI k)), (2, .int (nI us))] [] mm
        have bf : (pw_frI n th (gd k) (en k) pl us k) < 2 ^ n := pw_frI_lt (hs.2.2 k (by omega)).1.2
        have bf8 := pw_p8 bn bf
        refine pw_blk (pc' := 43) [.iload 1, .aload 0, .getfield 401, .iconst 1] (by decide +kernel) ?_
        show pw_V x m_X4_waysFrom (3 + (f + 1)) Z 43 [(3, .int (nI (pw_frI n th (gd k) (en k) pl us k))), (0, .ref 20), (1, .int (nI k)), (2, .int (nI us))] [.int (nI 1), .int (mm 20 1), .int (nI k)] mm
        rw [show mm 20 1 = nI kn from hs.2.1.2.1]
        refine pw_blk (pc' := 44) [.isub] (by decide +kernel) ?_
        show pw_V x m_X4_waysFrom (3 + (f + 1)) Z 44 [(3, .int (nI (pw_frI n th (gd k) (en k) pl us k))), (0, .ref 20), (1, .int (nI k)), (2, .int (nI us))] [.int (nI kn - nI 1), .int (nI k)] mm
        rw [pk_sub (show 1 ≤ kn by omega)]
        refine pw_in_ne (tgt := 52) (off := 8) (by omega) (by omega) (by decide +kernel) (by decide) (fun h44 => ?_) (fun h44 => ?_)
        · refine pw_blk (pc' := 58) [.iconst 0, .istore 4, .iconst 0, .istore 5] (by decide +kernel) ?_
          show pw_V x m_X4_waysFrom (3 + (f + 1)) Z 58 [(5, .int (nI 0)), (4, .int (nI 0)), (3, .int (nI (pw_frI n th (gd k) (en k) pl us k))), (0, .ref 20), (1, .int (nI k)), (2, .int (nI us))] [] mm
          refine pw_lvp [3, 4, 5, 2, 1, 0] rfl ?_
          suffices loop : ∀ s : Nat, s ≤ n → ∀ m : pw_m, (∀ c, c ≠ 23 → m c = mm c) → (∀ j, j < k → m 23 j = mm 23 j) → pw_V x m_X4_waysFrom (3 + (f + 1)) Z 58 [(0, .ref 20), (1, .int (nI k)), (2, .int (nI us)), (3, .int (nI (pw_frI n th (gd k) (en k) pl us k))), (4, .int (nI (pw_sumS (fun s => (pw_frI n th (gd k) (en k) pl us k).testBit s) (fun s => pw_wy n kn th gd en f (pw_ns pl k s) (us ||| 2 ^ s)) s))), (5, .int (nI s))] [] m from loop 0 (by omega) mm (fun _ _ => rfl) (fun _ _ => rfl)
          refine pw_dn n (fun s hsn ih2 m hm hpm => ?_)
          have hsm := hs.c hm
          refine pw_blk (pc' := 64) [.iload 5, .aload 0, .getfield 400] (by decide +kernel) ?_
          show pw_V x m_X4_waysFrom (3 + (f + 1)) Z 64 [(0, .ref 20), (1, .int (nI k)), (2, .int (nI us)), (3, .int (nI (pw_frI n th (gd k) (en k) pl us k))), (4, .int (nI (pw_sumS (fun s => (pw_frI n th (gd k) (en k) pl us k).testBit s) (fun s => pw_wy n kn th gd en f (pw_ns pl k s) (us ||| 2 ^ s)) s))), (5, .int (nI s))] [.int (m 20 0), .int (nI s)] m
          rw [show m 20 0 = nI n from hsm.2.1.1]
          refine pw_in_ge (tgt := 108) (off := 44) (by omega) (by omega) (by decide +kernel) (by decide) (fun h64 => ?_) (fun h64 => ?_)
          · refine pw_blk (pc' := 110) [.iload 4] (by decide +kernel) ?_
            show pw_V x m_X4_waysFrom (3 + (f + 1)) Z 110 [(0, .ref 20), (1, .int (nI k)), (2, .int (nI us)), (3, .int (nI (pw_frI n th (gd k) (en k) pl us k))), (4, .int (nI (pw_sumS (fun s => (pw_frI n th (gd k) (en k) pl us k).testBit s) (fun s => pw_wy n kn th gd en f (pw_ns pl k s) (us ||| 2 ^ s)) s))), (5, .int (nI s))] [.int (nI (pw_sumS (fun s => (pw_frI n th (gd k) (en k) pl us k).testBit s) (fun s => pw_wy n kn th gd en f (pw_ns pl k s) (us ||| 2 ^ s)) s))] m
            rw [← hZ]
            refine pw_ri (by decide +kernel) ?_
            refine ⟨?_, hm, hpm⟩
            have e : s = n := by omega
            subst e
            rw [pw_wyS hkf h18]
          · refine pw_blk (pc' := 70) [.iload 3, .iload 5] (by decide +kernel) ?_
            show pw_V x m_X4_waysFrom (3 + (f + 1)) Z 70 [(0, .ref 20), (1, .int (nI k)), (2, .int (nI us)), (3, .int (nI (pw_frI n th (gd k) (en k) pl us k))), (4, .int (nI (pw_sumS (fun s => (pw_frI n th (gd k) (en k) pl us k).testBit s) (fun s => pw_wy n kn th gd en f (pw_ns pl k s) (us ||| 2 ^ s)) s))), (5, .int (nI s))] [.int (nI s), .int (nI (pw_frI n th (gd k) (en k) pl us k))] m
            refine pw_cN (idx := 63) (vs := [.int (nI (pw_frI n th (gd k) (en k) pl us k)), .int (nI s)]) (rest := []) (host := RX7) k_X7_has (c_has (nI (pw_frI n th (gd k) (en k) pl us k)) (nI s) m) (by decide +kernel) rfl (by omega) (Nat.le_of_ble_eq_true rfl) (by decide +kernel) ?_
            rintro _ m1 ⟨rfl, e1⟩
            rw [e1]
            clear e1 m1
            show pw_V x m_X4_waysFrom (3 + (f + 1)) Z 73 [(0, .ref 20), (1, .int (nI k)), (2, .int (nI us)), (3, .int (nI (pw_frI n th (gd k) (en k) pl us k))), (4, .int (nI (pw_sumS (fun s => (pw_frI n th (gd k) (en k) pl us k).testBit s) (fun s => pw_wy n kn th gd en f (pw_ns pl k s) (us ||| 2 ^ s)) s))), (5, .int (nI s))] [.int (pw_b (pw_hs (nI (pw_frI n th (gd k) (en k) pl us k)) (nI s)))] m
            rw [pw_hs_n (by omega) (by omega)]
            refine pw_ib_eq (tgt := 102) (off := 29) (by decide +kernel) (by decide) (fun h73 => ?_) (fun h73 => ?_)
            · refine pw_blk (pc' := 105) [.iinc 5 1] (by decide +kernel) ?_
              show pw_V x m_X4_waysFrom (3 + (f + 1)) Z 105 [(5, .int ((nI s) + (nI 1))), (0, .ref 20), (1, .int (nI k)), (2, .int (nI us)), (3, .int (nI (pw_frI n th (gd k) (en k) pl us k))), (4, .int (nI (pw_sumS (fun s => (pw_frI n th (gd k) (en k) pl us k).testBit s) (fun s => pw_wy n kn th gd en f (pw_ns pl k s) (us ||| 2 ^ s)) s)))] [] m
              rw [show (nI s) + (nI 1) = nI (s + 1) from nI_add _ _]
              refine pw_goto (tgt := 58) (off := -47) (by decide +kernel) (by decide) ?_
              rw [show (pw_sumS (fun s => (pw_frI n th (gd k) (en k) pl us k).testBit s) (fun s => pw_wy n kn th gd en f (pw_ns pl k s) (us ||| 2 ^ s)) s) = (pw_sumS (fun s => (pw_frI n th (gd k) (en k) pl us k).testBit s) (fun s => pw_wy n kn th gd en f (pw_ns pl k s) (us ||| 2 ^ s)) (s + 1)) from by simp [pw_sumS, h73]]
              refine pw_lvp [1, 2, 3, 4, 5, 0] rfl ?_
              exact ih2 (by omega) m hm hpm
            · refine pw_blk (pc' := 96) [.aload 0, .getfield 405, .iload 1, .iload 5, .iastore, .iload 4, .aload 0, .iload 1, .iconst 1, .iadd, .iload 2, .iconst 1, .iload 5, .ishl, .ior] (by decide +kernel) ?_
              refine ⟨k, rfl, by omega, ?_⟩
              show pw_V x m_X4_waysFrom (3 + (f + 1)) Z 96 [(0, .ref 20), (1, .int (nI k)), (2, .int (nI us)), (3, .int (nI (pw_frI n th (gd k) (en k) pl us k))), (4, .int (nI (pw_sumS (fun s => (pw_frI n th (gd k) (en k) pl us k).testBit s) (fun s => pw_wy n kn th gd en f (pw_ns pl k s) (us ||| 2 ^ s)) s))), (5, .int (nI s))] [.int ((nI us) ||| ((nI 1) <<< ((nI s) &&& 31))), .int ((nI k) + (nI 1)), .ref 20, .int (nI (pw_sumS (fun s => (pw_frI n th (gd k) (en k) pl us k).testBit s) (fun s => pw_wy n kn th gd en f (pw_ns pl k s) (us ||| 2 ^ s)) s))] (pw_up m 23 k (nI s))
              rw [show (nI 1) <<< ((nI s) &&& 31) = nI (2 ^ s) from pw_shl1 (by omega)]
              rw [show (nI us) ||| (nI (2 ^ s)) = nI (us ||| (2 ^ s)) from fa_or _ _]
              rw [show (nI k) + (nI 1) = nI (k + 1) from nI_add _ _]
              refine pw_cV (vs := [.int (nI (k + 1)), .int (nI (us ||| (2 ^ s)))]) (rest := [.int (nI (pw_sumS (fun s => (pw_frI n th (gd k) (en k) pl us k).testBit s) (fun s => pw_wy n kn th gd en f (pw_ns pl k s) (us ||| 2 ^ s)) s))]) k_X4_waysFrom (ih (k + 1) (by omega) (pw_ns pl k s) (us ||| 2 ^ s) (pw_up m 23 k (nI s)) (hsm.c (fun c hc => pw_up_ne hc)) ((hp.c hpm).put (by omega))) l_4_24 rfl rfl rfl rfl (by omega) (Nat.le_of_ble_eq_true rfl) (by decide +kernel) ?_
              rintro _ m1 ⟨rfl, e1, e2⟩
              show pw_V x m_X4_waysFrom (3 + (f + 1)) Z 99 [(0, .ref 20), (1, .int (nI k)), (2, .int (nI us)), (3, .int (nI (pw_frI n th (gd k) (en k) pl us k))), (4, .int (nI (pw_sumS (fun s => (pw_frI n th (gd k) (en k) pl us k).testBit s) (fun s => pw_wy n kn th gd en f (pw_ns pl k s) (us ||| 2 ^ s)) s))), (5, .int (nI s))] [.int (nI (pw_wy n kn th gd en f (pw_ns pl k s) (us ||| (2 ^ s)))), .int (nI (pw_sumS (fun s => (pw_frI n th (gd k) (en k) pl us k).testBit s) (fun s => pw_wy n kn th gd en f (pw_ns pl k s) (us ||| 2 ^ s)) s))] m1
              refine pw_blk (pc' := 105) [.iadd, .istore 4, .iinc 5 1] (by decide +kernel) ?_
              show pw_V x m_X4_waysFrom (3 + (f + 1)) Z 105 [(5, .int ((nI s) + (nI 1))), (4, .int ((nI (pw_sumS (fun s => (pw_frI n th (gd k) (en k) pl us k).testBit s) (fun s => pw_wy n kn th gd en f (pw_ns pl k s) (us ||| 2 ^ s)) s)) + (nI (pw_wy n kn th gd en f (pw_ns pl k s) (us ||| (2 ^ s)))))), (0, .ref 20), (1, .int (nI k)), (2, .int (nI us)), (3, .int (nI (pw_frI n th (gd k) (en k) pl us k)))] [] m1
              rw [show (nI s) + (nI 1) = nI (s + 1) from nI_add _ _]
              rw [show (nI (pw_sumS (fun s => (pw_frI n th (gd k) (en k) pl us k).testBit s) (fun s => pw_wy n kn th gd en f (pw_ns pl k s) (us ||| 2 ^ s)) s)) + (nI (pw_wy n kn th gd en f (pw_ns pl k s) (us ||| (2 ^ s)))) = nI ((pw_sumS (fun s => (pw_frI n th (gd k) (en k) pl us k).testBit s) (fun s => pw_wy n kn th gd en f (pw_ns pl k s) (us ||| 2 ^ s)) s) + (pw_wy n kn th gd en f (pw_ns pl k s) (us ||| (2 ^ s)))) from nI_add _ _]
              refine pw_goto (tgt := 58) (off := -47) (by decide +kernel) (by decide) ?_
              rw [show ((pw_sumS (fun s => (pw_frI n th (gd k) (en k) pl us k).testBit s) (fun s => pw_wy n kn th gd en f (pw_ns pl k s) (us ||| 2 ^ s)) s) + (pw_wy n kn th gd en f (pw_ns pl k s) (us ||| (2 ^ s)))) = (pw_sumS (fun s => (pw_frI n th (gd k) (en k) pl us k).testBit s) (fun s => pw_wy n kn th gd en f (pw_ns pl k s) (us ||| 2 ^ s)) (s + 1)) from by simp [pw_sumS, h73]]
              refine pw_lvp [2, 3, 4, 5, 1, 0] rfl ?_
              exact ih2 (by omega) m1 (fun c hc => by rw [e1 c hc, pw_up_ne hc]; exact hm c hc) (fun j hj => by rw [e2 j (by omega), pw_up_eq]; unfold upd; rw [if_neg (by omega)]; exact hpm j hj)
        · refine pw_blk (pc' := 48) [.iload 3] (by decide +kernel) ?_
          show pw_V x m_X4_waysFrom (3 + (f + 1)) Z 48 [(3, .int (nI (pw_frI n th (gd k) (en k) pl us k))), (0, .ref 20), (1, .int (nI k)), (2, .int (nI us))] [.int (nI (pw_frI n th (gd k) (en k) pl us k))] mm
          refine pw_cS (vs := [.int (nI (pw_frI n th (gd k) (en k) pl us k))]) (rest := []) k_J6_bitCount_0f7a4 (c_bitCount (nI (pw_frI n th (gd k) (en k) pl us k)) mm) l_4_43 rfl (by omega) (Nat.le_of_ble_eq_true rfl) (by decide +kernel) ?_
          rintro _ m1 ⟨rfl, e1⟩
          rw [e1]
          clear e1 m1
          show pw_V x m_X4_waysFrom (3 + (f + 1)) Z 51 [(3, .int (nI (pw_frI n th (gd k) (en k) pl us k))), (0, .ref 20), (1, .int (nI k)), (2, .int (nI us))] [.int (pw_bc (nI (pw_frI n th (gd k) (en k) pl us k)))] mm
          rw [pw_bcN _ (by omega)]
          rw [← hZ]
          refine pw_ri (by decide +kernel) ?_
          refine ⟨?_, fun _ _ => rfl, fun _ _ => rfl⟩
          have ef : f = 0 := by omega
          subst ef
          rw [pw_wyS hkf h18]
          have e9 : pw_pc (pw_frI n th (gd k) (en k) pl us k) = pw_ct_ (fun i => (pw_frI n th (gd k) (en k) pl us k).testBit i) n := pw_ct_up bf bn
          rw [e9, ← pw_sum1]
          rfl
      · refine pw_blk (pc' := 26) [.aload 0, .iload 1, .iconst 1, .iadd, .iload 2] (by decide +kernel) ?_
        show pw_V x m_X4_waysFrom (3 + (f + 1)) Z 26 [(0, .ref 20), (1, .int (nI k)), (2, .int (nI us))] [.int (nI us), .int ((nI k) + (nI 1)), .ref 20] mm
        rw [show (nI k) + (nI 1) = nI (k + 1) from nI_add _ _]
        refine pw_cV (vs := [.int (nI (k + 1)), .int (nI us)]) (rest := []) k_X4_waysFrom (ih (k + 1) (by omega) pl us mm hs (hp.skip h18)) l_4_24 rfl rfl rfl rfl (by omega) (Nat.le_of_ble_eq_true rfl) (by decide +kernel) ?_
        rintro _ m1 ⟨rfl, e1, e2⟩
        show pw_V x m_X4_waysFrom (3 + (f + 1)) Z 29 [(0, .ref 20), (1, .int (nI k)), (2, .int (nI us))] [.int (nI (pw_wy n kn th gd en f pl us))] m1
        rw [← hZ]
        refine pw_ri (by decide +kernel) ?_
        refine ⟨?_, e1, fun j hj => e2 j (by omega)⟩
        rw [pw_wyN hkf h18]
    · omega
end
section
/-- the first success below n; a fold below n -/
def pw_fs {α : Type} (g : Nat → Option α) : Nat → Option α
  | 0 => none
  | s + 1 => match pw_fs g s with
    | some a => some a
    | none => g s
def pw_fo {β : Type} (g : Nat → β → β) : Nat → β → β
  | 0, x => x
  | s + 1, x => g s (pw_fo g s x)
theorem pw_fs_up {α : Type} {g : Nat → Option α} {s n : Nat} {a : α} (h : pw_fs g s = some a) (hn : s ≤ n) : pw_fs g n = some a := by
  induction n with
  | zero => have : s = 0 := by omega
            subst this; exact h
  | succ n ih =>
    rcases Nat.lt_or_ge n s with q | q
    · have : s = n + 1 := by omega
      subst this; exact h
    · simp [pw_fs, ih q]
def pw_fT (n kn th : Nat) (gd en : Nat → Nat) : Nat → (Nat → Nat) → Nat → Option (Nat → Nat)
  | 0, pl, _ => some pl
  | f + 1, pl, us => if th.testBit (kn - (f + 1)) = true then pw_fs (fun s => if (pw_frI n th (gd (kn - (f + 1))) (en (kn - (f + 1))) pl us (kn - (f + 1))).testBit s = true then pw_fT n kn th gd en f (pw_ns pl (kn - (f + 1)) s) (us ||| 2 ^ s) else none) n else pw_fT n kn th gd en f pl us
theorem pw_fTS {n kn th f k : Nat} {gd en pl : Nat → Nat} {us : Nat} (hk : k + (f + 1) = kn) (ht : th.testBit k = true) : pw_fT n kn th gd en (f + 1) pl us = pw_fs (fun s => if (pw_frI n th (gd k) (en k) pl us k).testBit s = true then pw_fT n kn th gd en f (pw_ns pl k s) (us ||| 2 ^ s) else none) n := by
  have e : kn - (f + 1) = k := by omega
  simp only [pw_fT, e, if_pos ht]
theorem pw_fTN {n kn th f k : Nat} {gd en pl : Nat → Nat} {us : Nat} (hk : k + (f + 1) = kn) (ht : th.testBit k = false) : pw_fT n kn th gd en (f + 1) pl us = pw_fT n kn th gd en f pl us := by
  have e : kn - (f + 1) = k := by omega
  simp only [pw_fT, e, ht]
  rfl
def pw_fw (n kn th : Nat) (gd en : Nat → Nat) (row : Nat → Int32) : Nat → (Nat → Nat) → Nat → Nat → Nat → Nat
  | 0, _, _, aw, fd => if fd ≤ aw then fd else aw
  | f + 1, pl, us, aw, fd => if fd ≤ aw then fd else if th.testBit (kn - (f + 1)) = true then pw_fo (fun s x => if (pw_frI n th (gd (kn - (f + 1))) (en (kn - (f + 1))) pl us (kn - (f + 1))).testBit s = true then pw_fw n kn th gd en row f (pw_ns pl (kn - (f + 1)) s) (us ||| 2 ^ s) (aw + if row (kn - (f + 1)) = nI s then 0 else 1) x else x) n fd else pw_fw n kn th gd en row f pl us aw fd
theorem pw_fwS {n kn th f k : Nat} {gd en pl : Nat → Nat} {row : Nat → Int32} {us aw fd : Nat} (hk : k + (f + 1) = kn) (ha : aw < fd) (ht : th.testBit k = true) : pw_fw n kn th gd en row (f + 1) pl us aw fd = pw_fo (fun s x => if (pw_frI n th (gd k) (en k) pl us k).testBit s = true then pw_fw n kn th gd en row f (pw_ns pl k s) (us ||| 2 ^ s) (aw + if row k = nI s then 0 else 1) x else x) n fd := by
  have e : kn - (f + 1) = k := by omega
  simp only [pw_fw, e, if_pos ht, if_neg (Nat.not_le.mpr ha)]
theorem pw_fwN {n kn th f k : Nat} {gd en pl : Nat → Nat} {row : Nat → Int32} {us aw fd : Nat} (hk : k + (f + 1) = kn) (ha : aw < fd) (ht : th.testBit k = false) : pw_fw n kn th gd en row (f + 1) pl us aw fd = pw_fw n kn th gd en row f pl us aw fd := by
  have e : kn - (f + 1) = k := by omega
  simp only [pw_fw, e, ht, if_neg (Nat.not_le.mpr ha)]
  rfl
theorem pw_fwL {n kn th f : Nat} {gd en pl : Nat → Nat} {row : Nat → Int32} {us aw fd : Nat} (ha : fd ≤ aw) : pw_fw n kn th gd en row f pl us aw fd = fd := by
  cases f <;> simp [pw_fw, ha]
theorem pw_fwb {n kn th : Nat} {gd en : Nat → Nat} {row : Nat → Int32} : ∀ (f : Nat) (pl : Nat → Nat) (us aw fd : Nat), pw_fw n kn th gd en row f pl us aw fd ≤ fd := by
  intro f
  induction f with
  | zero => intro pl us aw fd; unfold pw_fw; split <;> omega
  | succ f ih =>
    intro pl us aw fd
    unfold pw_fw
    split
    · exact Nat.le_refl _
    · split
      · have key : ∀ s, pw_fo (fun s x => if (pw_frI n th (gd (kn - (f + 1))) (en (kn - (f + 1))) pl us (kn - (f + 1))).testBit s = true then pw_fw n kn th gd en row f (pw_ns pl (kn - (f + 1)) s) (us ||| 2 ^ s) (aw + if row (kn - (f + 1)) = nI s then 0 else 1) x else x) s fd ≤ fd := by
          intro s
          induction s with
          | zero => exact Nat.le_refl _
          | succ s is =>
            simp only [pw_fo]
            split
            · exact Nat.le_trans (ih _ _ _ _) is
            · exact is
        exact key n
      · exact ih _ _ _ _

set_option maxHeartbeats 8000000 in
set_option maxRecDepth 100000 in
theorem c_firstFrom {n kn th : Nat} {gd en : Nat → Nat} : ∀ (f k : Nat), k + f = kn → ∀ (pl : Nat → Nat) (us : Nat) (mm : pw_m), pw_SC mm n kn th gd en → pw_PL mm n th pl k → pw_Ct (3 + f) yX4_firstFrom m_X4_firstFrom [.ref 20, .int (nI k), .int (nI us)] mm (fun r m' => r = some (.int (pw_b (pw_fT n kn th gd en f pl us).isSome)) ∧ (∀ c, c ≠ 23 → m' c = mm c) ∧ (∀ j, j < k → m' 23 j = mm 23 j) ∧ ∀ a, (pw_fT n kn th gd en f pl us) = some a → ∀ j, j < kn → th.testBit j = true → m' 23 j = nI (a j) ∧ a j < n) := by
  intro f
  induction f with
  | zero =>
    intro k hkf pl us mm hs hp
    obtain ⟨bn, bk, bt⟩ := hs.1
    refine pw_ct (by decide +kernel) rfl (Nat.le_of_ble_eq_true rfl) (fun x => ?_)
    generalize hZ : pw_Z x _ = Z
    show pw_V x m_X4_firstFrom (3 + 0) Z 0 [(0, .ref 20), (1, .int (nI k)), (2, .int (nI us))] [] mm
    refine pw_blk (pc' := 5) [.iload 1, .aload 0, .getfield 401] (by decide +kernel) ?_
    show pw_V x m_X4_firstFrom (3 + 0) Z 5 [(0, .ref 20), (1, .int (nI k)), (2, .int (nI us))] [.int (mm 20 1), .int (nI k)] mm
    rw [show mm 20 1 = nI kn from hs.2.1.2.1]
    refine pw_in_lt (tgt := 10) (off := 5) (by omega) (by omega) (by decide +kernel) (by decide) (fun h5 => ?_) (fun h5 => ?_)
    · omega
    · refine pw_blk (pc' := 9) [.iconst 1] (by decide +kernel) ?_
      show pw_V x m_X4_firstFrom (3 + 0) Z 9 [(0, .ref 20), (1, .int (nI k)), (2, .int (nI us))] [.int (nI 1)] mm
      rw [← hZ]
      refine pw_rz (by decide +kernel) (Or.inr rfl) ?_
      refine ⟨rfl, fun _ _ => rfl, fun _ _ => rfl, fun a ha j hj ht => ?_⟩
      cases ha
      exact hp j (by omega) ht
  | succ f ih =>
    intro k hkf pl us mm hs hp
    obtain ⟨bn, bk, bt⟩ := hs.1
    refine pw_ct (by decide +kernel) rfl (Nat.le_of_ble_eq_true rfl) (fun x => ?_)
    generalize hZ : pw_Z x _ = Z
    show pw_V x m_X4_firstFrom (3 + (f + 1)) Z 0 [(0, .ref 20), (1, .int (nI k)), (2, .int (nI us))] [] mm
    refine pw_blk (pc' := 5) [.iload 1, .aload 0, .getfield 401] (by decide +kernel) ?_
    show pw_V x m_X4_firstFrom (3 + (f + 1)) Z 5 [(0, .ref 20), (1, .int (nI k)), (2, .int (nI us))] [.int (mm 20 1), .int (nI k)] mm
    rw [show mm 20 1 = nI kn from hs.2.1.2.1]
    refine pw_in_lt (tgt := 10) (off := 5) (by omega) (by omega) (by decide +kernel) (by decide) (fun h5 => ?_) (fun h5 => ?_)
    · refine pw_blk (pc' := 15) [.aload 0, .getfield 402, .iload 1] (by decide +kernel) ?_
      show pw_V x m_X4_firstFrom (3 + (f + 1)) Z 15 [(0, .ref 20), (1, .int (nI k)), (2, .int (nI us))] [.int (nI k), .int (mm 20 2)] mm
      rw [show mm 20 2 = nI th from hs.2.1.2.2]
      refine pw_cN (idx := 63) (vs := [.int (nI th), .int (nI k)]) (rest := []) (host := RX7) k_X7_has (c_has (nI th) (nI k) mm) (by decide +kernel) rfl (by omega) (Nat.le_of_ble_eq_true rfl) (by decide +kernel) ?_
      rintro _ m1 ⟨rfl, e1⟩
      rw [e1]
      clear e1 m1
      show pw_V x m_X4_firstFrom (3 + (f + 1)) Z 18 [(0, .ref 20), (1, .int (nI k)), (2, .int (nI us))] [.int (pw_b (pw_hs (nI th) (nI k)))] mm
      rw [pw_hs_n (by omega) (by omega)]
      refine pw_ib_ne (tgt := 30) (off := 12) (by decide +kernel) (by decide) (fun h18 => ?_) (fun h18 => ?_)
      · refine pw_blk (pc' := 33) [.aload 0, .iload 1, .iload 2] (by decide +kernel) ?_
        show pw_V x m_X4_firstFrom (3 + (f + 1)) Z 33 [(0, .ref 20), (1, .int (nI k)), (2, .int (nI us))] [.int (nI us), .int (nI k), .ref 20] mm
        refine pw_cV (vs := [.int (nI k), .int (nI us)]) (rest := []) k_X4_freeSeats (c_freeSeats k us pl mm hs (by omega) hp) l_4_66 rfl rfl rfl rfl (by omega) (Nat.le_of_ble_eq_true rfl) (by decide +kernel) ?_
        rintro _ m1 ⟨rfl, e1⟩
        rw [e1]
        clear e1 m1
        show pw_V x m_X4_firstFrom (3 + (f + 1)) Z 36 [(0, .ref 20), (1, .int (nI k)), (2, .int (nI us))] [.int (nI (pw_frI n th (gd k) (en k) pl us k))] mm
        refine pw_blk (pc' := 37) [.istore 3] (by decide +kernel) ?_
        show pw_V x m_X4_firstFrom (3 + (f + 1)) Z 37 [(3, .int (nI (pw_frI n th (gd k) (en k) pl us k))), (0, .ref 20), (1, .int (nI k)), (2, .int (nI us))] [] mm
        have bf : (pw_frI n th (gd k) (en k) pl us k) < 2 ^ n := pw_frI_lt (hs.2.2 k (by omega)).1.2
        have bf8 := pw_p8 bn bf
        refine pw_blk (pc' := 40) [.iconst 0, .istore 4] (by decide +kernel) ?_
        show pw_V x m_X4_firstFrom (3 + (f + 1)) Z 40 [(4, .int (nI 0)), (3, .int (nI (pw_frI n th (gd k) (en k) pl us k))), (0, .ref 20), (1, .int (nI k)), (2, .int (nI us))] [] mm
        refine pw_lvp [2, 3, 4, 1, 0] rfl ?_
        suffices loop : ∀ s : Nat, s ≤ n → ∀ m : pw_m, (∀ c, c ≠ 23 → m c = mm c) → (∀ j, j < k → m 23 j = mm 23 j) → pw_fs (fun s => if (pw_frI n th (gd k) (en k) pl us k).testBit s = true then pw_fT n kn th gd en f (pw_ns pl k s) (us ||| 2 ^ s) else none) s = none → pw_V x m_X4_firstFrom (3 + (f + 1)) Z 40 [(0, .ref 20), (1, .int (nI k)), (2, .int (nI us)), (3, .int (nI (pw_frI n th (gd k) (en k) pl us k))), (4, .int (nI s))] [] m from loop 0 (by omega) mm (fun _ _ => rfl) (fun _ _ => rfl) rfl
        refine pw_dn n (fun s hsn ih2 m hm hpm hno => ?_)
        have hsm := hs.c hm
        refine pw_blk (pc' := 46) [.iload 4, .aload 0, .getfield 400] (by decide +kernel) ?_
        show pw_V x m_X4_firstFrom (3 + (f + 1)) Z 46 [(0, .ref 20), (1, .int (nI k)), (2, .int (nI us)), (3, .int (nI (pw_frI n th (gd k) (en k) pl us k))), (4, .int (nI s))] [.int (m 20 0), .int (nI s)] m
        rw [show m 20 0 = nI n from hsm.2.1.1]
        refine pw_in_ge (tgt := 90) (off := 44) (by omega) (by omega) (by decide +kernel) (by decide) (fun h46 => ?_) (fun h46 => ?_)
        · refine pw_blk (pc' := 91) [.iconst 0] (by decide +kernel) ?_
          show pw_V x m_X4_firstFrom (3 + (f + 1)) Z 91 [(0, .ref 20), (1, .int (nI k)), (2, .int (nI us)), (3, .int (nI (pw_frI n th (gd k) (en k) pl us k))), (4, .int (nI s))] [.int (nI 0)] m
          rw [← hZ]
          refine pw_rz (by decide +kernel) (Or.inl rfl) ?_
          have e : s = n := by omega
          subst e
          have e9 := (pw_fTS (gd := gd) (en := en) (pl := pl) (us := us) hkf h18).trans hno
          rw [e9]
          exact ⟨rfl, hm, hpm, fun a ha => by cases ha⟩
        · refine pw_blk (pc' := 52) [.iload 3, .iload 4] (by decide +kernel) ?_
          show pw_V x m_X4_firstFrom (3 + (f + 1)) Z 52 [(0, .ref 20), (1, .int (nI k)), (2, .int (nI us)), (3, .int (nI (pw_frI n th (gd k) (en k) pl us k))), (4, .int (nI s))] [.int (nI s), .int (nI (pw_frI n th (gd k) (en k) pl us k))] m
          refine pw_cN (idx := 63) (vs := [.int (nI (pw_frI n th (gd k) (en k) pl us k)), .int (nI s)]) (rest := []) (host := RX7) k_X7_has (c_has (nI (pw_frI n th (gd k) (en k) pl us k)) (nI s) m) (by decide +kernel) rfl (by omega) (Nat.le_of_ble_eq_true rfl) (by decide +kernel) ?_
          rintro _ m1 ⟨rfl, e1⟩
          rw [e1]
          clear e1 m1
          show pw_V x m_X4_firstFrom (3 + (f + 1)) Z 55 [(0, .ref 20), (1, .int (nI k)), (2, .int (nI us)), (3, .int (nI (pw_frI n th (gd k) (en k) pl us k))), (4, .int (nI s))] [.int (pw_b (pw_hs (nI (pw_frI n th (gd k) (en k) pl us k)) (nI s)))] m
          rw [pw_hs_n (by omega) (by omega)]
          refine pw_ib_eq (tgt := 84) (off := 29) (by decide +kernel) (by decide) (fun h55 => ?_) (fun h55 => ?_)
          · refine pw_blk (pc' := 87) [.iinc 4 1] (by decide +kernel) ?_
            show pw_V x m_X4_firstFrom (3 + (f + 1)) Z 87 [(4, .int ((nI s) + (nI 1))), (0, .ref 20), (1, .int (nI k)), (2, .int (nI us)), (3, .int (nI (pw_frI n th (gd k) (en k) pl us k)))] [] m
            rw [show (nI s) + (nI 1) = nI (s + 1) from nI_add _ _]
            refine pw_goto (tgt := 40) (off := -47) (by decide +kernel) (by decide) ?_
            refine pw_lvp [1, 2, 3, 4, 0] rfl ?_
            exact ih2 (by omega) m hm hpm (by simp [pw_fs, hno, h55])
          · refine pw_blk (pc' := 76) [.aload 0, .getfield 405, .iload 1, .iload 4, .iastore, .aload 0, .iload 1, .iconst 1, .iadd, .iload 2, .iconst 1, .iload 4, .ishl, .ior] (by decide +kernel) ?_
            refine ⟨k, rfl, by omega, ?_⟩
            show pw_V x m_X4_firstFrom (3 + (f + 1)) Z 76 [(0, .ref 20), (1, .int (nI k)), (2, .int (nI us)), (3, .int (nI (pw_frI n th (gd k) (en k) pl us k))), (4, .int (nI s))] [.int ((nI us) ||| ((nI 1) <<< ((nI s) &&& 31))), .int ((nI k) + (nI 1)), .ref 20] (pw_up m 23 k (nI s))
            rw [show (nI 1) <<< ((nI s) &&& 31) = nI (2 ^ s) from pw_shl1 (by omega)]
            rw [show (nI us) ||| (nI (2 ^ s)) = nI (us ||| (2 ^ s)) from fa_or _ _]
            rw [show (nI k) + (nI 1) = nI (k + 1) from nI_add _ _]
            refine pw_cV (vs := [.int (nI (k + 1)), .int (nI (us ||| (2 ^ s)))]) (rest := []) k_X4_firstFrom (ih (k + 1) (by omega) (pw_ns pl k s) (us ||| 2 ^ s) (pw_up m 23 k (nI s)) (hsm.c (fun c hc => pw_up_ne hc)) ((hp.c hpm).put (by omega))) l_4_28 rfl rfl rfl rfl (by omega) (Nat.le_of_ble_eq_true rfl) (by decide +kernel) ?_
            rintro _ m1 ⟨rfl, e1, e2, e3⟩
            show pw_V x m_X4_firstFrom (3 + (f + 1)) Z 79 [(0, .ref 20), (1, .int (nI k)), (2, .int (nI us)), (3, .int (nI (pw_frI n th (gd k) (en k) pl us k))), (4, .int (nI s))] [.int (pw_b ((pw_fT n kn th gd en f (pw_ns pl k s) (us ||| (2 ^ s))).isSome))] m1
            refine pw_ib_eq (tgt := 84) (off := 5) (by decide +kernel) (by decide) (fun h79 => ?_) (fun h79 => ?_)
            · refine pw_blk (pc' := 87) [.iinc 4 1] (by decide +kernel) ?_
              show pw_V x m_X4_firstFrom (3 + (f + 1)) Z 87 [(4, .int ((nI s) + (nI 1))), (0, .ref 20), (1, .int (nI k)), (2, .int (nI us)), (3, .int (nI (pw_frI n th (gd k) (en k) pl us k)))] [] m1
              rw [show (nI s) + (nI 1) = nI (s + 1) from nI_add _ _]
              refine pw_goto (tgt := 40) (off := -47) (by decide +kernel) (by decide) ?_
              refine pw_lvp [1, 2, 3, 4, 0] rfl ?_
              exact ih2 (by omega) m1 (fun c hc => by rw [e1 c hc, pw_up_ne hc]; exact hm c hc) (fun j hj => by rw [e2 j (by omega), pw_up_eq]; unfold upd; rw [if_neg (by omega)]; exact hpm j hj) (by simp only [pw_fs, hno, if_pos h55]; simpa using h79)
            · refine pw_blk (pc' := 83) [.iconst 1] (by decide +kernel) ?_
              show pw_V x m_X4_firstFrom (3 + (f + 1)) Z 83 [(0, .ref 20), (1, .int (nI k)), (2, .int (nI us)), (3, .int (nI (pw_frI n th (gd k) (en k) pl us k))), (4, .int (nI s))] [.int (nI 1)] m1
              rw [← hZ]
              refine pw_rz (by decide +kernel) (Or.inr rfl) ?_
              obtain ⟨a, ha⟩ := Option.isSome_iff_exists.mp h79
              have e9 : pw_fT n kn th gd en (f + 1) pl us = some a := by
                rw [pw_fTS hkf h18]
                exact pw_fs_up (s := s + 1) (by simp only [pw_fs, hno, if_pos h55]; exact ha) (by omega)
              rw [e9]
              exact ⟨rfl, fun c hc => by rw [e1 c hc, pw_up_ne hc]; exact hm c hc, fun j hj => by rw [e2 j (by omega), pw_up_eq]; unfold upd; rw [if_neg (by omega)]; exact hpm j hj, fun a' ha' => by cases ha'; exact e3 a ha⟩
      · refine pw_blk (pc' := 26) [.aload 0, .iload 1, .iconst 1, .iadd, .iload 2] (by decide +kernel) ?_
        show pw_V x m_X4_firstFrom (3 + (f + 1)) Z 26 [(0, .ref 20), (1, .int (nI k)), (2, .int (nI us))] [.int (nI us), .int ((nI k) + (nI 1)), .ref 20] mm
        rw [show (nI k) + (nI 1) = nI (k + 1) from nI_add _ _]
        refine pw_cV (vs := [.int (nI (k + 1)), .int (nI us)]) (rest := []) k_X4_firstFrom (ih (k + 1) (by omega) pl us mm hs (hp.skip h18)) l_4_28 rfl rfl rfl rfl (by omega) (Nat.le_of_ble_eq_true rfl) (by decide +kernel) ?_
        rintro _ m1 ⟨rfl, e1, e2, e3⟩
        show pw_V x m_X4_firstFrom (3 + (f + 1)) Z 29 [(0, .ref 20), (1, .int (nI k)), (2, .int (nI us))] [.int (pw_b ((pw_fT n kn th gd en f pl us).isSome))] m1
        rw [← hZ]
        refine pw_rz (by decide +kernel) (pw_b01 _) ?_
        rw [pw_fTN hkf h18]
        exact ⟨rfl, e1, fun j hj => e2 j (by omega), e3⟩
    · omega

set_option maxHeartbeats 8000000 in
set_option maxRecDepth 100000 in
theorem c_fewestFrom {n kn th : Nat} {gd en : Nat → Nat} : ∀ (f k : Nat), k + f = kn → ∀ (pl : Nat → Nat) (us aw fd : Nat) (mm : pw_m), pw_SC mm n kn th gd en → pw_PL mm n th pl k → aw + f < 100 ∧ fd < 100 → pw_Ct (3 + f) yX4_fewestFrom m_X4_fewestFrom [.ref 20, .int (nI k), .int (nI us), .int (nI aw), .int (nI fd)] mm (fun r m' => r = some (.int (nI (pw_fw n kn th gd en (mm 24) f pl us aw fd))) ∧ (∀ c, c ≠ 23 → m' c = mm c) ∧ ∀ j, j < k → m' 23 j = mm 23 j) := by
  intro f
  induction f with
  | zero =>
    intro k hkf pl us aw fd mm hs hp hb
    obtain ⟨bn, bk, bt⟩ := hs.1
    refine pw_ct (by decide +kernel) rfl (Nat.le_of_ble_eq_true rfl) (fun x => ?_)
    generalize hZ : pw_Z x _ = Z
    show pw_V x m_X4_fewestFrom (3 + 0) Z 0 [(0, .ref 20), (1, .int (nI k)), (2, .int (nI us)), (3, .int (nI aw)), (4, .int (nI fd))] [] mm
    refine pw_blk (pc' := 3) [.iload 3, .iload 4] (by decide +kernel) ?_
    show pw_V x m_X4_fewestFrom (3 + 0) Z 3 [(0, .ref 20), (1, .int (nI k)), (2, .int (nI us)), (3, .int (nI aw)), (4, .int (nI fd))] [.int (nI fd), .int (nI aw)] mm
    refine pw_in_lt (tgt := 9) (off := 6) (by omega) (by omega) (by decide +kernel) (by decide) (fun h3 => ?_) (fun h3 => ?_)
    · refine pw_blk (pc' := 14) [.iload 1, .aload 0, .getfield 401] (by decide +kernel) ?_
      show pw_V x m_X4_fewestFrom (3 + 0) Z 14 [(0, .ref 20), (1, .int (nI k)), (2, .int (nI us)), (3, .int (nI aw)), (4, .int (nI fd))] [.int (mm 20 1), .int (nI k)] mm
      rw [show mm 20 1 = nI kn from hs.2.1.2.1]
      refine pw_in_lt (tgt := 19) (off := 5) (by omega) (by omega) (by decide +kernel) (by decide) (fun h14 => ?_) (fun h14 => ?_)
      · omega
      · refine pw_blk (pc' := 18) [.iload 3] (by decide +kernel) ?_
        show pw_V x m_X4_fewestFrom (3 + 0) Z 18 [(0, .ref 20), (1, .int (nI k)), (2, .int (nI us)), (3, .int (nI aw)), (4, .int (nI fd))] [.int (nI aw)] mm
        rw [← hZ]
        refine pw_ri (by decide +kernel) ?_
        exact ⟨by simp [pw_fw, Nat.not_le.mpr h3], fun _ _ => rfl, fun _ _ => rfl⟩
    · refine pw_blk (pc' := 8) [.iload 4] (by decide +kernel) ?_
      show pw_V x m_X4_fewestFrom (3 + 0) Z 8 [(0, .ref 20), (1, .int (nI k)), (2, .int (nI us)), (3, .int (nI aw)), (4, .int (nI fd))] [.int (nI fd)] mm
      rw [← hZ]
      refine pw_ri (by decide +kernel) ?_
      exact ⟨by rw [pw_fwL h3], fun _ _ => rfl, fun _ _ => rfl⟩
  | succ f ih =>
    intro k hkf pl us aw fd mm hs hp hb
    obtain ⟨bn, bk, bt⟩ := hs.1
    refine pw_ct (by decide +kernel) rfl (Nat.le_of_ble_eq_true rfl) (fun x => ?_)
    generalize hZ : pw_Z x _ = Z
    show pw_V x m_X4_fewestFrom (3 + (f + 1)) Z 0 [(0, .ref 20), (1, .int (nI k)), (2, .int (nI us)), (3, .int (nI aw)), (4, .int (nI fd))] [] mm
    refine pw_blk (pc' := 3) [.iload 3, .iload 4] (by decide +kernel) ?_
    show pw_V x m_X4_fewestFrom (3 + (f + 1)) Z 3 [(0, .ref 20), (1, .int (nI k)), (2, .int (nI us)), (3, .int (nI aw)), (4, .int (nI fd))] [.int (nI fd), .int (nI aw)] mm
    refine pw_in_lt (tgt := 9) (off := 6) (by omega) (by omega) (by decide +kernel) (by decide) (fun h3 => ?_) (fun h3 => ?_)
    · refine pw_blk (pc' := 14) [.iload 1, .aload 0, .getfield 401] (by decide +kernel) ?_
      show pw_V x m_X4_fewestFrom (3 + (f + 1)) Z 14 [(0, .ref 20), (1, .int (nI k)), (2, .int (nI us)), (3, .int (nI aw)), (4, .int (nI fd))] [.int (mm 20 1), .int (nI k)] mm
      rw [show mm 20 1 = nI kn from hs.2.1.2.1]
      refine pw_in_lt (tgt := 19) (off := 5) (by omega) (by omega) (by decide +kernel) (by decide) (fun h14 => ?_) (fun h14 => ?_)
      · refine pw_blk (pc' := 24) [.aload 0, .getfield 402, .iload 1] (by decide +kernel) ?_
        show pw_V x m_X4_fewestFrom (3 + (f + 1)) Z 24 [(0, .ref 20), (1, .int (nI k)), (2, .int (nI us)), (3, .int (nI aw)), (4, .int (nI fd))] [.int (nI k), .int (mm 20 2)] mm
        rw [show mm 20 2 = nI th from hs.2.1.2.2]
        refine pw_cN (idx := 63) (vs := [.int (nI th), .int (nI k)]) (rest := []) (host := RX7) k_X7_has (c_has (nI th) (nI k) mm) (by decide +kernel) rfl (by omega) (Nat.le_of_ble_eq_true rfl) (by decide +kernel) ?_
        rintro _ m1 ⟨rfl, e1⟩
        rw [e1]
        clear e1 m1
        show pw_V x m_X4_fewestFrom (3 + (f + 1)) Z 27 [(0, .ref 20), (1, .int (nI k)), (2, .int (nI us)), (3, .int (nI aw)), (4, .int (nI fd))] [.int (pw_b (pw_hs (nI th) (nI k)))] mm
        rw [pw_hs_n (by omega) (by omega)]
        refine pw_ib_ne (tgt := 42) (off := 15) (by decide +kernel) (by decide) (fun h27 => ?_) (fun h27 => ?_)
        · refine pw_blk (pc' := 45) [.aload 0, .iload 1, .iload 2] (by decide +kernel) ?_
          show pw_V x m_X4_fewestFrom (3 + (f + 1)) Z 45 [(0, .ref 20), (1, .int (nI k)), (2, .int (nI us)), (3, .int (nI aw)), (4, .int (nI fd))] [.int (nI us), .int (nI k), .ref 20] mm
          refine pw_cV (vs := [.int (nI k), .int (nI us)]) (rest := []) k_X4_freeSeats (c_freeSeats k us pl mm hs (by omega) hp) l_4_66 rfl rfl rfl rfl (by omega) (Nat.le_of_ble_eq_true rfl) (by decide +kernel) ?_
          rintro _ m1 ⟨rfl, e1⟩
          rw [e1]
          clear e1 m1
          show pw_V x m_X4_fewestFrom (3 + (f + 1)) Z 48 [(0, .ref 20), (1, .int (nI k)), (2, .int (nI us)), (3, .int (nI aw)), (4, .int (nI fd))] [.int (nI (pw_frI n th (gd k) (en k) pl us k))] mm
          refine pw_blk (pc' := 50) [.istore 5] (by decide +kernel) ?_
          show pw_V x m_X4_fewestFrom (3 + (f + 1)) Z 50 [(5, .int (nI (pw_frI n th (gd k) (en k) pl us k))), (0, .ref 20), (1, .int (nI k)), (2, .int (nI us)), (3, .int (nI aw)), (4, .int (nI fd))] [] mm
          have bf : (pw_frI n th (gd k) (en k) pl us k) < 2 ^ n := pw_frI_lt (hs.2.2 k (by omega)).1.2
          have bf8 := pw_p8 bn bf
          refine pw_blk (pc' := 57) [.iload 4, .istore 6, .iconst 0, .istore 7] (by decide +kernel) ?_
          show pw_V x m_X4_fewestFrom (3 + (f + 1)) Z 57 [(7, .int (nI 0)), (6, .int (nI fd)), (5, .int (nI (pw_frI n th (gd k) (en k) pl us k))), (0, .ref 20), (1, .int (nI k)), (2, .int (nI us)), (3, .int (nI aw)), (4, .int (nI fd))] [] mm
          refine pw_lvp [3, 4, 5, 6, 7, 2, 1, 0] rfl ?_
          suffices loop : ∀ s : Nat, s ≤ n → ∀ m : pw_m, (∀ c, c ≠ 23 → m c = mm c) → (∀ j, j < k → m 23 j = mm 23 j) → pw_fo (fun s x => if (pw_frI n th (gd k) (en k) pl us k).testBit s = true then pw_fw n kn th gd en (mm 24) f (pw_ns pl k s) (us ||| 2 ^ s) (aw + if mm 24 k = nI s then 0 else 1) x else x) s fd ≤ fd → pw_V x m_X4_fewestFrom (3 + (f + 1)) Z 57 [(0, .ref 20), (1, .int (nI k)), (2, .int (nI us)), (3, .int (nI aw)), (4, .int (nI fd)), (5, .int (nI (pw_frI n th (gd k) (en k) pl us k))), (6, .int (nI (pw_fo (fun s x => if (pw_frI n th (gd k) (en k) pl us k).testBit s = true then pw_fw n kn th gd en (mm 24) f (pw_ns pl k s) (us ||| 2 ^ s) (aw + if mm 24 k = nI s then 0 else 1) x else x) s fd))), (7, .int (nI s))] [] m from loop 0 (by omega) mm (fun _ _ => rfl) (fun _ _ => rfl) (Nat.le_refl _)
          refine pw_dn n (fun s hsn ih2 m hm hpm hfo => ?_)
          have hsm := hs.c hm
          refine pw_blk (pc' := 63) [.iload 7, .aload 0, .getfield 400] (by decide +kernel) ?_
          show pw_V x m_X4_fewestFrom (3 + (f + 1)) Z 63 [(0, .ref 20), (1, .int (nI k)), (2, .int (nI us)), (3, .int (nI aw)), (4, .int (nI fd)), (5, .int (nI (pw_frI n th (gd k) (en k) pl us k))), (6, .int (nI (pw_fo (fun s x => if (pw_frI n th (gd k) (en k) pl us k).testBit s = true then pw_fw n kn th gd en (mm 24) f (pw_ns pl k s) (us ||| 2 ^ s) (aw + if mm 24 k = nI s then 0 else 1) x else x) s fd))), (7, .int (nI s))] [.int (m 20 0), .int (nI s)] m
          rw [show m 20 0 = nI n from hsm.2.1.1]
          refine pw_in_ge (tgt := 129) (off := 66) (by omega) (by omega) (by decide +kernel) (by decide) (fun h63 => ?_) (fun h63 => ?_)
          · refine pw_blk (pc' := 131) [.iload 6] (by decide +kernel) ?_
            show pw_V x m_X4_fewestFrom (3 + (f + 1)) Z 131 [(0, .ref 20), (1, .int (nI k)), (2, .int (nI us)), (3, .int (nI aw)), (4, .int (nI fd)), (5, .int (nI (pw_frI n th (gd k) (en k) pl us k))), (6, .int (nI (pw_fo (fun s x => if (pw_frI n th (gd k) (en k) pl us k).testBit s = true then pw_fw n kn th gd en (mm 24) f (pw_ns pl k s) (us ||| 2 ^ s) (aw + if mm 24 k = nI s then 0 else 1) x else x) s fd))), (7, .int (nI s))] [.int (nI (pw_fo (fun s x => if (pw_frI n th (gd k) (en k) pl us k).testBit s = true then pw_fw n kn th gd en (mm 24) f (pw_ns pl k s) (us ||| 2 ^ s) (aw + if mm 24 k = nI s then 0 else 1) x else x) s fd))] m
            rw [← hZ]
            refine pw_ri (by decide +kernel) ?_
            have e : s = n := by omega
            subst e
            exact ⟨by rw [pw_fwS hkf h3 h27], hm, hpm⟩
          · refine pw_blk (pc' := 70) [.iload 5, .iload 7] (by decide +kernel) ?_
            show pw_V x m_X4_fewestFrom (3 + (f + 1)) Z 70 [(0, .ref 20), (1, .int (nI k)), (2, .int (nI us)), (3, .int (nI aw)), (4, .int (nI fd)), (5, .int (nI (pw_frI n th (gd k) (en k) pl us k))), (6, .int (nI (pw_fo (fun s x => if (pw_frI n th (gd k) (en k) pl us k).testBit s = true then pw_fw n kn th gd en (mm 24) f (pw_ns pl k s) (us ||| 2 ^ s) (aw + if mm 24 k = nI s then 0 else 1) x else x) s fd))), (7, .int (nI s))] [.int (nI s), .int (nI (pw_frI n th (gd k) (en k) pl us k))] m
            refine pw_cN (idx := 63) (vs := [.int (nI (pw_frI n th (gd k) (en k) pl us k)), .int (nI s)]) (rest := []) (host := RX7) k_X7_has (c_has (nI (pw_frI n th (gd k) (en k) pl us k)) (nI s) m) (by decide +kernel) rfl (by omega) (Nat.le_of_ble_eq_true rfl) (by decide +kernel) ?_
            rintro _ m1 ⟨rfl, e1⟩
            rw [e1]
            clear e1 m1
            show pw_V x m_X4_fewestFrom (3 + (f + 1)) Z 73 [(0, .ref 20), (1, .int (nI k)), (2, .int (nI us)), (3, .int (nI aw)), (4, .int (nI fd)), (5, .int (nI (pw_frI n th (gd k) (en k) pl us k))), (6, .int (nI (pw_fo (fun s x => if (pw_frI n th (gd k) (en k) pl us k).testBit s = true then pw_fw n kn th gd en (mm 24) f (pw_ns pl k s) (us ||| 2 ^ s) (aw + if mm 24 k = nI s then 0 else 1) x else x) s fd))), (7, .int (nI s))] [.int (pw_b (pw_hs (nI (pw_frI n th (gd k) (en k) pl us k)) (nI s)))] m
            rw [pw_hs_n (by omega) (by omega)]
            refine pw_ib_eq (tgt := 123) (off := 50) (by decide +kernel) (by decide) (fun h73 => ?_) (fun h73 => ?_)
            · refine pw_blk (pc' := 126) [.iinc 7 1] (by decide +kernel) ?_
              show pw_V x m_X4_fewestFrom (3 + (f + 1)) Z 126 [(7, .int ((nI s) + (nI 1))), (0, .ref 20), (1, .int (nI k)), (2, .int (nI us)), (3, .int (nI aw)), (4, .int (nI fd)), (5, .int (nI (pw_frI n th (gd k) (en k) pl us k))), (6, .int (nI (pw_fo (fun s x => if (pw_frI n th (gd k) (en k) pl us k).testBit s = true then pw_fw n kn th gd en (mm 24) f (pw_ns pl k s) (us ||| 2 ^ s) (aw + if mm 24 k = nI s then 0 else 1) x else x) s fd)))] [] m
              rw [show (nI s) + (nI 1) = nI (s + 1) from nI_add _ _]
              refine pw_goto (tgt := 57) (off := -69) (by decide +kernel) (by decide) ?_
              rw [show pw_fo (fun s x => if (pw_frI n th (gd k) (en k) pl us k).testBit s = true then pw_fw n kn th gd en (mm 24) f (pw_ns pl k s) (us ||| 2 ^ s) (aw + if mm 24 k = nI s then 0 else 1) x else x) s fd = (pw_fo (fun s x => if (pw_frI n th (gd k) (en k) pl us k).testBit s = true then pw_fw n kn th gd en (mm 24) f (pw_ns pl k s) (us ||| 2 ^ s) (aw + if mm 24 k = nI s then 0 else 1) x else x) (s + 1) fd) from by simp [pw_fo, h73]]
              refine pw_lvp [1, 2, 3, 4, 5, 6, 7, 0] rfl ?_
              exact ih2 (by omega) m hm hpm (by simp only [pw_fo, h73]; exact hfo)
            · refine pw_blk (pc' := 92) [.aload 0, .getfield 405, .iload 1, .iload 7, .iastore, .aload 0, .getfield 406, .iload 1, .iaload, .iload 7] (by decide +kernel) ?_
              refine ⟨k, rfl, by omega, ?_⟩
              refine ⟨k, rfl, by omega, ?_⟩
              show pw_V x m_X4_fewestFrom (3 + (f + 1)) Z 92 [(0, .ref 20), (1, .int (nI k)), (2, .int (nI us)), (3, .int (nI aw)), (4, .int (nI fd)), (5, .int (nI (pw_frI n th (gd k) (en k) pl us k))), (6, .int (nI (pw_fo (fun s x => if (pw_frI n th (gd k) (en k) pl us k).testBit s = true then pw_fw n kn th gd en (mm 24) f (pw_ns pl k s) (us ||| 2 ^ s) (aw + if mm 24 k = nI s then 0 else 1) x else x) s fd))), (7, .int (nI s))] [.int (nI s), .int (m 24 k)] (pw_up m 23 k (nI s))
              rw [show m 24 k = mm 24 k from by rw [hm 24 (by omega)]]
              refine pw_ic_ne (tgt := 99) (off := 7) (by decide +kernel) (by decide) (fun h92 => ?_) (fun h92 => ?_)
              · refine pw_blk (pc' := 118) [.iconst 1, .istore 8, .aload 0, .iload 1, .iconst 1, .iadd, .iload 2, .iconst 1, .iload 7, .ishl, .ior, .iload 3, .iload 8, .iadd, .iload 6] (by decide +kernel) ?_
                show pw_V x m_X4_fewestFrom (3 + (f + 1)) Z 118 [(8, .int (nI 1)), (0, .ref 20), (1, .int (nI k)), (2, .int (nI us)), (3, .int (nI aw)), (4, .int (nI fd)), (5, .int (nI (pw_frI n th (gd k) (en k) pl us k))), (6, .int (nI (pw_fo (fun s x => if (pw_frI n th (gd k) (en k) pl us k).testBit s = true then pw_fw n kn th gd en (mm 24) f (pw_ns pl k s) (us ||| 2 ^ s) (aw + if mm 24 k = nI s then 0 else 1) x else x) s fd))), (7, .int (nI s))] [.int (nI (pw_fo (fun s x => if (pw_frI n th (gd k) (en k) pl us k).testBit s = true then pw_fw n kn th gd en (mm 24) f (pw_ns pl k s) (us ||| 2 ^ s) (aw + if mm 24 k = nI s then 0 else 1) x else x) s fd)), .int ((nI aw) + (nI 1)), .int ((nI us) ||| ((nI 1) <<< ((nI s) &&& 31))), .int ((nI k) + (nI 1)), .ref 20] (pw_up m 23 k (nI s))
                rw [show (nI aw) + (nI 1) = nI (aw + 1) from nI_add _ _]
                rw [show (nI 1) <<< ((nI s) &&& 31) = nI (2 ^ s) from pw_shl1 (by omega)]
                rw [show (nI us) ||| (nI (2 ^ s)) = nI (us ||| (2 ^ s)) from fa_or _ _]
                rw [show (nI k) + (nI 1) = nI (k + 1) from nI_add _ _]
                refine pw_cV (vs := [.int (nI (k + 1)), .int (nI (us ||| (2 ^ s))), .int (nI (aw + 1)), .int (nI (pw_fo (fun s x => if (pw_frI n th (gd k) (en k) pl us k).testBit s = true then pw_fw n kn th gd en (mm 24) f (pw_ns pl k s) (us ||| 2 ^ s) (aw + if mm 24 k = nI s then 0 else 1) x else x) s fd))]) (rest := []) k_X4_fewestFrom (ih (k + 1) (by omega) (pw_ns pl k s) (us ||| 2 ^ s) (aw + 1) (pw_fo (fun s x => if (pw_frI n th (gd k) (en k) pl us k).testBit s = true then pw_fw n kn th gd en (mm 24) f (pw_ns pl k s) (us ||| 2 ^ s) (aw + if mm 24 k = nI s then 0 else 1) x else x) s fd) (pw_up m 23 k (nI s)) (hsm.c (fun c hc => pw_up_ne hc)) ((hp.c hpm).put (by omega)) (by omega)) l_4_32 rfl rfl rfl rfl (by omega) (Nat.le_of_ble_eq_true rfl) (by decide +kernel) ?_
                rintro _ m1 ⟨rfl, e1, e2⟩
                show pw_V x m_X4_fewestFrom (3 + (f + 1)) Z 121 [(8, .int (nI 1)), (0, .ref 20), (1, .int (nI k)), (2, .int (nI us)), (3, .int (nI aw)), (4, .int (nI fd)), (5, .int (nI (pw_frI n th (gd k) (en k) pl us k))), (6, .int (nI (pw_fo (fun s x => if (pw_frI n th (gd k) (en k) pl us k).testBit s = true then pw_fw n kn th gd en (mm 24) f (pw_ns pl k s) (us ||| 2 ^ s) (aw + if mm 24 k = nI s then 0 else 1) x else x) s fd))), (7, .int (nI s))] [.int (nI (pw_fw n kn th gd en (pw_up m 23 k (nI s) 24) f (pw_ns pl k s) (us ||| (2 ^ s)) (aw + 1) (pw_fo (fun s x => if (pw_frI n th (gd k) (en k) pl us k).testBit s = true then pw_fw n kn th gd en (mm 24) f (pw_ns pl k s) (us ||| 2 ^ s) (aw + if mm 24 k = nI s then 0 else 1) x else x) s fd)))] m1
                refine pw_blk (pc' := 126) [.istore 6, .iinc 7 1] (by decide +kernel) ?_
                show pw_V x m_X4_fewestFrom (3 + (f + 1)) Z 126 [(7, .int ((nI s) + (nI 1))), (6, .int (nI (pw_fw n kn th gd en (pw_up m 23 k (nI s) 24) f (pw_ns pl k s) (us ||| (2 ^ s)) (aw + 1) (pw_fo (fun s x => if (pw_frI n th (gd k) (en k) pl us k).testBit s = true then pw_fw n kn th gd en (mm 24) f (pw_ns pl k s) (us ||| 2 ^ s) (aw + if mm 24 k = nI s then 0 else 1) x else x) s fd)))), (8, .int (nI 1)), (0, .ref 20), (1, .int (nI k)), (2, .int (nI us)), (3, .int (nI aw)), (4, .int (nI fd)), (5, .int (nI (pw_frI n th (gd k) (en k) pl us k)))] [] m1
                rw [show (nI s) + (nI 1) = nI (s + 1) from nI_add _ _]
                refine pw_goto (tgt := 57) (off := -69) (by decide +kernel) (by decide) ?_
                have e9 : (pw_fw n kn th gd en (pw_up m 23 k (nI s) 24) f (pw_ns pl k s) (us ||| (2 ^ s)) (aw + 1) (pw_fo (fun s x => if (pw_frI n th (gd k) (en k) pl us k).testBit s = true then pw_fw n kn th gd en (mm 24) f (pw_ns pl k s) (us ||| 2 ^ s) (aw + if mm 24 k = nI s then 0 else 1) x else x) s fd)) = (pw_fo (fun s x => if (pw_frI n th (gd k) (en k) pl us k).testBit s = true then pw_fw n kn th gd en (mm 24) f (pw_ns pl k s) (us ||| 2 ^ s) (aw + if mm 24 k = nI s then 0 else 1) x else x) (s + 1) fd) := by rw [pw_up_ne (by omega), hm 24 (by omega)]; simp [pw_fo, h73, h92]
                rw [e9]
                refine pw_lvp [3, 4, 5, 6, 7, 8, 1, 0] rfl ?_
                exact ih2 (by omega) m1 (fun c hc => by rw [e1 c hc, pw_up_ne hc]; exact hm c hc) (fun j hj => by rw [e2 j (by omega), pw_up_eq]; unfold upd; rw [if_neg (by omega)]; exact hpm j hj) (by rw [← e9]; exact Nat.le_trans (pw_fwb _ _ _ _ _) hfo)
              · refine pw_blk (pc' := 96) [.iconst 0] (by decide +kernel) ?_
                show pw_V x m_X4_fewestFrom (3 + (f + 1)) Z 96 [(0, .ref 20), (1, .int (nI k)), (2, .int (nI us)), (3, .int (nI aw)), (4, .int (nI fd)), (5, .int (nI (pw_frI n th (gd k) (en k) pl us k))), (6, .int (nI (pw_fo (fun s x => if (pw_frI n th (gd k) (en k) pl us k).testBit s = true then pw_fw n kn th gd en (mm 24) f (pw_ns pl k s) (us ||| 2 ^ s) (aw + if mm 24 k = nI s then 0 else 1) x else x) s fd))), (7, .int (nI s))] [.int (nI 0)] (pw_up m 23 k (nI s))
                refine pw_goto (tgt := 100) (off := 4) (by decide +kernel) (by decide) ?_
                refine pw_blk (pc' := 118) [.istore 8, .aload 0, .iload 1, .iconst 1, .iadd, .iload 2, .iconst 1, .iload 7, .ishl, .ior, .iload 3, .iload 8, .iadd, .iload 6] (by decide +kernel) ?_
                show pw_V x m_X4_fewestFrom (3 + (f + 1)) Z 118 [(8, .int (nI 0)), (0, .ref 20), (1, .int (nI k)), (2, .int (nI us)), (3, .int (nI aw)), (4, .int (nI fd)), (5, .int (nI (pw_frI n th (gd k) (en k) pl us k))), (6, .int (nI (pw_fo (fun s x => if (pw_frI n th (gd k) (en k) pl us k).testBit s = true then pw_fw n kn th gd en (mm 24) f (pw_ns pl k s) (us ||| 2 ^ s) (aw + if mm 24 k = nI s then 0 else 1) x else x) s fd))), (7, .int (nI s))] [.int (nI (pw_fo (fun s x => if (pw_frI n th (gd k) (en k) pl us k).testBit s = true then pw_fw n kn th gd en (mm 24) f (pw_ns pl k s) (us ||| 2 ^ s) (aw + if mm 24 k = nI s then 0 else 1) x else x) s fd)), .int ((nI aw) + (nI 0)), .int ((nI us) ||| ((nI 1) <<< ((nI s) &&& 31))), .int ((nI k) + (nI 1)), .ref 20] (pw_up m 23 k (nI s))
                rw [show (nI aw) + (nI 0) = nI (aw + 0) from nI_add _ _]
                rw [show (nI 1) <<< ((nI s) &&& 31) = nI (2 ^ s) from pw_shl1 (by omega)]
                rw [show (nI us) ||| (nI (2 ^ s)) = nI (us ||| (2 ^ s)) from fa_or _ _]
                rw [show (nI k) + (nI 1) = nI (k + 1) from nI_add _ _]
                refine pw_cV (vs := [.int (nI (k + 1)), .int (nI (us ||| (2 ^ s))), .int (nI (aw + 0)), .int (nI (pw_fo (fun s x => if (pw_frI n th (gd k) (en k) pl us k).testBit s = true then pw_fw n kn th gd en (mm 24) f (pw_ns pl k s) (us ||| 2 ^ s) (aw + if mm 24 k = nI s then 0 else 1) x else x) s fd))]) (rest := []) k_X4_fewestFrom (ih (k + 1) (by omega) (pw_ns pl k s) (us ||| 2 ^ s) (aw + 0) (pw_fo (fun s x => if (pw_frI n th (gd k) (en k) pl us k).testBit s = true then pw_fw n kn th gd en (mm 24) f (pw_ns pl k s) (us ||| 2 ^ s) (aw + if mm 24 k = nI s then 0 else 1) x else x) s fd) (pw_up m 23 k (nI s)) (hsm.c (fun c hc => pw_up_ne hc)) ((hp.c hpm).put (by omega)) (by omega)) l_4_32 rfl rfl rfl rfl (by omega) (Nat.le_of_ble_eq_true rfl) (by decide +kernel) ?_
                rintro _ m1 ⟨rfl, e1, e2⟩
                show pw_V x m_X4_fewestFrom (3 + (f + 1)) Z 121 [(8, .int (nI 0)), (0, .ref 20), (1, .int (nI k)), (2, .int (nI us)), (3, .int (nI aw)), (4, .int (nI fd)), (5, .int (nI (pw_frI n th (gd k) (en k) pl us k))), (6, .int (nI (pw_fo (fun s x => if (pw_frI n th (gd k) (en k) pl us k).testBit s = true then pw_fw n kn th gd en (mm 24) f (pw_ns pl k s) (us ||| 2 ^ s) (aw + if mm 24 k = nI s then 0 else 1) x else x) s fd))), (7, .int (nI s))] [.int (nI (pw_fw n kn th gd en (pw_up m 23 k (nI s) 24) f (pw_ns pl k s) (us ||| (2 ^ s)) (aw + 0) (pw_fo (fun s x => if (pw_frI n th (gd k) (en k) pl us k).testBit s = true then pw_fw n kn th gd en (mm 24) f (pw_ns pl k s) (us ||| 2 ^ s) (aw + if mm 24 k = nI s then 0 else 1) x else x) s fd)))] m1
                refine pw_blk (pc' := 126) [.istore 6, .iinc 7 1] (by decide +kernel) ?_
                show pw_V x m_X4_fewestFrom (3 + (f + 1)) Z 126 [(7, .int ((nI s) + (nI 1))), (6, .int (nI (pw_fw n kn th gd en (pw_up m 23 k (nI s) 24) f (pw_ns pl k s) (us ||| (2 ^ s)) (aw + 0) (pw_fo (fun s x => if (pw_frI n th (gd k) (en k) pl us k).testBit s = true then pw_fw n kn th gd en (mm 24) f (pw_ns pl k s) (us ||| 2 ^ s) (aw + if mm 24 k = nI s then 0 else 1) x else x) s fd)))), (8, .int (nI 0)), (0, .ref 20), (1, .int (nI k)), (2, .int (nI us)), (3, .int (nI aw)), (4, .int (nI fd)), (5, .int (nI (pw_frI n th (gd k) (en k) pl us k)))] [] m1
                rw [show (nI s) + (nI 1) = nI (s + 1) from nI_add _ _]
                refine pw_goto (tgt := 57) (off := -69) (by decide +kernel) (by decide) ?_
                have e9 : (pw_fw n kn th gd en (pw_up m 23 k (nI s) 24) f (pw_ns pl k s) (us ||| (2 ^ s)) (aw + 0) (pw_fo (fun s x => if (pw_frI n th (gd k) (en k) pl us k).testBit s = true then pw_fw n kn th gd en (mm 24) f (pw_ns pl k s) (us ||| 2 ^ s) (aw + if mm 24 k = nI s then 0 else 1) x else x) s fd)) = (pw_fo (fun s x => if (pw_frI n th (gd k) (en k) pl us k).testBit s = true then pw_fw n kn th gd en (mm 24) f (pw_ns pl k s) (us ||| 2 ^ s) (aw + if mm 24 k = nI s then 0 else 1) x else x) (s + 1) fd) := by rw [pw_up_ne (by omega), hm 24 (by omega)]; simp [pw_fo, h73, h92]
                rw [e9]
                refine pw_lvp [3, 4, 5, 6, 7, 8, 1, 0] rfl ?_
                exact ih2 (by omega) m1 (fun c hc => by rw [e1 c hc, pw_up_ne hc]; exact hm c hc) (fun j hj => by rw [e2 j (by omega), pw_up_eq]; unfold upd; rw [if_neg (by omega)]; exact hpm j hj) (by rw [← e9]; exact Nat.le_trans (pw_fwb _ _ _ _ _) hfo)
        · refine pw_blk (pc' := 38) [.aload 0, .iload 1, .iconst 1, .iadd, .iload 2, .iload 3, .iload 4] (by decide +kernel) ?_
          show pw_V x m_X4_fewestFrom (3 + (f + 1)) Z 38 [(0, .ref 20), (1, .int (nI k)), (2, .int (nI us)), (3, .int (nI aw)), (4, .int (nI fd))] [.int (nI fd), .int (nI aw), .int (nI us), .int ((nI k) + (nI 1)), .ref 20] mm
          rw [show (nI k) + (nI 1) = nI (k + 1) from nI_add _ _]
          refine pw_cV (vs := [.int (nI (k + 1)), .int (nI us), .int (nI aw), .int (nI fd)]) (rest := []) k_X4_fewestFrom (ih (k + 1) (by omega) pl us aw fd mm hs (hp.skip h27) ⟨by omega, hb.2⟩) l_4_32 rfl rfl rfl rfl (by omega) (Nat.le_of_ble_eq_true rfl) (by decide +kernel) ?_
          rintro _ m1 ⟨rfl, e1, e2⟩
          show pw_V x m_X4_fewestFrom (3 + (f + 1)) Z 41 [(0, .ref 20), (1, .int (nI k)), (2, .int (nI us)), (3, .int (nI aw)), (4, .int (nI fd))] [.int (nI (pw_fw n kn th gd en (mm 24) f pl us aw fd))] m1
          rw [← hZ]
          refine pw_ri (by decide +kernel) ?_
          exact ⟨by rw [pw_fwN hkf h3 h27], e1, fun j hj => e2 j (by omega)⟩
      · omega
    · refine pw_blk (pc' := 8) [.iload 4] (by decide +kernel) ?_
      show pw_V x m_X4_fewestFrom (3 + (f + 1)) Z 8 [(0, .ref 20), (1, .int (nI k)), (2, .int (nI us)), (3, .int (nI aw)), (4, .int (nI fd))] [.int (nI fd)] mm
      rw [← hZ]
      refine pw_ri (by decide +kernel) ?_
      exact ⟨by rw [pw_fwL h3], fun _ _ => rfl, fun _ _ => rfl⟩
end
section
/-- who knows afterwards: of those who sit, who knew, and who sits ahead of one who knew -/
def pw_hr (n kw : Nat) : Nat := kw / 2 ^ 1 ||| (if kw.testBit 0 = true then 2 ^ (n - 1) else 0)
def pw_ka (n us kw : Nat) : Nat := pw_pc (us &&& (kw ||| pw_hr n kw))
def pw_ge (q : Option Nat) (mc : Nat) : Bool := match q with
  | none => false
  | some a => decide (mc ≤ a)
def pw_mo (n kn th : Nat) (gd en : Nat → Nat) (kb mc : Nat) : Nat → (Nat → Nat) → Nat → Nat → Option Nat → Option Nat
  | 0, _, us, kw, q => if pw_ge q mc = true then q else some (max (q.getD 0) (pw_ka n us kw))
  | f + 1, pl, us, kw, q => if pw_ge q mc = true then q else if th.testBit (kn - (f + 1)) = true then pw_fo (fun s x => if (pw_frI n th (gd (kn - (f + 1))) (en (kn - (f + 1))) pl us (kn - (f + 1))).testBit s = true then pw_mo n kn th gd en kb mc f (pw_ns pl (kn - (f + 1)) s) (us ||| 2 ^ s) (kw ||| (if kb.testBit (kn - (f + 1)) = true then 2 ^ s else 0)) x else x) n q else pw_mo n kn th gd en kb mc f pl us kw q
theorem pw_moS {n kn th f k kb mc : Nat} {gd en pl : Nat → Nat} {us kw : Nat} {q : Option Nat} (hk : k + (f + 1) = kn) (hq : pw_ge q mc = false) (ht : th.testBit k = true) : pw_mo n kn th gd en kb mc (f + 1) pl us kw q = pw_fo (fun s x => if (pw_frI n th (gd k) (en k) pl us k).testBit s = true then pw_mo n kn th gd en kb mc f (pw_ns pl k s) (us ||| 2 ^ s) (kw ||| (if kb.testBit k = true then 2 ^ s else 0)) x else x) n q := by
  have e : kn - (f + 1) = k := by omega
  simp only [pw_mo, e, if_pos ht, hq]
  rfl
theorem pw_moN {n kn th f k kb mc : Nat} {gd en pl : Nat → Nat} {us kw : Nat} {q : Option Nat} (hk : k + (f + 1) = kn) (hq : pw_ge q mc = false) (ht : th.testBit k = false) : pw_mo n kn th gd en kb mc (f + 1) pl us kw q = pw_mo n kn th gd en kb mc f pl us kw q := by
  have e : kn - (f + 1) = k := by omega
  simp only [pw_mo, e, ht, hq]
  rfl
theorem pw_moL {n kn th f kb mc : Nat} {gd en pl : Nat → Nat} {us kw : Nat} {q : Option Nat} (hq : pw_ge q mc = true) : pw_mo n kn th gd en kb mc f pl us kw q = q := by
  cases f <;> simp [pw_mo, hq]
theorem pw_mob {n kn th kb mc : Nat} {gd en : Nat → Nat} : ∀ (f : Nat) (pl : Nat → Nat) (us kw : Nat) (q : Option Nat), (∀ a, q = some a → a ≤ 8) → ∀ a, pw_mo n kn th gd en kb mc f pl us kw q = some a → a ≤ 8 := by
  intro f
  induction f with
  | zero =>
    intro pl us kw q hq a ha
    unfold pw_mo at ha
    split at ha
    · exact hq a ha
    · cases ha
      have h1 : pw_ka n us kw ≤ 8 := pw_pc_le _
      have h2 : q.getD 0 ≤ 8 := by
        cases q with
        | none => exact Nat.zero_le _
        | some b => exact hq b rfl
      omega
  | succ f ih =>
    intro pl us kw q hq a ha
    unfold pw_mo at ha
    split at ha
    · exact hq a ha
    · split at ha
      · have key : ∀ s a, pw_fo (fun s x => if (pw_frI n th (gd (kn - (f + 1))) (en (kn - (f + 1))) pl us (kn - (f + 1))).testBit s = true then pw_mo n kn th gd en kb mc f (pw_ns pl (kn - (f + 1)) s) (us ||| 2 ^ s) (kw ||| (if kb.testBit (kn - (f + 1)) = true then 2 ^ s else 0)) x else x) s q = some a → a ≤ 8 := by
          intro s
          induction s with
          | zero => intro a ha; exact hq a ha
          | succ s is =>
            intro a ha
            simp only [pw_fo] at ha
            split at ha
            · exact ih _ _ _ _ is a ha
            · exact is a ha
        exact key n a ha
      · exact ih _ _ _ _ hq a ha
theorem pw_maxm {a : Nat} (h : a < 2 ^ 31) : pw_max (-1) (nI a) = nI a := by
  unfold pw_max
  rw [if_pos (pw_m1_lt h)]
theorem pw_tb0 {n kw : Nat} (h : kw < 2 ^ n) (ht : kw.testBit 0 = true) : 1 ≤ n := by
  rcases Nat.eq_zero_or_pos n with q | q
  · subst q
    have : kw = 0 := by simpa using h
    subst this
    simp at ht
  · exact q
theorem pw_orn {n a s : Nat} (h : a < 2 ^ n) (hs : s < n) : a ||| 2 ^ s < 2 ^ n := Nat.or_lt_two_pow h (Nat.pow_lt_pow_right (by omega) hs)
theorem pw_and8 {n a b : Nat} (hn : n ≤ 8) (h : a < 2 ^ n) : a &&& b < 256 := Nat.lt_of_le_of_lt Nat.and_le_left (pw_p8 hn h)

set_option maxHeartbeats 4000000 in
set_option maxRecDepth 100000 in
theorem c_knowAfterwards (us kw : Nat) (mm : pw_m) {n kn th : Nat} {gd en : Nat → Nat} (hs : pw_SC mm n kn th gd en) (hus : us < 2 ^ n) (hkw : kw < 2 ^ n) : pw_Ct 1 yX4_knowAfterwards m_X4_knowAfterwards [.ref 20, .int (nI us), .int (nI kw)] mm (fun r m' => r = some (.int (nI (pw_ka n us kw))) ∧ m' = mm) := by
  refine pw_ct (by decide +kernel) rfl (Nat.le_of_ble_eq_true rfl) (fun x => ?_)
  generalize hZ : pw_Z x _ = Z
  obtain ⟨bn, bk, bt⟩ := hs.1
  have bu := pw_p8 bn hus
  have bw := pw_p8 bn hkw
  show pw_V x m_X4_knowAfterwards 1 Z 0 [(0, .ref 20), (1, .int (nI us)), (2, .int (nI kw))] [] mm
  refine pw_blk (pc' := 6) [.iload 2, .iconst 1, .ishr, .istore 3, .iload 2, .iconst 0] (by decide +kernel) ?_
  show pw_V x m_X4_knowAfterwards 1 Z 6 [(3, .int ((nI kw) >>> ((nI 1) &&& 31))), (0, .ref 20), (1, .int (nI us)), (2, .int (nI kw))] [.int (nI 0), .int (nI kw)] mm
  rw [show (nI kw) >>> ((nI 1) &&& 31) = nI (kw / 2 ^ 1) from pw_shr (by omega) (by omega)]
  refine pw_cN (idx := 63) (vs := [.int (nI kw), .int (nI 0)]) (rest := []) (host := RX7) k_X7_has (c_has (nI kw) (nI 0) mm) (by decide +kernel) rfl (by decide) (Nat.le_of_ble_eq_true rfl) (by decide +kernel) ?_
  rintro _ m1 ⟨rfl, e1⟩
  rw [e1]
  clear e1 m1
  show pw_V x m_X4_knowAfterwards 1 Z 9 [(3, .int (nI (kw / 2 ^ 1))), (0, .ref 20), (1, .int (nI us)), (2, .int (nI kw))] [.int (pw_b (pw_hs (nI kw) (nI 0)))] mm
  rw [pw_hs_n (by omega) (by omega)]
  refine pw_ib_eq (tgt := 23) (off := 14) (by decide +kernel) (by decide) (fun h9 => ?_) (fun h9 => ?_)
  · refine pw_blk (pc' := 28) [.iload 1, .iload 2, .iload 3, .ior, .iand] (by decide +kernel) ?_
    show pw_V x m_X4_knowAfterwards 1 Z 28 [(3, .int (nI (kw / 2 ^ 1))), (0, .ref 20), (1, .int (nI us)), (2, .int (nI kw))] [.int ((nI us) &&& ((nI kw) ||| (nI (kw / 2 ^ 1))))] mm
    rw [show (nI kw) ||| (nI (kw / 2 ^ 1)) = nI (kw ||| (kw / 2 ^ 1)) from fa_or _ _]
    rw [show (nI us) &&& (nI (kw ||| (kw / 2 ^ 1))) = nI (us &&& (kw ||| (kw / 2 ^ 1))) from fa_and _ _]
    refine pw_cS (vs := [.int (nI (us &&& (kw ||| (kw / 2 ^ 1))))]) (rest := []) k_J6_bitCount_0f7a4 (c_bitCount (nI (us &&& (kw ||| (kw / 2 ^ 1)))) mm) l_4_43 rfl (by decide) (Nat.le_of_ble_eq_true rfl) (by decide +kernel) ?_
    rintro _ m1 ⟨rfl, e1⟩
    rw [e1]
    clear e1 m1
    show pw_V x m_X4_knowAfterwards 1 Z 31 [(3, .int (nI (kw / 2 ^ 1))), (0, .ref 20), (1, .int (nI us)), (2, .int (nI kw))] [.int (pw_bc (nI (us &&& (kw ||| (kw / 2 ^ 1)))))] mm
    rw [pw_bcN _ (pw_and8 bn hus)]
    rw [← hZ]
    refine pw_ri (by decide +kernel) ?_
    refine ⟨?_, rfl⟩
    simp [pw_ka, pw_hr, h9]
  · refine pw_blk (pc' := 19) [.iload 3, .iconst 1, .aload 0, .getfield 400, .iconst 1] (by decide +kernel) ?_
    show pw_V x m_X4_knowAfterwards 1 Z 19 [(3, .int (nI (kw / 2 ^ 1))), (0, .ref 20), (1, .int (nI us)), (2, .int (nI kw))] [.int (nI 1), .int (mm 20 0), .int (nI 1), .int (nI (kw / 2 ^ 1))] mm
    rw [show mm 20 0 = nI n from hs.2.1.1]
    have n1 := pw_tb0 hkw h9
    refine pw_blk (pc' := 20) [.isub] (by decide +kernel) ?_
    show pw_V x m_X4_knowAfterwards 1 Z 20 [(3, .int (nI (kw / 2 ^ 1))), (0, .ref 20), (1, .int (nI us)), (2, .int (nI kw))] [.int (nI n - nI 1), .int (nI 1), .int (nI (kw / 2 ^ 1))] mm
    rw [pk_sub (show 1 ≤ n by omega)]
    refine pw_blk (pc' := 28) [.ishl, .ior, .istore 3, .iload 1, .iload 2, .iload 3, .ior, .iand] (by decide +kernel) ?_
    show pw_V x m_X4_knowAfterwards 1 Z 28 [(3, .int ((nI (kw / 2 ^ 1)) ||| ((nI 1) <<< ((nI (n - 1)) &&& 31)))), (0, .ref 20), (1, .int (nI us)), (2, .int (nI kw))] [.int ((nI us) &&& ((nI kw) ||| ((nI (kw / 2 ^ 1)) ||| ((nI 1) <<< ((nI (n - 1)) &&& 31)))))] mm
    rw [show (nI 1) <<< ((nI (n - 1)) &&& 31) = nI (2 ^ (n - 1)) from pw_shl1 (by omega)]
    rw [show (nI (kw / 2 ^ 1)) ||| (nI (2 ^ (n - 1))) = nI ((kw / 2 ^ 1) ||| (2 ^ (n - 1))) from fa_or _ _]
    rw [show (nI kw) ||| (nI ((kw / 2 ^ 1) ||| (2 ^ (n - 1)))) = nI (kw ||| ((kw / 2 ^ 1) ||| (2 ^ (n - 1)))) from fa_or _ _]
    rw [show (nI us) &&& (nI (kw ||| ((kw / 2 ^ 1) ||| (2 ^ (n - 1))))) = nI (us &&& (kw ||| ((kw / 2 ^ 1) ||| (2 ^ (n - 1))))) from fa_and _ _]
    refine pw_cS (vs := [.int (nI (us &&& (kw ||| ((kw / 2 ^ 1) ||| (2 ^ (n - 1))))))]) (rest := []) k_J6_bitCount_0f7a4 (c_bitCount (nI (us &&& (kw ||| ((kw / 2 ^ 1) ||| (2 ^ (n - 1)))))) mm) l_4_43 rfl (by decide) (Nat.le_of_ble_eq_true rfl) (by decide +kernel) ?_
    rintro _ m1 ⟨rfl, e1⟩
    rw [e1]
    clear e1 m1
    show pw_V x m_X4_knowAfterwards 1 Z 31 [(3, .int (nI ((kw / 2 ^ 1) ||| (2 ^ (n - 1))))), (0, .ref 20), (1, .int (nI us)), (2, .int (nI kw))] [.int (pw_bc (nI (us &&& (kw ||| ((kw / 2 ^ 1) ||| (2 ^ (n - 1)))))))] mm
    rw [pw_bcN _ (pw_and8 bn hus)]
    rw [← hZ]
    refine pw_ri (by decide +kernel) ?_
    refine ⟨?_, rfl⟩
    simp [pw_ka, pw_hr, h9]

set_option maxHeartbeats 8000000 in
set_option maxRecDepth 100000 in
theorem c_mostFrom {n kn th : Nat} {gd en : Nat → Nat} {kb mc : Nat} (hkb : kb < 64) (hmc : mc < 100) : ∀ (f k : Nat), k + f = kn → ∀ (pl : Nat → Nat) (us kw : Nat) (q : Option Nat) (mm : pw_m), pw_SC mm n kn th gd en → pw_PL mm n th pl k → mm 20 7 = nI kb → mm 20 8 = nI mc → us < 2 ^ n ∧ kw < 2 ^ n ∧ (∀ a, q = some a → a ≤ 8) → pw_Ct (3 + f) yX4_mostFrom m_X4_mostFrom [.ref 20, .int (nI k), .int (nI us), .int (nI kw), .int (pw_o (q))] mm (fun r m' => r = some (.int (pw_o (pw_mo n kn th gd en kb mc f pl us kw q))) ∧ (∀ c, c ≠ 23 → m' c = mm c) ∧ ∀ j, j < k → m' 23 j = mm 23 j) := by
  intro f
  induction f with
  | zero =>
    intro k hkf pl us kw q mm hs hp hb7 hb8 hb
    obtain ⟨bn, bk, bt⟩ := hs.1
    refine pw_ct (by decide +kernel) rfl (Nat.le_of_ble_eq_true rfl) (fun x => ?_)
    generalize hZ : pw_Z x _ = Z
    have bka : pw_ka n us kw ≤ 8 := pw_pc_le _
    have bkb : kb < 64 := hkb
    have bmc : mc < 100 := hmc
    show pw_V x m_X4_mostFrom (3 + 0) Z 0 [(0, .ref 20), (1, .int (nI k)), (2, .int (nI us)), (3, .int (nI kw)), (4, .int (pw_o (q)))] [] mm
    refine pw_blk (pc' := 6) [.iload 4, .aload 0, .getfield 408] (by decide +kernel) ?_
    show pw_V x m_X4_mostFrom (3 + 0) Z 6 [(0, .ref 20), (1, .int (nI k)), (2, .int (nI us)), (3, .int (nI kw)), (4, .int (pw_o (q)))] [.int (mm 20 8), .int (pw_o (q))] mm
    rw [show mm 20 8 = nI mc from hb8]
    rcases h6o : q with _ | s6
    · show pw_V x m_X4_mostFrom (3 + 0) Z 6 [(0, .ref 20), (1, .int (nI k)), (2, .int (nI us)), (3, .int (nI kw)), (4, .int (-1))] [.int (nI mc), .int (-1)] mm
      refine pw_ic_lt (tgt := 12) (off := 6) (by decide +kernel) (by decide) (fun _ => ?_) (fun h => absurd (pw_m1_lt (by omega)) h)
      refine pw_blk (pc' := 17) [.iload 1, .aload 0, .getfield 401] (by decide +kernel) ?_
      show pw_V x m_X4_mostFrom (3 + 0) Z 17 [(0, .ref 20), (1, .int (nI k)), (2, .int (nI us)), (3, .int (nI kw)), (4, .int (-1))] [.int (mm 20 1), .int (nI k)] mm
      rw [show mm 20 1 = nI kn from hs.2.1.2.1]
      refine pw_in_lt (tgt := 32) (off := 15) (by omega) (by omega) (by decide +kernel) (by decide) (fun h17 => ?_) (fun h17 => ?_)
      · omega
      · refine pw_blk (pc' := 25) [.iload 4, .aload 0, .iload 2, .iload 3] (by decide +kernel) ?_
        show pw_V x m_X4_mostFrom (3 + 0) Z 25 [(0, .ref 20), (1, .int (nI k)), (2, .int (nI us)), (3, .int (nI kw)), (4, .int (-1))] [.int (nI kw), .int (nI us), .ref 20, .int (-1)] mm
        refine pw_cV (vs := [.int (nI us), .int (nI kw)]) (rest := [.int (-1)]) k_X4_knowAfterwards (c_knowAfterwards us kw mm hs hb.1 hb.2.1) l_4_72 rfl rfl rfl rfl (by omega) (Nat.le_of_ble_eq_true rfl) (by decide +kernel) ?_
        rintro _ m1 ⟨rfl, e1⟩
        rw [e1]
        clear e1 m1
        show pw_V x m_X4_mostFrom (3 + 0) Z 28 [(0, .ref 20), (1, .int (nI k)), (2, .int (nI us)), (3, .int (nI kw)), (4, .int (-1))] [.int (nI (pw_ka n us kw)), .int (-1)] mm
        refine pw_cMax l_4_75 (by omega) (Nat.le_of_ble_eq_true rfl) (by decide +kernel) ?_
        show pw_V x m_X4_mostFrom (3 + 0) Z 31 [(0, .ref 20), (1, .int (nI k)), (2, .int (nI us)), (3, .int (nI kw)), (4, .int (-1))] [.int (pw_max (-1) (nI (pw_ka n us kw)))] mm
        rw [pw_maxm (by omega)]
        rw [← hZ]
        refine pw_ri (by decide +kernel) ?_
        subst h6o
        refine ⟨?_, fun _ _ => rfl, fun _ _ => rfl⟩
        simp [pw_mo, pw_ge, pw_o]
    · show pw_V x m_X4_mostFrom (3 + 0) Z 6 [(0, .ref 20), (1, .int (nI k)), (2, .int (nI us)), (3, .int (nI kw)), (4, .int (nI s6))] [.int (nI mc), .int (nI s6)] mm
      have b6 := hb.2.2 _ h6o
      refine pw_in_lt (tgt := 12) (off := 6) (by omega) (by omega) (by decide +kernel) (by decide) (fun h6 => ?_) (fun h6 => ?_)
      · refine pw_blk (pc' := 17) [.iload 1, .aload 0, .getfield 401] (by decide +kernel) ?_
        show pw_V x m_X4_mostFrom (3 + 0) Z 17 [(0, .ref 20), (1, .int (nI k)), (2, .int (nI us)), (3, .int (nI kw)), (4, .int (nI s6))] [.int (mm 20 1), .int (nI k)] mm
        rw [show mm 20 1 = nI kn from hs.2.1.2.1]
        refine pw_in_lt (tgt := 32) (off := 15) (by omega) (by omega) (by decide +kernel) (by decide) (fun h17 => ?_) (fun h17 => ?_)
        · omega
        · refine pw_blk (pc' := 25) [.iload 4, .aload 0, .iload 2, .iload 3] (by decide +kernel) ?_
          show pw_V x m_X4_mostFrom (3 + 0) Z 25 [(0, .ref 20), (1, .int (nI k)), (2, .int (nI us)), (3, .int (nI kw)), (4, .int (nI s6))] [.int (nI kw), .int (nI us), .ref 20, .int (nI s6)] mm
          refine pw_cV (vs := [.int (nI us), .int (nI kw)]) (rest := [.int (nI s6)]) k_X4_knowAfterwards (c_knowAfterwards us kw mm hs hb.1 hb.2.1) l_4_72 rfl rfl rfl rfl (by omega) (Nat.le_of_ble_eq_true rfl) (by decide +kernel) ?_
          rintro _ m1 ⟨rfl, e1⟩
          rw [e1]
          clear e1 m1
          show pw_V x m_X4_mostFrom (3 + 0) Z 28 [(0, .ref 20), (1, .int (nI k)), (2, .int (nI us)), (3, .int (nI kw)), (4, .int (nI s6))] [.int (nI (pw_ka n us kw)), .int (nI s6)] mm
          refine pw_cMax l_4_75 (by omega) (Nat.le_of_ble_eq_true rfl) (by decide +kernel) ?_
          show pw_V x m_X4_mostFrom (3 + 0) Z 31 [(0, .ref 20), (1, .int (nI k)), (2, .int (nI us)), (3, .int (nI kw)), (4, .int (nI s6))] [.int (pw_max (nI s6) (nI (pw_ka n us kw)))] mm
          rw [pw_maxN (by omega) (by omega)]
          rw [← hZ]
          refine pw_ri (by decide +kernel) ?_
          subst h6o
          refine ⟨?_, fun _ _ => rfl, fun _ _ => rfl⟩
          simp [pw_mo, pw_ge, h6, pw_o, Nat.not_le.mpr h6]
      · refine pw_blk (pc' := 11) [.iload 4] (by decide +kernel) ?_
        show pw_V x m_X4_mostFrom (3 + 0) Z 11 [(0, .ref 20), (1, .int (nI k)), (2, .int (nI us)), (3, .int (nI kw)), (4, .int (nI s6))] [.int (nI s6)] mm
        rw [← hZ]
        refine pw_ri (by decide +kernel) ?_
        subst h6o
        exact ⟨by rw [pw_moL (by simp [pw_ge, h6])]; rfl, fun _ _ => rfl, fun _ _ => rfl⟩
  | succ f ih =>
    intro k hkf pl us kw q mm hs hp hb7 hb8 hb
    obtain ⟨bn, bk, bt⟩ := hs.1
    refine pw_ct (by decide +kernel) rfl (Nat.le_of_ble_eq_true rfl) (fun x => ?_)
    generalize hZ : pw_Z x _ = Z
    have bkb : kb < 64 := hkb
    have bmc : mc < 100 := hmc
    show pw_V x m_X4_mostFrom (3 + (f + 1)) Z 0 [(0, .ref 20), (1, .int (nI k)), (2, .int (nI us)), (3, .int (nI kw)), (4, .int (pw_o (q)))] [] mm
    refine pw_blk (pc' := 6) [.iload 4, .aload 0, .getfield 408] (by decide +kernel) ?_
    show pw_V x m_X4_mostFrom (3 + (f + 1)) Z 6 [(0, .ref 20), (1, .int (nI k)), (2, .int (nI us)), (3, .int (nI kw)), (4, .int (pw_o (q)))] [.int (mm 20 8), .int (pw_o (q))] mm
    rw [show mm 20 8 = nI mc from hb8]
    rcases h6o : q with _ | s6
    · show pw_V x m_X4_mostFrom (3 + (f + 1)) Z 6 [(0, .ref 20), (1, .int (nI k)), (2, .int (nI us)), (3, .int (nI kw)), (4, .int (-1))] [.int (nI mc), .int (-1)] mm
      refine pw_ic_lt (tgt := 12) (off := 6) (by decide +kernel) (by decide) (fun _ => ?_) (fun h => absurd (pw_m1_lt (by omega)) h)
      refine pw_blk (pc' := 17) [.iload 1, .aload 0, .getfield 401] (by decide +kernel) ?_
      show pw_V x m_X4_mostFrom (3 + (f + 1)) Z 17 [(0, .ref 20), (1, .int (nI k)), (2, .int (nI us)), (3, .int (nI kw)), (4, .int (-1))] [.int (mm 20 1), .int (nI k)] mm
      rw [show mm 20 1 = nI kn from hs.2.1.2.1]
      refine pw_in_lt (tgt := 32) (off := 15) (by omega) (by omega) (by decide +kernel) (by decide) (fun h17 => ?_) (fun h17 => ?_)
      · refine pw_blk (pc' := 37) [.aload 0, .getfield 402, .iload 1] (by decide +kernel) ?_
        show pw_V x m_X4_mostFrom (3 + (f + 1)) Z 37 [(0, .ref 20), (1, .int (nI k)), (2, .int (nI us)), (3, .int (nI kw)), (4, .int (-1))] [.int (nI k), .int (mm 20 2)] mm
        rw [show mm 20 2 = nI th from hs.2.1.2.2]
        refine pw_cN (idx := 63) (vs := [.int (nI th), .int (nI k)]) (rest := []) (host := RX7) k_X7_has (c_has (nI th) (nI k) mm) (by decide +kernel) rfl (by omega) (Nat.le_of_ble_eq_true rfl) (by decide +kernel) ?_
        rintro _ m1 ⟨rfl, e1⟩
        rw [e1]
        clear e1 m1
        show pw_V x m_X4_mostFrom (3 + (f + 1)) Z 40 [(0, .ref 20), (1, .int (nI k)), (2, .int (nI us)), (3, .int (nI kw)), (4, .int (-1))] [.int (pw_b (pw_hs (nI th) (nI k)))] mm
        rw [pw_hs_n (by omega) (by omega)]
        refine pw_ib_ne (tgt := 55) (off := 15) (by decide +kernel) (by decide) (fun h40 => ?_) (fun h40 => ?_)
        · refine pw_blk (pc' := 58) [.aload 0, .iload 1, .iload 2] (by decide +kernel) ?_
          show pw_V x m_X4_mostFrom (3 + (f + 1)) Z 58 [(0, .ref 20), (1, .int (nI k)), (2, .int (nI us)), (3, .int (nI kw)), (4, .int (-1))] [.int (nI us), .int (nI k), .ref 20] mm
          refine pw_cV (vs := [.int (nI k), .int (nI us)]) (rest := []) k_X4_freeSeats (c_freeSeats k us pl mm hs (by omega) hp) l_4_66 rfl rfl rfl rfl (by omega) (Nat.le_of_ble_eq_true rfl) (by decide +kernel) ?_
          rintro _ m1 ⟨rfl, e1⟩
          rw [e1]
          clear e1 m1
          show pw_V x m_X4_mostFrom (3 + (f + 1)) Z 61 [(0, .ref 20), (1, .int (nI k)), (2, .int (nI us)), (3, .int (nI kw)), (4, .int (-1))] [.int (nI (pw_frI n th (gd k) (en k) pl us k))] mm
          refine pw_blk (pc' := 63) [.istore 5] (by decide +kernel) ?_
          show pw_V x m_X4_mostFrom (3 + (f + 1)) Z 63 [(5, .int (nI (pw_frI n th (gd k) (en k) pl us k))), (0, .ref 20), (1, .int (nI k)), (2, .int (nI us)), (3, .int (nI kw)), (4, .int (-1))] [] mm
          have bf : (pw_frI n th (gd k) (en k) pl us k) < 2 ^ n := pw_frI_lt (hs.2.2 k (by omega)).1.2
          have bf8 := pw_p8 bn bf
          refine pw_blk (pc' := 70) [.iload 4, .istore 6, .iconst 0, .istore 7] (by decide +kernel) ?_
          show pw_V x m_X4_mostFrom (3 + (f + 1)) Z 70 [(7, .int (nI 0)), (6, .int (-1)), (5, .int (nI (pw_frI n th (gd k) (en k) pl us k))), (0, .ref 20), (1, .int (nI k)), (2, .int (nI us)), (3, .int (nI kw)), (4, .int (-1))] [] mm
          refine pw_lvp [3, 4, 5, 6, 7, 2, 1, 0] rfl ?_
          suffices loop : ∀ s : Nat, s ≤ n → ∀ m : pw_m, (∀ c, c ≠ 23 → m c = mm c) → (∀ j, j < k → m 23 j = mm 23 j) → (∀ a, pw_fo (fun s x => if (pw_frI n th (gd k) (en k) pl us k).testBit s = true then pw_mo n kn th gd en kb mc f (pw_ns pl k s) (us ||| 2 ^ s) (kw ||| (if kb.testBit k = true then 2 ^ s else 0)) x else x) s none = some a → a ≤ 8) → pw_V x m_X4_mostFrom (3 + (f + 1)) Z 70 [(0, .ref 20), (1, .int (nI k)), (2, .int (nI us)), (3, .int (nI kw)), (4, .int (-1)), (5, .int (nI (pw_frI n th (gd k) (en k) pl us k))), (6, .int (pw_o ((pw_fo (fun s x => if (pw_frI n th (gd k) (en k) pl us k).testBit s = true then pw_mo n kn th gd en kb mc f (pw_ns pl k s) (us ||| 2 ^ s) (kw ||| (if kb.testBit k = true then 2 ^ s else 0)) x else x) s none)))), (7, .int (nI s))] [] m from loop 0 (by omega) mm (fun _ _ => rfl) (fun _ _ => rfl) (fun a ha => by cases ha)
          refine pw_dn n (fun s hsn ih2 m hm hpm hfo => ?_)
          have hsm := hs.c hm
          refine pw_blk (pc' := 76) [.iload 7, .aload 0, .getfield 400] (by decide +kernel) ?_
          show pw_V x m_X4_mostFrom (3 + (f + 1)) Z 76 [(0, .ref 20), (1, .int (nI k)), (2, .int (nI us)), (3, .int (nI kw)), (4, .int (-1)), (5, .int (nI (pw_frI n th (gd k) (en k) pl us k))), (6, .int (pw_o ((pw_fo (fun s x => if (pw_frI n th (gd k) (en k) pl us k).testBit s = true then pw_mo n kn th gd en kb mc f (pw_ns pl k s) (us ||| 2 ^ s) (kw ||| (if kb.testBit k = true then 2 ^ s else 0)) x else x) s none)))), (7, .int (nI s))] [.int (m 20 0), .int (nI s)] m
          rw [show m 20 0 = nI n from hsm.2.1.1]
          refine pw_in_ge (tgt := 145) (off := 69) (by omega) (by omega) (by decide +kernel) (by decide) (fun h76 => ?_) (fun h76 => ?_)
          · refine pw_blk (pc' := 147) [.iload 6] (by decide +kernel) ?_
            show pw_V x m_X4_mostFrom (3 + (f + 1)) Z 147 [(0, .ref 20), (1, .int (nI k)), (2, .int (nI us)), (3, .int (nI kw)), (4, .int (-1)), (5, .int (nI (pw_frI n th (gd k) (en k) pl us k))), (6, .int (pw_o ((pw_fo (fun s x => if (pw_frI n th (gd k) (en k) pl us k).testBit s = true then pw_mo n kn th gd en kb mc f (pw_ns pl k s) (us ||| 2 ^ s) (kw ||| (if kb.testBit k = true then 2 ^ s else 0)) x else x) s none)))), (7, .int (nI s))] [.int (pw_o ((pw_fo (fun s x => if (pw_frI n th (gd k) (en k) pl us k).testBit s = true then pw_mo n kn th gd en kb mc f (pw_ns pl k s) (us ||| 2 ^ s) (kw ||| (if kb.testBit k = true then 2 ^ s else 0)) x else x) s none)))] m
            rw [← hZ]
            refine pw_ri (by decide +kernel) ?_
            have e : s = n := by omega
            subst e
            subst h6o
            exact ⟨by rw [pw_moS hkf (show pw_ge none mc = false from rfl) h40], hm, hpm⟩
          · refine pw_blk (pc' := 83) [.iload 5, .iload 7] (by decide +kernel) ?_
            show pw_V x m_X4_mostFrom (3 + (f + 1)) Z 83 [(0, .ref 20), (1, .int (nI k)), (2, .int (nI us)), (3, .int (nI kw)), (4, .int (-1)), (5, .int (nI (pw_frI n th (gd k) (en k) pl us k))), (6, .int (pw_o ((pw_fo (fun s x => if (pw_frI n th (gd k) (en k) pl us k).testBit s = true then pw_mo n kn th gd en kb mc f (pw_ns pl k s) (us ||| 2 ^ s) (kw ||| (if kb.testBit k = true then 2 ^ s else 0)) x else x) s none)))), (7, .int (nI s))] [.int (nI s), .int (nI (pw_frI n th (gd k) (en k) pl us k))] m
            refine pw_cN (idx := 63) (vs := [.int (nI (pw_frI n th (gd k) (en k) pl us k)), .int (nI s)]) (rest := []) (host := RX7) k_X7_has (c_has (nI (pw_frI n th (gd k) (en k) pl us k)) (nI s) m) (by decide +kernel) rfl (by omega) (Nat.le_of_ble_eq_true rfl) (by decide +kernel) ?_
            rintro _ m1 ⟨rfl, e1⟩
            rw [e1]
            clear e1 m1
            show pw_V x m_X4_mostFrom (3 + (f + 1)) Z 86 [(0, .ref 20), (1, .int (nI k)), (2, .int (nI us)), (3, .int (nI kw)), (4, .int (-1)), (5, .int (nI (pw_frI n th (gd k) (en k) pl us k))), (6, .int (pw_o ((pw_fo (fun s x => if (pw_frI n th (gd k) (en k) pl us k).testBit s = true then pw_mo n kn th gd en kb mc f (pw_ns pl k s) (us ||| 2 ^ s) (kw ||| (if kb.testBit k = true then 2 ^ s else 0)) x else x) s none)))), (7, .int (nI s))] [.int (pw_b (pw_hs (nI (pw_frI n th (gd k) (en k) pl us k)) (nI s)))] m
            rw [pw_hs_n (by omega) (by omega)]
            refine pw_ib_eq (tgt := 139) (off := 53) (by decide +kernel) (by decide) (fun h86 => ?_) (fun h86 => ?_)
            · refine pw_blk (pc' := 142) [.iinc 7 1] (by decide +kernel) ?_
              show pw_V x m_X4_mostFrom (3 + (f + 1)) Z 142 [(7, .int ((nI s) + (nI 1))), (0, .ref 20), (1, .int (nI k)), (2, .int (nI us)), (3, .int (nI kw)), (4, .int (-1)), (5, .int (nI (pw_frI n th (gd k) (en k) pl us k))), (6, .int (pw_o ((pw_fo (fun s x => if (pw_frI n th (gd k) (en k) pl us k).testBit s = true then pw_mo n kn th gd en kb mc f (pw_ns pl k s) (us ||| 2 ^ s) (kw ||| (if kb.testBit k = true then 2 ^ s else 0)) x else x) s none))))] [] m
              rw [show (nI s) + (nI 1) = nI (s + 1) from nI_add _ _]
              refine pw_goto (tgt := 70) (off := -72) (by decide +kernel) (by decide) ?_
              have e9 : pw_fo (fun s x => if (pw_frI n th (gd k) (en k) pl us k).testBit s = true then pw_mo n kn th gd en kb mc f (pw_ns pl k s) (us ||| 2 ^ s) (kw ||| (if kb.testBit k = true then 2 ^ s else 0)) x else x) s none = (pw_fo (fun s x => if (pw_frI n th (gd k) (en k) pl us k).testBit s = true then pw_mo n kn th gd en kb mc f (pw_ns pl k s) (us ||| 2 ^ s) (kw ||| (if kb.testBit k = true then 2 ^ s else 0)) x else x) (s + 1) none) := by simp [pw_fo, h86]
              rw [e9]
              refine pw_lvp [1, 2, 3, 4, 5, 6, 7, 0] rfl ?_
              exact ih2 (by omega) m hm hpm (by rw [← e9]; exact hfo)
            · refine pw_blk (pc' := 102) [.aload 0, .getfield 405, .iload 1, .iload 7, .iastore, .aload 0, .getfield 407, .iload 1] (by decide +kernel) ?_
              refine ⟨k, rfl, by omega, ?_⟩
              show pw_V x m_X4_mostFrom (3 + (f + 1)) Z 102 [(0, .ref 20), (1, .int (nI k)), (2, .int (nI us)), (3, .int (nI kw)), (4, .int (-1)), (5, .int (nI (pw_frI n th (gd k) (en k) pl us k))), (6, .int (pw_o ((pw_fo (fun s x => if (pw_frI n th (gd k) (en k) pl us k).testBit s = true then pw_mo n kn th gd en kb mc f (pw_ns pl k s) (us ||| 2 ^ s) (kw ||| (if kb.testBit k = true then 2 ^ s else 0)) x else x) s none)))), (7, .int (nI s))] [.int (nI k), .int (m 20 7)] (pw_up m 23 k (nI s))
              rw [show m 20 7 = nI kb from (by rw [hm 20 (by omega)]; exact hb7)]
              refine pw_cN (idx := 63) (vs := [.int (nI kb), .int (nI k)]) (rest := []) (host := RX7) k_X7_has (c_has (nI kb) (nI k) (pw_up m 23 k (nI s))) (by decide +kernel) rfl (by omega) (Nat.le_of_ble_eq_true rfl) (by decide +kernel) ?_
              rintro _ m1 ⟨rfl, e1⟩
              rw [e1]
              clear e1 m1
              show pw_V x m_X4_mostFrom (3 + (f + 1)) Z 105 [(0, .ref 20), (1, .int (nI k)), (2, .int (nI us)), (3, .int (nI kw)), (4, .int (-1)), (5, .int (nI (pw_frI n th (gd k) (en k) pl us k))), (6, .int (pw_o ((pw_fo (fun s x => if (pw_frI n th (gd k) (en k) pl us k).testBit s = true then pw_mo n kn th gd en kb mc f (pw_ns pl k s) (us ||| 2 ^ s) (kw ||| (if kb.testBit k = true then 2 ^ s else 0)) x else x) s none)))), (7, .int (nI s))] [.int (pw_b (pw_hs (nI kb) (nI k)))] (pw_up m 23 k (nI s))
              rw [pw_hs_n (by omega) (by omega)]
              refine pw_ib_eq (tgt := 115) (off := 10) (by decide +kernel) (by decide) (fun h105 => ?_) (fun h105 => ?_)
              · refine pw_blk (pc' := 134) [.iconst 0, .istore 8, .aload 0, .iload 1, .iconst 1, .iadd, .iload 2, .iconst 1, .iload 7, .ishl, .ior, .iload 3, .iload 8, .ior, .iload 6] (by decide +kernel) ?_
                show pw_V x m_X4_mostFrom (3 + (f + 1)) Z 134 [(8, .int (nI 0)), (0, .ref 20), (1, .int (nI k)), (2, .int (nI us)), (3, .int (nI kw)), (4, .int (-1)), (5, .int (nI (pw_frI n th (gd k) (en k) pl us k))), (6, .int (pw_o ((pw_fo (fun s x => if (pw_frI n th (gd k) (en k) pl us k).testBit s = true then pw_mo n kn th gd en kb mc f (pw_ns pl k s) (us ||| 2 ^ s) (kw ||| (if kb.testBit k = true then 2 ^ s else 0)) x else x) s none)))), (7, .int (nI s))] [.int (pw_o ((pw_fo (fun s x => if (pw_frI n th (gd k) (en k) pl us k).testBit s = true then pw_mo n kn th gd en kb mc f (pw_ns pl k s) (us ||| 2 ^ s) (kw ||| (if kb.testBit k = true then 2 ^ s else 0)) x else x) s none))), .int ((nI kw) ||| (nI 0)), .int ((nI us) ||| ((nI 1) <<< ((nI s) &&& 31))), .int ((nI k) + (nI 1)), .ref 20] (pw_up m 23 k (nI s))
                rw [show (nI kw) ||| (nI 0) = nI (kw ||| 0) from fa_or _ _]
                rw [show (nI 1) <<< ((nI s) &&& 31) = nI (2 ^ s) from pw_shl1 (by omega)]
                rw [show (nI us) ||| (nI (2 ^ s)) = nI (us ||| (2 ^ s)) from fa_or _ _]
                rw [show (nI k) + (nI 1) = nI (k + 1) from nI_add _ _]
                refine pw_cV (vs := [.int (nI (k + 1)), .int (nI (us ||| (2 ^ s))), .int (nI (kw ||| 0)), .int (pw_o ((pw_fo (fun s x => if (pw_frI n th (gd k) (en k) pl us k).testBit s = true then pw_mo n kn th gd en kb mc f (pw_ns pl k s) (us ||| 2 ^ s) (kw ||| (if kb.testBit k = true then 2 ^ s else 0)) x else x) s none)))]) (rest := []) k_X4_mostFrom (ih (k + 1) (by omega) (pw_ns pl k s) (us ||| 2 ^ s) (kw ||| 0) (pw_fo (fun s x => if (pw_frI n th (gd k) (en k) pl us k).testBit s = true then pw_mo n kn th gd en kb mc f (pw_ns pl k s) (us ||| 2 ^ s) (kw ||| (if kb.testBit k = true then 2 ^ s else 0)) x else x) s none) (pw_up m 23 k (nI s)) (hsm.c (fun c hc => pw_up_ne hc)) ((hp.c hpm).put (by omega)) (by rw [pw_up_ne (by omega), hm 20 (by omega)]; exact hb7) (by rw [pw_up_ne (by omega), hm 20 (by omega)]; exact hb8) ⟨pw_orn hb.1 (by omega), by rw [Nat.or_zero]; exact hb.2.1, hfo⟩) l_4_57 rfl rfl rfl rfl (by omega) (Nat.le_of_ble_eq_true rfl) (by decide +kernel) ?_
                rintro _ m1 ⟨rfl, e1, e2⟩
                show pw_V x m_X4_mostFrom (3 + (f + 1)) Z 137 [(8, .int (nI 0)), (0, .ref 20), (1, .int (nI k)), (2, .int (nI us)), (3, .int (nI kw)), (4, .int (-1)), (5, .int (nI (pw_frI n th (gd k) (en k) pl us k))), (6, .int (pw_o ((pw_fo (fun s x => if (pw_frI n th (gd k) (en k) pl us k).testBit s = true then pw_mo n kn th gd en kb mc f (pw_ns pl k s) (us ||| 2 ^ s) (kw ||| (if kb.testBit k = true then 2 ^ s else 0)) x else x) s none)))), (7, .int (nI s))] [.int (pw_o ((pw_mo n kn th gd en kb mc f (pw_ns pl k s) (us ||| (2 ^ s)) (kw ||| 0) (pw_fo (fun s x => if (pw_frI n th (gd k) (en k) pl us k).testBit s = true then pw_mo n kn th gd en kb mc f (pw_ns pl k s) (us ||| 2 ^ s) (kw ||| (if kb.testBit k = true then 2 ^ s else 0)) x else x) s none))))] m1
                refine pw_blk (pc' := 142) [.istore 6, .iinc 7 1] (by decide +kernel) ?_
                show pw_V x m_X4_mostFrom (3 + (f + 1)) Z 142 [(7, .int ((nI s) + (nI 1))), (6, .int (pw_o ((pw_mo n kn th gd en kb mc f (pw_ns pl k s) (us ||| (2 ^ s)) (kw ||| 0) (pw_fo (fun s x => if (pw_frI n th (gd k) (en k) pl us k).testBit s = true then pw_mo n kn th gd en kb mc f (pw_ns pl k s) (us ||| 2 ^ s) (kw ||| (if kb.testBit k = true then 2 ^ s else 0)) x else x) s none))))), (8, .int (nI 0)), (0, .ref 20), (1, .int (nI k)), (2, .int (nI us)), (3, .int (nI kw)), (4, .int (-1)), (5, .int (nI (pw_frI n th (gd k) (en k) pl us k)))] [] m1
                rw [show (nI s) + (nI 1) = nI (s + 1) from nI_add _ _]
                refine pw_goto (tgt := 70) (off := -72) (by decide +kernel) (by decide) ?_
                have e9 : (pw_mo n kn th gd en kb mc f (pw_ns pl k s) (us ||| (2 ^ s)) (kw ||| 0) (pw_fo (fun s x => if (pw_frI n th (gd k) (en k) pl us k).testBit s = true then pw_mo n kn th gd en kb mc f (pw_ns pl k s) (us ||| 2 ^ s) (kw ||| (if kb.testBit k = true then 2 ^ s else 0)) x else x) s none)) = (pw_fo (fun s x => if (pw_frI n th (gd k) (en k) pl us k).testBit s = true then pw_mo n kn th gd en kb mc f (pw_ns pl k s) (us ||| 2 ^ s) (kw ||| (if kb.testBit k = true then 2 ^ s else 0)) x else x) (s + 1) none) := by simp [pw_fo, h86, h105]
                rw [e9]
                refine pw_lvp [3, 4, 5, 6, 7, 8, 1, 0] rfl ?_
                exact ih2 (by omega) m1 (fun c hc => by rw [e1 c hc, pw_up_ne hc]; exact hm c hc) (fun j hj => by rw [e2 j (by omega), pw_up_eq]; unfold upd; rw [if_neg (by omega)]; exact hpm j hj) (by rw [← e9]; exact pw_mob _ _ _ _ _ hfo)
              · refine pw_blk (pc' := 112) [.iconst 1, .iload 7, .ishl] (by decide +kernel) ?_
                show pw_V x m_X4_mostFrom (3 + (f + 1)) Z 112 [(0, .ref 20), (1, .int (nI k)), (2, .int (nI us)), (3, .int (nI kw)), (4, .int (-1)), (5, .int (nI (pw_frI n th (gd k) (en k) pl us k))), (6, .int (pw_o ((pw_fo (fun s x => if (pw_frI n th (gd k) (en k) pl us k).testBit s = true then pw_mo n kn th gd en kb mc f (pw_ns pl k s) (us ||| 2 ^ s) (kw ||| (if kb.testBit k = true then 2 ^ s else 0)) x else x) s none)))), (7, .int (nI s))] [.int ((nI 1) <<< ((nI s) &&& 31))] (pw_up m 23 k (nI s))
                rw [show (nI 1) <<< ((nI s) &&& 31) = nI (2 ^ s) from pw_shl1 (by omega)]
                refine pw_goto (tgt := 116) (off := 4) (by decide +kernel) (by decide) ?_
                refine pw_blk (pc' := 134) [.istore 8, .aload 0, .iload 1, .iconst 1, .iadd, .iload 2, .iconst 1, .iload 7, .ishl, .ior, .iload 3, .iload 8, .ior, .iload 6] (by decide +kernel) ?_
                show pw_V x m_X4_mostFrom (3 + (f + 1)) Z 134 [(8, .int (nI (2 ^ s))), (0, .ref 20), (1, .int (nI k)), (2, .int (nI us)), (3, .int (nI kw)), (4, .int (-1)), (5, .int (nI (pw_frI n th (gd k) (en k) pl us k))), (6, .int (pw_o ((pw_fo (fun s x => if (pw_frI n th (gd k) (en k) pl us k).testBit s = true then pw_mo n kn th gd en kb mc f (pw_ns pl k s) (us ||| 2 ^ s) (kw ||| (if kb.testBit k = true then 2 ^ s else 0)) x else x) s none)))), (7, .int (nI s))] [.int (pw_o ((pw_fo (fun s x => if (pw_frI n th (gd k) (en k) pl us k).testBit s = true then pw_mo n kn th gd en kb mc f (pw_ns pl k s) (us ||| 2 ^ s) (kw ||| (if kb.testBit k = true then 2 ^ s else 0)) x else x) s none))), .int ((nI kw) ||| (nI (2 ^ s))), .int ((nI us) ||| ((nI 1) <<< ((nI s) &&& 31))), .int ((nI k) + (nI 1)), .ref 20] (pw_up m 23 k (nI s))
                rw [show (nI kw) ||| (nI (2 ^ s)) = nI (kw ||| (2 ^ s)) from fa_or _ _]
                rw [show (nI 1) <<< ((nI s) &&& 31) = nI (2 ^ s) from pw_shl1 (by omega)]
                rw [show (nI us) ||| (nI (2 ^ s)) = nI (us ||| (2 ^ s)) from fa_or _ _]
                rw [show (nI k) + (nI 1) = nI (k + 1) from nI_add _ _]
                refine pw_cV (vs := [.int (nI (k + 1)), .int (nI (us ||| (2 ^ s))), .int (nI (kw ||| (2 ^ s))), .int (pw_o ((pw_fo (fun s x => if (pw_frI n th (gd k) (en k) pl us k).testBit s = true then pw_mo n kn th gd en kb mc f (pw_ns pl k s) (us ||| 2 ^ s) (kw ||| (if kb.testBit k = true then 2 ^ s else 0)) x else x) s none)))]) (rest := []) k_X4_mostFrom (ih (k + 1) (by omega) (pw_ns pl k s) (us ||| 2 ^ s) (kw ||| (2 ^ s)) (pw_fo (fun s x => if (pw_frI n th (gd k) (en k) pl us k).testBit s = true then pw_mo n kn th gd en kb mc f (pw_ns pl k s) (us ||| 2 ^ s) (kw ||| (if kb.testBit k = true then 2 ^ s else 0)) x else x) s none) (pw_up m 23 k (nI s)) (hsm.c (fun c hc => pw_up_ne hc)) ((hp.c hpm).put (by omega)) (by rw [pw_up_ne (by omega), hm 20 (by omega)]; exact hb7) (by rw [pw_up_ne (by omega), hm 20 (by omega)]; exact hb8) ⟨pw_orn hb.1 (by omega), pw_orn hb.2.1 (by omega), hfo⟩) l_4_57 rfl rfl rfl rfl (by omega) (Nat.le_of_ble_eq_true rfl) (by decide +kernel) ?_
                rintro _ m1 ⟨rfl, e1, e2⟩
                show pw_V x m_X4_mostFrom (3 + (f + 1)) Z 137 [(8, .int (nI (2 ^ s))), (0, .ref 20), (1, .int (nI k)), (2, .int (nI us)), (3, .int (nI kw)), (4, .int (-1)), (5, .int (nI (pw_frI n th (gd k) (en k) pl us k))), (6, .int (pw_o ((pw_fo (fun s x => if (pw_frI n th (gd k) (en k) pl us k).testBit s = true then pw_mo n kn th gd en kb mc f (pw_ns pl k s) (us ||| 2 ^ s) (kw ||| (if kb.testBit k = true then 2 ^ s else 0)) x else x) s none)))), (7, .int (nI s))] [.int (pw_o ((pw_mo n kn th gd en kb mc f (pw_ns pl k s) (us ||| (2 ^ s)) (kw ||| (2 ^ s)) (pw_fo (fun s x => if (pw_frI n th (gd k) (en k) pl us k).testBit s = true then pw_mo n kn th gd en kb mc f (pw_ns pl k s) (us ||| 2 ^ s) (kw ||| (if kb.testBit k = true then 2 ^ s else 0)) x else x) s none))))] m1
                refine pw_blk (pc' := 142) [.istore 6, .iinc 7 1] (by decide +kernel) ?_
                show pw_V x m_X4_mostFrom (3 + (f + 1)) Z 142 [(7, .int ((nI s) + (nI 1))), (6, .int (pw_o ((pw_mo n kn th gd en kb mc f (pw_ns pl k s) (us ||| (2 ^ s)) (kw ||| (2 ^ s)) (pw_fo (fun s x => if (pw_frI n th (gd k) (en k) pl us k).testBit s = true then pw_mo n kn th gd en kb mc f (pw_ns pl k s) (us ||| 2 ^ s) (kw ||| (if kb.testBit k = true then 2 ^ s else 0)) x else x) s none))))), (8, .int (nI (2 ^ s))), (0, .ref 20), (1, .int (nI k)), (2, .int (nI us)), (3, .int (nI kw)), (4, .int (-1)), (5, .int (nI (pw_frI n th (gd k) (en k) pl us k)))] [] m1
                rw [show (nI s) + (nI 1) = nI (s + 1) from nI_add _ _]
                refine pw_goto (tgt := 70) (off := -72) (by decide +kernel) (by decide) ?_
                have e9 : (pw_mo n kn th gd en kb mc f (pw_ns pl k s) (us ||| (2 ^ s)) (kw ||| (2 ^ s)) (pw_fo (fun s x => if (pw_frI n th (gd k) (en k) pl us k).testBit s = true then pw_mo n kn th gd en kb mc f (pw_ns pl k s) (us ||| 2 ^ s) (kw ||| (if kb.testBit k = true then 2 ^ s else 0)) x else x) s none)) = (pw_fo (fun s x => if (pw_frI n th (gd k) (en k) pl us k).testBit s = true then pw_mo n kn th gd en kb mc f (pw_ns pl k s) (us ||| 2 ^ s) (kw ||| (if kb.testBit k = true then 2 ^ s else 0)) x else x) (s + 1) none) := by simp [pw_fo, h86, h105]
                rw [e9]
                refine pw_lvp [3, 4, 5, 6, 7, 8, 1, 0] rfl ?_
                exact ih2 (by omega) m1 (fun c hc => by rw [e1 c hc, pw_up_ne hc]; exact hm c hc) (fun j hj => by rw [e2 j (by omega), pw_up_eq]; unfold upd; rw [if_neg (by omega)]; exact hpm j hj) (by rw [← e9]; exact pw_mob _ _ _ _ _ hfo)
        · refine pw_blk (pc' := 51) [.aload 0, .iload 1, .iconst 1, .iadd, .iload 2, .iload 3, .iload 4] (by decide +kernel) ?_
          show pw_V x m_X4_mostFrom (3 + (f + 1)) Z 51 [(0, .ref 20), (1, .int (nI k)), (2, .int (nI us)), (3, .int (nI kw)), (4, .int (-1))] [.int (-1), .int (nI kw), .int (nI us), .int ((nI k) + (nI 1)), .ref 20] mm
          rw [show (nI k) + (nI 1) = nI (k + 1) from nI_add _ _]
          refine pw_cV (vs := [.int (nI (k + 1)), .int (nI us), .int (nI kw), .int (-1)]) (rest := []) k_X4_mostFrom (ih (k + 1) (by omega) pl us kw none mm hs (hp.skip h40) hb7 hb8 ⟨hb.1, hb.2.1, fun a ha => by cases ha⟩) l_4_57 rfl rfl rfl rfl (by omega) (Nat.le_of_ble_eq_true rfl) (by decide +kernel) ?_
          rintro _ m1 ⟨rfl, e1, e2⟩
          show pw_V x m_X4_mostFrom (3 + (f + 1)) Z 54 [(0, .ref 20), (1, .int (nI k)), (2, .int (nI us)), (3, .int (nI kw)), (4, .int (-1))] [.int (pw_o ((pw_mo n kn th gd en kb mc f pl us kw none)))] m1
          rw [← hZ]
          refine pw_ri (by decide +kernel) ?_
          subst h6o
          exact ⟨by rw [pw_moN hkf (show pw_ge none mc = false from rfl) h40], e1, fun j hj => e2 j (by omega)⟩
      · omega
    · show pw_V x m_X4_mostFrom (3 + (f + 1)) Z 6 [(0, .ref 20), (1, .int (nI k)), (2, .int (nI us)), (3, .int (nI kw)), (4, .int (nI s6))] [.int (nI mc), .int (nI s6)] mm
      have b6 := hb.2.2 _ h6o
      refine pw_in_lt (tgt := 12) (off := 6) (by omega) (by omega) (by decide +kernel) (by decide) (fun h6 => ?_) (fun h6 => ?_)
      · refine pw_blk (pc' := 17) [.iload 1, .aload 0, .getfield 401] (by decide +kernel) ?_
        show pw_V x m_X4_mostFrom (3 + (f + 1)) Z 17 [(0, .ref 20), (1, .int (nI k)), (2, .int (nI us)), (3, .int (nI kw)), (4, .int (nI s6))] [.int (mm 20 1), .int (nI k)] mm
        rw [show mm 20 1 = nI kn from hs.2.1.2.1]
        refine pw_in_lt (tgt := 32) (off := 15) (by omega) (by omega) (by decide +kernel) (by decide) (fun h17 => ?_) (fun h17 => ?_)
        · refine pw_blk (pc' := 37) [.aload 0, .getfield 402, .iload 1] (by decide +kernel) ?_
          show pw_V x m_X4_mostFrom (3 + (f + 1)) Z 37 [(0, .ref 20), (1, .int (nI k)), (2, .int (nI us)), (3, .int (nI kw)), (4, .int (nI s6))] [.int (nI k), .int (mm 20 2)] mm
          rw [show mm 20 2 = nI th from hs.2.1.2.2]
          refine pw_cN (idx := 63) (vs := [.int (nI th), .int (nI k)]) (rest := []) (host := RX7) k_X7_has (c_has (nI th) (nI k) mm) (by decide +kernel) rfl (by omega) (Nat.le_of_ble_eq_true rfl) (by decide +kernel) ?_
          rintro _ m1 ⟨rfl, e1⟩
          rw [e1]
          clear e1 m1
          show pw_V x m_X4_mostFrom (3 + (f + 1)) Z 40 [(0, .ref 20), (1, .int (nI k)), (2, .int (nI us)), (3, .int (nI kw)), (4, .int (nI s6))] [.int (pw_b (pw_hs (nI th) (nI k)))] mm
          rw [pw_hs_n (by omega) (by omega)]
          refine pw_ib_ne (tgt := 55) (off := 15) (by decide +kernel) (by decide) (fun h40 => ?_) (fun h40 => ?_)
          · refine pw_blk (pc' := 58) [.aload 0, .iload 1, .iload 2] (by decide +kernel) ?_
            show pw_V x m_X4_mostFrom (3 + (f + 1)) Z 58 [(0, .ref 20), (1, .int (nI k)), (2, .int (nI us)), (3, .int (nI kw)), (4, .int (nI s6))] [.int (nI us), .int (nI k), .ref 20] mm
            refine pw_cV (vs := [.int (nI k), .int (nI us)]) (rest := []) k_X4_freeSeats (c_freeSeats k us pl mm hs (by omega) hp) l_4_66 rfl rfl rfl rfl (by omega) (Nat.le_of_ble_eq_true rfl) (by decide +kernel) ?_
            rintro _ m1 ⟨rfl, e1⟩
            rw [e1]
            clear e1 m1
            show pw_V x m_X4_mostFrom (3 + (f + 1)) Z 61 [(0, .ref 20), (1, .int (nI k)), (2, .int (nI us)), (3, .int (nI kw)), (4, .int (nI s6))] [.int (nI (pw_frI n th (gd k) (en k) pl us k))] mm
            refine pw_blk (pc' := 63) [.istore 5] (by decide +kernel) ?_
            show pw_V x m_X4_mostFrom (3 + (f + 1)) Z 63 [(5, .int (nI (pw_frI n th (gd k) (en k) pl us k))), (0, .ref 20), (1, .int (nI k)), (2, .int (nI us)), (3, .int (nI kw)), (4, .int (nI s6))] [] mm
            have bf : (pw_frI n th (gd k) (en k) pl us k) < 2 ^ n := pw_frI_lt (hs.2.2 k (by omega)).1.2
            have bf8 := pw_p8 bn bf
            refine pw_blk (pc' := 70) [.iload 4, .istore 6, .iconst 0, .istore 7] (by decide +kernel) ?_
            show pw_V x m_X4_mostFrom (3 + (f + 1)) Z 70 [(7, .int (nI 0)), (6, .int (nI s6)), (5, .int (nI (pw_frI n th (gd k) (en k) pl us k))), (0, .ref 20), (1, .int (nI k)), (2, .int (nI us)), (3, .int (nI kw)), (4, .int (nI s6))] [] mm
            refine pw_lvp [3, 4, 5, 6, 7, 2, 1, 0] rfl ?_
            suffices loop : ∀ s : Nat, s ≤ n → ∀ m : pw_m, (∀ c, c ≠ 23 → m c = mm c) → (∀ j, j < k → m 23 j = mm 23 j) → (∀ a, pw_fo (fun s x => if (pw_frI n th (gd k) (en k) pl us k).testBit s = true then pw_mo n kn th gd en kb mc f (pw_ns pl k s) (us ||| 2 ^ s) (kw ||| (if kb.testBit k = true then 2 ^ s else 0)) x else x) s (some s6) = some a → a ≤ 8) → pw_V x m_X4_mostFrom (3 + (f + 1)) Z 70 [(0, .ref 20), (1, .int (nI k)), (2, .int (nI us)), (3, .int (nI kw)), (4, .int (nI s6)), (5, .int (nI (pw_frI n th (gd k) (en k) pl us k))), (6, .int (pw_o ((pw_fo (fun s x => if (pw_frI n th (gd k) (en k) pl us k).testBit s = true then pw_mo n kn th gd en kb mc f (pw_ns pl k s) (us ||| 2 ^ s) (kw ||| (if kb.testBit k = true then 2 ^ s else 0)) x else x) s (some s6))))), (7, .int (nI s))] [] m from loop 0 (by omega) mm (fun _ _ => rfl) (fun _ _ => rfl) (fun a ha => by cases ha; omega)
            refine pw_dn n (fun s hsn ih2 m hm hpm hfo => ?_)
            have hsm := hs.c hm
            refine pw_blk (pc' := 76) [.iload 7, .aload 0, .getfield 400] (by decide +kernel) ?_
            show pw_V x m_X4_mostFrom (3 + (f + 1)) Z 76 [(0, .ref 20), (1, .int (nI k)), (2, .int (nI us)), (3, .int (nI kw)), (4, .int (nI s6)), (5, .int (nI (pw_frI n th (gd k) (en k) pl us k))), (6, .int (pw_o ((pw_fo (fun s x => if (pw_frI n th (gd k) (en k) pl us k).testBit s = true then pw_mo n kn th gd en kb mc f (pw_ns pl k s) (us ||| 2 ^ s) (kw ||| (if kb.testBit k = true then 2 ^ s else 0)) x else x) s (some s6))))), (7, .int (nI s))] [.int (m 20 0), .int (nI s)] m
            rw [show m 20 0 = nI n from hsm.2.1.1]
            refine pw_in_ge (tgt := 145) (off := 69) (by omega) (by omega) (by decide +kernel) (by decide) (fun h76 => ?_) (fun h76 => ?_)
            · refine pw_blk (pc' := 147) [.iload 6] (by decide +kernel) ?_
              show pw_V x m_X4_mostFrom (3 + (f + 1)) Z 147 [(0, .ref 20), (1, .int (nI k)), (2, .int (nI us)), (3, .int (nI kw)), (4, .int (nI s6)), (5, .int (nI (pw_frI n th (gd k) (en k) pl us k))), (6, .int (pw_o ((pw_fo (fun s x => if (pw_frI n th (gd k) (en k) pl us k).testBit s = true then pw_mo n kn th gd en kb mc f (pw_ns pl k s) (us ||| 2 ^ s) (kw ||| (if kb.testBit k = true then 2 ^ s else 0)) x else x) s (some s6))))), (7, .int (nI s))] [.int (pw_o ((pw_fo (fun s x => if (pw_frI n th (gd k) (en k) pl us k).testBit s = true then pw_mo n kn th gd en kb mc f (pw_ns pl k s) (us ||| 2 ^ s) (kw ||| (if kb.testBit k = true then 2 ^ s else 0)) x else x) s (some s6))))] m
              rw [← hZ]
              refine pw_ri (by decide +kernel) ?_
              have e : s = n := by omega
              subst e
              subst h6o
              exact ⟨by rw [pw_moS hkf (show pw_ge (some s6) mc = false from by simp [pw_ge, h6]) h40], hm, hpm⟩
            · refine pw_blk (pc' := 83) [.iload 5, .iload 7] (by decide +kernel) ?_
              show pw_V x m_X4_mostFrom (3 + (f + 1)) Z 83 [(0, .ref 20), (1, .int (nI k)), (2, .int (nI us)), (3, .int (nI kw)), (4, .int (nI s6)), (5, .int (nI (pw_frI n th (gd k) (en k) pl us k))), (6, .int (pw_o ((pw_fo (fun s x => if (pw_frI n th (gd k) (en k) pl us k).testBit s = true then pw_mo n kn th gd en kb mc f (pw_ns pl k s) (us ||| 2 ^ s) (kw ||| (if kb.testBit k = true then 2 ^ s else 0)) x else x) s (some s6))))), (7, .int (nI s))] [.int (nI s), .int (nI (pw_frI n th (gd k) (en k) pl us k))] m
              refine pw_cN (idx := 63) (vs := [.int (nI (pw_frI n th (gd k) (en k) pl us k)), .int (nI s)]) (rest := []) (host := RX7) k_X7_has (c_has (nI (pw_frI n th (gd k) (en k) pl us k)) (nI s) m) (by decide +kernel) rfl (by omega) (Nat.le_of_ble_eq_true rfl) (by decide +kernel) ?_
              rintro _ m1 ⟨rfl, e1⟩
              rw [e1]
              clear e1 m1
              show pw_V x m_X4_mostFrom (3 + (f + 1)) Z 86 [(0, .ref 20), (1, .int (nI k)), (2, .int (nI us)), (3, .int (nI kw)), (4, .int (nI s6)), (5, .int (nI (pw_frI n th (gd k) (en k) pl us k))), (6, .int (pw_o ((pw_fo (fun s x => if (pw_frI n th (gd k) (en k) pl us k).testBit s = true then pw_mo n kn th gd en kb mc f (pw_ns pl k s) (us ||| 2 ^ s) (kw ||| (if kb.testBit k = true then 2 ^ s else 0)) x else x) s (some s6))))), (7, .int (nI s))] [.int (pw_b (pw_hs (nI (pw_frI n th (gd k) (en k) pl us k)) (nI s)))] m
              rw [pw_hs_n (by omega) (by omega)]
              refine pw_ib_eq (tgt := 139) (off := 53) (by decide +kernel) (by decide) (fun h86 => ?_) (fun h86 => ?_)
              · refine pw_blk (pc' := 142) [.iinc 7 1] (by decide +kernel) ?_
                show pw_V x m_X4_mostFrom (3 + (f + 1)) Z 142 [(7, .int ((nI s) + (nI 1))), (0, .ref 20), (1, .int (nI k)), (2, .int (nI us)), (3, .int (nI kw)), (4, .int (nI s6)), (5, .int (nI (pw_frI n th (gd k) (en k) pl us k))), (6, .int (pw_o ((pw_fo (fun s x => if (pw_frI n th (gd k) (en k) pl us k).testBit s = true then pw_mo n kn th gd en kb mc f (pw_ns pl k s) (us ||| 2 ^ s) (kw ||| (if kb.testBit k = true then 2 ^ s else 0)) x else x) s (some s6)))))] [] m
                rw [show (nI s) + (nI 1) = nI (s + 1) from nI_add _ _]
                refine pw_goto (tgt := 70) (off := -72) (by decide +kernel) (by decide) ?_
                have e9 : pw_fo (fun s x => if (pw_frI n th (gd k) (en k) pl us k).testBit s = true then pw_mo n kn th gd en kb mc f (pw_ns pl k s) (us ||| 2 ^ s) (kw ||| (if kb.testBit k = true then 2 ^ s else 0)) x else x) s (some s6) = (pw_fo (fun s x => if (pw_frI n th (gd k) (en k) pl us k).testBit s = true then pw_mo n kn th gd en kb mc f (pw_ns pl k s) (us ||| 2 ^ s) (kw ||| (if kb.testBit k = true then 2 ^ s else 0)) x else x) (s + 1) (some s6)) := by simp [pw_fo, h86]
                rw [e9]
                refine pw_lvp [1, 2, 3, 4, 5, 6, 7, 0] rfl ?_
                exact ih2 (by omega) m hm hpm (by rw [← e9]; exact hfo)
              · refine pw_blk (pc' := 102) [.aload 0, .getfield 405, .iload 1, .iload 7, .iastore, .aload 0, .getfield 407, .iload 1] (by decide +kernel) ?_
                refine ⟨k, rfl, by omega, ?_⟩
                show pw_V x m_X4_mostFrom (3 + (f + 1)) Z 102 [(0, .ref 20), (1, .int (nI k)), (2, .int (nI us)), (3, .int (nI kw)), (4, .int (nI s6)), (5, .int (nI (pw_frI n th (gd k) (en k) pl us k))), (6, .int (pw_o ((pw_fo (fun s x => if (pw_frI n th (gd k) (en k) pl us k).testBit s = true then pw_mo n kn th gd en kb mc f (pw_ns pl k s) (us ||| 2 ^ s) (kw ||| (if kb.testBit k = true then 2 ^ s else 0)) x else x) s (some s6))))), (7, .int (nI s))] [.int (nI k), .int (m 20 7)] (pw_up m 23 k (nI s))
                rw [show m 20 7 = nI kb from (by rw [hm 20 (by omega)]; exact hb7)]
                refine pw_cN (idx := 63) (vs := [.int (nI kb), .int (nI k)]) (rest := []) (host := RX7) k_X7_has (c_has (nI kb) (nI k) (pw_up m 23 k (nI s))) (by decide +kernel) rfl (by omega) (Nat.le_of_ble_eq_true rfl) (by decide +kernel) ?_
                rintro _ m1 ⟨rfl, e1⟩
                rw [e1]
                clear e1 m1
                show pw_V x m_X4_mostFrom (3 + (f + 1)) Z 105 [(0, .ref 20), (1, .int (nI k)), (2, .int (nI us)), (3, .int (nI kw)), (4, .int (nI s6)), (5, .int (nI (pw_frI n th (gd k) (en k) pl us k))), (6, .int (pw_o ((pw_fo (fun s x => if (pw_frI n th (gd k) (en k) pl us k).testBit s = true then pw_mo n kn th gd en kb mc f (pw_ns pl k s) (us ||| 2 ^ s) (kw ||| (if kb.testBit k = true then 2 ^ s else 0)) x else x) s (some s6))))), (7, .int (nI s))] [.int (pw_b (pw_hs (nI kb) (nI k)))] (pw_up m 23 k (nI s))
                rw [pw_hs_n (by omega) (by omega)]
                refine pw_ib_eq (tgt := 115) (off := 10) (by decide +kernel) (by decide) (fun h105 => ?_) (fun h105 => ?_)
                · refine pw_blk (pc' := 134) [.iconst 0, .istore 8, .aload 0, .iload 1, .iconst 1, .iadd, .iload 2, .iconst 1, .iload 7, .ishl, .ior, .iload 3, .iload 8, .ior, .iload 6] (by decide +kernel) ?_
                  show pw_V x m_X4_mostFrom (3 + (f + 1)) Z 134 [(8, .int (nI 0)), (0, .ref 20), (1, .int (nI k)), (2, .int (nI us)), (3, .int (nI kw)), (4, .int (nI s6)), (5, .int (nI (pw_frI n th (gd k) (en k) pl us k))), (6, .int (pw_o ((pw_fo (fun s x => if (pw_frI n th (gd k) (en k) pl us k).testBit s = true then pw_mo n kn th gd en kb mc f (pw_ns pl k s) (us ||| 2 ^ s) (kw ||| (if kb.testBit k = true then 2 ^ s else 0)) x else x) s (some s6))))), (7, .int (nI s))] [.int (pw_o ((pw_fo (fun s x => if (pw_frI n th (gd k) (en k) pl us k).testBit s = true then pw_mo n kn th gd en kb mc f (pw_ns pl k s) (us ||| 2 ^ s) (kw ||| (if kb.testBit k = true then 2 ^ s else 0)) x else x) s (some s6)))), .int ((nI kw) ||| (nI 0)), .int ((nI us) ||| ((nI 1) <<< ((nI s) &&& 31))), .int ((nI k) + (nI 1)), .ref 20] (pw_up m 23 k (nI s))
                  rw [show (nI kw) ||| (nI 0) = nI (kw ||| 0) from fa_or _ _]
                  rw [show (nI 1) <<< ((nI s) &&& 31) = nI (2 ^ s) from pw_shl1 (by omega)]
                  rw [show (nI us) ||| (nI (2 ^ s)) = nI (us ||| (2 ^ s)) from fa_or _ _]
                  rw [show (nI k) + (nI 1) = nI (k + 1) from nI_add _ _]
                  refine pw_cV (vs := [.int (nI (k + 1)), .int (nI (us ||| (2 ^ s))), .int (nI (kw ||| 0)), .int (pw_o ((pw_fo (fun s x => if (pw_frI n th (gd k) (en k) pl us k).testBit s = true then pw_mo n kn th gd en kb mc f (pw_ns pl k s) (us ||| 2 ^ s) (kw ||| (if kb.testBit k = true then 2 ^ s else 0)) x else x) s (some s6))))]) (rest := []) k_X4_mostFrom (ih (k + 1) (by omega) (pw_ns pl k s) (us ||| 2 ^ s) (kw ||| 0) (pw_fo (fun s x => if (pw_frI n th (gd k) (en k) pl us k).testBit s = true then pw_mo n kn th gd en kb mc f (pw_ns pl k s) (us ||| 2 ^ s) (kw ||| (if kb.testBit k = true then 2 ^ s else 0)) x else x) s (some s6)) (pw_up m 23 k (nI s)) (hsm.c (fun c hc => pw_up_ne hc)) ((hp.c hpm).put (by omega)) (by rw [pw_up_ne (by omega), hm 20 (by omega)]; exact hb7) (by rw [pw_up_ne (by omega), hm 20 (by omega)]; exact hb8) ⟨pw_orn hb.1 (by omega), by rw [Nat.or_zero]; exact hb.2.1, hfo⟩) l_4_57 rfl rfl rfl rfl (by omega) (Nat.le_of_ble_eq_true rfl) (by decide +kernel) ?_
                  rintro _ m1 ⟨rfl, e1, e2⟩
                  show pw_V x m_X4_mostFrom (3 + (f + 1)) Z 137 [(8, .int (nI 0)), (0, .ref 20), (1, .int (nI k)), (2, .int (nI us)), (3, .int (nI kw)), (4, .int (nI s6)), (5, .int (nI (pw_frI n th (gd k) (en k) pl us k))), (6, .int (pw_o ((pw_fo (fun s x => if (pw_frI n th (gd k) (en k) pl us k).testBit s = true then pw_mo n kn th gd en kb mc f (pw_ns pl k s) (us ||| 2 ^ s) (kw ||| (if kb.testBit k = true then 2 ^ s else 0)) x else x) s (some s6))))), (7, .int (nI s))] [.int (pw_o ((pw_mo n kn th gd en kb mc f (pw_ns pl k s) (us ||| (2 ^ s)) (kw ||| 0) (pw_fo (fun s x => if (pw_frI n th (gd k) (en k) pl us k).testBit s = true then pw_mo n kn th gd en kb mc f (pw_ns pl k s) (us ||| 2 ^ s) (kw ||| (if kb.testBit k = true then 2 ^ s else 0)) x else x) s (some s6)))))] m1
                  refine pw_blk (pc' := 142) [.istore 6, .iinc 7 1] (by decide +kernel) ?_
                  show pw_V x m_X4_mostFrom (3 + (f + 1)) Z 142 [(7, .int ((nI s) + (nI 1))), (6, .int (pw_o ((pw_mo n kn th gd en kb mc f (pw_ns pl k s) (us ||| (2 ^ s)) (kw ||| 0) (pw_fo (fun s x => if (pw_frI n th (gd k) (en k) pl us k).testBit s = true then pw_mo n kn th gd en kb mc f (pw_ns pl k s) (us ||| 2 ^ s) (kw ||| (if kb.testBit k = true then 2 ^ s else 0)) x else x) s (some s6)))))), (8, .int (nI 0)), (0, .ref 20), (1, .int (nI k)), (2, .int (nI us)), (3, .int (nI kw)), (4, .int (nI s6)), (5, .int (nI (pw_frI n th (gd k) (en k) pl us k)))] [] m1
                  rw [show (nI s) + (nI 1) = nI (s + 1) from nI_add _ _]
                  refine pw_goto (tgt := 70) (off := -72) (by decide +kernel) (by decide) ?_
                  have e9 : (pw_mo n kn th gd en kb mc f (pw_ns pl k s) (us ||| (2 ^ s)) (kw ||| 0) (pw_fo (fun s x => if (pw_frI n th (gd k) (en k) pl us k).testBit s = true then pw_mo n kn th gd en kb mc f (pw_ns pl k s) (us ||| 2 ^ s) (kw ||| (if kb.testBit k = true then 2 ^ s else 0)) x else x) s (some s6))) = (pw_fo (fun s x => if (pw_frI n th (gd k) (en k) pl us k).testBit s = true then pw_mo n kn th gd en kb mc f (pw_ns pl k s) (us ||| 2 ^ s) (kw ||| (if kb.testBit k = true then 2 ^ s else 0)) x else x) (s + 1) (some s6)) := by simp [pw_fo, h86, h105]
                  rw [e9]
                  refine pw_lvp [3, 4, 5, 6, 7, 8, 1, 0] rfl ?_
                  exact ih2 (by omega) m1 (fun c hc => by rw [e1 c hc, pw_up_ne hc]; exact hm c hc) (fun j hj => by rw [e2 j (by omega), pw_up_eq]; unfold upd; rw [if_neg (by omega)]; exact hpm j hj) (by rw [← e9]; exact pw_mob _ _ _ _ _ hfo)
                · refine pw_blk (pc' := 112) [.iconst 1, .iload 7, .ishl] (by decide +kernel) ?_
                  show pw_V x m_X4_mostFrom (3 + (f + 1)) Z 112 [(0, .ref 20), (1, .int (nI k)), (2, .int (nI us)), (3, .int (nI kw)), (4, .int (nI s6)), (5, .int (nI (pw_frI n th (gd k) (en k) pl us k))), (6, .int (pw_o ((pw_fo (fun s x => if (pw_frI n th (gd k) (en k) pl us k).testBit s = true then pw_mo n kn th gd en kb mc f (pw_ns pl k s) (us ||| 2 ^ s) (kw ||| (if kb.testBit k = true then 2 ^ s else 0)) x else x) s (some s6))))), (7, .int (nI s))] [.int ((nI 1) <<< ((nI s) &&& 31))] (pw_up m 23 k (nI s))
                  rw [show (nI 1) <<< ((nI s) &&& 31) = nI (2 ^ s) from pw_shl1 (by omega)]
                  refine pw_goto (tgt := 116) (off := 4) (by decide +kernel) (by decide) ?_
                  refine pw_blk (pc' := 134) [.istore 8, .aload 0, .iload 1, .iconst 1, .iadd, .iload 2, .iconst 1, .iload 7, .ishl, .ior, .iload 3, .iload 8, .ior, .iload 6] (by decide +kernel) ?_
                  show pw_V x m_X4_mostFrom (3 + (f + 1)) Z 134 [(8, .int (nI (2 ^ s))), (0, .ref 20), (1, .int (nI k)), (2, .int (nI us)), (3, .int (nI kw)), (4, .int (nI s6)), (5, .int (nI (pw_frI n th (gd k) (en k) pl us k))), (6, .int (pw_o ((pw_fo (fun s x => if (pw_frI n th (gd k) (en k) pl us k).testBit s = true then pw_mo n kn th gd en kb mc f (pw_ns pl k s) (us ||| 2 ^ s) (kw ||| (if kb.testBit k = true then 2 ^ s else 0)) x else x) s (some s6))))), (7, .int (nI s))] [.int (pw_o ((pw_fo (fun s x => if (pw_frI n th (gd k) (en k) pl us k).testBit s = true then pw_mo n kn th gd en kb mc f (pw_ns pl k s) (us ||| 2 ^ s) (kw ||| (if kb.testBit k = true then 2 ^ s else 0)) x else x) s (some s6)))), .int ((nI kw) ||| (nI (2 ^ s))), .int ((nI us) ||| ((nI 1) <<< ((nI s) &&& 31))), .int ((nI k) + (nI 1)), .ref 20] (pw_up m 23 k (nI s))
                  rw [show (nI kw) ||| (nI (2 ^ s)) = nI (kw ||| (2 ^ s)) from fa_or _ _]
                  rw [show (nI 1) <<< ((nI s) &&& 31) = nI (2 ^ s) from pw_shl1 (by omega)]
                  rw [show (nI us) ||| (nI (2 ^ s)) = nI (us ||| (2 ^ s)) from fa_or _ _]
                  rw [show (nI k) + (nI 1) = nI (k + 1) from nI_add _ _]
                  refine pw_cV (vs := [.int (nI (k + 1)), .int (nI (us ||| (2 ^ s))), .int (nI (kw ||| (2 ^ s))), .int (pw_o ((pw_fo (fun s x => if (pw_frI n th (gd k) (en k) pl us k).testBit s = true then pw_mo n kn th gd en kb mc f (pw_ns pl k s) (us ||| 2 ^ s) (kw ||| (if kb.testBit k = true then 2 ^ s else 0)) x else x) s (some s6))))]) (rest := []) k_X4_mostFrom (ih (k + 1) (by omega) (pw_ns pl k s) (us ||| 2 ^ s) (kw ||| (2 ^ s)) (pw_fo (fun s x => if (pw_frI n th (gd k) (en k) pl us k).testBit s = true then pw_mo n kn th gd en kb mc f (pw_ns pl k s) (us ||| 2 ^ s) (kw ||| (if kb.testBit k = true then 2 ^ s else 0)) x else x) s (some s6)) (pw_up m 23 k (nI s)) (hsm.c (fun c hc => pw_up_ne hc)) ((hp.c hpm).put (by omega)) (by rw [pw_up_ne (by omega), hm 20 (by omega)]; exact hb7) (by rw [pw_up_ne (by omega), hm 20 (by omega)]; exact hb8) ⟨pw_orn hb.1 (by omega), pw_orn hb.2.1 (by omega), hfo⟩) l_4_57 rfl rfl rfl rfl (by omega) (Nat.le_of_ble_eq_true rfl) (by decide +kernel) ?_
                  rintro _ m1 ⟨rfl, e1, e2⟩
                  show pw_V x m_X4_mostFrom (3 + (f + 1)) Z 137 [(8, .int (nI (2 ^ s))), (0, .ref 20), (1, .int (nI k)), (2, .int (nI us)), (3, .int (nI kw)), (4, .int (nI s6)), (5, .int (nI (pw_frI n th (gd k) (en k) pl us k))), (6, .int (pw_o ((pw_fo (fun s x => if (pw_frI n th (gd k) (en k) pl us k).testBit s = true then pw_mo n kn th gd en kb mc f (pw_ns pl k s) (us ||| 2 ^ s) (kw ||| (if kb.testBit k = true then 2 ^ s else 0)) x else x) s (some s6))))), (7, .int (nI s))] [.int (pw_o ((pw_mo n kn th gd en kb mc f (pw_ns pl k s) (us ||| (2 ^ s)) (kw ||| (2 ^ s)) (pw_fo (fun s x => if (pw_frI n th (gd k) (en k) pl us k).testBit s = true then pw_mo n kn th gd en kb mc f (pw_ns pl k s) (us ||| 2 ^ s) (kw ||| (if kb.testBit k = true then 2 ^ s else 0)) x else x) s (some s6)))))] m1
                  refine pw_blk (pc' := 142) [.istore 6, .iinc 7 1] (by decide +kernel) ?_
                  show pw_V x m_X4_mostFrom (3 + (f + 1)) Z 142 [(7, .int ((nI s) + (nI 1))), (6, .int (pw_o ((pw_mo n kn th gd en kb mc f (pw_ns pl k s) (us ||| (2 ^ s)) (kw ||| (2 ^ s)) (pw_fo (fun s x => if (pw_frI n th (gd k) (en k) pl us k).testBit s = true then pw_mo n kn th gd en kb mc f (pw_ns pl k s) (us ||| 2 ^ s) (kw ||| (if kb.testBit k = true then 2 ^ s else 0)) x else x) s (some s6)))))), (8, .int (nI (2 ^ s))), (0, .ref 20), (1, .int (nI k)), (2, .int (nI us)), (3, .int (nI kw)), (4, .int (nI s6)), (5, .int (nI (pw_frI n th (gd k) (en k) pl us k)))] [] m1
                  rw [show (nI s) + (nI 1) = nI (s + 1) from nI_add _ _]
                  refine pw_goto (tgt := 70) (off := -72) (by decide +kernel) (by decide) ?_
                  have e9 : (pw_mo n kn th gd en kb mc f (pw_ns pl k s) (us ||| (2 ^ s)) (kw ||| (2 ^ s)) (pw_fo (fun s x => if (pw_frI n th (gd k) (en k) pl us k).testBit s = true then pw_mo n kn th gd en kb mc f (pw_ns pl k s) (us ||| 2 ^ s) (kw ||| (if kb.testBit k = true then 2 ^ s else 0)) x else x) s (some s6))) = (pw_fo (fun s x => if (pw_frI n th (gd k) (en k) pl us k).testBit s = true then pw_mo n kn th gd en kb mc f (pw_ns pl k s) (us ||| 2 ^ s) (kw ||| (if kb.testBit k = true then 2 ^ s else 0)) x else x) (s + 1) (some s6)) := by simp [pw_fo, h86, h105]
                  rw [e9]
                  refine pw_lvp [3, 4, 5, 6, 7, 8, 1, 0] rfl ?_
                  exact ih2 (by omega) m1 (fun c hc => by rw [e1 c hc, pw_up_ne hc]; exact hm c hc) (fun j hj => by rw [e2 j (by omega), pw_up_eq]; unfold upd; rw [if_neg (by omega)]; exact hpm j hj) (by rw [← e9]; exact pw_mob _ _ _ _ _ hfo)
          · refine pw_blk (pc' := 51) [.aload 0, .iload 1, .iconst 1, .iadd, .iload 2, .iload 3, .iload 4] (by decide +kernel) ?_
            show pw_V x m_X4_mostFrom (3 + (f + 1)) Z 51 [(0, .ref 20), (1, .int (nI k)), (2, .int (nI us)), (3, .int (nI kw)), (4, .int (nI s6))] [.int (nI s6), .int (nI kw), .int (nI us), .int ((nI k) + (nI 1)), .ref 20] mm
            rw [show (nI k) + (nI 1) = nI (k + 1) from nI_add _ _]
            refine pw_cV (vs := [.int (nI (k + 1)), .int (nI us), .int (nI kw), .int (nI s6)]) (rest := []) k_X4_mostFrom (ih (k + 1) (by omega) pl us kw (some s6) mm hs (hp.skip h40) hb7 hb8 ⟨hb.1, hb.2.1, fun a ha => by cases ha; omega⟩) l_4_57 rfl rfl rfl rfl (by omega) (Nat.le_of_ble_eq_true rfl) (by decide +kernel) ?_
            rintro _ m1 ⟨rfl, e1, e2⟩
            show pw_V x m_X4_mostFrom (3 + (f + 1)) Z 54 [(0, .ref 20), (1, .int (nI k)), (2, .int (nI us)), (3, .int (nI kw)), (4, .int (nI s6))] [.int (pw_o ((pw_mo n kn th gd en kb mc f pl us kw (some s6))))] m1
            rw [← hZ]
            refine pw_ri (by decide +kernel) ?_
            subst h6o
            exact ⟨by rw [pw_moN hkf (show pw_ge (some s6) mc = false from by simp [pw_ge, h6]) h40], e1, fun j hj => e2 j (by omega)⟩
        · omega
      · refine pw_blk (pc' := 11) [.iload 4] (by decide +kernel) ?_
        show pw_V x m_X4_mostFrom (3 + (f + 1)) Z 11 [(0, .ref 20), (1, .int (nI k)), (2, .int (nI us)), (3, .int (nI kw)), (4, .int (nI s6))] [.int (nI s6)] mm
        rw [← hZ]
        refine pw_ri (by decide +kernel) ?_
        subst h6o
        exact ⟨by rw [pw_moL (by simp [pw_ge, h6])]; rfl, fun _ _ => rfl, fun _ _ => rfl⟩
end
section
theorem pw_PL0 {m : pw_m} {n th : Nat} {pl : Nat → Nat} : pw_PL m n th pl 0 := fun j hj => absurd hj (by omega)
theorem pw_SC_ps {A : pw_m} (h : pw_ok A) (q : Option Nat) : pw_SC (pw_psI A q (pw_k A)) (pw_n A) (pw_k A) (pw_g A 42 1) (pw_gd A q) (fun k => pw_g A 10 k) := by
  refine ⟨⟨pw_bn h, pw_bk h, pw_b421' h⟩, ⟨?_, ?_, ?_⟩, fun k hk => ⟨⟨?_, pw_ob_lt⟩, ?_, pw_b10 h (Nat.lt_of_lt_of_le hk (pw_bk h))⟩⟩
  · exact pw_q40 h
  · exact pw_q41 h
  · exact pw_q421 h
  · show pw_c6 (A 21) (fun k => nI (pw_gd A q k)) (pw_k A) k = _
    unfold pw_c6
    rw [if_pos hk]
  · show pw_c6 (A 22) (A 10) (pw_k A) k = _
    unfold pw_c6
    rw [if_pos hk]
    exact pw_q10 h (Nat.lt_of_lt_of_le hk (pw_bk h))
/-- cells that a search leaves alone -/
def pw_fr_ (A B : pw_m) : Prop := ∀ c, (c < 20 ∨ 25 ≤ c) → B c = A c
theorem pw_fr_ps {A : pw_m} {q : Option Nat} {i : Nat} : pw_fr_ A (pw_psI A q i) := fun c hc => pw_psI_o (by omega)
theorem pw_fr_ok {A B : pw_m} (h : pw_fr_ A B) (q : pw_ok A) : pw_ok B := pw_ok_f (fun c hc => h c (by omega)) (by rw [h 2 (by omega)]) (by rw [h 14 (by omega)]) q
def F_wy (A : pw_m) (q : Option Nat) : Nat := pw_wy (pw_n A) (pw_k A) (pw_g A 42 1) (pw_gd A q) (fun k => pw_g A 10 k) (pw_k A) (fun _ => 0) 0
def F_ft (A : pw_m) : Option (Nat → Nat) := pw_fT (pw_n A) (pw_k A) (pw_g A 42 1) (pw_gd A none) (fun k => pw_g A 10 k) (pw_k A) (fun _ => 0) 0
def F_fw (A : pw_m) : Nat := pw_fw (pw_n A) (pw_k A) (pw_g A 42 1) (pw_gd A none) (fun k => pw_g A 10 k) (pw_psI A none (pw_k A) 24) (pw_k A) (fun _ => 0) 0 0 7
def F_mo (A : pw_m) (w : Nat) : Option Nat := pw_mo (pw_n A) (pw_k A) (pw_g A 42 1) (pw_gd A none) (fun k => pw_g A 10 k) (pw_ob (pw_kn A w) (pw_k A)) (min (pw_pc (pw_g A 42 1)) (2 * pw_pc (pw_ob (pw_kn A w) (pw_k A)))) (pw_k A) (fun _ => 0) 0 0 none
def F_seatOf (A : pw_m) (k : Int32) : Int32 := if pw_inr k (pw_k A) then (if (pw_g A 42 1).testBit (pw_c k) then (match F_ft A with
  | none => -1
  | some a => nI (a (pw_c k))) else -1) else -2
def F_moved (A : pw_m) : Int32 := if F_fw A ≤ 6 then nI (F_fw A) else -1
def F_knows (A : pw_m) (w : Int32) : Int32 := if pw_inr w 4 then pw_o (F_mo A (pw_c w)) else -3
def F_lent (A : pw_m) (s : Int32) : Int32 := if pw_inr s (pw_n A) then nI (F_wy A (some (pw_c s))) - nI (F_wy A none) else -2
theorem pw_gd_c {A B : pw_m} (h : pw_fr_ A B) {q : Option Nat} : pw_gd B q = pw_gd A q := by
  funext k
  unfold pw_gd pw_gdb pw_fnow pw_fit pw_inp pw_pon pw_mt pw_g pw_n
  rw [h 4 (by omega), h 5 (by omega), h 6 (by omega), h 7 (by omega), h 9 (by omega), h 42 (by omega), h 43 (by omega)]
theorem F_wy_c {A B : pw_m} (h : pw_fr_ A B) {q : Option Nat} : F_wy B q = F_wy A q := by
  unfold F_wy
  rw [pw_gd_c h]
  unfold pw_n pw_k pw_g
  rw [h 4 (by omega), h 42 (by omega), h 10 (by omega)]

set_option maxHeartbeats 4000000 in
set_option maxRecDepth 100000 in
theorem c_ways {n kn th : Nat} {gd en : Nat → Nat} (mm : pw_m) (hs : pw_SC mm n kn th gd en) : pw_Ct 10 yX4_ways m_X4_ways [.ref 20] mm (fun r m' => r = some (.int (nI (pw_wy n kn th gd en kn (fun _ => 0) 0))) ∧ ∀ c, c ≠ 23 → m' c = mm c) := by
  refine pw_ct (by decide +kernel) rfl (Nat.le_of_ble_eq_true rfl) (fun x => ?_)
  generalize hZ : pw_Z x _ = Z
  obtain ⟨bn, bk, bt⟩ := hs.1
  show pw_V x m_X4_ways 10 Z 0 [(0, .ref 20)] [] mm
  refine pw_blk (pc' := 3) [.aload 0, .iconst 0, .iconst 0] (by decide +kernel) ?_
  show pw_V x m_X4_ways 10 Z 3 [(0, .ref 20)] [.int (nI 0), .int (nI 0), .ref 20] mm
  refine pw_cV (vs := [.int (nI 0), .int (nI 0)]) (rest := []) k_X4_waysFrom (c_waysFrom kn 0 (by omega) (fun _ => 0) 0 mm hs pw_PL0) l_4_24 rfl rfl rfl rfl (by omega) (Nat.le_of_ble_eq_true rfl) (by decide +kernel) ?_
  rintro _ m1 ⟨rfl, e1, e2⟩
  show pw_V x m_X4_ways 10 Z 6 [(0, .ref 20)] [.int (nI (pw_wy n kn th gd en kn (fun _ => 0) 0))] m1
  rw [← hZ]
  refine pw_ri (by decide +kernel) ?_
  exact ⟨rfl, e1⟩

set_option maxHeartbeats 4000000 in
set_option maxRecDepth 100000 in
theorem c_first {n kn th : Nat} {gd en : Nat → Nat} (mm : pw_m) (hs : pw_SC mm n kn th gd en) : pw_Ct 10 yX4_first m_X4_first [.ref 20] mm (fun r m' => r = some (.int (pw_b (pw_fT n kn th gd en kn (fun _ => 0) 0).isSome)) ∧ (∀ c, c ≠ 23 → m' c = mm c) ∧ ∀ a, pw_fT n kn th gd en kn (fun _ => 0) 0 = some a → ∀ j, j < kn → th.testBit j = true → m' 23 j = nI (a j) ∧ a j < n) := by
  refine pw_ct (by decide +kernel) rfl (Nat.le_of_ble_eq_true rfl) (fun x => ?_)
  generalize hZ : pw_Z x _ = Z
  obtain ⟨bn, bk, bt⟩ := hs.1
  show pw_V x m_X4_first 10 Z 0 [(0, .ref 20)] [] mm
  refine pw_blk (pc' := 3) [.aload 0, .iconst 0, .iconst 0] (by decide +kernel) ?_
  show pw_V x m_X4_first 10 Z 3 [(0, .ref 20)] [.int (nI 0), .int (nI 0), .ref 20] mm
  refine pw_cV (vs := [.int (nI 0), .int (nI 0)]) (rest := []) k_X4_firstFrom (c_firstFrom kn 0 (by omega) (fun _ => 0) 0 mm hs pw_PL0) l_4_28 rfl rfl rfl rfl (by omega) (Nat.le_of_ble_eq_true rfl) (by decide +kernel) ?_
  rintro _ m1 ⟨rfl, e1, e2, e3⟩
  show pw_V x m_X4_first 10 Z 6 [(0, .ref 20)] [.int (pw_b ((pw_fT n kn th gd en kn (fun _ => 0) 0).isSome))] m1
  rw [← hZ]
  refine pw_rz (by decide +kernel) (pw_b01 _) ?_
  exact ⟨rfl, e1, e3⟩

set_option maxHeartbeats 4000000 in
set_option maxRecDepth 100000 in
theorem c_fewestAway {n kn th : Nat} {gd en : Nat → Nat} (mm : pw_m) (hs : pw_SC mm n kn th gd en) : pw_Ct 10 yX4_fewestAway m_X4_fewestAway [.ref 20] mm (fun r m' => r = some (.int (if (pw_fw n kn th gd en (mm 24) kn (fun _ => 0) 0 0 7) ≤ 6 then nI (pw_fw n kn th gd en (mm 24) kn (fun _ => 0) 0 0 7) else -1)) ∧ ∀ c, c ≠ 23 → m' c = mm c) := by
  refine pw_ct (by decide +kernel) rfl (Nat.le_of_ble_eq_true rfl) (fun x => ?_)
  generalize hZ : pw_Z x _ = Z
  obtain ⟨bn, bk, bt⟩ := hs.1
  have bf : (pw_fw n kn th gd en (mm 24) kn (fun _ => 0) 0 0 7) ≤ 7 := pw_fwb _ _ _ _ _
  show pw_V x m_X4_fewestAway 10 Z 0 [(0, .ref 20)] [] mm
  refine pw_blk (pc' := 6) [.aload 0, .iconst 0, .iconst 0, .iconst 0, .iconst (7)] (by decide +kernel) ?_
  show pw_V x m_X4_fewestAway 10 Z 6 [(0, .ref 20)] [.int (nI 7), .int (nI 0), .int (nI 0), .int (nI 0), .ref 20] mm
  refine pw_cV (vs := [.int (nI 0), .int (nI 0), .int (nI 0), .int (nI 7)]) (rest := []) k_X4_fewestFrom (c_fewestFrom kn 0 (by omega) (fun _ => 0) 0 0 7 mm hs pw_PL0 (by omega)) l_4_32 rfl rfl rfl rfl (by omega) (Nat.le_of_ble_eq_true rfl) (by decide +kernel) ?_
  rintro _ m1 ⟨rfl, e1, e2⟩
  show pw_V x m_X4_fewestAway 10 Z 9 [(0, .ref 20)] [.int (nI (pw_fw n kn th gd en (mm 24) kn (fun _ => 0) 0 0 7))] m1
  refine pw_blk (pc' := 13) [.istore 1, .iload 1, .iconst (6)] (by decide +kernel) ?_
  show pw_V x m_X4_fewestAway 10 Z 13 [(1, .int (nI (pw_fw n kn th gd en (mm 24) kn (fun _ => 0) 0 0 7))), (0, .ref 20)] [.int (nI 6), .int (nI (pw_fw n kn th gd en (mm 24) kn (fun _ => 0) 0 0 7))] m1
  refine pw_in_le (tgt := 20) (off := 7) (by omega) (by omega) (by decide +kernel) (by decide) (fun h13 => ?_) (fun h13 => ?_)
  · refine pw_blk (pc' := 21) [.iload 1] (by decide +kernel) ?_
    show pw_V x m_X4_fewestAway 10 Z 21 [(1, .int (nI (pw_fw n kn th gd en (mm 24) kn (fun _ => 0) 0 0 7))), (0, .ref 20)] [.int (nI (pw_fw n kn th gd en (mm 24) kn (fun _ => 0) 0 0 7))] m1
    rw [← hZ]
    refine pw_ri (by decide +kernel) ?_
    refine ⟨?_, e1⟩
    rw [if_pos (by omega)]
  · refine pw_blk (pc' := 17) [.iconst (-1)] (by decide +kernel) ?_
    show pw_V x m_X4_fewestAway 10 Z 17 [(1, .int (nI (pw_fw n kn th gd en (mm 24) kn (fun _ => 0) 0 0 7))), (0, .ref 20)] [.int (-1)] m1
    refine pw_goto (tgt := 21) (off := 4) (by decide +kernel) (by decide) ?_
    rw [← hZ]
    refine pw_ri (by decide +kernel) ?_
    refine ⟨?_, e1⟩
    rw [if_neg (by omega)]

set_option maxHeartbeats 4000000 in
set_option maxRecDepth 100000 in
theorem c_mostKnow (kb : Nat) {n kn th : Nat} {gd en : Nat → Nat} (mm : pw_m) (hs : pw_SC mm n kn th gd en) (hkb : kb < 64) : pw_Ct 10 yX4_mostKnow m_X4_mostKnow [.ref 20, .int (nI kb)] mm (fun r m' => r = some (.int (pw_o (pw_mo n kn th gd en kb (min (pw_pc th) (2 * pw_pc kb)) kn (fun _ => 0) 0 0 none))) ∧ ∀ c, c ≠ 23 → c ≠ 20 → m' c = mm c) := by
  refine pw_ct (by decide +kernel) rfl (Nat.le_of_ble_eq_true rfl) (fun x => ?_)
  generalize hZ : pw_Z x _ = Z
  obtain ⟨bn, bk, bt⟩ := hs.1
  have b1 : pw_pc th ≤ 8 := pw_pc_le _
  have b2 : pw_pc kb ≤ 8 := pw_pc_le _
  show pw_V x m_X4_mostKnow 10 Z 0 [(0, .ref 20), (1, .int (nI kb))] [] mm
  refine pw_blk (pc' := 10) [.aload 0, .iload 1, .putfield 407, .aload 0, .aload 0, .getfield 402] (by decide +kernel) ?_
  show pw_V x m_X4_mostKnow 10 Z 10 [(0, .ref 20), (1, .int (nI kb))] [.int (mm 20 2), .ref 20] (pw_up mm 20 7 (nI kb))
  rw [show mm 20 2 = nI th from hs.2.1.2.2]
  refine pw_cS (vs := [.int (nI th)]) (rest := [.ref 20]) k_J6_bitCount_0f7a4 (c_bitCount (nI th) (pw_up mm 20 7 (nI kb))) l_4_43 rfl (by omega) (Nat.le_of_ble_eq_true rfl) (by decide +kernel) ?_
  rintro _ m1 ⟨rfl, e1⟩
  rw [e1]
  clear e1 m1
  show pw_V x m_X4_mostKnow 10 Z 13 [(0, .ref 20), (1, .int (nI kb))] [.int (pw_bc (nI th)), .ref 20] (pw_up mm 20 7 (nI kb))
  rw [pw_bcN _ (by omega)]
  refine pw_blk (pc' := 18) [.iconst 2, .aload 0, .getfield 407] (by decide +kernel) ?_
  show pw_V x m_X4_mostKnow 10 Z 18 [(0, .ref 20), (1, .int (nI kb))] [.int (nI kb), .int (nI 2), .int (nI (pw_pc th)), .ref 20] (pw_up mm 20 7 (nI kb))
  refine pw_cS (vs := [.int (nI kb)]) (rest := [.int (nI 2), .int (nI (pw_pc th)), .ref 20]) k_J6_bitCount_0f7a4 (c_bitCount (nI kb) (pw_up mm 20 7 (nI kb))) l_4_43 rfl (by omega) (Nat.le_of_ble_eq_true rfl) (by decide +kernel) ?_
  rintro _ m1 ⟨rfl, e1⟩
  rw [e1]
  clear e1 m1
  show pw_V x m_X4_mostKnow 10 Z 21 [(0, .ref 20), (1, .int (nI kb))] [.int (pw_bc (nI kb)), .int (nI 2), .int (nI (pw_pc th)), .ref 20] (pw_up mm 20 7 (nI kb))
  rw [pw_bcN _ (by omega)]
  refine pw_blk (pc' := 22) [.imul] (by decide +kernel) ?_
  show pw_V x m_X4_mostKnow 10 Z 22 [(0, .ref 20), (1, .int (nI kb))] [.int ((nI 2) * (nI (pw_pc kb))), .int (nI (pw_pc th)), .ref 20] (pw_up mm 20 7 (nI kb))
  rw [show (nI 2) * (nI (pw_pc kb)) = nI (2 * (pw_pc kb)) from pk_mul _ _]
  refine pw_cMin l_4_49 (by omega) (Nat.le_of_ble_eq_true rfl) (by decide +kernel) ?_
  show pw_V x m_X4_mostKnow 10 Z 25 [(0, .ref 20), (1, .int (nI kb))] [.int (pw_min (nI (pw_pc th)) (nI (2 * (pw_pc kb)))), .ref 20] (pw_up mm 20 7 (nI kb))
  rw [pw_minN (by omega) (by omega)]
  refine pw_blk (pc' := 33) [.putfield 408, .aload 0, .iconst 0, .iconst 0, .iconst 0, .iconst (-1)] (by decide +kernel) ?_
  show pw_V x m_X4_mostKnow 10 Z 33 [(0, .ref 20), (1, .int (nI kb))] [.int (-1), .int (nI 0), .int (nI 0), .int (nI 0), .ref 20] (pw_up (pw_up mm 20 7 (nI kb)) 20 8 (nI (min (pw_pc th) (2 * (pw_pc kb)))))
  refine pw_cV (vs := [.int (nI 0), .int (nI 0), .int (nI 0), .int (-1)]) (rest := []) k_X4_mostFrom (c_mostFrom (kb := kb) (mc := (min (pw_pc th) (2 * pw_pc kb))) hkb (by omega) kn 0 (by omega) (fun _ => 0) 0 0 none (pw_up (pw_up mm 20 7 (nI kb)) 20 8 (nI (min (pw_pc th) (2 * (pw_pc kb))))) ⟨hs.1, hs.2.1, hs.2.2⟩ pw_PL0 rfl rfl ⟨Nat.two_pow_pos n, Nat.two_pow_pos n, fun a ha => by cases ha⟩) l_4_57 rfl rfl rfl rfl (by omega) (Nat.le_of_ble_eq_true rfl) (by decide +kernel) ?_
  rintro _ m1 ⟨rfl, e1, e2⟩
  show pw_V x m_X4_mostKnow 10 Z 36 [(0, .ref 20), (1, .int (nI kb))] [.int (pw_o ((pw_mo n kn th gd en kb (min (pw_pc th) (2 * pw_pc kb)) kn (fun _ => 0) 0 0 none)))] m1
  rw [← hZ]
  refine pw_ri (by decide +kernel) ?_
  refine ⟨rfl, fun c h1 h2 => ?_⟩
  rw [e1 c h1, pw_up_ne h2, pw_up_ne h2]

set_option maxHeartbeats 4000000 in
set_option maxRecDepth 100000 in
theorem c_seatings (mm : pw_m) (hok : pw_ok mm) : pw_Ct 11 yX7_seatings m_X7_seatings [.ref 0] mm (fun r m' => r = some (.int (nI (F_wy mm none))) ∧ pw_fr_ mm m') := by
  refine pw_ct (by decide +kernel) rfl (Nat.le_of_ble_eq_true rfl) (fun x => ?_)
  generalize hZ : pw_Z x _ = Z
  have bn := pw_bn hok
  have bk := pw_bk hok
  show pw_V x m_X7_seatings 11 Z 0 [(0, .ref 0)] [] mm
  refine pw_blk (pc' := 2) [.aload 0, .iconst (-1)] (by decide +kernel) ?_
  show pw_V x m_X7_seatings 11 Z 2 [(0, .ref 0)] [.int (-1), .ref 0] mm
  refine pw_cV (vs := [.int (-1)]) (rest := []) k_X7_prepareSearch (c_prepareSearch none mm hok (fun c hc => by cases hc)) l_7_197 rfl rfl rfl rfl (by omega) (Nat.le_of_ble_eq_true rfl) (by decide +kernel) ?_
  rintro _ m1 ⟨rfl, e1⟩
  rw [e1]
  clear e1 m1
  show pw_V x m_X7_seatings 11 Z 5 [(0, .ref 0)] [] (pw_psI mm none (pw_k mm))
  refine pw_blk (pc' := 9) [.aload 0, .getfield 705] (by decide +kernel) ?_
  show pw_V x m_X7_seatings 11 Z 9 [(0, .ref 0)] [.ref 20] (pw_psI mm none (pw_k mm))
  refine pw_cV (vs := []) (rest := []) k_X4_ways (c_ways (pw_psI mm none (pw_k mm)) (pw_SC_ps hok none)) l_7_200 rfl rfl rfl rfl (by omega) (Nat.le_of_ble_eq_true rfl) (by decide +kernel) ?_
  rintro _ m1 ⟨rfl, e1⟩
  show pw_V x m_X7_seatings 11 Z 12 [(0, .ref 0)] [.int (nI (F_wy mm none))] m1
  rw [← hZ]
  refine pw_ri (by decide +kernel) ?_
  exact ⟨rfl, fun c hc => by rw [e1 c (by omega), pw_fr_ps c hc]⟩

set_option maxHeartbeats 4000000 in
set_option maxRecDepth 100000 in
theorem c_seatOf (k : Int32) (mm : pw_m) (hok : pw_ok mm) : pw_Ct 11 yX7_seatOf m_X7_seatOf [.ref 0, .int k] mm (fun r m' => r = some (.int (F_seatOf mm k)) ∧ pw_fr_ mm m') := by
  refine pw_ct (by decide +kernel) rfl (Nat.le_of_ble_eq_true rfl) (fun x => ?_)
  generalize hZ : pw_Z x _ = Z
  have bn := pw_bn hok
  have bk := pw_bk hok
  have bt := pw_b421' hok
  show pw_V x m_X7_seatOf 11 Z 0 [(0, .ref 0), (1, .int k)] [] mm
  refine pw_blk (pc' := 2) [.aload 0, .iload 1] (by decide +kernel) ?_
  show pw_V x m_X7_seatOf 11 Z 2 [(0, .ref 0), (1, .int k)] [.int k, .ref 0] mm
  refine pw_cV (vs := [.int k]) (rest := []) k_X7_isKnight (c_isKnight k mm hok) l_7_106 rfl rfl rfl rfl (by omega) (Nat.le_of_ble_eq_true rfl) (by decide +kernel) ?_
  rintro _ m1 ⟨rfl, e1⟩
  rw [e1]
  clear e1 m1
  show pw_V x m_X7_seatOf 11 Z 5 [(0, .ref 0), (1, .int k)] [.int (pw_b (pw_inr k (pw_k mm)))] mm
  refine pw_ib_ne (tgt := 11) (off := 6) (by decide +kernel) (by decide) (fun h5 => ?_) (fun h5 => ?_)
  · obtain ⟨j5, b5, e5⟩ := pw_inr_t (by omega) h5
    subst e5
    refine pw_blk (pc' := 13) [.aload 0, .iconst (-1)] (by decide +kernel) ?_
    show pw_V x m_X7_seatOf 11 Z 13 [(0, .ref 0), (1, .int (nI j5))] [.int (-1), .ref 0] mm
    refine pw_cV (vs := [.int (-1)]) (rest := []) k_X7_prepareSearch (c_prepareSearch none mm hok (fun c hc => by cases hc)) l_7_197 rfl rfl rfl rfl (by omega) (Nat.le_of_ble_eq_true rfl) (by decide +kernel) ?_
    rintro _ m1 ⟨rfl, e1⟩
    rw [e1]
    clear e1 m1
    show pw_V x m_X7_seatOf 11 Z 16 [(0, .ref 0), (1, .int (nI j5))] [] (pw_psI mm none (pw_k mm))
    refine pw_blk (pc' := 24) [.aload 0, .getfield 702, .getfield 1, .iload 1] (by decide +kernel) ?_
    show pw_V x m_X7_seatOf 11 Z 24 [(0, .ref 0), (1, .int (nI j5))] [.int (nI j5), .int (mm 42 1)] (pw_psI mm none (pw_k mm))
    rw [show mm 42 1 = nI (pw_g mm 42 1) from pw_q421 hok]
    refine pw_cS (vs := [.int (nI (pw_g mm 42 1)), .int (nI j5)]) (rest := []) k_X7_has (c_has (nI (pw_g mm 42 1)) (nI j5) (pw_psI mm none (pw_k mm))) l_7_124 rfl (by omega) (Nat.le_of_ble_eq_true rfl) (by decide +kernel) ?_
    rintro _ m1 ⟨rfl, e1⟩
    rw [e1]
    clear e1 m1
    show pw_V x m_X7_seatOf 11 Z 27 [(0, .ref 0), (1, .int (nI j5))] [.int (pw_b (pw_hs (nI (pw_g mm 42 1)) (nI j5)))] (pw_psI mm none (pw_k mm))
    rw [pw_hs_n (by omega) (by omega)]
    refine pw_ib_eq (tgt := 40) (off := 13) (by decide +kernel) (by decide) (fun h27 => ?_) (fun h27 => ?_)
    · refine pw_blk (pc' := 41) [.iconst (-1)] (by decide +kernel) ?_
      show pw_V x m_X7_seatOf 11 Z 41 [(0, .ref 0), (1, .int (nI j5))] [.int (-1)] (pw_psI mm none (pw_k mm))
      rw [← hZ]
      refine pw_ri (by decide +kernel) ?_
      exact ⟨by simp [F_seatOf, pw_inr_nI (show j5 < 2 ^ 31 by omega) (show pw_k mm < 2 ^ 31 by omega), pw_c_nI (show j5 < 2 ^ 31 by omega), b5, h27], pw_fr_ps⟩
    · refine pw_blk (pc' := 34) [.aload 0, .getfield 705] (by decide +kernel) ?_
      show pw_V x m_X7_seatOf 11 Z 34 [(0, .ref 0), (1, .int (nI j5))] [.ref 20] (pw_psI mm none (pw_k mm))
      refine pw_cV (vs := []) (rest := []) k_X4_first (c_first (pw_psI mm none (pw_k mm)) (pw_SC_ps hok none)) l_7_203 rfl rfl rfl rfl (by omega) (Nat.le_of_ble_eq_true rfl) (by decide +kernel) ?_
      rintro _ m1 ⟨rfl, e1, e3⟩
      show pw_V x m_X7_seatOf 11 Z 37 [(0, .ref 0), (1, .int (nI j5))] [.int (pw_b ((F_ft mm).isSome))] m1
      refine pw_ib_ne (tgt := 42) (off := 5) (by decide +kernel) (by decide) (fun h37 => ?_) (fun h37 => ?_)
      · refine pw_blk (pc' := 51) [.aload 0, .getfield 705, .getfield 405, .iload 1, .iaload] (by decide +kernel) ?_
        refine ⟨j5, rfl, by omega, ?_⟩
        show pw_V x m_X7_seatOf 11 Z 51 [(0, .ref 0), (1, .int (nI j5))] [.int (m1 23 j5)] m1
        rw [← hZ]
        refine pw_ri (by decide +kernel) ?_
        obtain ⟨a, ha⟩ := Option.isSome_iff_exists.mp h37
        refine ⟨?_, fun c hc => by rw [e1 c (by omega), pw_fr_ps c hc]⟩
        rw [(e3 a ha j5 (by omega) h27).1]
        simp [F_seatOf, ha, pw_inr_nI (show j5 < 2 ^ 31 by omega) (show pw_k mm < 2 ^ 31 by omega), pw_c_nI (show j5 < 2 ^ 31 by omega), b5, h27]
      · refine pw_blk (pc' := 41) [.iconst (-1)] (by decide +kernel) ?_
        show pw_V x m_X7_seatOf 11 Z 41 [(0, .ref 0), (1, .int (nI j5))] [.int (-1)] m1
        rw [← hZ]
        refine pw_ri (by decide +kernel) ?_
        refine ⟨?_, fun c hc => by rw [e1 c (by omega), pw_fr_ps c hc]⟩
        have hn : F_ft mm = none := by simpa using h37
        simp [F_seatOf, hn, pw_inr_nI (show j5 < 2 ^ 31 by omega) (show pw_k mm < 2 ^ 31 by omega), pw_c_nI (show j5 < 2 ^ 31 by omega), b5, h27]
  · refine pw_blk (pc' := 10) [.iconst (-2)] (by decide +kernel) ?_
    show pw_V x m_X7_seatOf 11 Z 10 [(0, .ref 0), (1, .int k)] [.int (-2)] mm
    rw [← hZ]
    refine pw_ri (by decide +kernel) ?_
    exact ⟨by simp [F_seatOf, h5], fun c hc => rfl⟩

set_option maxHeartbeats 4000000 in
set_option maxRecDepth 100000 in
theorem c_moved (mm : pw_m) (hok : pw_ok mm) : pw_Ct 11 yX7_moved m_X7_moved [.ref 0] mm (fun r m' => r = some (.int (F_moved mm)) ∧ pw_fr_ mm m') := by
  refine pw_ct (by decide +kernel) rfl (Nat.le_of_ble_eq_true rfl) (fun x => ?_)
  generalize hZ : pw_Z x _ = Z
  have bn := pw_bn hok
  have bk := pw_bk hok
  show pw_V x m_X7_moved 11 Z 0 [(0, .ref 0)] [] mm
  refine pw_blk (pc' := 2) [.aload 0, .iconst (-1)] (by decide +kernel) ?_
  show pw_V x m_X7_moved 11 Z 2 [(0, .ref 0)] [.int (-1), .ref 0] mm
  refine pw_cV (vs := [.int (-1)]) (rest := []) k_X7_prepareSearch (c_prepareSearch none mm hok (fun c hc => by cases hc)) l_7_197 rfl rfl rfl rfl (by omega) (Nat.le_of_ble_eq_true rfl) (by decide +kernel) ?_
  rintro _ m1 ⟨rfl, e1⟩
  rw [e1]
  clear e1 m1
  show pw_V x m_X7_moved 11 Z 5 [(0, .ref 0)] [] (pw_psI mm none (pw_k mm))
  refine pw_blk (pc' := 9) [.aload 0, .getfield 705] (by decide +kernel) ?_
  show pw_V x m_X7_moved 11 Z 9 [(0, .ref 0)] [.ref 20] (pw_psI mm none (pw_k mm))
  refine pw_cV (vs := []) (rest := []) k_X4_fewestAway (c_fewestAway (pw_psI mm none (pw_k mm)) (pw_SC_ps hok none)) l_7_208 rfl rfl rfl rfl (by omega) (Nat.le_of_ble_eq_true rfl) (by decide +kernel) ?_
  rintro _ m1 ⟨rfl, e1⟩
  show pw_V x m_X7_moved 11 Z 12 [(0, .ref 0)] [.int (F_moved mm)] m1
  rw [← hZ]
  refine pw_ri (by decide +kernel) ?_
  exact ⟨rfl, fun c hc => by rw [e1 c (by omega), pw_fr_ps c hc]⟩

set_option maxHeartbeats 4000000 in
set_option maxRecDepth 100000 in
theorem c_knows (w : Int32) (mm : pw_m) (hok : pw_ok mm) : pw_Ct 11 yX7_knows m_X7_knows [.ref 0, .int w] mm (fun r m' => r = some (.int (F_knows mm w)) ∧ pw_fr_ mm m') := by
  refine pw_ct (by decide +kernel) rfl (Nat.le_of_ble_eq_true rfl) (fun x => ?_)
  generalize hZ : pw_Z x _ = Z
  have bn := pw_bn hok
  have bk := pw_bk hok
  have h0k := hok
  have hok1 : pw_ok (pw_psI mm none (pw_k mm)) := pw_ok_ps hok
  have bkb : ∀ w, pw_ob (pw_kn mm w) (pw_k mm) < 64 := fun w => Nat.lt_of_lt_of_le pw_ob_lt (Nat.pow_le_pow_right (by omega) bk : 2 ^ pw_k mm ≤ 2 ^ 6)
  show pw_V x m_X7_knows 11 Z 0 [(0, .ref 0), (1, .int w)] [] mm
  refine pw_blk (pc' := 1) [.iload 1] (by decide +kernel) ?_
  show pw_V x m_X7_knows 11 Z 1 [(0, .ref 0), (1, .int w)] [.int w] mm
  refine pw_cS (vs := [.int w]) (rest := []) k_X7_isNews (c_isNews w mm) l_7_169 rfl (by omega) (Nat.le_of_ble_eq_true rfl) (by decide +kernel) ?_
  rintro _ m1 ⟨rfl, e1⟩
  rw [e1]
  clear e1 m1
  show pw_V x m_X7_knows 11 Z 4 [(0, .ref 0), (1, .int w)] [.int (pw_b (pw_inr w 4))] mm
  refine pw_ib_ne (tgt := 10) (off := 6) (by decide +kernel) (by decide) (fun h4 => ?_) (fun h4 => ?_)
  · obtain ⟨j4, b4, e4⟩ := pw_inr_t (by omega) h4
    subst e4
    refine pw_blk (pc' := 12) [.aload 0, .iconst (-1)] (by decide +kernel) ?_
    show pw_V x m_X7_knows 11 Z 12 [(0, .ref 0), (1, .int (nI j4))] [.int (-1), .ref 0] mm
    refine pw_cV (vs := [.int (-1)]) (rest := []) k_X7_prepareSearch (c_prepareSearch none mm hok (fun c hc => by cases hc)) l_7_197 rfl rfl rfl rfl (by omega) (Nat.le_of_ble_eq_true rfl) (by decide +kernel) ?_
    rintro _ m1 ⟨rfl, e1⟩
    rw [e1]
    clear e1 m1
    show pw_V x m_X7_knows 11 Z 15 [(0, .ref 0), (1, .int (nI j4))] [] (pw_psI mm none (pw_k mm))
    refine pw_blk (pc' := 21) [.aload 0, .getfield 705, .aload 0, .iload 1] (by decide +kernel) ?_
    show pw_V x m_X7_knows 11 Z 21 [(0, .ref 0), (1, .int (nI j4))] [.int (nI j4), .ref 0, .ref 20] (pw_psI mm none (pw_k mm))
    refine pw_cV (vs := [.int (nI j4)]) (rest := [.ref 20]) k_X7_whoKnows (c_whoKnows j4 (pw_psI mm none (pw_k mm)) hok1 (by omega)) l_7_211 rfl rfl rfl rfl (by omega) (Nat.le_of_ble_eq_true rfl) (by decide +kernel) ?_
    rintro _ m1 ⟨rfl, e1⟩
    rw [e1]
    clear e1 m1
    show pw_V x m_X7_knows 11 Z 24 [(0, .ref 0), (1, .int (nI j4))] [.int (nI (pw_ob (pw_kn mm j4) (pw_k mm))), .ref 20] (pw_psI mm none (pw_k mm))
    refine pw_cV (vs := [.int (nI (pw_ob (pw_kn mm j4) (pw_k mm)))]) (rest := []) k_X4_mostKnow (c_mostKnow (pw_ob (pw_kn mm j4) (pw_k mm)) (pw_psI mm none (pw_k mm)) (pw_SC_ps h0k none) (bkb _)) l_7_214 rfl rfl rfl rfl (by omega) (Nat.le_of_ble_eq_true rfl) (by decide +kernel) ?_
    rintro _ m1 ⟨rfl, e1⟩
    show pw_V x m_X7_knows 11 Z 27 [(0, .ref 0), (1, .int (nI j4))] [.int (pw_o (F_mo mm j4))] m1
    rw [← hZ]
    refine pw_ri (by decide +kernel) ?_
    refine ⟨?_, fun c hc => by rw [e1 c (by omega) (by omega), pw_fr_ps c hc]⟩
    simp [F_knows, pw_inr_nI (show j4 < 2 ^ 31 by omega) (show 4 < 2 ^ 31 by omega), pw_c_nI (show j4 < 2 ^ 31 by omega), b4]
  · refine pw_blk (pc' := 9) [.iconst (-3)] (by decide +kernel) ?_
    show pw_V x m_X7_knows 11 Z 9 [(0, .ref 0), (1, .int w)] [.int (-3)] mm
    rw [← hZ]
    refine pw_ri (by decide +kernel) ?_
    exact ⟨by simp [F_knows, h4], fun c hc => rfl⟩

set_option maxHeartbeats 4000000 in
set_option maxRecDepth 100000 in
theorem c_lent (s : Int32) (mm : pw_m) (hok : pw_ok mm) : pw_Ct 11 yX7_lent m_X7_lent [.ref 0, .int s] mm (fun r m' => r = some (.int (F_lent mm s)) ∧ pw_fr_ mm m') := by
  refine pw_ct (by decide +kernel) rfl (Nat.le_of_ble_eq_true rfl) (fun x => ?_)
  generalize hZ : pw_Z x _ = Z
  have bn := pw_bn hok
  have bk := pw_bk hok
  show pw_V x m_X7_lent 11 Z 0 [(0, .ref 0), (1, .int s)] [] mm
  refine pw_blk (pc' := 2) [.aload 0, .iload 1] (by decide +kernel) ?_
  show pw_V x m_X7_lent 11 Z 2 [(0, .ref 0), (1, .int s)] [.int s, .ref 0] mm
  refine pw_cV (vs := [.int s]) (rest := []) k_X7_isSeat (c_isSeat s mm hok) l_7_86 rfl rfl rfl rfl (by omega) (Nat.le_of_ble_eq_true rfl) (by decide +kernel) ?_
  rintro _ m1 ⟨rfl, e1⟩
  rw [e1]
  clear e1 m1
  show pw_V x m_X7_lent 11 Z 5 [(0, .ref 0), (1, .int s)] [.int (pw_b (pw_inr s (pw_n mm)))] mm
  refine pw_ib_ne (tgt := 11) (off := 6) (by decide +kernel) (by decide) (fun h5 => ?_) (fun h5 => ?_)
  · obtain ⟨j5, b5, e5⟩ := pw_inr_t (by omega) h5
    subst e5
    refine pw_blk (pc' := 13) [.aload 0, .iconst (-1)] (by decide +kernel) ?_
    show pw_V x m_X7_lent 11 Z 13 [(0, .ref 0), (1, .int (nI j5))] [.int (-1), .ref 0] mm
    refine pw_cV (vs := [.int (-1)]) (rest := []) k_X7_prepareSearch (c_prepareSearch none mm hok (fun c hc => by cases hc)) l_7_197 rfl rfl rfl rfl (by omega) (Nat.le_of_ble_eq_true rfl) (by decide +kernel) ?_
    rintro _ m1 ⟨rfl, e1⟩
    rw [e1]
    clear e1 m1
    show pw_V x m_X7_lent 11 Z 16 [(0, .ref 0), (1, .int (nI j5))] [] (pw_psI mm none (pw_k mm))
    refine pw_blk (pc' := 20) [.aload 0, .getfield 705] (by decide +kernel) ?_
    show pw_V x m_X7_lent 11 Z 20 [(0, .ref 0), (1, .int (nI j5))] [.ref 20] (pw_psI mm none (pw_k mm))
    refine pw_cV (vs := []) (rest := []) k_X4_ways (c_ways (pw_psI mm none (pw_k mm)) (pw_SC_ps hok none)) l_7_200 rfl rfl rfl rfl (by omega) (Nat.le_of_ble_eq_true rfl) (by decide +kernel) ?_
    rintro _ m1 ⟨rfl, e1⟩
    show pw_V x m_X7_lent 11 Z 23 [(0, .ref 0), (1, .int (nI j5))] [.int (nI (F_wy mm none))] m1
    refine pw_blk (pc' := 24) [.istore 2] (by decide +kernel) ?_
    show pw_V x m_X7_lent 11 Z 24 [(2, .int (nI (F_wy mm none))), (0, .ref 0), (1, .int (nI j5))] [] m1
    have f1 : pw_fr_ mm m1 := fun c hc => by rw [e1 c (by omega), pw_fr_ps c hc]
    have hok2 : pw_ok m1 := pw_fr_ok f1 hok
    refine pw_blk (pc' := 26) [.aload 0, .iload 1] (by decide +kernel) ?_
    show pw_V x m_X7_lent 11 Z 26 [(2, .int (nI (F_wy mm none))), (0, .ref 0), (1, .int (nI j5))] [.int (nI j5), .ref 0] m1
    refine pw_cV (vs := [.int (nI j5)]) (rest := []) k_X7_prepareSearch (c_prepareSearch (some j5) m1 hok2 (fun c hc => by cases hc; omega)) l_7_197 rfl rfl rfl rfl (by omega) (Nat.le_of_ble_eq_true rfl) (by decide +kernel) ?_
    rintro _ m2 ⟨rfl, e2⟩
    show pw_V x m_X7_lent 11 Z 29 [(2, .int (nI (F_wy mm none))), (0, .ref 0), (1, .int (nI j5))] [] m2
    refine pw_blk (pc' := 33) [.aload 0, .getfield 705] (by decide +kernel) ?_
    show pw_V x m_X7_lent 11 Z 33 [(2, .int (nI (F_wy mm none))), (0, .ref 0), (1, .int (nI j5))] [.ref 20] m2
    refine pw_cV (vs := []) (rest := []) k_X4_ways (c_ways m2 (by rw [e2]; exact pw_SC_ps hok2 (some j5))) l_7_200 rfl rfl rfl rfl (by omega) (Nat.le_of_ble_eq_true rfl) (by decide +kernel) ?_
    rintro _ m3 ⟨rfl, e3⟩
    show pw_V x m_X7_lent 11 Z 36 [(2, .int (nI (F_wy mm none))), (0, .ref 0), (1, .int (nI j5))] [.int (nI (F_wy m1 (some j5)))] m3
    refine pw_blk (pc' := 38) [.iload 2, .isub] (by decide +kernel) ?_
    show pw_V x m_X7_lent 11 Z 38 [(2, .int (nI (F_wy mm none))), (0, .ref 0), (1, .int (nI j5))] [.int ((nI (F_wy m1 (some j5))) - (nI (F_wy mm none)))] m3
    rw [← hZ]
    refine pw_ri (by decide +kernel) ?_
    refine ⟨?_, fun c hc => by rw [e3 c (by omega), e2, pw_fr_ps c hc, f1 c hc]⟩
    rw [F_wy_c f1]
    simp [F_lent, pw_inr_nI (show j5 < 2 ^ 31 by omega) (show pw_n mm < 2 ^ 31 by omega), pw_c_nI (show j5 < 2 ^ 31 by omega), b5]
  · refine pw_blk (pc' := 10) [.iconst (-2)] (by decide +kernel) ?_
    show pw_V x m_X7_lent 11 Z 10 [(0, .ref 0), (1, .int s)] [.int (-2)] mm
    rw [← hZ]
    refine pw_ri (by decide +kernel) ?_
    exact ⟨by simp [F_lent, h5], fun c hc => rfl⟩
end
section
/-! what is seen: worlds -/
section PWQ3
variable {A : pw_m}
theorem pw_q15 (h : pw_ok A) {i : Nat} (hi : i < pw_g A 14 4) : A 15 i = nI (pw_g A 15 i) := (h.2.2.2.1.2 i hi).1.1.1
theorem pw_b15 (h : pw_ok A) {i : Nat} (hi : i < pw_g A 14 4) : pw_g A 15 i < pw_k A := (h.2.2.2.1.2 i hi).1.1.2
theorem pw_q16 (h : pw_ok A) {i : Nat} (hi : i < pw_g A 14 4) : A 16 i = nI (pw_g A 16 i) := (h.2.2.2.1.2 i hi).1.2.1
theorem pw_b16 (h : pw_ok A) {i : Nat} (hi : i < pw_g A 14 4) : pw_g A 16 i < pw_n A := (h.2.2.2.1.2 i hi).1.2.2
theorem pw_q17 (h : pw_ok A) {i : Nat} (hi : i < pw_g A 14 4) : A 17 i = nI (pw_g A 17 i) := (h.2.2.2.1.2 i hi).2.1.1
theorem pw_b17 (h : pw_ok A) {i : Nat} (hi : i < pw_g A 14 4) : pw_g A 17 i < 1000 := (h.2.2.2.1.2 i hi).2.1.2
def pw_tk (A : pw_m) (i : Nat) : Bool := decide (A 18 i = 1)
theorem pw_q18 (h : pw_ok A) {i : Nat} (hi : i < pw_g A 14 4) : A 18 i = pw_b (pw_tk A i) := by
  unfold pw_tk
  rcases (h.2.2.2.1.2 i hi).2.2 with e | e <;> rw [e] <;> decide
end PWQ3
def pw_al (p : Nat → Bool) : Nat → Bool
  | 0 => true
  | n + 1 => pw_al p n && p n
theorem pw_al_f {p : Nat → Bool} {i n : Nat} (h : pw_al p i = false) (hn : i ≤ n) : pw_al p n = false := by
  induction n with
  | zero => have : i = 0 := by omega
            subst this; exact h
  | succ n ih =>
    rcases Nat.lt_or_ge n i with q | q
    · have : i = n + 1 := by omega
      subst this; exact h
    · simp [pw_al, ih q]
theorem pw_al_congr {p q : Nat → Bool} {n : Nat} (h : ∀ i, i < n → p i = q i) : pw_al p n = pw_al q n := by
  induction n with
  | zero => rfl
  | succ n ih => simp only [pw_al]; rw [ih (fun i hi => h i (by omega)), h n (by omega)]
/-- one that is seen fits: where, step, for whom -/
def pw_iw (A : pw_m) (st sp : Nat) (q : Option Nat) (i : Nat) : Bool := (decide (pw_per (pw_n A) st sp (pw_g A 17 i) = some (pw_g A 16 i)) && !decide (q = some (pw_g A 15 i))) == pw_tk A i
def pw_isW (A : pw_m) (st sp : Nat) (q : Option Nat) : Bool := pw_al (pw_iw A st sp q) (pw_g A 14 4)

set_option maxHeartbeats 4000000 in
set_option maxRecDepth 100000 in
theorem c_isWorld (st sp : Nat) (q : Option Nat) (mm : pw_m) (hok : pw_ok mm) (hst : st < 8) (hsp : sp < 8) (hq : ∀ c, q = some c → c < 6) : pw_Ct 1 yX6_isWorld m_X6_isWorld [.ref 14, .ref 4, .int (nI st), .int (nI sp), .int (pw_o (q))] mm (fun r m' => r = some (.int (pw_b (pw_isW mm st sp q))) ∧ m' = mm) := by
  refine pw_ct (by decide +kernel) rfl (Nat.le_of_ble_eq_true rfl) (fun x => ?_)
  generalize hZ : pw_Z x _ = Z
  have bn := pw_bn hok
  have bk := pw_bk hok
  have b14 := pw_b144 hok
  have loop : ∀ i : Nat, i ≤ pw_g mm 14 4 → pw_al (pw_iw mm st sp q) i = true → pw_V x m_X6_isWorld 1 Z 3 [(0, .ref 14), (1, .ref 4), (2, .int (nI st)), (3, .int (nI sp)), (4, .int (pw_o (q))), (5, .int (nI i))] [] mm := by
    refine pw_dn (pw_g mm 14 4) (fun i hi ih ha => ?_)
    refine pw_blk (pc' := 9) [.iload 5, .aload 0, .getfield 604] (by decide +kernel) ?_
    show pw_V x m_X6_isWorld 1 Z 9 [(0, .ref 14), (1, .ref 4), (2, .int (nI st)), (3, .int (nI sp)), (4, .int (pw_o (q))), (5, .int (nI i))] [.int (mm 14 4), .int (nI i)] mm
    rw [show mm 14 4 = nI (pw_g mm 14 4) from pw_q144 hok]
    refine pw_in_ge (tgt := 74) (off := 65) (by omega) (by omega) (by decide +kernel) (by decide) (fun h9 => ?_) (fun h9 => ?_)
    · refine pw_blk (pc' := 75) [.iconst 1] (by decide +kernel) ?_
      show pw_V x m_X6_isWorld 1 Z 75 [(0, .ref 14), (1, .ref 4), (2, .int (nI st)), (3, .int (nI sp)), (4, .int (pw_o (q))), (5, .int (nI i))] [.int (nI 1)] mm
      rw [← hZ]
      refine pw_rz (by decide +kernel) (Or.inr rfl) ?_
      have e : i = pw_g mm 14 4 := by omega
      subst e
      refine ⟨?_, rfl⟩
      rw [show pw_isW mm st sp q = true from ha]; rfl
    · have b15 := pw_b15 hok h9
      have b16 := pw_b16 hok h9
      have b17 := pw_b17 hok h9
      have bm := pw_mulb hsp b17
      refine pw_blk (pc' := 22) [.aload 1, .iload 2, .iload 3, .aload 0, .getfield 602, .iload 5, .iaload] (by decide +kernel) ?_
      refine ⟨i, rfl, by omega, ?_⟩
      show pw_V x m_X6_isWorld 1 Z 22 [(0, .ref 14), (1, .ref 4), (2, .int (nI st)), (3, .int (nI sp)), (4, .int (pw_o (q))), (5, .int (nI i))] [.int (mm 17 i), .int (nI sp), .int (nI st), .ref 4] mm
      rw [show mm 17 i = nI (pw_g mm 17 i) from pw_q17 hok (by omega)]
      refine pw_cV (vs := [.int (nI st), .int (nI sp), .int (nI (pw_g mm 17 i))]) (rest := []) k_X5_perilFrom (c_perilFrom st sp (pw_g mm 17 i) mm hok (by omega)) l_6_46 rfl rfl rfl rfl (by omega) (Nat.le_of_ble_eq_true rfl) (by decide +kernel) ?_
      rintro _ m1 ⟨rfl, e1⟩
      rw [e1]
      clear e1 m1
      show pw_V x m_X6_isWorld 1 Z 25 [(0, .ref 14), (1, .ref 4), (2, .int (nI st)), (3, .int (nI sp)), (4, .int (pw_o (q))), (5, .int (nI i))] [.int (pw_o (pw_per (pw_n mm) st sp (pw_g mm 17 i)))] mm
      refine pw_blk (pc' := 32) [.aload 0, .getfield 601, .iload 5, .iaload] (by decide +kernel) ?_
      refine ⟨i, rfl, by omega, ?_⟩
      show pw_V x m_X6_isWorld 1 Z 32 [(0, .ref 14), (1, .ref 4), (2, .int (nI st)), (3, .int (nI sp)), (4, .int (pw_o (q))), (5, .int (nI i))] [.int (mm 16 i), .int (pw_o (pw_per (pw_n mm) st sp (pw_g mm 17 i)))] mm
      rw [show mm 16 i = nI (pw_g mm 16 i) from pw_q16 hok (by omega)]
      refine pw_on_ne (tgt := 51) (off := 19) (by decide +kernel) (by decide) (fun a ha => Nat.lt_trans (pw_perb ha) (by omega)) (by omega) (fun h32 => ?_) (fun h32 => ?_)
      · refine pw_blk (pc' := 63) [.iconst 0, .istore 6, .iload 6, .aload 0, .getfield 603, .iload 5, .baload] (by decide +kernel) ?_
        refine ⟨i, rfl, by omega, ?_⟩
        show pw_V x m_X6_isWorld 1 Z 63 [(6, .int (nI 0)), (0, .ref 14), (1, .ref 4), (2, .int (nI st)), (3, .int (nI sp)), (4, .int (pw_o (q))), (5, .int (nI i))] [.int (mm 18 i), .int (nI 0)] mm
        rw [show mm 18 i = pw_b (pw_tk mm i) from pw_q18 hok (by omega)]
        refine pw_ic_eq (tgt := 68) (off := 5) (by decide +kernel) (by decide) (fun h63 => ?_) (fun h63 => ?_)
        · refine pw_blk (pc' := 71) [.iinc 5 1] (by decide +kernel) ?_
          show pw_V x m_X6_isWorld 1 Z 71 [(5, .int ((nI i) + (nI 1))), (6, .int (nI 0)), (0, .ref 14), (1, .ref 4), (2, .int (nI st)), (3, .int (nI sp)), (4, .int (pw_o (q)))] [] mm
          rw [show (nI i) + (nI 1) = nI (i + 1) from nI_add _ _]
          refine pw_goto (tgt := 3) (off := -68) (by decide +kernel) (by decide) ?_
          have e9 : pw_iw mm st sp q i = true := by simp [pw_iw, h32]; revert h63; cases pw_tk mm i <;> decide
          refine pw_lvp [2, 3, 4, 5, 6, 0] rfl ?_
          exact ih (by omega) (by simp [pw_al, ha, e9])
        · refine pw_blk (pc' := 67) [.iconst 0] (by decide +kernel) ?_
          show pw_V x m_X6_isWorld 1 Z 67 [(6, .int (nI 0)), (0, .ref 14), (1, .ref 4), (2, .int (nI st)), (3, .int (nI sp)), (4, .int (pw_o (q))), (5, .int (nI i))] [.int (nI 0)] mm
          rw [← hZ]
          refine pw_rz (by decide +kernel) (Or.inl rfl) ?_
          have e9 : pw_iw mm st sp q i = false := by simp [pw_iw, h32]; revert h63; cases pw_tk mm i <;> decide
          refine ⟨?_, rfl⟩
          rw [show pw_isW mm st sp q = false from pw_al_f (i := i + 1) (by simp [pw_al, e9]) (by omega)]; rfl
      · refine pw_blk (pc' := 44) [.iload 4, .aload 0, .getfield 600, .iload 5, .iaload] (by decide +kernel) ?_
        refine ⟨i, rfl, by omega, ?_⟩
        show pw_V x m_X6_isWorld 1 Z 44 [(0, .ref 14), (1, .ref 4), (2, .int (nI st)), (3, .int (nI sp)), (4, .int (pw_o (q))), (5, .int (nI i))] [.int (mm 15 i), .int (pw_o (q))] mm
        rw [show mm 15 i = nI (pw_g mm 15 i) from pw_q15 hok (by omega)]
        refine pw_on_eq (tgt := 51) (off := 7) (by decide +kernel) (by decide) (fun a ha => Nat.lt_trans (hq _ ha) (by omega)) (by omega) (fun h44 => ?_) (fun h44 => ?_)
        · refine pw_blk (pc' := 63) [.iconst 0, .istore 6, .iload 6, .aload 0, .getfield 603, .iload 5, .baload] (by decide +kernel) ?_
          refine ⟨i, rfl, by omega, ?_⟩
          show pw_V x m_X6_isWorld 1 Z 63 [(6, .int (nI 0)), (0, .ref 14), (1, .ref 4), (2, .int (nI st)), (3, .int (nI sp)), (4, .int (pw_o (q))), (5, .int (nI i))] [.int (mm 18 i), .int (nI 0)] mm
          rw [show mm 18 i = pw_b (pw_tk mm i) from pw_q18 hok (by omega)]
          refine pw_ic_eq (tgt := 68) (off := 5) (by decide +kernel) (by decide) (fun h63 => ?_) (fun h63 => ?_)
          · refine pw_blk (pc' := 71) [.iinc 5 1] (by decide +kernel) ?_
            show pw_V x m_X6_isWorld 1 Z 71 [(5, .int ((nI i) + (nI 1))), (6, .int (nI 0)), (0, .ref 14), (1, .ref 4), (2, .int (nI st)), (3, .int (nI sp)), (4, .int (pw_o (q)))] [] mm
            rw [show (nI i) + (nI 1) = nI (i + 1) from nI_add _ _]
            refine pw_goto (tgt := 3) (off := -68) (by decide +kernel) (by decide) ?_
            have e9 : pw_iw mm st sp q i = true := by simp [pw_iw, h32, h44]; revert h63; cases pw_tk mm i <;> decide
            refine pw_lvp [2, 3, 4, 5, 6, 0] rfl ?_
            exact ih (by omega) (by simp [pw_al, ha, e9])
          · refine pw_blk (pc' := 67) [.iconst 0] (by decide +kernel) ?_
            show pw_V x m_X6_isWorld 1 Z 67 [(6, .int (nI 0)), (0, .ref 14), (1, .ref 4), (2, .int (nI st)), (3, .int (nI sp)), (4, .int (pw_o (q))), (5, .int (nI i))] [.int (nI 0)] mm
            rw [← hZ]
            refine pw_rz (by decide +kernel) (Or.inl rfl) ?_
            have e9 : pw_iw mm st sp q i = false := by simp [pw_iw, h32, h44]; revert h63; cases pw_tk mm i <;> decide
            refine ⟨?_, rfl⟩
            rw [show pw_isW mm st sp q = false from pw_al_f (i := i + 1) (by simp [pw_al, e9]) (by omega)]; rfl
        · refine pw_blk (pc' := 48) [.iconst 1] (by decide +kernel) ?_
          show pw_V x m_X6_isWorld 1 Z 48 [(0, .ref 14), (1, .ref 4), (2, .int (nI st)), (3, .int (nI sp)), (4, .int (pw_o (q))), (5, .int (nI i))] [.int (nI 1)] mm
          refine pw_goto (tgt := 52) (off := 4) (by decide +kernel) (by decide) ?_
          refine pw_blk (pc' := 63) [.istore 6, .iload 6, .aload 0, .getfield 603, .iload 5, .baload] (by decide +kernel) ?_
          refine ⟨i, rfl, by omega, ?_⟩
          show pw_V x m_X6_isWorld 1 Z 63 [(6, .int (nI 1)), (0, .ref 14), (1, .ref 4), (2, .int (nI st)), (3, .int (nI sp)), (4, .int (pw_o (q))), (5, .int (nI i))] [.int (mm 18 i), .int (nI 1)] mm
          rw [show mm 18 i = pw_b (pw_tk mm i) from pw_q18 hok (by omega)]
          refine pw_ic_eq (tgt := 68) (off := 5) (by decide +kernel) (by decide) (fun h63 => ?_) (fun h63 => ?_)
          · refine pw_blk (pc' := 71) [.iinc 5 1] (by decide +kernel) ?_
            show pw_V x m_X6_isWorld 1 Z 71 [(5, .int ((nI i) + (nI 1))), (6, .int (nI 1)), (0, .ref 14), (1, .ref 4), (2, .int (nI st)), (3, .int (nI sp)), (4, .int (pw_o (q)))] [] mm
            rw [show (nI i) + (nI 1) = nI (i + 1) from nI_add _ _]
            refine pw_goto (tgt := 3) (off := -68) (by decide +kernel) (by decide) ?_
            have e9 : pw_iw mm st sp q i = true := by simp [pw_iw, h32, h44]; revert h63; cases pw_tk mm i <;> decide
            refine pw_lvp [2, 3, 4, 5, 6, 0] rfl ?_
            exact ih (by omega) (by simp [pw_al, ha, e9])
          · refine pw_blk (pc' := 67) [.iconst 0] (by decide +kernel) ?_
            show pw_V x m_X6_isWorld 1 Z 67 [(6, .int (nI 1)), (0, .ref 14), (1, .ref 4), (2, .int (nI st)), (3, .int (nI sp)), (4, .int (pw_o (q))), (5, .int (nI i))] [.int (nI 0)] mm
            rw [← hZ]
            refine pw_rz (by decide +kernel) (Or.inl rfl) ?_
            have e9 : pw_iw mm st sp q i = false := by simp [pw_iw, h32, h44]; revert h63; cases pw_tk mm i <;> decide
            refine ⟨?_, rfl⟩
            rw [show pw_isW mm st sp q = false from pw_al_f (i := i + 1) (by simp [pw_al, e9]) (by omega)]; rfl
  show pw_V x m_X6_isWorld 1 Z 0 [(0, .ref 14), (1, .ref 4), (2, .int (nI st)), (3, .int (nI sp)), (4, .int (pw_o (q)))] [] mm
  refine pw_blk (pc' := 3) [.iconst 0, .istore 5] (by decide +kernel) ?_
  show pw_V x m_X6_isWorld 1 Z 3 [(5, .int (nI 0)), (0, .ref 14), (1, .ref 4), (2, .int (nI st)), (3, .int (nI sp)), (4, .int (pw_o (q)))] [] mm
  refine pw_lvp [1, 2, 3, 4, 5, 0] rfl ?_
  exact loop 0 (by omega) rfl

/-- for whom, by the number of the turn: none first -/
def pw_mi (t : Nat) : Option Nat := if t = 0 then none else some (t - 1)
theorem pw_mi_u {t : Nat} : pw_mi (t + 1) = some t := by simp [pw_mi]
theorem pw_mi_s {t : Nat} : pw_o (pw_mi t) + nI 1 = pw_o (pw_mi (t + 1)) := by
  cases t with
  | zero => decide
  | succ u =>
    rw [pw_mi_u, pw_mi_u]
    exact nI_add u 1
theorem pw_mi_inv {t c : Nat} (h : pw_mi t = some c) : t = c + 1 := by
  cases t with
  | zero => cases h
  | succ u => rw [pw_mi_u] at h; cases h; rfl
theorem pw_mi_n {t : Nat} (h : pw_mi t = none) : t = 0 := by
  cases t with
  | zero => rfl
  | succ u => rw [pw_mi_u] at h; cases h
theorem pw_mi_b {t N : Nat} (h : t ≤ N) : ∀ c, pw_mi t = some c → c < N := by
  intro c hc
  unfold pw_mi at hc
  split at hc
  · cases hc
  · cases hc; omega
/-- how many; where; for whom; by seats in how many the guest is in peril -/
abbrev pw_z : Type := Nat × Nat × Nat × (Nat → Nat)
def pw_svm (A : pw_m) (z : pw_z) : pw_m := fun c => if c = 14 then upd (upd (upd (A 14) 5 (nI z.1)) 6 (nI z.2.1)) 7 (nI z.2.2.1) else if c = 19 then (fun k => if k < 8 then nI (z.2.2.2 k) else A 19 k) else A c
theorem pw_svm_o {A : pw_m} {z : pw_z} {c : Nat} (h : c ≠ 14) (h2 : c ≠ 19) : pw_svm A z c = A c := by unfold pw_svm; rw [if_neg h, if_neg h2]
theorem pw_svm_r {A : pw_m} {z : pw_z} {k : Nat} (h : k < 8) : pw_svm A z 19 k = nI (z.2.2.2 k) := by unfold pw_svm; rw [if_neg (by omega), if_pos rfl]; simp only [h, if_true]
theorem pw_svm_n {A : pw_m} {z : pw_z} {k : Nat} (h : ¬ k < 8) : pw_svm A z 19 k = A 19 k := by unfold pw_svm; rw [if_neg (by omega), if_pos rfl]; simp only [h, if_false]
theorem pw_ok_svm {A : pw_m} {z : pw_z} (h : pw_ok A) : pw_ok (pw_svm A z) := pw_ok_f (fun c hc => pw_svm_o (by omega) (by omega)) (by rw [pw_svm_o (by omega) (by omega)]) rfl h
def pw_zb (q : Option Nat) : Nat := match q with
  | none => 6
  | some a => a
def pw_zs (A : pw_m) (dy : Nat) (g : Option Nat) (st sp t : Nat) (z : pw_z) : pw_z := match pw_per (pw_n A) st sp dy with
  | none => z
  | some p => if pw_isW A st sp (pw_mi t) = true then (z.1 + 1, z.2.1 ||| 2 ^ p, z.2.2.1 ||| 2 ^ pw_zb (pw_mi t), fun k => if k = p then z.2.2.2 p + (if pw_mi t = g then 0 else 1) else z.2.2.2 k) else z
def pw_z1 (A : pw_m) (dy : Nat) (g : Option Nat) (st sp : Nat) (z : pw_z) : pw_z := pw_fo (pw_zs A dy g st sp) (pw_k A + 1) z
def pw_z2 (A : pw_m) (dy : Nat) (g : Option Nat) (st : Nat) (z : pw_z) : pw_z := pw_fo (pw_z1 A dy g st) (pw_n A) z
def pw_z3 (A : pw_m) (dy : Nat) (g : Option Nat) : pw_z := pw_fo (pw_z2 A dy g) (pw_n A) (0, 0, 0, fun _ => 0)
theorem pw_svm_s {A : pw_m} {z : pw_z} {a b c p v : Nat} (hp : p < 8) : pw_up (pw_up (pw_up (pw_up (pw_svm A z) 14 5 (nI a)) 14 6 (nI b)) 14 7 (nI c)) 19 p (nI v) = pw_svm A (a, b, c, fun k => if k = p then v else z.2.2.2 k) := by
  funext d
  by_cases h : d = 19
  · subst h
    rw [pw_up_eq, pw_up_ne (by omega), pw_up_ne (by omega), pw_up_ne (by omega)]
    funext k
    by_cases q : k < 8
    · rw [pw_svm_r q]
      unfold upd
      by_cases e : k = p
      · rw [if_pos e]; simp only [if_pos e]
      · rw [if_neg e, pw_svm_r q]; simp only [if_neg e]
    · unfold upd
      rw [if_neg (by omega), pw_svm_n q, pw_svm_n q]
  · rw [pw_up_ne h]
    by_cases h2 : d = 14
    · subst h2
      rw [pw_up_eq, pw_up_eq, pw_up_eq]
      funext k
      simp only [pw_svm, upd, if_true]
      split
      · rfl
      · split
        · rfl
        · split
          · rfl
          · rfl
    · rw [pw_up_ne h2, pw_up_ne h2, pw_up_ne h2, pw_svm_o h2 h, pw_svm_o h2 h]
def pw_svI (A : pw_m) (i : Nat) : pw_m := fun c => if c = 14 then upd (upd (upd (A 14) 5 (nI 0)) 6 (nI 0)) 7 (nI 0) else if c = 19 then pw_c6 (A 19) (fun _ => nI 0) i else A c
theorem pw_svI_0 {A : pw_m} : pw_up (pw_up (pw_up A 14 5 (nI 0)) 14 6 (nI 0)) 14 7 (nI 0) = pw_svI A 0 := by
  funext c
  by_cases h : c = 14
  · subst h; rw [pw_up_eq, pw_up_eq, pw_up_eq]; rfl
  · rw [pw_up_ne h, pw_up_ne h, pw_up_ne h]
    unfold pw_svI
    rw [if_neg h]
    split
    · rename_i e; subst e; rw [pw_c6_0]
    · rfl
theorem pw_svI_s {A : pw_m} {i : Nat} : pw_up (pw_svI A i) 19 i (nI 0) = pw_svI A (i + 1) := by
  funext c
  by_cases h : c = 19
  · subst h; rw [pw_up_eq]; exact pw_c6_s (g := fun _ => nI 0)
  · rw [pw_up_ne h]; unfold pw_svI; rw [if_neg h, if_neg h]
theorem pw_svI_8 {A : pw_m} : pw_svI A 8 = pw_svm A (0, 0, 0, fun _ => 0) := rfl

set_option maxHeartbeats 4000000 in
set_option maxRecDepth 100000 in
theorem c_survey (dy : Nat) (gx : Option Nat) (mm : pw_m) (hok : pw_ok mm) (hdy : dy < 1000) (hgx : ∀ c, gx = some c → c < 6) : pw_Ct 3 yX6_survey m_X6_survey [.ref 14, .ref 4, .int (nI dy), .int (pw_o (gx))] mm (fun r m' => r = none ∧ m' = pw_svm mm (pw_z3 mm dy gx)) := by
  refine pw_ct (by decide +kernel) rfl (Nat.le_of_ble_eq_true rfl) (fun x => ?_)
  generalize hZ : pw_Z x _ = Z
  have bn := pw_bn hok
  have bk := pw_bk hok
  show pw_V x m_X6_survey 3 Z 0 [(0, .ref 14), (1, .ref 4), (2, .int (nI dy)), (3, .int (pw_o (gx)))] [] mm
  refine pw_blk (pc' := 18) [.aload 0, .iconst 0, .putfield 605, .aload 0, .iconst 0, .putfield 606, .aload 0, .iconst 0, .putfield 607, .iconst 0, .istore 4] (by decide +kernel) ?_
  show pw_V x m_X6_survey 3 Z 18 [(4, .int (nI 0)), (0, .ref 14), (1, .ref 4), (2, .int (nI dy)), (3, .int (pw_o (gx)))] [] (pw_up (pw_up (pw_up mm 14 5 (nI 0)) 14 6 (nI 0)) 14 7 (nI 0))
  refine pw_lvp [1, 2, 3, 4, 0] rfl ?_
  rw [pw_svI_0]
  suffices lc : ∀ i : Nat, i ≤ 8 → pw_V x m_X6_survey 3 Z 18 [(0, .ref 14), (1, .ref 4), (2, .int (nI dy)), (3, .int (pw_o (gx))), (4, .int (nI i))] [] (pw_svI mm i) from lc 0 (by omega)
  refine pw_dn 8 (fun i hi ih => ?_)
  refine pw_blk (pc' := 22) [.iload 4, .iconst (8)] (by decide +kernel) ?_
  show pw_V x m_X6_survey 3 Z 22 [(0, .ref 14), (1, .ref 4), (2, .int (nI dy)), (3, .int (pw_o (gx))), (4, .int (nI i))] [.int (nI 8), .int (nI i)] (pw_svI mm i)
  refine pw_in_ge (tgt := 39) (off := 17) (by omega) (by omega) (by decide +kernel) (by decide) (fun h22 => ?_) (fun h22 => ?_)
  · have e8 : i = 8 := by omega
    subst e8
    rw [pw_svI_8]
    refine pw_blk (pc' := 42) [.iconst 0, .istore 4] (by decide +kernel) ?_
    show pw_V x m_X6_survey 3 Z 42 [(4, .int (nI 0)), (0, .ref 14), (1, .ref 4), (2, .int (nI dy)), (3, .int (pw_o (gx)))] [] (pw_svm mm (0, 0, 0, fun _ => 0))
    refine pw_lvp [1, 2, 3, 4, 0] rfl ?_
    suffices lo : ∀ stx : Nat, stx ≤ pw_n mm → pw_V x m_X6_survey 3 Z 42 [(0, .ref 14), (1, .ref 4), (2, .int (nI dy)), (3, .int (pw_o (gx))), (4, .int (nI stx))] [] (pw_svm mm (pw_fo (pw_z2 mm dy gx) stx (0, 0, 0, fun _ => 0))) from lo 0 (by omega)
    refine pw_dn (pw_n mm) (fun stx hst ih1 => ?_)
    refine pw_blk (pc' := 48) [.iload 4, .aload 1, .getfield 500] (by decide +kernel) ?_
    show pw_V x m_X6_survey 3 Z 48 [(0, .ref 14), (1, .ref 4), (2, .int (nI dy)), (3, .int (pw_o (gx))), (4, .int (nI stx))] [.int (mm 4 0), .int (nI stx)] (pw_svm mm (pw_fo (pw_z2 mm dy gx) stx (0, 0, 0, fun _ => 0)))
    rw [show mm 4 0 = nI (pw_n mm) from pw_q40 hok]
    refine pw_in_ge (tgt := 192) (off := 144) (by omega) (by omega) (by decide +kernel) (by decide) (fun h48 => ?_) (fun h48 => ?_)
    · rw [← hZ]
      refine pw_rv (by decide +kernel) ?_
      have es : stx = pw_n mm := by omega
      subst es
      exact ⟨rfl, rfl⟩
    · refine pw_blk (pc' := 54) [.iconst 0, .istore 5] (by decide +kernel) ?_
      show pw_V x m_X6_survey 3 Z 54 [(5, .int (nI 0)), (0, .ref 14), (1, .ref 4), (2, .int (nI dy)), (3, .int (pw_o (gx))), (4, .int (nI stx))] [] (pw_svm mm (pw_fo (pw_z2 mm dy gx) stx (0, 0, 0, fun _ => 0)))
      refine pw_lvp [1, 2, 3, 4, 5, 0] rfl ?_
      suffices lm : ∀ spx : Nat, spx ≤ pw_n mm → pw_V x m_X6_survey 3 Z 54 [(0, .ref 14), (1, .ref 4), (2, .int (nI dy)), (3, .int (pw_o (gx))), (4, .int (nI stx)), (5, .int (nI spx))] [] (pw_svm mm (pw_fo (pw_z1 mm dy gx stx) spx (pw_fo (pw_z2 mm dy gx) stx (0, 0, 0, fun _ => 0)))) from lm 0 (by omega)
      refine pw_dn (pw_n mm) (fun spx hsp ih2 => ?_)
      refine pw_blk (pc' := 60) [.iload 5, .aload 1, .getfield 500] (by decide +kernel) ?_
      show pw_V x m_X6_survey 3 Z 60 [(0, .ref 14), (1, .ref 4), (2, .int (nI dy)), (3, .int (pw_o (gx))), (4, .int (nI stx)), (5, .int (nI spx))] [.int (mm 4 0), .int (nI spx)] (pw_svm mm (pw_fo (pw_z1 mm dy gx stx) spx (pw_fo (pw_z2 mm dy gx) stx (0, 0, 0, fun _ => 0))))
      rw [show mm 4 0 = nI (pw_n mm) from pw_q40 hok]
      refine pw_in_ge (tgt := 186) (off := 126) (by omega) (by omega) (by decide +kernel) (by decide) (fun h60 => ?_) (fun h60 => ?_)
      · have es : spx = pw_n mm := by omega
        rw [show (pw_fo (pw_z1 mm dy gx stx) spx (pw_fo (pw_z2 mm dy gx) stx (0, 0, 0, fun _ => 0))) = (pw_fo (pw_z2 mm dy gx) (stx + 1) (0, 0, 0, fun _ => 0)) from by rw [es]; rfl]
        show pw_V x m_X6_survey 3 Z 186 [(0, .ref 14), (1, .ref 4), (2, .int (nI dy)), (3, .int (pw_o (gx))), (4, .int (nI stx)), (5, .int (nI spx))] [] (pw_svm mm (pw_fo (pw_z2 mm dy gx) (stx + 1) (0, 0, 0, fun _ => 0)))
        refine pw_blk (pc' := 189) [.iinc 4 1] (by decide +kernel) ?_
        show pw_V x m_X6_survey 3 Z 189 [(4, .int ((nI stx) + (nI 1))), (0, .ref 14), (1, .ref 4), (2, .int (nI dy)), (3, .int (pw_o (gx))), (5, .int (nI spx))] [] (pw_svm mm (pw_fo (pw_z2 mm dy gx) (stx + 1) (0, 0, 0, fun _ => 0)))
        rw [show (nI stx) + (nI 1) = nI (stx + 1) from nI_add _ _]
        refine pw_goto (tgt := 42) (off := -147) (by decide +kernel) (by decide) ?_
        refine pw_lvp [1, 2, 3, 4, 0] rfl ?_
        exact ih1 (by omega)
      · refine pw_blk (pc' := 69) [.aload 1, .iload 4, .iload 5, .iload 2] (by decide +kernel) ?_
        show pw_V x m_X6_survey 3 Z 69 [(0, .ref 14), (1, .ref 4), (2, .int (nI dy)), (3, .int (pw_o (gx))), (4, .int (nI stx)), (5, .int (nI spx))] [.int (nI dy), .int (nI spx), .int (nI stx), .ref 4] (pw_svm mm (pw_fo (pw_z1 mm dy gx stx) spx (pw_fo (pw_z2 mm dy gx) stx (0, 0, 0, fun _ => 0))))
        refine pw_cV (vs := [.int (nI stx), .int (nI spx), .int (nI dy)]) (rest := []) k_X5_perilFrom (c_perilFrom stx spx dy (pw_svm mm (pw_fo (pw_z1 mm dy gx stx) spx (pw_fo (pw_z2 mm dy gx) stx (0, 0, 0, fun _ => 0)))) (pw_ok_svm hok) (by have := pw_mulb (show spx < 8 by omega) hdy; omega)) l_6_46 rfl rfl rfl rfl (by omega) (Nat.le_of_ble_eq_true rfl) (by decide +kernel) ?_
        rintro _ m1 ⟨rfl, e1⟩
        rw [e1]
        clear e1 m1
        show pw_V x m_X6_survey 3 Z 72 [(0, .ref 14), (1, .ref 4), (2, .int (nI dy)), (3, .int (pw_o (gx))), (4, .int (nI stx)), (5, .int (nI spx))] [.int (pw_o (pw_per (pw_n mm) stx spx dy))] (pw_svm mm (pw_fo (pw_z1 mm dy gx stx) spx (pw_fo (pw_z2 mm dy gx) stx (0, 0, 0, fun _ => 0))))
        refine pw_blk (pc' := 77) [.istore 6, .iconst (-1), .istore 7] (by decide +kernel) ?_
        show pw_V x m_X6_survey 3 Z 77 [(7, .int (-1)), (6, .int (pw_o (pw_per (pw_n mm) stx spx dy))), (0, .ref 14), (1, .ref 4), (2, .int (nI dy)), (3, .int (pw_o (gx))), (4, .int (nI stx)), (5, .int (nI spx))] [] (pw_svm mm (pw_fo (pw_z1 mm dy gx stx) spx (pw_fo (pw_z2 mm dy gx) stx (0, 0, 0, fun _ => 0))))
        refine pw_lvp [2, 3, 4, 5, 6, 7, 1, 0] rfl ?_
        suffices li : ∀ tx : Nat, tx ≤ pw_k mm + 1 → ∀ zx : pw_z, zx = (pw_fo (pw_zs mm dy gx stx spx) tx (pw_fo (pw_z1 mm dy gx stx) spx (pw_fo (pw_z2 mm dy gx) stx (0, 0, 0, fun _ => 0)))) → pw_V x m_X6_survey 3 Z 77 [(0, .ref 14), (1, .ref 4), (2, .int (nI dy)), (3, .int (pw_o (gx))), (4, .int (nI stx)), (5, .int (nI spx)), (6, .int (pw_o (pw_per (pw_n mm) stx spx dy))), (7, .int (pw_o (pw_mi tx)))] [] (pw_svm mm zx) from li 0 (by omega) _ rfl
        refine pw_dn (pw_k mm + 1) (fun tx htx ih3 zx hz => ?_)
        have hokI : pw_ok (pw_svm mm zx) := pw_ok_svm hok
        refine pw_blk (pc' := 83) [.iload 7, .aload 1, .getfield 501] (by decide +kernel) ?_
        show pw_V x m_X6_survey 3 Z 83 [(0, .ref 14), (1, .ref 4), (2, .int (nI dy)), (3, .int (pw_o (gx))), (4, .int (nI stx)), (5, .int (nI spx)), (6, .int (pw_o (pw_per (pw_n mm) stx spx dy))), (7, .int (pw_o (pw_mi tx)))] [.int (mm 4 1), .int (pw_o (pw_mi tx))] (pw_svm mm zx)
        rw [show mm 4 1 = nI (pw_k mm) from pw_q41 hok]
        rcases h83o : pw_mi tx with _ | s83
        · show pw_V x m_X6_survey 3 Z 83 [(0, .ref 14), (1, .ref 4), (2, .int (nI dy)), (3, .int (pw_o (gx))), (4, .int (nI stx)), (5, .int (nI spx)), (6, .int (pw_o (pw_per (pw_n mm) stx spx dy))), (7, .int (-1))] [.int (nI (pw_k mm)), .int (-1)] (pw_svm mm zx)
          refine pw_ic_ge (tgt := 180) (off := 97) (by decide +kernel) (by decide) (fun h => absurd (pw_m1_lt (by omega)) (pw_nlt h)) (fun _ => ?_)
          refine pw_blk (pc' := 89) [.iload 6, .iconst (-1)] (by decide +kernel) ?_
          show pw_V x m_X6_survey 3 Z 89 [(0, .ref 14), (1, .ref 4), (2, .int (nI dy)), (3, .int (pw_o (gx))), (4, .int (nI stx)), (5, .int (nI spx)), (6, .int (pw_o (pw_per (pw_n mm) stx spx dy))), (7, .int (-1))] [.int (-1), .int (pw_o (pw_per (pw_n mm) stx spx dy))] (pw_svm mm zx)
          rcases h89 : pw_per (pw_n mm) stx spx dy with _ | s89
          · show pw_V x m_X6_survey 3 Z 89 [(0, .ref 14), (1, .ref 4), (2, .int (nI dy)), (3, .int (pw_o (gx))), (4, .int (nI stx)), (5, .int (nI spx)), (6, .int (-1)), (7, .int (-1))] [.int (-1), .int (-1)] (pw_svm mm zx)
            refine pw_ic_eq (tgt := 174) (off := 85) (by decide +kernel) (by decide) (fun _ => ?_) (fun h => absurd rfl h)
            refine pw_blk (pc' := 177) [.iinc 7 1] (by decide +kernel) ?_
            show pw_V x m_X6_survey 3 Z 177 [(7, .int ((-1) + nI 1)), (0, .ref 14), (1, .ref 4), (2, .int (nI dy)), (3, .int (pw_o (gx))), (4, .int (nI stx)), (5, .int (nI spx)), (6, .int (-1))] [] (pw_svm mm zx)
            rw [show (-1) + nI 1 = pw_o (pw_mi (tx + 1)) from by rw [← pw_mi_s, h83o]; rfl]
            refine pw_goto (tgt := 77) (off := -100) (by decide +kernel) (by decide) ?_
            have e7 := pw_mi_n h83o
            rw [show ((-1) : Int32) = pw_o (pw_per (pw_n mm) stx spx dy) from by rw [h89]; rfl]
            refine pw_lvp [1, 2, 3, 4, 5, 6, 7, 0] rfl ?_
            refine ih3 (by omega) _ ?_
            rw [pw_fo, ← hz]
            simp [pw_zs, pw_zb, h22, h83o, h89]
          · show pw_V x m_X6_survey 3 Z 89 [(0, .ref 14), (1, .ref 4), (2, .int (nI dy)), (3, .int (pw_o (gx))), (4, .int (nI stx)), (5, .int (nI spx)), (6, .int (nI s89)), (7, .int (-1))] [.int (-1), .int (nI s89)] (pw_svm mm zx)
            have b89 := pw_perb h89
            refine pw_ic_eq (tgt := 174) (off := 85) (by decide +kernel) (by decide) (fun h => absurd h (pw_n1 (by omega))) (fun _ => ?_)
            refine pw_blk (pc' := 100) [.aload 0, .aload 1, .iload 4, .iload 5, .iload 7] (by decide +kernel) ?_
            show pw_V x m_X6_survey 3 Z 100 [(0, .ref 14), (1, .ref 4), (2, .int (nI dy)), (3, .int (pw_o (gx))), (4, .int (nI stx)), (5, .int (nI spx)), (6, .int (nI s89)), (7, .int (-1))] [.int (-1), .int (nI spx), .int (nI stx), .ref 4, .ref 14] (pw_svm mm zx)
            refine pw_cV (vs := [.ref 4, .int (nI stx), .int (nI spx), .int (-1)]) (rest := []) k_X6_isWorld (c_isWorld stx spx none (pw_svm mm zx) hokI (by omega) (by omega) (fun c hc => by cases hc)) l_6_53 rfl rfl rfl rfl (by omega) (Nat.le_of_ble_eq_true rfl) (by decide +kernel) ?_
            rintro _ m1 ⟨rfl, e1⟩
            rw [e1]
            clear e1 m1
            show pw_V x m_X6_survey 3 Z 103 [(0, .ref 14), (1, .ref 4), (2, .int (nI dy)), (3, .int (pw_o (gx))), (4, .int (nI stx)), (5, .int (nI spx)), (6, .int (nI s89)), (7, .int (-1))] [.int (pw_b (pw_isW mm stx spx none))] (pw_svm mm zx)
            refine pw_ib_eq (tgt := 174) (off := 71) (by decide +kernel) (by decide) (fun h103 => ?_) (fun h103 => ?_)
            · refine pw_blk (pc' := 177) [.iinc 7 1] (by decide +kernel) ?_
              show pw_V x m_X6_survey 3 Z 177 [(7, .int ((-1) + nI 1)), (0, .ref 14), (1, .ref 4), (2, .int (nI dy)), (3, .int (pw_o (gx))), (4, .int (nI stx)), (5, .int (nI spx)), (6, .int (nI s89))] [] (pw_svm mm zx)
              rw [show (-1) + nI 1 = pw_o (pw_mi (tx + 1)) from by rw [← pw_mi_s, h83o]; rfl]
              refine pw_goto (tgt := 77) (off := -100) (by decide +kernel) (by decide) ?_
              have e7 := pw_mi_n h83o
              rw [show (nI s89 : Int32) = pw_o (pw_per (pw_n mm) stx spx dy) from by rw [h89]; rfl]
              refine pw_lvp [1, 2, 3, 4, 5, 6, 7, 0] rfl ?_
              refine ih3 (by omega) _ ?_
              rw [pw_fo, ← hz]
              simp [pw_zs, pw_zb, h22, h83o, h89, h103]
            · refine pw_blk (pc' := 138) [.aload 0, .dup, .getfield 605, .iconst 1, .iadd, .putfield 605, .aload 0, .dup, .getfield 606, .iconst 1, .iload 6, .ishl, .ior, .putfield 606, .aload 0, .dup, .getfield 607, .iconst 1, .iload 7, .iconst (-1)] (by decide +kernel) ?_
              show pw_V x m_X6_survey 3 Z 138 [(0, .ref 14), (1, .ref 4), (2, .int (nI dy)), (3, .int (pw_o (gx))), (4, .int (nI stx)), (5, .int (nI spx)), (6, .int (nI s89)), (7, .int (-1))] [.int (-1), .int (-1), .int (nI 1), .int ((pw_svm mm zx) 14 7), .ref 14] (pw_up (pw_up (pw_svm mm zx) 14 5 (((pw_svm mm zx) 14 5) + (nI 1))) 14 6 (((pw_svm mm zx) 14 6) ||| ((nI 1) <<< ((nI s89) &&& 31))))
              rw [show (pw_svm mm zx) 14 7 = nI (zx.2.2.1) from rfl]
              rw [show (pw_svm mm zx) 14 5 = nI (zx.1) from rfl]
              rw [show (nI (zx.1)) + (nI 1) = nI ((zx.1) + 1) from nI_add _ _]
              rw [show (pw_svm mm zx) 14 6 = nI (zx.2.1) from rfl]
              rw [show (nI 1) <<< ((nI s89) &&& 31) = nI (2 ^ s89) from pw_shl1 (by omega)]
              rw [show (nI (zx.2.1)) ||| (nI (2 ^ s89)) = nI ((zx.2.1) ||| (2 ^ s89)) from fa_or _ _]
              refine pw_ic_ne (tgt := 146) (off := 8) (by decide +kernel) (by decide) (fun h => absurd rfl h) (fun _ => ?_)
              refine pw_blk (pc' := 143) [.iconst (6)] (by decide +kernel) ?_
              show pw_V x m_X6_survey 3 Z 143 [(0, .ref 14), (1, .ref 4), (2, .int (nI dy)), (3, .int (pw_o (gx))), (4, .int (nI stx)), (5, .int (nI spx)), (6, .int (nI s89)), (7, .int (-1))] [.int (nI 6), .int (nI 1), .int (nI (zx.2.2.1)), .ref 14] (pw_up (pw_up (pw_svm mm zx) 14 5 (nI ((zx.1) + 1))) 14 6 (nI ((zx.2.1) ||| (2 ^ s89))))
              refine pw_goto (tgt := 148) (off := 5) (by decide +kernel) (by decide) ?_
              refine pw_blk (pc' := 164) [.ishl, .ior, .putfield 607, .aload 0, .getfield 608, .iload 6, .dup2, .iaload, .iload 7, .iload 3] (by decide +kernel) ?_
              refine ⟨s89, rfl, by omega, ?_⟩
              show pw_V x m_X6_survey 3 Z 164 [(0, .ref 14), (1, .ref 4), (2, .int (nI dy)), (3, .int (pw_o (gx))), (4, .int (nI stx)), (5, .int (nI spx)), (6, .int (nI s89)), (7, .int (-1))] [.int (pw_o (gx)), .int (-1), .int ((pw_svm mm zx) 19 s89), .int (nI s89), .ref 19] (pw_up (pw_up (pw_up (pw_svm mm zx) 14 5 (nI ((zx.1) + 1))) 14 6 (nI ((zx.2.1) ||| (2 ^ s89)))) 14 7 ((nI (zx.2.2.1)) ||| ((nI 1) <<< ((nI 6) &&& 31))))
              rw [show (pw_svm mm zx) 19 s89 = nI (zx.2.2.2 s89) from pw_svm_r (by omega)]
              rw [show (nI 1) <<< ((nI 6) &&& 31) = nI (2 ^ 6) from pw_shl1 (by omega)]
              rw [show (nI (zx.2.2.1)) ||| (nI (2 ^ 6)) = nI ((zx.2.2.1) ||| (2 ^ 6)) from fa_or _ _]
              refine pw_oo_ne (a := none) (b := gx) (tgt := 171) (off := 7) (by decide +kernel) (by decide) (fun c hc => by cases hc) (fun c hc => by have := hgx c hc; omega) (fun h164 => ?_) (fun h164 => ?_)
              · refine pw_blk (pc' := 174) [.iconst 1, .iadd, .iastore] (by decide +kernel) ?_
                refine ⟨s89, rfl, by omega, ?_⟩
                show pw_V x m_X6_survey 3 Z 174 [(0, .ref 14), (1, .ref 4), (2, .int (nI dy)), (3, .int (pw_o (gx))), (4, .int (nI stx)), (5, .int (nI spx)), (6, .int (nI s89)), (7, .int (-1))] [] (pw_up (pw_up (pw_up (pw_up (pw_svm mm zx) 14 5 (nI ((zx.1) + 1))) 14 6 (nI ((zx.2.1) ||| (2 ^ s89)))) 14 7 (nI ((zx.2.2.1) ||| (2 ^ 6)))) 19 s89 ((nI (zx.2.2.2 s89)) + (nI 1)))
                rw [show (nI (zx.2.2.2 s89)) + (nI 1) = nI ((zx.2.2.2 s89) + 1) from nI_add _ _]
                refine pw_blk (pc' := 177) [.iinc 7 1] (by decide +kernel) ?_
                show pw_V x m_X6_survey 3 Z 177 [(7, .int ((-1) + nI 1)), (0, .ref 14), (1, .ref 4), (2, .int (nI dy)), (3, .int (pw_o (gx))), (4, .int (nI stx)), (5, .int (nI spx)), (6, .int (nI s89))] [] (pw_up (pw_up (pw_up (pw_up (pw_svm mm zx) 14 5 (nI ((zx.1) + 1))) 14 6 (nI ((zx.2.1) ||| (2 ^ s89)))) 14 7 (nI ((zx.2.2.1) ||| (2 ^ 6)))) 19 s89 (nI ((zx.2.2.2 s89) + 1)))
                rw [show (-1) + nI 1 = pw_o (pw_mi (tx + 1)) from by rw [← pw_mi_s, h83o]; rfl]
                refine pw_goto (tgt := 77) (off := -100) (by decide +kernel) (by decide) ?_
                have e7 := pw_mi_n h83o
                rw [pw_svm_s (by omega)]
                rw [show (nI s89 : Int32) = pw_o (pw_per (pw_n mm) stx spx dy) from by rw [h89]; rfl]
                refine pw_lvp [1, 2, 3, 4, 5, 6, 7, 0] rfl ?_
                refine ih3 (by omega) _ ?_
                rw [pw_fo, ← hz]
                simp [pw_zs, pw_zb, h22, h83o, h89, h103, h164]
              · refine pw_blk (pc' := 168) [.iconst 0] (by decide +kernel) ?_
                show pw_V x m_X6_survey 3 Z 168 [(0, .ref 14), (1, .ref 4), (2, .int (nI dy)), (3, .int (pw_o (gx))), (4, .int (nI stx)), (5, .int (nI spx)), (6, .int (nI s89)), (7, .int (-1))] [.int (nI 0), .int (nI (zx.2.2.2 s89)), .int (nI s89), .ref 19] (pw_up (pw_up (pw_up (pw_svm mm zx) 14 5 (nI ((zx.1) + 1))) 14 6 (nI ((zx.2.1) ||| (2 ^ s89)))) 14 7 (nI ((zx.2.2.1) ||| (2 ^ 6))))
                refine pw_goto (tgt := 172) (off := 4) (by decide +kernel) (by decide) ?_
                refine pw_blk (pc' := 174) [.iadd, .iastore] (by decide +kernel) ?_
                refine ⟨s89, rfl, by omega, ?_⟩
                show pw_V x m_X6_survey 3 Z 174 [(0, .ref 14), (1, .ref 4), (2, .int (nI dy)), (3, .int (pw_o (gx))), (4, .int (nI stx)), (5, .int (nI spx)), (6, .int (nI s89)), (7, .int (-1))] [] (pw_up (pw_up (pw_up (pw_up (pw_svm mm zx) 14 5 (nI ((zx.1) + 1))) 14 6 (nI ((zx.2.1) ||| (2 ^ s89)))) 14 7 (nI ((zx.2.2.1) ||| (2 ^ 6)))) 19 s89 ((nI (zx.2.2.2 s89)) + (nI 0)))
                rw [show (nI (zx.2.2.2 s89)) + (nI 0) = nI ((zx.2.2.2 s89) + 0) from nI_add _ _]
                refine pw_blk (pc' := 177) [.iinc 7 1] (by decide +kernel) ?_
                show pw_V x m_X6_survey 3 Z 177 [(7, .int ((-1) + nI 1)), (0, .ref 14), (1, .ref 4), (2, .int (nI dy)), (3, .int (pw_o (gx))), (4, .int (nI stx)), (5, .int (nI spx)), (6, .int (nI s89))] [] (pw_up (pw_up (pw_up (pw_up (pw_svm mm zx) 14 5 (nI ((zx.1) + 1))) 14 6 (nI ((zx.2.1) ||| (2 ^ s89)))) 14 7 (nI ((zx.2.2.1) ||| (2 ^ 6)))) 19 s89 (nI ((zx.2.2.2 s89) + 0)))
                rw [show (-1) + nI 1 = pw_o (pw_mi (tx + 1)) from by rw [← pw_mi_s, h83o]; rfl]
                refine pw_goto (tgt := 77) (off := -100) (by decide +kernel) (by decide) ?_
                have e7 := pw_mi_n h83o
                rw [pw_svm_s (by omega)]
                rw [show (nI s89 : Int32) = pw_o (pw_per (pw_n mm) stx spx dy) from by rw [h89]; rfl]
                refine pw_lvp [1, 2, 3, 4, 5, 6, 7, 0] rfl ?_
                refine ih3 (by omega) _ ?_
                rw [pw_fo, ← hz]
                simp [pw_zs, pw_zb, h22, h83o, h89, h103, h164.symm]
        · show pw_V x m_X6_survey 3 Z 83 [(0, .ref 14), (1, .ref 4), (2, .int (nI dy)), (3, .int (pw_o (gx))), (4, .int (nI stx)), (5, .int (nI spx)), (6, .int (pw_o (pw_per (pw_n mm) stx spx dy))), (7, .int (nI s83))] [.int (nI (pw_k mm)), .int (nI s83)] (pw_svm mm zx)
          have b83 := pw_mi_b htx _ h83o
          refine pw_in_ge (tgt := 180) (off := 97) (by omega) (by omega) (by decide +kernel) (by decide) (fun h83 => ?_) (fun h83 => ?_)
          · have e7 := pw_mi_inv h83o
            have hz2 : zx = pw_fo (pw_z1 mm dy gx stx) (spx + 1) (pw_fo (pw_z2 mm dy gx) stx (0, 0, 0, fun _ => 0)) := by rw [hz, show tx = pw_k mm + 1 by omega]; rfl
            rw [hz2]
            show pw_V x m_X6_survey 3 Z 180 [(0, .ref 14), (1, .ref 4), (2, .int (nI dy)), (3, .int (pw_o (gx))), (4, .int (nI stx)), (5, .int (nI spx)), (6, .int (pw_o (pw_per (pw_n mm) stx spx dy))), (7, .int (nI s83))] [] (pw_svm mm (pw_fo (pw_z1 mm dy gx stx) (spx + 1) (pw_fo (pw_z2 mm dy gx) stx (0, 0, 0, fun _ => 0))))
            refine pw_blk (pc' := 183) [.iinc 5 1] (by decide +kernel) ?_
            show pw_V x m_X6_survey 3 Z 183 [(5, .int ((nI spx) + (nI 1))), (0, .ref 14), (1, .ref 4), (2, .int (nI dy)), (3, .int (pw_o (gx))), (4, .int (nI stx)), (6, .int (pw_o (pw_per (pw_n mm) stx spx dy))), (7, .int (nI s83))] [] (pw_svm mm (pw_fo (pw_z1 mm dy gx stx) (spx + 1) (pw_fo (pw_z2 mm dy gx) stx (0, 0, 0, fun _ => 0))))
            rw [show (nI spx) + (nI 1) = nI (spx + 1) from nI_add _ _]
            refine pw_goto (tgt := 54) (off := -129) (by decide +kernel) (by decide) ?_
            refine pw_lvp [1, 2, 3, 4, 5, 0] rfl ?_
            exact ih2 (by omega)
          · refine pw_blk (pc' := 89) [.iload 6, .iconst (-1)] (by decide +kernel) ?_
            show pw_V x m_X6_survey 3 Z 89 [(0, .ref 14), (1, .ref 4), (2, .int (nI dy)), (3, .int (pw_o (gx))), (4, .int (nI stx)), (5, .int (nI spx)), (6, .int (pw_o (pw_per (pw_n mm) stx spx dy))), (7, .int (nI s83))] [.int (-1), .int (pw_o (pw_per (pw_n mm) stx spx dy))] (pw_svm mm zx)
            rcases h89 : pw_per (pw_n mm) stx spx dy with _ | s89
            · show pw_V x m_X6_survey 3 Z 89 [(0, .ref 14), (1, .ref 4), (2, .int (nI dy)), (3, .int (pw_o (gx))), (4, .int (nI stx)), (5, .int (nI spx)), (6, .int (-1)), (7, .int (nI s83))] [.int (-1), .int (-1)] (pw_svm mm zx)
              refine pw_ic_eq (tgt := 174) (off := 85) (by decide +kernel) (by decide) (fun _ => ?_) (fun h => absurd rfl h)
              refine pw_blk (pc' := 177) [.iinc 7 1] (by decide +kernel) ?_
              show pw_V x m_X6_survey 3 Z 177 [(7, .int ((nI s83) + nI 1)), (0, .ref 14), (1, .ref 4), (2, .int (nI dy)), (3, .int (pw_o (gx))), (4, .int (nI stx)), (5, .int (nI spx)), (6, .int (-1))] [] (pw_svm mm zx)
              rw [show (nI s83) + nI 1 = pw_o (pw_mi (tx + 1)) from by rw [← pw_mi_s, h83o]; rfl]
              refine pw_goto (tgt := 77) (off := -100) (by decide +kernel) (by decide) ?_
              have e7 := pw_mi_inv h83o
              rw [show ((-1) : Int32) = pw_o (pw_per (pw_n mm) stx spx dy) from by rw [h89]; rfl]
              refine pw_lvp [1, 2, 3, 4, 5, 6, 7, 0] rfl ?_
              refine ih3 (by omega) _ ?_
              rw [pw_fo, ← hz]
              simp [pw_zs, pw_zb, h22, h83o, h89]
            · show pw_V x m_X6_survey 3 Z 89 [(0, .ref 14), (1, .ref 4), (2, .int (nI dy)), (3, .int (pw_o (gx))), (4, .int (nI stx)), (5, .int (nI spx)), (6, .int (nI s89)), (7, .int (nI s83))] [.int (-1), .int (nI s89)] (pw_svm mm zx)
              have b89 := pw_perb h89
              refine pw_ic_eq (tgt := 174) (off := 85) (by decide +kernel) (by decide) (fun h => absurd h (pw_n1 (by omega))) (fun _ => ?_)
              refine pw_blk (pc' := 100) [.aload 0, .aload 1, .iload 4, .iload 5, .iload 7] (by decide +kernel) ?_
              show pw_V x m_X6_survey 3 Z 100 [(0, .ref 14), (1, .ref 4), (2, .int (nI dy)), (3, .int (pw_o (gx))), (4, .int (nI stx)), (5, .int (nI spx)), (6, .int (nI s89)), (7, .int (nI s83))] [.int (nI s83), .int (nI spx), .int (nI stx), .ref 4, .ref 14] (pw_svm mm zx)
              refine pw_cV (vs := [.ref 4, .int (nI stx), .int (nI spx), .int (nI s83)]) (rest := []) k_X6_isWorld (c_isWorld stx spx (some s83) (pw_svm mm zx) hokI (by omega) (by omega) (fun c hc => by cases hc; omega)) l_6_53 rfl rfl rfl rfl (by omega) (Nat.le_of_ble_eq_true rfl) (by decide +kernel) ?_
              rintro _ m1 ⟨rfl, e1⟩
              rw [e1]
              clear e1 m1
              show pw_V x m_X6_survey 3 Z 103 [(0, .ref 14), (1, .ref 4), (2, .int (nI dy)), (3, .int (pw_o (gx))), (4, .int (nI stx)), (5, .int (nI spx)), (6, .int (nI s89)), (7, .int (nI s83))] [.int (pw_b (pw_isW mm stx spx (some s83)))] (pw_svm mm zx)
              refine pw_ib_eq (tgt := 174) (off := 71) (by decide +kernel) (by decide) (fun h103 => ?_) (fun h103 => ?_)
              · refine pw_blk (pc' := 177) [.iinc 7 1] (by decide +kernel) ?_
                show pw_V x m_X6_survey 3 Z 177 [(7, .int ((nI s83) + nI 1)), (0, .ref 14), (1, .ref 4), (2, .int (nI dy)), (3, .int (pw_o (gx))), (4, .int (nI stx)), (5, .int (nI spx)), (6, .int (nI s89))] [] (pw_svm mm zx)
                rw [show (nI s83) + nI 1 = pw_o (pw_mi (tx + 1)) from by rw [← pw_mi_s, h83o]; rfl]
                refine pw_goto (tgt := 77) (off := -100) (by decide +kernel) (by decide) ?_
                have e7 := pw_mi_inv h83o
                rw [show (nI s89 : Int32) = pw_o (pw_per (pw_n mm) stx spx dy) from by rw [h89]; rfl]
                refine pw_lvp [1, 2, 3, 4, 5, 6, 7, 0] rfl ?_
                refine ih3 (by omega) _ ?_
                rw [pw_fo, ← hz]
                simp [pw_zs, pw_zb, h22, h83o, h89, h103]
              · refine pw_blk (pc' := 138) [.aload 0, .dup, .getfield 605, .iconst 1, .iadd, .putfield 605, .aload 0, .dup, .getfield 606, .iconst 1, .iload 6, .ishl, .ior, .putfield 606, .aload 0, .dup, .getfield 607, .iconst 1, .iload 7, .iconst (-1)] (by decide +kernel) ?_
                show pw_V x m_X6_survey 3 Z 138 [(0, .ref 14), (1, .ref 4), (2, .int (nI dy)), (3, .int (pw_o (gx))), (4, .int (nI stx)), (5, .int (nI spx)), (6, .int (nI s89)), (7, .int (nI s83))] [.int (-1), .int (nI s83), .int (nI 1), .int ((pw_svm mm zx) 14 7), .ref 14] (pw_up (pw_up (pw_svm mm zx) 14 5 (((pw_svm mm zx) 14 5) + (nI 1))) 14 6 (((pw_svm mm zx) 14 6) ||| ((nI 1) <<< ((nI s89) &&& 31))))
                rw [show (pw_svm mm zx) 14 7 = nI (zx.2.2.1) from rfl]
                rw [show (pw_svm mm zx) 14 5 = nI (zx.1) from rfl]
                rw [show (nI (zx.1)) + (nI 1) = nI ((zx.1) + 1) from nI_add _ _]
                rw [show (pw_svm mm zx) 14 6 = nI (zx.2.1) from rfl]
                rw [show (nI 1) <<< ((nI s89) &&& 31) = nI (2 ^ s89) from pw_shl1 (by omega)]
                rw [show (nI (zx.2.1)) ||| (nI (2 ^ s89)) = nI ((zx.2.1) ||| (2 ^ s89)) from fa_or _ _]
                refine pw_ic_ne (tgt := 146) (off := 8) (by decide +kernel) (by decide) (fun _ => ?_) (fun h => absurd h (pw_n1 (by omega)))
                refine pw_blk (pc' := 164) [.iload 7, .ishl, .ior, .putfield 607, .aload 0, .getfield 608, .iload 6, .dup2, .iaload, .iload 7, .iload 3] (by decide +kernel) ?_
                refine ⟨s89, rfl, by omega, ?_⟩
                show pw_V x m_X6_survey 3 Z 164 [(0, .ref 14), (1, .ref 4), (2, .int (nI dy)), (3, .int (pw_o (gx))), (4, .int (nI stx)), (5, .int (nI spx)), (6, .int (nI s89)), (7, .int (nI s83))] [.int (pw_o (gx)), .int (nI s83), .int ((pw_svm mm zx) 19 s89), .int (nI s89), .ref 19] (pw_up (pw_up (pw_up (pw_svm mm zx) 14 5 (nI ((zx.1) + 1))) 14 6 (nI ((zx.2.1) ||| (2 ^ s89)))) 14 7 ((nI (zx.2.2.1)) ||| ((nI 1) <<< ((nI s83) &&& 31))))
                rw [show (pw_svm mm zx) 19 s89 = nI (zx.2.2.2 s89) from pw_svm_r (by omega)]
                rw [show (nI 1) <<< ((nI s83) &&& 31) = nI (2 ^ s83) from pw_shl1 (by omega)]
                rw [show (nI (zx.2.2.1)) ||| (nI (2 ^ s83)) = nI ((zx.2.2.1) ||| (2 ^ s83)) from fa_or _ _]
                refine pw_oo_ne (a := some s83) (b := gx) (tgt := 171) (off := 7) (by decide +kernel) (by decide) (fun c hc => by cases hc; omega) (fun c hc => by have := hgx c hc; omega) (fun h164 => ?_) (fun h164 => ?_)
                · refine pw_blk (pc' := 174) [.iconst 1, .iadd, .iastore] (by decide +kernel) ?_
                  refine ⟨s89, rfl, by omega, ?_⟩
                  show pw_V x m_X6_survey 3 Z 174 [(0, .ref 14), (1, .ref 4), (2, .int (nI dy)), (3, .int (pw_o (gx))), (4, .int (nI stx)), (5, .int (nI spx)), (6, .int (nI s89)), (7, .int (nI s83))] [] (pw_up (pw_up (pw_up (pw_up (pw_svm mm zx) 14 5 (nI ((zx.1) + 1))) 14 6 (nI ((zx.2.1) ||| (2 ^ s89)))) 14 7 (nI ((zx.2.2.1) ||| (2 ^ s83)))) 19 s89 ((nI (zx.2.2.2 s89)) + (nI 1)))
                  rw [show (nI (zx.2.2.2 s89)) + (nI 1) = nI ((zx.2.2.2 s89) + 1) from nI_add _ _]
                  refine pw_blk (pc' := 177) [.iinc 7 1] (by decide +kernel) ?_
                  show pw_V x m_X6_survey 3 Z 177 [(7, .int ((nI s83) + nI 1)), (0, .ref 14), (1, .ref 4), (2, .int (nI dy)), (3, .int (pw_o (gx))), (4, .int (nI stx)), (5, .int (nI spx)), (6, .int (nI s89))] [] (pw_up (pw_up (pw_up (pw_up (pw_svm mm zx) 14 5 (nI ((zx.1) + 1))) 14 6 (nI ((zx.2.1) ||| (2 ^ s89)))) 14 7 (nI ((zx.2.2.1) ||| (2 ^ s83)))) 19 s89 (nI ((zx.2.2.2 s89) + 1)))
                  rw [show (nI s83) + nI 1 = pw_o (pw_mi (tx + 1)) from by rw [← pw_mi_s, h83o]; rfl]
                  refine pw_goto (tgt := 77) (off := -100) (by decide +kernel) (by decide) ?_
                  have e7 := pw_mi_inv h83o
                  rw [pw_svm_s (by omega)]
                  rw [show (nI s89 : Int32) = pw_o (pw_per (pw_n mm) stx spx dy) from by rw [h89]; rfl]
                  refine pw_lvp [1, 2, 3, 4, 5, 6, 7, 0] rfl ?_
                  refine ih3 (by omega) _ ?_
                  rw [pw_fo, ← hz]
                  simp [pw_zs, pw_zb, h22, h83o, h89, h103, h164]
                · refine pw_blk (pc' := 168) [.iconst 0] (by decide +kernel) ?_
                  show pw_V x m_X6_survey 3 Z 168 [(0, .ref 14), (1, .ref 4), (2, .int (nI dy)), (3, .int (pw_o (gx))), (4, .int (nI stx)), (5, .int (nI spx)), (6, .int (nI s89)), (7, .int (nI s83))] [.int (nI 0), .int (nI (zx.2.2.2 s89)), .int (nI s89), .ref 19] (pw_up (pw_up (pw_up (pw_svm mm zx) 14 5 (nI ((zx.1) + 1))) 14 6 (nI ((zx.2.1) ||| (2 ^ s89)))) 14 7 (nI ((zx.2.2.1) ||| (2 ^ s83))))
                  refine pw_goto (tgt := 172) (off := 4) (by decide +kernel) (by decide) ?_
                  refine pw_blk (pc' := 174) [.iadd, .iastore] (by decide +kernel) ?_
                  refine ⟨s89, rfl, by omega, ?_⟩
                  show pw_V x m_X6_survey 3 Z 174 [(0, .ref 14), (1, .ref 4), (2, .int (nI dy)), (3, .int (pw_o (gx))), (4, .int (nI stx)), (5, .int (nI spx)), (6, .int (nI s89)), (7, .int (nI s83))] [] (pw_up (pw_up (pw_up (pw_up (pw_svm mm zx) 14 5 (nI ((zx.1) + 1))) 14 6 (nI ((zx.2.1) ||| (2 ^ s89)))) 14 7 (nI ((zx.2.2.1) ||| (2 ^ s83)))) 19 s89 ((nI (zx.2.2.2 s89)) + (nI 0)))
                  rw [show (nI (zx.2.2.2 s89)) + (nI 0) = nI ((zx.2.2.2 s89) + 0) from nI_add _ _]
                  refine pw_blk (pc' := 177) [.iinc 7 1] (by decide +kernel) ?_
                  show pw_V x m_X6_survey 3 Z 177 [(7, .int ((nI s83) + nI 1)), (0, .ref 14), (1, .ref 4), (2, .int (nI dy)), (3, .int (pw_o (gx))), (4, .int (nI stx)), (5, .int (nI spx)), (6, .int (nI s89))] [] (pw_up (pw_up (pw_up (pw_up (pw_svm mm zx) 14 5 (nI ((zx.1) + 1))) 14 6 (nI ((zx.2.1) ||| (2 ^ s89)))) 14 7 (nI ((zx.2.2.1) ||| (2 ^ s83)))) 19 s89 (nI ((zx.2.2.2 s89) + 0)))
                  rw [show (nI s83) + nI 1 = pw_o (pw_mi (tx + 1)) from by rw [← pw_mi_s, h83o]; rfl]
                  refine pw_goto (tgt := 77) (off := -100) (by decide +kernel) (by decide) ?_
                  have e7 := pw_mi_inv h83o
                  rw [pw_svm_s (by omega)]
                  rw [show (nI s89 : Int32) = pw_o (pw_per (pw_n mm) stx spx dy) from by rw [h89]; rfl]
                  refine pw_lvp [1, 2, 3, 4, 5, 6, 7, 0] rfl ?_
                  refine ih3 (by omega) _ ?_
                  rw [pw_fo, ← hz]
                  simp [pw_zs, pw_zb, h22, h83o, h89, h103, h164.symm]
  · refine pw_blk (pc' := 36) [.aload 0, .getfield 608, .iload 4, .iconst 0, .iastore, .iinc 4 1] (by decide +kernel) ?_
    refine ⟨i, rfl, by omega, ?_⟩
    show pw_V x m_X6_survey 3 Z 36 [(4, .int ((nI i) + (nI 1))), (0, .ref 14), (1, .ref 4), (2, .int (nI dy)), (3, .int (pw_o (gx)))] [] (pw_up (pw_svI mm i) 19 i (nI 0))
    rw [show (nI i) + (nI 1) = nI (i + 1) from nI_add _ _]
    refine pw_goto (tgt := 18) (off := -18) (by decide +kernel) (by decide) ?_
    rw [pw_svI_s]
    refine pw_lvp [1, 2, 3, 4, 0] rfl ?_
    exact ih (by omega)
end
section
def pw_frw (A B : pw_m) : Prop := (∀ c, c ≠ 14 → c ≠ 19 → B c = A c) ∧ B 14 4 = A 14 4
theorem pw_frw_s {A : pw_m} {z : pw_z} : pw_frw A (pw_svm A z) := ⟨fun c h1 h2 => pw_svm_o h1 h2, rfl⟩
theorem pw_frw_r {A : pw_m} : pw_frw A A := ⟨fun _ _ _ => rfl, rfl⟩
theorem pw_frw_ok {A B : pw_m} (h : pw_frw A B) (q : pw_ok A) : pw_ok B := pw_ok_f (fun c hc => h.1 c (by omega) (by omega)) (by rw [h.1 2 (by omega) (by omega)]) h.2 q
def F_worlds (A : pw_m) (w : Int32) : Int32 := if pw_inr w 3 then (if w = nI 0 then nI (pw_z3 A (pw_g A 42 0) none).1 else if w = nI 1 then nI (pw_z3 A (pw_g A 42 0) none).2.1 else nI (pw_z3 A (pw_g A 42 0) none).2.2.1) else -3
/-- in how many worlds, at most -/
theorem pw_fo_le {g : Nat → pw_z → pw_z} {p c : Nat} (hg : ∀ s z, (g s z).2.2.2 p ≤ z.2.2.2 p + c) : ∀ n z, (pw_fo g n z).2.2.2 p ≤ z.2.2.2 p + n * c := by
  intro n z
  induction n with
  | zero => simp [pw_fo]
  | succ n ih =>
    have h1 := hg n (pw_fo g n z)
    simp only [pw_fo]
    rw [Nat.succ_mul]
    omega
theorem pw_zs_le {A : pw_m} {dy : Nat} {gx : Option Nat} {st sp p : Nat} (t : Nat) (z : pw_z) : (pw_zs A dy gx st sp t z).2.2.2 p ≤ z.2.2.2 p + 1 := by
  unfold pw_zs
  split
  · omega
  · split
    · dsimp only
      split
      · rename_i h; subst h; split <;> omega
      · omega
    · omega
theorem pw_z3_le {A : pw_m} {dy : Nat} {gx : Option Nat} {p : Nat} (hn : pw_n A ≤ 8) (hk : pw_k A ≤ 6) : (pw_z3 A dy gx).2.2.2 p ≤ 448 := by
  have h := pw_fo_le (g := pw_z2 A dy gx) (p := p) (c := pw_n A * (pw_k A + 1)) (fun st z => pw_fo_le (g := pw_z1 A dy gx st) (p := p) (c := pw_k A + 1) (fun sp z => by have := pw_fo_le (g := pw_zs A dy gx st sp) (p := p) (c := 1) (fun t z => pw_zs_le t z) (pw_k A + 1) z; unfold pw_z1; omega) (pw_n A) z) (pw_n A) (0, 0, 0, fun _ => 0)
  have h1 : pw_n A * (pw_k A + 1) ≤ 8 * 7 := Nat.mul_le_mul hn (by omega)
  have h2 : pw_n A * (pw_n A * (pw_k A + 1)) ≤ 8 * 56 := Nat.mul_le_mul hn h1
  unfold pw_z3
  simp only at h
  omega
def pw_rk (A : pw_m) (k s : Nat) : Nat := if pw_g A 7 k = 1 then 0 else (pw_z3 A (pw_g A 42 0) (some k)).2.2.2 s
def pw_sf (A : pw_m) (k : Nat) : Nat → Option (Nat × Nat)
  | 0 => none
  | s + 1 => match pw_sf A k s with
    | none => if pw_fnow A k s then some (s, pw_rk A k s) else none
    | some p => if pw_fnow A k s && decide (pw_rk A k s < p.2) then some (s, pw_rk A k s) else some p
def F_safest (A : pw_m) (k w : Int32) : Int32 := if pw_inr k (pw_k A) then (if pw_inr w 2 then (if w = nI 0 then pw_o ((pw_sf A (pw_c k) (pw_n A)).map (·.1)) else pw_o ((pw_sf A (pw_c k) (pw_n A)).map (·.2))) else -3) else -2
theorem pw_rk_le {A : pw_m} {k s : Nat} (hn : pw_n A ≤ 8) (hk : pw_k A ≤ 6) : pw_rk A k s ≤ 448 := by
  unfold pw_rk
  split
  · omega
  · exact pw_z3_le hn hk
theorem pw_sf_b {A : pw_m} {k : Nat} (hn : pw_n A ≤ 8) (hk : pw_k A ≤ 6) : ∀ s p, pw_sf A k s = some p → p.1 < s ∧ p.2 ≤ 448 := by
  intro s
  induction s with
  | zero => intro p h; cases h
  | succ s ih =>
    intro p h
    have hr : pw_rk A k s ≤ 448 := pw_rk_le hn hk
    unfold pw_sf at h
    split at h
    · split at h
      · cases h; exact ⟨by omega, hr⟩
      · cases h
    · rename_i q hq
      split at h
      · cases h; exact ⟨by omega, hr⟩
      · have h9 := ih _ hq
        cases h
        exact ⟨by omega, h9.2⟩

set_option maxHeartbeats 4000000 in
set_option maxRecDepth 100000 in
theorem c_worlds (w : Int32) (mm : pw_m) (hok : pw_ok mm) : pw_Ct 4 yX7_worlds m_X7_worlds [.ref 0, .int w] mm (fun r m' => r = some (.int (F_worlds mm w)) ∧ pw_frw mm m') := by
  refine pw_ct (by decide +kernel) rfl (Nat.le_of_ble_eq_true rfl) (fun x => ?_)
  generalize hZ : pw_Z x _ = Z
  have bn := pw_bn hok
  have bk := pw_bk hok
  have bd := pw_b420 hok
  show pw_V x m_X7_worlds 4 Z 0 [(0, .ref 0), (1, .int w)] [] mm
  refine pw_blk (pc' := 1) [.iload 1] (by decide +kernel) ?_
  show pw_V x m_X7_worlds 4 Z 1 [(0, .ref 0), (1, .int w)] [.int w] mm
  refine pw_if_lt (tgt := 9) (off := 8) (by decide +kernel) (by decide) (fun h1 => ?_) (fun h1 => ?_)
  · refine pw_blk (pc' := 11) [.iconst (-3)] (by decide +kernel) ?_
    show pw_V x m_X7_worlds 4 Z 11 [(0, .ref 0), (1, .int w)] [.int (-3)] mm
    rw [← hZ]
    refine pw_ri (by decide +kernel) ?_
    exact ⟨by simp [F_worlds, pw_inr_f1 h1], pw_frw_r⟩
  · refine pw_blk (pc' := 6) [.iload 1, .iconst 2] (by decide +kernel) ?_
    show pw_V x m_X7_worlds 4 Z 6 [(0, .ref 0), (1, .int w)] [.int (nI 2), .int w] mm
    refine pw_ic_le (tgt := 12) (off := 6) (by decide +kernel) (by decide) (fun h6 => ?_) (fun h6 => ?_)
    · refine pw_blk (pc' := 28) [.aload 0, .getfield 704, .aload 0, .getfield 701, .aload 0, .getfield 702, .getfield 0, .iconst (-1)] (by decide +kernel) ?_
      show pw_V x m_X7_worlds 4 Z 28 [(0, .ref 0), (1, .int w)] [.int (-1), .int (mm 42 0), .ref 4, .ref 14] mm
      rw [show mm 42 0 = nI (pw_g mm 42 0) from pw_q420 hok]
      refine pw_cV (vs := [.ref 4, .int (nI (pw_g mm 42 0)), .int (-1)]) (rest := []) k_X6_survey (c_survey (pw_g mm 42 0) none mm hok bd (fun c hc => by cases hc)) l_7_224 rfl rfl rfl rfl (by omega) (Nat.le_of_ble_eq_true rfl) (by decide +kernel) ?_
      rintro _ m1 ⟨rfl, e1⟩
      rw [e1]
      clear e1 m1
      show pw_V x m_X7_worlds 4 Z 31 [(0, .ref 0), (1, .int w)] [] (pw_svm mm (pw_z3 mm (pw_g mm 42 0) none))
      refine pw_blk (pc' := 32) [.iload 1] (by decide +kernel) ?_
      show pw_V x m_X7_worlds 4 Z 32 [(0, .ref 0), (1, .int w)] [.int w] (pw_svm mm (pw_z3 mm (pw_g mm 42 0) none))
      refine pw_lsw (dflt := 44) (ps := #[(0, 28), (1, 36)]) (len := 28) (by decide +kernel) (by decide) ?_
      by_cases h32_0 : w = nI 0
      · refine ⟨28, 60, by rw [h32_0]; rfl, by decide, ?_⟩
        subst h32_0
        refine pw_blk (pc' := 67) [.aload 0, .getfield 704, .getfield 605] (by decide +kernel) ?_
        show pw_V x m_X7_worlds 4 Z 67 [(0, .ref 0), (1, .int (nI 0))] [.int ((pw_svm mm (pw_z3 mm (pw_g mm 42 0) none)) 14 5)] (pw_svm mm (pw_z3 mm (pw_g mm 42 0) none))
        rw [show (pw_svm mm (pw_z3 mm (pw_g mm 42 0) none)) 14 5 = nI ((pw_z3 mm (pw_g mm 42 0) none).1) from rfl]
        rw [← hZ]
        refine pw_ri (by decide +kernel) ?_
        exact ⟨by unfold F_worlds; rw [if_pos (pw_inr_y3 (n := 2) (by omega) h1 h6)]; rfl, pw_frw_s⟩
      by_cases h32_1 : w = nI 1
      · refine ⟨36, 68, by rw [h32_1]; rfl, by decide, ?_⟩
        subst h32_1
        refine pw_blk (pc' := 75) [.aload 0, .getfield 704, .getfield 606] (by decide +kernel) ?_
        show pw_V x m_X7_worlds 4 Z 75 [(0, .ref 0), (1, .int (nI 1))] [.int ((pw_svm mm (pw_z3 mm (pw_g mm 42 0) none)) 14 6)] (pw_svm mm (pw_z3 mm (pw_g mm 42 0) none))
        rw [show (pw_svm mm (pw_z3 mm (pw_g mm 42 0) none)) 14 6 = nI ((pw_z3 mm (pw_g mm 42 0) none).2.1) from rfl]
        rw [← hZ]
        refine pw_ri (by decide +kernel) ?_
        exact ⟨by unfold F_worlds; rw [if_pos (pw_inr_y3 (n := 2) (by omega) h1 h6), if_neg nz10]; rfl, pw_frw_s⟩
      refine ⟨44, 76, by rw [show (#[(0, 28), (1, 36)] : Array (Int × Int)).toList = [(0, 28), (1, 36)] from rfl, lv_osw h32_0 (by decide), lv_osw h32_1 (by decide)]; rfl, by decide, ?_⟩
      refine pw_blk (pc' := 83) [.aload 0, .getfield 704, .getfield 607] (by decide +kernel) ?_
      show pw_V x m_X7_worlds 4 Z 83 [(0, .ref 0), (1, .int w)] [.int ((pw_svm mm (pw_z3 mm (pw_g mm 42 0) none)) 14 7)] (pw_svm mm (pw_z3 mm (pw_g mm 42 0) none))
      rw [show (pw_svm mm (pw_z3 mm (pw_g mm 42 0) none)) 14 7 = nI ((pw_z3 mm (pw_g mm 42 0) none).2.2.1) from rfl]
      rw [← hZ]
      refine pw_ri (by decide +kernel) ?_
      exact ⟨by unfold F_worlds; rw [if_pos (pw_inr_y3 (n := 2) (by omega) h1 h6), if_neg h32_0, if_neg h32_1], pw_frw_s⟩
    · refine pw_blk (pc' := 11) [.iconst (-3)] (by decide +kernel) ?_
      show pw_V x m_X7_worlds 4 Z 11 [(0, .ref 0), (1, .int w)] [.int (-3)] mm
      rw [← hZ]
      refine pw_ri (by decide +kernel) ?_
      exact ⟨by simp [F_worlds, pw_inr_f3 (n := 2) (by omega) (Int32.not_le.mp h6)], pw_frw_r⟩

set_option maxHeartbeats 4000000 in
set_option maxRecDepth 100000 in
theorem c_safest (k w : Int32) (mm : pw_m) (hok : pw_ok mm) : pw_Ct 4 yX7_safest m_X7_safest [.ref 0, .int k, .int w] mm (fun r m' => r = some (.int (F_safest mm k w)) ∧ pw_frw mm m') := by
  refine pw_ct (by decide +kernel) rfl (Nat.le_of_ble_eq_true rfl) (fun x => ?_)
  generalize hZ : pw_Z x _ = Z
  have bn := pw_bn hok
  have bk := pw_bk hok
  have h0k := hok
  have bd := pw_b420 hok
  show pw_V x m_X7_safest 4 Z 0 [(0, .ref 0), (1, .int k), (2, .int w)] [] mm
  refine pw_blk (pc' := 2) [.aload 0, .iload 1] (by decide +kernel) ?_
  show pw_V x m_X7_safest 4 Z 2 [(0, .ref 0), (1, .int k), (2, .int w)] [.int k, .ref 0] mm
  refine pw_cV (vs := [.int k]) (rest := []) k_X7_isKnight (c_isKnight k mm hok) l_7_106 rfl rfl rfl rfl (by omega) (Nat.le_of_ble_eq_true rfl) (by decide +kernel) ?_
  rintro _ m1 ⟨rfl, e1⟩
  rw [e1]
  clear e1 m1
  show pw_V x m_X7_safest 4 Z 5 [(0, .ref 0), (1, .int k), (2, .int w)] [.int (pw_b (pw_inr k (pw_k mm)))] mm
  refine pw_ib_ne (tgt := 11) (off := 6) (by decide +kernel) (by decide) (fun h5 => ?_) (fun h5 => ?_)
  · obtain ⟨j5, b5, e5⟩ := pw_inr_t (by omega) h5
    subst e5
    refine pw_blk (pc' := 12) [.iload 2] (by decide +kernel) ?_
    show pw_V x m_X7_safest 4 Z 12 [(0, .ref 0), (1, .int (nI j5)), (2, .int w)] [.int w] mm
    refine pw_if_lt (tgt := 20) (off := 8) (by decide +kernel) (by decide) (fun h12 => ?_) (fun h12 => ?_)
    · refine pw_blk (pc' := 22) [.iconst (-3)] (by decide +kernel) ?_
      show pw_V x m_X7_safest 4 Z 22 [(0, .ref 0), (1, .int (nI j5)), (2, .int w)] [.int (-3)] mm
      rw [← hZ]
      refine pw_ri (by decide +kernel) ?_
      exact ⟨by unfold F_safest; rw [if_pos (show pw_inr (nI j5) (pw_k mm) = true from by rw [pw_inr_nI (show j5 < 2 ^ 31 by omega) (show pw_k mm < 2 ^ 31 by omega)]; exact decide_eq_true b5), if_neg (by rw [pw_inr_f1 h12]; decide)], pw_frw_r⟩
    · refine pw_blk (pc' := 17) [.iload 2, .iconst 1] (by decide +kernel) ?_
      show pw_V x m_X7_safest 4 Z 17 [(0, .ref 0), (1, .int (nI j5)), (2, .int w)] [.int (nI 1), .int w] mm
      refine pw_ic_le (tgt := 23) (off := 6) (by decide +kernel) (by decide) (fun h17 => ?_) (fun h17 => ?_)
      · refine pw_blk (pc' := 39) [.aload 0, .getfield 704, .aload 0, .getfield 701, .aload 0, .getfield 702, .getfield 0, .iload 1] (by decide +kernel) ?_
        show pw_V x m_X7_safest 4 Z 39 [(0, .ref 0), (1, .int (nI j5)), (2, .int w)] [.int (nI j5), .int (mm 42 0), .ref 4, .ref 14] mm
        rw [show mm 42 0 = nI (pw_g mm 42 0) from pw_q420 hok]
        refine pw_cV (vs := [.ref 4, .int (nI (pw_g mm 42 0)), .int (nI j5)]) (rest := []) k_X6_survey (c_survey (pw_g mm 42 0) (some j5) mm hok bd (fun c hc => by cases hc; omega)) l_7_224 rfl rfl rfl rfl (by omega) (Nat.le_of_ble_eq_true rfl) (by decide +kernel) ?_
        rintro _ m1 ⟨rfl, e1⟩
        rw [e1]
        clear e1 m1
        show pw_V x m_X7_safest 4 Z 42 [(0, .ref 0), (1, .int (nI j5)), (2, .int w)] [] (pw_svm mm (pw_z3 mm (pw_g mm 42 0) (some j5)))
        refine pw_blk (pc' := 50) [.iconst (-1), .istore 3, .iconst (-1), .istore 4, .iconst 0, .istore 5] (by decide +kernel) ?_
        show pw_V x m_X7_safest 4 Z 50 [(5, .int (nI 0)), (4, .int (-1)), (3, .int (-1)), (0, .ref 0), (1, .int (nI j5)), (2, .int w)] [] (pw_svm mm (pw_z3 mm (pw_g mm 42 0) (some j5)))
        refine pw_lvp [3, 4, 5, 2, 1, 0] rfl ?_
        suffices lo : ∀ sx : Nat, sx ≤ pw_n mm → pw_V x m_X7_safest 4 Z 50 [(0, .ref 0), (1, .int (nI j5)), (2, .int w), (3, .int (pw_o ((pw_sf mm j5 sx).map (·.1)))), (4, .int (pw_o ((pw_sf mm j5 sx).map (·.2)))), (5, .int (nI sx))] [] (pw_svm mm (pw_z3 mm (pw_g mm 42 0) (some j5))) from lo 0 (by omega)
        refine pw_dn (pw_n mm) (fun sx hsx ih => ?_)
        have b7 := pw_b7 hok (show j5 < 6 by omega)
        have br : pw_rk mm j5 sx ≤ 448 := pw_rk_le bn bk
        rcases hsf : pw_sf mm j5 sx with _ | ⟨pa, pb⟩
        · show pw_V x m_X7_safest 4 Z 50 [(0, .ref 0), (1, .int (nI j5)), (2, .int w), (3, .int (-1)), (4, .int (-1)), (5, .int (nI sx))] [] (pw_svm mm (pw_z3 mm (pw_g mm 42 0) (some j5)))
          refine pw_blk (pc' := 59) [.iload 5, .aload 0, .getfield 701, .getfield 500] (by decide +kernel) ?_
          show pw_V x m_X7_safest 4 Z 59 [(0, .ref 0), (1, .int (nI j5)), (2, .int w), (3, .int (-1)), (4, .int (-1)), (5, .int (nI sx))] [.int (mm 4 0), .int (nI sx)] (pw_svm mm (pw_z3 mm (pw_g mm 42 0) (some j5)))
          rw [show mm 4 0 = nI (pw_n mm) from pw_q40 hok]
          refine pw_in_ge (tgt := 126) (off := 67) (by omega) (by omega) (by decide +kernel) (by decide) (fun h59 => ?_) (fun h59 => ?_)
          · have es : sx = pw_n mm := by omega
            rw [es] at hsf
            refine pw_blk (pc' := 127) [.iload 2] (by decide +kernel) ?_
            show pw_V x m_X7_safest 4 Z 127 [(0, .ref 0), (1, .int (nI j5)), (2, .int w), (3, .int (-1)), (4, .int (-1)), (5, .int (nI sx))] [.int w] (pw_svm mm (pw_z3 mm (pw_g mm 42 0) (some j5)))
            refine pw_if_ne (tgt := 134) (off := 7) (by decide +kernel) (by decide) (fun h127 => ?_) (fun h127 => ?_)
            · refine pw_blk (pc' := 136) [.iload 4] (by decide +kernel) ?_
              show pw_V x m_X7_safest 4 Z 136 [(0, .ref 0), (1, .int (nI j5)), (2, .int w), (3, .int (-1)), (4, .int (-1)), (5, .int (nI sx))] [.int (-1)] (pw_svm mm (pw_z3 mm (pw_g mm 42 0) (some j5)))
              rw [← hZ]
              refine pw_ri (by decide +kernel) ?_
              exact ⟨by unfold F_safest; rw [if_pos (show pw_inr (nI j5) (pw_k mm) = true from by rw [pw_inr_nI (show j5 < 2 ^ 31 by omega) (show pw_k mm < 2 ^ 31 by omega)]; exact decide_eq_true b5), if_pos (pw_inr_y3 (n := 1) (by omega) h12 h17), if_neg (show ¬ w = nI 0 from h127), pw_c_nI (show j5 < 2 ^ 31 by omega), hsf]; rfl, pw_frw_s⟩
            · refine pw_blk (pc' := 131) [.iload 3] (by decide +kernel) ?_
              show pw_V x m_X7_safest 4 Z 131 [(0, .ref 0), (1, .int (nI j5)), (2, .int w), (3, .int (-1)), (4, .int (-1)), (5, .int (nI sx))] [.int (-1)] (pw_svm mm (pw_z3 mm (pw_g mm 42 0) (some j5)))
              refine pw_goto (tgt := 136) (off := 5) (by decide +kernel) (by decide) ?_
              rw [← hZ]
              refine pw_ri (by decide +kernel) ?_
              exact ⟨by unfold F_safest; rw [if_pos (show pw_inr (nI j5) (pw_k mm) = true from by rw [pw_inr_nI (show j5 < 2 ^ 31 by omega) (show pw_k mm < 2 ^ 31 by omega)]; exact decide_eq_true b5), if_pos (pw_inr_y3 (n := 1) (by omega) h12 h17), if_pos (show w = nI 0 from h127), pw_c_nI (show j5 < 2 ^ 31 by omega), hsf]; rfl, pw_frw_s⟩
          · refine pw_blk (pc' := 72) [.aload 0, .getfield 701, .getfield 504, .iload 1, .iaload, .iconst 1] (by decide +kernel) ?_
            refine ⟨j5, rfl, by omega, ?_⟩
            show pw_V x m_X7_safest 4 Z 72 [(0, .ref 0), (1, .int (nI j5)), (2, .int w), (3, .int (-1)), (4, .int (-1)), (5, .int (nI sx))] [.int (nI 1), .int (mm 7 j5)] (pw_svm mm (pw_z3 mm (pw_g mm 42 0) (some j5)))
            rw [show mm 7 j5 = nI (pw_g mm 7 j5) from pw_q7 hok (by omega)]
            refine pw_in_ne (tgt := 79) (off := 7) (by omega) (by omega) (by decide +kernel) (by decide) (fun h72 => ?_) (fun h72 => ?_)
            · refine pw_blk (pc' := 89) [.aload 0, .getfield 704, .getfield 608, .iload 5, .iaload] (by decide +kernel) ?_
              refine ⟨sx, rfl, by omega, ?_⟩
              show pw_V x m_X7_safest 4 Z 89 [(0, .ref 0), (1, .int (nI j5)), (2, .int w), (3, .int (-1)), (4, .int (-1)), (5, .int (nI sx))] [.int ((pw_svm mm (pw_z3 mm (pw_g mm 42 0) (some j5))) 19 sx)] (pw_svm mm (pw_z3 mm (pw_g mm 42 0) (some j5)))
              rw [show (pw_svm mm (pw_z3 mm (pw_g mm 42 0) (some j5))) 19 sx = nI ((pw_z3 mm (pw_g mm 42 0) (some j5)).2.2.2 sx) from pw_svm_r (by omega)]
              rw [show nI ((pw_z3 mm (pw_g mm 42 0) (some j5)).2.2.2 sx) = nI (pw_rk mm j5 sx) from by simp [pw_rk, h72]]
              show pw_V x m_X7_safest 4 Z 89 [(0, .ref 0), (1, .int (nI j5)), (2, .int w), (3, .int (-1)), (4, .int (-1)), (5, .int (nI sx))] [.int (nI (pw_rk mm j5 sx))] (pw_svm mm (pw_z3 mm (pw_g mm 42 0) (some j5)))
              refine pw_blk (pc' := 95) [.istore 6, .aload 0, .iload 1, .iload 5] (by decide +kernel) ?_
              show pw_V x m_X7_safest 4 Z 95 [(6, .int (nI (pw_rk mm j5 sx))), (0, .ref 0), (1, .int (nI j5)), (2, .int w), (3, .int (-1)), (4, .int (-1)), (5, .int (nI sx))] [.int (nI sx), .int (nI j5), .ref 0] (pw_svm mm (pw_z3 mm (pw_g mm 42 0) (some j5)))
              refine pw_cV (vs := [.int (nI j5), .int (nI sx)]) (rest := []) k_X7_fitsNow (c_fitsNow j5 sx (pw_svm mm (pw_z3 mm (pw_g mm 42 0) (some j5))) (pw_ok_svm h0k) (by omega) (by omega)) l_7_144 rfl rfl rfl rfl (by omega) (Nat.le_of_ble_eq_true rfl) (by decide +kernel) ?_
              rintro _ m1 ⟨rfl, e1⟩
              rw [e1]
              clear e1 m1
              show pw_V x m_X7_safest 4 Z 98 [(6, .int (nI (pw_rk mm j5 sx))), (0, .ref 0), (1, .int (nI j5)), (2, .int w), (3, .int (-1)), (4, .int (-1)), (5, .int (nI sx))] [.int (pw_b (pw_fnow mm j5 sx))] (pw_svm mm (pw_z3 mm (pw_g mm 42 0) (some j5)))
              refine pw_ib_eq (tgt := 120) (off := 22) (by decide +kernel) (by decide) (fun h98 => ?_) (fun h98 => ?_)
              · refine pw_blk (pc' := 123) [.iinc 5 1] (by decide +kernel) ?_
                show pw_V x m_X7_safest 4 Z 123 [(5, .int ((nI sx) + (nI 1))), (6, .int (nI (pw_rk mm j5 sx))), (0, .ref 0), (1, .int (nI j5)), (2, .int w), (3, .int (-1)), (4, .int (-1))] [] (pw_svm mm (pw_z3 mm (pw_g mm 42 0) (some j5)))
                rw [show (nI sx) + (nI 1) = nI (sx + 1) from nI_add _ _]
                refine pw_goto (tgt := 50) (off := -73) (by decide +kernel) (by decide) ?_
                have e9 : pw_sf mm j5 (sx + 1) = none := by simp [pw_sf, hsf, h98]
                have e8 := ih (by omega)
                rw [e9] at e8
                refine pw_lvp [2, 3, 4, 5, 6, 0] rfl ?_
                exact e8
              · refine pw_blk (pc' := 103) [.iload 3, .iconst (-1)] (by decide +kernel) ?_
                show pw_V x m_X7_safest 4 Z 103 [(6, .int (nI (pw_rk mm j5 sx))), (0, .ref 0), (1, .int (nI j5)), (2, .int w), (3, .int (-1)), (4, .int (-1)), (5, .int (nI sx))] [.int (-1), .int (-1)] (pw_svm mm (pw_z3 mm (pw_g mm 42 0) (some j5)))
                refine pw_ic_eq (tgt := 113) (off := 10) (by decide +kernel) (by decide) (fun _ => ?_) (fun h => absurd rfl h)
                refine pw_blk (pc' := 123) [.iload 5, .istore 3, .iload 6, .istore 4, .iinc 5 1] (by decide +kernel) ?_
                show pw_V x m_X7_safest 4 Z 123 [(5, .int ((nI sx) + (nI 1))), (4, .int (nI (pw_rk mm j5 sx))), (3, .int (nI sx)), (6, .int (nI (pw_rk mm j5 sx))), (0, .ref 0), (1, .int (nI j5)), (2, .int w)] [] (pw_svm mm (pw_z3 mm (pw_g mm 42 0) (some j5)))
                rw [show (nI sx) + (nI 1) = nI (sx + 1) from nI_add _ _]
                refine pw_goto (tgt := 50) (off := -73) (by decide +kernel) (by decide) ?_
                have e9 : pw_sf mm j5 (sx + 1) = some (sx, pw_rk mm j5 sx) := by simp [pw_sf, hsf, h98]
                have e8 := ih (by omega)
                rw [e9] at e8
                refine pw_lvp [4, 5, 6, 2, 1, 0] rfl ?_
                exact e8
            · refine pw_blk (pc' := 76) [.iconst 0] (by decide +kernel) ?_
              show pw_V x m_X7_safest 4 Z 76 [(0, .ref 0), (1, .int (nI j5)), (2, .int w), (3, .int (-1)), (4, .int (-1)), (5, .int (nI sx))] [.int (nI 0)] (pw_svm mm (pw_z3 mm (pw_g mm 42 0) (some j5)))
              refine pw_goto (tgt := 89) (off := 13) (by decide +kernel) (by decide) ?_
              rw [show nI 0 = nI (pw_rk mm j5 sx) from by simp [pw_rk, h72]]
              show pw_V x m_X7_safest 4 Z 89 [(0, .ref 0), (1, .int (nI j5)), (2, .int w), (3, .int (-1)), (4, .int (-1)), (5, .int (nI sx))] [.int (nI (pw_rk mm j5 sx))] (pw_svm mm (pw_z3 mm (pw_g mm 42 0) (some j5)))
              refine pw_blk (pc' := 95) [.istore 6, .aload 0, .iload 1, .iload 5] (by decide +kernel) ?_
              show pw_V x m_X7_safest 4 Z 95 [(6, .int (nI (pw_rk mm j5 sx))), (0, .ref 0), (1, .int (nI j5)), (2, .int w), (3, .int (-1)), (4, .int (-1)), (5, .int (nI sx))] [.int (nI sx), .int (nI j5), .ref 0] (pw_svm mm (pw_z3 mm (pw_g mm 42 0) (some j5)))
              refine pw_cV (vs := [.int (nI j5), .int (nI sx)]) (rest := []) k_X7_fitsNow (c_fitsNow j5 sx (pw_svm mm (pw_z3 mm (pw_g mm 42 0) (some j5))) (pw_ok_svm h0k) (by omega) (by omega)) l_7_144 rfl rfl rfl rfl (by omega) (Nat.le_of_ble_eq_true rfl) (by decide +kernel) ?_
              rintro _ m1 ⟨rfl, e1⟩
              rw [e1]
              clear e1 m1
              show pw_V x m_X7_safest 4 Z 98 [(6, .int (nI (pw_rk mm j5 sx))), (0, .ref 0), (1, .int (nI j5)), (2, .int w), (3, .int (-1)), (4, .int (-1)), (5, .int (nI sx))] [.int (pw_b (pw_fnow mm j5 sx))] (pw_svm mm (pw_z3 mm (pw_g mm 42 0) (some j5)))
              refine pw_ib_eq (tgt := 120) (off := 22) (by decide +kernel) (by decide) (fun h98 => ?_) (fun h98 => ?_)
              · refine pw_blk (pc' := 123) [.iinc 5 1] (by decide +kernel) ?_
                show pw_V x m_X7_safest 4 Z 123 [(5, .int ((nI sx) + (nI 1))), (6, .int (nI (pw_rk mm j5 sx))), (0, .ref 0), (1, .int (nI j5)), (2, .int w), (3, .int (-1)), (4, .int (-1))] [] (pw_svm mm (pw_z3 mm (pw_g mm 42 0) (some j5)))
                rw [show (nI sx) + (nI 1) = nI (sx + 1) from nI_add _ _]
                refine pw_goto (tgt := 50) (off := -73) (by decide +kernel) (by decide) ?_
                have e9 : pw_sf mm j5 (sx + 1) = none := by simp [pw_sf, hsf, h98]
                have e8 := ih (by omega)
                rw [e9] at e8
                refine pw_lvp [2, 3, 4, 5, 6, 0] rfl ?_
                exact e8
              · refine pw_blk (pc' := 103) [.iload 3, .iconst (-1)] (by decide +kernel) ?_
                show pw_V x m_X7_safest 4 Z 103 [(6, .int (nI (pw_rk mm j5 sx))), (0, .ref 0), (1, .int (nI j5)), (2, .int w), (3, .int (-1)), (4, .int (-1)), (5, .int (nI sx))] [.int (-1), .int (-1)] (pw_svm mm (pw_z3 mm (pw_g mm 42 0) (some j5)))
                refine pw_ic_eq (tgt := 113) (off := 10) (by decide +kernel) (by decide) (fun _ => ?_) (fun h => absurd rfl h)
                refine pw_blk (pc' := 123) [.iload 5, .istore 3, .iload 6, .istore 4, .iinc 5 1] (by decide +kernel) ?_
                show pw_V x m_X7_safest 4 Z 123 [(5, .int ((nI sx) + (nI 1))), (4, .int (nI (pw_rk mm j5 sx))), (3, .int (nI sx)), (6, .int (nI (pw_rk mm j5 sx))), (0, .ref 0), (1, .int (nI j5)), (2, .int w)] [] (pw_svm mm (pw_z3 mm (pw_g mm 42 0) (some j5)))
                rw [show (nI sx) + (nI 1) = nI (sx + 1) from nI_add _ _]
                refine pw_goto (tgt := 50) (off := -73) (by decide +kernel) (by decide) ?_
                have e9 : pw_sf mm j5 (sx + 1) = some (sx, pw_rk mm j5 sx) := by simp [pw_sf, hsf, h98]
                have e8 := ih (by omega)
                rw [e9] at e8
                refine pw_lvp [4, 5, 6, 2, 1, 0] rfl ?_
                exact e8
        · show pw_V x m_X7_safest 4 Z 50 [(0, .ref 0), (1, .int (nI j5)), (2, .int w), (3, .int (nI pa)), (4, .int (nI pb)), (5, .int (nI sx))] [] (pw_svm mm (pw_z3 mm (pw_g mm 42 0) (some j5)))
          obtain ⟨ba, bb⟩ := pw_sf_b bn bk sx _ hsf
          dsimp only at ba bb
          refine pw_blk (pc' := 59) [.iload 5, .aload 0, .getfield 701, .getfield 500] (by decide +kernel) ?_
          show pw_V x m_X7_safest 4 Z 59 [(0, .ref 0), (1, .int (nI j5)), (2, .int w), (3, .int (nI pa)), (4, .int (nI pb)), (5, .int (nI sx))] [.int (mm 4 0), .int (nI sx)] (pw_svm mm (pw_z3 mm (pw_g mm 42 0) (some j5)))
          rw [show mm 4 0 = nI (pw_n mm) from pw_q40 hok]
          refine pw_in_ge (tgt := 126) (off := 67) (by omega) (by omega) (by decide +kernel) (by decide) (fun h59 => ?_) (fun h59 => ?_)
          · have es : sx = pw_n mm := by omega
            rw [es] at hsf
            refine pw_blk (pc' := 127) [.iload 2] (by decide +kernel) ?_
            show pw_V x m_X7_safest 4 Z 127 [(0, .ref 0), (1, .int (nI j5)), (2, .int w), (3, .int (nI pa)), (4, .int (nI pb)), (5, .int (nI sx))] [.int w] (pw_svm mm (pw_z3 mm (pw_g mm 42 0) (some j5)))
            refine pw_if_ne (tgt := 134) (off := 7) (by decide +kernel) (by decide) (fun h127 => ?_) (fun h127 => ?_)
            · refine pw_blk (pc' := 136) [.iload 4] (by decide +kernel) ?_
              show pw_V x m_X7_safest 4 Z 136 [(0, .ref 0), (1, .int (nI j5)), (2, .int w), (3, .int (nI pa)), (4, .int (nI pb)), (5, .int (nI sx))] [.int (nI pb)] (pw_svm mm (pw_z3 mm (pw_g mm 42 0) (some j5)))
              rw [← hZ]
              refine pw_ri (by decide +kernel) ?_
              exact ⟨by unfold F_safest; rw [if_pos (show pw_inr (nI j5) (pw_k mm) = true from by rw [pw_inr_nI (show j5 < 2 ^ 31 by omega) (show pw_k mm < 2 ^ 31 by omega)]; exact decide_eq_true b5), if_pos (pw_inr_y3 (n := 1) (by omega) h12 h17), if_neg (show ¬ w = nI 0 from h127), pw_c_nI (show j5 < 2 ^ 31 by omega), hsf]; rfl, pw_frw_s⟩
            · refine pw_blk (pc' := 131) [.iload 3] (by decide +kernel) ?_
              show pw_V x m_X7_safest 4 Z 131 [(0, .ref 0), (1, .int (nI j5)), (2, .int w), (3, .int (nI pa)), (4, .int (nI pb)), (5, .int (nI sx))] [.int (nI pa)] (pw_svm mm (pw_z3 mm (pw_g mm 42 0) (some j5)))
              refine pw_goto (tgt := 136) (off := 5) (by decide +kernel) (by decide) ?_
              rw [← hZ]
              refine pw_ri (by decide +kernel) ?_
              exact ⟨by unfold F_safest; rw [if_pos (show pw_inr (nI j5) (pw_k mm) = true from by rw [pw_inr_nI (show j5 < 2 ^ 31 by omega) (show pw_k mm < 2 ^ 31 by omega)]; exact decide_eq_true b5), if_pos (pw_inr_y3 (n := 1) (by omega) h12 h17), if_pos (show w = nI 0 from h127), pw_c_nI (show j5 < 2 ^ 31 by omega), hsf]; rfl, pw_frw_s⟩
          · refine pw_blk (pc' := 72) [.aload 0, .getfield 701, .getfield 504, .iload 1, .iaload, .iconst 1] (by decide +kernel) ?_
            refine ⟨j5, rfl, by omega, ?_⟩
            show pw_V x m_X7_safest 4 Z 72 [(0, .ref 0), (1, .int (nI j5)), (2, .int w), (3, .int (nI pa)), (4, .int (nI pb)), (5, .int (nI sx))] [.int (nI 1), .int (mm 7 j5)] (pw_svm mm (pw_z3 mm (pw_g mm 42 0) (some j5)))
            rw [show mm 7 j5 = nI (pw_g mm 7 j5) from pw_q7 hok (by omega)]
            refine pw_in_ne (tgt := 79) (off := 7) (by omega) (by omega) (by decide +kernel) (by decide) (fun h72 => ?_) (fun h72 => ?_)
            · refine pw_blk (pc' := 89) [.aload 0, .getfield 704, .getfield 608, .iload 5, .iaload] (by decide +kernel) ?_
              refine ⟨sx, rfl, by omega, ?_⟩
              show pw_V x m_X7_safest 4 Z 89 [(0, .ref 0), (1, .int (nI j5)), (2, .int w), (3, .int (nI pa)), (4, .int (nI pb)), (5, .int (nI sx))] [.int ((pw_svm mm (pw_z3 mm (pw_g mm 42 0) (some j5))) 19 sx)] (pw_svm mm (pw_z3 mm (pw_g mm 42 0) (some j5)))
              rw [show (pw_svm mm (pw_z3 mm (pw_g mm 42 0) (some j5))) 19 sx = nI ((pw_z3 mm (pw_g mm 42 0) (some j5)).2.2.2 sx) from pw_svm_r (by omega)]
              rw [show nI ((pw_z3 mm (pw_g mm 42 0) (some j5)).2.2.2 sx) = nI (pw_rk mm j5 sx) from by simp [pw_rk, h72]]
              show pw_V x m_X7_safest 4 Z 89 [(0, .ref 0), (1, .int (nI j5)), (2, .int w), (3, .int (nI pa)), (4, .int (nI pb)), (5, .int (nI sx))] [.int (nI (pw_rk mm j5 sx))] (pw_svm mm (pw_z3 mm (pw_g mm 42 0) (some j5)))
              refine pw_blk (pc' := 95) [.istore 6, .aload 0, .iload 1, .iload 5] (by decide +kernel) ?_
              show pw_V x m_X7_safest 4 Z 95 [(6, .int (nI (pw_rk mm j5 sx))), (0, .ref 0), (1, .int (nI j5)), (2, .int w), (3, .int (nI pa)), (4, .int (nI pb)), (5, .int (nI sx))] [.int (nI sx), .int (nI j5), .ref 0] (pw_svm mm (pw_z3 mm (pw_g mm 42 0) (some j5)))
              refine pw_cV (vs := [.int (nI j5), .int (nI sx)]) (rest := []) k_X7_fitsNow (c_fitsNow j5 sx (pw_svm mm (pw_z3 mm (pw_g mm 42 0) (some j5))) (pw_ok_svm h0k) (by omega) (by omega)) l_7_144 rfl rfl rfl rfl (by omega) (Nat.le_of_ble_eq_true rfl) (by decide +kernel) ?_
              rintro _ m1 ⟨rfl, e1⟩
              rw [e1]
              clear e1 m1
              show pw_V x m_X7_safest 4 Z 98 [(6, .int (nI (pw_rk mm j5 sx))), (0, .ref 0), (1, .int (nI j5)), (2, .int w), (3, .int (nI pa)), (4, .int (nI pb)), (5, .int (nI sx))] [.int (pw_b (pw_fnow mm j5 sx))] (pw_svm mm (pw_z3 mm (pw_g mm 42 0) (some j5)))
              refine pw_ib_eq (tgt := 120) (off := 22) (by decide +kernel) (by decide) (fun h98 => ?_) (fun h98 => ?_)
              · refine pw_blk (pc' := 123) [.iinc 5 1] (by decide +kernel) ?_
                show pw_V x m_X7_safest 4 Z 123 [(5, .int ((nI sx) + (nI 1))), (6, .int (nI (pw_rk mm j5 sx))), (0, .ref 0), (1, .int (nI j5)), (2, .int w), (3, .int (nI pa)), (4, .int (nI pb))] [] (pw_svm mm (pw_z3 mm (pw_g mm 42 0) (some j5)))
                rw [show (nI sx) + (nI 1) = nI (sx + 1) from nI_add _ _]
                refine pw_goto (tgt := 50) (off := -73) (by decide +kernel) (by decide) ?_
                have e9 : pw_sf mm j5 (sx + 1) = some (pa, pb) := by simp [pw_sf, hsf, h98]
                have e8 := ih (by omega)
                rw [e9] at e8
                refine pw_lvp [2, 3, 4, 5, 6, 0] rfl ?_
                exact e8
              · refine pw_blk (pc' := 103) [.iload 3, .iconst (-1)] (by decide +kernel) ?_
                show pw_V x m_X7_safest 4 Z 103 [(6, .int (nI (pw_rk mm j5 sx))), (0, .ref 0), (1, .int (nI j5)), (2, .int w), (3, .int (nI pa)), (4, .int (nI pb)), (5, .int (nI sx))] [.int (-1), .int (nI pa)] (pw_svm mm (pw_z3 mm (pw_g mm 42 0) (some j5)))
                refine pw_ic_eq (tgt := 113) (off := 10) (by decide +kernel) (by decide) (fun h => absurd h (pw_n1 (by omega))) (fun _ => ?_)
                refine pw_blk (pc' := 110) [.iload 6, .iload 4] (by decide +kernel) ?_
                show pw_V x m_X7_safest 4 Z 110 [(6, .int (nI (pw_rk mm j5 sx))), (0, .ref 0), (1, .int (nI j5)), (2, .int w), (3, .int (nI pa)), (4, .int (nI pb)), (5, .int (nI sx))] [.int (nI pb), .int (nI (pw_rk mm j5 sx))] (pw_svm mm (pw_z3 mm (pw_g mm 42 0) (some j5)))
                refine pw_in_ge (tgt := 120) (off := 10) (by omega) (by omega) (by decide +kernel) (by decide) (fun h110 => ?_) (fun h110 => ?_)
                · refine pw_blk (pc' := 123) [.iinc 5 1] (by decide +kernel) ?_
                  show pw_V x m_X7_safest 4 Z 123 [(5, .int ((nI sx) + (nI 1))), (6, .int (nI (pw_rk mm j5 sx))), (0, .ref 0), (1, .int (nI j5)), (2, .int w), (3, .int (nI pa)), (4, .int (nI pb))] [] (pw_svm mm (pw_z3 mm (pw_g mm 42 0) (some j5)))
                  rw [show (nI sx) + (nI 1) = nI (sx + 1) from nI_add _ _]
                  refine pw_goto (tgt := 50) (off := -73) (by decide +kernel) (by decide) ?_
                  have e9 : pw_sf mm j5 (sx + 1) = some (pa, pb) := by simp [pw_sf, hsf, h98, h110, show ¬ pw_rk mm j5 sx < pb by omega]
                  have e8 := ih (by omega)
                  rw [e9] at e8
                  refine pw_lvp [2, 3, 4, 5, 6, 0] rfl ?_
                  exact e8
                · refine pw_blk (pc' := 123) [.iload 5, .istore 3, .iload 6, .istore 4, .iinc 5 1] (by decide +kernel) ?_
                  show pw_V x m_X7_safest 4 Z 123 [(5, .int ((nI sx) + (nI 1))), (4, .int (nI (pw_rk mm j5 sx))), (3, .int (nI sx)), (6, .int (nI (pw_rk mm j5 sx))), (0, .ref 0), (1, .int (nI j5)), (2, .int w)] [] (pw_svm mm (pw_z3 mm (pw_g mm 42 0) (some j5)))
                  rw [show (nI sx) + (nI 1) = nI (sx + 1) from nI_add _ _]
                  refine pw_goto (tgt := 50) (off := -73) (by decide +kernel) (by decide) ?_
                  have e9 : pw_sf mm j5 (sx + 1) = some (sx, pw_rk mm j5 sx) := by simp [pw_sf, hsf, h98, h110]
                  have e8 := ih (by omega)
                  rw [e9] at e8
                  refine pw_lvp [4, 5, 6, 2, 1, 0] rfl ?_
                  exact e8
            · refine pw_blk (pc' := 76) [.iconst 0] (by decide +kernel) ?_
              show pw_V x m_X7_safest 4 Z 76 [(0, .ref 0), (1, .int (nI j5)), (2, .int w), (3, .int (nI pa)), (4, .int (nI pb)), (5, .int (nI sx))] [.int (nI 0)] (pw_svm mm (pw_z3 mm (pw_g mm 42 0) (some j5)))
              refine pw_goto (tgt := 89) (off := 13) (by decide +kernel) (by decide) ?_
              rw [show nI 0 = nI (pw_rk mm j5 sx) from by simp [pw_rk, h72]]
              show pw_V x m_X7_safest 4 Z 89 [(0, .ref 0), (1, .int (nI j5)), (2, .int w), (3, .int (nI pa)), (4, .int (nI pb)), (5, .int (nI sx))] [.int (nI (pw_rk mm j5 sx))] (pw_svm mm (pw_z3 mm (pw_g mm 42 0) (some j5)))
              refine pw_blk (pc' := 95) [.istore 6, .aload 0, .iload 1, .iload 5] (by decide +kernel) ?_
              show pw_V x m_X7_safest 4 Z 95 [(6, .int (nI (pw_rk mm j5 sx))), (0, .ref 0), (1, .int (nI j5)), (2, .int w), (3, .int (nI pa)), (4, .int (nI pb)), (5, .int (nI sx))] [.int (nI sx), .int (nI j5), .ref 0] (pw_svm mm (pw_z3 mm (pw_g mm 42 0) (some j5)))
              refine pw_cV (vs := [.int (nI j5), .int (nI sx)]) (rest := []) k_X7_fitsNow (c_fitsNow j5 sx (pw_svm mm (pw_z3 mm (pw_g mm 42 0) (some j5))) (pw_ok_svm h0k) (by omega) (by omega)) l_7_144 rfl rfl rfl rfl (by omega) (Nat.le_of_ble_eq_true rfl) (by decide +kernel) ?_
              rintro _ m1 ⟨rfl, e1⟩
              rw [e1]
              clear e1 m1
              show pw_V x m_X7_safest 4 Z 98 [(6, .int (nI (pw_rk mm j5 sx))), (0, .ref 0), (1, .int (nI j5)), (2, .int w), (3, .int (nI pa)), (4, .int (nI pb)), (5, .int (nI sx))] [.int (pw_b (pw_fnow mm j5 sx))] (pw_svm mm (pw_z3 mm (pw_g mm 42 0) (some j5)))
              refine pw_ib_eq (tgt := 120) (off := 22) (by decide +kernel) (by decide) (fun h98 => ?_) (fun h98 => ?_)
              · refine pw_blk (pc' := 123) [.iinc 5 1] (by decide +kernel) ?_
                show pw_V x m_X7_safest 4 Z 123 [(5, .int ((nI sx) + (nI 1))), (6, .int (nI (pw_rk mm j5 sx))), (0, .ref 0), (1, .int (nI j5)), (2, .int w), (3, .int (nI pa)), (4, .int (nI pb))] [] (pw_svm mm (pw_z3 mm (pw_g mm 42 0) (some j5)))
                rw [show (nI sx) + (nI 1) = nI (sx + 1) from nI_add _ _]
                refine pw_goto (tgt := 50) (off := -73) (by decide +kernel) (by decide) ?_
                have e9 : pw_sf mm j5 (sx + 1) = some (pa, pb) := by simp [pw_sf, hsf, h98]
                have e8 := ih (by omega)
                rw [e9] at e8
                refine pw_lvp [2, 3, 4, 5, 6, 0] rfl ?_
                exact e8
              · refine pw_blk (pc' := 103) [.iload 3, .iconst (-1)] (by decide +kernel) ?_
                show pw_V x m_X7_safest 4 Z 103 [(6, .int (nI (pw_rk mm j5 sx))), (0, .ref 0), (1, .int (nI j5)), (2, .int w), (3, .int (nI pa)), (4, .int (nI pb)), (5, .int (nI sx))] [.int (-1), .int (nI pa)] (pw_svm mm (pw_z3 mm (pw_g mm 42 0) (some j5)))
                refine pw_ic_eq (tgt := 113) (off := 10) (by decide +kernel) (by decide) (fun h => absurd h (pw_n1 (by omega))) (fun _ => ?_)
                refine pw_blk (pc' := 110) [.iload 6, .iload 4] (by decide +kernel) ?_
                show pw_V x m_X7_safest 4 Z 110 [(6, .int (nI (pw_rk mm j5 sx))), (0, .ref 0), (1, .int (nI j5)), (2, .int w), (3, .int (nI pa)), (4, .int (nI pb)), (5, .int (nI sx))] [.int (nI pb), .int (nI (pw_rk mm j5 sx))] (pw_svm mm (pw_z3 mm (pw_g mm 42 0) (some j5)))
                refine pw_in_ge (tgt := 120) (off := 10) (by omega) (by omega) (by decide +kernel) (by decide) (fun h110 => ?_) (fun h110 => ?_)
                · refine pw_blk (pc' := 123) [.iinc 5 1] (by decide +kernel) ?_
                  show pw_V x m_X7_safest 4 Z 123 [(5, .int ((nI sx) + (nI 1))), (6, .int (nI (pw_rk mm j5 sx))), (0, .ref 0), (1, .int (nI j5)), (2, .int w), (3, .int (nI pa)), (4, .int (nI pb))] [] (pw_svm mm (pw_z3 mm (pw_g mm 42 0) (some j5)))
                  rw [show (nI sx) + (nI 1) = nI (sx + 1) from nI_add _ _]
                  refine pw_goto (tgt := 50) (off := -73) (by decide +kernel) (by decide) ?_
                  have e9 : pw_sf mm j5 (sx + 1) = some (pa, pb) := by simp [pw_sf, hsf, h98, h110, show ¬ pw_rk mm j5 sx < pb by omega]
                  have e8 := ih (by omega)
                  rw [e9] at e8
                  refine pw_lvp [2, 3, 4, 5, 6, 0] rfl ?_
                  exact e8
                · refine pw_blk (pc' := 123) [.iload 5, .istore 3, .iload 6, .istore 4, .iinc 5 1] (by decide +kernel) ?_
                  show pw_V x m_X7_safest 4 Z 123 [(5, .int ((nI sx) + (nI 1))), (4, .int (nI (pw_rk mm j5 sx))), (3, .int (nI sx)), (6, .int (nI (pw_rk mm j5 sx))), (0, .ref 0), (1, .int (nI j5)), (2, .int w)] [] (pw_svm mm (pw_z3 mm (pw_g mm 42 0) (some j5)))
                  rw [show (nI sx) + (nI 1) = nI (sx + 1) from nI_add _ _]
                  refine pw_goto (tgt := 50) (off := -73) (by decide +kernel) (by decide) ?_
                  have e9 : pw_sf mm j5 (sx + 1) = some (sx, pw_rk mm j5 sx) := by simp [pw_sf, hsf, h98, h110]
                  have e8 := ih (by omega)
                  rw [e9] at e8
                  refine pw_lvp [4, 5, 6, 2, 1, 0] rfl ?_
                  exact e8
      · refine pw_blk (pc' := 22) [.iconst (-3)] (by decide +kernel) ?_
        show pw_V x m_X7_safest 4 Z 22 [(0, .ref 0), (1, .int (nI j5)), (2, .int w)] [.int (-3)] mm
        rw [← hZ]
        refine pw_ri (by decide +kernel) ?_
        exact ⟨by unfold F_safest; rw [if_pos (show pw_inr (nI j5) (pw_k mm) = true from by rw [pw_inr_nI (show j5 < 2 ^ 31 by omega) (show pw_k mm < 2 ^ 31 by omega)]; exact decide_eq_true b5), if_neg (by rw [pw_inr_f3 (n := 1) (by omega) (Int32.not_le.mp h17)]; decide)], pw_frw_r⟩
  · refine pw_blk (pc' := 10) [.iconst (-2)] (by decide +kernel) ?_
    show pw_V x m_X7_safest 4 Z 10 [(0, .ref 0), (1, .int k), (2, .int w)] [.int (-2)] mm
    rw [← hZ]
    refine pw_ri (by decide +kernel) ?_
    exact ⟨by simp [F_safest, h5], pw_frw_r⟩
end
section
/-! quests -/
theorem pw_lpow {b i : Nat} (hb : b < 2 ^ 31) : lN (b ^ i) * (nI b).toInt64 = lN (b ^ (i + 1)) := by rw [nI_l hb, lN_mul, Nat.pow_succ]
theorem pw_lcmp0 {a : Nat} (ha : a < 2 ^ 63) : lg_cmp (lN a) (0 : Int64) = 0 ↔ a = 0 := by
  have e0 : (0 : Int64) = lN 0 := rfl
  have h1 := pk_lLT (a := 0) (b := a) (by omega) ha
  have h2 := pk_lLT (a := a) (b := 0) ha (by omega)
  rw [e0]
  unfold lg_cmp
  rcases Nat.eq_zero_or_pos a with q | q
  · subst q; decide
  · have h3 : lN 0 < lN a := h1.mpr q
    simp [h3]
    omega
theorem pw_half {a b c : Nat} (hb : 0 < b) (hab : b ≤ a) (h : a * b < 2 ^ (c + 1)) : b * (a % b) < 2 ^ c := by
  have h1 := Nat.mod_lt a hb
  have h2 : a = b * (a / b) + a % b := (Nat.div_add_mod a b).symm
  have h3 : 1 ≤ a / b := (Nat.one_le_div_iff hb).mpr hab
  have h4 : b * 1 ≤ b * (a / b) := Nat.mul_le_mul_left b h3
  have h5 : 2 * (a % b) ≤ a := by omega
  have h6 : b * (2 * (a % b)) ≤ b * a := Nat.mul_le_mul_left b h5
  have h7 : b * (2 * (a % b)) = 2 * (b * (a % b)) := by rw [← Nat.mul_assoc, Nat.mul_comm b 2, Nat.mul_assoc]
  rw [h7, Nat.mul_comm b a] at h6
  rw [Nat.pow_succ] at h
  omega

set_option maxHeartbeats 4000000 in
set_option maxRecDepth 100000 in
theorem c_power (bx tx : Nat) (mm : pw_m) (hb : bx < 2 ^ 31) (ht : tx < 2 ^ 30) : pw_Ct 0 yX7_power m_X7_power [.int (nI bx), .int (nI tx)] mm (fun r m' => r = some (.long (lN (bx ^ tx))) ∧ m' = mm) := by
  refine pw_ct (by decide +kernel) rfl (Nat.le_of_ble_eq_true rfl) (fun x => ?_)
  generalize hZ : pw_Z x _ = Z
  have loop : ∀ i : Nat, i ≤ tx → pw_V x m_X7_power 0 Z 5 [(0, .int (nI bx)), (1, .int (nI tx)), (2, .long (lN (bx ^ i))), (4, .int (nI i))] [] mm := by
    refine pw_dn (tx) (fun i hi ih => ?_)
    refine pw_blk (pc' := 8) [.iload 4, .iload 1] (by decide +kernel) ?_
    show pw_V x m_X7_power 0 Z 8 [(0, .int (nI bx)), (1, .int (nI tx)), (2, .long (lN (bx ^ i))), (4, .int (nI i))] [.int (nI tx), .int (nI i)] mm
    refine pw_in_ge (tgt := 22) (off := 14) (by omega) (by omega) (by decide +kernel) (by decide) (fun h8 => ?_) (fun h8 => ?_)
    · refine pw_blk (pc' := 23) [.lload 2] (by decide +kernel) ?_
      show pw_V x m_X7_power 0 Z 23 [(0, .int (nI bx)), (1, .int (nI tx)), (2, .long (lN (bx ^ i))), (4, .int (nI i))] [.long (lN (bx ^ i))] mm
      rw [← hZ]
      refine pw_rl (by decide +kernel) ?_
      have e : i = tx := by omega
      subst e
      exact ⟨rfl, rfl⟩
    · refine pw_blk (pc' := 19) [.lload 2, .iload 0, .i2l, .lmul, .lstore 2, .iinc 4 1] (by decide +kernel) ?_
      show pw_V x m_X7_power 0 Z 19 [(4, .int ((nI i) + (nI 1))), (2, .long ((lN (bx ^ i)) * ((nI bx).toInt64))), (0, .int (nI bx)), (1, .int (nI tx))] [] mm
      rw [show (nI i) + (nI 1) = nI (i + 1) from nI_add _ _]
      refine pw_goto (tgt := 5) (off := -14) (by decide +kernel) (by decide) ?_
      rw [show (lN (bx ^ i)) * ((nI bx).toInt64) = lN (bx ^ (i + 1)) from pw_lpow hb]
      refine pw_lvp [2, 3, 1, 0] rfl ?_
      exact ih (by omega)
  show pw_V x m_X7_power 0 Z 0 [(0, .int (nI bx)), (1, .int (nI tx))] [] mm
  refine pw_blk (pc' := 5) [.jsr 1, .lstore 2, .iconst 0, .istore 4] (by decide +kernel) ?_
  show pw_V x m_X7_power 0 Z 5 [(4, .int (nI 0)), (2, .long (1 : Int64)), (0, .int (nI bx)), (1, .int (nI tx))] [] mm
  refine pw_lvp [2, 3, 1, 0] rfl ?_
  exact loop 0 (by omega)

set_option maxHeartbeats 4000000 in
set_option maxRecDepth 100000 in
theorem c_commonDivisor (oa ob : Nat) (mm : pw_m) (h0 : 0 < oa) (h1 : ob ≤ oa) (h2 : oa * ob < 2 ^ 60) (h3 : oa < 2 ^ 60) : pw_Ct 0 yX7_commonDivisor m_X7_commonDivisor [.long (lN oa), .long (lN ob)] mm (fun r m' => r = some (.long (lN (Nat.gcd oa ob))) ∧ m' = mm) := by
  refine pw_ct (by decide +kernel) rfl (Nat.le_of_ble_eq_true rfl) (fun x => ?_)
  generalize hZ : pw_Z x _ = Z
  show pw_V x m_X7_commonDivisor 0 Z 0 [(0, .long (lN oa)), (2, .long (lN ob))] [] mm
  refine pw_blk (pc' := 9) [.lload 0, .lstore 4, .lload 2, .lstore 6, .iconst 0, .istore 8] (by decide +kernel) ?_
  show pw_V x m_X7_commonDivisor 0 Z 9 [(8, .int (nI 0)), (6, .long (lN ob)), (4, .long (lN oa)), (0, .long (lN oa)), (2, .long (lN ob))] [] mm
  refine pw_lvp [3, 4, 2, 1, 0] rfl ?_
  suffices lo : ∀ i : Nat, i ≤ 100 → ∀ ax bx : Nat, 0 < ax → ax < 2 ^ 60 → bx ≤ ax → ax * bx < 2 ^ (100 - i) → Nat.gcd ax bx = Nat.gcd oa ob → pw_V x m_X7_commonDivisor 0 Z 9 [(0, .long (lN oa)), (2, .long (lN ob)), (4, .long (lN ax)), (6, .long (lN bx)), (8, .int (nI i))] [] mm from lo 0 (by omega) oa ob h0 (by omega) h1 (Nat.lt_of_lt_of_le h2 (Nat.pow_le_pow_right (by omega) (by omega))) rfl
  refine pw_dn 100 (fun i hi ih ax bx ha ha2 hba hp hg => ?_)
  refine pw_blk (pc' := 13) [.iload 8, .iconst (100)] (by decide +kernel) ?_
  show pw_V x m_X7_commonDivisor 0 Z 13 [(0, .long (lN oa)), (2, .long (lN ob)), (4, .long (lN ax)), (6, .long (lN bx)), (8, .int (nI i))] [.int (nI 100), .int (nI i)] mm
  refine pw_in_ge (tgt := 44) (off := 31) (by omega) (by omega) (by decide +kernel) (by decide) (fun h13 => ?_) (fun h13 => ?_)
  · refine pw_blk (pc' := 46) [.lload 4] (by decide +kernel) ?_
    show pw_V x m_X7_commonDivisor 0 Z 46 [(0, .long (lN oa)), (2, .long (lN ob)), (4, .long (lN ax)), (6, .long (lN bx)), (8, .int (nI i))] [.long (lN ax)] mm
    rw [← hZ]
    refine pw_rl (by decide +kernel) ?_
    have hi0 : 100 - i = 0 := by omega
    rw [hi0] at hp
    have z : bx = 0 := Nat.eq_zero_of_not_pos (fun q9 => by have := Nat.mul_pos ha q9; omega)
    subst z
    rw [Nat.gcd_zero_right] at hg
    exact ⟨by rw [hg], rfl⟩
  · refine pw_blk (pc' := 20) [.lload 6, .jsr 0, .lcmp] (by decide +kernel) ?_
    show pw_V x m_X7_commonDivisor 0 Z 20 [(0, .long (lN oa)), (2, .long (lN ob)), (4, .long (lN ax)), (6, .long (lN bx)), (8, .int (nI i))] [.int (lg_cmp (lN bx) (0 : Int64))] mm
    refine pw_if_eq (tgt := 44) (off := 24) (by decide +kernel) (by decide) (fun h20 => ?_) (fun h20 => ?_)
    · refine pw_blk (pc' := 46) [.lload 4] (by decide +kernel) ?_
      show pw_V x m_X7_commonDivisor 0 Z 46 [(0, .long (lN oa)), (2, .long (lN ob)), (4, .long (lN ax)), (6, .long (lN bx)), (8, .int (nI i))] [.long (lN ax)] mm
      rw [← hZ]
      refine pw_rl (by decide +kernel) ?_
      have z : bx = 0 := (pw_lcmp0 (by omega)).mp h20
      subst z
      rw [Nat.gcd_zero_right] at hg
      exact ⟨by rw [hg], rfl⟩
    · have hb0 : 0 < bx := Nat.pos_of_ne_zero (fun z => h20 ((pw_lcmp0 (by omega)).mpr z))
      have hbn : ¬ lN bx = 0 := fun z => Nat.ne_of_gt hb0 ((pk_lEQ (a := bx) (b := 0) (by omega) (by omega)).mp z)
      refine pw_blk (pc' := 28) [.lload 4, .lload 6, .lrem] (by decide +kernel) ?_
      refine ⟨hbn, ?_⟩
      show pw_V x m_X7_commonDivisor 0 Z 28 [(0, .long (lN oa)), (2, .long (lN ob)), (4, .long (lN ax)), (6, .long (lN bx)), (8, .int (nI i))] [.long ((lN ax) - (lN ax) / (lN bx) * (lN bx))] mm
      rw [pk_lRem (a := ax) (b := bx) (by omega) hb0 (by omega)]
      show pw_V x m_X7_commonDivisor 0 Z 28 [(0, .long (lN oa)), (2, .long (lN ob)), (4, .long (lN ax)), (6, .long (lN bx)), (8, .int (nI i))] [.long (lN (ax % bx))] mm
      refine pw_blk (pc' := 41) [.lstore 9, .lload 6, .lstore 4, .lload 9, .lstore 6, .iinc 8 1] (by decide +kernel) ?_
      show pw_V x m_X7_commonDivisor 0 Z 41 [(8, .int ((nI i) + (nI 1))), (6, .long (lN (ax % bx))), (4, .long (lN bx)), (9, .long (lN (ax % bx))), (0, .long (lN oa)), (2, .long (lN ob))] [] mm
      rw [show (nI i) + (nI 1) = nI (i + 1) from nI_add _ _]
      refine pw_goto (tgt := 9) (off := -32) (by decide +kernel) (by decide) ?_
      refine pw_lvp [4, 5, 2, 1, 0] rfl ?_
      have hc : 100 - i = (100 - (i + 1)) + 1 := by omega
      rw [hc] at hp
      exact ih (by omega) bx (ax % bx) hb0 (by omega) (Nat.le_of_lt (Nat.mod_lt _ hb0)) (pw_half hb0 hba hp) (by rw [← hg, Nat.gcd_comm ax bx, Nat.gcd_rec bx ax, Nat.gcd_comm])
end
section
def pw_ch (n : Nat) : Nat → Nat
  | 0 => 1
  | d + 1 => pw_ch n d * (n - d) / (d + 1)
def pw_wt (n p d : Nat) : Nat := pw_ch n d * p ^ d * (10 - p) ^ (n - d)
def pw_ab (A : pw_m) (k s n p : Nat) : Nat → Nat
  | 0 => 0
  | d + 1 => pw_ab A k s n p d + (if pw_fit A k (min 9 (pw_g A 43 k + d)) s then pw_wt n p d else 0)
theorem pw_ab_le {A : pw_m} {k s n p : Nat} : ∀ d, pw_ab A k s n p d ≤ pw_sm (pw_wt n p) d := by
  intro d
  induction d with
  | zero => exact Nat.le_refl _
  | succ d ih => simp only [pw_ab, pw_sm]; split <;> omega
theorem pw_wt_sum : ∀ n, n < 9 → ∀ p, p < 11 → pw_sm (pw_wt n p) (n + 1) = 10 ^ n := by decide +kernel
theorem pw_ch_b : ∀ n, n < 9 → ∀ d, d < 10 → pw_ch n d * (n - d) < 1000 := by decide +kernel
def F_qn (A : pw_m) (k s n p q : Nat) : Nat := (if q = 0 then pw_ab A k s n p (n + 1) else 10 ^ n) / Nat.gcd (10 ^ n) (pw_ab A k s n p (n + 1))
def F_quests (A : pw_m) (k s n p q : Int32) : Int64 := if pw_inr k (pw_k A) = true ∧ pw_inr s (pw_n A) = true then (if pw_inr n 9 = true ∧ pw_inr p 11 = true ∧ pw_inr q 2 = true then lN (F_qn A (pw_c k) (pw_c s) (pw_c n) (pw_c p) (pw_c q)) else -3) else -2
theorem pw_10n : ∀ n, n < 9 → 10 ^ n ≤ 100000000 ∧ 0 < 10 ^ n := by decide +kernel

set_option maxHeartbeats 4000000 in
set_option maxRecDepth 100000 in
theorem c_quests (k s n p q : Int32) (mm : pw_m) (hok : pw_ok mm) : pw_Ct 2 yX7_quests m_X7_quests [.ref 0, .int k, .int s, .int n, .int p, .int q] mm (fun r m' => r = some (.long (F_quests mm k s n p q)) ∧ m' = mm) := by
  refine pw_ct (by decide +kernel) rfl (Nat.le_of_ble_eq_true rfl) (fun x => ?_)
  generalize hZ : pw_Z x _ = Z
  have bn := pw_bn hok
  have bk := pw_bk hok
  show pw_V x m_X7_quests 2 Z 0 [(0, .ref 0), (1, .int k), (2, .int s), (3, .int n), (4, .int p), (5, .int q)] [] mm
  refine pw_blk (pc' := 2) [.aload 0, .iload 1] (by decide +kernel) ?_
  show pw_V x m_X7_quests 2 Z 2 [(0, .ref 0), (1, .int k), (2, .int s), (3, .int n), (4, .int p), (5, .int q)] [.int k, .ref 0] mm
  refine pw_cV (vs := [.int k]) (rest := []) k_X7_isKnight (c_isKnight k mm hok) l_7_106 rfl rfl rfl rfl (by omega) (Nat.le_of_ble_eq_true rfl) (by decide +kernel) ?_
  rintro _ m1 ⟨rfl, e1⟩
  rw [e1]
  clear e1 m1
  show pw_V x m_X7_quests 2 Z 5 [(0, .ref 0), (1, .int k), (2, .int s), (3, .int n), (4, .int p), (5, .int q)] [.int (pw_b (pw_inr k (pw_k mm)))] mm
  refine pw_ib_eq (tgt := 16) (off := 11) (by decide +kernel) (by decide) (fun h5 => ?_) (fun h5 => ?_)
  · refine pw_blk (pc' := 19) [.jsr (-2)] (by decide +kernel) ?_
    show pw_V x m_X7_quests 2 Z 19 [(0, .ref 0), (1, .int k), (2, .int s), (3, .int n), (4, .int p), (5, .int q)] [.long (-2 : Int64)] mm
    rw [← hZ]
    refine pw_rl (by decide +kernel) ?_
    exact ⟨by simp [F_quests, h5], rfl⟩
  · obtain ⟨j5, b5, e5⟩ := pw_inr_t (by omega) h5
    subst e5
    refine pw_blk (pc' := 10) [.aload 0, .iload 2] (by decide +kernel) ?_
    show pw_V x m_X7_quests 2 Z 10 [(0, .ref 0), (1, .int (nI j5)), (2, .int s), (3, .int n), (4, .int p), (5, .int q)] [.int s, .ref 0] mm
    refine pw_cV (vs := [.int s]) (rest := []) k_X7_isSeat (c_isSeat s mm hok) l_7_86 rfl rfl rfl rfl (by omega) (Nat.le_of_ble_eq_true rfl) (by decide +kernel) ?_
    rintro _ m1 ⟨rfl, e1⟩
    rw [e1]
    clear e1 m1
    show pw_V x m_X7_quests 2 Z 13 [(0, .ref 0), (1, .int (nI j5)), (2, .int s), (3, .int n), (4, .int p), (5, .int q)] [.int (pw_b (pw_inr s (pw_n mm)))] mm
    refine pw_ib_ne (tgt := 20) (off := 7) (by decide +kernel) (by decide) (fun h13 => ?_) (fun h13 => ?_)
    · obtain ⟨j13, b13, e13⟩ := pw_inr_t (by omega) h13
      subst e13
      refine pw_blk (pc' := 21) [.iload 3] (by decide +kernel) ?_
      show pw_V x m_X7_quests 2 Z 21 [(0, .ref 0), (1, .int (nI j5)), (2, .int (nI j13)), (3, .int n), (4, .int p), (5, .int q)] [.int n] mm
      refine pw_if_lt (tgt := 53) (off := 32) (by decide +kernel) (by decide) (fun h21 => ?_) (fun h21 => ?_)
      · refine pw_blk (pc' := 56) [.jsr (-3)] (by decide +kernel) ?_
        show pw_V x m_X7_quests 2 Z 56 [(0, .ref 0), (1, .int (nI j5)), (2, .int (nI j13)), (3, .int n), (4, .int p), (5, .int q)] [.long (-3 : Int64)] mm
        rw [← hZ]
        refine pw_rl (by decide +kernel) ?_
        refine ⟨?_, rfl⟩
        unfold F_quests
        rw [if_pos ⟨show pw_inr (nI j5) (pw_k mm) = true from by rw [pw_inr_nI (show j5 < 2 ^ 31 by omega) (show pw_k mm < 2 ^ 31 by omega)]; exact decide_eq_true b5, show pw_inr (nI j13) (pw_n mm) = true from by rw [pw_inr_nI (show j13 < 2 ^ 31 by omega) (show pw_n mm < 2 ^ 31 by omega)]; exact decide_eq_true b13⟩, if_neg (by rw [pw_inr_f1 h21]; simp)]
      · refine pw_blk (pc' := 27) [.iload 3, .iconst (8)] (by decide +kernel) ?_
        show pw_V x m_X7_quests 2 Z 27 [(0, .ref 0), (1, .int (nI j5)), (2, .int (nI j13)), (3, .int n), (4, .int p), (5, .int q)] [.int (nI 8), .int n] mm
        refine pw_ic_gt (tgt := 53) (off := 26) (by decide +kernel) (by decide) (fun h27 => ?_) (fun h27 => ?_)
        · refine pw_blk (pc' := 56) [.jsr (-3)] (by decide +kernel) ?_
          show pw_V x m_X7_quests 2 Z 56 [(0, .ref 0), (1, .int (nI j5)), (2, .int (nI j13)), (3, .int n), (4, .int p), (5, .int q)] [.long (-3 : Int64)] mm
          rw [← hZ]
          refine pw_rl (by decide +kernel) ?_
          refine ⟨?_, rfl⟩
          unfold F_quests
          rw [if_pos ⟨show pw_inr (nI j5) (pw_k mm) = true from by rw [pw_inr_nI (show j5 < 2 ^ 31 by omega) (show pw_k mm < 2 ^ 31 by omega)]; exact decide_eq_true b5, show pw_inr (nI j13) (pw_n mm) = true from by rw [pw_inr_nI (show j13 < 2 ^ 31 by omega) (show pw_n mm < 2 ^ 31 by omega)]; exact decide_eq_true b13⟩, if_neg (by rw [pw_inr_f3 (n := 8) (by omega) h27]; simp)]
        · refine pw_blk (pc' := 32) [.iload 4] (by decide +kernel) ?_
          show pw_V x m_X7_quests 2 Z 32 [(0, .ref 0), (1, .int (nI j5)), (2, .int (nI j13)), (3, .int n), (4, .int p), (5, .int q)] [.int p] mm
          refine pw_if_lt (tgt := 53) (off := 21) (by decide +kernel) (by decide) (fun h32 => ?_) (fun h32 => ?_)
          · refine pw_blk (pc' := 56) [.jsr (-3)] (by decide +kernel) ?_
            show pw_V x m_X7_quests 2 Z 56 [(0, .ref 0), (1, .int (nI j5)), (2, .int (nI j13)), (3, .int n), (4, .int p), (5, .int q)] [.long (-3 : Int64)] mm
            rw [← hZ]
            refine pw_rl (by decide +kernel) ?_
            refine ⟨?_, rfl⟩
            unfold F_quests
            rw [if_pos ⟨show pw_inr (nI j5) (pw_k mm) = true from by rw [pw_inr_nI (show j5 < 2 ^ 31 by omega) (show pw_k mm < 2 ^ 31 by omega)]; exact decide_eq_true b5, show pw_inr (nI j13) (pw_n mm) = true from by rw [pw_inr_nI (show j13 < 2 ^ 31 by omega) (show pw_n mm < 2 ^ 31 by omega)]; exact decide_eq_true b13⟩, if_neg (by rw [pw_inr_f1 h32]; simp)]
          · refine pw_blk (pc' := 39) [.iload 4, .iconst (10)] (by decide +kernel) ?_
            show pw_V x m_X7_quests 2 Z 39 [(0, .ref 0), (1, .int (nI j5)), (2, .int (nI j13)), (3, .int n), (4, .int p), (5, .int q)] [.int (nI 10), .int p] mm
            refine pw_ic_gt (tgt := 53) (off := 14) (by decide +kernel) (by decide) (fun h39 => ?_) (fun h39 => ?_)
            · refine pw_blk (pc' := 56) [.jsr (-3)] (by decide +kernel) ?_
              show pw_V x m_X7_quests 2 Z 56 [(0, .ref 0), (1, .int (nI j5)), (2, .int (nI j13)), (3, .int n), (4, .int p), (5, .int q)] [.long (-3 : Int64)] mm
              rw [← hZ]
              refine pw_rl (by decide +kernel) ?_
              refine ⟨?_, rfl⟩
              unfold F_quests
              rw [if_pos ⟨show pw_inr (nI j5) (pw_k mm) = true from by rw [pw_inr_nI (show j5 < 2 ^ 31 by omega) (show pw_k mm < 2 ^ 31 by omega)]; exact decide_eq_true b5, show pw_inr (nI j13) (pw_n mm) = true from by rw [pw_inr_nI (show j13 < 2 ^ 31 by omega) (show pw_n mm < 2 ^ 31 by omega)]; exact decide_eq_true b13⟩, if_neg (by rw [pw_inr_f3 (n := 10) (by omega) h39]; simp)]
            · refine pw_blk (pc' := 44) [.iload 5] (by decide +kernel) ?_
              show pw_V x m_X7_quests 2 Z 44 [(0, .ref 0), (1, .int (nI j5)), (2, .int (nI j13)), (3, .int n), (4, .int p), (5, .int q)] [.int q] mm
              refine pw_if_lt (tgt := 53) (off := 9) (by decide +kernel) (by decide) (fun h44 => ?_) (fun h44 => ?_)
              · refine pw_blk (pc' := 56) [.jsr (-3)] (by decide +kernel) ?_
                show pw_V x m_X7_quests 2 Z 56 [(0, .ref 0), (1, .int (nI j5)), (2, .int (nI j13)), (3, .int n), (4, .int p), (5, .int q)] [.long (-3 : Int64)] mm
                rw [← hZ]
                refine pw_rl (by decide +kernel) ?_
                refine ⟨?_, rfl⟩
                unfold F_quests
                rw [if_pos ⟨show pw_inr (nI j5) (pw_k mm) = true from by rw [pw_inr_nI (show j5 < 2 ^ 31 by omega) (show pw_k mm < 2 ^ 31 by omega)]; exact decide_eq_true b5, show pw_inr (nI j13) (pw_n mm) = true from by rw [pw_inr_nI (show j13 < 2 ^ 31 by omega) (show pw_n mm < 2 ^ 31 by omega)]; exact decide_eq_true b13⟩, if_neg (by rw [pw_inr_f1 h44]; simp)]
              · refine pw_blk (pc' := 50) [.iload 5, .iconst 1] (by decide +kernel) ?_
                show pw_V x m_X7_quests 2 Z 50 [(0, .ref 0), (1, .int (nI j5)), (2, .int (nI j13)), (3, .int n), (4, .int p), (5, .int q)] [.int (nI 1), .int q] mm
                refine pw_ic_le (tgt := 57) (off := 7) (by decide +kernel) (by decide) (fun h50 => ?_) (fun h50 => ?_)
                · have ynx := pw_inr_y3 (n := 8) (by omega) h21 (Int32.not_lt.mp h27)
                  obtain ⟨nx, bnx, enx⟩ := pw_inr_t (by omega) ynx
                  subst enx
                  have ypx := pw_inr_y3 (n := 10) (by omega) h32 (Int32.not_lt.mp h39)
                  obtain ⟨px, bpx, epx⟩ := pw_inr_t (by omega) ypx
                  subst epx
                  have yqx := pw_inr_y3 (n := 1) (by omega) h44 h50
                  obtain ⟨qx, bqx, eqx⟩ := pw_inr_t (by omega) yqx
                  subst eqx
                  obtain ⟨t1, t2⟩ := pw_10n nx bnx
                  show pw_V x m_X7_quests 2 Z 57 [(0, .ref 0), (1, .int (nI j5)), (2, .int (nI j13)), (3, .int (nI nx)), (4, .int (nI px)), (5, .int (nI qx))] [] mm
                  refine pw_blk (pc' := 66) [.jsr 0, .lstore 6, .jsr 1, .lstore 8, .iconst 0, .istore 10] (by decide +kernel) ?_
                  show pw_V x m_X7_quests 2 Z 66 [(10, .int (nI 0)), (8, .long (1 : Int64)), (6, .long (0 : Int64)), (0, .ref 0), (1, .int (nI j5)), (2, .int (nI j13)), (3, .int (nI nx)), (4, .int (nI px)), (5, .int (nI qx))] [] mm
                  refine pw_lvp [3, 4, 5, 6, 7, 8, 2, 1, 0] rfl ?_
                  suffices lo : ∀ dx : Nat, dx ≤ nx + 1 → pw_V x m_X7_quests 2 Z 66 [(0, .ref 0), (1, .int (nI j5)), (2, .int (nI j13)), (3, .int (nI nx)), (4, .int (nI px)), (5, .int (nI qx)), (6, .long (lN (pw_ab mm j5 j13 nx px dx))), (8, .long (lN (pw_ch nx dx))), (10, .int (nI dx))] [] mm from lo 0 (by omega)
                  refine pw_dn (nx + 1) (fun dx hdx ih => ?_)
                  have b43 := pw_b43 hok (show j5 < 6 by omega)
                  refine pw_blk (pc' := 69) [.iload 10, .iload 3] (by decide +kernel) ?_
                  show pw_V x m_X7_quests 2 Z 69 [(0, .ref 0), (1, .int (nI j5)), (2, .int (nI j13)), (3, .int (nI nx)), (4, .int (nI px)), (5, .int (nI qx)), (6, .long (lN (pw_ab mm j5 j13 nx px dx))), (8, .long (lN (pw_ch nx dx))), (10, .int (nI dx))] [.int (nI nx), .int (nI dx)] mm
                  refine pw_in_gt (tgt := 155) (off := 86) (by omega) (by omega) (by decide +kernel) (by decide) (fun h69 => ?_) (fun h69 => ?_)
                  · have ed : dx = nx + 1 := by omega
                    obtain ⟨ab, hab⟩ : ∃ ab, ab = pw_ab mm j5 j13 nx px (nx + 1) := ⟨_, rfl⟩
                    have habl : ab ≤ 10 ^ nx := by rw [hab, ← pw_wt_sum nx bnx px bpx]; exact pw_ab_le _
                    rw [show (pw_ab mm j5 j13 nx px dx) = ab from by rw [hab, ed]]
                    show pw_V x m_X7_quests 2 Z 155 [(0, .ref 0), (1, .int (nI j5)), (2, .int (nI j13)), (3, .int (nI nx)), (4, .int (nI px)), (5, .int (nI qx)), (6, .long (lN ab)), (8, .long (lN (pw_ch nx dx))), (10, .int (nI dx))] [] mm
                    refine pw_blk (pc' := 158) [.iconst (10), .iload 3] (by decide +kernel) ?_
                    show pw_V x m_X7_quests 2 Z 158 [(0, .ref 0), (1, .int (nI j5)), (2, .int (nI j13)), (3, .int (nI nx)), (4, .int (nI px)), (5, .int (nI qx)), (6, .long (lN ab)), (8, .long (lN (pw_ch nx dx))), (10, .int (nI dx))] [.int (nI nx), .int (nI 10)] mm
                    refine pw_cS (vs := [.int (nI 10), .int (nI nx)]) (rest := []) k_X7_power (c_power 10 nx mm (by omega) (by omega)) l_7_254 rfl (by omega) (Nat.le_of_ble_eq_true rfl) (by decide +kernel) ?_
                    rintro _ m1 ⟨rfl, e1⟩
                    rw [e1]
                    clear e1 m1
                    show pw_V x m_X7_quests 2 Z 161 [(0, .ref 0), (1, .int (nI j5)), (2, .int (nI j13)), (3, .int (nI nx)), (4, .int (nI px)), (5, .int (nI qx)), (6, .long (lN ab)), (8, .long (lN (pw_ch nx dx))), (10, .int (nI dx))] [.long (lN (10 ^ nx))] mm
                    refine pw_blk (pc' := 167) [.lstore 10, .lload 10, .lload 6] (by decide +kernel) ?_
                    show pw_V x m_X7_quests 2 Z 167 [(10, .long (lN (10 ^ nx))), (0, .ref 0), (1, .int (nI j5)), (2, .int (nI j13)), (3, .int (nI nx)), (4, .int (nI px)), (5, .int (nI qx)), (6, .long (lN ab)), (8, .long (lN (pw_ch nx dx)))] [.long (lN ab), .long (lN (10 ^ nx))] mm
                    refine pw_cS (vs := [.long (lN (10 ^ nx)), .long (lN ab)]) (rest := []) k_X7_commonDivisor (c_commonDivisor (10 ^ nx) ab mm t2 habl (by have h9 := Nat.mul_le_mul t1 (Nat.le_trans habl t1); omega) (by omega)) l_7_258 rfl (by omega) (Nat.le_of_ble_eq_true rfl) (by decide +kernel) ?_
                    rintro _ m1 ⟨rfl, e1⟩
                    rw [e1]
                    clear e1 m1
                    show pw_V x m_X7_quests 2 Z 170 [(10, .long (lN (10 ^ nx))), (0, .ref 0), (1, .int (nI j5)), (2, .int (nI j13)), (3, .int (nI nx)), (4, .int (nI px)), (5, .int (nI qx)), (6, .long (lN ab)), (8, .long (lN (pw_ch nx dx)))] [.long (lN (Nat.gcd (10 ^ nx) ab))] mm
                    refine pw_blk (pc' := 172) [.lstore 12] (by decide +kernel) ?_
                    show pw_V x m_X7_quests 2 Z 172 [(12, .long (lN (Nat.gcd (10 ^ nx) ab))), (10, .long (lN (10 ^ nx))), (0, .ref 0), (1, .int (nI j5)), (2, .int (nI j13)), (3, .int (nI nx)), (4, .int (nI px)), (5, .int (nI qx)), (6, .long (lN ab)), (8, .long (lN (pw_ch nx dx)))] [] mm
                    have hg0 : 0 < Nat.gcd (10 ^ nx) ab := Nat.gcd_pos_of_pos_left _ t2
                    have hgl : Nat.gcd (10 ^ nx) ab ≤ 10 ^ nx := Nat.gcd_le_left _ t2
                    have hgn : ¬ lN (Nat.gcd (10 ^ nx) ab) = 0 := fun z => Nat.ne_of_gt hg0 ((pk_lEQ (a := Nat.gcd (10 ^ nx) ab) (b := 0) (by omega) (by omega)).mp z)
                    refine pw_blk (pc' := 176) [.lload 12, .jsr 0, .lcmp] (by decide +kernel) ?_
                    show pw_V x m_X7_quests 2 Z 176 [(12, .long (lN (Nat.gcd (10 ^ nx) ab))), (10, .long (lN (10 ^ nx))), (0, .ref 0), (1, .int (nI j5)), (2, .int (nI j13)), (3, .int (nI nx)), (4, .int (nI px)), (5, .int (nI qx)), (6, .long (lN ab)), (8, .long (lN (pw_ch nx dx)))] [.int (lg_cmp (lN (Nat.gcd (10 ^ nx) ab)) (0 : Int64))] mm
                    refine pw_if_ne (tgt := 183) (off := 7) (by decide +kernel) (by decide) (fun h176 => ?_) (fun h176 => ?_)
                    · refine pw_blk (pc' := 185) [.iload 5] (by decide +kernel) ?_
                      show pw_V x m_X7_quests 2 Z 185 [(12, .long (lN (Nat.gcd (10 ^ nx) ab))), (10, .long (lN (10 ^ nx))), (0, .ref 0), (1, .int (nI j5)), (2, .int (nI j13)), (3, .int (nI nx)), (4, .int (nI px)), (5, .int (nI qx)), (6, .long (lN ab)), (8, .long (lN (pw_ch nx dx)))] [.int (nI qx)] mm
                      refine pw_iz_ne (tgt := 196) (off := 11) (by omega) (by decide +kernel) (by decide) (fun h185 => ?_) (fun h185 => ?_)
                      · refine pw_blk (pc' := 201) [.lload 10, .lload 12, .ldiv] (by decide +kernel) ?_
                        refine ⟨by first | exact hgn | (show ¬ (nI dx + nI 1).toInt64 = 0; rw [nI_add, nI_l (by omega)]; exact fun z => absurd ((pk_lEQ (a := dx + 1) (b := 0) (by omega) (by omega)).mp z) (by omega)), ?_⟩
                        show pw_V x m_X7_quests 2 Z 201 [(12, .long (lN (Nat.gcd (10 ^ nx) ab))), (10, .long (lN (10 ^ nx))), (0, .ref 0), (1, .int (nI j5)), (2, .int (nI j13)), (3, .int (nI nx)), (4, .int (nI px)), (5, .int (nI qx)), (6, .long (lN ab)), (8, .long (lN (pw_ch nx dx)))] [.long ((lN (10 ^ nx)) / (lN (Nat.gcd (10 ^ nx) ab)))] mm
                        rw [← hZ]
                        refine pw_rl (by decide +kernel) ?_
                        refine ⟨?_, rfl⟩
                        unfold F_quests
                        rw [if_pos ⟨show pw_inr (nI j5) (pw_k mm) = true from by rw [pw_inr_nI (show j5 < 2 ^ 31 by omega) (show pw_k mm < 2 ^ 31 by omega)]; exact decide_eq_true b5, show pw_inr (nI j13) (pw_n mm) = true from by rw [pw_inr_nI (show j13 < 2 ^ 31 by omega) (show pw_n mm < 2 ^ 31 by omega)]; exact decide_eq_true b13⟩, if_pos ⟨ynx, ypx, yqx⟩, pw_c_nI (show j5 < 2 ^ 31 by omega), pw_c_nI (show j13 < 2 ^ 31 by omega), pw_c_nI (show nx < 2 ^ 31 by omega), pw_c_nI (show px < 2 ^ 31 by omega), pw_c_nI (show qx < 2 ^ 31 by omega)]
                        rw [pk_lDiv (by omega) hg0 (by omega)]
                        unfold F_qn
                        rw [← hab]
                        simp [h185]
                      · refine pw_blk (pc' := 193) [.lload 6, .lload 12, .ldiv] (by decide +kernel) ?_
                        refine ⟨by first | exact hgn | (show ¬ (nI dx + nI 1).toInt64 = 0; rw [nI_add, nI_l (by omega)]; exact fun z => absurd ((pk_lEQ (a := dx + 1) (b := 0) (by omega) (by omega)).mp z) (by omega)), ?_⟩
                        show pw_V x m_X7_quests 2 Z 193 [(12, .long (lN (Nat.gcd (10 ^ nx) ab))), (10, .long (lN (10 ^ nx))), (0, .ref 0), (1, .int (nI j5)), (2, .int (nI j13)), (3, .int (nI nx)), (4, .int (nI px)), (5, .int (nI qx)), (6, .long (lN ab)), (8, .long (lN (pw_ch nx dx)))] [.long ((lN ab) / (lN (Nat.gcd (10 ^ nx) ab)))] mm
                        refine pw_goto (tgt := 201) (off := 8) (by decide +kernel) (by decide) ?_
                        rw [← hZ]
                        refine pw_rl (by decide +kernel) ?_
                        refine ⟨?_, rfl⟩
                        unfold F_quests
                        rw [if_pos ⟨show pw_inr (nI j5) (pw_k mm) = true from by rw [pw_inr_nI (show j5 < 2 ^ 31 by omega) (show pw_k mm < 2 ^ 31 by omega)]; exact decide_eq_true b5, show pw_inr (nI j13) (pw_n mm) = true from by rw [pw_inr_nI (show j13 < 2 ^ 31 by omega) (show pw_n mm < 2 ^ 31 by omega)]; exact decide_eq_true b13⟩, if_pos ⟨ynx, ypx, yqx⟩, pw_c_nI (show j5 < 2 ^ 31 by omega), pw_c_nI (show j13 < 2 ^ 31 by omega), pw_c_nI (show nx < 2 ^ 31 by omega), pw_c_nI (show px < 2 ^ 31 by omega), pw_c_nI (show qx < 2 ^ 31 by omega)]
                        rw [pk_lDiv (by omega) hg0 (by omega)]
                        unfold F_qn
                        rw [← hab]
                        simp [h185]
                    · exact absurd ((pw_lcmp0 (by omega)).mp h176) (by omega)
                  · refine pw_blk (pc' := 86) [.iconst (9), .aload 0, .getfield 702, .getfield 2, .iload 1, .iaload, .iload 10, .iadd] (by decide +kernel) ?_
                    refine ⟨j5, rfl, by omega, ?_⟩
                    show pw_V x m_X7_quests 2 Z 86 [(0, .ref 0), (1, .int (nI j5)), (2, .int (nI j13)), (3, .int (nI nx)), (4, .int (nI px)), (5, .int (nI qx)), (6, .long (lN (pw_ab mm j5 j13 nx px dx))), (8, .long (lN (pw_ch nx dx))), (10, .int (nI dx))] [.int ((mm 43 j5) + (nI dx)), .int (nI 9)] mm
                    rw [show mm 43 j5 = nI (pw_g mm 43 j5) from pw_q43 hok (by omega)]
                    rw [show (nI (pw_g mm 43 j5)) + (nI dx) = nI ((pw_g mm 43 j5) + dx) from nI_add _ _]
                    refine pw_cMin l_7_244 (by omega) (Nat.le_of_ble_eq_true rfl) (by decide +kernel) ?_
                    show pw_V x m_X7_quests 2 Z 89 [(0, .ref 0), (1, .int (nI j5)), (2, .int (nI j13)), (3, .int (nI nx)), (4, .int (nI px)), (5, .int (nI qx)), (6, .long (lN (pw_ab mm j5 j13 nx px dx))), (8, .long (lN (pw_ch nx dx))), (10, .int (nI dx))] [.int (pw_min (nI 9) (nI ((pw_g mm 43 j5) + dx)))] mm
                    rw [pw_minN (by omega) (by omega)]
                    refine pw_blk (pc' := 99) [.istore 11, .aload 0, .getfield 701, .iload 1, .iload 11, .iload 2] (by decide +kernel) ?_
                    show pw_V x m_X7_quests 2 Z 99 [(11, .int (nI (min 9 ((pw_g mm 43 j5) + dx)))), (0, .ref 0), (1, .int (nI j5)), (2, .int (nI j13)), (3, .int (nI nx)), (4, .int (nI px)), (5, .int (nI qx)), (6, .long (lN (pw_ab mm j5 j13 nx px dx))), (8, .long (lN (pw_ch nx dx))), (10, .int (nI dx))] [.int (nI j13), .int (nI (min 9 ((pw_g mm 43 j5) + dx))), .int (nI j5), .ref 4] mm
                    refine pw_cV (vs := [.int (nI j5), .int (nI (min 9 ((pw_g mm 43 j5) + dx))), .int (nI j13)]) (rest := []) k_X5_fits (c_fits j5 (min 9 ((pw_g mm 43 j5) + dx)) j13 mm hok (by omega) (by omega) (by omega)) l_7_250 rfl rfl rfl rfl (by omega) (Nat.le_of_ble_eq_true rfl) (by decide +kernel) ?_
                    rintro _ m1 ⟨rfl, e1⟩
                    rw [e1]
                    clear e1 m1
                    show pw_V x m_X7_quests 2 Z 102 [(11, .int (nI (min 9 ((pw_g mm 43 j5) + dx)))), (0, .ref 0), (1, .int (nI j5)), (2, .int (nI j13)), (3, .int (nI nx)), (4, .int (nI px)), (5, .int (nI qx)), (6, .long (lN (pw_ab mm j5 j13 nx px dx))), (8, .long (lN (pw_ch nx dx))), (10, .int (nI dx))] [.int (pw_b (pw_fit mm j5 (min 9 ((pw_g mm 43 j5) + dx)) j13))] mm
                    refine pw_ib_eq (tgt := 133) (off := 31) (by decide +kernel) (by decide) (fun h102 => ?_) (fun h102 => ?_)
                    · refine pw_blk (pc' := 138) [.lload 8, .iload 3, .iload 10] (by decide +kernel) ?_
                      show pw_V x m_X7_quests 2 Z 138 [(11, .int (nI (min 9 ((pw_g mm 43 j5) + dx)))), (0, .ref 0), (1, .int (nI j5)), (2, .int (nI j13)), (3, .int (nI nx)), (4, .int (nI px)), (5, .int (nI qx)), (6, .long (lN (pw_ab mm j5 j13 nx px dx))), (8, .long (lN (pw_ch nx dx))), (10, .int (nI dx))] [.int (nI dx), .int (nI nx), .long (lN (pw_ch nx dx))] mm
                      refine pw_blk (pc' := 139) [.isub] (by decide +kernel) ?_
                      show pw_V x m_X7_quests 2 Z 139 [(11, .int (nI (min 9 ((pw_g mm 43 j5) + dx)))), (0, .ref 0), (1, .int (nI j5)), (2, .int (nI j13)), (3, .int (nI nx)), (4, .int (nI px)), (5, .int (nI qx)), (6, .long (lN (pw_ab mm j5 j13 nx px dx))), (8, .long (lN (pw_ch nx dx))), (10, .int (nI dx))] [.int (nI nx - nI dx), .long (lN (pw_ch nx dx))] mm
                      rw [pk_sub (show dx ≤ nx by omega)]
                      refine pw_blk (pc' := 152) [.i2l, .lmul, .iload 10, .iconst 1, .iadd, .i2l, .ldiv, .lstore 8, .iinc 10 1] (by decide +kernel) ?_
                      refine ⟨by first | exact hgn | (show ¬ (nI dx + nI 1).toInt64 = 0; rw [nI_add, nI_l (by omega)]; exact fun z => absurd ((pk_lEQ (a := dx + 1) (b := 0) (by omega) (by omega)).mp z) (by omega)), ?_⟩
                      show pw_V x m_X7_quests 2 Z 152 [(10, .int ((nI dx) + (nI 1))), (8, .long (((lN (pw_ch nx dx)) * ((nI (nx - dx)).toInt64)) / (((nI dx) + (nI 1)).toInt64))), (11, .int (nI (min 9 ((pw_g mm 43 j5) + dx)))), (0, .ref 0), (1, .int (nI j5)), (2, .int (nI j13)), (3, .int (nI nx)), (4, .int (nI px)), (5, .int (nI qx)), (6, .long (lN (pw_ab mm j5 j13 nx px dx)))] [] mm
                      rw [show (nI dx) + (nI 1) = nI (dx + 1) from nI_add _ _]
                      refine pw_goto (tgt := 66) (off := -86) (by decide +kernel) (by decide) ?_
                      rw [show lN (pw_ab mm j5 j13 nx px dx) = lN (pw_ab mm j5 j13 nx px (dx + 1)) from by simp [pw_ab, h102]]
                      rw [show ((lN (pw_ch nx dx)) * ((nI (nx - dx)).toInt64)) / ((nI (dx + 1)).toInt64) = lN (pw_ch nx (dx + 1)) from by rw [nI_l (by omega), nI_l (by omega), lN_mul, pk_lDiv (by have := pw_ch_b nx bnx dx (by omega); omega) (by omega) (by omega)]; rfl]
                      refine pw_lvp [3, 4, 5, 6, 7, 8, 9, 1, 0] rfl ?_
                      exact ih (by omega)
                    · refine pw_blk (pc' := 113) [.lload 6, .lload 8, .iload 4, .iload 10] (by decide +kernel) ?_
                      show pw_V x m_X7_quests 2 Z 113 [(11, .int (nI (min 9 ((pw_g mm 43 j5) + dx)))), (0, .ref 0), (1, .int (nI j5)), (2, .int (nI j13)), (3, .int (nI nx)), (4, .int (nI px)), (5, .int (nI qx)), (6, .long (lN (pw_ab mm j5 j13 nx px dx))), (8, .long (lN (pw_ch nx dx))), (10, .int (nI dx))] [.int (nI dx), .int (nI px), .long (lN (pw_ch nx dx)), .long (lN (pw_ab mm j5 j13 nx px dx))] mm
                      refine pw_cS (vs := [.int (nI px), .int (nI dx)]) (rest := [.long (lN (pw_ch nx dx)), .long (lN (pw_ab mm j5 j13 nx px dx))]) k_X7_power (c_power px dx mm (by omega) (by omega)) l_7_254 rfl (by omega) (Nat.le_of_ble_eq_true rfl) (by decide +kernel) ?_
                      rintro _ m1 ⟨rfl, e1⟩
                      rw [e1]
                      clear e1 m1
                      show pw_V x m_X7_quests 2 Z 116 [(11, .int (nI (min 9 ((pw_g mm 43 j5) + dx)))), (0, .ref 0), (1, .int (nI j5)), (2, .int (nI j13)), (3, .int (nI nx)), (4, .int (nI px)), (5, .int (nI qx)), (6, .long (lN (pw_ab mm j5 j13 nx px dx))), (8, .long (lN (pw_ch nx dx))), (10, .int (nI dx))] [.long (lN (px ^ dx)), .long (lN (pw_ch nx dx)), .long (lN (pw_ab mm j5 j13 nx px dx))] mm
                      refine pw_blk (pc' := 121) [.lmul, .iconst (10), .iload 4] (by decide +kernel) ?_
                      show pw_V x m_X7_quests 2 Z 121 [(11, .int (nI (min 9 ((pw_g mm 43 j5) + dx)))), (0, .ref 0), (1, .int (nI j5)), (2, .int (nI j13)), (3, .int (nI nx)), (4, .int (nI px)), (5, .int (nI qx)), (6, .long (lN (pw_ab mm j5 j13 nx px dx))), (8, .long (lN (pw_ch nx dx))), (10, .int (nI dx))] [.int (nI px), .int (nI 10), .long ((lN (pw_ch nx dx)) * (lN (px ^ dx))), .long (lN (pw_ab mm j5 j13 nx px dx))] mm
                      refine pw_blk (pc' := 122) [.isub] (by decide +kernel) ?_
                      show pw_V x m_X7_quests 2 Z 122 [(11, .int (nI (min 9 ((pw_g mm 43 j5) + dx)))), (0, .ref 0), (1, .int (nI j5)), (2, .int (nI j13)), (3, .int (nI nx)), (4, .int (nI px)), (5, .int (nI qx)), (6, .long (lN (pw_ab mm j5 j13 nx px dx))), (8, .long (lN (pw_ch nx dx))), (10, .int (nI dx))] [.int (nI 10 - nI px), .long ((lN (pw_ch nx dx)) * (lN (px ^ dx))), .long (lN (pw_ab mm j5 j13 nx px dx))] mm
                      rw [pk_sub (show px ≤ 10 by omega)]
                      refine pw_blk (pc' := 125) [.iload 3, .iload 10] (by decide +kernel) ?_
                      show pw_V x m_X7_quests 2 Z 125 [(11, .int (nI (min 9 ((pw_g mm 43 j5) + dx)))), (0, .ref 0), (1, .int (nI j5)), (2, .int (nI j13)), (3, .int (nI nx)), (4, .int (nI px)), (5, .int (nI qx)), (6, .long (lN (pw_ab mm j5 j13 nx px dx))), (8, .long (lN (pw_ch nx dx))), (10, .int (nI dx))] [.int (nI dx), .int (nI nx), .int (nI (10 - px)), .long ((lN (pw_ch nx dx)) * (lN (px ^ dx))), .long (lN (pw_ab mm j5 j13 nx px dx))] mm
                      refine pw_blk (pc' := 126) [.isub] (by decide +kernel) ?_
                      show pw_V x m_X7_quests 2 Z 126 [(11, .int (nI (min 9 ((pw_g mm 43 j5) + dx)))), (0, .ref 0), (1, .int (nI j5)), (2, .int (nI j13)), (3, .int (nI nx)), (4, .int (nI px)), (5, .int (nI qx)), (6, .long (lN (pw_ab mm j5 j13 nx px dx))), (8, .long (lN (pw_ch nx dx))), (10, .int (nI dx))] [.int (nI nx - nI dx), .int (nI (10 - px)), .long ((lN (pw_ch nx dx)) * (lN (px ^ dx))), .long (lN (pw_ab mm j5 j13 nx px dx))] mm
                      rw [pk_sub (show dx ≤ nx by omega)]
                      refine pw_cS (vs := [.int (nI (10 - px)), .int (nI (nx - dx))]) (rest := [.long ((lN (pw_ch nx dx)) * (lN (px ^ dx))), .long (lN (pw_ab mm j5 j13 nx px dx))]) k_X7_power (c_power (10 - px) (nx - dx) mm (by omega) (by omega)) l_7_254 rfl (by omega) (Nat.le_of_ble_eq_true rfl) (by decide +kernel) ?_
                      rintro _ m1 ⟨rfl, e1⟩
                      rw [e1]
                      clear e1 m1
                      show pw_V x m_X7_quests 2 Z 129 [(11, .int (nI (min 9 ((pw_g mm 43 j5) + dx)))), (0, .ref 0), (1, .int (nI j5)), (2, .int (nI j13)), (3, .int (nI nx)), (4, .int (nI px)), (5, .int (nI qx)), (6, .long (lN (pw_ab mm j5 j13 nx px dx))), (8, .long (lN (pw_ch nx dx))), (10, .int (nI dx))] [.long (lN ((10 - px) ^ (nx - dx))), .long ((lN (pw_ch nx dx)) * (lN (px ^ dx))), .long (lN (pw_ab mm j5 j13 nx px dx))] mm
                      refine pw_blk (pc' := 138) [.lmul, .ladd, .lstore 6, .lload 8, .iload 3, .iload 10] (by decide +kernel) ?_
                      show pw_V x m_X7_quests 2 Z 138 [(6, .long ((lN (pw_ab mm j5 j13 nx px dx)) + (((lN (pw_ch nx dx)) * (lN (px ^ dx))) * (lN ((10 - px) ^ (nx - dx)))))), (11, .int (nI (min 9 ((pw_g mm 43 j5) + dx)))), (0, .ref 0), (1, .int (nI j5)), (2, .int (nI j13)), (3, .int (nI nx)), (4, .int (nI px)), (5, .int (nI qx)), (8, .long (lN (pw_ch nx dx))), (10, .int (nI dx))] [.int (nI dx), .int (nI nx), .long (lN (pw_ch nx dx))] mm
                      refine pw_blk (pc' := 139) [.isub] (by decide +kernel) ?_
                      show pw_V x m_X7_quests 2 Z 139 [(6, .long ((lN (pw_ab mm j5 j13 nx px dx)) + (((lN (pw_ch nx dx)) * (lN (px ^ dx))) * (lN ((10 - px) ^ (nx - dx)))))), (11, .int (nI (min 9 ((pw_g mm 43 j5) + dx)))), (0, .ref 0), (1, .int (nI j5)), (2, .int (nI j13)), (3, .int (nI nx)), (4, .int (nI px)), (5, .int (nI qx)), (8, .long (lN (pw_ch nx dx))), (10, .int (nI dx))] [.int (nI nx - nI dx), .long (lN (pw_ch nx dx))] mm
                      rw [pk_sub (show dx ≤ nx by omega)]
                      refine pw_blk (pc' := 152) [.i2l, .lmul, .iload 10, .iconst 1, .iadd, .i2l, .ldiv, .lstore 8, .iinc 10 1] (by decide +kernel) ?_
                      refine ⟨by first | exact hgn | (show ¬ (nI dx + nI 1).toInt64 = 0; rw [nI_add, nI_l (by omega)]; exact fun z => absurd ((pk_lEQ (a := dx + 1) (b := 0) (by omega) (by omega)).mp z) (by omega)), ?_⟩
                      show pw_V x m_X7_quests 2 Z 152 [(10, .int ((nI dx) + (nI 1))), (8, .long (((lN (pw_ch nx dx)) * ((nI (nx - dx)).toInt64)) / (((nI dx) + (nI 1)).toInt64))), (6, .long ((lN (pw_ab mm j5 j13 nx px dx)) + (((lN (pw_ch nx dx)) * (lN (px ^ dx))) * (lN ((10 - px) ^ (nx - dx)))))), (11, .int (nI (min 9 ((pw_g mm 43 j5) + dx)))), (0, .ref 0), (1, .int (nI j5)), (2, .int (nI j13)), (3, .int (nI nx)), (4, .int (nI px)), (5, .int (nI qx))] [] mm
                      rw [show (nI dx) + (nI 1) = nI (dx + 1) from nI_add _ _]
                      refine pw_goto (tgt := 66) (off := -86) (by decide +kernel) (by decide) ?_
                      rw [show (lN (pw_ab mm j5 j13 nx px dx)) + (((lN (pw_ch nx dx)) * (lN (px ^ dx))) * (lN ((10 - px) ^ (nx - dx)))) = lN (pw_ab mm j5 j13 nx px (dx + 1)) from by rw [lN_mul, lN_mul, lN_add]; simp [pw_ab, pw_wt, h102]]
                      rw [show ((lN (pw_ch nx dx)) * ((nI (nx - dx)).toInt64)) / ((nI (dx + 1)).toInt64) = lN (pw_ch nx (dx + 1)) from by rw [nI_l (by omega), nI_l (by omega), lN_mul, pk_lDiv (by have := pw_ch_b nx bnx dx (by omega); omega) (by omega) (by omega)]; rfl]
                      refine pw_lvp [4, 5, 6, 7, 8, 9, 2, 1, 0] rfl ?_
                      exact ih (by omega)
                · refine pw_blk (pc' := 56) [.jsr (-3)] (by decide +kernel) ?_
                  show pw_V x m_X7_quests 2 Z 56 [(0, .ref 0), (1, .int (nI j5)), (2, .int (nI j13)), (3, .int n), (4, .int p), (5, .int q)] [.long (-3 : Int64)] mm
                  rw [← hZ]
                  refine pw_rl (by decide +kernel) ?_
                  refine ⟨?_, rfl⟩
                  unfold F_quests
                  rw [if_pos ⟨show pw_inr (nI j5) (pw_k mm) = true from by rw [pw_inr_nI (show j5 < 2 ^ 31 by omega) (show pw_k mm < 2 ^ 31 by omega)]; exact decide_eq_true b5, show pw_inr (nI j13) (pw_n mm) = true from by rw [pw_inr_nI (show j13 < 2 ^ 31 by omega) (show pw_n mm < 2 ^ 31 by omega)]; exact decide_eq_true b13⟩, if_neg (by rw [pw_inr_f3 (n := 1) (by omega) (Int32.not_le.mp h50)]; simp)]
    · refine pw_blk (pc' := 19) [.jsr (-2)] (by decide +kernel) ?_
      show pw_V x m_X7_quests 2 Z 19 [(0, .ref 0), (1, .int (nI j5)), (2, .int s), (3, .int n), (4, .int p), (5, .int q)] [.long (-2 : Int64)] mm
      rw [← hZ]
      refine pw_rl (by decide +kernel) ?_
      exact ⟨by simp [F_quests, h13], rfl⟩
end
section
def F_tk (c : Int32) : Int32 := if ¬ c < nI 97 ∧ ¬ nI 122 < c then nI 1 else if ¬ c < nI 48 ∧ ¬ nI 57 < c then nI 2 else nI 3
def F_kw (w : Int32) : Bool := decide (¬ w < nI 5 ∧ ¬ nI 7 < w)

set_option maxHeartbeats 4000000 in
set_option maxRecDepth 100000 in
theorem c_tokenOf (c : Int32) (mm : pw_m) : pw_Ct 0 yX3_tokenOf m_X3_tokenOf [.int c] mm (fun r m' => r = some (.int (F_tk c)) ∧ m' = mm) := by
  refine pw_ct (by decide +kernel) rfl (Nat.le_of_ble_eq_true rfl) (fun x => ?_)
  generalize hZ : pw_Z x _ = Z
  show pw_V x m_X3_tokenOf 0 Z 0 [(0, .int c)] [] mm
  refine pw_blk (pc' := 3) [.iload 0, .iconst (97)] (by decide +kernel) ?_
  show pw_V x m_X3_tokenOf 0 Z 3 [(0, .int c)] [.int (nI 97), .int c] mm
  refine pw_ic_lt (tgt := 14) (off := 11) (by decide +kernel) (by decide) (fun h3 => ?_) (fun h3 => ?_)
  · refine pw_blk (pc' := 17) [.iload 0, .iconst (48)] (by decide +kernel) ?_
    show pw_V x m_X3_tokenOf 0 Z 17 [(0, .int c)] [.int (nI 48), .int c] mm
    refine pw_ic_lt (tgt := 30) (off := 13) (by decide +kernel) (by decide) (fun h17 => ?_) (fun h17 => ?_)
    · refine pw_blk (pc' := 31) [.iconst 3] (by decide +kernel) ?_
      show pw_V x m_X3_tokenOf 0 Z 31 [(0, .int c)] [.int (nI 3)] mm
      rw [← hZ]
      refine pw_ri (by decide +kernel) ?_
      refine ⟨?_, rfl⟩
      simp [F_tk, F_kw, h3, h17]
      try rfl
    · refine pw_blk (pc' := 23) [.iload 0, .iconst (57)] (by decide +kernel) ?_
      show pw_V x m_X3_tokenOf 0 Z 23 [(0, .int c)] [.int (nI 57), .int c] mm
      refine pw_ic_gt (tgt := 30) (off := 7) (by decide +kernel) (by decide) (fun h23 => ?_) (fun h23 => ?_)
      · refine pw_blk (pc' := 31) [.iconst 3] (by decide +kernel) ?_
        show pw_V x m_X3_tokenOf 0 Z 31 [(0, .int c)] [.int (nI 3)] mm
        rw [← hZ]
        refine pw_ri (by decide +kernel) ?_
        refine ⟨?_, rfl⟩
        simp [F_tk, F_kw, h3, h17, h23]
        try rfl
      · refine pw_blk (pc' := 27) [.iconst 2] (by decide +kernel) ?_
        show pw_V x m_X3_tokenOf 0 Z 27 [(0, .int c)] [.int (nI 2)] mm
        refine pw_goto (tgt := 31) (off := 4) (by decide +kernel) (by decide) ?_
        rw [← hZ]
        refine pw_ri (by decide +kernel) ?_
        refine ⟨?_, rfl⟩
        simp [F_tk, F_kw, h3, h17, h23]
        try rfl
  · refine pw_blk (pc' := 9) [.iload 0, .iconst (122)] (by decide +kernel) ?_
    show pw_V x m_X3_tokenOf 0 Z 9 [(0, .int c)] [.int (nI 122), .int c] mm
    refine pw_ic_gt (tgt := 14) (off := 5) (by decide +kernel) (by decide) (fun h9 => ?_) (fun h9 => ?_)
    · refine pw_blk (pc' := 17) [.iload 0, .iconst (48)] (by decide +kernel) ?_
      show pw_V x m_X3_tokenOf 0 Z 17 [(0, .int c)] [.int (nI 48), .int c] mm
      refine pw_ic_lt (tgt := 30) (off := 13) (by decide +kernel) (by decide) (fun h17 => ?_) (fun h17 => ?_)
      · refine pw_blk (pc' := 31) [.iconst 3] (by decide +kernel) ?_
        show pw_V x m_X3_tokenOf 0 Z 31 [(0, .int c)] [.int (nI 3)] mm
        rw [← hZ]
        refine pw_ri (by decide +kernel) ?_
        refine ⟨?_, rfl⟩
        simp [F_tk, F_kw, h3, h9, h17]
        try rfl
      · refine pw_blk (pc' := 23) [.iload 0, .iconst (57)] (by decide +kernel) ?_
        show pw_V x m_X3_tokenOf 0 Z 23 [(0, .int c)] [.int (nI 57), .int c] mm
        refine pw_ic_gt (tgt := 30) (off := 7) (by decide +kernel) (by decide) (fun h23 => ?_) (fun h23 => ?_)
        · refine pw_blk (pc' := 31) [.iconst 3] (by decide +kernel) ?_
          show pw_V x m_X3_tokenOf 0 Z 31 [(0, .int c)] [.int (nI 3)] mm
          rw [← hZ]
          refine pw_ri (by decide +kernel) ?_
          refine ⟨?_, rfl⟩
          simp [F_tk, F_kw, h3, h9, h17, h23]
          try rfl
        · refine pw_blk (pc' := 27) [.iconst 2] (by decide +kernel) ?_
          show pw_V x m_X3_tokenOf 0 Z 27 [(0, .int c)] [.int (nI 2)] mm
          refine pw_goto (tgt := 31) (off := 4) (by decide +kernel) (by decide) ?_
          rw [← hZ]
          refine pw_ri (by decide +kernel) ?_
          refine ⟨?_, rfl⟩
          simp [F_tk, F_kw, h3, h9, h17, h23]
          try rfl
    · refine pw_blk (pc' := 13) [.iconst 1] (by decide +kernel) ?_
      show pw_V x m_X3_tokenOf 0 Z 13 [(0, .int c)] [.int (nI 1)] mm
      rw [← hZ]
      refine pw_ri (by decide +kernel) ?_
      refine ⟨?_, rfl⟩
      simp [F_tk, F_kw, h3, h9]
      try rfl

set_option maxHeartbeats 4000000 in
set_option maxRecDepth 100000 in
theorem c_isKnightWord (w : Int32) (mm : pw_m) : pw_Ct 0 yX2_isKnightWord m_X2_isKnightWord [.int w] mm (fun r m' => r = some (.int (pw_b (F_kw w))) ∧ m' = mm) := by
  refine pw_ct (by decide +kernel) rfl (Nat.le_of_ble_eq_true rfl) (fun x => ?_)
  generalize hZ : pw_Z x _ = Z
  show pw_V x m_X2_isKnightWord 0 Z 0 [(0, .int w)] [] mm
  refine pw_blk (pc' := 2) [.iload 0, .iconst 5] (by decide +kernel) ?_
  show pw_V x m_X2_isKnightWord 0 Z 2 [(0, .int w)] [.int (nI 5), .int w] mm
  refine pw_ic_lt (tgt := 15) (off := 13) (by decide +kernel) (by decide) (fun h2 => ?_) (fun h2 => ?_)
  · refine pw_blk (pc' := 16) [.iconst 0] (by decide +kernel) ?_
    show pw_V x m_X2_isKnightWord 0 Z 16 [(0, .int w)] [.int (nI 0)] mm
    rw [← hZ]
    refine pw_rz (by decide +kernel) (Or.inl rfl) ?_
    refine ⟨?_, rfl⟩
    simp [F_tk, F_kw, h2]
    try rfl
  · refine pw_blk (pc' := 8) [.iload 0, .iconst (7)] (by decide +kernel) ?_
    show pw_V x m_X2_isKnightWord 0 Z 8 [(0, .int w)] [.int (nI 7), .int w] mm
    refine pw_ic_gt (tgt := 15) (off := 7) (by decide +kernel) (by decide) (fun h8 => ?_) (fun h8 => ?_)
    · refine pw_blk (pc' := 16) [.iconst 0] (by decide +kernel) ?_
      show pw_V x m_X2_isKnightWord 0 Z 16 [(0, .int w)] [.int (nI 0)] mm
      rw [← hZ]
      refine pw_rz (by decide +kernel) (Or.inl rfl) ?_
      refine ⟨?_, rfl⟩
      simp [F_tk, F_kw, h2, h8]
      try rfl
    · refine pw_blk (pc' := 12) [.iconst 1] (by decide +kernel) ?_
      show pw_V x m_X2_isKnightWord 0 Z 12 [(0, .int w)] [.int (nI 1)] mm
      refine pw_goto (tgt := 16) (off := 4) (by decide +kernel) (by decide) ?_
      rw [← hZ]
      refine pw_rz (by decide +kernel) (Or.inr rfl) ?_
      refine ⟨?_, rfl⟩
      simp [F_tk, F_kw, h2, h8]
      try rfl

def F_nb (w : Int32) : Int32 := if w = nI 0 ∨ w = nI 4 ∨ w = nI 10 then nI 1 else if w = nI 11 then nI 0 else nI 2
def G_rew (A : pw_m) : pw_m := pw_up (pw_up (pw_up A 2 2 (nI 0)) 2 3 (nI 0)) 2 4 (nI 0)
def G_tal (A : pw_m) : pw_m := if A 1 4 = 0 then pw_up (pw_up A 1 2 (A 1 5)) 1 3 (nI 0) else if F_kw (A 1 4) then pw_up A 1 3 (A 1 3 + nI 1) else A
def F_ln (w : Int32) : Int32 := if w = 0 then nI 3 else nI 0

set_option maxHeartbeats 4000000 in
set_option maxRecDepth 100000 in
theorem c_leastNumber (w : Int32) (mm : pw_m) : pw_Ct 0 yX2_leastNumber m_X2_leastNumber [.int w] mm (fun r m' => r = some (.int (F_ln w)) ∧ m' = mm) := by
  refine pw_ct (by decide +kernel) rfl (Nat.le_of_ble_eq_true rfl) (fun x => ?_)
  generalize hZ : pw_Z x _ = Z
  show pw_V x m_X2_leastNumber 0 Z 0 [(0, .int w)] [] mm
  refine pw_blk (pc' := 1) [.iload 0] (by decide +kernel) ?_
  show pw_V x m_X2_leastNumber 0 Z 1 [(0, .int w)] [.int w] mm
  refine pw_if_ne (tgt := 8) (off := 7) (by decide +kernel) (by decide) (fun h1 => ?_) (fun h1 => ?_)
  · refine pw_blk (pc' := 9) [.iconst 0] (by decide +kernel) ?_
    show pw_V x m_X2_leastNumber 0 Z 9 [(0, .int w)] [.int (nI 0)] mm
    rw [← hZ]
    refine pw_ri (by decide +kernel) ?_
    refine ⟨?_, rfl⟩
    simp [F_nb, F_ln, h1]
    try rfl
  · refine pw_blk (pc' := 5) [.iconst 3] (by decide +kernel) ?_
    show pw_V x m_X2_leastNumber 0 Z 5 [(0, .int w)] [.int (nI 3)] mm
    refine pw_goto (tgt := 9) (off := 4) (by decide +kernel) (by decide) ?_
    rw [← hZ]
    refine pw_ri (by decide +kernel) ?_
    refine ⟨?_, rfl⟩
    simp [F_nb, F_ln, h1]
    try rfl

set_option maxHeartbeats 4000000 in
set_option maxRecDepth 100000 in
theorem c_numbersBehind (w : Int32) (mm : pw_m) : pw_Ct 0 yX2_numbersBehind m_X2_numbersBehind [.int w] mm (fun r m' => r = some (.int (F_nb w)) ∧ m' = mm) := by
  refine pw_ct (by decide +kernel) rfl (Nat.le_of_ble_eq_true rfl) (fun x => ?_)
  generalize hZ : pw_Z x _ = Z
  show pw_V x m_X2_numbersBehind 0 Z 0 [(0, .int w)] [] mm
  refine pw_blk (pc' := 1) [.iload 0] (by decide +kernel) ?_
  show pw_V x m_X2_numbersBehind 0 Z 1 [(0, .int w)] [.int w] mm
  refine pw_lsw (dflt := 47) (ps := #[(0, 45), (4, 45), (10, 45), (11, 43)]) (len := 43) (by decide +kernel) (by decide) ?_
  by_cases h1_0 : w = nI 0
  · refine ⟨45, 46, by rw [h1_0]; rfl, by decide, ?_⟩
    subst h1_0
    refine pw_blk (pc' := 47) [.iconst 1] (by decide +kernel) ?_
    show pw_V x m_X2_numbersBehind 0 Z 47 [(0, .int (nI 0))] [.int (nI 1)] mm
    rw [← hZ]
    refine pw_ri (by decide +kernel) ?_
    refine ⟨?_, rfl⟩
    simp [F_nb, F_ln, ]
    try rfl
  by_cases h1_4 : w = nI 4
  · refine ⟨45, 46, by rw [h1_4]; rfl, by decide, ?_⟩
    subst h1_4
    refine pw_blk (pc' := 47) [.iconst 1] (by decide +kernel) ?_
    show pw_V x m_X2_numbersBehind 0 Z 47 [(0, .int (nI 4))] [.int (nI 1)] mm
    rw [← hZ]
    refine pw_ri (by decide +kernel) ?_
    refine ⟨?_, rfl⟩
    simp [F_nb, F_ln, h1_0]
    try rfl
  by_cases h1_10 : w = nI 10
  · refine ⟨45, 46, by rw [h1_10]; rfl, by decide, ?_⟩
    subst h1_10
    refine pw_blk (pc' := 47) [.iconst 1] (by decide +kernel) ?_
    show pw_V x m_X2_numbersBehind 0 Z 47 [(0, .int (nI 10))] [.int (nI 1)] mm
    rw [← hZ]
    refine pw_ri (by decide +kernel) ?_
    refine ⟨?_, rfl⟩
    simp [F_nb, F_ln, h1_0, h1_4]
    try rfl
  by_cases h1_11 : w = nI 11
  · refine ⟨43, 44, by rw [h1_11]; rfl, by decide, ?_⟩
    subst h1_11
    refine pw_blk (pc' := 45) [.iconst 0] (by decide +kernel) ?_
    show pw_V x m_X2_numbersBehind 0 Z 45 [(0, .int (nI 11))] [.int (nI 0)] mm
    rw [← hZ]
    refine pw_ri (by decide +kernel) ?_
    refine ⟨?_, rfl⟩
    simp [F_nb, F_ln, h1_0, h1_4, h1_10]
    try rfl
  refine ⟨47, 48, by rw [show (#[(0, 45), (4, 45), (10, 45), (11, 43)] : Array (Int × Int)).toList = [(0, 45), (4, 45), (10, 45), (11, 43)] from rfl, lv_osw h1_0 (by decide), lv_osw h1_4 (by decide), lv_osw h1_10 (by decide), lv_osw h1_11 (by decide)]; rfl, by decide, ?_⟩
  refine pw_blk (pc' := 49) [.iconst 2] (by decide +kernel) ?_
  show pw_V x m_X2_numbersBehind 0 Z 49 [(0, .int w)] [.int (nI 2)] mm
  rw [← hZ]
  refine pw_ri (by decide +kernel) ?_
  refine ⟨?_, rfl⟩
  simp [F_nb, F_ln, h1_0, h1_4, h1_10, h1_11]
  try rfl

set_option maxHeartbeats 4000000 in
set_option maxRecDepth 100000 in
theorem c_rewind (mm : pw_m) : pw_Ct 0 yX3_rewind m_X3_rewind [.ref 2] mm (fun r m' => r = none ∧ m' = G_rew mm) := by
  refine pw_ct (by decide +kernel) rfl (Nat.le_of_ble_eq_true rfl) (fun x => ?_)
  generalize hZ : pw_Z x _ = Z
  show pw_V x m_X3_rewind 0 Z 0 [(0, .ref 2)] [] mm
  refine pw_blk (pc' := 15) [.aload 0, .iconst 0, .putfield 302, .aload 0, .iconst 0, .putfield 303, .aload 0, .iconst 0, .putfield 304] (by decide +kernel) ?_
  show pw_V x m_X3_rewind 0 Z 15 [(0, .ref 2)] [] (pw_up (pw_up (pw_up mm 2 2 (nI 0)) 2 3 (nI 0)) 2 4 (nI 0))
  rw [← hZ]
  refine pw_rv (by decide +kernel) ?_
  exact ⟨rfl, rfl⟩

set_option maxHeartbeats 4000000 in
set_option maxRecDepth 100000 in
theorem c_tally (mm : pw_m) : pw_Ct 1 yX2_tally m_X2_tally [.ref 1] mm (fun r m' => r = none ∧ m' = G_tal mm) := by
  refine pw_ct (by decide +kernel) rfl (Nat.le_of_ble_eq_true rfl) (fun x => ?_)
  generalize hZ : pw_Z x _ = Z
  show pw_V x m_X2_tally 1 Z 0 [(0, .ref 1)] [] mm
  refine pw_blk (pc' := 4) [.aload 0, .getfield 204] (by decide +kernel) ?_
  show pw_V x m_X2_tally 1 Z 4 [(0, .ref 1)] [.int (mm 1 4)] mm
  refine pw_if_ne (tgt := 23) (off := 19) (by decide +kernel) (by decide) (fun h4 => ?_) (fun h4 => ?_)
  · refine pw_blk (pc' := 27) [.aload 0, .getfield 204] (by decide +kernel) ?_
    show pw_V x m_X2_tally 1 Z 27 [(0, .ref 1)] [.int (mm 1 4)] mm
    refine pw_cS (vs := [.int (mm 1 4)]) (rest := []) k_X2_isKnightWord (c_isKnightWord (mm 1 4) mm) l_2_68 rfl (by omega) (Nat.le_of_ble_eq_true rfl) (by decide +kernel) ?_
    rintro _ m1 ⟨rfl, e1⟩
    rw [e1]
    clear e1 m1
    show pw_V x m_X2_tally 1 Z 30 [(0, .ref 1)] [.int (pw_b (F_kw (mm 1 4)))] mm
    refine pw_ib_eq (tgt := 43) (off := 13) (by decide +kernel) (by decide) (fun h30 => ?_) (fun h30 => ?_)
    · rw [← hZ]
      refine pw_rv (by decide +kernel) ?_
      exact ⟨rfl, by simp [G_tal, h4, h30]⟩
    · refine pw_blk (pc' := 43) [.aload 0, .dup, .getfield 203, .iconst 1, .iadd, .putfield 203] (by decide +kernel) ?_
      show pw_V x m_X2_tally 1 Z 43 [(0, .ref 1)] [] (pw_up mm 1 3 ((mm 1 3) + (nI 1)))
      rw [← hZ]
      refine pw_rv (by decide +kernel) ?_
      exact ⟨rfl, by simp [G_tal, h4, h30]⟩
  · refine pw_blk (pc' := 20) [.aload 0, .aload 0, .getfield 205, .putfield 202, .aload 0, .iconst 0, .putfield 203] (by decide +kernel) ?_
    show pw_V x m_X2_tally 1 Z 20 [(0, .ref 1)] [] (pw_up (pw_up mm 1 2 (mm 1 5)) 1 3 (nI 0))
    refine pw_goto (tgt := 43) (off := 23) (by decide +kernel) (by decide) ?_
    rw [← hZ]
    refine pw_rv (by decide +kernel) ?_
    exact ⟨rfl, by simp [G_tal, h4]⟩

def pw_skF (A : pw_m) : Nat → Nat → Nat
  | 0, i => i
  | f + 1, i => if A 3 i = nI 32 then pw_skF A f (i + 1) else i
def pw_sk (A : pw_m) (i : Nat) : Nat := pw_skF A (pw_g A 2 1 - i) i
def pw_rnF (A : pw_m) (t : Int32) : Nat → Nat → Nat
  | 0, i => i
  | f + 1, i => if F_tk (A 3 i) = t then pw_rnF A t f (i + 1) else i
def pw_rn (A : pw_m) (t : Int32) (i : Nat) : Nat := if t = nI 3 then i else pw_rnF A t (pw_g A 2 1 - i) i
theorem pw_sk_s {A : pw_m} {i : Nat} (h : i < pw_g A 2 1) (h2 : A 3 i = nI 32) : pw_sk A i = pw_sk A (i + 1) := by
  unfold pw_sk
  rw [show pw_g A 2 1 - i = (pw_g A 2 1 - (i + 1)) + 1 by omega, pw_skF, if_pos h2]
theorem pw_sk_e {A : pw_m} {i : Nat} (h : ¬ i < pw_g A 2 1) : pw_sk A i = i := by
  unfold pw_sk
  rw [show pw_g A 2 1 - i = 0 by omega, pw_skF]
theorem pw_sk_n {A : pw_m} {i : Nat} (h : i < pw_g A 2 1) (h2 : ¬ A 3 i = nI 32) : pw_sk A i = i := by
  unfold pw_sk
  rw [show pw_g A 2 1 - i = (pw_g A 2 1 - (i + 1)) + 1 by omega, pw_skF, if_neg h2]
theorem pw_rn_s {A : pw_m} {t : Int32} {i : Nat} (h : i < pw_g A 2 1) (h3 : ¬ t = nI 3) (h2 : F_tk (A 3 i) = t) : pw_rn A t i = pw_rn A t (i + 1) := by
  unfold pw_rn
  rw [if_neg h3, if_neg h3, show pw_g A 2 1 - i = (pw_g A 2 1 - (i + 1)) + 1 by omega, pw_rnF, if_pos h2]
theorem pw_rn_e {A : pw_m} {t : Int32} {i : Nat} (h : ¬ i < pw_g A 2 1) : pw_rn A t i = i := by
  unfold pw_rn
  rw [show pw_g A 2 1 - i = 0 by omega, pw_rnF]; simp
theorem pw_rn_3 {A : pw_m} {t : Int32} {i : Nat} (h : t = nI 3) : pw_rn A t i = i := by
  unfold pw_rn; rw [if_pos h]
theorem pw_rn_n {A : pw_m} {t : Int32} {i : Nat} (h : i < pw_g A 2 1) (h2 : ¬ F_tk (A 3 i) = t) : pw_rn A t i = i := by
  unfold pw_rn
  rw [show pw_g A 2 1 - i = (pw_g A 2 1 - (i + 1)) + 1 by omega, pw_rnF, if_neg h2]; simp
def G_adv (A : pw_m) (e : Nat) : pw_m :=
  if pw_sk A e < pw_g A 2 1 then pw_up (pw_up (pw_up A 2 3 (nI (pw_sk A e))) 2 2 (F_tk (A 3 (pw_sk A e)))) 2 4 (nI (pw_rn A (F_tk (A 3 (pw_sk A e))) (pw_sk A e + 1)))
  else pw_up (pw_up (pw_up A 2 3 (nI (pw_sk A e))) 2 2 (nI 0)) 2 4 (nI (pw_g A 2 1))

set_option maxHeartbeats 4000000 in
set_option maxRecDepth 100000 in
theorem c_advance (mm : pw_m) (hx : mm 2 1 = nI (pw_g mm 2 1)) (bwr : pw_g mm 2 1 ≤ 160) (e : Nat) (he : mm 2 4 = nI e) (he2 : e ≤ pw_g mm 2 1) : pw_Ct 1 yX3_advance m_X3_advance [.ref 2] mm (fun r m' => r = none ∧ m' = G_adv mm e) := by
  refine pw_ct (by decide +kernel) rfl (Nat.le_of_ble_eq_true rfl) (fun x => ?_)
  generalize hZ : pw_Z x _ = Z
  show pw_V x m_X3_advance 1 Z 0 [(0, .ref 2)] [] mm
  refine pw_blk (pc' := 5) [.aload 0, .getfield 304, .istore 1] (by decide +kernel) ?_
  show pw_V x m_X3_advance 1 Z 5 [(1, .int (mm 2 4)), (0, .ref 2)] [] mm
  rw [show mm 2 4 = nI e from he]
  refine pw_lvp [1, 0] rfl ?_
  suffices lo : ∀ ix : Nat, ix ≤ pw_g mm 2 1 → pw_sk mm e = pw_sk mm ix → pw_V x m_X3_advance 1 Z 5 [(0, .ref 2), (1, .int (nI ix))] [] mm from lo e he2 rfl
  refine pw_dn (pw_g mm 2 1) (fun ix hix ih hsk => ?_)
  have out : ∀ bx : Nat, bx ≤ pw_g mm 2 1 → pw_sk mm e = bx → pw_V x m_X3_advance 1 Z 30 [(0, .ref 2), (1, .int (nI bx))] [] mm := by
    intro bx hbx hsk
    refine pw_blk (pc' := 40) [.aload 0, .iload 1, .putfield 303, .iload 1, .aload 0, .getfield 301] (by decide +kernel) ?_
    show pw_V x m_X3_advance 1 Z 40 [(0, .ref 2), (1, .int (nI bx))] [.int (mm 2 1), .int (nI bx)] (pw_up mm 2 3 (nI bx))
    rw [show mm 2 1 = nI (pw_g mm 2 1) from hx]
    refine pw_in_lt (tgt := 57) (off := 17) (by omega) (by omega) (by decide +kernel) (by decide) (fun h40 => ?_) (fun h40 => ?_)
    · refine pw_blk (pc' := 64) [.aload 0, .aload 0, .getfield 300, .iload 1, .iaload] (by decide +kernel) ?_
      refine ⟨bx, rfl, by omega, ?_⟩
      show pw_V x m_X3_advance 1 Z 64 [(0, .ref 2), (1, .int (nI bx))] [.int (mm 3 bx), .ref 2] (pw_up mm 2 3 (nI bx))
      refine pw_cS (vs := [.int (mm 3 bx)]) (rest := [.ref 2]) k_X3_tokenOf (c_tokenOf (mm 3 bx) (pw_up mm 2 3 (nI bx))) l_3_28 rfl (by omega) (Nat.le_of_ble_eq_true rfl) (by decide +kernel) ?_
      rintro _ m1 ⟨rfl, e1⟩
      rw [e1]
      clear e1 m1
      show pw_V x m_X3_advance 1 Z 67 [(0, .ref 2), (1, .int (nI bx))] [.int (F_tk (mm 3 bx)), .ref 2] (pw_up mm 2 3 (nI bx))
      refine pw_blk (pc' := 73) [.putfield 302, .iinc 1 1] (by decide +kernel) ?_
      show pw_V x m_X3_advance 1 Z 73 [(1, .int ((nI bx) + (nI 1))), (0, .ref 2)] [] (pw_up (pw_up mm 2 3 (nI bx)) 2 2 (F_tk (mm 3 bx)))
      rw [show (nI bx) + (nI 1) = nI (bx + 1) from nI_add _ _]
      refine pw_lvp [1, 0] rfl ?_
      suffices lo : ∀ iy : Nat, iy ≤ pw_g mm 2 1 → pw_rn mm (F_tk (mm 3 bx)) (bx + 1) = pw_rn mm (F_tk (mm 3 bx)) iy → pw_V x m_X3_advance 1 Z 73 [(0, .ref 2), (1, .int (nI iy))] [] (pw_up (pw_up mm 2 3 (nI bx)) 2 2 (F_tk (mm 3 bx))) from lo (bx + 1) (by omega) rfl
      refine pw_dn (pw_g mm 2 1) (fun iy hiy ih hrn => ?_)
      refine pw_blk (pc' := 78) [.aload 0, .getfield 302, .iconst 3] (by decide +kernel) ?_
      show pw_V x m_X3_advance 1 Z 78 [(0, .ref 2), (1, .int (nI iy))] [.int (nI 3), .int (F_tk (mm 3 bx))] (pw_up (pw_up mm 2 3 (nI bx)) 2 2 (F_tk (mm 3 bx)))
      refine pw_ic_eq (tgt := 111) (off := 33) (by decide +kernel) (by decide) (fun h78 => ?_) (fun h78 => ?_)
      · refine pw_blk (pc' := 116) [.aload 0, .iload 1, .putfield 304] (by decide +kernel) ?_
        show pw_V x m_X3_advance 1 Z 116 [(0, .ref 2), (1, .int (nI iy))] [] (pw_up (pw_up (pw_up mm 2 3 (nI bx)) 2 2 (F_tk (mm 3 bx))) 2 4 (nI iy))
        rw [← hZ]
        refine pw_rv (by decide +kernel) ?_
        exact ⟨rfl, by unfold G_adv; rw [hsk, if_pos (by omega), hrn, show pw_rn mm (F_tk (mm 3 bx)) iy = iy from pw_rn_3 h78]⟩
      · refine pw_blk (pc' := 86) [.iload 1, .aload 0, .getfield 301] (by decide +kernel) ?_
        show pw_V x m_X3_advance 1 Z 86 [(0, .ref 2), (1, .int (nI iy))] [.int (mm 2 1), .int (nI iy)] (pw_up (pw_up mm 2 3 (nI bx)) 2 2 (F_tk (mm 3 bx)))
        rw [show mm 2 1 = nI (pw_g mm 2 1) from hx]
        refine pw_in_ge (tgt := 111) (off := 25) (by omega) (by omega) (by decide +kernel) (by decide) (fun h86 => ?_) (fun h86 => ?_)
        · refine pw_blk (pc' := 116) [.aload 0, .iload 1, .putfield 304] (by decide +kernel) ?_
          show pw_V x m_X3_advance 1 Z 116 [(0, .ref 2), (1, .int (nI iy))] [] (pw_up (pw_up (pw_up mm 2 3 (nI bx)) 2 2 (F_tk (mm 3 bx))) 2 4 (nI iy))
          rw [← hZ]
          refine pw_rv (by decide +kernel) ?_
          exact ⟨rfl, by unfold G_adv; rw [hsk, if_pos (by omega), hrn, show pw_rn mm (F_tk (mm 3 bx)) iy = iy from pw_rn_e (by omega)]⟩
        · refine pw_blk (pc' := 95) [.aload 0, .getfield 300, .iload 1, .iaload] (by decide +kernel) ?_
          refine ⟨iy, rfl, by omega, ?_⟩
          show pw_V x m_X3_advance 1 Z 95 [(0, .ref 2), (1, .int (nI iy))] [.int (mm 3 iy)] (pw_up (pw_up mm 2 3 (nI bx)) 2 2 (F_tk (mm 3 bx)))
          refine pw_cS (vs := [.int (mm 3 iy)]) (rest := []) k_X3_tokenOf (c_tokenOf (mm 3 iy) (pw_up (pw_up mm 2 3 (nI bx)) 2 2 (F_tk (mm 3 bx)))) l_3_28 rfl (by omega) (Nat.le_of_ble_eq_true rfl) (by decide +kernel) ?_
          rintro _ m1 ⟨rfl, e1⟩
          rw [e1]
          clear e1 m1
          show pw_V x m_X3_advance 1 Z 98 [(0, .ref 2), (1, .int (nI iy))] [.int (F_tk (mm 3 iy))] (pw_up (pw_up mm 2 3 (nI bx)) 2 2 (F_tk (mm 3 bx)))
          refine pw_blk (pc' := 102) [.aload 0, .getfield 302] (by decide +kernel) ?_
          show pw_V x m_X3_advance 1 Z 102 [(0, .ref 2), (1, .int (nI iy))] [.int (F_tk (mm 3 bx)), .int (F_tk (mm 3 iy))] (pw_up (pw_up mm 2 3 (nI bx)) 2 2 (F_tk (mm 3 bx)))
          refine pw_ic_ne (tgt := 111) (off := 9) (by decide +kernel) (by decide) (fun h102 => ?_) (fun h102 => ?_)
          · refine pw_blk (pc' := 116) [.aload 0, .iload 1, .putfield 304] (by decide +kernel) ?_
            show pw_V x m_X3_advance 1 Z 116 [(0, .ref 2), (1, .int (nI iy))] [] (pw_up (pw_up (pw_up mm 2 3 (nI bx)) 2 2 (F_tk (mm 3 bx))) 2 4 (nI iy))
            rw [← hZ]
            refine pw_rv (by decide +kernel) ?_
            exact ⟨rfl, by unfold G_adv; rw [hsk, if_pos (by omega), hrn, show pw_rn mm (F_tk (mm 3 bx)) iy = iy from pw_rn_n (by omega) h102]⟩
          · refine pw_blk (pc' := 108) [.iinc 1 1] (by decide +kernel) ?_
            show pw_V x m_X3_advance 1 Z 108 [(1, .int ((nI iy) + (nI 1))), (0, .ref 2)] [] (pw_up (pw_up mm 2 3 (nI bx)) 2 2 (F_tk (mm 3 bx)))
            rw [show (nI iy) + (nI 1) = nI (iy + 1) from nI_add _ _]
            refine pw_goto (tgt := 73) (off := -35) (by decide +kernel) (by decide) ?_
            refine pw_lvp [1, 0] rfl ?_
            exact ih (by omega) (by rw [hrn]; exact pw_rn_s (by omega) h78 h102)
    · refine pw_blk (pc' := 56) [.aload 0, .iconst 0, .putfield 302, .aload 0, .aload 0, .getfield 301, .putfield 304] (by decide +kernel) ?_
      show pw_V x m_X3_advance 1 Z 56 [(0, .ref 2), (1, .int (nI bx))] [] (pw_up (pw_up (pw_up mm 2 3 (nI bx)) 2 2 (nI 0)) 2 4 (mm 2 1))
      rw [show mm 2 1 = nI (pw_g mm 2 1) from hx]
      rw [← hZ]
      refine pw_rv (by decide +kernel) ?_
      exact ⟨rfl, by unfold G_adv; rw [hsk, if_neg (by omega)]⟩
  refine pw_blk (pc' := 10) [.iload 1, .aload 0, .getfield 301] (by decide +kernel) ?_
  show pw_V x m_X3_advance 1 Z 10 [(0, .ref 2), (1, .int (nI ix))] [.int (mm 2 1), .int (nI ix)] mm
  rw [show mm 2 1 = nI (pw_g mm 2 1) from hx]
  refine pw_in_ge (tgt := 30) (off := 20) (by omega) (by omega) (by decide +kernel) (by decide) (fun h10 => ?_) (fun h10 => ?_)
  · exact out ix (by omega) (by rw [hsk]; exact pw_sk_e (by omega))
  · refine pw_blk (pc' := 21) [.aload 0, .getfield 300, .iload 1, .iaload, .iconst (32)] (by decide +kernel) ?_
    refine ⟨ix, rfl, by omega, ?_⟩
    show pw_V x m_X3_advance 1 Z 21 [(0, .ref 2), (1, .int (nI ix))] [.int (nI 32), .int (mm 3 ix)] mm
    refine pw_ic_ne (tgt := 30) (off := 9) (by decide +kernel) (by decide) (fun h21 => ?_) (fun h21 => ?_)
    · exact out ix (by omega) (by rw [hsk]; exact pw_sk_n (by omega) h21)
    · refine pw_blk (pc' := 27) [.iinc 1 1] (by decide +kernel) ?_
      show pw_V x m_X3_advance 1 Z 27 [(1, .int ((nI ix) + (nI 1))), (0, .ref 2)] [] mm
      rw [show (nI ix) + (nI 1) = nI (ix + 1) from nI_add _ _]
      refine pw_goto (tgt := 5) (off := -22) (by decide +kernel) (by decide) ?_
      refine pw_lvp [1, 0] rfl ?_
      exact ih (by omega) (by rw [hsk]; exact pw_sk_s (by omega) h21)
end
section
def F_sc (A : pw_m) (b : Nat) : Bool := decide (A 2 2 = nI 3 ∧ b < pw_g A 2 1 ∧ A 3 b = nI 59)
def pw_dg (A : pw_m) (b : Nat) : Nat → Int32
  | 0 => nI 0
  | i + 1 => pw_dg A b i * nI 10 + (A 3 (b + i) - nI 48)
def F_num (A : pw_m) (b e : Nat) : Int32 := if A 2 2 = nI 2 ∧ e - b ≤ 2 then pw_dg A b (e - b) else -1

set_option maxHeartbeats 4000000 in
set_option maxRecDepth 100000 in
theorem c_isSemicolon (mm : pw_m) (hx : mm 2 1 = nI (pw_g mm 2 1)) (bwr : pw_g mm 2 1 ≤ 160) (b : Nat) (hb : mm 2 3 = nI b) (hb2 : b ≤ pw_g mm 2 1) : pw_Ct 0 yX3_isSemicolon m_X3_isSemicolon [.ref 2] mm (fun r m' => r = some (.int (pw_b (F_sc mm b))) ∧ m' = mm) := by
  refine pw_ct (by decide +kernel) rfl (Nat.le_of_ble_eq_true rfl) (fun x => ?_)
  generalize hZ : pw_Z x _ = Z
  show pw_V x m_X3_isSemicolon 0 Z 0 [(0, .ref 2)] [] mm
  refine pw_blk (pc' := 5) [.aload 0, .getfield 302, .iconst 3] (by decide +kernel) ?_
  show pw_V x m_X3_isSemicolon 0 Z 5 [(0, .ref 2)] [.int (nI 3), .int (mm 2 2)] mm
  refine pw_ic_ne (tgt := 37) (off := 32) (by decide +kernel) (by decide) (fun h5 => ?_) (fun h5 => ?_)
  · refine pw_blk (pc' := 38) [.iconst 0] (by decide +kernel) ?_
    show pw_V x m_X3_isSemicolon 0 Z 38 [(0, .ref 2)] [.int (nI 0)] mm
    rw [← hZ]
    refine pw_rz (by decide +kernel) (Or.inl rfl) ?_
    refine ⟨?_, rfl⟩
    simp [F_sc, h5]
    try rfl
  · refine pw_blk (pc' := 16) [.aload 0, .getfield 303, .aload 0, .getfield 301] (by decide +kernel) ?_
    show pw_V x m_X3_isSemicolon 0 Z 16 [(0, .ref 2)] [.int (mm 2 1), .int (mm 2 3)] mm
    rw [show mm 2 1 = nI (pw_g mm 2 1) from hx]
    rw [show mm 2 3 = nI b from hb]
    refine pw_in_ge (tgt := 37) (off := 21) (by omega) (by omega) (by decide +kernel) (by decide) (fun h16 => ?_) (fun h16 => ?_)
    · refine pw_blk (pc' := 38) [.iconst 0] (by decide +kernel) ?_
      show pw_V x m_X3_isSemicolon 0 Z 38 [(0, .ref 2)] [.int (nI 0)] mm
      rw [← hZ]
      refine pw_rz (by decide +kernel) (Or.inl rfl) ?_
      refine ⟨?_, rfl⟩
      simp [F_sc, h5, Nat.not_lt.mpr h16]
      try rfl
    · refine pw_blk (pc' := 30) [.aload 0, .getfield 300, .aload 0, .getfield 303, .iaload, .iconst (59)] (by decide +kernel) ?_
      refine ⟨b, (show mm 2 3 = nI b from by rw [show mm 2 3 = nI b from hb]), by omega, ?_⟩
      show pw_V x m_X3_isSemicolon 0 Z 30 [(0, .ref 2)] [.int (nI 59), .int (mm 3 b)] mm
      refine pw_ic_ne (tgt := 37) (off := 7) (by decide +kernel) (by decide) (fun h30 => ?_) (fun h30 => ?_)
      · refine pw_blk (pc' := 38) [.iconst 0] (by decide +kernel) ?_
        show pw_V x m_X3_isSemicolon 0 Z 38 [(0, .ref 2)] [.int (nI 0)] mm
        rw [← hZ]
        refine pw_rz (by decide +kernel) (Or.inl rfl) ?_
        refine ⟨?_, rfl⟩
        simp [F_sc, h5, h16, h30]
        try rfl
      · refine pw_blk (pc' := 34) [.iconst 1] (by decide +kernel) ?_
        show pw_V x m_X3_isSemicolon 0 Z 34 [(0, .ref 2)] [.int (nI 1)] mm
        refine pw_goto (tgt := 38) (off := 4) (by decide +kernel) (by decide) ?_
        rw [← hZ]
        refine pw_rz (by decide +kernel) (Or.inr rfl) ?_
        refine ⟨?_, rfl⟩
        simp [F_sc, h5, h16, h30]
        try rfl

set_option maxHeartbeats 4000000 in
set_option maxRecDepth 100000 in
theorem c_number (mm : pw_m) (hx : mm 2 1 = nI (pw_g mm 2 1)) (bwr : pw_g mm 2 1 ≤ 160) (b e : Nat) (hb : mm 2 3 = nI b) (he : mm 2 4 = nI e) (hbe : b ≤ e) (he2 : e ≤ pw_g mm 2 1) : pw_Ct 0 yX3_number m_X3_number [.ref 2] mm (fun r m' => r = some (.int (F_num mm b e)) ∧ m' = mm) := by
  refine pw_ct (by decide +kernel) rfl (Nat.le_of_ble_eq_true rfl) (fun x => ?_)
  generalize hZ : pw_Z x _ = Z
  show pw_V x m_X3_number 0 Z 0 [(0, .ref 2)] [] mm
  refine pw_blk (pc' := 5) [.aload 0, .getfield 302, .iconst 2] (by decide +kernel) ?_
  show pw_V x m_X3_number 0 Z 5 [(0, .ref 2)] [.int (nI 2), .int (mm 2 2)] mm
  refine pw_ic_ne (tgt := 21) (off := 16) (by decide +kernel) (by decide) (fun h5 => ?_) (fun h5 => ?_)
  · refine pw_blk (pc' := 22) [.iconst (-1)] (by decide +kernel) ?_
    show pw_V x m_X3_number 0 Z 22 [(0, .ref 2)] [.int (-1)] mm
    rw [← hZ]
    refine pw_ri (by decide +kernel) ?_
    refine ⟨?_, rfl⟩
    unfold F_num
    rw [if_neg (fun z => absurd z.1 h5)]
    try rfl
  · refine pw_blk (pc' := 16) [.aload 0, .getfield 304, .aload 0, .getfield 303] (by decide +kernel) ?_
    show pw_V x m_X3_number 0 Z 16 [(0, .ref 2)] [.int (mm 2 3), .int (mm 2 4)] mm
    rw [show mm 2 3 = nI b from hb]
    rw [show mm 2 4 = nI e from he]
    refine pw_blk (pc' := 17) [.isub] (by decide +kernel) ?_
    show pw_V x m_X3_number 0 Z 17 [(0, .ref 2)] [.int (nI e - nI b)] mm
    rw [pk_sub (show b ≤ e by omega)]
    refine pw_blk (pc' := 18) [.iconst 2] (by decide +kernel) ?_
    show pw_V x m_X3_number 0 Z 18 [(0, .ref 2)] [.int (nI 2), .int (nI (e - b))] mm
    refine pw_in_le (tgt := 23) (off := 5) (by omega) (by omega) (by decide +kernel) (by decide) (fun h18 => ?_) (fun h18 => ?_)
    · refine pw_blk (pc' := 30) [.iconst 0, .istore 1, .aload 0, .getfield 303, .istore 2] (by decide +kernel) ?_
      show pw_V x m_X3_number 0 Z 30 [(2, .int (mm 2 3)), (1, .int (nI 0)), (0, .ref 2)] [] mm
      rw [show mm 2 3 = nI b from hb]
      refine pw_lvp [2, 1, 0] rfl ?_
      suffices lo : ∀ ix : Nat, ix ≤ e - b → pw_V x m_X3_number 0 Z 30 [(0, .ref 2), (1, .int (pw_dg mm b ix)), (2, .int (nI (b + ix)))] [] mm from lo 0 (by omega)
      refine pw_dn (e - b) (fun ix hix ih => ?_)
      refine pw_blk (pc' := 35) [.iload 2, .aload 0, .getfield 304] (by decide +kernel) ?_
      show pw_V x m_X3_number 0 Z 35 [(0, .ref 2), (1, .int (pw_dg mm b ix)), (2, .int (nI (b + ix)))] [.int (mm 2 4), .int (nI (b + ix))] mm
      rw [show mm 2 4 = nI e from he]
      refine pw_in_ge (tgt := 59) (off := 24) (by omega) (by omega) (by decide +kernel) (by decide) (fun h35 => ?_) (fun h35 => ?_)
      · refine pw_blk (pc' := 60) [.iload 1] (by decide +kernel) ?_
        show pw_V x m_X3_number 0 Z 60 [(0, .ref 2), (1, .int (pw_dg mm b ix)), (2, .int (nI (b + ix)))] [.int (pw_dg mm b ix)] mm
        rw [← hZ]
        refine pw_ri (by decide +kernel) ?_
        refine ⟨?_, rfl⟩
        unfold F_num
        rw [if_pos ⟨h5, by omega⟩, show e - b = ix by omega]
      · refine pw_blk (pc' := 56) [.iload 1, .iconst (10), .imul, .aload 0, .getfield 300, .iload 2, .iaload, .iconst (48), .isub, .iadd, .istore 1, .iinc 2 1] (by decide +kernel) ?_
        refine ⟨(b + ix), rfl, by omega, ?_⟩
        show pw_V x m_X3_number 0 Z 56 [(2, .int ((nI (b + ix)) + (nI 1))), (1, .int (((pw_dg mm b ix) * (nI 10)) + ((mm 3 (b + ix)) - (nI 48)))), (0, .ref 2)] [] mm
        rw [show (nI (b + ix)) + (nI 1) = nI ((b + ix) + 1) from nI_add _ _]
        refine pw_goto (tgt := 30) (off := -26) (by decide +kernel) (by decide) ?_
        refine pw_lvp [2, 1, 0] rfl ?_
        exact ih (by omega)
    · refine pw_blk (pc' := 22) [.iconst (-1)] (by decide +kernel) ?_
      show pw_V x m_X3_number 0 Z 22 [(0, .ref 2)] [.int (-1)] mm
      rw [← hZ]
      refine pw_ri (by decide +kernel) ?_
      refine ⟨?_, rfl⟩
      unfold F_num
      rw [if_neg (fun z => absurd z.2 (by omega))]
      try rfl
end
section
def pw_wdF (A : pw_m) (b e : Nat) : Nat → Nat → Nat → Nat → Bool → Option Nat
  | 0, _, _, _, _ => none
  | f + 1, i, nb, at_, al => if pw_k2 i = nI 46 then (if al = true ∧ at_ = e then some nb else pw_wdF A b e f (i + 1) (nb + 1) b true) else if al = true ∧ at_ < e ∧ A 3 at_ = pw_k2 i then pw_wdF A b e f (i + 1) nb (at_ + 1) true else pw_wdF A b e f (i + 1) nb at_ false
def F_wd (A : pw_m) (b e : Nat) : Option Nat := if A 2 2 = nI 1 then pw_wdF A b e 74 0 0 b true else none

set_option maxHeartbeats 4000000 in
set_option maxRecDepth 100000 in
theorem c_wordThatStandsHere (mm : pw_m) (hx : mm 2 1 = nI (pw_g mm 2 1)) (bwr : pw_g mm 2 1 ≤ 160) (b e : Nat) (hb : mm 2 3 = nI b) (he : mm 2 4 = nI e) (hbe : b ≤ e) (he2 : e ≤ pw_g mm 2 1) : pw_Ct 0 yX2_wordThatStandsHere m_X2_wordThatStandsHere [.ref 1] mm (fun r m' => r = some (.int (pw_o (F_wd mm b e))) ∧ m' = mm) := by
  refine pw_ct (by decide +kernel) rfl (Nat.le_of_ble_eq_true rfl) (fun x => ?_)
  generalize hZ : pw_Z x _ = Z
  show pw_V x m_X2_wordThatStandsHere 0 Z 0 [(0, .ref 1)] [] mm
  refine pw_blk (pc' := 8) [.aload 0, .getfield 200, .getfield 302, .iconst 1] (by decide +kernel) ?_
  show pw_V x m_X2_wordThatStandsHere 0 Z 8 [(0, .ref 1)] [.int (nI 1), .int (mm 2 2)] mm
  refine pw_ic_eq (tgt := 13) (off := 5) (by decide +kernel) (by decide) (fun h8 => ?_) (fun h8 => ?_)
  · refine pw_blk (pc' := 28) [.iconst 0, .istore 1, .aload 0, .getfield 200, .getfield 303, .istore 2, .iconst 1, .istore 3, .iconst 0, .istore 4] (by decide +kernel) ?_
    show pw_V x m_X2_wordThatStandsHere 0 Z 28 [(4, .int (nI 0)), (3, .int (nI 1)), (2, .int (mm 2 3)), (1, .int (nI 0)), (0, .ref 1)] [] mm
    rw [show mm 2 3 = nI b from hb]
    refine pw_lvp [4, 3, 2, 1, 0] rfl ?_
    suffices lo : ∀ fx ix nb ax : Nat, ∀ al : Bool, ix + fx = 74 → nb ≤ ix → ax ≤ e → F_wd mm b e = pw_wdF mm b e fx ix nb ax al → pw_V x m_X2_wordThatStandsHere 0 Z 28 [(0, .ref 1), (1, .int (nI nb)), (2, .int (nI ax)), (3, .int (pw_b (al))), (4, .int (nI ix))] [] mm from lo 74 0 0 b true (by omega) (by omega) (by omega) (by unfold F_wd; rw [if_pos h8])
    intro fx
    induction fx with
    | zero =>
      intro ix nb ax al hix hnb hax hwd
      refine pw_blk (pc' := 34) [.iload 4, .getstatic 2, .arraylength] (by decide +kernel) ?_
      show pw_V x m_X2_wordThatStandsHere 0 Z 34 [(0, .ref 1), (1, .int (nI nb)), (2, .int (nI ax)), (3, .int (pw_b (al))), (4, .int (nI ix))] [.int (nI 74), .int (nI ix)] mm
      refine pw_in_ge (tgt := 128) (off := 94) (by omega) (by omega) (by decide +kernel) (by decide) (fun h34 => ?_) (fun h34 => ?_)
      · refine pw_blk (pc' := 129) [.iconst (-1)] (by decide +kernel) ?_
        show pw_V x m_X2_wordThatStandsHere 0 Z 129 [(0, .ref 1), (1, .int (nI nb)), (2, .int (nI ax)), (3, .int (pw_b (al))), (4, .int (nI ix))] [.int (-1)] mm
        rw [← hZ]
        refine pw_ri (by decide +kernel) ?_
        refine ⟨?_, rfl⟩
        rw [hwd]
        rfl
      · omega
    | succ fx ih =>
      intro ix nb ax al hix hnb hax hwd
      refine pw_blk (pc' := 34) [.iload 4, .getstatic 2, .arraylength] (by decide +kernel) ?_
      show pw_V x m_X2_wordThatStandsHere 0 Z 34 [(0, .ref 1), (1, .int (nI nb)), (2, .int (nI ax)), (3, .int (pw_b (al))), (4, .int (nI ix))] [.int (nI 74), .int (nI ix)] mm
      refine pw_in_ge (tgt := 128) (off := 94) (by omega) (by omega) (by decide +kernel) (by decide) (fun h34 => ?_) (fun h34 => ?_)
      · omega
      · refine pw_blk (pc' := 45) [.getstatic 2, .iload 4, .caload, .iconst (46)] (by decide +kernel) ?_
        refine ⟨rfl, ix, rfl, by omega, ?_⟩
        show pw_V x m_X2_wordThatStandsHere 0 Z 45 [(0, .ref 1), (1, .int (nI nb)), (2, .int (nI ax)), (3, .int (pw_b (al))), (4, .int (nI ix))] [.int (nI 46), .int (pw_k2 ix)] mm
        refine pw_ic_ne (tgt := 81) (off := 36) (by decide +kernel) (by decide) (fun h45 => ?_) (fun h45 => ?_)
        · refine pw_blk (pc' := 82) [.iload 3] (by decide +kernel) ?_
          show pw_V x m_X2_wordThatStandsHere 0 Z 82 [(0, .ref 1), (1, .int (nI nb)), (2, .int (nI ax)), (3, .int (pw_b (al))), (4, .int (nI ix))] [.int (pw_b (al))] mm
          refine pw_ib_eq (tgt := 120) (off := 38) (by decide +kernel) (by decide) (fun h82 => ?_) (fun h82 => ?_)
          · refine pw_blk (pc' := 125) [.iconst 0, .istore 3, .iinc 4 1] (by decide +kernel) ?_
            show pw_V x m_X2_wordThatStandsHere 0 Z 125 [(4, .int ((nI ix) + (nI 1))), (3, .int (nI 0)), (0, .ref 1), (1, .int (nI nb)), (2, .int (nI ax))] [] mm
            rw [show (nI ix) + (nI 1) = nI (ix + 1) from nI_add _ _]
            refine pw_goto (tgt := 28) (off := -97) (by decide +kernel) (by decide) ?_
            refine pw_lvp [2, 3, 4, 1, 0] rfl ?_
            refine ih (ix + 1) nb ax false ?_ ?_ ?_ (hwd.trans ?_) <;> first | omega | (simp only [pw_wdF]; simp [h45, h82])
          · refine pw_blk (pc' := 93) [.iload 2, .aload 0, .getfield 200, .getfield 304] (by decide +kernel) ?_
            show pw_V x m_X2_wordThatStandsHere 0 Z 93 [(0, .ref 1), (1, .int (nI nb)), (2, .int (nI ax)), (3, .int (pw_b (al))), (4, .int (nI ix))] [.int (mm 2 4), .int (nI ax)] mm
            rw [show mm 2 4 = nI e from he]
            refine pw_in_ge (tgt := 120) (off := 27) (by omega) (by omega) (by decide +kernel) (by decide) (fun h93 => ?_) (fun h93 => ?_)
            · refine pw_blk (pc' := 125) [.iconst 0, .istore 3, .iinc 4 1] (by decide +kernel) ?_
              show pw_V x m_X2_wordThatStandsHere 0 Z 125 [(4, .int ((nI ix) + (nI 1))), (3, .int (nI 0)), (0, .ref 1), (1, .int (nI nb)), (2, .int (nI ax))] [] mm
              rw [show (nI ix) + (nI 1) = nI (ix + 1) from nI_add _ _]
              refine pw_goto (tgt := 28) (off := -97) (by decide +kernel) (by decide) ?_
              refine pw_lvp [2, 3, 4, 1, 0] rfl ?_
              refine ih (ix + 1) nb ax false ?_ ?_ ?_ (hwd.trans ?_) <;> first | omega | (simp only [pw_wdF]; simp [h45, h82, Nat.not_lt.mpr h93])
            · refine pw_blk (pc' := 111) [.aload 0, .getfield 200, .getfield 300, .iload 2, .iaload, .getstatic 2, .iload 4, .caload] (by decide +kernel) ?_
              refine ⟨ax, rfl, by omega, ?_⟩
              refine ⟨rfl, ix, rfl, by omega, ?_⟩
              show pw_V x m_X2_wordThatStandsHere 0 Z 111 [(0, .ref 1), (1, .int (nI nb)), (2, .int (nI ax)), (3, .int (pw_b (al))), (4, .int (nI ix))] [.int (pw_k2 ix), .int (mm 3 ax)] mm
              refine pw_ic_ne (tgt := 120) (off := 9) (by decide +kernel) (by decide) (fun h111 => ?_) (fun h111 => ?_)
              · refine pw_blk (pc' := 125) [.iconst 0, .istore 3, .iinc 4 1] (by decide +kernel) ?_
                show pw_V x m_X2_wordThatStandsHere 0 Z 125 [(4, .int ((nI ix) + (nI 1))), (3, .int (nI 0)), (0, .ref 1), (1, .int (nI nb)), (2, .int (nI ax))] [] mm
                rw [show (nI ix) + (nI 1) = nI (ix + 1) from nI_add _ _]
                refine pw_goto (tgt := 28) (off := -97) (by decide +kernel) (by decide) ?_
                refine pw_lvp [2, 3, 4, 1, 0] rfl ?_
                refine ih (ix + 1) nb ax false ?_ ?_ ?_ (hwd.trans ?_) <;> first | omega | (simp only [pw_wdF]; simp [h45, h82, h93, h111])
              · refine pw_blk (pc' := 117) [.iinc 2 1] (by decide +kernel) ?_
                show pw_V x m_X2_wordThatStandsHere 0 Z 117 [(2, .int ((nI ax) + (nI 1))), (0, .ref 1), (1, .int (nI nb)), (3, .int (pw_b (al))), (4, .int (nI ix))] [] mm
                rw [show (nI ax) + (nI 1) = nI (ax + 1) from nI_add _ _]
                refine pw_goto (tgt := 122) (off := 5) (by decide +kernel) (by decide) ?_
                refine pw_blk (pc' := 125) [.iinc 4 1] (by decide +kernel) ?_
                show pw_V x m_X2_wordThatStandsHere 0 Z 125 [(4, .int ((nI ix) + (nI 1))), (2, .int (nI (ax + 1))), (0, .ref 1), (1, .int (nI nb)), (3, .int (pw_b (al)))] [] mm
                rw [show (nI ix) + (nI 1) = nI (ix + 1) from nI_add _ _]
                refine pw_goto (tgt := 28) (off := -97) (by decide +kernel) (by decide) ?_
                refine pw_lvp [2, 3, 1, 4, 0] rfl ?_
                refine ih (ix + 1) nb (ax + 1) al ?_ ?_ ?_ (hwd.trans ?_) <;> first | omega | (simp only [pw_wdF]; simp [h45, h82, h93, h111])
        · refine pw_blk (pc' := 49) [.iload 3] (by decide +kernel) ?_
          show pw_V x m_X2_wordThatStandsHere 0 Z 49 [(0, .ref 1), (1, .int (nI nb)), (2, .int (nI ax)), (3, .int (pw_b (al))), (4, .int (nI ix))] [.int (pw_b (al))] mm
          refine pw_ib_eq (tgt := 65) (off := 16) (by decide +kernel) (by decide) (fun h49 => ?_) (fun h49 => ?_)
          · refine pw_blk (pc' := 78) [.iinc 1 1, .aload 0, .getfield 200, .getfield 303, .istore 2, .iconst 1, .istore 3] (by decide +kernel) ?_
            show pw_V x m_X2_wordThatStandsHere 0 Z 78 [(3, .int (nI 1)), (2, .int (mm 2 3)), (1, .int ((nI nb) + (nI 1))), (0, .ref 1), (4, .int (nI ix))] [] mm
            rw [show mm 2 3 = nI b from hb]
            rw [show (nI nb) + (nI 1) = nI (nb + 1) from nI_add _ _]
            refine pw_goto (tgt := 122) (off := 44) (by decide +kernel) (by decide) ?_
            refine pw_blk (pc' := 125) [.iinc 4 1] (by decide +kernel) ?_
            show pw_V x m_X2_wordThatStandsHere 0 Z 125 [(4, .int ((nI ix) + (nI 1))), (3, .int (nI 1)), (2, .int (nI b)), (1, .int (nI (nb + 1))), (0, .ref 1)] [] mm
            rw [show (nI ix) + (nI 1) = nI (ix + 1) from nI_add _ _]
            refine pw_goto (tgt := 28) (off := -97) (by decide +kernel) (by decide) ?_
            refine pw_lvp [4, 3, 2, 1, 0] rfl ?_
            refine ih (ix + 1) (nb + 1) b true ?_ ?_ ?_ (hwd.trans ?_) <;> first | omega | (simp only [pw_wdF]; simp [h45, h49])
          · refine pw_blk (pc' := 60) [.iload 2, .aload 0, .getfield 200, .getfield 304] (by decide +kernel) ?_
            show pw_V x m_X2_wordThatStandsHere 0 Z 60 [(0, .ref 1), (1, .int (nI nb)), (2, .int (nI ax)), (3, .int (pw_b (al))), (4, .int (nI ix))] [.int (mm 2 4), .int (nI ax)] mm
            rw [show mm 2 4 = nI e from he]
            refine pw_in_ne (tgt := 65) (off := 5) (by omega) (by omega) (by decide +kernel) (by decide) (fun h60 => ?_) (fun h60 => ?_)
            · refine pw_blk (pc' := 78) [.iinc 1 1, .aload 0, .getfield 200, .getfield 303, .istore 2, .iconst 1, .istore 3] (by decide +kernel) ?_
              show pw_V x m_X2_wordThatStandsHere 0 Z 78 [(3, .int (nI 1)), (2, .int (mm 2 3)), (1, .int ((nI nb) + (nI 1))), (0, .ref 1), (4, .int (nI ix))] [] mm
              rw [show mm 2 3 = nI b from hb]
              rw [show (nI nb) + (nI 1) = nI (nb + 1) from nI_add _ _]
              refine pw_goto (tgt := 122) (off := 44) (by decide +kernel) (by decide) ?_
              refine pw_blk (pc' := 125) [.iinc 4 1] (by decide +kernel) ?_
              show pw_V x m_X2_wordThatStandsHere 0 Z 125 [(4, .int ((nI ix) + (nI 1))), (3, .int (nI 1)), (2, .int (nI b)), (1, .int (nI (nb + 1))), (0, .ref 1)] [] mm
              rw [show (nI ix) + (nI 1) = nI (ix + 1) from nI_add _ _]
              refine pw_goto (tgt := 28) (off := -97) (by decide +kernel) (by decide) ?_
              refine pw_lvp [4, 3, 2, 1, 0] rfl ?_
              refine ih (ix + 1) (nb + 1) b true ?_ ?_ ?_ (hwd.trans ?_) <;> first | omega | (simp only [pw_wdF]; simp [h45, h49, h60])
            · refine pw_blk (pc' := 64) [.iload 1] (by decide +kernel) ?_
              show pw_V x m_X2_wordThatStandsHere 0 Z 64 [(0, .ref 1), (1, .int (nI nb)), (2, .int (nI ax)), (3, .int (pw_b (al))), (4, .int (nI ix))] [.int (nI nb)] mm
              rw [← hZ]
              refine pw_ri (by decide +kernel) ?_
              refine ⟨?_, rfl⟩
              rw [hwd]
              simp only [pw_wdF]
              simp [h45, h49, h60]
              try rfl
  · refine pw_blk (pc' := 12) [.iconst (-1)] (by decide +kernel) ?_
    show pw_V x m_X2_wordThatStandsHere 0 Z 12 [(0, .ref 1)] [.int (-1)] mm
    rw [← hZ]
    refine pw_ri (by decide +kernel) ?_
    exact ⟨by simp [F_wd, h8]; try rfl, rfl⟩
end
section
def F_mf (A : pw_m) (w : Int32) : Int32 := if w = nI 0 then nI 8 else if w = nI 5 ∨ w = nI 6 ∨ w = nI 7 then nI 9 else if w = nI 8 ∨ w = nI 10 then A 1 3 - nI 1 else A 1 2 - nI 1
def F_ms (A : pw_m) (w : Int32) : Int32 := if w = nI 8 then A 1 3 - nI 1 else if w = nI 9 then nI 7 else nI 9

set_option maxHeartbeats 4000000 in
set_option maxRecDepth 100000 in
theorem c_mostSecond (w : Int32) (mm : pw_m) : pw_Ct 0 yX2_mostSecond m_X2_mostSecond [.ref 1, .int w] mm (fun r m' => r = some (.int (F_ms mm w)) ∧ m' = mm) := by
  refine pw_ct (by decide +kernel) rfl (Nat.le_of_ble_eq_true rfl) (fun x => ?_)
  generalize hZ : pw_Z x _ = Z
  show pw_V x m_X2_mostSecond 0 Z 0 [(0, .ref 1), (1, .int w)] [] mm
  refine pw_blk (pc' := 1) [.iload 1] (by decide +kernel) ?_
  show pw_V x m_X2_mostSecond 0 Z 1 [(0, .ref 1), (1, .int w)] [.int w] mm
  refine pw_lsw (dflt := 37) (ps := #[(8, 27), (9, 34)]) (len := 27) (by decide +kernel) (by decide) ?_
  by_cases h1_8 : w = nI 8
  · refine ⟨27, 28, by rw [h1_8]; rfl, by decide, ?_⟩
    subst h1_8
    refine pw_blk (pc' := 34) [.aload 0, .getfield 203, .iconst 1, .isub] (by decide +kernel) ?_
    show pw_V x m_X2_mostSecond 0 Z 34 [(0, .ref 1), (1, .int (nI 8))] [.int ((mm 1 3) - (nI 1))] mm
    rw [← hZ]
    refine pw_ri (by decide +kernel) ?_
    refine ⟨?_, rfl⟩
    simp [F_mf, F_ms, ]
    try first | rfl | decide
  by_cases h1_9 : w = nI 9
  · refine ⟨34, 35, by rw [h1_9]; rfl, by decide, ?_⟩
    subst h1_9
    refine pw_blk (pc' := 37) [.iconst (7)] (by decide +kernel) ?_
    show pw_V x m_X2_mostSecond 0 Z 37 [(0, .ref 1), (1, .int (nI 9))] [.int (nI 7)] mm
    rw [← hZ]
    refine pw_ri (by decide +kernel) ?_
    refine ⟨?_, rfl⟩
    simp [F_mf, F_ms, h1_8]
    try first | rfl | decide
  refine ⟨37, 38, by rw [show (#[(8, 27), (9, 34)] : Array (Int × Int)).toList = [(8, 27), (9, 34)] from rfl, lv_osw h1_8 (by decide), lv_osw h1_9 (by decide)]; rfl, by decide, ?_⟩
  refine pw_blk (pc' := 40) [.iconst (9)] (by decide +kernel) ?_
  show pw_V x m_X2_mostSecond 0 Z 40 [(0, .ref 1), (1, .int w)] [.int (nI 9)] mm
  rw [← hZ]
  refine pw_ri (by decide +kernel) ?_
  refine ⟨?_, rfl⟩
  simp [F_mf, F_ms, h1_8, h1_9]
  try first | rfl | decide

set_option maxHeartbeats 4000000 in
set_option maxRecDepth 100000 in
theorem c_mostFirst (w : Int32) (mm : pw_m) : pw_Ct 0 yX2_mostFirst m_X2_mostFirst [.ref 1, .int w] mm (fun r m' => r = some (.int (F_mf mm w)) ∧ m' = mm) := by
  refine pw_ct (by decide +kernel) rfl (Nat.le_of_ble_eq_true rfl) (fun x => ?_)
  generalize hZ : pw_Z x _ = Z
  show pw_V x m_X2_mostFirst 0 Z 0 [(0, .ref 1), (1, .int w)] [] mm
  refine pw_blk (pc' := 1) [.iload 1] (by decide +kernel) ?_
  show pw_V x m_X2_mostFirst 0 Z 1 [(0, .ref 1), (1, .int w)] [.int w] mm
  refine pw_tsw (tgt := 73) (dflt := 72) (lo := 0) (hi := 10) (offs := #[59, 72, 72, 72, 72, 62, 62, 62, 65, 72, 65]) (len := 59) (by decide +kernel) (by decide) (fun h1 => ?_) (fun j hj h1 => ?_)
  · have e1_0 : ¬ w = nI 0 := fun q => by rw [q] at h1; revert h1; decide
    have e1_1 : ¬ w = nI 1 := fun q => by rw [q] at h1; revert h1; decide
    have e1_2 : ¬ w = nI 2 := fun q => by rw [q] at h1; revert h1; decide
    have e1_3 : ¬ w = nI 3 := fun q => by rw [q] at h1; revert h1; decide
    have e1_4 : ¬ w = nI 4 := fun q => by rw [q] at h1; revert h1; decide
    have e1_5 : ¬ w = nI 5 := fun q => by rw [q] at h1; revert h1; decide
    have e1_6 : ¬ w = nI 6 := fun q => by rw [q] at h1; revert h1; decide
    have e1_7 : ¬ w = nI 7 := fun q => by rw [q] at h1; revert h1; decide
    have e1_8 : ¬ w = nI 8 := fun q => by rw [q] at h1; revert h1; decide
    have e1_9 : ¬ w = nI 9 := fun q => by rw [q] at h1; revert h1; decide
    have e1_10 : ¬ w = nI 10 := fun q => by rw [q] at h1; revert h1; decide
    refine pw_blk (pc' := 79) [.aload 0, .getfield 202, .iconst 1, .isub] (by decide +kernel) ?_
    show pw_V x m_X2_mostFirst 0 Z 79 [(0, .ref 1), (1, .int w)] [.int ((mm 1 2) - (nI 1))] mm
    rw [← hZ]
    refine pw_ri (by decide +kernel) ?_
    refine ⟨?_, rfl⟩
    simp [F_mf, F_ms, e1_0, e1_1, e1_2, e1_3, e1_4, e1_5, e1_6, e1_7, e1_8, e1_9, e1_10]
    try first | rfl | decide
  · match j, hj, h1 with
    | 0, hj, h1 =>
      refine ⟨59, 60, rfl, by decide, ?_⟩
      have e1 : w = nI 0 := Int32.toInt_inj.mp (by rw [h1]; rfl)
      subst e1
      refine pw_blk (pc' := 62) [.iconst (8)] (by decide +kernel) ?_
      show pw_V x m_X2_mostFirst 0 Z 62 [(0, .ref 1), (1, .int (nI 0))] [.int (nI 8)] mm
      rw [← hZ]
      refine pw_ri (by decide +kernel) ?_
      refine ⟨?_, rfl⟩
      simp [F_mf, F_ms, ]
      try first | rfl | decide
    | 1, hj, h1 =>
      refine ⟨72, 73, rfl, by decide, ?_⟩
      have e1 : w = nI 1 := Int32.toInt_inj.mp (by rw [h1]; rfl)
      subst e1
      refine pw_blk (pc' := 79) [.aload 0, .getfield 202, .iconst 1, .isub] (by decide +kernel) ?_
      show pw_V x m_X2_mostFirst 0 Z 79 [(0, .ref 1), (1, .int (nI 1))] [.int ((mm 1 2) - (nI 1))] mm
      rw [← hZ]
      refine pw_ri (by decide +kernel) ?_
      refine ⟨?_, rfl⟩
      simp [F_mf, F_ms, ]
      try first | rfl | decide
    | 2, hj, h1 =>
      refine ⟨72, 73, rfl, by decide, ?_⟩
      have e1 : w = nI 2 := Int32.toInt_inj.mp (by rw [h1]; rfl)
      subst e1
      refine pw_blk (pc' := 79) [.aload 0, .getfield 202, .iconst 1, .isub] (by decide +kernel) ?_
      show pw_V x m_X2_mostFirst 0 Z 79 [(0, .ref 1), (1, .int (nI 2))] [.int ((mm 1 2) - (nI 1))] mm
      rw [← hZ]
      refine pw_ri (by decide +kernel) ?_
      refine ⟨?_, rfl⟩
      simp [F_mf, F_ms, ]
      try first | rfl | decide
    | 3, hj, h1 =>
      refine ⟨72, 73, rfl, by decide, ?_⟩
      have e1 : w = nI 3 := Int32.toInt_inj.mp (by rw [h1]; rfl)
      subst e1
      refine pw_blk (pc' := 79) [.aload 0, .getfield 202, .iconst 1, .isub] (by decide +kernel) ?_
      show pw_V x m_X2_mostFirst 0 Z 79 [(0, .ref 1), (1, .int (nI 3))] [.int ((mm 1 2) - (nI 1))] mm
      rw [← hZ]
      refine pw_ri (by decide +kernel) ?_
      refine ⟨?_, rfl⟩
      simp [F_mf, F_ms, ]
      try first | rfl | decide
    | 4, hj, h1 =>
      refine ⟨72, 73, rfl, by decide, ?_⟩
      have e1 : w = nI 4 := Int32.toInt_inj.mp (by rw [h1]; rfl)
      subst e1
      refine pw_blk (pc' := 79) [.aload 0, .getfield 202, .iconst 1, .isub] (by decide +kernel) ?_
      show pw_V x m_X2_mostFirst 0 Z 79 [(0, .ref 1), (1, .int (nI 4))] [.int ((mm 1 2) - (nI 1))] mm
      rw [← hZ]
      refine pw_ri (by decide +kernel) ?_
      refine ⟨?_, rfl⟩
      simp [F_mf, F_ms, ]
      try first | rfl | decide
    | 5, hj, h1 =>
      refine ⟨62, 63, rfl, by decide, ?_⟩
      have e1 : w = nI 5 := Int32.toInt_inj.mp (by rw [h1]; rfl)
      subst e1
      refine pw_blk (pc' := 65) [.iconst (9)] (by decide +kernel) ?_
      show pw_V x m_X2_mostFirst 0 Z 65 [(0, .ref 1), (1, .int (nI 5))] [.int (nI 9)] mm
      rw [← hZ]
      refine pw_ri (by decide +kernel) ?_
      refine ⟨?_, rfl⟩
      simp [F_mf, F_ms, ]
      try first | rfl | decide
    | 6, hj, h1 =>
      refine ⟨62, 63, rfl, by decide, ?_⟩
      have e1 : w = nI 6 := Int32.toInt_inj.mp (by rw [h1]; rfl)
      subst e1
      refine pw_blk (pc' := 65) [.iconst (9)] (by decide +kernel) ?_
      show pw_V x m_X2_mostFirst 0 Z 65 [(0, .ref 1), (1, .int (nI 6))] [.int (nI 9)] mm
      rw [← hZ]
      refine pw_ri (by decide +kernel) ?_
      refine ⟨?_, rfl⟩
      simp [F_mf, F_ms, ]
      try first | rfl | decide
    | 7, hj, h1 =>
      refine ⟨62, 63, rfl, by decide, ?_⟩
      have e1 : w = nI 7 := Int32.toInt_inj.mp (by rw [h1]; rfl)
      subst e1
      refine pw_blk (pc' := 65) [.iconst (9)] (by decide +kernel) ?_
      show pw_V x m_X2_mostFirst 0 Z 65 [(0, .ref 1), (1, .int (nI 7))] [.int (nI 9)] mm
      rw [← hZ]
      refine pw_ri (by decide +kernel) ?_
      refine ⟨?_, rfl⟩
      simp [F_mf, F_ms, ]
      try first | rfl | decide
    | 8, hj, h1 =>
      refine ⟨65, 66, rfl, by decide, ?_⟩
      have e1 : w = nI 8 := Int32.toInt_inj.mp (by rw [h1]; rfl)
      subst e1
      refine pw_blk (pc' := 72) [.aload 0, .getfield 203, .iconst 1, .isub] (by decide +kernel) ?_
      show pw_V x m_X2_mostFirst 0 Z 72 [(0, .ref 1), (1, .int (nI 8))] [.int ((mm 1 3) - (nI 1))] mm
      rw [← hZ]
      refine pw_ri (by decide +kernel) ?_
      refine ⟨?_, rfl⟩
      simp [F_mf, F_ms, ]
      try first | rfl | decide
    | 9, hj, h1 =>
      refine ⟨72, 73, rfl, by decide, ?_⟩
      have e1 : w = nI 9 := Int32.toInt_inj.mp (by rw [h1]; rfl)
      subst e1
      refine pw_blk (pc' := 79) [.aload 0, .getfield 202, .iconst 1, .isub] (by decide +kernel) ?_
      show pw_V x m_X2_mostFirst 0 Z 79 [(0, .ref 1), (1, .int (nI 9))] [.int ((mm 1 2) - (nI 1))] mm
      rw [← hZ]
      refine pw_ri (by decide +kernel) ?_
      refine ⟨?_, rfl⟩
      simp [F_mf, F_ms, ]
      try first | rfl | decide
    | 10, hj, h1 =>
      refine ⟨65, 66, rfl, by decide, ?_⟩
      have e1 : w = nI 10 := Int32.toInt_inj.mp (by rw [h1]; rfl)
      subst e1
      refine pw_blk (pc' := 72) [.aload 0, .getfield 203, .iconst 1, .isub] (by decide +kernel) ?_
      show pw_V x m_X2_mostFirst 0 Z 72 [(0, .ref 1), (1, .int (nI 10))] [.int ((mm 1 3) - (nI 1))] mm
      rw [← hZ]
      refine pw_ri (by decide +kernel) ?_
      refine ⟨?_, rfl⟩
      simp [F_mf, F_ms, ]
      try first | rfl | decide
    | j + 11, hj, h1 => exact absurd hj (by omega)
end
section
def G_ns (A : pw_m) (s : Nat) (q v : Int32) : pw_m := pw_up (pw_up A 5 s q) 6 s v
def G_ak (A : pw_m) (k : Nat) (q r h : Int32) : pw_m := pw_up (pw_up (pw_up (pw_up A 7 k q) 8 k r) 9 k h) 4 1 (nI (k + 1))

set_option maxHeartbeats 4000000 in
set_option maxRecDepth 100000 in
theorem c_addKnight (q r h : Int32) (mm : pw_m) (kx : Nat) (hk : mm 4 1 = nI kx) (hk6 : kx < 6) : pw_Ct 0 yX5_addKnight m_X5_addKnight [.ref 4, .int q, .int r, .int h] mm (fun r' m' => r' = none ∧ m' = G_ak mm kx q r h) := by
  refine pw_ct (by decide +kernel) rfl (Nat.le_of_ble_eq_true rfl) (fun x => ?_)
  generalize hZ : pw_Z x _ = Z
  show pw_V x m_X5_addKnight 0 Z 0 [(0, .ref 4), (1, .int q), (2, .int r), (3, .int h)] [] mm
  refine pw_blk (pc' := 6) [.aload 0, .getfield 501, .iconst (6)] (by decide +kernel) ?_
  show pw_V x m_X5_addKnight 0 Z 6 [(0, .ref 4), (1, .int q), (2, .int r), (3, .int h)] [.int (nI 6), .int (mm 4 1)] mm
  rw [show mm 4 1 = nI kx from hk]
  refine pw_in_ge (tgt := 49) (off := 43) (by omega) (by omega) (by decide +kernel) (by decide) (fun h6 => ?_) (fun h6 => ?_)
  · omega
  · refine pw_blk (pc' := 49) [.aload 0, .getfield 504, .aload 0, .getfield 501, .iload 1, .iastore, .aload 0, .getfield 505, .aload 0, .getfield 501, .iload 2, .iastore, .aload 0, .getfield 506, .aload 0, .getfield 501, .iload 3, .iastore, .aload 0, .dup, .getfield 501, .iconst 1, .iadd, .putfield 501] (by decide +kernel) ?_
    refine ⟨kx, (show mm 4 1 = nI kx from by rw [show mm 4 1 = nI kx from hk]), by omega, ?_⟩
    refine ⟨kx, (show mm 4 1 = nI kx from by rw [show mm 4 1 = nI kx from hk]), by omega, ?_⟩
    refine ⟨kx, (show mm 4 1 = nI kx from by rw [show mm 4 1 = nI kx from hk]), by omega, ?_⟩
    show pw_V x m_X5_addKnight 0 Z 49 [(0, .ref 4), (1, .int q), (2, .int r), (3, .int h)] [] (pw_up (pw_up (pw_up (pw_up mm 7 kx q) 8 kx r) 9 kx h) 4 1 ((mm 4 1) + (nI 1)))
    rw [show mm 4 1 = nI kx from hk]
    rw [show (nI kx) + (nI 1) = nI (kx + 1) from nI_add _ _]
    rw [← hZ]
    refine pw_rv (by decide +kernel) ?_
    exact ⟨rfl, rfl⟩

set_option maxHeartbeats 4000000 in
set_option maxRecDepth 100000 in
theorem c_nameSeat (sx : Nat) (q v : Int32) (mm : pw_m) (nx : Nat) (hn : mm 4 0 = nI nx) (hn8 : nx ≤ 8) (hs : sx < nx) : pw_Ct 0 yX5_nameSeat m_X5_nameSeat [.ref 4, .int (nI sx), .int q, .int v] mm (fun r' m' => r' = none ∧ m' = G_ns mm sx q v) := by
  refine pw_ct (by decide +kernel) rfl (Nat.le_of_ble_eq_true rfl) (fun x => ?_)
  generalize hZ : pw_Z x _ = Z
  show pw_V x m_X5_nameSeat 0 Z 0 [(0, .ref 4), (1, .int (nI sx)), (2, .int q), (3, .int v)] [] mm
  refine pw_blk (pc' := 1) [.iload 1] (by decide +kernel) ?_
  show pw_V x m_X5_nameSeat 0 Z 1 [(0, .ref 4), (1, .int (nI sx)), (2, .int q), (3, .int v)] [.int (nI sx)] mm
  refine pw_iz_lt (tgt := 26) (off := 25) (by omega) (by decide +kernel) (by decide) ?_
  refine pw_blk (pc' := 9) [.iload 1, .aload 0, .getfield 500] (by decide +kernel) ?_
  show pw_V x m_X5_nameSeat 0 Z 9 [(0, .ref 4), (1, .int (nI sx)), (2, .int q), (3, .int v)] [.int (mm 4 0), .int (nI sx)] mm
  rw [show mm 4 0 = nI nx from hn]
  refine pw_in_ge (tgt := 26) (off := 17) (by omega) (by omega) (by decide +kernel) (by decide) (fun h9 => ?_) (fun h9 => ?_)
  · omega
  · refine pw_blk (pc' := 26) [.aload 0, .getfield 502, .iload 1, .iload 2, .iastore, .aload 0, .getfield 503, .iload 1, .iload 3, .iastore] (by decide +kernel) ?_
    refine ⟨sx, rfl, by omega, ?_⟩
    refine ⟨sx, rfl, by omega, ?_⟩
    show pw_V x m_X5_nameSeat 0 Z 26 [(0, .ref 4), (1, .int (nI sx)), (2, .int q), (3, .int v)] [] (pw_up (pw_up mm 5 sx q) 6 sx v)
    rw [← hZ]
    refine pw_rv (by decide +kernel) ?_
    exact ⟨rfl, rfl⟩

def pw_zI (A : pw_m) (c : Nat) : Nat → pw_m
  | 0 => A
  | i + 1 => pw_up (pw_zI A c i) c i (nI 0)
def pw_zJ (A : pw_m) : Nat → pw_m
  | 0 => A
  | i + 1 => pw_up (pw_up (pw_zJ A i) 5 i (nI 0)) 6 i (nI 0)

set_option maxHeartbeats 4000000 in
set_option maxRecDepth 100000 in
theorem c_makePeace (mm : pw_m) : pw_Ct 0 yX5_makePeace m_X5_makePeace [.ref 4] mm (fun r' m' => r' = none ∧ m' = pw_zI mm 10 6) := by
  refine pw_ct (by decide +kernel) rfl (Nat.le_of_ble_eq_true rfl) (fun x => ?_)
  generalize hZ : pw_Z x _ = Z
  show pw_V x m_X5_makePeace 0 Z 0 [(0, .ref 4)] [] mm
  refine pw_blk (pc' := 2) [.iconst 0, .istore 1] (by decide +kernel) ?_
  show pw_V x m_X5_makePeace 0 Z 2 [(1, .int (nI 0)), (0, .ref 4)] [] mm
  refine pw_lvp [1, 0] rfl ?_
  suffices lo : ∀ ix : Nat, ix ≤ 6 → pw_V x m_X5_makePeace 0 Z 2 [(0, .ref 4), (1, .int (nI ix))] [] (pw_zI mm 10 ix) from lo 0 (by omega)
  refine pw_dn 6 (fun ix hix ih => ?_)
  refine pw_blk (pc' := 5) [.iload 1, .iconst (6)] (by decide +kernel) ?_
  show pw_V x m_X5_makePeace 0 Z 5 [(0, .ref 4), (1, .int (nI ix))] [.int (nI 6), .int (nI ix)] (pw_zI mm 10 ix)
  refine pw_in_ge (tgt := 21) (off := 16) (by omega) (by omega) (by decide +kernel) (by decide) (fun h5 => ?_) (fun h5 => ?_)
  · rw [← hZ]
    refine pw_rv (by decide +kernel) ?_
    exact ⟨rfl, by rw [show ix = 6 by omega]⟩
  · refine pw_blk (pc' := 18) [.aload 0, .getfield 507, .iload 1, .iconst 0, .iastore, .iinc 1 1] (by decide +kernel) ?_
    refine ⟨ix, rfl, by omega, ?_⟩
    show pw_V x m_X5_makePeace 0 Z 18 [(1, .int ((nI ix) + (nI 1))), (0, .ref 4)] [] (pw_up (pw_zI mm 10 ix) 10 ix (nI 0))
    rw [show (nI ix) + (nI 1) = nI (ix + 1) from nI_add _ _]
    refine pw_goto (tgt := 2) (off := -16) (by decide +kernel) (by decide) ?_
    refine pw_lvp [1, 0] rfl ?_
    exact ih (by omega)

def G_lay (A : pw_m) (n : Int32) : pw_m := pw_up (pw_up (pw_up (pw_zI (pw_zJ (pw_up (pw_up A 4 0 n) 4 1 (nI 0)) 8) 10 6) 4 8 (nI 0)) 4 9 (nI 0)) 4 10 (-1)

set_option maxHeartbeats 4000000 in
set_option maxRecDepth 100000 in
theorem c_layTable (nn : Int32) (mm : pw_m) : pw_Ct 1 yX5_layTable m_X5_layTable [.ref 4, .int nn] mm (fun r' m' => r' = none ∧ m' = G_lay mm nn) := by
  refine pw_ct (by decide +kernel) rfl (Nat.le_of_ble_eq_true rfl) (fun x => ?_)
  generalize hZ : pw_Z x _ = Z
  show pw_V x m_X5_layTable 1 Z 0 [(0, .ref 4), (1, .int nn)] [] mm
  refine pw_blk (pc' := 12) [.aload 0, .iload 1, .putfield 500, .aload 0, .iconst 0, .putfield 501, .iconst 0, .istore 2] (by decide +kernel) ?_
  show pw_V x m_X5_layTable 1 Z 12 [(2, .int (nI 0)), (0, .ref 4), (1, .int nn)] [] (pw_up (pw_up mm 4 0 nn) 4 1 (nI 0))
  refine pw_lvp [1, 2, 0] rfl ?_
  suffices lo : ∀ ix : Nat, ix ≤ 8 → pw_V x m_X5_layTable 1 Z 12 [(0, .ref 4), (1, .int nn), (2, .int (nI ix))] [] (pw_zJ (pw_up (pw_up mm 4 0 nn) 4 1 (nI 0)) ix) from lo 0 (by omega)
  refine pw_dn 8 (fun ix hix ih => ?_)
  refine pw_blk (pc' := 15) [.iload 2, .iconst (8)] (by decide +kernel) ?_
  show pw_V x m_X5_layTable 1 Z 15 [(0, .ref 4), (1, .int nn), (2, .int (nI ix))] [.int (nI 8), .int (nI ix)] (pw_zJ (pw_up (pw_up mm 4 0 nn) 4 1 (nI 0)) ix)
  refine pw_in_ge (tgt := 38) (off := 23) (by omega) (by omega) (by decide +kernel) (by decide) (fun h15 => ?_) (fun h15 => ?_)
  · refine pw_blk (pc' := 39) [.aload 0] (by decide +kernel) ?_
    show pw_V x m_X5_layTable 1 Z 39 [(0, .ref 4), (1, .int nn), (2, .int (nI ix))] [.ref 4] (pw_zJ (pw_up (pw_up mm 4 0 nn) 4 1 (nI 0)) ix)
    refine pw_cV (vs := []) (rest := []) k_X5_makePeace (c_makePeace (pw_zJ (pw_up (pw_up mm 4 0 nn) 4 1 (nI 0)) ix)) l_5_55 rfl rfl rfl rfl (by omega) (Nat.le_of_ble_eq_true rfl) (by decide +kernel) ?_
    rintro _ m1 ⟨rfl, e1⟩
    rw [e1]
    clear e1 m1
    show pw_V x m_X5_layTable 1 Z 42 [(0, .ref 4), (1, .int nn), (2, .int (nI ix))] [] (pw_zI (pw_zJ (pw_up (pw_up mm 4 0 nn) 4 1 (nI 0)) ix) 10 6)
    refine pw_blk (pc' := 57) [.aload 0, .iconst 0, .putfield 508, .aload 0, .iconst 0, .putfield 509, .aload 0, .iconst (-1), .putfield 510] (by decide +kernel) ?_
    show pw_V x m_X5_layTable 1 Z 57 [(0, .ref 4), (1, .int nn), (2, .int (nI ix))] [] (pw_up (pw_up (pw_up (pw_zI (pw_zJ (pw_up (pw_up mm 4 0 nn) 4 1 (nI 0)) ix) 10 6) 4 8 (nI 0)) 4 9 (nI 0)) 4 10 (-1))
    rw [← hZ]
    refine pw_rv (by decide +kernel) ?_
    exact ⟨rfl, by unfold G_lay; rw [show ix = 8 by omega]⟩
  · refine pw_blk (pc' := 35) [.aload 0, .getfield 502, .iload 2, .iconst 0, .iastore, .aload 0, .getfield 503, .iload 2, .iconst 0, .iastore, .iinc 2 1] (by decide +kernel) ?_
    refine ⟨ix, rfl, by omega, ?_⟩
    refine ⟨ix, rfl, by omega, ?_⟩
    show pw_V x m_X5_layTable 1 Z 35 [(2, .int ((nI ix) + (nI 1))), (0, .ref 4), (1, .int nn)] [] (pw_up (pw_up (pw_zJ (pw_up (pw_up mm 4 0 nn) 4 1 (nI 0)) ix) 5 ix (nI 0)) 6 ix (nI 0))
    rw [show (nI ix) + (nI 1) = nI (ix + 1) from nI_add _ _]
    refine pw_goto (tgt := 12) (off := -23) (by decide +kernel) (by decide) ?_
    refine pw_lvp [1, 2, 0] rfl ?_
    exact ih (by omega)

def G_me1 (A : pw_m) (a b : Nat) : pw_m := pw_up A 10 a (A 10 a ||| nI (2 ^ b))
def G_me (A : pw_m) (a b : Nat) : pw_m := G_me1 (G_me1 A a b) b a

set_option maxHeartbeats 4000000 in
set_option maxRecDepth 100000 in
theorem c_makeEnemies (ax bx : Nat) (mm : pw_m) (kx : Nat) (hk : mm 4 1 = nI kx) (hk6 : kx ≤ 6) (ha : ax < kx) (hb : bx < kx) : pw_Ct 0 yX5_makeEnemies m_X5_makeEnemies [.ref 4, .int (nI ax), .int (nI bx)] mm (fun r' m' => r' = none ∧ m' = G_me mm ax bx) := by
  refine pw_ct (by decide +kernel) rfl (Nat.le_of_ble_eq_true rfl) (fun x => ?_)
  generalize hZ : pw_Z x _ = Z
  show pw_V x m_X5_makeEnemies 0 Z 0 [(0, .ref 4), (1, .int (nI ax)), (2, .int (nI bx))] [] mm
  refine pw_blk (pc' := 1) [.iload 1] (by decide +kernel) ?_
  show pw_V x m_X5_makeEnemies 0 Z 1 [(0, .ref 4), (1, .int (nI ax)), (2, .int (nI bx))] [.int (nI ax)] mm
  refine pw_iz_lt (tgt := 48) (off := 47) (by omega) (by decide +kernel) (by decide) ?_
  refine pw_blk (pc' := 9) [.iload 1, .aload 0, .getfield 501] (by decide +kernel) ?_
  show pw_V x m_X5_makeEnemies 0 Z 9 [(0, .ref 4), (1, .int (nI ax)), (2, .int (nI bx))] [.int (mm 4 1), .int (nI ax)] mm
  rw [show mm 4 1 = nI kx from hk]
  refine pw_in_ge (tgt := 48) (off := 39) (by omega) (by omega) (by decide +kernel) (by decide) (fun h9 => ?_) (fun h9 => ?_)
  · omega
  · refine pw_blk (pc' := 13) [.iload 2] (by decide +kernel) ?_
    show pw_V x m_X5_makeEnemies 0 Z 13 [(0, .ref 4), (1, .int (nI ax)), (2, .int (nI bx))] [.int (nI bx)] mm
    refine pw_iz_lt (tgt := 48) (off := 35) (by omega) (by decide +kernel) (by decide) ?_
    refine pw_blk (pc' := 21) [.iload 2, .aload 0, .getfield 501] (by decide +kernel) ?_
    show pw_V x m_X5_makeEnemies 0 Z 21 [(0, .ref 4), (1, .int (nI ax)), (2, .int (nI bx))] [.int (mm 4 1), .int (nI bx)] mm
    rw [show mm 4 1 = nI kx from hk]
    refine pw_in_ge (tgt := 48) (off := 27) (by omega) (by omega) (by decide +kernel) (by decide) (fun h21 => ?_) (fun h21 => ?_)
    · omega
    · refine pw_blk (pc' := 36) [.aload 0, .getfield 507, .iload 1, .dup2, .iaload, .iconst 1, .iload 2, .ishl, .ior, .iastore] (by decide +kernel) ?_
      refine ⟨ax, rfl, by omega, ?_⟩
      refine ⟨ax, rfl, by omega, ?_⟩
      show pw_V x m_X5_makeEnemies 0 Z 36 [(0, .ref 4), (1, .int (nI ax)), (2, .int (nI bx))] [] (pw_up mm 10 ax ((mm 10 ax) ||| ((nI 1) <<< ((nI bx) &&& 31))))
      rw [show (nI 1) <<< ((nI bx) &&& 31) = nI (2 ^ bx) from pw_shl1 (by omega)]
      show pw_V x m_X5_makeEnemies 0 Z 36 [(0, .ref 4), (1, .int (nI ax)), (2, .int (nI bx))] [] (G_me1 mm ax bx)
      refine pw_blk (pc' := 48) [.aload 0, .getfield 507, .iload 2, .dup2, .iaload, .iconst 1, .iload 1, .ishl, .ior, .iastore] (by decide +kernel) ?_
      refine ⟨bx, rfl, by omega, ?_⟩
      refine ⟨bx, rfl, by omega, ?_⟩
      show pw_V x m_X5_makeEnemies 0 Z 48 [(0, .ref 4), (1, .int (nI ax)), (2, .int (nI bx))] [] (pw_up (G_me1 mm ax bx) 10 bx (((G_me1 mm ax bx) 10 bx) ||| ((nI 1) <<< ((nI ax) &&& 31))))
      rw [show (nI 1) <<< ((nI ax) &&& 31) = nI (2 ^ ax) from pw_shl1 (by omega)]
      rw [← hZ]
      refine pw_rv (by decide +kernel) ?_
      exact ⟨rfl, rfl⟩
end
section
def G_ob (A : pw_m) (w : Nat) (a b : Int32) : pw_m :=
  if w = 0 then G_lay A a else if w = 1 then G_ns A (pw_c a) (nI 1) b else if w = 2 then G_ns A (pw_c a) (nI 2) b else if w = 3 then G_ns A (pw_c a) (nI 3) b else if w = 4 then G_ns A (pw_c a) (nI 4) (nI 0)
  else if w = 5 then G_ak A (pw_c (A 4 1)) (nI 0) a b else if w = 6 then G_ak A (pw_c (A 4 1)) (nI 1) a b else if w = 7 then G_ak A (pw_c (A 4 1)) (nI 2) a b
  else if w = 8 then G_me A (pw_c a) (pw_c b) else if w = 9 then pw_up (pw_up A 4 8 a) 4 9 b else if w = 10 then pw_up A 4 10 a else pw_zI A 10 6

set_option maxHeartbeats 4000000 in
set_option maxRecDepth 100000 in
theorem c_obey (wx : Nat) (hw : wx < 12) (a b : Int32) (mm : pw_m) (nx kx : Nat) (hn : mm 4 0 = nI nx) (hn8 : nx ≤ 8) (hk : mm 4 1 = nI kx) (hk6 : kx ≤ 6) (h1s : 1 ≤ wx → wx ≤ 4 → ∃ sx, a = nI sx ∧ sx < nx) (h2s : 5 ≤ wx → wx ≤ 7 → kx < 6) (h3s : wx = 8 → ∃ ax bx, a = nI ax ∧ b = nI bx ∧ ax < kx ∧ bx < kx) : pw_Ct 2 yX5_obey m_X5_obey [.ref 4, .int (nI wx), .int a, .int b] mm (fun r' m' => r' = none ∧ m' = G_ob mm wx a b) := by
  refine pw_ct (by decide +kernel) rfl (Nat.le_of_ble_eq_true rfl) (fun x => ?_)
  generalize hZ : pw_Z x _ = Z
  show pw_V x m_X5_obey 2 Z 0 [(0, .ref 4), (1, .int (nI wx)), (2, .int a), (3, .int b)] [] mm
  refine pw_blk (pc' := 1) [.iload 1] (by decide +kernel) ?_
  show pw_V x m_X5_obey 2 Z 1 [(0, .ref 4), (1, .int (nI wx)), (2, .int a), (3, .int b)] [.int (nI wx)] mm
  refine pw_tsw (tgt := 168) (dflt := 167) (lo := 0) (hi := 10) (offs := #[59, 67, 77, 87, 97, 107, 117, 127, 137, 146, 159]) (len := 59) (by decide +kernel) (by decide) (fun h1 => ?_) (fun j hj h1 => ?_)
  · have n1_0 : ¬ wx = 0 := fun q => by rw [q] at h1; revert h1; decide
    have n1_1 : ¬ wx = 1 := fun q => by rw [q] at h1; revert h1; decide
    have n1_2 : ¬ wx = 2 := fun q => by rw [q] at h1; revert h1; decide
    have n1_3 : ¬ wx = 3 := fun q => by rw [q] at h1; revert h1; decide
    have n1_4 : ¬ wx = 4 := fun q => by rw [q] at h1; revert h1; decide
    have n1_5 : ¬ wx = 5 := fun q => by rw [q] at h1; revert h1; decide
    have n1_6 : ¬ wx = 6 := fun q => by rw [q] at h1; revert h1; decide
    have n1_7 : ¬ wx = 7 := fun q => by rw [q] at h1; revert h1; decide
    have n1_8 : ¬ wx = 8 := fun q => by rw [q] at h1; revert h1; decide
    have n1_9 : ¬ wx = 9 := fun q => by rw [q] at h1; revert h1; decide
    have n1_10 : ¬ wx = 10 := fun q => by rw [q] at h1; revert h1; decide
    refine pw_blk (pc' := 169) [.aload 0] (by decide +kernel) ?_
    show pw_V x m_X5_obey 2 Z 169 [(0, .ref 4), (1, .int (nI wx)), (2, .int a), (3, .int b)] [.ref 4] mm
    refine pw_cV (vs := []) (rest := []) k_X5_makePeace (c_makePeace mm) l_5_55 rfl rfl rfl rfl (by omega) (Nat.le_of_ble_eq_true rfl) (by decide +kernel) ?_
    rintro _ m1 ⟨rfl, e1⟩
    rw [e1]
    clear e1 m1
    show pw_V x m_X5_obey 2 Z 172 [(0, .ref 4), (1, .int (nI wx)), (2, .int a), (3, .int b)] [] (pw_zI mm 10 6)
    rw [← hZ]
    refine pw_rv (by decide +kernel) ?_
    refine ⟨rfl, ?_⟩
    have ck : pw_c (nI kx) = kx := pw_c_nI (by omega)
    unfold G_ob
    simp [hk, ck, n1_0, n1_1, n1_2, n1_3, n1_4, n1_5, n1_6, n1_7, n1_8, n1_9, n1_10]
    try (first | rfl | (rw [pw_c_nI (by omega)]; done) | (rw [pw_c_nI (by omega), pw_c_nI (by omega)]; done))
  · match j, hj, h1 with
    | 0, hj, h1 =>
      refine ⟨59, 60, rfl, by decide, ?_⟩
      have e1 : nI wx = nI 0 := Int32.toInt_inj.mp (by rw [h1]; rfl)
      have n1 : wx = 0 := (nI_eq (by omega) (by omega)).mp e1
      refine pw_blk (pc' := 62) [.aload 0, .iload 2] (by decide +kernel) ?_
      show pw_V x m_X5_obey 2 Z 62 [(0, .ref 4), (1, .int (nI wx)), (2, .int a), (3, .int b)] [.int a, .ref 4] mm
      refine pw_cV (vs := [.int a]) (rest := []) k_X5_layTable (c_layTable a mm) l_5_34 rfl rfl rfl rfl (by omega) (Nat.le_of_ble_eq_true rfl) (by decide +kernel) ?_
      rintro _ m1 ⟨rfl, e1⟩
      rw [e1]
      clear e1 m1
      show pw_V x m_X5_obey 2 Z 65 [(0, .ref 4), (1, .int (nI wx)), (2, .int a), (3, .int b)] [] (G_lay mm a)
      refine pw_goto (tgt := 172) (off := 107) (by decide +kernel) (by decide) ?_
      rw [← hZ]
      refine pw_rv (by decide +kernel) ?_
      refine ⟨rfl, ?_⟩
      have ck : pw_c (nI kx) = kx := pw_c_nI (by omega)
      unfold G_ob
      simp [hk, ck, n1]
      try (first | rfl | (rw [pw_c_nI (by omega)]; done) | (rw [pw_c_nI (by omega), pw_c_nI (by omega)]; done))
    | 1, hj, h1 =>
      refine ⟨67, 68, rfl, by decide, ?_⟩
      have e1 : nI wx = nI 1 := Int32.toInt_inj.mp (by rw [h1]; rfl)
      have n1 : wx = 1 := (nI_eq (by omega) (by omega)).mp e1
      obtain ⟨sx, ea, hs⟩ := h1s (by omega) (by omega)
      subst ea
      refine pw_blk (pc' := 72) [.aload 0, .iload 2, .iconst 1, .iload 3] (by decide +kernel) ?_
      show pw_V x m_X5_obey 2 Z 72 [(0, .ref 4), (1, .int (nI wx)), (2, .int (nI sx)), (3, .int b)] [.int b, .int (nI 1), .int (nI sx), .ref 4] mm
      refine pw_cV (vs := [.int (nI sx), .int (nI 1), .int b]) (rest := []) k_X5_nameSeat (c_nameSeat sx (nI 1) b mm nx hn hn8 hs) l_5_38 rfl rfl rfl rfl (by omega) (Nat.le_of_ble_eq_true rfl) (by decide +kernel) ?_
      rintro _ m1 ⟨rfl, e1⟩
      rw [e1]
      clear e1 m1
      show pw_V x m_X5_obey 2 Z 75 [(0, .ref 4), (1, .int (nI wx)), (2, .int (nI sx)), (3, .int b)] [] (G_ns mm sx (nI 1) b)
      refine pw_goto (tgt := 172) (off := 97) (by decide +kernel) (by decide) ?_
      rw [← hZ]
      refine pw_rv (by decide +kernel) ?_
      refine ⟨rfl, ?_⟩
      have ck : pw_c (nI kx) = kx := pw_c_nI (by omega)
      unfold G_ob
      simp [hk, ck, n1]
      try (first | rfl | (rw [pw_c_nI (by omega)]; done) | (rw [pw_c_nI (by omega), pw_c_nI (by omega)]; done))
    | 2, hj, h1 =>
      refine ⟨77, 78, rfl, by decide, ?_⟩
      have e1 : nI wx = nI 2 := Int32.toInt_inj.mp (by rw [h1]; rfl)
      have n1 : wx = 2 := (nI_eq (by omega) (by omega)).mp e1
      obtain ⟨sx, ea, hs⟩ := h1s (by omega) (by omega)
      subst ea
      refine pw_blk (pc' := 82) [.aload 0, .iload 2, .iconst 2, .iload 3] (by decide +kernel) ?_
      show pw_V x m_X5_obey 2 Z 82 [(0, .ref 4), (1, .int (nI wx)), (2, .int (nI sx)), (3, .int b)] [.int b, .int (nI 2), .int (nI sx), .ref 4] mm
      refine pw_cV (vs := [.int (nI sx), .int (nI 2), .int b]) (rest := []) k_X5_nameSeat (c_nameSeat sx (nI 2) b mm nx hn hn8 hs) l_5_38 rfl rfl rfl rfl (by omega) (Nat.le_of_ble_eq_true rfl) (by decide +kernel) ?_
      rintro _ m1 ⟨rfl, e1⟩
      rw [e1]
      clear e1 m1
      show pw_V x m_X5_obey 2 Z 85 [(0, .ref 4), (1, .int (nI wx)), (2, .int (nI sx)), (3, .int b)] [] (G_ns mm sx (nI 2) b)
      refine pw_goto (tgt := 172) (off := 87) (by decide +kernel) (by decide) ?_
      rw [← hZ]
      refine pw_rv (by decide +kernel) ?_
      refine ⟨rfl, ?_⟩
      have ck : pw_c (nI kx) = kx := pw_c_nI (by omega)
      unfold G_ob
      simp [hk, ck, n1]
      try (first | rfl | (rw [pw_c_nI (by omega)]; done) | (rw [pw_c_nI (by omega), pw_c_nI (by omega)]; done))
    | 3, hj, h1 =>
      refine ⟨87, 88, rfl, by decide, ?_⟩
      have e1 : nI wx = nI 3 := Int32.toInt_inj.mp (by rw [h1]; rfl)
      have n1 : wx = 3 := (nI_eq (by omega) (by omega)).mp e1
      obtain ⟨sx, ea, hs⟩ := h1s (by omega) (by omega)
      subst ea
      refine pw_blk (pc' := 92) [.aload 0, .iload 2, .iconst 3, .iload 3] (by decide +kernel) ?_
      show pw_V x m_X5_obey 2 Z 92 [(0, .ref 4), (1, .int (nI wx)), (2, .int (nI sx)), (3, .int b)] [.int b, .int (nI 3), .int (nI sx), .ref 4] mm
      refine pw_cV (vs := [.int (nI sx), .int (nI 3), .int b]) (rest := []) k_X5_nameSeat (c_nameSeat sx (nI 3) b mm nx hn hn8 hs) l_5_38 rfl rfl rfl rfl (by omega) (Nat.le_of_ble_eq_true rfl) (by decide +kernel) ?_
      rintro _ m1 ⟨rfl, e1⟩
      rw [e1]
      clear e1 m1
      show pw_V x m_X5_obey 2 Z 95 [(0, .ref 4), (1, .int (nI wx)), (2, .int (nI sx)), (3, .int b)] [] (G_ns mm sx (nI 3) b)
      refine pw_goto (tgt := 172) (off := 77) (by decide +kernel) (by decide) ?_
      rw [← hZ]
      refine pw_rv (by decide +kernel) ?_
      refine ⟨rfl, ?_⟩
      have ck : pw_c (nI kx) = kx := pw_c_nI (by omega)
      unfold G_ob
      simp [hk, ck, n1]
      try (first | rfl | (rw [pw_c_nI (by omega)]; done) | (rw [pw_c_nI (by omega), pw_c_nI (by omega)]; done))
    | 4, hj, h1 =>
      refine ⟨97, 98, rfl, by decide, ?_⟩
      have e1 : nI wx = nI 4 := Int32.toInt_inj.mp (by rw [h1]; rfl)
      have n1 : wx = 4 := (nI_eq (by omega) (by omega)).mp e1
      obtain ⟨sx, ea, hs⟩ := h1s (by omega) (by omega)
      subst ea
      refine pw_blk (pc' := 102) [.aload 0, .iload 2, .iconst 4, .iconst 0] (by decide +kernel) ?_
      show pw_V x m_X5_obey 2 Z 102 [(0, .ref 4), (1, .int (nI wx)), (2, .int (nI sx)), (3, .int b)] [.int (nI 0), .int (nI 4), .int (nI sx), .ref 4] mm
      refine pw_cV (vs := [.int (nI sx), .int (nI 4), .int (nI 0)]) (rest := []) k_X5_nameSeat (c_nameSeat sx (nI 4) (nI 0) mm nx hn hn8 hs) l_5_38 rfl rfl rfl rfl (by omega) (Nat.le_of_ble_eq_true rfl) (by decide +kernel) ?_
      rintro _ m1 ⟨rfl, e1⟩
      rw [e1]
      clear e1 m1
      show pw_V x m_X5_obey 2 Z 105 [(0, .ref 4), (1, .int (nI wx)), (2, .int (nI sx)), (3, .int b)] [] (G_ns mm sx (nI 4) (nI 0))
      refine pw_goto (tgt := 172) (off := 67) (by decide +kernel) (by decide) ?_
      rw [← hZ]
      refine pw_rv (by decide +kernel) ?_
      refine ⟨rfl, ?_⟩
      have ck : pw_c (nI kx) = kx := pw_c_nI (by omega)
      unfold G_ob
      simp [hk, ck, n1]
      try (first | rfl | (rw [pw_c_nI (by omega)]; done) | (rw [pw_c_nI (by omega), pw_c_nI (by omega)]; done))
    | 5, hj, h1 =>
      refine ⟨107, 108, rfl, by decide, ?_⟩
      have e1 : nI wx = nI 5 := Int32.toInt_inj.mp (by rw [h1]; rfl)
      have n1 : wx = 5 := (nI_eq (by omega) (by omega)).mp e1
      have h6 := h2s (by omega) (by omega)
      refine pw_blk (pc' := 112) [.aload 0, .iconst 0, .iload 2, .iload 3] (by decide +kernel) ?_
      show pw_V x m_X5_obey 2 Z 112 [(0, .ref 4), (1, .int (nI wx)), (2, .int a), (3, .int b)] [.int b, .int a, .int (nI 0), .ref 4] mm
      refine pw_cV (vs := [.int (nI 0), .int a, .int b]) (rest := []) k_X5_addKnight (c_addKnight (nI 0) a b mm kx hk h6) l_5_42 rfl rfl rfl rfl (by omega) (Nat.le_of_ble_eq_true rfl) (by decide +kernel) ?_
      rintro _ m1 ⟨rfl, e1⟩
      rw [e1]
      clear e1 m1
      show pw_V x m_X5_obey 2 Z 115 [(0, .ref 4), (1, .int (nI wx)), (2, .int a), (3, .int b)] [] (G_ak mm kx (nI 0) a b)
      refine pw_goto (tgt := 172) (off := 57) (by decide +kernel) (by decide) ?_
      rw [← hZ]
      refine pw_rv (by decide +kernel) ?_
      refine ⟨rfl, ?_⟩
      have ck : pw_c (nI kx) = kx := pw_c_nI (by omega)
      unfold G_ob
      simp [hk, ck, n1]
      try (first | rfl | (rw [pw_c_nI (by omega)]; done) | (rw [pw_c_nI (by omega), pw_c_nI (by omega)]; done))
    | 6, hj, h1 =>
      refine ⟨117, 118, rfl, by decide, ?_⟩
      have e1 : nI wx = nI 6 := Int32.toInt_inj.mp (by rw [h1]; rfl)
      have n1 : wx = 6 := (nI_eq (by omega) (by omega)).mp e1
      have h6 := h2s (by omega) (by omega)
      refine pw_blk (pc' := 122) [.aload 0, .iconst 1, .iload 2, .iload 3] (by decide +kernel) ?_
      show pw_V x m_X5_obey 2 Z 122 [(0, .ref 4), (1, .int (nI wx)), (2, .int a), (3, .int b)] [.int b, .int a, .int (nI 1), .ref 4] mm
      refine pw_cV (vs := [.int (nI 1), .int a, .int b]) (rest := []) k_X5_addKnight (c_addKnight (nI 1) a b mm kx hk h6) l_5_42 rfl rfl rfl rfl (by omega) (Nat.le_of_ble_eq_true rfl) (by decide +kernel) ?_
      rintro _ m1 ⟨rfl, e1⟩
      rw [e1]
      clear e1 m1
      show pw_V x m_X5_obey 2 Z 125 [(0, .ref 4), (1, .int (nI wx)), (2, .int a), (3, .int b)] [] (G_ak mm kx (nI 1) a b)
      refine pw_goto (tgt := 172) (off := 47) (by decide +kernel) (by decide) ?_
      rw [← hZ]
      refine pw_rv (by decide +kernel) ?_
      refine ⟨rfl, ?_⟩
      have ck : pw_c (nI kx) = kx := pw_c_nI (by omega)
      unfold G_ob
      simp [hk, ck, n1]
      try (first | rfl | (rw [pw_c_nI (by omega)]; done) | (rw [pw_c_nI (by omega), pw_c_nI (by omega)]; done))
    | 7, hj, h1 =>
      refine ⟨127, 128, rfl, by decide, ?_⟩
      have e1 : nI wx = nI 7 := Int32.toInt_inj.mp (by rw [h1]; rfl)
      have n1 : wx = 7 := (nI_eq (by omega) (by omega)).mp e1
      have h6 := h2s (by omega) (by omega)
      refine pw_blk (pc' := 132) [.aload 0, .iconst 2, .iload 2, .iload 3] (by decide +kernel) ?_
      show pw_V x m_X5_obey 2 Z 132 [(0, .ref 4), (1, .int (nI wx)), (2, .int a), (3, .int b)] [.int b, .int a, .int (nI 2), .ref 4] mm
      refine pw_cV (vs := [.int (nI 2), .int a, .int b]) (rest := []) k_X5_addKnight (c_addKnight (nI 2) a b mm kx hk h6) l_5_42 rfl rfl rfl rfl (by omega) (Nat.le_of_ble_eq_true rfl) (by decide +kernel) ?_
      rintro _ m1 ⟨rfl, e1⟩
      rw [e1]
      clear e1 m1
      show pw_V x m_X5_obey 2 Z 135 [(0, .ref 4), (1, .int (nI wx)), (2, .int a), (3, .int b)] [] (G_ak mm kx (nI 2) a b)
      refine pw_goto (tgt := 172) (off := 37) (by decide +kernel) (by decide) ?_
      rw [← hZ]
      refine pw_rv (by decide +kernel) ?_
      refine ⟨rfl, ?_⟩
      have ck : pw_c (nI kx) = kx := pw_c_nI (by omega)
      unfold G_ob
      simp [hk, ck, n1]
      try (first | rfl | (rw [pw_c_nI (by omega)]; done) | (rw [pw_c_nI (by omega), pw_c_nI (by omega)]; done))
    | 8, hj, h1 =>
      refine ⟨137, 138, rfl, by decide, ?_⟩
      have e1 : nI wx = nI 8 := Int32.toInt_inj.mp (by rw [h1]; rfl)
      have n1 : wx = 8 := (nI_eq (by omega) (by omega)).mp e1
      obtain ⟨ax, bx, ea, eb, ha, hb⟩ := h3s (by omega)
      subst ea
      subst eb
      refine pw_blk (pc' := 141) [.aload 0, .iload 2, .iload 3] (by decide +kernel) ?_
      show pw_V x m_X5_obey 2 Z 141 [(0, .ref 4), (1, .int (nI wx)), (2, .int (nI ax)), (3, .int (nI bx))] [.int (nI bx), .int (nI ax), .ref 4] mm
      refine pw_cV (vs := [.int (nI ax), .int (nI bx)]) (rest := []) k_X5_makeEnemies (c_makeEnemies ax bx mm kx hk hk6 ha hb) l_5_45 rfl rfl rfl rfl (by omega) (Nat.le_of_ble_eq_true rfl) (by decide +kernel) ?_
      rintro _ m1 ⟨rfl, e1⟩
      rw [e1]
      clear e1 m1
      show pw_V x m_X5_obey 2 Z 144 [(0, .ref 4), (1, .int (nI wx)), (2, .int (nI ax)), (3, .int (nI bx))] [] (G_me mm ax bx)
      refine pw_goto (tgt := 172) (off := 28) (by decide +kernel) (by decide) ?_
      rw [← hZ]
      refine pw_rv (by decide +kernel) ?_
      refine ⟨rfl, ?_⟩
      have ck : pw_c (nI kx) = kx := pw_c_nI (by omega)
      unfold G_ob
      simp [hk, ck, n1]
      try (first | rfl | (rw [pw_c_nI (by omega)]; done) | (rw [pw_c_nI (by omega), pw_c_nI (by omega)]; done))
    | 9, hj, h1 =>
      refine ⟨146, 147, rfl, by decide, ?_⟩
      have e1 : nI wx = nI 9 := Int32.toInt_inj.mp (by rw [h1]; rfl)
      have n1 : wx = 9 := (nI_eq (by omega) (by omega)).mp e1
      refine pw_blk (pc' := 157) [.aload 0, .iload 2, .putfield 508, .aload 0, .iload 3, .putfield 509] (by decide +kernel) ?_
      show pw_V x m_X5_obey 2 Z 157 [(0, .ref 4), (1, .int (nI wx)), (2, .int a), (3, .int b)] [] (pw_up (pw_up mm 4 8 a) 4 9 b)
      refine pw_goto (tgt := 172) (off := 15) (by decide +kernel) (by decide) ?_
      rw [← hZ]
      refine pw_rv (by decide +kernel) ?_
      refine ⟨rfl, ?_⟩
      have ck : pw_c (nI kx) = kx := pw_c_nI (by omega)
      unfold G_ob
      simp [hk, ck, n1]
      try (first | rfl | (rw [pw_c_nI (by omega)]; done) | (rw [pw_c_nI (by omega), pw_c_nI (by omega)]; done))
    | 10, hj, h1 =>
      refine ⟨159, 160, rfl, by decide, ?_⟩
      have e1 : nI wx = nI 10 := Int32.toInt_inj.mp (by rw [h1]; rfl)
      have n1 : wx = 10 := (nI_eq (by omega) (by omega)).mp e1
      refine pw_blk (pc' := 165) [.aload 0, .iload 2, .putfield 510] (by decide +kernel) ?_
      show pw_V x m_X5_obey 2 Z 165 [(0, .ref 4), (1, .int (nI wx)), (2, .int a), (3, .int b)] [] (pw_up mm 4 10 a)
      refine pw_goto (tgt := 172) (off := 7) (by decide +kernel) (by decide) ?_
      rw [← hZ]
      refine pw_rv (by decide +kernel) ?_
      refine ⟨rfl, ?_⟩
      have ck : pw_c (nI kx) = kx := pw_c_nI (by omega)
      unfold G_ob
      simp [hk, ck, n1]
      try (first | rfl | (rw [pw_c_nI (by omega)]; done) | (rw [pw_c_nI (by omega), pw_c_nI (by omega)]; done))
    | j + 11, hj, h1 => exact absurd hj (by omega)
end
section
def pw_bgI (A : pw_m) : Nat → pw_m
  | 0 => A
  | i + 1 => pw_up (pw_up (pw_bgI A i) 43 i (pw_bgI A i 8 i)) 44 i (nI 0)

def G_bg (A : pw_m) (k : Nat) : pw_m := pw_rsI (pw_bgI (pw_up (pw_up A 42 0 (nI 0)) 42 1 (nI (2 ^ k - 1))) 6) 6

set_option maxHeartbeats 4000000 in
set_option maxRecDepth 100000 in
theorem c_begin (mm : pw_m) (kx : Nat) (hk : mm 4 1 = nI kx) (hk6 : kx ≤ 6) : pw_Ct 1 yX0_begin m_X0_begin [.ref 42, .ref 4] mm (fun r' m' => r' = none ∧ m' = G_bg mm kx) := by
  refine pw_ct (by decide +kernel) rfl (Nat.le_of_ble_eq_true rfl) (fun x => ?_)
  generalize hZ : pw_Z x _ = Z
  have p2 : 0 < 2 ^ kx := Nat.two_pow_pos kx
  show pw_V x m_X0_begin 1 Z 0 [(0, .ref 42), (1, .ref 4)] [] mm
  refine pw_blk (pc' := 13) [.aload 0, .iconst 0, .putfield 0, .aload 0, .iconst 1, .aload 1, .getfield 501, .ishl, .iconst 1] (by decide +kernel) ?_
  show pw_V x m_X0_begin 1 Z 13 [(0, .ref 42), (1, .ref 4)] [.int (nI 1), .int ((nI 1) <<< ((mm 4 1) &&& 31)), .ref 42] (pw_up mm 42 0 (nI 0))
  rw [show mm 4 1 = nI kx from hk]
  rw [show (nI 1) <<< ((nI kx) &&& 31) = nI (2 ^ kx) from pw_shl1 (by omega)]
  refine pw_blk (pc' := 14) [.isub] (by decide +kernel) ?_
  show pw_V x m_X0_begin 1 Z 14 [(0, .ref 42), (1, .ref 4)] [.int (nI (2 ^ kx) - nI 1), .ref 42] (pw_up mm 42 0 (nI 0))
  rw [pk_sub (show 1 ≤ (2 ^ kx) by omega)]
  refine pw_blk (pc' := 19) [.putfield 1, .iconst 0, .istore 2] (by decide +kernel) ?_
  show pw_V x m_X0_begin 1 Z 19 [(2, .int (nI 0)), (0, .ref 42), (1, .ref 4)] [] (pw_up (pw_up mm 42 0 (nI 0)) 42 1 (nI ((2 ^ kx) - 1)))
  refine pw_lvp [1, 2, 0] rfl ?_
  suffices lo : ∀ ix : Nat, ix ≤ 6 → pw_V x m_X0_begin 1 Z 19 [(0, .ref 42), (1, .ref 4), (2, .int (nI ix))] [] (pw_bgI (pw_up (pw_up mm 42 0 (nI 0)) 42 1 (nI ((2 ^ kx) - 1))) ix) from lo 0 (by omega)
  refine pw_dn 6 (fun ix hix ih => ?_)
  refine pw_blk (pc' := 22) [.iload 2, .iconst (6)] (by decide +kernel) ?_
  show pw_V x m_X0_begin 1 Z 22 [(0, .ref 42), (1, .ref 4), (2, .int (nI ix))] [.int (nI 6), .int (nI ix)] (pw_bgI (pw_up (pw_up mm 42 0 (nI 0)) 42 1 (nI ((2 ^ kx) - 1))) ix)
  refine pw_in_ge (tgt := 50) (off := 28) (by omega) (by omega) (by decide +kernel) (by decide) (fun h22 => ?_) (fun h22 => ?_)
  · refine pw_blk (pc' := 51) [.aload 0] (by decide +kernel) ?_
    show pw_V x m_X0_begin 1 Z 51 [(0, .ref 42), (1, .ref 4), (2, .int (nI ix))] [.ref 42] (pw_bgI (pw_up (pw_up mm 42 0 (nI 0)) 42 1 (nI ((2 ^ kx) - 1))) ix)
    refine pw_cV (vs := []) (rest := []) k_X0_allRise (c_allRise (pw_bgI (pw_up (pw_up mm 42 0 (nI 0)) 42 1 (nI ((2 ^ kx) - 1))) ix)) l_0_34 rfl rfl rfl rfl (by omega) (Nat.le_of_ble_eq_true rfl) (by decide +kernel) ?_
    rintro _ m1 ⟨rfl, e1⟩
    rw [e1]
    clear e1 m1
    show pw_V x m_X0_begin 1 Z 54 [(0, .ref 42), (1, .ref 4), (2, .int (nI ix))] [] (pw_rsI (pw_bgI (pw_up (pw_up mm 42 0 (nI 0)) 42 1 (nI ((2 ^ kx) - 1))) ix) 6)
    rw [← hZ]
    refine pw_rv (by decide +kernel) ?_
    exact ⟨rfl, by unfold G_bg; rw [show ix = 6 by omega]⟩
  · refine pw_blk (pc' := 47) [.aload 0, .getfield 2, .iload 2, .aload 1, .getfield 505, .iload 2, .iaload, .iastore, .aload 0, .getfield 3, .iload 2, .iconst 0, .iastore, .iinc 2 1] (by decide +kernel) ?_
    refine ⟨ix, rfl, by omega, ?_⟩
    refine ⟨ix, rfl, by omega, ?_⟩
    refine ⟨ix, rfl, by omega, ?_⟩
    show pw_V x m_X0_begin 1 Z 47 [(2, .int ((nI ix) + (nI 1))), (0, .ref 42), (1, .ref 4)] [] (pw_up (pw_up (pw_bgI (pw_up (pw_up mm 42 0 (nI 0)) 42 1 (nI ((2 ^ kx) - 1))) ix) 43 ix ((pw_bgI (pw_up (pw_up mm 42 0 (nI 0)) 42 1 (nI ((2 ^ kx) - 1))) ix) 8 ix)) 44 ix (nI 0))
    rw [show (nI ix) + (nI 1) = nI (ix + 1) from nI_add _ _]
    refine pw_goto (tgt := 19) (off := -28) (by decide +kernel) (by decide) ?_
    refine pw_lvp [1, 2, 0] rfl ?_
    exact ih (by omega)
end
section
theorem pw_skF_b {A : pw_m} : ∀ f i, i ≤ pw_skF A f i ∧ pw_skF A f i ≤ i + f := by
  intro f
  induction f with
  | zero => intro i; exact ⟨Nat.le_refl _, Nat.le_refl _⟩
  | succ f ih =>
    intro i
    rw [pw_skF]
    split
    · have := ih (i + 1); omega
    · omega
theorem pw_rnF_b {A : pw_m} {t : Int32} : ∀ f i, i ≤ pw_rnF A t f i ∧ pw_rnF A t f i ≤ i + f := by
  intro f
  induction f with
  | zero => intro i; exact ⟨Nat.le_refl _, Nat.le_refl _⟩
  | succ f ih =>
    intro i
    rw [pw_rnF]
    split
    · have := ih (i + 1); omega
    · omega
theorem pw_sk_b {A : pw_m} {i : Nat} (h : i ≤ pw_g A 2 1) : i ≤ pw_sk A i ∧ pw_sk A i ≤ pw_g A 2 1 := by
  have := pw_skF_b (A := A) (pw_g A 2 1 - i) i
  unfold pw_sk; omega
theorem pw_rn_b {A : pw_m} {t : Int32} {i : Nat} (h : i ≤ pw_g A 2 1) : i ≤ pw_rn A t i ∧ pw_rn A t i ≤ pw_g A 2 1 := by
  have := pw_rnF_b (A := A) (t := t) (pw_g A 2 1 - i) i
  unfold pw_rn; split <;> omega
end
