section
-- ===== PART A: goes FIRST, ahead of the names: the tables' words, and 'selects' of the private methods out of them =====
/-- a private method of a class that the tables say can be made, by its rows of tables_1 -/
def lw_okq (q : MethodName × Nat) : Prop := (q.1.cls ≠ "java/lang/invoke/MethodHandle" ∧ q.1.cls ≠ "java/lang/invoke/VarHandle") ∧ Cond.instantiable q.1.cls q.2 ∈ tables_1 ∧ Cond.privateMethod q.1 ∈ tables_1 ∧ Cond.instanceMethod q.1 ∈ tables_1
theorem lw_p0 : lw_okq (⟨"WavePlans", "wavesWithOrders", "()I"⟩, 8) := ⟨⟨by decide +kernel, by decide +kernel⟩, List.mem_of_getElem? (i := 15) (by decide +kernel), List.mem_of_getElem? (i := 141) (by decide +kernel), List.mem_of_getElem? (i := 142) (by decide +kernel)⟩
theorem lw_p1 : lw_okq (⟨"WavePlans", "ordersAt", "(I)I"⟩, 8) := ⟨⟨by decide +kernel, by decide +kernel⟩, List.mem_of_getElem? (i := 15) (by decide +kernel), List.mem_of_getElem? (i := 145) (by decide +kernel), List.mem_of_getElem? (i := 146) (by decide +kernel)⟩
theorem lw_p2 : lw_okq (⟨"WavePlans", "finishedOrders", "()I"⟩, 8) := ⟨⟨by decide +kernel, by decide +kernel⟩, List.mem_of_getElem? (i := 15) (by decide +kernel), List.mem_of_getElem? (i := 149) (by decide +kernel), List.mem_of_getElem? (i := 150) (by decide +kernel)⟩
theorem lw_p3 : lw_okq (⟨"WavePlans", "savedBehind", "(I)I"⟩, 8) := ⟨⟨by decide +kernel, by decide +kernel⟩, List.mem_of_getElem? (i := 15) (by decide +kernel), List.mem_of_getElem? (i := 153) (by decide +kernel), List.mem_of_getElem? (i := 154) (by decide +kernel)⟩
theorem lw_p4 : lw_okq (⟨"WavePlans", "savedOf", "(LWavePlans$Wave;)I"⟩, 8) := ⟨⟨by decide +kernel, by decide +kernel⟩, List.mem_of_getElem? (i := 15) (by decide +kernel), List.mem_of_getElem? (i := 157) (by decide +kernel), List.mem_of_getElem? (i := 158) (by decide +kernel)⟩
theorem lw_p5 : lw_okq (⟨"WavePlans", "greatestSaving", "(LWavePlans$Order;LWavePlans$Wave;I)I"⟩, 8) := ⟨⟨by decide +kernel, by decide +kernel⟩, List.mem_of_getElem? (i := 15) (by decide +kernel), List.mem_of_getElem? (i := 161) (by decide +kernel), List.mem_of_getElem? (i := 162) (by decide +kernel)⟩
theorem lw_p6 : lw_okq (⟨"WavePlans$Order", "savingWith", "(LWavePlans$Order;)I"⟩, 9) := ⟨⟨by decide +kernel, by decide +kernel⟩, List.mem_of_getElem? (i := 52) (by decide +kernel), List.mem_of_getElem? (i := 165) (by decide +kernel), List.mem_of_getElem? (i := 166) (by decide +kernel)⟩
theorem lw_p7 : lw_okq (⟨"java/lang/Throwable", "fillInStackTrace", "(I)Ljava/lang/Throwable;"⟩, 6) := ⟨⟨by decide +kernel, by decide +kernel⟩, List.mem_of_getElem? (i := 228) (by decide +kernel), List.mem_of_getElem? (i := 226) (by decide +kernel), List.mem_of_getElem? (i := 227) (by decide +kernel)⟩
theorem lw_p8 : lw_okq (⟨"WavePlans", "requireOrder", "(I)LWavePlans$Order;"⟩, 8) := ⟨⟨by decide +kernel, by decide +kernel⟩, List.mem_of_getElem? (i := 15) (by decide +kernel), List.mem_of_getElem? (i := 283) (by decide +kernel), List.mem_of_getElem? (i := 284) (by decide +kernel)⟩
theorem lw_p9 : lw_okq (⟨"WavePlans$Docks", "open", "(III)V"⟩, 4) := ⟨⟨by decide +kernel, by decide +kernel⟩, List.mem_of_getElem? (i := 30) (by decide +kernel), List.mem_of_getElem? (i := 339) (by decide +kernel), List.mem_of_getElem? (i := 340) (by decide +kernel)⟩
theorem lw_p10 : lw_okq (⟨"WavePlans$Docks", "hoursOf", "(I)I"⟩, 4) := ⟨⟨by decide +kernel, by decide +kernel⟩, List.mem_of_getElem? (i := 30) (by decide +kernel), List.mem_of_getElem? (i := 343) (by decide +kernel), List.mem_of_getElem? (i := 344) (by decide +kernel)⟩
theorem lw_p11 : lw_okq (⟨"WavePlans", "makeWaves", "()Z"⟩, 8) := ⟨⟨by decide +kernel, by decide +kernel⟩, List.mem_of_getElem? (i := 15) (by decide +kernel), List.mem_of_getElem? (i := 361) (by decide +kernel), List.mem_of_getElem? (i := 362) (by decide +kernel)⟩
theorem lw_p12 : lw_okq (⟨"WavePlans", "nextBeginning", "()I"⟩, 8) := ⟨⟨by decide +kernel, by decide +kernel⟩, List.mem_of_getElem? (i := 15) (by decide +kernel), List.mem_of_getElem? (i := 365) (by decide +kernel), List.mem_of_getElem? (i := 366) (by decide +kernel)⟩
theorem lw_p13 : lw_okq (⟨"WavePlans", "mayBePlanned", "(LWavePlans$Order;)Z"⟩, 8) := ⟨⟨by decide +kernel, by decide +kernel⟩, List.mem_of_getElem? (i := 15) (by decide +kernel), List.mem_of_getElem? (i := 369) (by decide +kernel), List.mem_of_getElem? (i := 370) (by decide +kernel)⟩
theorem lw_p14 : lw_okq (⟨"WavePlans", "fits", "(LWavePlans$Order;)Z"⟩, 8) := ⟨⟨by decide +kernel, by decide +kernel⟩, List.mem_of_getElem? (i := 15) (by decide +kernel), List.mem_of_getElem? (i := 373) (by decide +kernel), List.mem_of_getElem? (i := 374) (by decide +kernel)⟩
theorem lw_p15 : lw_okq (⟨"WavePlans$Docks", "have", "(II)Z"⟩, 4) := ⟨⟨by decide +kernel, by decide +kernel⟩, List.mem_of_getElem? (i := 30) (by decide +kernel), List.mem_of_getElem? (i := 377) (by decide +kernel), List.mem_of_getElem? (i := 378) (by decide +kernel)⟩
def lw_privs_1 : List (MethodName × Nat) := [(⟨"WavePlans", "wavesWithOrders", "()I"⟩, 8), (⟨"WavePlans", "ordersAt", "(I)I"⟩, 8), (⟨"WavePlans", "finishedOrders", "()I"⟩, 8), (⟨"WavePlans", "savedBehind", "(I)I"⟩, 8), (⟨"WavePlans", "savedOf", "(LWavePlans$Wave;)I"⟩, 8), (⟨"WavePlans", "greatestSaving", "(LWavePlans$Order;LWavePlans$Wave;I)I"⟩, 8), (⟨"WavePlans$Order", "savingWith", "(LWavePlans$Order;)I"⟩, 9), (⟨"java/lang/Throwable", "fillInStackTrace", "(I)Ljava/lang/Throwable;"⟩, 6), (⟨"WavePlans", "requireOrder", "(I)LWavePlans$Order;"⟩, 8), (⟨"WavePlans$Docks", "open", "(III)V"⟩, 4), (⟨"WavePlans$Docks", "hoursOf", "(I)I"⟩, 4), (⟨"WavePlans", "makeWaves", "()Z"⟩, 8), (⟨"WavePlans", "nextBeginning", "()I"⟩, 8), (⟨"WavePlans", "mayBePlanned", "(LWavePlans$Order;)Z"⟩, 8), (⟨"WavePlans", "fits", "(LWavePlans$Order;)Z"⟩, 8), (⟨"WavePlans$Docks", "have", "(II)Z"⟩, 4)]
theorem lw_r1 : ∀ q ∈ lw_privs_1, lw_okq q := List.forall_mem_cons.mpr ⟨lw_p0, List.forall_mem_cons.mpr ⟨lw_p1, List.forall_mem_cons.mpr ⟨lw_p2, List.forall_mem_cons.mpr ⟨lw_p3, List.forall_mem_cons.mpr ⟨lw_p4, List.forall_mem_cons.mpr ⟨lw_p5, List.forall_mem_cons.mpr ⟨lw_p6, List.forall_mem_cons.mpr ⟨lw_p7, List.forall_mem_cons.mpr ⟨lw_p8, List.forall_mem_cons.mpr ⟨lw_p9, List.forall_mem_cons.mpr ⟨lw_p10, List.forall_mem_cons.mpr ⟨lw_p11, List.forall_mem_cons.mpr ⟨lw_p12, List.forall_mem_cons.mpr ⟨lw_p13, List.forall_mem_cons.mpr ⟨lw_p14, List.forall_mem_cons.mpr ⟨lw_p15, fun _ h => absurd h List.not_mem_nil⟩⟩⟩⟩⟩⟩⟩⟩⟩⟩⟩⟩⟩⟩⟩⟩
theorem lw_p16 : lw_okq (⟨"WavePlans", "makeWave", "(I)V"⟩, 8) := ⟨⟨by decide +kernel, by decide +kernel⟩, List.mem_of_getElem? (i := 15) (by decide +kernel), List.mem_of_getElem? (i := 381) (by decide +kernel), List.mem_of_getElem? (i := 382) (by decide +kernel)⟩
theorem lw_p17 : lw_okq (⟨"WavePlans$Wave", "add", "(I)V"⟩, 4) := ⟨⟨by decide +kernel, by decide +kernel⟩, List.mem_of_getElem? (i := 91) (by decide +kernel), List.mem_of_getElem? (i := 385) (by decide +kernel), List.mem_of_getElem? (i := 386) (by decide +kernel)⟩
theorem lw_p18 : lw_okq (⟨"WavePlans", "bestAddition", "(LWavePlans$Wave;I)I"⟩, 8) := ⟨⟨by decide +kernel, by decide +kernel⟩, List.mem_of_getElem? (i := 15) (by decide +kernel), List.mem_of_getElem? (i := 389) (by decide +kernel), List.mem_of_getElem? (i := 390) (by decide +kernel)⟩
theorem lw_p19 : lw_okq (⟨"WavePlans", "undoWavesBehind", "(I)V"⟩, 8) := ⟨⟨by decide +kernel, by decide +kernel⟩, List.mem_of_getElem? (i := 15) (by decide +kernel), List.mem_of_getElem? (i := 393) (by decide +kernel), List.mem_of_getElem? (i := 394) (by decide +kernel)⟩
theorem lw_p20 : lw_okq (⟨"WavePlans$Wave", "empty", "()V"⟩, 4) := ⟨⟨by decide +kernel, by decide +kernel⟩, List.mem_of_getElem? (i := 91) (by decide +kernel), List.mem_of_getElem? (i := 397) (by decide +kernel), List.mem_of_getElem? (i := 398) (by decide +kernel)⟩
theorem lw_p21 : lw_okq (⟨"WavePlans", "requireWave", "(I)LWavePlans$Wave;"⟩, 8) := ⟨⟨by decide +kernel, by decide +kernel⟩, List.mem_of_getElem? (i := 15) (by decide +kernel), List.mem_of_getElem? (i := 416) (by decide +kernel), List.mem_of_getElem? (i := 417) (by decide +kernel)⟩
theorem lw_p22 : lw_okq (⟨"WavePlans", "secondsOf", "(LWavePlans$Wave;)I"⟩, 8) := ⟨⟨by decide +kernel, by decide +kernel⟩, List.mem_of_getElem? (i := 15) (by decide +kernel), List.mem_of_getElem? (i := 421) (by decide +kernel), List.mem_of_getElem? (i := 422) (by decide +kernel)⟩
theorem lw_p23 : lw_okq (⟨"WavePlans", "dueOf", "(LWavePlans$Wave;)I"⟩, 8) := ⟨⟨by decide +kernel, by decide +kernel⟩, List.mem_of_getElem? (i := 15) (by decide +kernel), List.mem_of_getElem? (i := 425) (by decide +kernel), List.mem_of_getElem? (i := 426) (by decide +kernel)⟩
theorem lw_p24 : lw_okq (⟨"WavePlans", "finishedOf", "(LWavePlans$Wave;)I"⟩, 8) := ⟨⟨by decide +kernel, by decide +kernel⟩, List.mem_of_getElem? (i := 15) (by decide +kernel), List.mem_of_getElem? (i := 429) (by decide +kernel), List.mem_of_getElem? (i := 430) (by decide +kernel)⟩
theorem lw_p25 : lw_okq (⟨"WavePlans", "lackedGood", "(II)I"⟩, 8) := ⟨⟨by decide +kernel, by decide +kernel⟩, List.mem_of_getElem? (i := 15) (by decide +kernel), List.mem_of_getElem? (i := 453) (by decide +kernel), List.mem_of_getElem? (i := 454) (by decide +kernel)⟩
theorem lw_p26 : lw_okq (⟨"WavePlans", "lackOf", "(II)I"⟩, 8) := ⟨⟨by decide +kernel, by decide +kernel⟩, List.mem_of_getElem? (i := 15) (by decide +kernel), List.mem_of_getElem? (i := 457) (by decide +kernel), List.mem_of_getElem? (i := 458) (by decide +kernel)⟩
theorem lw_p27 : lw_okq (⟨"WavePlans", "wantedOf", "(LWavePlans$Wave;I)I"⟩, 8) := ⟨⟨by decide +kernel, by decide +kernel⟩, List.mem_of_getElem? (i := 15) (by decide +kernel), List.mem_of_getElem? (i := 461) (by decide +kernel), List.mem_of_getElem? (i := 462) (by decide +kernel)⟩
theorem lw_p28 : lw_okq (⟨"WavePlans", "allFit", "(LWavePlans$Wave;)Z"⟩, 8) := ⟨⟨by decide +kernel, by decide +kernel⟩, List.mem_of_getElem? (i := 15) (by decide +kernel), List.mem_of_getElem? (i := 483) (by decide +kernel), List.mem_of_getElem? (i := 484) (by decide +kernel)⟩
theorem lw_p29 : lw_okq (⟨"WavePlans", "isReleased", "(LWavePlans$Order;)Z"⟩, 8) := ⟨⟨by decide +kernel, by decide +kernel⟩, List.mem_of_getElem? (i := 15) (by decide +kernel), List.mem_of_getElem? (i := 494) (by decide +kernel), List.mem_of_getElem? (i := 495) (by decide +kernel)⟩
theorem lw_p30 : lw_okq (⟨"WavePlans", "takeFromStock", "(LWavePlans$Order;)V"⟩, 8) := ⟨⟨by decide +kernel, by decide +kernel⟩, List.mem_of_getElem? (i := 15) (by decide +kernel), List.mem_of_getElem? (i := 499) (by decide +kernel), List.mem_of_getElem? (i := 500) (by decide +kernel)⟩
theorem lw_p31 : lw_okq (⟨"WavePlans", "takeOut", "(II)V"⟩, 8) := ⟨⟨by decide +kernel, by decide +kernel⟩, List.mem_of_getElem? (i := 15) (by decide +kernel), List.mem_of_getElem? (i := 511) (by decide +kernel), List.mem_of_getElem? (i := 512) (by decide +kernel)⟩
def lw_privs_2 : List (MethodName × Nat) := [(⟨"WavePlans", "makeWave", "(I)V"⟩, 8), (⟨"WavePlans$Wave", "add", "(I)V"⟩, 4), (⟨"WavePlans", "bestAddition", "(LWavePlans$Wave;I)I"⟩, 8), (⟨"WavePlans", "undoWavesBehind", "(I)V"⟩, 8), (⟨"WavePlans$Wave", "empty", "()V"⟩, 4), (⟨"WavePlans", "requireWave", "(I)LWavePlans$Wave;"⟩, 8), (⟨"WavePlans", "secondsOf", "(LWavePlans$Wave;)I"⟩, 8), (⟨"WavePlans", "dueOf", "(LWavePlans$Wave;)I"⟩, 8), (⟨"WavePlans", "finishedOf", "(LWavePlans$Wave;)I"⟩, 8), (⟨"WavePlans", "lackedGood", "(II)I"⟩, 8), (⟨"WavePlans", "lackOf", "(II)I"⟩, 8), (⟨"WavePlans", "wantedOf", "(LWavePlans$Wave;I)I"⟩, 8), (⟨"WavePlans", "allFit", "(LWavePlans$Wave;)Z"⟩, 8), (⟨"WavePlans", "isReleased", "(LWavePlans$Order;)Z"⟩, 8), (⟨"WavePlans", "takeFromStock", "(LWavePlans$Order;)V"⟩, 8), (⟨"WavePlans", "takeOut", "(II)V"⟩, 8)]
theorem lw_r2 : ∀ q ∈ lw_privs_2, lw_okq q := List.forall_mem_cons.mpr ⟨lw_p16, List.forall_mem_cons.mpr ⟨lw_p17, List.forall_mem_cons.mpr ⟨lw_p18, List.forall_mem_cons.mpr ⟨lw_p19, List.forall_mem_cons.mpr ⟨lw_p20, List.forall_mem_cons.mpr ⟨lw_p21, List.forall_mem_cons.mpr ⟨lw_p22, List.forall_mem_cons.mpr ⟨lw_p23, List.forall_mem_cons.mpr ⟨lw_p24, List.forall_mem_cons.mpr ⟨lw_p25, List.forall_mem_cons.mpr ⟨lw_p26, List.forall_mem_cons.mpr ⟨lw_p27, List.forall_mem_cons.mpr ⟨lw_p28, List.forall_mem_cons.mpr ⟨lw_p29, List.forall_mem_cons.mpr ⟨lw_p30, List.forall_mem_cons.mpr ⟨lw_p31, fun _ h => absurd h List.not_mem_nil⟩⟩⟩⟩⟩⟩⟩⟩⟩⟩⟩⟩⟩⟩⟩⟩
theorem lw_p32 : lw_okq (⟨"WavePlans$Wave", "remove", "(I)V"⟩, 4) := ⟨⟨by decide +kernel, by decide +kernel⟩, List.mem_of_getElem? (i := 91) (by decide +kernel), List.mem_of_getElem? (i := 515) (by decide +kernel), List.mem_of_getElem? (i := 516) (by decide +kernel)⟩
theorem lw_p33 : lw_okq (⟨"WavePlans$Wave", "addAll", "(LWavePlans$Wave;)V"⟩, 4) := ⟨⟨by decide +kernel, by decide +kernel⟩, List.mem_of_getElem? (i := 91) (by decide +kernel), List.mem_of_getElem? (i := 527) (by decide +kernel), List.mem_of_getElem? (i := 528) (by decide +kernel)⟩
theorem lw_p34 : lw_okq (⟨"WavePlansModel", "isOrder", "(I)Z"⟩, 22) := ⟨⟨by decide +kernel, by decide +kernel⟩, List.mem_of_getElem? (i := 547) (by decide +kernel), List.mem_of_getElem? (i := 641) (by decide +kernel), List.mem_of_getElem? (i := 642) (by decide +kernel)⟩
theorem lw_p35 : lw_okq (⟨"WavePlansModel", "lines", "(I)I"⟩, 22) := ⟨⟨by decide +kernel, by decide +kernel⟩, List.mem_of_getElem? (i := 547) (by decide +kernel), List.mem_of_getElem? (i := 645) (by decide +kernel), List.mem_of_getElem? (i := 646) (by decide +kernel)⟩
theorem lw_p36 : lw_okq (⟨"WavePlansModel", "begin", "()I"⟩, 22) := ⟨⟨by decide +kernel, by decide +kernel⟩, List.mem_of_getElem? (i := 547) (by decide +kernel), List.mem_of_getElem? (i := 665) (by decide +kernel), List.mem_of_getElem? (i := 666) (by decide +kernel)⟩
theorem lw_p37 : lw_okq (⟨"WavePlansModel", "isOpen", "(I)Z"⟩, 22) := ⟨⟨by decide +kernel, by decide +kernel⟩, List.mem_of_getElem? (i := 547) (by decide +kernel), List.mem_of_getElem? (i := 669) (by decide +kernel), List.mem_of_getElem? (i := 670) (by decide +kernel)⟩
theorem lw_p38 : lw_okq (⟨"WavePlansModel", "fits", "(II)Z"⟩, 22) := ⟨⟨by decide +kernel, by decide +kernel⟩, List.mem_of_getElem? (i := 547) (by decide +kernel), List.mem_of_getElem? (i := 673) (by decide +kernel), List.mem_of_getElem? (i := 674) (by decide +kernel)⟩
theorem lw_p39 : lw_okq (⟨"WavePlansModel", "isEarlier", "(II)Z"⟩, 22) := ⟨⟨by decide +kernel, by decide +kernel⟩, List.mem_of_getElem? (i := 547) (by decide +kernel), List.mem_of_getElem? (i := 677) (by decide +kernel), List.mem_of_getElem? (i := 678) (by decide +kernel)⟩
theorem lw_p40 : lw_okq (⟨"WavePlansModel", "put", "(II)V"⟩, 22) := ⟨⟨by decide +kernel, by decide +kernel⟩, List.mem_of_getElem? (i := 547) (by decide +kernel), List.mem_of_getElem? (i := 681) (by decide +kernel), List.mem_of_getElem? (i := 682) (by decide +kernel)⟩
theorem lw_p41 : lw_okq (⟨"WavePlansModel", "fill", "(II)I"⟩, 22) := ⟨⟨by decide +kernel, by decide +kernel⟩, List.mem_of_getElem? (i := 547) (by decide +kernel), List.mem_of_getElem? (i := 685) (by decide +kernel), List.mem_of_getElem? (i := 686) (by decide +kernel)⟩
theorem lw_p42 : lw_okq (⟨"WavePlansModel", "best", "(III)I"⟩, 22) := ⟨⟨by decide +kernel, by decide +kernel⟩, List.mem_of_getElem? (i := 547) (by decide +kernel), List.mem_of_getElem? (i := 689) (by decide +kernel), List.mem_of_getElem? (i := 690) (by decide +kernel)⟩
theorem lw_p43 : lw_okq (⟨"WavePlansModel", "most", "(II)I"⟩, 22) := ⟨⟨by decide +kernel, by decide +kernel⟩, List.mem_of_getElem? (i := 547) (by decide +kernel), List.mem_of_getElem? (i := 693) (by decide +kernel), List.mem_of_getElem? (i := 694) (by decide +kernel)⟩
theorem lw_p44 : lw_okq (⟨"WavePlansModel", "saving", "(II)I"⟩, 22) := ⟨⟨by decide +kernel, by decide +kernel⟩, List.mem_of_getElem? (i := 547) (by decide +kernel), List.mem_of_getElem? (i := 697) (by decide +kernel), List.mem_of_getElem? (i := 698) (by decide +kernel)⟩
theorem lw_p45 : lw_okq (⟨"WavePlansModel", "isWave", "(I)Z"⟩, 22) := ⟨⟨by decide +kernel, by decide +kernel⟩, List.mem_of_getElem? (i := 547) (by decide +kernel), List.mem_of_getElem? (i := 709) (by decide +kernel), List.mem_of_getElem? (i := 710) (by decide +kernel)⟩
theorem lw_p46 : lw_okq (⟨"WavePlansModel", "sizeOf", "(I)I"⟩, 22) := ⟨⟨by decide +kernel, by decide +kernel⟩, List.mem_of_getElem? (i := 547) (by decide +kernel), List.mem_of_getElem? (i := 713) (by decide +kernel), List.mem_of_getElem? (i := 714) (by decide +kernel)⟩
theorem lw_p47 : lw_okq (⟨"WavePlansModel", "secondsOf", "(I)I"⟩, 22) := ⟨⟨by decide +kernel, by decide +kernel⟩, List.mem_of_getElem? (i := 547) (by decide +kernel), List.mem_of_getElem? (i := 717) (by decide +kernel), List.mem_of_getElem? (i := 718) (by decide +kernel)⟩
def lw_privs_3 : List (MethodName × Nat) := [(⟨"WavePlans$Wave", "remove", "(I)V"⟩, 4), (⟨"WavePlans$Wave", "addAll", "(LWavePlans$Wave;)V"⟩, 4), (⟨"WavePlansModel", "isOrder", "(I)Z"⟩, 22), (⟨"WavePlansModel", "lines", "(I)I"⟩, 22), (⟨"WavePlansModel", "begin", "()I"⟩, 22), (⟨"WavePlansModel", "isOpen", "(I)Z"⟩, 22), (⟨"WavePlansModel", "fits", "(II)Z"⟩, 22), (⟨"WavePlansModel", "isEarlier", "(II)Z"⟩, 22), (⟨"WavePlansModel", "put", "(II)V"⟩, 22), (⟨"WavePlansModel", "fill", "(II)I"⟩, 22), (⟨"WavePlansModel", "best", "(III)I"⟩, 22), (⟨"WavePlansModel", "most", "(II)I"⟩, 22), (⟨"WavePlansModel", "saving", "(II)I"⟩, 22), (⟨"WavePlansModel", "isWave", "(I)Z"⟩, 22), (⟨"WavePlansModel", "sizeOf", "(I)I"⟩, 22), (⟨"WavePlansModel", "secondsOf", "(I)I"⟩, 22)]
theorem lw_r3 : ∀ q ∈ lw_privs_3, lw_okq q := List.forall_mem_cons.mpr ⟨lw_p32, List.forall_mem_cons.mpr ⟨lw_p33, List.forall_mem_cons.mpr ⟨lw_p34, List.forall_mem_cons.mpr ⟨lw_p35, List.forall_mem_cons.mpr ⟨lw_p36, List.forall_mem_cons.mpr ⟨lw_p37, List.forall_mem_cons.mpr ⟨lw_p38, List.forall_mem_cons.mpr ⟨lw_p39, List.forall_mem_cons.mpr ⟨lw_p40, List.forall_mem_cons.mpr ⟨lw_p41, List.forall_mem_cons.mpr ⟨lw_p42, List.forall_mem_cons.mpr ⟨lw_p43, List.forall_mem_cons.mpr ⟨lw_p44, List.forall_mem_cons.mpr ⟨lw_p45, List.forall_mem_cons.mpr ⟨lw_p46, List.forall_mem_cons.mpr ⟨lw_p47, fun _ h => absurd h List.not_mem_nil⟩⟩⟩⟩⟩⟩⟩⟩⟩⟩⟩⟩⟩⟩⟩⟩
theorem lw_p48 : lw_okq (⟨"WavePlansModel", "savedOf", "(I)I"⟩, 22) := ⟨⟨by decide +kernel, by decide +kernel⟩, List.mem_of_getElem? (i := 547) (by decide +kernel), List.mem_of_getElem? (i := 721) (by decide +kernel), List.mem_of_getElem? (i := 722) (by decide +kernel)⟩
theorem lw_p49 : lw_okq (⟨"WavePlansModel", "savedBy", "(I)I"⟩, 22) := ⟨⟨by decide +kernel, by decide +kernel⟩, List.mem_of_getElem? (i := 547) (by decide +kernel), List.mem_of_getElem? (i := 725) (by decide +kernel), List.mem_of_getElem? (i := 726) (by decide +kernel)⟩
theorem lw_p50 : lw_okq (⟨"WavePlansModel", "memberAt", "(II)I"⟩, 22) := ⟨⟨by decide +kernel, by decide +kernel⟩, List.mem_of_getElem? (i := 547) (by decide +kernel), List.mem_of_getElem? (i := 729) (by decide +kernel), List.mem_of_getElem? (i := 730) (by decide +kernel)⟩
theorem lw_p51 : lw_okq (⟨"WavePlansModel", "lackOf", "(II)I"⟩, 22) := ⟨⟨by decide +kernel, by decide +kernel⟩, List.mem_of_getElem? (i := 547) (by decide +kernel), List.mem_of_getElem? (i := 741) (by decide +kernel), List.mem_of_getElem? (i := 742) (by decide +kernel)⟩
theorem lw_p52 : lw_okq (⟨"WavePlansModel", "wantsOf", "(II)I"⟩, 22) := ⟨⟨by decide +kernel, by decide +kernel⟩, List.mem_of_getElem? (i := 547) (by decide +kernel), List.mem_of_getElem? (i := 745) (by decide +kernel), List.mem_of_getElem? (i := 746) (by decide +kernel)⟩
def lw_privs_4 : List (MethodName × Nat) := [(⟨"WavePlansModel", "savedOf", "(I)I"⟩, 22), (⟨"WavePlansModel", "savedBy", "(I)I"⟩, 22), (⟨"WavePlansModel", "memberAt", "(II)I"⟩, 22), (⟨"WavePlansModel", "lackOf", "(II)I"⟩, 22), (⟨"WavePlansModel", "wantsOf", "(II)I"⟩, 22)]
theorem lw_r4 : ∀ q ∈ lw_privs_4, lw_okq q := List.forall_mem_cons.mpr ⟨lw_p48, List.forall_mem_cons.mpr ⟨lw_p49, List.forall_mem_cons.mpr ⟨lw_p50, List.forall_mem_cons.mpr ⟨lw_p51, List.forall_mem_cons.mpr ⟨lw_p52, fun _ h => absurd h List.not_mem_nil⟩⟩⟩⟩⟩
def lw_privs : List (MethodName × Nat) := lw_privs_1 ++ (lw_privs_2 ++ (lw_privs_3 ++ (lw_privs_4)))
def lw_tbl : List Cond := k2_sels lw_privs ++ tables_1
theorem lw_privs_ok : ∀ q ∈ lw_privs, lw_okq q := by
  show ∀ q ∈ lw_privs_1 ++ (lw_privs_2 ++ (lw_privs_3 ++ (lw_privs_4))), lw_okq q
  exact List.forall_mem_append.mpr ⟨lw_r1, List.forall_mem_append.mpr ⟨lw_r2, List.forall_mem_append.mpr ⟨lw_r3, lw_r4⟩⟩⟩
end
section
/-! ===== BEGIN words of one list among another's, by their places ===== -/
theorem goodIn_r {big : List Cond} (ws : List Cond) (ps : List Nat) (hp : ws = ps.filterMap (fun i => big[i]?)) (h : ws.all goodWord = true) : GoodIn big ws := by
  intro w hw
  have h1 := List.all_eq_true.mp h w hw
  rw [hp] at hw
  obtain ⟨i, -, hi⟩ := List.mem_filterMap.mp hw
  have hm : w ∈ big := by first | exact List.mem_of_getElem? hi | exact List.getElem?_mem hi
  exact ⟨hm, good_of_word h1⟩
theorem goodIn_app {big a b : List Cond} (ha : GoodIn big a) (hb : GoodIn big b) : GoodIn big (a ++ b) := fun w h => (List.mem_append.mp h).elim (ha w) (hb w)
theorem goodIn_ca {big a b : List Cond} {c : Cond} (ha : GoodIn big (c :: a)) (hb : GoodIn big b) : GoodIn big (c :: (a ++ b)) := fun w h => (List.mem_cons.mp h).elim (fun e => ha w (List.mem_cons.mpr (Or.inl e))) (fun h => (List.mem_append.mp h).elim (fun h => ha w (List.mem_cons.mpr (Or.inr h))) (hb w))
theorem goodIn_sub {big ws : List Cond} (hm : ∀ w ∈ ws, w ∈ big) (h : ws.all goodWord = true) : GoodIn big ws := fun w hw => ⟨hm w hw, good_of_word (List.all_eq_true.mp h w hw)⟩
/-! ===== END ===== -/

/-! ===== BEGIN exceptions that leave a method, and their catching by the caller (launches without stack traces) ===== -/
section VXA
/-! The laws vx_back, vx_callV, vx_callS, vx_callSW, vx_throw0, vx_throwS follow proofs of the library, with one case more: JvmDerived/Free/Laws.lean (Back.of_free), Shelf42/LK1.lean (callV, callS), Shelf/KitTraced.lean (throwNew0V, throwNewS). -/
/-- where a method has thrown q: the class by its name, the cell, what was written, the world -/
def vx_T (XC : String → State → State → Prop) (st : State) (q : Addr) (t : State) (mc ms : Nat) (free : Addr → Prop) : Prop :=
  ∃ (E : String) (ce : Cell) (L : List Loc), XC E st t ∧ t.heap[q]? = some ce ∧ ce.vm = .none ∧ st.vm.findClass E = some ce.cls ∧ st.WarmedH t.vm ∧ st.sameButNew ({ t with vm := st.vm } : State) L mc ms ∧ ∀ z ∈ L, free z.base
def vx_Q (Qc : Array Value → State → Outcome → State → Prop) (XC : String → State → State → Prop) (mc ms : Nat) (free : Addr → Prop) : Array Value → State → Outcome → State → Prop := fun a st o t =>
  (Qc a st o t ∧ ∃ L, FrameEnd st o t L mc ms ∧ ∀ q ∈ L, free q.base) ∨ ∃ q, o = .threw q ∧ vx_T XC st q t mc ms free
/-- a callee that returns or throws -/
def vx_Met (l : Launch) (y : MethodName) (ws : List Cond) (rm : Room) (Pc : Array Value → State → Prop) (Qc : Array Value → State → Outcome → State → Prop) (XC : String → State → State → Prop) (mc ms : Nat) (free : Addr → Prop) : Prop :=
  MetFree l y (headSpec ws rm) Pc (fun _ _ _ _ _ => True) (vx_Q Qc XC mc ms free)
def vx_Post (XC : String → State → State → Prop) (mc ms : Nat) (free : Addr → Prop) : Pt → Array Value → Addr → Pt → Prop := fun A a q B =>
  ∃ (g : JFrame) (mk : MethodId) (t : State) (L : List Loc) (E : String) (ce : Cell), B.U.heap = t.heap ∧ B.U.vm = t.vm ∧ XC E (A.U.calling g mk a) t ∧ t.heap[q]? = some ce ∧ ce.vm = .none ∧ A.U.vm.findClass E = some ce.cls ∧ B.locs = A.locs ++ L ∧ (∀ z ∈ L, free z.base) ∧ B.cells = A.cells + mc ∧ B.slots = A.slots + ms
def vx_Back (l : Launch) (R : Room) (p : Program) (e : Env) (below : List Frame) (s : State) (sargs : Array Value) (y : MethodName) (len W9 : Nat)
    (Pre : Pt → Array Value → Prop) (Post : Pt → Array Value → Option Value → Pt → Prop) (PostX : Pt → Array Value → Addr → Pt → Prop) : Prop :=
  ∀ (m : MethodId) (meth : Method) (c : Code) (A : Pt) (g : JFrame) (ig : Instr) (mk : MethodId) (a : Array Value),
    Stand p l e R s m sargs below meth c A.U A.locs A.cells A.slots → g.method = m → g.locals.size = c.maxLocals → decode c.code g.pc = .ok (ig, len) →
    2 * g.monitorRoom + (g.stack.map fun v => v.category).sum ≤ W9 → A.U.methodNamed? y = some mk → Pre A a →
    (∃ (v : Option Value) (B : Pt), Stand p l e R s m sargs below meth c B.U B.locs B.cells B.slots ∧ Post A a v B ∧
      Steps p.tables e below (doInvoke e (A.U.setTop g) [] mk a).1 (B.U.setTop { g with pc := g.pc + len, stack := v.toList ++ g.stack })) ∨
    (∃ (q : Addr) (B : Pt), Stand p l e R s m sargs below meth c B.U B.locs B.cells B.slots ∧ PostX A a q B ∧
      Steps p.tables e below (doInvoke e (A.U.setTop g) [] mk a).1 ((B.U.setTop g).pushFrame (.throwing q)))
section Payer
variable {l : Launch} {R : Room} {p : Program} {e : Env} {below : List Frame} {s : State} {sargs : Array Value} {y : MethodName} {len W9 : Nat}
theorem vx_back {ws : List Cond} {rm : Room} {Pc : Array Value → State → Prop} {Qc : Array Value → State → Outcome → State → Prop} {XC : String → State → State → Prop} {mc ms : Nat} {free : Addr → Prop} {bytes : ByteArray} {maxL : Nat} {ret : Option FieldType}
    (hM : vx_Met l y ws rm Pc Qc XC mc ms free) (hblind : FrameBlind Pc) (hrc : rm.cells = mc) (hrs : rm.slots = ms)
    (hframes : rm.frames + 1 ≤ R.frames) (hlocals : W9 + (maxL + 11) + rm.locals ≤ R.locals)
    (hws : ∀ w ∈ ws, ∀ a' U, s.WarmedH U.vm → w.before a' U = true) (hcode : Cond.code y bytes maxL ret ∈ ws) (hinit : ∀ a' U, s.WarmedH U.vm → (Cond.initialized y.cls).before a' U = true) :
    vx_Back l R p e below s sargs y len W9 (PreOf R mc ms Pc) (PostOf Qc mc ms free) (vx_Post XC mc ms free) := by
  intro m meth c A g ig mk a X hg hsize hdg hW hn hp
  have h1 : (headSpec ws rm).pre.before a A.U = true := atoms_intro fun w hw => hws w hw _ _ X.warmed
  have h2 : (Cond.code y bytes maxL ret).before a A.U = true := hws _ hcode _ _ X.warmed
  have h3 : (Cond.initialized y.cls).before a A.U = true := hinit _ _ X.warmed
  have h4 : A.cells + (headSpec ws rm).room.cells ≤ R.cells := by rw [show (headSpec ws rm).room.cells = mc from hrc]; exact hp.1
  have h5 : A.slots + (headSpec ws rm).room.slots ≤ R.slots := by rw [show (headSpec ws rm).room.slots = ms from hrs]; exact hp.2.1
  have hPc : Pc a (A.U.calling g mk a) := hblind _ _ _ _ hp.2.2
  obtain ⟨U, Ls, c0, s0⟩ := A
  dsimp only [Pt.U, Pt.locs, Pt.cells, Pt.slots] at h1 h2 h3 h4 h5 X hn hPc ⊢
  obtain ⟨methY, cY, hmY, hcY, -, hlY, -, -, -, -⟩ := Cond.code_spec hn h2
  obtain ⟨kY, hkY, -⟩ := className_of_methodNamed hn
  have hinitY : kY.init = .initialized := Cond.initialized_spec (findClass_of_methodNamed hn) hkY h3
  have h : At U g.method c below := by rw [hg]; exact X.here
  have hlocals9 : W9 + (maxL + 11) + (headSpec ws rm).room.locals ≤ R.locals := hlocals
  have happ : (headSpec ws rm).appliesLoose y e.platform (U.calling g mk a) = true :=
    Spec.appliesLoose_calling (g := g) h hdg hn hkY hinitY
      (X.room_calling (g := g) (R' := (headSpec ws rm).room) hsize hmY hcY hframes (by rw [hlY]; omega) h4 h5) h1
  obtain ⟨mid, hmid⟩ := h.above
  have hfr : (U.setTop g).frames = (.java g :: mid) ++ below := by rw [State.frames_setTop' g h.top, hmid]; rfl
  obtain ⟨o, s₂, hsteps, -, hend, hq⟩ := Steps.callFree hM p X.admits X.cas X.clock (acts := []) hfr happ hPc trivial
  have hq' : vx_Q Qc XC mc ms free a (U.calling g mk a) o s₂ := hq
  rw [State.frames_setTop' g h.top] at hend
  obtain ⟨g₀, hg0⟩ := Option.isSome_iff_exists.mp h.top
  obtain ⟨r, hr⟩ := State.topJava?_eq_some.mp hg0
  have hr' : (({ U with heap := s₂.heap, slotsUsed := s₂.slotsUsed } : State).setVm s₂.vm).frames = .java g₀ :: r := hr
  rcases hq' with ⟨hqc, L, hfe, hL⟩ | ⟨q, rfl, E, ce, L, hx, hce, hcv, hcl, hW₂, hsm, hL⟩
  · obtain ⟨⟨v, rfl⟩, hW₂, e2, q2, q3, q4, q5, q6⟩ := id hfe
    have e3 : s₂ = ({ (U.calling g mk a).setFrames s₂.frames with heap := s₂.heap, slotsUsed := s₂.slotsUsed } : State).setVm s₂.vm := by
      have : s₂ = ({ s₂ with vm := (U.calling g mk a).vm } : State).setVm s₂.vm := rfl
      rw [e2] at this
      exact this
    obtain ⟨c₂, i₂, len₂, hc₂, hd₂, hf₂⟩ := hend
    have hW' : U.WarmedH s₂.vm := hW₂
    have hcc : c₂ = c := by
      have h1 : s₂.code? g.method = U.code? g.method := by
        rw [State.code?_eq, State.code?_eq, hW'.alike.method?]
      exact Option.some.inj (hc₂.symm.trans (h1.trans h.code))
    subst hcc
    have hlen : len₂ = len := by rw [hdg] at hd₂; cases hd₂; rfl
    subst hlen
    have hs₂ : s₂ = (({ U with heap := s₂.heap, slotsUsed := s₂.slotsUsed } : State).setVm s₂.vm).setTop { g with pc := g.pc + len₂, stack := v.toList ++ g.stack } := by
      refine e3.trans ?_
      rw [hf₂, State.calling_eq h.top, State.setFrames_setFrames, State.setTop_of_frames _ hr', hr]
      rfl
    have hsame : U.sameButNew ({ U with heap := s₂.heap, slotsUsed := s₂.slotsUsed } : State) L mc ms := by
      refine ⟨?_, q2, q3, q4, q5, q6⟩
      obtain ⟨t, ht, -⟩ := State.frames_cons hr
      show ({ U with heap := s₂.heap, slotsUsed := s₂.slotsUsed } : State) = { U.setFrames U.frames with heap := s₂.heap, slotsUsed := s₂.slotsUsed }
      rw [State.setFrames_self ht]
    subst hg
    refine Or.inl ⟨v, ⟨(({ U with heap := s₂.heap, slotsUsed := s₂.slotsUsed } : State).setVm s₂.vm), Ls ++ L, c0 + mc, s0 + ms⟩,
      ⟨X.admits, X.cas, X.clock, X.frames, X.room, X.hears, X.method, X.code, (X.here.setHeapUsed s₂.heap s₂.slotsUsed).setVm hW'.alike, X.tail, State.WarmedH.trans X.warmed hW', X.limits, X.bytes, X.same.trans (hsame.setVm s.vm)⟩,
      ⟨g, mk, s₂, L, rfl, rfl, hqc, rfl, hL, rfl, rfl⟩, ?_⟩
    show Steps p.tables e below _ ((({ U with heap := s₂.heap, slotsUsed := s₂.slotsUsed } : State).setVm s₂.vm).setTop { g with pc := g.pc + len₂, stack := v.toList ++ g.stack })
    rw [← hs₂]
    exact hsteps
  · obtain ⟨e2, q2, q3, q4, q5, q6⟩ := id hsm
    have e3 : s₂ = ({ (U.calling g mk a).setFrames s₂.frames with heap := s₂.heap, slotsUsed := s₂.slotsUsed } : State).setVm s₂.vm := by
      have : s₂ = ({ s₂ with vm := (U.calling g mk a).vm } : State).setVm s₂.vm := rfl
      rw [e2] at this
      exact this
    have hf₂ : s₂.frames = .throwing q :: .java g :: U.frames.tail := hend
    have hW' : U.WarmedH s₂.vm := hW₂
    have hs₂ : s₂ = ((({ U with heap := s₂.heap, slotsUsed := s₂.slotsUsed } : State).setVm s₂.vm).setTop g).pushFrame (.throwing q) := by
      refine e3.trans ?_
      rw [hf₂, State.calling_eq h.top, State.setFrames_setFrames, State.pushFrame, State.frames_setTop _ hr', State.setTop_of_frames _ hr', State.setFrames_setFrames, hr]
      rfl
    have hsame : U.sameButNew ({ U with heap := s₂.heap, slotsUsed := s₂.slotsUsed } : State) L mc ms := by
      refine ⟨?_, q2, q3, q4, q5, q6⟩
      obtain ⟨t, ht, -⟩ := State.frames_cons hr
      show ({ U with heap := s₂.heap, slotsUsed := s₂.slotsUsed } : State) = { U.setFrames U.frames with heap := s₂.heap, slotsUsed := s₂.slotsUsed }
      rw [State.setFrames_self ht]
    subst hg
    refine Or.inr ⟨q, ⟨(({ U with heap := s₂.heap, slotsUsed := s₂.slotsUsed } : State).setVm s₂.vm), Ls ++ L, c0 + mc, s0 + ms⟩,
      ⟨X.admits, X.cas, X.clock, X.frames, X.room, X.hears, X.method, X.code, (X.here.setHeapUsed s₂.heap s₂.slotsUsed).setVm hW'.alike, X.tail, State.WarmedH.trans X.warmed hW', X.limits, X.bytes, X.same.trans (hsame.setVm s.vm)⟩,
      ⟨g, mk, s₂, L, E, ce, rfl, rfl, hx, hce, hcv, hcl, rfl, hL, rfl, rfl⟩, ?_⟩
    show Steps p.tables e below _ (((({ U with heap := s₂.heap, slotsUsed := s₂.slotsUsed } : State).setVm s₂.vm).setTop g).pushFrame (.throwing q))
    rw [← hs₂]
    exact hsteps
end Payer
section Calls
variable {p : Program} {l : Launch} {e : Env} {R : Room} {s : State} {m : MethodId} {args : Array Value} {below : List Frame} {meth : Method} {c : Code} {T : State} {locs : List Loc} {cells slots : Nat}
theorem vx_callV (X : Stand p l e R s m args below meth c T locs cells slots) (hexec : p.tables.exec = Jvm.exec) {own C : String} {index : Nat} {y : MethodName} {bytes : ByteArray} {maxL : Nat} {ret : Option FieldType}
    (hown : s.vm.findClass own = some m.cls) (hlink : (Cond.methodLink own index y).before args s = true) (hinst : (Cond.instanceMethod y).before args s = true) (hsel : (Cond.selects C y y).before args s = true)
    (hcode : (Cond.code y bytes maxL ret).before args s = true) (hy : y.cls ≠ "java/lang/invoke/MethodHandle" ∧ y.cls ≠ "java/lang/invoke/VarHandle")
    {W9 : Nat} {Pre : Pt → Array Value → Prop} {Post : Pt → Array Value → Option Value → Pt → Prop} {PostX : Pt → Array Value → Addr → Pt → Prop} (hK : vx_Back l R p e below s args y 3 W9 Pre Post PostX)
    {b : Addr} {cellB : Cell} (hcell : T.heap[b]? = some cellB) (hobj : cellB.vm.isStatics = false) (hcls : s.vm.findClass C = some cellB.cls)
    {g : JFrame} (hg : g.method = m) (hsize : g.locals.size = c.maxLocals) {argsL rest : List Value} (hlen : ∀ sig, parseMethodDescriptor y.desc = some sig → argsL.length = sig.parameters.length)
    (hstack : g.stack = argsL.reverse ++ .ref b :: rest) (hW : 2 * g.monitorRoom + (rest.map fun v => v.category).sum ≤ W9) (hdg : decode c.code g.pc = .ok (.invokevirtual index, 3))
    (hpre : ∀ vm₁, s.WarmedH vm₁ → Pre ⟨T.setVm vm₁, locs, cells, slots⟩ (Value.ref b :: argsL).toArray) :
    (∃ (v : Option Value) (vm₁ : Vm) (B : Pt), s.WarmedH vm₁ ∧ Stand p l e R s m args below meth c B.U B.locs B.cells B.slots ∧ Post ⟨T.setVm vm₁, locs, cells, slots⟩ (Value.ref b :: argsL).toArray v B ∧
      ∀ target, Steps p.tables e below (B.U.setTop { g with pc := g.pc + 3, stack := v.toList ++ rest }) target → Steps p.tables e below (T.setTop g) target) ∨
    (∃ (q : Addr) (vm₁ : Vm) (B : Pt), s.WarmedH vm₁ ∧ Stand p l e R s m args below meth c B.U B.locs B.cells B.slots ∧ PostX ⟨T.setVm vm₁, locs, cells, slots⟩ (Value.ref b :: argsL).toArray q B ∧
      Steps p.tables e below (T.setTop g) ((B.U.setTop { g with stack := rest }).pushFrame (.throwing q))) := by
  obtain ⟨mk, methM, hnamed, hmethM, hstM, habM⟩ := Cond.instanceMethod_spec hinst
  obtain ⟨methM', cM, hmethM', -, -, -, -, -, -, hsigM⟩ := Cond.code_spec hnamed hcode
  cases hmethM.symm.trans hmethM'
  obtain ⟨c2, r2, m2, q1, q2, q3, q4, kP, hkP, hkPi⟩ := Cond.selects_spec hsel
  cases hcls.symm.trans q1
  cases (State.methodFound?_of_named hnamed hy).symm.trans q2
  cases hnamed.symm.trans q3
  have hselP : selectMethod e.platform s.vm cellB.cls mk = .method mk := by rw [Launch.admits_selectMethod X.admits]; exact q4
  obtain ⟨vm₁, X₁, hstep₁⟩ := X.invokevirtual hexec hown hlink hnamed hmethM hstM hkP hkPi hy (a := b) (cell := cellB) hcell
    (fun z h => by rw [h] at hobj; cases hobj) hselP hmethM habM hkP hkPi (g := g) hg (argsL := argsL) (rest := rest) (hlen _ hsigM) hstack hdg
  rcases hK m meth c ⟨T.setVm vm₁, locs, cells, slots⟩ { g with stack := rest } (.invokevirtual index) mk (Value.ref b :: argsL).toArray X₁ hg hsize hdg hW (X₁.named hnamed) (hpre vm₁ X₁.warmed) with ⟨v, B, X', hpost, hsteps⟩ | ⟨q, B, X', hpost, hsteps⟩
  · exact Or.inl ⟨v, vm₁, B, X₁.warmed, X', hpost, fun target h => hstep₁ _ fun acts => by rw [doInvoke_state]; exact hsteps.trans h⟩
  · exact Or.inr ⟨q, vm₁, B, X₁.warmed, X', hpost, hstep₁ _ fun acts => by rw [doInvoke_state]; exact hsteps⟩
theorem vx_callS (X : Stand p l e R s m args below meth c T locs cells slots) (hexec : p.tables.exec = Jvm.exec) {own : String} {index : Nat} {y : MethodName} {bytes : ByteArray} {maxL : Nat} {ret : Option FieldType}
    (hown : s.vm.findClass own = some m.cls) (hlink : (Cond.methodLink own index y).before args s = true) (hstat : (Cond.static y).before args s = true) (hinit : (Cond.initialized y.cls).before args s = true)
    (hcode : (Cond.code y bytes maxL ret).before args s = true) (hy : y.cls ≠ "java/lang/invoke/MethodHandle" ∧ y.cls ≠ "java/lang/invoke/VarHandle")
    {W9 : Nat} {Pre : Pt → Array Value → Prop} {Post : Pt → Array Value → Option Value → Pt → Prop} {PostX : Pt → Array Value → Addr → Pt → Prop} (hK : vx_Back l R p e below s args y 3 W9 Pre Post PostX)
    {g : JFrame} (hg : g.method = m) (hsize : g.locals.size = c.maxLocals) {argsL rest : List Value} (hlen : ∀ sig, parseMethodDescriptor y.desc = some sig → argsL.length = sig.parameters.length)
    (hstack : g.stack = argsL.reverse ++ rest) (hW : 2 * g.monitorRoom + (rest.map fun v => v.category).sum ≤ W9) (hdg : decode c.code g.pc = .ok (.invokestatic index, 3))
    (hpre : ∀ vm₁, s.WarmedH vm₁ → Pre ⟨T.setVm vm₁, locs, cells, slots⟩ argsL.toArray) :
    (∃ (v : Option Value) (vm₁ : Vm) (B : Pt), s.WarmedH vm₁ ∧ Stand p l e R s m args below meth c B.U B.locs B.cells B.slots ∧ Post ⟨T.setVm vm₁, locs, cells, slots⟩ argsL.toArray v B ∧
      ∀ target, Steps p.tables e below (B.U.setTop { g with pc := g.pc + 3, stack := v.toList ++ rest }) target → Steps p.tables e below (T.setTop g) target) ∨
    (∃ (q : Addr) (vm₁ : Vm) (B : Pt), s.WarmedH vm₁ ∧ Stand p l e R s m args below meth c B.U B.locs B.cells B.slots ∧ PostX ⟨T.setVm vm₁, locs, cells, slots⟩ argsL.toArray q B ∧
      Steps p.tables e below (T.setTop g) ((B.U.setTop { g with stack := rest }).pushFrame (.throwing q))) := by
  obtain ⟨mk, hnamed⟩ := Cond.code_named hcode
  obtain ⟨methM, cM, hmethM, -, -, -, -, -, -, hsigM⟩ := Cond.code_spec hnamed hcode
  have hstatic : methM.isStatic = true := Cond.static_spec hnamed hmethM hstat
  obtain ⟨kP, hkP, -⟩ := className_of_methodNamed hnamed
  have hinitP : kP.init = .initialized := Cond.initialized_spec (findClass_of_methodNamed hnamed) hkP hinit
  obtain ⟨vm₁, X₁, hstep₁⟩ := X.invokestatic hexec hown hlink hnamed hmethM hstatic hkP hinitP hy (g := g) hg (argsL := argsL) (rest := rest) (hlen _ hsigM) hstack hdg
  rcases hK m meth c ⟨T.setVm vm₁, locs, cells, slots⟩ { g with stack := rest } (.invokestatic index) mk argsL.toArray X₁ hg hsize hdg hW (X₁.named hnamed) (hpre vm₁ X₁.warmed) with ⟨v, B, X', hpost, hsteps⟩ | ⟨q, B, X', hpost, hsteps⟩
  · exact Or.inl ⟨v, vm₁, B, X₁.warmed, X', hpost, fun target h => hstep₁ _ fun acts => by rw [doInvoke_state]; exact hsteps.trans h⟩
  · exact Or.inr ⟨q, vm₁, B, X₁.warmed, X', hpost, hstep₁ _ fun acts => by rw [doInvoke_state]; exact hsteps⟩
end Calls
theorem vx_cls {s : State} {T : State} {vm₁ : Vm} {E : String} {k : ClassId} (hW : s.WarmedH vm₁) (h : (T.setVm vm₁).vm.findClass E = some k) : s.vm.findClass E = some k := by
  have h1 : vm₁.findClass E = some k := h
  rw [hW.alike.findClass] at h1
  exact h1
/-- the method's frame g, with q thrown over it -/
def vx_W (p : Program) (l : Launch) (e : Env) (R : Room) (s : State) (m : MethodId) (args : Array Value) (below : List Frame) (meth : Method) (c : Code) (H : Heap) (locs : List Loc) (cells slots : Nat) (Q : State → Prop) (g : JFrame) (q : Addr) : Prop :=
  ∀ T : State, T.heap = H → Stand p l e R s m args below meth c T locs cells slots → ∃ t, Steps p.tables e below ((T.setTop g).pushFrame (.throwing q)) t ∧ Q t
def vx_Run (p : Program) (l : Launch) (e : Env) (R : Room) (s : State) (m : MethodId) (args : Array Value) (below : List Frame) (meth : Method) (c : Code) (H : Heap) (locs : List Loc) (cells slots mc ms : Nat) (g : JFrame) (rest : List Value) (Qa : State → Outcome → State → Prop) (XC : String → State → State → Prop) (free : Addr → Prop) : Prop :=
  ∀ T : State, T.heap = H → Stand p l e R s m args below meth c T locs cells slots →
    (∃ (v : Option Value) (st₀ t T' : State) (L : List Loc), st₀.heap = H ∧ Stand p l e R s m args below meth c T' (locs ++ L) (cells + mc) (slots + ms) ∧ (∀ q ∈ L, free q.base) ∧ T'.heap = t.heap ∧ T'.vm = t.vm ∧ Qa st₀ (.returned v) t ∧
      Goes p e below T g T' { g with pc := g.pc + 3, stack := v.toList ++ rest }) ∨
    (∃ (q : Addr) (st₀ t T' : State) (L : List Loc) (E : String) (ce : Cell), st₀.heap = H ∧ Stand p l e R s m args below meth c T' (locs ++ L) (cells + mc) (slots + ms) ∧ (∀ z ∈ L, free z.base) ∧ T'.heap = t.heap ∧ T'.vm = t.vm ∧ XC E st₀ t ∧ t.heap[q]? = some ce ∧ ce.vm = .none ∧ s.vm.findClass E = some ce.cls ∧
      Steps p.tables e below (T.setTop g) ((T'.setTop { g with stack := rest }).pushFrame (.throwing q)))
def vx_X {S : Type} (px : S → Prop) (B : String → S → State → Prop) (A : Nat → Prop) : String → State → State → Prop := fun E st t => ∃ u : S, px u ∧ B E u t ∧ va_F A st t
section Runs
variable {p : Program} {l : Launch} {e : Env} {R : Room} {s : State} {m : MethodId} {args : Array Value} {below : List Frame} {meth : Method} {c : Code} {H : Heap} {locs : List Loc} {cells slots : Nat}
variable {y : MethodName} {bytes cc : ByteArray} {maxL nL mc ms n index : Nat} {ret : Option FieldType} {ws : List Cond} {rm : Room} {Pc : Array Value → State → Prop} {Qc : Array Value → State → Outcome → State → Prop} {XC : String → State → State → Prop} {free : Addr → Prop} {Ts : List Cond} {own C : String} {b : Addr} {As rest : List Value} {g : JFrame}
theorem vx_callBack (cb : CallB R s args own index y bytes maxL ret ws rm mc ms n) (hM : vx_Met l y ws rm Pc Qc XC mc ms free) (hbl : FrameBlind Pc) : vx_Back l R p e below s args y 3 8 (PreOf R mc ms Pc) (PostOf Qc mc ms free) (vx_Post XC mc ms free) := by
  obtain ⟨hrc, hrs, hfr, hlo, hws, hcw, -, hini, -⟩ := cb
  exact vx_back (bytes := bytes) (maxL := maxL) (ret := ret) hM hbl hrc hrs hfr hlo hws hcw (fun a' U hW => word_at hW (Or.inl (by first | rfl | simp [Cond.onTables, Cond.keeps, Cond.steady])) hini)
theorem vx_runV (S : CallFix p m c cc nL s args Ts own) (hM : vx_Met l y ws rm Pc Qc XC mc ms free) (cw : CallW R s args own C index y bytes maxL ret ws rm mc ms n) (hp : PreV s H C b Pc As)
    (hg : g.method = m) (hn : As.length = n) (hsize : g.locals.size = nL) (hstack : g.stack = As.reverse ++ .ref b :: rest) (hW : 2 * g.monitorRoom + (rest.map fun v => v.category).sum ≤ 8) (hdg : decode cc g.pc = .ok (.invokevirtual index, 3)) (hf : cells + mc ≤ R.cells ∧ slots + ms ≤ R.slots) :
    vx_Run p l e R s m args below meth c H locs cells slots mc ms g rest (Qc (Value.ref b :: As).toArray) XC free := by
  have hK : vx_Back l R p e below s args y 3 8 (PreOf R mc ms Pc) (PostOf Qc mc ms free) (vx_Post XC mc ms free) := vx_callBack cw.1 hM hp.1
  obtain ⟨⟨-, -, -, -, -, -, hcode, -, hy, hlen, hl⟩, hin, hse⟩ := cw
  obtain ⟨hx, hb, hml, ho, -⟩ := S
  obtain ⟨-, ⟨cellB, hcB, hoB, hclB⟩, hPc⟩ := hp
  intro T hT X
  rcases vx_callV X hx (C := C) (bytes := bytes) (maxL := maxL) (ret := ret) ho hl hin hse hcode hy hK (by rw [hT]; exact hcB) hoB hclB hg (hsize.trans hml.symm) (argsL := As) (rest := rest) (fun sig h => hn.trans (hlen sig h)) hstack hW (by rw [hb]; exact hdg)
    (fun vm₁ hW₁ => ⟨hf.1, hf.2, hPc (T.setVm vm₁) hT hW₁⟩) with ⟨v, vm₁, ⟨U', l2, c2, s2⟩, hW₁, X', ⟨g', mk, t, L, e1, e2, hq, h1, hL, h2, h3⟩, st⟩ | ⟨q, vm₁, ⟨U', l2, c2, s2⟩, hW₁, X', ⟨g', mk, t, L, E, ce, e1, e2, hq, hce, hcv, hcl, h1, hL, h2, h3⟩, st⟩
  · dsimp only [Pt.U, Pt.locs, Pt.cells, Pt.slots] at X' e1 e2 h1 h2 h3 st
    subst h1; subst h2; subst h3
    exact Or.inl ⟨v, (T.setVm vm₁).calling g' mk (Value.ref b :: As).toArray, t, U', L, hT, X', hL, e1, e2, hq, st⟩
  · dsimp only [Pt.U, Pt.locs, Pt.cells, Pt.slots] at X' e1 e2 h1 h2 h3 st hcl
    subst h1; subst h2; subst h3
    exact Or.inr ⟨q, (T.setVm vm₁).calling g' mk (Value.ref b :: As).toArray, t, U', L, E, ce, hT, X', hL, e1, e2, hq, hce, hcv, vx_cls hW₁ hcl, st⟩
theorem vx_runS (S : CallFix p m c cc nL s args Ts own) (hM : vx_Met l y ws rm Pc Qc XC mc ms free) (cw : CallB R s args own index y bytes maxL ret ws rm mc ms n ∧ (Cond.static y).before args s = true) (hp : PreS s H Pc As)
    (hg : g.method = m) (hn : As.length = n) (hsize : g.locals.size = nL) (hstack : g.stack = As.reverse ++ rest) (hW : 2 * g.monitorRoom + (rest.map fun v => v.category).sum ≤ 8) (hdg : decode cc g.pc = .ok (.invokestatic index, 3)) (hf : cells + mc ≤ R.cells ∧ slots + ms ≤ R.slots) :
    vx_Run p l e R s m args below meth c H locs cells slots mc ms g rest (Qc As.toArray) XC free := by
  have hK : vx_Back l R p e below s args y 3 8 (PreOf R mc ms Pc) (PostOf Qc mc ms free) (vx_Post XC mc ms free) := vx_callBack cw.1 hM hp.1
  obtain ⟨⟨-, -, -, -, -, -, hcode, hini, hy, hlen, hl⟩, hstt⟩ := cw
  obtain ⟨hx, hb, hml, ho, -⟩ := S
  intro T hT X
  rcases vx_callS X hx (bytes := bytes) (maxL := maxL) (ret := ret) ho hl hstt hini hcode hy hK hg (hsize.trans hml.symm) (argsL := As) (rest := rest) (fun sig h => hn.trans (hlen sig h)) hstack hW (by rw [hb]; exact hdg)
    (fun vm₁ hW₁ => ⟨hf.1, hf.2, hp.2 (T.setVm vm₁) hT hW₁⟩) with ⟨v, vm₁, ⟨U', l2, c2, s2⟩, hW₁, X', ⟨g', mk, t, L, e1, e2, hq, h1, hL, h2, h3⟩, st⟩ | ⟨q, vm₁, ⟨U', l2, c2, s2⟩, hW₁, X', ⟨g', mk, t, L, E, ce, e1, e2, hq, hce, hcv, hcl, h1, hL, h2, h3⟩, st⟩
  · dsimp only [Pt.U, Pt.locs, Pt.cells, Pt.slots] at X' e1 e2 h1 h2 h3 st
    subst h1; subst h2; subst h3
    exact Or.inl ⟨v, (T.setVm vm₁).calling g' mk As.toArray, t, U', L, hT, X', hL, e1, e2, hq, st⟩
  · dsimp only [Pt.U, Pt.locs, Pt.cells, Pt.slots] at X' e1 e2 h1 h2 h3 st hcl
    subst h1; subst h2; subst h3
    exact Or.inr ⟨q, (T.setVm vm₁).calling g' mk As.toArray, t, U', L, E, ce, hT, X', hL, e1, e2, hq, hce, hcv, vx_cls hW₁ hcl, st⟩
end Runs
section Rows
variable {p : Program} {l : Launch} {e : Env} {R : Room} {s : State} {m : MethodId} {args : Array Value} {below : List Frame} {meth : Method} {c : Code} {H : Heap} {locs : List Loc} {cells slots : Nat} {Q : State → Prop}
variable {mc ms : Nat} {free : Addr → Prop} {A0 A1 : Nat → Prop} {H0 : Heap} {a : Array Value} {pc : Nat} {ls : Array Slot} {st0 rest : List Value}
theorem vx_keep {st₀ t T' : State} {L : List Loc} (h0 : st₀.heap = H) (e1 : T'.heap = t.heap) (hS : va_S A0 H0 H locs) (hA : ∀ q, q < H.size → A1 q → A0 q) (hf : ∀ q, free q → A0 q) (hL : ∀ q ∈ L, free q.base) (hF : va_F A1 st₀ t) :
    H.size ≤ T'.heap.size ∧ (∀ q : Nat, q < H.size → ¬ A1 q → T'.heap[q]? = H[q]?) ∧ va_S A0 H0 T'.heap (locs ++ L) := by
  obtain ⟨hz, hk⟩ := hF
  rw [h0] at hz hk
  exact ⟨by rw [e1]; exact hz, fun q h1 h2 => by rw [e1]; exact hk q h1 h2,
    ⟨Nat.le_trans hS.1 (by rw [e1]; exact hz), fun q h1 h2 => by rw [e1, hk q (Nat.lt_of_lt_of_le h1 hS.1) (fun z => h2 (hA q (Nat.lt_of_lt_of_le h1 hS.1) z))]; exact hS.2.1 q h1 h2, fun q hq => by
      rcases List.mem_append.mp hq with h | h
      · exact hS.2.2 q h
      · exact hf _ (hL q h)⟩⟩
theorem vx_calli {S SX : Type} {post : Int32 → S → Prop} {px : SX → Prop} {B : S → State → Prop} {BX : String → SX → State → Prop} {AX : Nat → Prop} (hr : vx_Run p l e R s m args below meth c H locs cells slots mc ms (F0 m pc ls st0) rest (va_Qi post B A1 a) (vx_X px BX AX) free) (hS : va_S A0 H0 H locs) (hA : ∀ q, q < H.size → A1 q → A0 q) (hf : ∀ q, free q → A0 q) (hAX : ∀ q, q < H.size → AX q → A0 q)
    (kx : ∀ (E : String) (ce : Cell) (q9 : Addr) (u : SX) (t : State) (H1 : Heap) (locs1 : List Loc), t.heap = H1 → s.vm.Alike t.vm → px u → BX E u t → H.size ≤ H1.size → (∀ q : Nat, q < H.size → ¬ AX q → H1[q]? = H[q]?) → va_S A0 H0 H1 locs1 → H1[q9]? = some ce → ce.vm = .none → s.vm.findClass E = some ce.cls → vx_W p l e R s m args below meth c H1 locs1 (cells + mc) (slots + ms) Q (F0 m pc ls rest) q9)
    (kk : ∀ (r : Int32) (u : S) (t : State) (H1 : Heap) (locs1 : List Loc), t.heap = H1 → s.vm.Alike t.vm → post r u → B u t → H.size ≤ H1.size → (∀ q : Nat, q < H.size → ¬ A1 q → H1[q]? = H[q]?) → va_S A0 H0 H1 locs1 → W p l e R s m args below meth c H1 locs1 (cells + mc) (slots + ms) Q (F0 m (pc + 3) ls (.int r :: rest))) : W p l e R s m args below meth c H locs cells slots Q (F0 m pc ls st0) := by
  intro T hT X
  rcases hr T hT X with ⟨v, st₀, t, T', L, h0, X', hL, e1, e2, ⟨⟨r, u, hv, hp, hb⟩, hF⟩, st⟩ | ⟨q, st₀, t, T', L, E, ce, h0, X', hL, e1, e2, ⟨u, hp, hb, hF⟩, hce, hcv, hcl, st⟩
  · cases hv
    obtain ⟨k1, k2, k3⟩ := vx_keep h0 e1 hS hA hf hL hF
    obtain ⟨t2, a1, b1⟩ := kk r u t T'.heap (locs ++ L) e1.symm (by rw [← e2]; exact X'.warmed.alike) hp hb k1 k2 k3 T' rfl X'
    exact ⟨t2, st t2 a1, b1⟩
  · obtain ⟨k1, k2, k3⟩ := vx_keep h0 e1 hS hAX hf hL hF
    obtain ⟨t2, a1, b1⟩ := kx E ce q u t T'.heap (locs ++ L) e1.symm (by rw [← e2]; exact X'.warmed.alike) hp hb k1 k2 k3 (by rw [e1]; exact hce) hcv hcl T' rfl X'
    exact ⟨t2, st.trans a1, b1⟩
theorem vx_calll {S SX : Type} {post : Int64 → S → Prop} {px : SX → Prop} {B : S → State → Prop} {BX : String → SX → State → Prop} {AX : Nat → Prop} (hr : vx_Run p l e R s m args below meth c H locs cells slots mc ms (F0 m pc ls st0) rest (va_Ql post B A1 a) (vx_X px BX AX) free) (hS : va_S A0 H0 H locs) (hA : ∀ q, q < H.size → A1 q → A0 q) (hf : ∀ q, free q → A0 q) (hAX : ∀ q, q < H.size → AX q → A0 q)
    (kx : ∀ (E : String) (ce : Cell) (q9 : Addr) (u : SX) (t : State) (H1 : Heap) (locs1 : List Loc), t.heap = H1 → s.vm.Alike t.vm → px u → BX E u t → H.size ≤ H1.size → (∀ q : Nat, q < H.size → ¬ AX q → H1[q]? = H[q]?) → va_S A0 H0 H1 locs1 → H1[q9]? = some ce → ce.vm = .none → s.vm.findClass E = some ce.cls → vx_W p l e R s m args below meth c H1 locs1 (cells + mc) (slots + ms) Q (F0 m pc ls rest) q9)
    (kk : ∀ (r : Int64) (u : S) (t : State) (H1 : Heap) (locs1 : List Loc), t.heap = H1 → s.vm.Alike t.vm → post r u → B u t → H.size ≤ H1.size → (∀ q : Nat, q < H.size → ¬ A1 q → H1[q]? = H[q]?) → va_S A0 H0 H1 locs1 → W p l e R s m args below meth c H1 locs1 (cells + mc) (slots + ms) Q (F0 m (pc + 3) ls (.long r :: rest))) : W p l e R s m args below meth c H locs cells slots Q (F0 m pc ls st0) := by
  intro T hT X
  rcases hr T hT X with ⟨v, st₀, t, T', L, h0, X', hL, e1, e2, ⟨⟨r, u, hv, hp, hb⟩, hF⟩, st⟩ | ⟨q, st₀, t, T', L, E, ce, h0, X', hL, e1, e2, ⟨u, hp, hb, hF⟩, hce, hcv, hcl, st⟩
  · cases hv
    obtain ⟨k1, k2, k3⟩ := vx_keep h0 e1 hS hA hf hL hF
    obtain ⟨t2, a1, b1⟩ := kk r u t T'.heap (locs ++ L) e1.symm (by rw [← e2]; exact X'.warmed.alike) hp hb k1 k2 k3 T' rfl X'
    exact ⟨t2, st t2 a1, b1⟩
  · obtain ⟨k1, k2, k3⟩ := vx_keep h0 e1 hS hAX hf hL hF
    obtain ⟨t2, a1, b1⟩ := kx E ce q u t T'.heap (locs ++ L) e1.symm (by rw [← e2]; exact X'.warmed.alike) hp hb k1 k2 k3 (by rw [e1]; exact hce) hcv hcl T' rfl X'
    exact ⟨t2, st.trans a1, b1⟩
theorem vx_callf {S SX : Type} {post : UInt32 → S → Prop} {px : SX → Prop} {B : S → State → Prop} {BX : String → SX → State → Prop} {AX : Nat → Prop} (hr : vx_Run p l e R s m args below meth c H locs cells slots mc ms (F0 m pc ls st0) rest (va_Qf post B A1 a) (vx_X px BX AX) free) (hS : va_S A0 H0 H locs) (hA : ∀ q, q < H.size → A1 q → A0 q) (hf : ∀ q, free q → A0 q) (hAX : ∀ q, q < H.size → AX q → A0 q)
    (kx : ∀ (E : String) (ce : Cell) (q9 : Addr) (u : SX) (t : State) (H1 : Heap) (locs1 : List Loc), t.heap = H1 → s.vm.Alike t.vm → px u → BX E u t → H.size ≤ H1.size → (∀ q : Nat, q < H.size → ¬ AX q → H1[q]? = H[q]?) → va_S A0 H0 H1 locs1 → H1[q9]? = some ce → ce.vm = .none → s.vm.findClass E = some ce.cls → vx_W p l e R s m args below meth c H1 locs1 (cells + mc) (slots + ms) Q (F0 m pc ls rest) q9)
    (kk : ∀ (r : UInt32) (u : S) (t : State) (H1 : Heap) (locs1 : List Loc), t.heap = H1 → s.vm.Alike t.vm → post r u → B u t → H.size ≤ H1.size → (∀ q : Nat, q < H.size → ¬ A1 q → H1[q]? = H[q]?) → va_S A0 H0 H1 locs1 → W p l e R s m args below meth c H1 locs1 (cells + mc) (slots + ms) Q (F0 m (pc + 3) ls (.float r :: rest))) : W p l e R s m args below meth c H locs cells slots Q (F0 m pc ls st0) := by
  intro T hT X
  rcases hr T hT X with ⟨v, st₀, t, T', L, h0, X', hL, e1, e2, ⟨⟨r, u, hv, hp, hb⟩, hF⟩, st⟩ | ⟨q, st₀, t, T', L, E, ce, h0, X', hL, e1, e2, ⟨u, hp, hb, hF⟩, hce, hcv, hcl, st⟩
  · cases hv
    obtain ⟨k1, k2, k3⟩ := vx_keep h0 e1 hS hA hf hL hF
    obtain ⟨t2, a1, b1⟩ := kk r u t T'.heap (locs ++ L) e1.symm (by rw [← e2]; exact X'.warmed.alike) hp hb k1 k2 k3 T' rfl X'
    exact ⟨t2, st t2 a1, b1⟩
  · obtain ⟨k1, k2, k3⟩ := vx_keep h0 e1 hS hAX hf hL hF
    obtain ⟨t2, a1, b1⟩ := kx E ce q u t T'.heap (locs ++ L) e1.symm (by rw [← e2]; exact X'.warmed.alike) hp hb k1 k2 k3 (by rw [e1]; exact hce) hcv hcl T' rfl X'
    exact ⟨t2, st.trans a1, b1⟩
theorem vx_calld {S SX : Type} {post : UInt64 → S → Prop} {px : SX → Prop} {B : S → State → Prop} {BX : String → SX → State → Prop} {AX : Nat → Prop} (hr : vx_Run p l e R s m args below meth c H locs cells slots mc ms (F0 m pc ls st0) rest (va_Qd post B A1 a) (vx_X px BX AX) free) (hS : va_S A0 H0 H locs) (hA : ∀ q, q < H.size → A1 q → A0 q) (hf : ∀ q, free q → A0 q) (hAX : ∀ q, q < H.size → AX q → A0 q)
    (kx : ∀ (E : String) (ce : Cell) (q9 : Addr) (u : SX) (t : State) (H1 : Heap) (locs1 : List Loc), t.heap = H1 → s.vm.Alike t.vm → px u → BX E u t → H.size ≤ H1.size → (∀ q : Nat, q < H.size → ¬ AX q → H1[q]? = H[q]?) → va_S A0 H0 H1 locs1 → H1[q9]? = some ce → ce.vm = .none → s.vm.findClass E = some ce.cls → vx_W p l e R s m args below meth c H1 locs1 (cells + mc) (slots + ms) Q (F0 m pc ls rest) q9)
    (kk : ∀ (r : UInt64) (u : S) (t : State) (H1 : Heap) (locs1 : List Loc), t.heap = H1 → s.vm.Alike t.vm → post r u → B u t → H.size ≤ H1.size → (∀ q : Nat, q < H.size → ¬ A1 q → H1[q]? = H[q]?) → va_S A0 H0 H1 locs1 → W p l e R s m args below meth c H1 locs1 (cells + mc) (slots + ms) Q (F0 m (pc + 3) ls (.double r :: rest))) : W p l e R s m args below meth c H locs cells slots Q (F0 m pc ls st0) := by
  intro T hT X
  rcases hr T hT X with ⟨v, st₀, t, T', L, h0, X', hL, e1, e2, ⟨⟨r, u, hv, hp, hb⟩, hF⟩, st⟩ | ⟨q, st₀, t, T', L, E, ce, h0, X', hL, e1, e2, ⟨u, hp, hb, hF⟩, hce, hcv, hcl, st⟩
  · cases hv
    obtain ⟨k1, k2, k3⟩ := vx_keep h0 e1 hS hA hf hL hF
    obtain ⟨t2, a1, b1⟩ := kk r u t T'.heap (locs ++ L) e1.symm (by rw [← e2]; exact X'.warmed.alike) hp hb k1 k2 k3 T' rfl X'
    exact ⟨t2, st t2 a1, b1⟩
  · obtain ⟨k1, k2, k3⟩ := vx_keep h0 e1 hS hAX hf hL hF
    obtain ⟨t2, a1, b1⟩ := kx E ce q u t T'.heap (locs ++ L) e1.symm (by rw [← e2]; exact X'.warmed.alike) hp hb k1 k2 k3 (by rw [e1]; exact hce) hcv hcl T' rfl X'
    exact ⟨t2, st.trans a1, b1⟩
theorem vx_callv {S SX : Type} {post : S → Prop} {px : SX → Prop} {B : S → State → Prop} {BX : String → SX → State → Prop} {AX : Nat → Prop} (hr : vx_Run p l e R s m args below meth c H locs cells slots mc ms (F0 m pc ls st0) rest (va_Qv post B A1 a) (vx_X px BX AX) free) (hS : va_S A0 H0 H locs) (hA : ∀ q, q < H.size → A1 q → A0 q) (hf : ∀ q, free q → A0 q) (hAX : ∀ q, q < H.size → AX q → A0 q)
    (kx : ∀ (E : String) (ce : Cell) (q9 : Addr) (u : SX) (t : State) (H1 : Heap) (locs1 : List Loc), t.heap = H1 → s.vm.Alike t.vm → px u → BX E u t → H.size ≤ H1.size → (∀ q : Nat, q < H.size → ¬ AX q → H1[q]? = H[q]?) → va_S A0 H0 H1 locs1 → H1[q9]? = some ce → ce.vm = .none → s.vm.findClass E = some ce.cls → vx_W p l e R s m args below meth c H1 locs1 (cells + mc) (slots + ms) Q (F0 m pc ls rest) q9)
    (kk : ∀ (u : S) (t : State) (H1 : Heap) (locs1 : List Loc), t.heap = H1 → s.vm.Alike t.vm → post u → B u t → H.size ≤ H1.size → (∀ q : Nat, q < H.size → ¬ A1 q → H1[q]? = H[q]?) → va_S A0 H0 H1 locs1 → W p l e R s m args below meth c H1 locs1 (cells + mc) (slots + ms) Q (F0 m (pc + 3) ls (rest))) : W p l e R s m args below meth c H locs cells slots Q (F0 m pc ls st0) := by
  intro T hT X
  rcases hr T hT X with ⟨v, st₀, t, T', L, h0, X', hL, e1, e2, ⟨⟨u, hv, hp, hb⟩, hF⟩, st⟩ | ⟨q, st₀, t, T', L, E, ce, h0, X', hL, e1, e2, ⟨u, hp, hb, hF⟩, hce, hcv, hcl, st⟩
  · cases hv
    obtain ⟨k1, k2, k3⟩ := vx_keep h0 e1 hS hA hf hL hF
    obtain ⟨t2, a1, b1⟩ := kk u t T'.heap (locs ++ L) e1.symm (by rw [← e2]; exact X'.warmed.alike) hp hb k1 k2 k3 T' rfl X'
    exact ⟨t2, st t2 a1, b1⟩
  · obtain ⟨k1, k2, k3⟩ := vx_keep h0 e1 hS hAX hf hL hF
    obtain ⟨t2, a1, b1⟩ := kx E ce q u t T'.heap (locs ++ L) e1.symm (by rw [← e2]; exact X'.warmed.alike) hp hb k1 k2 k3 (by rw [e1]; exact hce) hcv hcl T' rfl X'
    exact ⟨t2, st.trans a1, b1⟩
end Rows
section Ends
variable {p : Program} {l : Launch} {e : Env} {R : Room} {s : State} {m : MethodId} {args : Array Value} {below : List Frame} {meth : Method} {c : Code} {H : Heap} {locs : List Loc} {cells slots : Nat} {Q : State → Prop}
variable {mc ms : Nat} {free : Addr → Prop} {A0 A1 : Nat → Prop} {H0 : Heap} {a : Array Value} {ls : Array Slot} {st0 rest : List Value}
variable {Qc : Array Value → State → Outcome → State → Prop} {XC : String → State → State → Prop}
/-- what a body that may throw owes at its end -/
def vx_MQ (below : List Frame) (Qc : Array Value → State → Outcome → State → Prop) (XC : String → State → State → Prop) (a : Array Value) (s : State) (mc ms : Nat) (free : Addr → Prop) : State → Prop := fun t =>
  ∃ o, t.status = .running ∧ Ended t below o ∧ vx_Q Qc XC mc ms free a s o t
theorem vx_ret {g : JFrame} {mc ms : Nat} (k : W p l e R s m args below meth c H locs cells slots (MQ below Qc args s mc ms free) g) : W p l e R s m args below meth c H locs cells slots (vx_MQ below Qc XC args s mc ms free) g := by
  intro T hT X
  obtain ⟨t, a1, o, b1, b2, b3, b4⟩ := k T hT X
  exact ⟨t, a1, o, b1, b2, Or.inl ⟨b3, b4⟩⟩
/-- not caught here: it goes on to the caller -/
theorem vx_widen {g : JFrame} {q : Addr} {k n : Nat} (h1 : cells ≤ k) (h2 : slots ≤ n) (kk : vx_W p l e R s m args below meth c H locs k n Q g q) : vx_W p l e R s m args below meth c H locs cells slots Q g q := fun T hT X => kk T hT (stand_widen X h1 h2)
theorem vx_out {pc : Nat} {E : String} {ce : Cell} {q : Addr} {mc ms : Nat} (hout : ∀ x ∈ c.exceptionTable.toList, covers x pc = false) (hlocks : meth.locks = false) (hcell : H[q]? = some ce) (hv : ce.vm = .none) (hcl : s.vm.findClass E = some ce.cls)
    (hx : ∀ t : State, t.heap = H → s.vm.Alike t.vm → XC E s t) (hf : ∀ z ∈ locs, free z.base) (hc : cells ≤ mc) (hs : slots ≤ ms) :
    vx_W p l e R s m args below meth c H locs cells slots (vx_MQ below Qc XC args s mc ms free) (F0 m pc ls rest) q := by
  intro T hT X
  obtain ⟨st1, hrun, hend, hW, hsm⟩ := X.leaveThrown q (g := F0 m pc ls rest) rfl rfl rfl hout hlocks
  have hcell9 : (T.setFrames (.throwing q :: below)).heap[q]? = some ce := by
    show T.heap[q]? = some ce
    rw [hT]; exact hcell
  exact ⟨_, st1, .threw q, hrun, hend, Or.inr ⟨q, rfl, E, ce, locs, hx _ hT hW.alike, hcell9, hv, hcl, hW, hsm.mono hc hs, hf⟩⟩
theorem vx_frame {U : State} {k n : Nat} (h : s.sameButNew ({ U with vm := s.vm } : State) locs k n) : s.heap.size ≤ U.heap.size ∧ ∀ q : Nat, q < s.heap.size → (∀ z ∈ locs, z.base ≠ q) → U.heap[q]? = s.heap[q]? := by
  obtain ⟨-, h2, -, -, -, h6⟩ := h
  refine ⟨h2, fun q hq hz => ?_⟩
  obtain ⟨c9, e1, e2, e3, e4⟩ := h6 q _ (Array.getElem?_eq_getElem hq)
  have hs : c9.slots = (s.heap[q]).slots := Array.ext_getElem? fun i => e4 i fun hm => hz _ hm rfl
  have h9 : c9 = s.heap[q] := by
    rw [hs] at e2
    exact e2
  have e5 : U.heap[q]? = some c9 := e1
  rw [e5, h9, Array.getElem?_eq_getElem hq]
/-- the words of a throw but the four that speak of the heap -/
def vx_no (w : Cond) : Bool := decide (w ≠ .isRef (.static Bundle.tN "UNASSIGNED_STACK" Bundle.steD)) && decide (w ≠ .isRef (.static Bundle.tN "SUPPRESSED_SENTINEL" Bundle.listD)) && decide (w ≠ .laysStatic Bundle.tN "UNASSIGNED_STACK" Bundle.steD) && decide (w ≠ .laysStatic Bundle.tN "SUPPRESSED_SENTINEL" Bundle.listD)
def vx_at0 (own : String) (ic : Nat) (X : String) (names : List String) : List Cond := (Bundle.ownAtoms0 own ic X names).filter vx_no
def vx_atS (own : String) (ic : Nat) (X : String) (names : List String) : List Cond := (Bundle.ownAtoms own ic X names).filter vx_no
/-- a word that the tables alone decide, or a good one -/
def vx_ot (w : Cond) : Bool := w.onTables || goodWord w
theorem vx_ot_at {args a' : Array Value} {s U : State} {w : Cond} (hW : s.WarmedH U.vm) (hvm : s.vm = U.vm) (hg : vx_ot w = true) (h : w.before args s = true) : w.before a' U = true := by
  simp only [vx_ot, Bool.or_eq_true] at hg
  rcases hg with hg | hg
  · exact va_tabs hg hvm h
  · exact word_at hW (good_of_word hg) h
/-- a list's words: the good ones out of the method's own list, the others by premises of their own -/
theorem vx_hat {args : Array Value} {s : State} {L B : List Cond} (h1 : ∀ w ∈ L.filter goodWord, w.before args s = true) (h2 : ∀ w ∈ L.filter (fun w => !goodWord w), w ∈ B) (h3 : ∀ w ∈ B, w.before args s = true) : ∀ w ∈ L, w.before args s = true := by
  intro w hw
  by_cases g : goodWord w = true
  · exact h1 w (List.mem_filter.mpr ⟨hw, g⟩)
  · refine h3 w (h2 w (List.mem_filter.mpr ⟨hw, ?_⟩))
    show (!goodWord w) = true
    cases hgw : goodWord w
    · rfl
    · exact absurd hgw g
theorem vx_c {args : Array Value} {s : State} {w : Cond} {B : List Cond} (h : w.before args s = true) (t : ∀ w ∈ B, w.before args s = true) : ∀ w' ∈ w :: B, w'.before args s = true := fun w' h' => (List.mem_cons.mp h').elim (fun e => by rw [e]; exact h) (t w')
theorem vx_n {args : Array Value} {s : State} : ∀ w ∈ ([] : List Cond), w.before args s = true := fun _ h => nomatch h
theorem vx_own {args : Array Value} {s : State} {L : List Cond} (h1 : ∀ w ∈ L.filter vx_no, w.before args s = true)
    (hU : (Cond.isRef (.static Bundle.tN "UNASSIGNED_STACK" Bundle.steD)).before args s = true) (hN : (Cond.isRef (.static Bundle.tN "SUPPRESSED_SENTINEL" Bundle.listD)).before args s = true)
    (lU : (Cond.laysStatic Bundle.tN "UNASSIGNED_STACK" Bundle.steD).before args s = true) (lN : (Cond.laysStatic Bundle.tN "SUPPRESSED_SENTINEL" Bundle.listD).before args s = true) : ∀ w ∈ L, w.before args s = true := by
  intro w hw
  by_cases e1 : w = .isRef (.static Bundle.tN "UNASSIGNED_STACK" Bundle.steD)
  · rw [e1]; exact hU
  · by_cases e2 : w = .isRef (.static Bundle.tN "SUPPRESSED_SENTINEL" Bundle.listD)
    · rw [e2]; exact hN
    · by_cases e3 : w = .laysStatic Bundle.tN "UNASSIGNED_STACK" Bundle.steD
      · rw [e3]; exact lU
      · by_cases e4 : w = .laysStatic Bundle.tN "SUPPRESSED_SENTINEL" Bundle.listD
        · rw [e4]; exact lN
        · exact h1 w (List.mem_filter.mpr ⟨hw, by unfold vx_no; rw [decide_eq_true e1, decide_eq_true e2, decide_eq_true e3, decide_eq_true e4]; rfl⟩)
/-- where a static field lies, its class's statics cell in H -/
def vx_L (C n d : String) (A : Nat → Prop) (U : State) (H : Heap) : Prop := ∃ (c : ClassId) (k : Class) (i : Nat) (f : Field) (a : Nat) (cell : Cell), U.vm.findClass C = some c ∧ U.fieldFound? C n d = some (c, k, i, f) ∧ f.isStatic = true ∧ k.statics = some a ∧ H[a]? = some cell ∧ cell.vm.isStatics = true ∧ cell.cls = c ∧ f.slot < cell.slots.size ∧ k.staticTypes[f.slot]? = some f.type ∧ ¬ A a
theorem vx_L.moved {C n d : String} {A : Nat → Prop} {u U : State} {H : Heap} (hvm : u.vm.Alike U.vm) (h : vx_L C n d A u H) : vx_L C n d A U H := by
  obtain ⟨c, k, i, f, a, cell, h1, h2, h3, h4, h5, h6, h7, h8, h9, h10⟩ := h
  obtain ⟨k', hi', he⟩ := State.fieldFound?_setVm hvm h2
  exact ⟨c, k', i, f, a, cell, by rw [hvm.findClass]; exact h1, hi', h3, by rw [he]; exact h4, h5, h6, h7, h8, by rw [he]; exact h9, h10⟩
theorem vx_L.kept {C n d : String} {A : Nat → Prop} {U : State} {H H1 : Heap} (h : vx_L C n d A U H) (hq : ∀ a : Nat, a < H.size → ¬ A a → H1[a]? = H[a]?) : vx_L C n d A U H1 := by
  obtain ⟨c, k, i, f, a, cell, h1, h2, h3, h4, h5, h6, h7, h8, h9, h10⟩ := h
  exact ⟨c, k, i, f, a, cell, h1, h2, h3, h4, by rw [hq a (Array.getElem?_eq_some_iff.mp h5).1 h10]; exact h5, h6, h7, h8, h9, h10⟩
theorem vx_L.narrow {C n d : String} {A B : Nat → Prop} {U : State} {H : Heap} (h : vx_L C n d A U H) (hAB : ∀ q, B q → A q) : vx_L C n d B U H := by
  obtain ⟨c, k, i, f, a, cell, h1, h2, h3, h4, h5, h6, h7, h8, h9, h10⟩ := h
  exact ⟨c, k, i, f, a, cell, h1, h2, h3, h4, h5, h6, h7, h8, h9, fun z => h10 (hAB _ z)⟩
theorem vx_L.word {C n d : String} {A : Nat → Prop} {s : State} {args : Array Value} (h : vx_L C n d A s s.heap) : (Cond.laysStatic C n d).before args s = true := by
  obtain ⟨c, k, i, f, a, cell, h1, h2, h3, h4, h5, h6, h7, h8, h9, -⟩ := h
  show (Cond.laysStatic C n d).holds args s none s [] = true
  exact Cond.laysStatic_of h1 h2 h3 h4 h5 h6 h7 h8 h9
/-- .. and what it holds: null or some reference -/
def vx_Zq (C n d : String) (A : Nat → Prop) (U : State) (H : Heap) : Prop := va_Zq C n d A U H ∧ vx_L C n d A U H
theorem vx_Zq.moved {C n d : String} {A : Nat → Prop} {u U : State} {H : Heap} (hvm : u.vm.Alike U.vm) (h : vx_Zq C n d A u H) : vx_Zq C n d A U H := ⟨va_Zq.moved hvm h.1, vx_L.moved hvm h.2⟩
theorem vx_Zq.kept {C n d : String} {A : Nat → Prop} {U : State} {H H1 : Heap} (h : vx_Zq C n d A U H) (hq : ∀ a : Nat, a < H.size → ¬ A a → H1[a]? = H[a]?) : vx_Zq C n d A U H1 := ⟨va_Zq.kept h.1 hq, vx_L.kept h.2 hq⟩
theorem vx_Zq.narrow {C n d : String} {A B : Nat → Prop} {U : State} {H : Heap} (h : vx_Zq C n d A U H) (hAB : ∀ q, B q → A q) : vx_Zq C n d B U H := ⟨va_Zq.narrow h.1 hAB, vx_L.narrow h.2 hAB⟩
theorem vx_Zqof {args : Array Value} {s : State} {C n d : String} {A : Nat → Prop} (hl : (Cond.laysStatic C n d).before args s = true) (hini : (Cond.initialized C).before args s = true) (h : (Cond.isRef (.static C n d)).before args s = true) (hA : ∀ a : Nat, a < s.heap.size → ¬ A a) : vx_Zq C n d A s s.heap := by
  refine ⟨va_Zqof hl hini h hA, ?_⟩
  obtain ⟨c, k, i, f, a, cell, h1, h2, h3, h4, h5, h6, h7, h8, h9⟩ := Cond.laysStatic_spec hl
  exact ⟨c, k, i, f, a, cell, h1, h2, h3, h4, h5, h6, h7, h8, h9, hA a (Array.getElem?_eq_some_iff.mp h5).1⟩
theorem vx_isRef {C n d : String} {v : Value} {A : Nat → Prop} {s : State} {args : Array Value} (h : va_Z C n d v A s s.heap) (hv : v.isRef = true) : (Cond.isRef (.static C n d)).before args s = true := by
  obtain ⟨cf, kf, fi, f, a, cell, h1, h2, h3, h4, h5, h6, h7, -⟩ := h
  have he : (Term.static C n d).eval args s none [] s = some v := by
    simp [Term.eval, State.fieldNamed?, h1, h2, h4, h5, h6, h7]
  simp only [Cond.before, Cond.holds, Cond.value, he]
  cases v <;> simp_all [Value.isRef]
theorem vx_isRefq {C n d : String} {A : Nat → Prop} {s : State} {args : Array Value} (h : va_Zq C n d A s s.heap) : (Cond.isRef (.static C n d)).before args s = true := by
  rcases h with h | ⟨t, h⟩
  · exact vx_isRef h rfl
  · exact vx_isRef h rfl
/-- the same frame, seen from here: as if the method were called anew in this heap -/
theorem vx_rebase {T : State} (X : Stand p l e R s m args below meth c T locs cells slots) {R' : Room} (hf : R'.frames ≤ R.frames) (hl : R'.locals ≤ R.locals) (hc : cells + R'.cells ≤ R.cells) (hs : slots + R'.slots ≤ R.slots) :
    Stand p l e R' ((T.setVm s.vm).setFrames (.invoking m args :: below)) m args below meth c T [] 0 0 := by
  have htop : (T.setVm s.vm).topJava?.isSome := X.here.top
  have hF : ((T.setVm s.vm).setFrames (.invoking m args :: below)).frames = .invoking m args :: below := State.frames_setFrames _ (State.cur_lt_of_top htop)
  obtain ⟨g₀, hg0⟩ := Option.isSome_iff_exists.mp htop
  obtain ⟨r, hr⟩ := State.topJava?_eq_some.mp hg0
  have hl9 : e.platform.stackLimits (T.setVm s.vm).me = e.platform.stackLimits s.me := X.limits
  have hb9 : (T.setVm s.vm).me.stackBytes = s.me.stackBytes := X.bytes
  refine ⟨X.admits, X.cas, X.clock, hF, ?_, X.hears, X.method, X.code, X.here, X.tail, X.warmed, ?_, ?_, ?_⟩
  · have h := X.room
    have hU : ((T.setVm s.vm).setFrames (.invoking m args :: below)).localsInUse = s.localsInUse := by
      rw [State.localsInUse_invoking hF (meth := meth) (c := c) X.method X.code, State.localsInUse_invoking X.frames X.method X.code]
    simp only [State.hasRoom, Bool.and_eq_true, decide_eq_true_eq] at h ⊢
    obtain ⟨⟨⟨⟨h1, h2, h3, h4, h5, h6⟩, h7⟩, h8⟩, h9⟩ := h
    rw [X.frames, List.length_cons] at h2 h3
    have q1 := X.heapSize
    have q2 := X.used
    simp only [hF, hU, List.length_cons, State.stackLimits_setFrames, State.stackBytes_setFrames, hl9, hb9]
    refine ⟨⟨⟨⟨by omega, by omega, by omega, by omega, by omega, h6⟩, ?_⟩, ?_⟩, X.book⟩
    · show T.heap.size + R'.cells ≤ e.platform.maxCells
      omega
    · show T.slotsUsed + R'.slots ≤ e.platform.maxSlots
      omega
  · rw [State.stackLimits_setFrames]; rfl
  · rw [State.stackBytes_setFrames]; rfl
  · refine ⟨?_, Nat.le_refl _, Nat.le_refl _, ?_, ?_, fun a c9 h9 => ⟨c9, h9, rfl, rfl, fun _ _ => rfl⟩⟩
    · obtain ⟨t, ht, -⟩ := State.frames_cons hr
      show T.setVm s.vm = { ((T.setVm s.vm).setFrames (.invoking m args :: below)).setFrames (T.setVm s.vm).frames with heap := T.heap, slotsUsed := T.slotsUsed }
      rw [State.setFrames_setFrames, State.setFrames_self ht]
      rfl
    · show T.slotsUsed = T.slotsUsed + ((T.heap.toList.drop T.heap.size).map (·.slots.size)).sum
      rw [List.drop_eq_nil_of_le (Nat.le_of_eq Array.length_toList)]
      rfl
    · show ((T.heap.toList.drop T.heap.size).map (·.slots.size)).sum ≤ 0
      rw [List.drop_eq_nil_of_le (Nat.le_of_eq Array.length_toList)]
      exact Nat.le_refl _
/-- 'throw new E()': new; dup; invokespecial; athrow -/
theorem vx_throw0 {cc : ByteArray} {pc : Nat} (hexec : p.tables.exec = Jvm.exec) (hb : c.code = cc) (hl : l.stackTraces = false) {own cls : String} {names : List String} {ik ic mc ms : Nat} {A : Nat → Prop}
    (hown : s.vm.findClass own = some m.cls) (hcls : Bundle.fit cls = true) (hnames : ∀ n ∈ names, Bundle.fit n = true)
    (hk : (Cond.classLink own ik cls).before args s = true) (hini : (Cond.initialized cls).before args s = true) (hat : ∀ w ∈ vx_at0 own ic cls names, w.before args s = true)
    (hgood : ∀ w ∈ Cond.classLink own ik cls :: Cond.initialized cls :: vx_at0 own ic cls names, vx_ot w = true)
    (hU : vx_Zq Bundle.tN "UNASSIGNED_STACK" Bundle.steD A s s.heap) (hN : vx_Zq Bundle.tN "SUPPRESSED_SENTINEL" Bundle.listD A s s.heap) (hS : va_S A s.heap H locs) (hsize : ls.size = c.maxLocals)
    (d0 : decode cc pc = .ok (.new ik, 3)) (d3 : decode cc (pc + 3) = .ok (.dup, 1)) (d4 : decode cc (pc + 4) = .ok (.invokespecial ic, 3)) (d7 : decode cc (pc + 7) = .ok (.athrow, 1))
    (hout : ∀ x ∈ c.exceptionTable.toList, covers x (pc + 7) = false)
    (hRframes : names.length + 3 < R.frames) (hRlocals : (rest.map fun v => v.category).sum + (13 * (names.length + 1) + 42) ≤ R.locals) (hRcells : cells + 1 ≤ R.cells) (hRslots : slots + 6 ≤ R.slots) (hlocks : meth.locks = false)
    (hx : ∀ t : State, s.vm.Alike t.vm → H.size ≤ t.heap.size → (∀ q : Nat, q < H.size → t.heap[q]? = H[q]?) → XC cls s t)
    (hf : ∀ z ∈ locs, free z.base) (hc : cells + 1 ≤ mc) (hs : slots + 6 ≤ ms) :
    W p l e R s m args below meth c H locs cells slots (vx_MQ below Qc XC args s mc ms free) (F0 m pc ls rest) := by
  intro T hT X
  have htr : e.platform.stackTraces = false := (show e.platform.stackTraces = l.stackTraces by rw [X.admits.platform]).trans hl
  have Y := vx_rebase X (R' := { frames := R.frames, locals := R.locals, cells := 1, slots := 6 }) (Nat.le_refl _) (Nat.le_refl _) hRcells hRslots
  obtain ⟨s', hA⟩ : ∃ z, z = (T.setVm s.vm).setFrames (.invoking m args :: below) := ⟨_, rfl⟩
  rw [← hA] at Y
  have hvm : s'.vm = s.vm := by rw [hA]; rfl
  have hhp : s'.heap = H := by rw [hA]; exact hT
  have hW0 : s.WarmedH s'.vm := by rw [hvm]; exact State.WarmedH.refl s
  have hat' : ∀ w ∈ vx_at0 own ic cls names, w.before args s' = true := fun w hw => vx_ot_at hW0 hvm.symm (hgood w (List.mem_cons_of_mem _ (List.mem_cons_of_mem _ hw))) (hat w hw)
  have hk' : (Cond.classLink own ik cls).before args s' = true := vx_ot_at hW0 hvm.symm (hgood _ List.mem_cons_self) hk
  have hini' : (Cond.initialized cls).before args s' = true := vx_ot_at hW0 hvm.symm (hgood _ (List.mem_cons_of_mem _ List.mem_cons_self)) hini
  have hU' : vx_Zq Bundle.tN "UNASSIGNED_STACK" Bundle.steD A s' s'.heap := by rw [hhp]; exact vx_Zq.moved hW0.alike (hU.kept hS.2.1)
  have hN' : vx_Zq Bundle.tN "SUPPRESSED_SENTINEL" Bundle.listD A s' s'.heap := by rw [hhp]; exact vx_Zq.moved hW0.alike (hN.kept hS.2.1)
  have h : ∀ w ∈ Bundle.ownAtoms0 own ic cls names, w.before args s' = true := vx_own hat' (vx_isRefq hU'.1) (vx_isRefq hN'.1) hU'.2.word hN'.2.word
  have hown' : s'.vm.findClass own = some m.cls := by rw [hvm]; exact hown
  have hins : (Cond.instantiable cls 6).before args s' = true := h _ (by simp [Bundle.ownAtoms0])
  obtain ⟨vm₁, cX, kX, hfX, hkX, -, -, X₁, st1⟩ := Y.newCold hexec (own := own) (C := cls) (index := ik) (n := 6) hown' hk' hins hini'
    (g := F0 m pc ls rest) rfl (by rw [hb]; exact d0) (Nat.le_refl _) (Nat.le_refl _)
  generalize hT1 : (T.setVm vm₁).pushCell { cls := cX, slots := kX.instanceTypes.map defaultValue, vm := .none } = T1 at X₁ st1
  have hcat : (Value.ref T.heap.size).category = 1 := rfl
  have hcellA : T1.heap[T.heap.size]? = some (freshCell cX kX) := by rw [← hT1]; exact State.heap_pushCell_size _ _
  have d3' : decode c.code (pc + 3) = .ok (.dup, 1) := by rw [hb]; exact d3
  obtain ⟨U, hsteps, hrun, hend, hW, hsame, ce, hce, hO⟩ := X₁.ctorThrow0 hexec htr (own := own) (cls := cls) (names := names) (ic := ic) hown' hcls hnames h (fun x hx => nomatch hx) hfX hkX hcellA (by rw [hhp, hT]; exact Nat.le_refl _)
    (g := { method := m, pc := pc + 4, locals := ls, stack := .ref T.heap.size :: .ref T.heap.size :: rest, locked := none }) rfl hsize rfl rfl (rest := rest) rfl
    (by rw [hb]; exact d4) (by rw [hb]; exact d7) hout hRframes (by simp only [List.map_cons, List.sum_cons, hcat]; omega) hlocks
  obtain ⟨f1, f2⟩ := vx_frame hsame
  rw [hhp] at f1 f2
  have hWs : s.WarmedH U.vm := State.WarmedH.trans hW0 hW
  have hcl : s.vm.findClass cls = some ce.cls := by
    have h9 := hO.cls
    rw [hvm] at h9
    exact h9
  have hall : s.sameButNew ({ U with vm := s.vm } : State) locs mc ms := by
    subst hA
    obtain ⟨e1, e2⟩ := hsame
    rw [State.setFrames_setFrames] at e1
    have h2 : (T.setVm s.vm).sameButNew ({ U with vm := s.vm } : State) [] (0 + 1) (0 + 6) := ⟨e1, e2⟩
    have h3 := X.same.trans h2
    rw [List.append_nil] at h3
    exact h3.mono hc hs
  refine ⟨U, ?_, .threw T.heap.size, hrun, hend, Or.inr ⟨T.heap.size, rfl, cls, ce, locs, hx U hWs.alike f1 (fun q hq => f2 q hq (fun z hz => nomatch hz)), hce, hO.vm, hcl, hWs, hall, hf⟩⟩
  refine st1 _ ?_
  show Steps p.tables e below (T1.setTop { method := m, pc := pc + 3, locals := ls, stack := .ref T.heap.size :: rest, locked := none }) _
  jvm_step X₁.here [X₁.here.top, hexec, d3', Value.category]
  exact hsteps
/-- 'throw new E("text")': new; dup; ldc; invokespecial; athrow -/
theorem vx_throwS {cc : ByteArray} {pc : Nat} (hexec : p.tables.exec = Jvm.exec) (hb : c.code = cc) (hl : l.stackTraces = false) {own cls text : String} {names : List String} {ik is ic mc ms sa : Nat} {A : Nat → Prop}
    (hown : s.vm.findClass own = some m.cls) (hcls : Bundle.fit cls = true) (hnames : ∀ n ∈ names, Bundle.fit n = true)
    (hk : (Cond.classLink own ik cls).before args s = true) (hini : (Cond.initialized cls).before args s = true) (hstr : vk_R own is text sa s) (hat : ∀ w ∈ vx_atS own ic cls names, w.before args s = true)
    (hgood : ∀ w ∈ Cond.classLink own ik cls :: Cond.initialized cls :: vx_atS own ic cls names, vx_ot w = true)
    (hU : vx_Zq Bundle.tN "UNASSIGNED_STACK" Bundle.steD A s s.heap) (hN : vx_Zq Bundle.tN "SUPPRESSED_SENTINEL" Bundle.listD A s s.heap) (hS : va_S A s.heap H locs) (hsize : ls.size = c.maxLocals)
    (d0 : decode cc pc = .ok (.new ik, 3)) (d3 : decode cc (pc + 3) = .ok (.dup, 1)) (d4 : decode cc (pc + 4) = .ok (.ldc is, 2)) (d6 : decode cc (pc + 6) = .ok (.invokespecial ic, 3)) (d9 : decode cc (pc + 9) = .ok (.athrow, 1))
    (hout : ∀ x ∈ c.exceptionTable.toList, covers x (pc + 9) = false)
    (hRframes : names.length + 3 < R.frames) (hRlocals : (rest.map fun v => v.category).sum + (13 * (names.length + 1) + 43) ≤ R.locals) (hRcells : cells + 1 ≤ R.cells) (hRslots : slots + 6 ≤ R.slots) (hlocks : meth.locks = false)
    (hx : ∀ t : State, s.vm.Alike t.vm → H.size ≤ t.heap.size → (∀ q : Nat, q < H.size → t.heap[q]? = H[q]?) → XC cls s t)
    (hf : ∀ z ∈ locs, free z.base) (hc : cells + 1 ≤ mc) (hs : slots + 6 ≤ ms) :
    W p l e R s m args below meth c H locs cells slots (vx_MQ below Qc XC args s mc ms free) (F0 m pc ls rest) := by
  intro T hT X
  have htr : e.platform.stackTraces = false := (show e.platform.stackTraces = l.stackTraces by rw [X.admits.platform]).trans hl
  have Y := vx_rebase X (R' := { frames := R.frames, locals := R.locals, cells := 1, slots := 6 }) (Nat.le_refl _) (Nat.le_refl _) hRcells hRslots
  obtain ⟨s', hA⟩ : ∃ z, z = (T.setVm s.vm).setFrames (.invoking m args :: below) := ⟨_, rfl⟩
  rw [← hA] at Y
  have hvm : s'.vm = s.vm := by rw [hA]; rfl
  have hhp : s'.heap = H := by rw [hA]; exact hT
  have hW0 : s.WarmedH s'.vm := by rw [hvm]; exact State.WarmedH.refl s
  have hat' : ∀ w ∈ vx_atS own ic cls names, w.before args s' = true := fun w hw => vx_ot_at hW0 hvm.symm (hgood w (List.mem_cons_of_mem _ (List.mem_cons_of_mem _ hw))) (hat w hw)
  have hk' : (Cond.classLink own ik cls).before args s' = true := vx_ot_at hW0 hvm.symm (hgood _ List.mem_cons_self) hk
  have hini' : (Cond.initialized cls).before args s' = true := vx_ot_at hW0 hvm.symm (hgood _ (List.mem_cons_of_mem _ List.mem_cons_self)) hini
  have hU' : vx_Zq Bundle.tN "UNASSIGNED_STACK" Bundle.steD A s' s'.heap := by rw [hhp]; exact vx_Zq.moved hW0.alike (hU.kept hS.2.1)
  have hN' : vx_Zq Bundle.tN "SUPPRESSED_SENTINEL" Bundle.listD A s' s'.heap := by rw [hhp]; exact vx_Zq.moved hW0.alike (hN.kept hS.2.1)
  have h : ∀ w ∈ Bundle.ownAtoms own ic cls names, w.before args s' = true := vx_own hat' (vx_isRefq hU'.1) (vx_isRefq hN'.1) hU'.2.word hN'.2.word
  have hown' : s'.vm.findClass own = some m.cls := by rw [hvm]; exact hown
  have hins : (Cond.instantiable cls 6).before args s' = true := h _ (by simp [Bundle.ownAtoms])
  obtain ⟨vm₁, cX, kX, hfX, hkX, -, -, X₁, st1⟩ := Y.newCold hexec (own := own) (C := cls) (index := ik) (n := 6) hown' hk' hins hini'
    (g := F0 m pc ls rest) rfl (by rw [hb]; exact d0) (Nat.le_refl _) (Nat.le_refl _)
  generalize hT1 : (T.setVm vm₁).pushCell { cls := cX, slots := kX.instanceTypes.map defaultValue, vm := .none } = T1 at X₁ st1
  have hcat : (Value.ref T.heap.size).category = 1 := rfl
  have hcellA : T1.heap[T.heap.size]? = some (freshCell cX kX) := by rw [← hT1]; exact State.heap_pushCell_size _ _
  have d3' : decode c.code (pc + 3) = .ok (.dup, 1) := by rw [hb]; exact d3
  have d4' : decode c.code (pc + 4) = .ok (.ldc is, 2) := by rw [hb]; exact d4
  have hstr' : vk_R own is text sa s' := vk_R.warm hW0 hstr
  obtain ⟨U, hsteps, hrun, hend, hW, hsame, ce, hce, hO⟩ := X₁.ctorThrowS hexec htr (own := own) (cls := cls) (names := names) (ic := ic) hown' hcls hnames h (fun x hx => nomatch hx) hfX hkX hcellA (by rw [hhp, hT]; exact Nat.le_refl _) (msg := .ref sa) rfl
    (g := { method := m, pc := pc + 6, locals := ls, stack := .ref sa :: .ref T.heap.size :: .ref T.heap.size :: rest, locked := none }) rfl hsize rfl rfl (rest := rest) rfl
    (by rw [hb]; exact d6) (by rw [hb]; exact d9) hout hRframes (by simp only [List.map_cons, List.sum_cons, hcat]; omega) hlocks
  obtain ⟨f1, f2⟩ := vx_frame hsame
  rw [hhp] at f1 f2
  have hWs : s.WarmedH U.vm := State.WarmedH.trans hW0 hW
  have hcl : s.vm.findClass cls = some ce.cls := by
    have h9 := hO.cls
    rw [hvm] at h9
    exact h9
  have hall : s.sameButNew ({ U with vm := s.vm } : State) locs mc ms := by
    subst hA
    obtain ⟨e1, e2⟩ := hsame
    rw [State.setFrames_setFrames] at e1
    have h2 : (T.setVm s.vm).sameButNew ({ U with vm := s.vm } : State) [] (0 + 1) (0 + 6) := ⟨e1, e2⟩
    have h3 := X.same.trans h2
    rw [List.append_nil] at h3
    exact h3.mono hc hs
  refine ⟨U, ?_, .threw T.heap.size, hrun, hend, Or.inr ⟨T.heap.size, rfl, cls, ce, locs, hx U hWs.alike f1 (fun q hq => f2 q hq (fun z hz => nomatch hz)), hce, hO.vm, hcl, hWs, hall, hf⟩⟩
  refine st1 _ ?_
  show Steps p.tables e below (T1.setTop { method := m, pc := pc + 3, locals := ls, stack := .ref T.heap.size :: rest, locked := none }) _
  jvm_step X₁.here [X₁.here.top, hexec, d3', Value.category]
  exact X₁.ldcString hexec (own := own) (text := text) (index := is) (a := sa) hown' hstr'.1 hstr'.2
    (g := { method := m, pc := pc + 4, locals := ls, stack := .ref T.heap.size :: .ref T.heap.size :: rest, locked := none }) rfl d4' _ hsteps
/-- 'throw new E("text")', the text by a wide index -/
theorem vx_throwSW {cc : ByteArray} {pc : Nat} (hexec : p.tables.exec = Jvm.exec) (hb : c.code = cc) (hl : l.stackTraces = false) {own cls text : String} {names : List String} {ik is ic mc ms sa : Nat} {A : Nat → Prop}
    (hown : s.vm.findClass own = some m.cls) (hcls : Bundle.fit cls = true) (hnames : ∀ n ∈ names, Bundle.fit n = true)
    (hk : (Cond.classLink own ik cls).before args s = true) (hini : (Cond.initialized cls).before args s = true) (hstr : vk_R own is text sa s) (hat : ∀ w ∈ vx_atS own ic cls names, w.before args s = true)
    (hgood : ∀ w ∈ Cond.classLink own ik cls :: Cond.initialized cls :: vx_atS own ic cls names, vx_ot w = true)
    (hU : vx_Zq Bundle.tN "UNASSIGNED_STACK" Bundle.steD A s s.heap) (hN : vx_Zq Bundle.tN "SUPPRESSED_SENTINEL" Bundle.listD A s s.heap) (hS : va_S A s.heap H locs) (hsize : ls.size = c.maxLocals)
    (d0 : decode cc pc = .ok (.new ik, 3)) (d3 : decode cc (pc + 3) = .ok (.dup, 1)) (d4 : decode cc (pc + 4) = .ok (.ldc_w is, 3)) (d7 : decode cc (pc + 7) = .ok (.invokespecial ic, 3)) (d10 : decode cc (pc + 10) = .ok (.athrow, 1))
    (hout : ∀ x ∈ c.exceptionTable.toList, covers x (pc + 10) = false)
    (hRframes : names.length + 3 < R.frames) (hRlocals : (rest.map fun v => v.category).sum + (13 * (names.length + 1) + 43) ≤ R.locals) (hRcells : cells + 1 ≤ R.cells) (hRslots : slots + 6 ≤ R.slots) (hlocks : meth.locks = false)
    (hx : ∀ t : State, s.vm.Alike t.vm → H.size ≤ t.heap.size → (∀ q : Nat, q < H.size → t.heap[q]? = H[q]?) → XC cls s t)
    (hf : ∀ z ∈ locs, free z.base) (hc : cells + 1 ≤ mc) (hs : slots + 6 ≤ ms) :
    W p l e R s m args below meth c H locs cells slots (vx_MQ below Qc XC args s mc ms free) (F0 m pc ls rest) := by
  intro T hT X
  have htr : e.platform.stackTraces = false := (show e.platform.stackTraces = l.stackTraces by rw [X.admits.platform]).trans hl
  have Y := vx_rebase X (R' := { frames := R.frames, locals := R.locals, cells := 1, slots := 6 }) (Nat.le_refl _) (Nat.le_refl _) hRcells hRslots
  obtain ⟨s', hA⟩ : ∃ z, z = (T.setVm s.vm).setFrames (.invoking m args :: below) := ⟨_, rfl⟩
  rw [← hA] at Y
  have hvm : s'.vm = s.vm := by rw [hA]; rfl
  have hhp : s'.heap = H := by rw [hA]; exact hT
  have hW0 : s.WarmedH s'.vm := by rw [hvm]; exact State.WarmedH.refl s
  have hat' : ∀ w ∈ vx_atS own ic cls names, w.before args s' = true := fun w hw => vx_ot_at hW0 hvm.symm (hgood w (List.mem_cons_of_mem _ (List.mem_cons_of_mem _ hw))) (hat w hw)
  have hk' : (Cond.classLink own ik cls).before args s' = true := vx_ot_at hW0 hvm.symm (hgood _ List.mem_cons_self) hk
  have hini' : (Cond.initialized cls).before args s' = true := vx_ot_at hW0 hvm.symm (hgood _ (List.mem_cons_of_mem _ List.mem_cons_self)) hini
  have hU' : vx_Zq Bundle.tN "UNASSIGNED_STACK" Bundle.steD A s' s'.heap := by rw [hhp]; exact vx_Zq.moved hW0.alike (hU.kept hS.2.1)
  have hN' : vx_Zq Bundle.tN "SUPPRESSED_SENTINEL" Bundle.listD A s' s'.heap := by rw [hhp]; exact vx_Zq.moved hW0.alike (hN.kept hS.2.1)
  have h : ∀ w ∈ Bundle.ownAtoms own ic cls names, w.before args s' = true := vx_own hat' (vx_isRefq hU'.1) (vx_isRefq hN'.1) hU'.2.word hN'.2.word
  have hown' : s'.vm.findClass own = some m.cls := by rw [hvm]; exact hown
  have hins : (Cond.instantiable cls 6).before args s' = true := h _ (by simp [Bundle.ownAtoms])
  obtain ⟨vm₁, cX, kX, hfX, hkX, -, -, X₁, st1⟩ := Y.newCold hexec (own := own) (C := cls) (index := ik) (n := 6) hown' hk' hins hini'
    (g := F0 m pc ls rest) rfl (by rw [hb]; exact d0) (Nat.le_refl _) (Nat.le_refl _)
  generalize hT1 : (T.setVm vm₁).pushCell { cls := cX, slots := kX.instanceTypes.map defaultValue, vm := .none } = T1 at X₁ st1
  have hcat : (Value.ref T.heap.size).category = 1 := rfl
  have hcellA : T1.heap[T.heap.size]? = some (freshCell cX kX) := by rw [← hT1]; exact State.heap_pushCell_size _ _
  have d3' : decode c.code (pc + 3) = .ok (.dup, 1) := by rw [hb]; exact d3
  have d4' : decode c.code (pc + 4) = .ok (.ldc_w is, 3) := by rw [hb]; exact d4
  have hstr' : vk_R own is text sa s' := vk_R.warm hW0 hstr
  obtain ⟨U, hsteps, hrun, hend, hW, hsame, ce, hce, hO⟩ := X₁.ctorThrowS hexec htr (own := own) (cls := cls) (names := names) (ic := ic) hown' hcls hnames h (fun x hx => nomatch hx) hfX hkX hcellA (by rw [hhp, hT]; exact Nat.le_refl _) (msg := .ref sa) rfl
    (g := { method := m, pc := pc + 7, locals := ls, stack := .ref sa :: .ref T.heap.size :: .ref T.heap.size :: rest, locked := none }) rfl hsize rfl rfl (rest := rest) rfl
    (by rw [hb]; exact d7) (by rw [hb]; exact d10) hout hRframes (by simp only [List.map_cons, List.sum_cons, hcat]; omega) hlocks
  obtain ⟨f1, f2⟩ := vx_frame hsame
  rw [hhp] at f1 f2
  have hWs : s.WarmedH U.vm := State.WarmedH.trans hW0 hW
  have hcl : s.vm.findClass cls = some ce.cls := by
    have h9 := hO.cls
    rw [hvm] at h9
    exact h9
  have hall : s.sameButNew ({ U with vm := s.vm } : State) locs mc ms := by
    subst hA
    obtain ⟨e1, e2⟩ := hsame
    rw [State.setFrames_setFrames] at e1
    have h2 : (T.setVm s.vm).sameButNew ({ U with vm := s.vm } : State) [] (0 + 1) (0 + 6) := ⟨e1, e2⟩
    have h3 := X.same.trans h2
    rw [List.append_nil] at h3
    exact h3.mono hc hs
  refine ⟨U, ?_, .threw T.heap.size, hrun, hend, Or.inr ⟨T.heap.size, rfl, cls, ce, locs, hx U hWs.alike f1 (fun q hq => f2 q hq (fun z hz => nomatch hz)), hce, hO.vm, hcl, hWs, hall, hf⟩⟩
  refine st1 _ ?_
  show Steps p.tables e below (T1.setTop { method := m, pc := pc + 3, locals := ls, stack := .ref T.heap.size :: rest, locked := none }) _
  jvm_step X₁.here [X₁.here.top, hexec, d3', Value.category]
  exact X₁.ldcStringW hexec (own := own) (text := text) (index := is) (a := sa) hown' hstr'.1 hstr'.2
    (g := { method := m, pc := pc + 4, locals := ls, stack := .ref T.heap.size :: .ref T.heap.size :: rest, locked := none }) rfl d4' _ hsteps
end Ends
section Bodies
variable {l : Launch}
theorem vx_ofW {y : MethodName} {ws ws' : List Cond} {rm : Room} {Pc : Array Value → State → Prop} {Qc : Array Value → State → Outcome → State → Prop} {XC : String → State → State → Prop} {mc ms : Nat} {free : Addr → Prop} {cc : ByteArray} {maxL : Nat} {ret : Option FieldType}
    (hy : plainName y.cls = true) (hw : ws = Cond.code y cc maxL ret :: ws')
    (body : ∀ p e s m args below meth c s₁, BodyLoose p l y (headSpec ws rm) cc maxL ret e s m args below meth c s₁ → c.maxLocals = maxL → (∀ x ∈ c.exceptionTable.toList, False) → Pc args s →
      W p l e (headSpec ws rm).room s m args below meth c s.heap [] 0 0 (vx_MQ below Qc XC args s mc ms free) (entryFrame m args maxL)) : vx_Met l y ws rm Pc Qc XC mc ms free := by
  refine MetFree.of_bodyS (code := cc) (maxLocals := maxL) (ret := ret) hy ?_ ?_
  · intro args s m h hn
    obtain ⟨meth, c, h1, h2, h3, h4, h5, h6, -, -⟩ := Cond.code_spec hn (atoms_spec (ws := ws) h _ (by rw [hw]; exact List.mem_cons_self))
    exact ⟨meth, c, h1, h2, h3, h4, h5, h6⟩
  · intro p e s m args below meth c s₁ B hml hP _
    have hh0 : s₁.heap = s.heap := by rw [B.state]; rfl
    have ht : ∀ x ∈ c.exceptionTable.toList, False := by
      obtain ⟨meth9, c9, h1, h2, -, -, -, -, h7, -⟩ := Cond.code_spec B.named (atoms_spec (ws := ws) B.pre _ (by rw [hw]; exact List.mem_cons_self))
      cases Option.some.inj (h1.symm.trans B.method)
      cases Option.some.inj (h2.symm.trans (Stand.of_body B).code)
      intro x hx
      rw [Array.isEmpty_iff.mp h7] at hx
      cases hx
    obtain ⟨t, a1, o, b1, b2, b3⟩ := body p e s m args below meth c s₁ B hml ht hP s₁ hh0 (Stand.of_body B)
    exact ⟨t, o, a1, b1, b2, b3⟩
/-- the table of a body with handlers -/
theorem vx_table {p : Program} {x y : MethodName} {S : Spec} {cc bytes : ByteArray} {maxL maxL' : Nat} {ret ret' : Option FieldType} {e : Env} {s s₁ : State} {m : MethodId} {args : Array Value} {below : List Frame} {meth : Method} {c : Code} {hh : List (Nat × Nat × Nat × Nat)}
    (B : BodyLoose p l y S cc maxL ret e s m args below meth c s₁) (h : (Cond.codeWith y bytes maxL' ret' hh).before args s = true) : c.exceptionTable.toList = tableOf hh := by
  obtain ⟨m9, meth9, c9, hn9, h1, h2, -, -, h6, -⟩ := Cond.codeWith_spec h
  cases Option.some.inj (hn9.symm.trans B.named)
  cases Option.some.inj (h1.symm.trans B.method)
  cases Option.some.inj (h2.symm.trans (Stand.of_body B).code)
  rw [← h6, table_eq]
end Bodies
end VXA
/-! ===== END ===== -/
/-! ===== BEGIN a static call of a method with an exception table ===== -/
section VXS
variable {p : Program} {l : Launch} {e : Env} {R : Room} {s : State} {m : MethodId} {args : Array Value} {below : List Frame} {meth : Method} {c : Code} {T : State} {H : Heap} {locs : List Loc} {cells slots : Nat}
abbrev vx_CSW (R : Room) (s : State) (args : Array Value) (own : String) (index : Nat) (y : MethodName) (bytes : ByteArray) (maxL : Nat) (ret : Option FieldType) (hh : List (Nat × Nat × Nat × Nat)) (ws : List Cond) (rm : Room) (mc ms n : Nat) : Prop :=
  (rm.cells = mc ∧ rm.slots = ms ∧ rm.frames + 1 ≤ R.frames ∧ 8 + (maxL + 11) + rm.locals ≤ R.locals ∧ (∀ w ∈ ws, ∀ (a' : Array Value) (U : State), s.WarmedH U.vm → w.before a' U = true) ∧ Cond.codeWith y bytes maxL ret hh ∈ ws) ∧
  (Cond.codeWith y bytes maxL ret hh).before args s = true ∧ (Cond.initialized y.cls).before args s = true ∧ (y.cls ≠ "java/lang/invoke/MethodHandle" ∧ y.cls ≠ "java/lang/invoke/VarHandle") ∧
  (∀ sig, parseMethodDescriptor y.desc = some sig → n = sig.parameters.length) ∧ (Cond.methodLink own index y).before args s = true ∧ (Cond.static y).before args s = true
theorem vx_cwSW {own : String} {index maxL mc ms : Nat} {y : MethodName} {bytes : ByteArray} {ret : Option FieldType} {hh : List (Nat × Nat × Nat × Nat)} {Ts ws ws' : List Cond} {rm : Room} (n : Nat) (ht : ∀ w ∈ Ts, w.before args s = true) (hT : GoodIn Ts (va_wsS own index y ws)) (hw : ws = Cond.codeWith y bytes maxL ret hh :: ws') (hrc : rm.cells = mc) (hrs : rm.slots = ms)
    (hd : y.cls ≠ "java/lang/invoke/MethodHandle" ∧ y.cls ≠ "java/lang/invoke/VarHandle" ∧ (parseMethodDescriptor y.desc).map (fun d => d.parameters.length) = some n) (hR : rm.frames + 1 ≤ R.frames ∧ 8 + (maxL + 11) + rm.locals ≤ R.locals) :
    vx_CSW R s args own index y bytes maxL ret hh ws rm mc ms n := by
  have ok : ∀ w ∈ va_wsS own index y ws, w.before args s = true := fun w h => ht w (hT w h).1
  have hG : GoodIn Ts ws := fun w h => hT w (by unfold va_wsS; exact List.mem_append_right _ h)
  have hc : Cond.codeWith y bytes maxL ret hh ∈ ws := by rw [hw]; exact List.mem_cons_self
  refine ⟨⟨hrc, hrs, hR.1, hR.2, pay_in ht hG, hc⟩, ht _ (hG _ hc).1, ok _ (by simp [va_wsS]), ⟨hd.1, hd.2.1⟩, fun sig h => ?_, ok _ (by simp [va_wsS]), ok _ (by simp [va_wsS])⟩
  have h2 := hd.2.2
  rw [h] at h2
  exact (Option.some.inj h2).symm
theorem vx_callSW (X : Stand p l e R s m args below meth c T locs cells slots) (hexec : p.tables.exec = Jvm.exec) {own : String} {index : Nat} {y : MethodName} {bytes : ByteArray} {maxL : Nat} {ret : Option FieldType} {hh : List (Nat × Nat × Nat × Nat)}
    (hown : s.vm.findClass own = some m.cls) (hlink : (Cond.methodLink own index y).before args s = true) (hstat : (Cond.static y).before args s = true) (hinit : (Cond.initialized y.cls).before args s = true)
    (hcode : (Cond.codeWith y bytes maxL ret hh).before args s = true) (hy : y.cls ≠ "java/lang/invoke/MethodHandle" ∧ y.cls ≠ "java/lang/invoke/VarHandle")
    {W9 : Nat} {Pre : Pt → Array Value → Prop} {Post : Pt → Array Value → Option Value → Pt → Prop} (hK : Back l R p e below s args y 3 W9 Pre Post)
    {g : JFrame} (hg : g.method = m) (hsize : g.locals.size = c.maxLocals) {argsL rest : List Value} (hlen : ∀ sig, parseMethodDescriptor y.desc = some sig → argsL.length = sig.parameters.length)
    (hstack : g.stack = argsL.reverse ++ rest) (hW : 2 * g.monitorRoom + (rest.map fun v => v.category).sum ≤ W9) (hdg : decode c.code g.pc = .ok (.invokestatic index, 3))
    (hpre : ∀ vm₁, s.WarmedH vm₁ → Pre ⟨T.setVm vm₁, locs, cells, slots⟩ argsL.toArray) :
    ∃ (v : Option Value) (vm₁ : Vm) (B : Pt), s.WarmedH vm₁ ∧ Stand p l e R s m args below meth c B.U B.locs B.cells B.slots ∧ Post ⟨T.setVm vm₁, locs, cells, slots⟩ argsL.toArray v B ∧
      ∀ target, Steps p.tables e below (B.U.setTop { g with pc := g.pc + 3, stack := v.toList ++ rest }) target → Steps p.tables e below (T.setTop g) target := by
  obtain ⟨mk, methM, cM, hnamed, hmethM, -, -, -, -, -, -, hsigM⟩ := Cond.codeWith_spec hcode
  have hstatic : methM.isStatic = true := Cond.static_spec hnamed hmethM hstat
  obtain ⟨kP, hkP, -⟩ := className_of_methodNamed hnamed
  have hinitP : kP.init = .initialized := Cond.initialized_spec (findClass_of_methodNamed hnamed) hkP hinit
  obtain ⟨vm₁, X₁, hstep₁⟩ := X.invokestatic hexec hown hlink hnamed hmethM hstatic hkP hinitP hy (g := g) hg (argsL := argsL) (rest := rest) (hlen _ hsigM) hstack hdg
  obtain ⟨v, B, X', hpost, hsteps⟩ := hK m meth c ⟨T.setVm vm₁, locs, cells, slots⟩ { g with stack := rest } (.invokestatic index) mk argsL.toArray X₁ hg hsize hdg hW (X₁.named hnamed) (hpre vm₁ X₁.warmed)
  exact ⟨v, vm₁, B, X₁.warmed, X', hpost, fun target h => hstep₁ _ fun acts => by rw [doInvoke_state]; exact hsteps.trans h⟩
theorem vx_runSW {y : MethodName} {bytes cc : ByteArray} {maxL nL mc ms n index : Nat} {ret : Option FieldType} {hh : List (Nat × Nat × Nat × Nat)} {ws : List Cond} {rm : Room} {Pc : Array Value → State → Prop} {Qc : Array Value → State → Outcome → State → Prop} {free : Addr → Prop} {Ts : List Cond} {own : String} {As rest : List Value} {g : JFrame}
    (S : CallFix p m c cc nL s args Ts own) (hM : Met l y ws rm Pc Qc mc ms free) (cw : vx_CSW R s args own index y bytes maxL ret hh ws rm mc ms n) (hp : PreS s H Pc As)
    (hg : g.method = m) (hn : As.length = n) (hsize : g.locals.size = nL) (hstack : g.stack = As.reverse ++ rest) (hW : 2 * g.monitorRoom + (rest.map fun v => v.category).sum ≤ 8) (hdg : decode cc g.pc = .ok (.invokestatic index, 3)) (hf : cells + mc ≤ R.cells ∧ slots + ms ≤ R.slots) :
    va_Run p l e R s m args below meth c H locs cells slots mc ms g rest (Qc As.toArray) (free) := by
  obtain ⟨⟨hrc, hrs, hfr, hlo, hws, hcw⟩, hcode, hini, hy, hlen, hl, hstt⟩ := cw
  have hK : Back l R p e below s args y 3 8 (PreOf R mc ms Pc) (PostOf Qc mc ms free) := va_backW (hh := hh) (bytes := bytes) (maxL := maxL) (ret := ret) hM hp.1 hrc hrs hfr hlo hws hcw (fun a' U hW => word_at hW (Or.inl (by first | rfl | simp [Cond.onTables, Cond.keeps, Cond.steady])) hini)
  obtain ⟨hx, hb, hml, ho, -⟩ := S
  intro T hT X
  obtain ⟨v, vm₁, ⟨U', l2, c2, s2⟩, hW₁, X', ⟨g', mk, t, L, e1, e2, hq, h1, hL, h2, h3⟩, st⟩ := vx_callSW X hx (hh := hh) (bytes := bytes) (maxL := maxL) (ret := ret) ho hl hstt hini hcode hy hK hg (hsize.trans hml.symm) (argsL := As) (rest := rest) (fun sig h => hn.trans (hlen sig h)) hstack hW (by rw [hb]; exact hdg)
    (fun vm₁ hW₁ => ⟨hf.1, hf.2, hp.2 (T.setVm vm₁) hT hW₁⟩)
  dsimp only [Pt.U, Pt.locs, Pt.cells, Pt.slots] at X' e1 e2 h1 h2 h3 st
  subst h1; subst h2; subst h3
  exact ⟨v, (T.setVm vm₁).calling g' mk As.toArray, t, U', L, hT, X', hL, e1, e2, hq, st⟩
/-- a thing of a world lies in the heap -/
theorem vx_lt {D : va_G} {cl : List vw_C} {ws : va_W} {H1 : Heap} (h : va_P D cl ws H1) {k : Nat} {q : Nat × va_E} (hk : ws[k]? = some q) : q.1 < H1.size := (h k q hk).lt
end VXS
/-! ===== END ===== -/
/-! ===== BEGIN methods with a table of their own: called by a name, returning or throwing ===== -/
section VXH
/-! vx_backW, vx_callVX, vx_callSX, vx_callVW, vx_runVW, vx_runVX, vx_runSX, vx_ofWH follow the same proofs as their sisters above (Free/Laws.lean, Shelf42/LK1.lean); vx_outP calls Shelf42/NT130.lean (outThrough). -/
section
variable {l : Launch} {R : Room} {p : Program} {e : Env} {below : List Frame} {s : State} {sargs : Array Value} {y : MethodName} {len W9 : Nat}
theorem vx_backW {ws : List Cond} {rm : Room} {Pc : Array Value → State → Prop} {Qc : Array Value → State → Outcome → State → Prop} {XC : String → State → State → Prop} {mc ms : Nat} {free : Addr → Prop} {bytes : ByteArray} {maxL : Nat} {ret : Option FieldType} {hh : List (Nat × Nat × Nat × Nat)}
    (hM : vx_Met l y ws rm Pc Qc XC mc ms free) (hblind : FrameBlind Pc) (hrc : rm.cells = mc) (hrs : rm.slots = ms)
    (hframes : rm.frames + 1 ≤ R.frames) (hlocals : W9 + (maxL + 11) + rm.locals ≤ R.locals)
    (hws : ∀ w ∈ ws, ∀ a' U, s.WarmedH U.vm → w.before a' U = true) (hcode : Cond.codeWith y bytes maxL ret hh ∈ ws) (hinit : ∀ a' U, s.WarmedH U.vm → (Cond.initialized y.cls).before a' U = true) :
    vx_Back l R p e below s sargs y len W9 (PreOf R mc ms Pc) (PostOf Qc mc ms free) (vx_Post XC mc ms free) := by
  intro m meth c A g ig mk a X hg hsize hdg hW hn hp
  have h1 : (headSpec ws rm).pre.before a A.U = true := atoms_intro fun w hw => hws w hw _ _ X.warmed
  have h2 : (Cond.codeWith y bytes maxL ret hh).before a A.U = true := hws _ hcode _ _ X.warmed
  have h3 : (Cond.initialized y.cls).before a A.U = true := hinit _ _ X.warmed
  have h4 : A.cells + (headSpec ws rm).room.cells ≤ R.cells := by rw [show (headSpec ws rm).room.cells = mc from hrc]; exact hp.1
  have h5 : A.slots + (headSpec ws rm).room.slots ≤ R.slots := by rw [show (headSpec ws rm).room.slots = ms from hrs]; exact hp.2.1
  have hPc : Pc a (A.U.calling g mk a) := hblind _ _ _ _ hp.2.2
  obtain ⟨U, Ls, c0, s0⟩ := A
  dsimp only [Pt.U, Pt.locs, Pt.cells, Pt.slots] at h1 h2 h3 h4 h5 X hn hPc ⊢
  obtain ⟨m9, methY, cY, hn9, hmY, hcY, -, hlY, -⟩ := Cond.codeWith_spec h2
  cases Option.some.inj (hn9.symm.trans hn)
  obtain ⟨kY, hkY, -⟩ := className_of_methodNamed hn
  have hinitY : kY.init = .initialized := Cond.initialized_spec (findClass_of_methodNamed hn) hkY h3
  have h : At U g.method c below := by rw [hg]; exact X.here
  have hlocals9 : W9 + (maxL + 11) + (headSpec ws rm).room.locals ≤ R.locals := hlocals
  have happ : (headSpec ws rm).appliesLoose y e.platform (U.calling g mk a) = true :=
    Spec.appliesLoose_calling (g := g) h hdg hn hkY hinitY
      (X.room_calling (g := g) (R' := (headSpec ws rm).room) hsize hmY hcY hframes (by rw [hlY]; omega) h4 h5) h1
  obtain ⟨mid, hmid⟩ := h.above
  have hfr : (U.setTop g).frames = (.java g :: mid) ++ below := by rw [State.frames_setTop' g h.top, hmid]; rfl
  obtain ⟨o, s₂, hsteps, -, hend, hq⟩ := Steps.callFree hM p X.admits X.cas X.clock (acts := []) hfr happ hPc trivial
  have hq' : vx_Q Qc XC mc ms free a (U.calling g mk a) o s₂ := hq
  rw [State.frames_setTop' g h.top] at hend
  obtain ⟨g₀, hg0⟩ := Option.isSome_iff_exists.mp h.top
  obtain ⟨r, hr⟩ := State.topJava?_eq_some.mp hg0
  have hr' : (({ U with heap := s₂.heap, slotsUsed := s₂.slotsUsed } : State).setVm s₂.vm).frames = .java g₀ :: r := hr
  rcases hq' with ⟨hqc, L, hfe, hL⟩ | ⟨q, rfl, E, ce, L, hx, hce, hcv, hcl, hW₂, hsm, hL⟩
  · obtain ⟨⟨v, rfl⟩, hW₂, e2, q2, q3, q4, q5, q6⟩ := id hfe
    have e3 : s₂ = ({ (U.calling g mk a).setFrames s₂.frames with heap := s₂.heap, slotsUsed := s₂.slotsUsed } : State).setVm s₂.vm := by
      have : s₂ = ({ s₂ with vm := (U.calling g mk a).vm } : State).setVm s₂.vm := rfl
      rw [e2] at this
      exact this
    obtain ⟨c₂, i₂, len₂, hc₂, hd₂, hf₂⟩ := hend
    have hW' : U.WarmedH s₂.vm := hW₂
    have hcc : c₂ = c := by
      have h1 : s₂.code? g.method = U.code? g.method := by
        rw [State.code?_eq, State.code?_eq, hW'.alike.method?]
      exact Option.some.inj (hc₂.symm.trans (h1.trans h.code))
    subst hcc
    have hlen : len₂ = len := by rw [hdg] at hd₂; cases hd₂; rfl
    subst hlen
    have hs₂ : s₂ = (({ U with heap := s₂.heap, slotsUsed := s₂.slotsUsed } : State).setVm s₂.vm).setTop { g with pc := g.pc + len₂, stack := v.toList ++ g.stack } := by
      refine e3.trans ?_
      rw [hf₂, State.calling_eq h.top, State.setFrames_setFrames, State.setTop_of_frames _ hr', hr]
      rfl
    have hsame : U.sameButNew ({ U with heap := s₂.heap, slotsUsed := s₂.slotsUsed } : State) L mc ms := by
      refine ⟨?_, q2, q3, q4, q5, q6⟩
      obtain ⟨t, ht, -⟩ := State.frames_cons hr
      show ({ U with heap := s₂.heap, slotsUsed := s₂.slotsUsed } : State) = { U.setFrames U.frames with heap := s₂.heap, slotsUsed := s₂.slotsUsed }
      rw [State.setFrames_self ht]
    subst hg
    refine Or.inl ⟨v, ⟨(({ U with heap := s₂.heap, slotsUsed := s₂.slotsUsed } : State).setVm s₂.vm), Ls ++ L, c0 + mc, s0 + ms⟩,
      ⟨X.admits, X.cas, X.clock, X.frames, X.room, X.hears, X.method, X.code, (X.here.setHeapUsed s₂.heap s₂.slotsUsed).setVm hW'.alike, X.tail, State.WarmedH.trans X.warmed hW', X.limits, X.bytes, X.same.trans (hsame.setVm s.vm)⟩,
      ⟨g, mk, s₂, L, rfl, rfl, hqc, rfl, hL, rfl, rfl⟩, ?_⟩
    show Steps p.tables e below _ ((({ U with heap := s₂.heap, slotsUsed := s₂.slotsUsed } : State).setVm s₂.vm).setTop { g with pc := g.pc + len₂, stack := v.toList ++ g.stack })
    rw [← hs₂]
    exact hsteps
  · obtain ⟨e2, q2, q3, q4, q5, q6⟩ := id hsm
    have e3 : s₂ = ({ (U.calling g mk a).setFrames s₂.frames with heap := s₂.heap, slotsUsed := s₂.slotsUsed } : State).setVm s₂.vm := by
      have : s₂ = ({ s₂ with vm := (U.calling g mk a).vm } : State).setVm s₂.vm := rfl
      rw [e2] at this
      exact this
    have hf₂ : s₂.frames = .throwing q :: .java g :: U.frames.tail := hend
    have hW' : U.WarmedH s₂.vm := hW₂
    have hs₂ : s₂ = ((({ U with heap := s₂.heap, slotsUsed := s₂.slotsUsed } : State).setVm s₂.vm).setTop g).pushFrame (.throwing q) := by
      refine e3.trans ?_
      rw [hf₂, State.calling_eq h.top, State.setFrames_setFrames, State.pushFrame, State.frames_setTop _ hr', State.setTop_of_frames _ hr', State.setFrames_setFrames, hr]
      rfl
    have hsame : U.sameButNew ({ U with heap := s₂.heap, slotsUsed := s₂.slotsUsed } : State) L mc ms := by
      refine ⟨?_, q2, q3, q4, q5, q6⟩
      obtain ⟨t, ht, -⟩ := State.frames_cons hr
      show ({ U with heap := s₂.heap, slotsUsed := s₂.slotsUsed } : State) = { U.setFrames U.frames with heap := s₂.heap, slotsUsed := s₂.slotsUsed }
      rw [State.setFrames_self ht]
    subst hg
    refine Or.inr ⟨q, ⟨(({ U with heap := s₂.heap, slotsUsed := s₂.slotsUsed } : State).setVm s₂.vm), Ls ++ L, c0 + mc, s0 + ms⟩,
      ⟨X.admits, X.cas, X.clock, X.frames, X.room, X.hears, X.method, X.code, (X.here.setHeapUsed s₂.heap s₂.slotsUsed).setVm hW'.alike, X.tail, State.WarmedH.trans X.warmed hW', X.limits, X.bytes, X.same.trans (hsame.setVm s.vm)⟩,
      ⟨g, mk, s₂, L, E, ce, rfl, rfl, hx, hce, hcv, hcl, rfl, hL, rfl, rfl⟩, ?_⟩
    show Steps p.tables e below _ (((({ U with heap := s₂.heap, slotsUsed := s₂.slotsUsed } : State).setVm s₂.vm).setTop g).pushFrame (.throwing q))
    rw [← hs₂]
    exact hsteps
end
variable {p : Program} {l : Launch} {e : Env} {R : Room} {s : State} {m : MethodId} {args : Array Value} {below : List Frame} {meth : Method} {c : Code} {T : State} {H : Heap} {locs : List Loc} {cells slots : Nat}
theorem vx_callVX (X : Stand p l e R s m args below meth c T locs cells slots) (hexec : p.tables.exec = Jvm.exec) {own C : String} {index : Nat} {y : MethodName} {bytes : ByteArray} {maxL : Nat} {ret : Option FieldType} {hh : List (Nat × Nat × Nat × Nat)}
    (hown : s.vm.findClass own = some m.cls) (hlink : (Cond.methodLink own index y).before args s = true) (hinst : (Cond.instanceMethod y).before args s = true) (hsel : (Cond.selects C y y).before args s = true)
    (hcode : (Cond.codeWith y bytes maxL ret hh).before args s = true) (hy : y.cls ≠ "java/lang/invoke/MethodHandle" ∧ y.cls ≠ "java/lang/invoke/VarHandle")
    {W9 : Nat} {Pre : Pt → Array Value → Prop} {Post : Pt → Array Value → Option Value → Pt → Prop} {PostX : Pt → Array Value → Addr → Pt → Prop} (hK : vx_Back l R p e below s args y 3 W9 Pre Post PostX)
    {b : Addr} {cellB : Cell} (hcell : T.heap[b]? = some cellB) (hobj : cellB.vm.isStatics = false) (hcls : s.vm.findClass C = some cellB.cls)
    {g : JFrame} (hg : g.method = m) (hsize : g.locals.size = c.maxLocals) {argsL rest : List Value} (hlen : ∀ sig, parseMethodDescriptor y.desc = some sig → argsL.length = sig.parameters.length)
    (hstack : g.stack = argsL.reverse ++ .ref b :: rest) (hW : 2 * g.monitorRoom + (rest.map fun v => v.category).sum ≤ W9) (hdg : decode c.code g.pc = .ok (.invokevirtual index, 3))
    (hpre : ∀ vm₁, s.WarmedH vm₁ → Pre ⟨T.setVm vm₁, locs, cells, slots⟩ (Value.ref b :: argsL).toArray) :
    (∃ (v : Option Value) (vm₁ : Vm) (B : Pt), s.WarmedH vm₁ ∧ Stand p l e R s m args below meth c B.U B.locs B.cells B.slots ∧ Post ⟨T.setVm vm₁, locs, cells, slots⟩ (Value.ref b :: argsL).toArray v B ∧
      ∀ target, Steps p.tables e below (B.U.setTop { g with pc := g.pc + 3, stack := v.toList ++ rest }) target → Steps p.tables e below (T.setTop g) target) ∨
    (∃ (q : Addr) (vm₁ : Vm) (B : Pt), s.WarmedH vm₁ ∧ Stand p l e R s m args below meth c B.U B.locs B.cells B.slots ∧ PostX ⟨T.setVm vm₁, locs, cells, slots⟩ (Value.ref b :: argsL).toArray q B ∧
      Steps p.tables e below (T.setTop g) ((B.U.setTop { g with stack := rest }).pushFrame (.throwing q))) := by
  obtain ⟨mk, methM, hnamed, hmethM, hstM, habM⟩ := Cond.instanceMethod_spec hinst
  obtain ⟨m8, methM', cM, hn8, hmethM', -, -, -, -, -, -, hsigM⟩ := Cond.codeWith_spec hcode
  cases Option.some.inj (hn8.symm.trans hnamed)
  cases hmethM.symm.trans hmethM'
  obtain ⟨c2, r2, m2, q1, q2, q3, q4, kP, hkP, hkPi⟩ := Cond.selects_spec hsel
  cases hcls.symm.trans q1
  cases (State.methodFound?_of_named hnamed hy).symm.trans q2
  cases hnamed.symm.trans q3
  have hselP : selectMethod e.platform s.vm cellB.cls mk = .method mk := by rw [Launch.admits_selectMethod X.admits]; exact q4
  obtain ⟨vm₁, X₁, hstep₁⟩ := X.invokevirtual hexec hown hlink hnamed hmethM hstM hkP hkPi hy (a := b) (cell := cellB) hcell
    (fun z h => by rw [h] at hobj; cases hobj) hselP hmethM habM hkP hkPi (g := g) hg (argsL := argsL) (rest := rest) (hlen _ hsigM) hstack hdg
  rcases hK m meth c ⟨T.setVm vm₁, locs, cells, slots⟩ { g with stack := rest } (.invokevirtual index) mk (Value.ref b :: argsL).toArray X₁ hg hsize hdg hW (X₁.named hnamed) (hpre vm₁ X₁.warmed) with ⟨v, B, X', hpost, hsteps⟩ | ⟨q, B, X', hpost, hsteps⟩
  · exact Or.inl ⟨v, vm₁, B, X₁.warmed, X', hpost, fun target h => hstep₁ _ fun acts => by rw [doInvoke_state]; exact hsteps.trans h⟩
  · exact Or.inr ⟨q, vm₁, B, X₁.warmed, X', hpost, hstep₁ _ fun acts => by rw [doInvoke_state]; exact hsteps⟩
theorem vx_callSX (X : Stand p l e R s m args below meth c T locs cells slots) (hexec : p.tables.exec = Jvm.exec) {own : String} {index : Nat} {y : MethodName} {bytes : ByteArray} {maxL : Nat} {ret : Option FieldType} {hh : List (Nat × Nat × Nat × Nat)}
    (hown : s.vm.findClass own = some m.cls) (hlink : (Cond.methodLink own index y).before args s = true) (hstat : (Cond.static y).before args s = true) (hinit : (Cond.initialized y.cls).before args s = true)
    (hcode : (Cond.codeWith y bytes maxL ret hh).before args s = true) (hy : y.cls ≠ "java/lang/invoke/MethodHandle" ∧ y.cls ≠ "java/lang/invoke/VarHandle")
    {W9 : Nat} {Pre : Pt → Array Value → Prop} {Post : Pt → Array Value → Option Value → Pt → Prop} {PostX : Pt → Array Value → Addr → Pt → Prop} (hK : vx_Back l R p e below s args y 3 W9 Pre Post PostX)
    {g : JFrame} (hg : g.method = m) (hsize : g.locals.size = c.maxLocals) {argsL rest : List Value} (hlen : ∀ sig, parseMethodDescriptor y.desc = some sig → argsL.length = sig.parameters.length)
    (hstack : g.stack = argsL.reverse ++ rest) (hW : 2 * g.monitorRoom + (rest.map fun v => v.category).sum ≤ W9) (hdg : decode c.code g.pc = .ok (.invokestatic index, 3))
    (hpre : ∀ vm₁, s.WarmedH vm₁ → Pre ⟨T.setVm vm₁, locs, cells, slots⟩ argsL.toArray) :
    (∃ (v : Option Value) (vm₁ : Vm) (B : Pt), s.WarmedH vm₁ ∧ Stand p l e R s m args below meth c B.U B.locs B.cells B.slots ∧ Post ⟨T.setVm vm₁, locs, cells, slots⟩ argsL.toArray v B ∧
      ∀ target, Steps p.tables e below (B.U.setTop { g with pc := g.pc + 3, stack := v.toList ++ rest }) target → Steps p.tables e below (T.setTop g) target) ∨
    (∃ (q : Addr) (vm₁ : Vm) (B : Pt), s.WarmedH vm₁ ∧ Stand p l e R s m args below meth c B.U B.locs B.cells B.slots ∧ PostX ⟨T.setVm vm₁, locs, cells, slots⟩ argsL.toArray q B ∧
      Steps p.tables e below (T.setTop g) ((B.U.setTop { g with stack := rest }).pushFrame (.throwing q))) := by
  obtain ⟨mk, methM, cM, hnamed, hmethM, -, -, -, -, -, -, hsigM⟩ := Cond.codeWith_spec hcode
  have hstatic : methM.isStatic = true := Cond.static_spec hnamed hmethM hstat
  obtain ⟨kP, hkP, -⟩ := className_of_methodNamed hnamed
  have hinitP : kP.init = .initialized := Cond.initialized_spec (findClass_of_methodNamed hnamed) hkP hinit
  obtain ⟨vm₁, X₁, hstep₁⟩ := X.invokestatic hexec hown hlink hnamed hmethM hstatic hkP hinitP hy (g := g) hg (argsL := argsL) (rest := rest) (hlen _ hsigM) hstack hdg
  rcases hK m meth c ⟨T.setVm vm₁, locs, cells, slots⟩ { g with stack := rest } (.invokestatic index) mk argsL.toArray X₁ hg hsize hdg hW (X₁.named hnamed) (hpre vm₁ X₁.warmed) with ⟨v, B, X', hpost, hsteps⟩ | ⟨q, B, X', hpost, hsteps⟩
  · exact Or.inl ⟨v, vm₁, B, X₁.warmed, X', hpost, fun target h => hstep₁ _ fun acts => by rw [doInvoke_state]; exact hsteps.trans h⟩
  · exact Or.inr ⟨q, vm₁, B, X₁.warmed, X', hpost, hstep₁ _ fun acts => by rw [doInvoke_state]; exact hsteps⟩
theorem vx_callVW (X : Stand p l e R s m args below meth c T locs cells slots) (hexec : p.tables.exec = Jvm.exec) {own C : String} {index : Nat} {y : MethodName} {bytes : ByteArray} {maxL : Nat} {ret : Option FieldType} {hh : List (Nat × Nat × Nat × Nat)}
    (hown : s.vm.findClass own = some m.cls) (hlink : (Cond.methodLink own index y).before args s = true) (hinst : (Cond.instanceMethod y).before args s = true) (hsel : (Cond.selects C y y).before args s = true)
    (hcode : (Cond.codeWith y bytes maxL ret hh).before args s = true) (hy : y.cls ≠ "java/lang/invoke/MethodHandle" ∧ y.cls ≠ "java/lang/invoke/VarHandle")
    {W9 : Nat} {Pre : Pt → Array Value → Prop} {Post : Pt → Array Value → Option Value → Pt → Prop} (hK : Back l R p e below s args y 3 W9 Pre Post)
    {b : Addr} {cellB : Cell} (hcell : T.heap[b]? = some cellB) (hobj : cellB.vm.isStatics = false) (hcls : s.vm.findClass C = some cellB.cls)
    {g : JFrame} (hg : g.method = m) (hsize : g.locals.size = c.maxLocals) {argsL rest : List Value} (hlen : ∀ sig, parseMethodDescriptor y.desc = some sig → argsL.length = sig.parameters.length)
    (hstack : g.stack = argsL.reverse ++ .ref b :: rest) (hW : 2 * g.monitorRoom + (rest.map fun v => v.category).sum ≤ W9) (hdg : decode c.code g.pc = .ok (.invokevirtual index, 3))
    (hpre : ∀ vm₁, s.WarmedH vm₁ → Pre ⟨T.setVm vm₁, locs, cells, slots⟩ (Value.ref b :: argsL).toArray) :
    ∃ (v : Option Value) (vm₁ : Vm) (B : Pt), s.WarmedH vm₁ ∧ Stand p l e R s m args below meth c B.U B.locs B.cells B.slots ∧ Post ⟨T.setVm vm₁, locs, cells, slots⟩ (Value.ref b :: argsL).toArray v B ∧
      ∀ target, Steps p.tables e below (B.U.setTop { g with pc := g.pc + 3, stack := v.toList ++ rest }) target → Steps p.tables e below (T.setTop g) target := by
  obtain ⟨mk, methM, hnamed, hmethM, hstM, habM⟩ := Cond.instanceMethod_spec hinst
  obtain ⟨m8, methM', cM, hn8, hmethM', -, -, -, -, -, -, hsigM⟩ := Cond.codeWith_spec hcode
  cases Option.some.inj (hn8.symm.trans hnamed)
  cases hmethM.symm.trans hmethM'
  obtain ⟨c2, r2, m2, q1, q2, q3, q4, kP, hkP, hkPi⟩ := Cond.selects_spec hsel
  cases hcls.symm.trans q1
  cases (State.methodFound?_of_named hnamed hy).symm.trans q2
  cases hnamed.symm.trans q3
  have hselP : selectMethod e.platform s.vm cellB.cls mk = .method mk := by rw [Launch.admits_selectMethod X.admits]; exact q4
  obtain ⟨vm₁, X₁, hstep₁⟩ := X.invokevirtual hexec hown hlink hnamed hmethM hstM hkP hkPi hy (a := b) (cell := cellB) hcell
    (fun z h => by rw [h] at hobj; cases hobj) hselP hmethM habM hkP hkPi (g := g) hg (argsL := argsL) (rest := rest) (hlen _ hsigM) hstack hdg
  obtain ⟨v, B, X', hpost, hsteps⟩ := hK m meth c ⟨T.setVm vm₁, locs, cells, slots⟩ { g with stack := rest } (.invokevirtual index) mk (Value.ref b :: argsL).toArray X₁ hg hsize hdg hW (X₁.named hnamed) (hpre vm₁ X₁.warmed)
  exact ⟨v, vm₁, B, X₁.warmed, X', hpost, fun target h => hstep₁ _ fun acts => by rw [doInvoke_state]; exact hsteps.trans h⟩
abbrev vx_CVW (R : Room) (s : State) (args : Array Value) (own C : String) (index : Nat) (y : MethodName) (bytes : ByteArray) (maxL : Nat) (ret : Option FieldType) (hh : List (Nat × Nat × Nat × Nat)) (ws : List Cond) (rm : Room) (mc ms n : Nat) : Prop :=
  (rm.cells = mc ∧ rm.slots = ms ∧ rm.frames + 1 ≤ R.frames ∧ 8 + (maxL + 11) + rm.locals ≤ R.locals ∧ (∀ w ∈ ws, ∀ (a' : Array Value) (U : State), s.WarmedH U.vm → w.before a' U = true) ∧ Cond.codeWith y bytes maxL ret hh ∈ ws) ∧
  (Cond.codeWith y bytes maxL ret hh).before args s = true ∧ (Cond.initialized y.cls).before args s = true ∧ (y.cls ≠ "java/lang/invoke/MethodHandle" ∧ y.cls ≠ "java/lang/invoke/VarHandle") ∧
  (∀ sig, parseMethodDescriptor y.desc = some sig → n = sig.parameters.length) ∧ (Cond.methodLink own index y).before args s = true ∧ (Cond.instanceMethod y).before args s = true ∧ (Cond.selects C y y).before args s = true
theorem vx_cwVW {own C : String} {index maxL mc ms : Nat} {y : MethodName} {bytes : ByteArray} {ret : Option FieldType} {hh : List (Nat × Nat × Nat × Nat)} {Ts ws ws' : List Cond} {rm : Room} (n : Nat) (ht : ∀ w ∈ Ts, w.before args s = true) (hT : GoodIn Ts (wsV own index C y ws)) (hw : ws = Cond.codeWith y bytes maxL ret hh :: ws') (hrc : rm.cells = mc) (hrs : rm.slots = ms)
    (hd : y.cls = C ∧ y.cls ≠ "java/lang/invoke/MethodHandle" ∧ y.cls ≠ "java/lang/invoke/VarHandle" ∧ (parseMethodDescriptor y.desc).map (fun d => d.parameters.length) = some n) (hR : rm.frames + 1 ≤ R.frames ∧ 8 + (maxL + 11) + rm.locals ≤ R.locals) :
    vx_CVW R s args own C index y bytes maxL ret hh ws rm mc ms n := by
  obtain ⟨hC, hd⟩ := hd
  subst hC
  have ok : ∀ w ∈ wsV own index y.cls y ws, w.before args s = true := fun w h => ht w (hT w h).1
  have hG : GoodIn Ts ws := fun w h => hT w (by unfold wsV; exact List.mem_append_right _ h)
  have hc : Cond.codeWith y bytes maxL ret hh ∈ ws := by rw [hw]; exact List.mem_cons_self
  refine ⟨⟨hrc, hrs, hR.1, hR.2, pay_in ht hG, hc⟩, ht _ (hG _ hc).1, ok _ (by simp [wsV]), ⟨hd.1, hd.2.1⟩, fun sig h => ?_, ok _ (by simp [wsV]), ok _ (by simp [wsV]), ok _ (by simp [wsV])⟩
  have h2 := hd.2.2
  rw [h] at h2
  exact (Option.some.inj h2).symm
theorem vx_runVW {y : MethodName} {bytes cc : ByteArray} {maxL nL mc ms n index : Nat} {ret : Option FieldType} {hh : List (Nat × Nat × Nat × Nat)} {ws : List Cond} {rm : Room} {Pc : Array Value → State → Prop} {Qc : Array Value → State → Outcome → State → Prop} {free : Addr → Prop} {Ts : List Cond} {own C : String} {b : Addr} {As rest : List Value} {g : JFrame}
    (S : CallFix p m c cc nL s args Ts own) (hM : Met l y ws rm Pc Qc mc ms free) (cw : vx_CVW R s args own C index y bytes maxL ret hh ws rm mc ms n) (hp : PreV s H C b Pc As)
    (hg : g.method = m) (hn : As.length = n) (hsize : g.locals.size = nL) (hstack : g.stack = As.reverse ++ .ref b :: rest) (hW : 2 * g.monitorRoom + (rest.map fun v => v.category).sum ≤ 8) (hdg : decode cc g.pc = .ok (.invokevirtual index, 3)) (hf : cells + mc ≤ R.cells ∧ slots + ms ≤ R.slots) :
    va_Run p l e R s m args below meth c H locs cells slots mc ms g rest (Qc (Value.ref b :: As).toArray) free := by
  obtain ⟨⟨hrc, hrs, hfr, hlo, hws, hcw⟩, hcode, hini, hy, hlen, hl, hin, hse⟩ := cw
  have hK : Back l R p e below s args y 3 8 (PreOf R mc ms Pc) (PostOf Qc mc ms free) := va_backW (hh := hh) (bytes := bytes) (maxL := maxL) (ret := ret) hM hp.1 hrc hrs hfr hlo hws hcw (fun a' U hW => word_at hW (Or.inl (by first | rfl | simp [Cond.onTables, Cond.keeps, Cond.steady])) hini)
  obtain ⟨hx, hb, hml, ho, -⟩ := S
  obtain ⟨-, ⟨cellB, hcB, hoB, hclB⟩, hPc⟩ := hp
  intro T hT X
  obtain ⟨v, vm₁, ⟨U', l2, c2, s2⟩, hW₁, X', ⟨g', mk, t, L, e1, e2, hq, h1, hL, h2, h3⟩, st⟩ := vx_callVW X hx (C := C) (hh := hh) (bytes := bytes) (maxL := maxL) (ret := ret) ho hl hin hse hcode hy hK (by rw [hT]; exact hcB) hoB hclB hg (hsize.trans hml.symm) (argsL := As) (rest := rest) (fun sig h => hn.trans (hlen sig h)) hstack hW (by rw [hb]; exact hdg)
    (fun vm₁ hW₁ => ⟨hf.1, hf.2, hPc (T.setVm vm₁) hT hW₁⟩)
  dsimp only [Pt.U, Pt.locs, Pt.cells, Pt.slots] at X' e1 e2 h1 h2 h3 st
  subst h1; subst h2; subst h3
  exact ⟨v, (T.setVm vm₁).calling g' mk (Value.ref b :: As).toArray, t, U', L, hT, X', hL, e1, e2, hq, st⟩
section
variable {y : MethodName} {bytes cc : ByteArray} {maxL nL mc ms n index : Nat} {ret : Option FieldType} {ws : List Cond} {rm : Room} {Pc : Array Value → State → Prop} {Qc : Array Value → State → Outcome → State → Prop} {XC : String → State → State → Prop} {free : Addr → Prop} {Ts : List Cond} {own C : String} {b : Addr} {As rest : List Value} {g : JFrame}
theorem vx_runVX {hh : List (Nat × Nat × Nat × Nat)} (S : CallFix p m c cc nL s args Ts own) (hM : vx_Met l y ws rm Pc Qc XC mc ms free) (cw : vx_CVW R s args own C index y bytes maxL ret hh ws rm mc ms n) (hp : PreV s H C b Pc As)
    (hg : g.method = m) (hn : As.length = n) (hsize : g.locals.size = nL) (hstack : g.stack = As.reverse ++ .ref b :: rest) (hW : 2 * g.monitorRoom + (rest.map fun v => v.category).sum ≤ 8) (hdg : decode cc g.pc = .ok (.invokevirtual index, 3)) (hf : cells + mc ≤ R.cells ∧ slots + ms ≤ R.slots) :
    vx_Run p l e R s m args below meth c H locs cells slots mc ms g rest (Qc (Value.ref b :: As).toArray) XC free := by
  obtain ⟨⟨hrc, hrs, hfr, hlo, hws, hcw⟩, hcode, hini, hy, hlen, hl, hin, hse⟩ := cw
  have hK : vx_Back l R p e below s args y 3 8 (PreOf R mc ms Pc) (PostOf Qc mc ms free) (vx_Post XC mc ms free) := vx_backW (hh := hh) (bytes := bytes) (maxL := maxL) (ret := ret) hM hp.1 hrc hrs hfr hlo hws hcw (fun a' U hW => word_at hW (Or.inl (by first | rfl | simp [Cond.onTables, Cond.keeps, Cond.steady])) hini)
  obtain ⟨hx, hb, hml, ho, -⟩ := S
  obtain ⟨-, ⟨cellB, hcB, hoB, hclB⟩, hPc⟩ := hp
  intro T hT X
  rcases vx_callVX X hx (C := C) (hh := hh) (bytes := bytes) (maxL := maxL) (ret := ret) ho hl hin hse hcode hy hK (by rw [hT]; exact hcB) hoB hclB hg (hsize.trans hml.symm) (argsL := As) (rest := rest) (fun sig h => hn.trans (hlen sig h)) hstack hW (by rw [hb]; exact hdg)
    (fun vm₁ hW₁ => ⟨hf.1, hf.2, hPc (T.setVm vm₁) hT hW₁⟩) with ⟨v, vm₁, ⟨U', l2, c2, s2⟩, hW₁, X', ⟨g', mk, t, L, e1, e2, hq, h1, hL, h2, h3⟩, st⟩ | ⟨q, vm₁, ⟨U', l2, c2, s2⟩, hW₁, X', ⟨g', mk, t, L, E, ce, e1, e2, hq, hce, hcv, hcl, h1, hL, h2, h3⟩, st⟩
  · dsimp only [Pt.U, Pt.locs, Pt.cells, Pt.slots] at X' e1 e2 h1 h2 h3 st
    subst h1; subst h2; subst h3
    exact Or.inl ⟨v, (T.setVm vm₁).calling g' mk (Value.ref b :: As).toArray, t, U', L, hT, X', hL, e1, e2, hq, st⟩
  · dsimp only [Pt.U, Pt.locs, Pt.cells, Pt.slots] at X' e1 e2 h1 h2 h3 st hcl
    subst h1; subst h2; subst h3
    exact Or.inr ⟨q, (T.setVm vm₁).calling g' mk (Value.ref b :: As).toArray, t, U', L, E, ce, hT, X', hL, e1, e2, hq, hce, hcv, vx_cls hW₁ hcl, st⟩
theorem vx_runSX {hh : List (Nat × Nat × Nat × Nat)} (S : CallFix p m c cc nL s args Ts own) (hM : vx_Met l y ws rm Pc Qc XC mc ms free) (cw : vx_CSW R s args own index y bytes maxL ret hh ws rm mc ms n) (hp : PreS s H Pc As)
    (hg : g.method = m) (hn : As.length = n) (hsize : g.locals.size = nL) (hstack : g.stack = As.reverse ++ rest) (hW : 2 * g.monitorRoom + (rest.map fun v => v.category).sum ≤ 8) (hdg : decode cc g.pc = .ok (.invokestatic index, 3)) (hf : cells + mc ≤ R.cells ∧ slots + ms ≤ R.slots) :
    vx_Run p l e R s m args below meth c H locs cells slots mc ms g rest (Qc As.toArray) XC free := by
  obtain ⟨⟨hrc, hrs, hfr, hlo, hws, hcw⟩, hcode, hini, hy, hlen, hl, hstt⟩ := cw
  have hK : vx_Back l R p e below s args y 3 8 (PreOf R mc ms Pc) (PostOf Qc mc ms free) (vx_Post XC mc ms free) := vx_backW (hh := hh) (bytes := bytes) (maxL := maxL) (ret := ret) hM hp.1 hrc hrs hfr hlo hws hcw (fun a' U hW => word_at hW (Or.inl (by first | rfl | simp [Cond.onTables, Cond.keeps, Cond.steady])) hini)
  obtain ⟨hx, hb, hml, ho, -⟩ := S
  intro T hT X
  rcases vx_callSX X hx (hh := hh) (bytes := bytes) (maxL := maxL) (ret := ret) ho hl hstt hini hcode hy hK hg (hsize.trans hml.symm) (argsL := As) (rest := rest) (fun sig h => hn.trans (hlen sig h)) hstack hW (by rw [hb]; exact hdg)
    (fun vm₁ hW₁ => ⟨hf.1, hf.2, hp.2 (T.setVm vm₁) hT hW₁⟩) with ⟨v, vm₁, ⟨U', l2, c2, s2⟩, hW₁, X', ⟨g', mk, t, L, e1, e2, hq, h1, hL, h2, h3⟩, st⟩ | ⟨q, vm₁, ⟨U', l2, c2, s2⟩, hW₁, X', ⟨g', mk, t, L, E, ce, e1, e2, hq, hce, hcv, hcl, h1, hL, h2, h3⟩, st⟩
  · dsimp only [Pt.U, Pt.locs, Pt.cells, Pt.slots] at X' e1 e2 h1 h2 h3 st
    subst h1; subst h2; subst h3
    exact Or.inl ⟨v, (T.setVm vm₁).calling g' mk As.toArray, t, U', L, hT, X', hL, e1, e2, hq, st⟩
  · dsimp only [Pt.U, Pt.locs, Pt.cells, Pt.slots] at X' e1 e2 h1 h2 h3 st hcl
    subst h1; subst h2; subst h3
    exact Or.inr ⟨q, (T.setVm vm₁).calling g' mk As.toArray, t, U', L, E, ce, hT, X', hL, e1, e2, hq, hce, hcv, vx_cls hW₁ hcl, st⟩
end
end VXH
theorem vx_ofWH {l : Launch} {y : MethodName} {ws ws' : List Cond} {rm : Room} {Pc : Array Value → State → Prop} {Qc : Array Value → State → Outcome → State → Prop} {XC : String → State → State → Prop} {mc ms : Nat} {free : Addr → Prop} {cc : ByteArray} {maxL : Nat} {ret : Option FieldType} {hh : List (Nat × Nat × Nat × Nat)}
    (hy : plainName y.cls = true) (hw : ws = Cond.codeWith y cc maxL ret hh :: ws')
    (body : ∀ p e s m args below meth c s₁, BodyLoose p l y (headSpec ws rm) cc maxL ret e s m args below meth c s₁ → c.maxLocals = maxL → Pc args s →
      W p l e (headSpec ws rm).room s m args below meth c s.heap [] 0 0 (vx_MQ below Qc XC args s mc ms free) (entryFrame m args maxL)) : vx_Met l y ws rm Pc Qc XC mc ms free := by
  refine MetFree.of_bodyS (code := cc) (maxLocals := maxL) (ret := ret) hy ?_ ?_
  · intro args s m h hn
    obtain ⟨m9, meth, c, hn9, h1, h2, h3, h4, -, h5, h6, -⟩ := Cond.codeWith_spec (atoms_spec (ws := ws) h _ (by rw [hw]; exact List.mem_cons_self))
    cases hn.symm.trans hn9
    exact ⟨meth, c, h1, h2, h3, h4, h5, h6⟩
  · intro p e s m args below meth c s₁ B hml hP _
    have hh0 : s₁.heap = s.heap := by rw [B.state]; rfl
    obtain ⟨t, a1, o, b1, b2, b3⟩ := body p e s m args below meth c s₁ B hml hP s₁ hh0 (Stand.of_body B)
    exact ⟨t, o, a1, b1, b2, b3⟩
/-! ===== END ===== -/
end
section
def RX0 : String := "WavePlans$Docks"
def TX0 : u_T := fun k => match k with
  | 0 => ("WavePlans$Docks", "carriers", "[I", true)
  | 1 => ("WavePlans$Docks", "from", "[I", true)
  | 2 => ("WavePlans$Docks", "to", "[I", true)
  | _ => ("WavePlans$Docks", "size", "I", false)
def tyX0 : Nat → FieldType := fun k => match k with
  | 0 => .array .int
  | 1 => .array .int
  | 2 => .array .int
  | _ => .int
abbrev wsX00 : List Cond := u_ws RX0 TX0 4
theorem nmX0 : ∀ a, a < 4 → ∀ b, b < 4 → a ≠ b → (TX0 a).2.1 ≠ (TX0 b).2.1 := by decide +kernel
theorem tyX0_ok : ∀ k, k < 4 → parseFieldDescriptor (TX0 k).2.2.1 = some (tyX0 k) := by decide +kernel
abbrev cX0_init : ByteArray := prog_2_method_1_code
def yX0_init : MethodName := ⟨RX0, "<init>", "()V"⟩
abbrev cX0_open : ByteArray := prog_2_method_2_code
def yX0_open : MethodName := ⟨RX0, "open", "(III)V"⟩
abbrev cX0_hoursOf : ByteArray := prog_2_method_3_code
def yX0_hoursOf : MethodName := ⟨RX0, "hoursOf", "(I)I"⟩
abbrev cX0_have : ByteArray := prog_2_method_4_code
def yX0_have : MethodName := ⟨RX0, "have", "(II)Z"⟩
def RX1 : String := "WavePlans$Order"
def TX1 : u_T := fun k => match k with
  | 0 => ("WavePlans$Order", "due", "I", false)
  | 1 => ("WavePlans$Order", "zone", "I", false)
  | 2 => ("WavePlans$Order", "seconds", "I", false)
  | 3 => ("WavePlans$Order", "carrier", "I", false)
  | 4 => ("WavePlans$Order", "lines", "I", false)
  | 5 => ("WavePlans$Order", "wanted", "[I", true)
  | 6 => ("WavePlans$Order", "place", "I", false)
  | 7 => ("WavePlans$Order", "finished", "Z", false)
  | _ => ("WavePlans$Order", "looked", "Z", false)
def tyX1 : Nat → FieldType := fun k => match k with
  | 0 => .int
  | 1 => .int
  | 2 => .int
  | 3 => .int
  | 4 => .int
  | 5 => .array .int
  | 6 => .int
  | 7 => .boolean
  | _ => .boolean
abbrev wsX10 : List Cond := u_ws RX1 TX1 9
theorem nmX1 : ∀ a, a < 9 → ∀ b, b < 9 → a ≠ b → (TX1 a).2.1 ≠ (TX1 b).2.1 := by decide +kernel
theorem tyX1_ok : ∀ k, k < 9 → parseFieldDescriptor (TX1 k).2.2.1 = some (tyX1 k) := by decide +kernel
abbrev cX1_init : ByteArray := prog_3_method_1_code
def yX1_init : MethodName := ⟨RX1, "<init>", "()V"⟩
abbrev cX1_savingWith : ByteArray := prog_3_method_2_code
def yX1_savingWith : MethodName := ⟨RX1, "savingWith", "(LWavePlans$Order;)I"⟩
def RX2 : String := "WavePlans$Wave"
def TX2 : u_T := fun k => match k with
  | 0 => ("WavePlans$Wave", "members", "[I", true)
  | 1 => ("WavePlans$Wave", "size", "I", false)
  | 2 => ("WavePlans$Wave", "carrier", "I", false)
  | _ => ("WavePlans$Wave", "released", "Z", false)
def tyX2 : Nat → FieldType := fun k => match k with
  | 0 => .array .int
  | 1 => .int
  | 2 => .int
  | _ => .boolean
abbrev wsX20 : List Cond := u_ws RX2 TX2 4
theorem nmX2 : ∀ a, a < 4 → ∀ b, b < 4 → a ≠ b → (TX2 a).2.1 ≠ (TX2 b).2.1 := by decide +kernel
theorem tyX2_ok : ∀ k, k < 4 → parseFieldDescriptor (TX2 k).2.2.1 = some (tyX2 k) := by decide +kernel
abbrev cX2_init : ByteArray := prog_4_method_1_code
def yX2_init : MethodName := ⟨RX2, "<init>", "()V"⟩
abbrev cX2_add : ByteArray := prog_4_method_2_code
def yX2_add : MethodName := ⟨RX2, "add", "(I)V"⟩
abbrev cX2_addAll : ByteArray := prog_4_method_3_code
def yX2_addAll : MethodName := ⟨RX2, "addAll", "(LWavePlans$Wave;)V"⟩
abbrev cX2_remove : ByteArray := prog_4_method_4_code
def yX2_remove : MethodName := ⟨RX2, "remove", "(I)V"⟩
abbrev cX2_empty : ByteArray := prog_4_method_5_code
def yX2_empty : MethodName := ⟨RX2, "empty", "()V"⟩
def RX3 : String := "WavePlans"
def TX3 : u_T := fun k => match k with
  | 0 => ("WavePlans", "capacity", "I", true)
  | 1 => ("WavePlans", "docks", "LWavePlans$Docks;", true)
  | 2 => ("WavePlans", "pieces", "[I", true)
  | 3 => ("WavePlans", "orders", "[LWavePlans$Order;", true)
  | 4 => ("WavePlans", "orderCount", "I", false)
  | 5 => ("WavePlans", "waves", "[LWavePlans$Wave;", true)
  | 6 => ("WavePlans", "waveCount", "I", false)
  | _ => ("WavePlans", "trial", "LWavePlans$Wave;", true)
def tyX3 : Nat → FieldType := fun k => match k with
  | 0 => .int
  | 1 => .object "WavePlans$Docks"
  | 2 => .array .int
  | 3 => .array (.object "WavePlans$Order")
  | 4 => .int
  | 5 => .array (.object "WavePlans$Wave")
  | 6 => .int
  | _ => .object "WavePlans$Wave"
abbrev wsX30 : List Cond := u_ws RX3 TX3 8
theorem nmX3 : ∀ a, a < 8 → ∀ b, b < 8 → a ≠ b → (TX3 a).2.1 ≠ (TX3 b).2.1 := by decide +kernel
theorem tyX3_ok : ∀ k, k < 8 → parseFieldDescriptor (TX3 k).2.2.1 = some (tyX3 k) := by decide +kernel
abbrev cX3_init : ByteArray := prog_1_method_1_code
def yX3_init : MethodName := ⟨RX3, "<init>", "(I)V"⟩
abbrev cX3_order : ByteArray := prog_1_method_2_code
def yX3_order : MethodName := ⟨RX3, "order", "(III)I"⟩
abbrev cX3_line : ByteArray := prog_1_method_3_code
def yX3_line : MethodName := ⟨RX3, "line", "(III)I"⟩
abbrev cX3_carrier : ByteArray := prog_1_method_4_code
def yX3_carrier : MethodName := ⟨RX3, "carrier", "(II)V"⟩
abbrev cX3_hour : ByteArray := prog_1_method_5_code
def yX3_hour : MethodName := ⟨RX3, "hour", "(III)I"⟩
abbrev cX3_stock : ByteArray := prog_1_method_6_code
def yX3_stock : MethodName := ⟨RX3, "stock", "(II)V"⟩
abbrev cX3_plan : ByteArray := prog_1_method_7_code
def yX3_plan : MethodName := ⟨RX3, "plan", "()I"⟩
abbrev cX3_wave : ByteArray := prog_1_method_8_code
def yX3_wave : MethodName := ⟨RX3, "wave", "(I)I"⟩
abbrev cX3_told : ByteArray := prog_1_method_9_code
def yX3_told : MethodName := ⟨RX3, "told", "(II)I"⟩
abbrev cX3_member : ByteArray := prog_1_method_10_code
def yX3_member : MethodName := ⟨RX3, "member", "(II)I"⟩
abbrev cX3_replenish : ByteArray := prog_1_method_11_code
def yX3_replenish : MethodName := ⟨RX3, "replenish", "(II)I"⟩
abbrev cX3_lacks : ByteArray := prog_1_method_12_code
def yX3_lacks : MethodName := ⟨RX3, "lacks", "(II)I"⟩
abbrev cX3_release : ByteArray := prog_1_method_13_code
def yX3_release : MethodName := ⟨RX3, "release", "(I)I"⟩
abbrev cX3_done : ByteArray := prog_1_method_14_code
def yX3_done : MethodName := ⟨RX3, "done", "(I)I"⟩
abbrev cX3_change : ByteArray := prog_1_method_15_code
def yX3_change : MethodName := ⟨RX3, "change", "(II)Z"⟩
abbrev cX3_join : ByteArray := prog_1_method_16_code
def yX3_join : MethodName := ⟨RX3, "join", "(II)I"⟩
abbrev cX3_cutoff : ByteArray := prog_1_method_17_code
def yX3_cutoff : MethodName := ⟨RX3, "cutoff", "(II)I"⟩
abbrev cX3_late : ByteArray := prog_1_method_18_code
def yX3_late : MethodName := ⟨RX3, "late", "(I)I"⟩
abbrev cX3_count : ByteArray := prog_1_method_19_code
def yX3_count : MethodName := ⟨RX3, "count", "(I)I"⟩
abbrev cX3_requireRange : ByteArray := prog_1_method_20_code
def yX3_requireRange : MethodName := ⟨RX3, "requireRange", "(III)V"⟩
abbrev cX3_requireNotNegative : ByteArray := prog_1_method_21_code
def yX3_requireNotNegative : MethodName := ⟨RX3, "requireNotNegative", "(I)V"⟩
abbrev cX3_requireFree : ByteArray := prog_1_method_22_code
def yX3_requireFree : MethodName := ⟨RX3, "requireFree", "(LWavePlans$Order;)V"⟩
abbrev cX3_requirePlanned : ByteArray := prog_1_method_23_code
def yX3_requirePlanned : MethodName := ⟨RX3, "requirePlanned", "(LWavePlans$Wave;)V"⟩
abbrev cX3_requireOrder : ByteArray := prog_1_method_24_code
def yX3_requireOrder : MethodName := ⟨RX3, "requireOrder", "(I)LWavePlans$Order;"⟩
abbrev cX3_requireWave : ByteArray := prog_1_method_25_code
def yX3_requireWave : MethodName := ⟨RX3, "requireWave", "(I)LWavePlans$Wave;"⟩
abbrev cX3_fits : ByteArray := prog_1_method_26_code
def yX3_fits : MethodName := ⟨RX3, "fits", "(LWavePlans$Order;)Z"⟩
abbrev cX3_allFit : ByteArray := prog_1_method_27_code
def yX3_allFit : MethodName := ⟨RX3, "allFit", "(LWavePlans$Wave;)Z"⟩
abbrev cX3_isReleased : ByteArray := prog_1_method_28_code
def yX3_isReleased : MethodName := ⟨RX3, "isReleased", "(LWavePlans$Order;)Z"⟩
abbrev cX3_takeOut : ByteArray := prog_1_method_29_code
def yX3_takeOut : MethodName := ⟨RX3, "takeOut", "(II)V"⟩
abbrev cX3_makeWaves : ByteArray := prog_1_method_30_code
def yX3_makeWaves : MethodName := ⟨RX3, "makeWaves", "()Z"⟩
abbrev cX3_mayBePlanned : ByteArray := prog_1_method_31_code
def yX3_mayBePlanned : MethodName := ⟨RX3, "mayBePlanned", "(LWavePlans$Order;)Z"⟩
abbrev cX3_nextBeginning : ByteArray := prog_1_method_32_code
def yX3_nextBeginning : MethodName := ⟨RX3, "nextBeginning", "()I"⟩
abbrev cX3_makeWave : ByteArray := prog_1_method_33_code
def yX3_makeWave : MethodName := ⟨RX3, "makeWave", "(I)V"⟩
abbrev cX3_bestAddition : ByteArray := prog_1_method_34_code
def yX3_bestAddition : MethodName := ⟨RX3, "bestAddition", "(LWavePlans$Wave;I)I"⟩
abbrev cX3_undoWavesBehind : ByteArray := prog_1_method_35_code
def yX3_undoWavesBehind : MethodName := ⟨RX3, "undoWavesBehind", "(I)V"⟩
abbrev cX3_greatestSaving : ByteArray := prog_1_method_36_code
def yX3_greatestSaving : MethodName := ⟨RX3, "greatestSaving", "(LWavePlans$Order;LWavePlans$Wave;I)I"⟩
abbrev cX3_savedOf : ByteArray := prog_1_method_37_code
def yX3_savedOf : MethodName := ⟨RX3, "savedOf", "(LWavePlans$Wave;)I"⟩
abbrev cX3_savedBehind : ByteArray := prog_1_method_38_code
def yX3_savedBehind : MethodName := ⟨RX3, "savedBehind", "(I)I"⟩
abbrev cX3_secondsOf : ByteArray := prog_1_method_39_code
def yX3_secondsOf : MethodName := ⟨RX3, "secondsOf", "(LWavePlans$Wave;)I"⟩
abbrev cX3_dueOf : ByteArray := prog_1_method_40_code
def yX3_dueOf : MethodName := ⟨RX3, "dueOf", "(LWavePlans$Wave;)I"⟩
abbrev cX3_finishedOf : ByteArray := prog_1_method_41_code
def yX3_finishedOf : MethodName := ⟨RX3, "finishedOf", "(LWavePlans$Wave;)I"⟩
abbrev cX3_wantedOf : ByteArray := prog_1_method_42_code
def yX3_wantedOf : MethodName := ⟨RX3, "wantedOf", "(LWavePlans$Wave;I)I"⟩
abbrev cX3_lackOf : ByteArray := prog_1_method_43_code
def yX3_lackOf : MethodName := ⟨RX3, "lackOf", "(II)I"⟩
abbrev cX3_lackedGood : ByteArray := prog_1_method_44_code
def yX3_lackedGood : MethodName := ⟨RX3, "lackedGood", "(II)I"⟩
abbrev cX3_takeFromStock : ByteArray := prog_1_method_45_code
def yX3_takeFromStock : MethodName := ⟨RX3, "takeFromStock", "(LWavePlans$Order;)V"⟩
abbrev cX3_wavesWithOrders : ByteArray := prog_1_method_46_code
def yX3_wavesWithOrders : MethodName := ⟨RX3, "wavesWithOrders", "()I"⟩
abbrev cX3_ordersAt : ByteArray := prog_1_method_47_code
def yX3_ordersAt : MethodName := ⟨RX3, "ordersAt", "(I)I"⟩
abbrev cX3_finishedOrders : ByteArray := prog_1_method_48_code
def yX3_finishedOrders : MethodName := ⟨RX3, "finishedOrders", "()I"⟩
def RX4 : String := "WavePlansModel"
def TX4 : u_T := fun k => match k with
  | 0 => ("WavePlansModel", "code", "I", false)
  | 1 => ("WavePlansModel", "capacity", "I", true)
  | 2 => ("WavePlansModel", "orders", "I", false)
  | 3 => ("WavePlansModel", "due", "[I", true)
  | 4 => ("WavePlansModel", "zone", "[I", true)
  | 5 => ("WavePlansModel", "seconds", "[I", true)
  | 6 => ("WavePlansModel", "carrier", "[I", true)
  | 7 => ("WavePlansModel", "waveOf", "[I", true)
  | 8 => ("WavePlansModel", "came", "[I", true)
  | 9 => ("WavePlansModel", "done", "[Z", true)
  | 10 => ("WavePlansModel", "wants", "[I", true)
  | 11 => ("WavePlansModel", "coming", "I", false)
  | 12 => ("WavePlansModel", "hours", "I", false)
  | 13 => ("WavePlansModel", "hourCarrier", "[I", true)
  | 14 => ("WavePlansModel", "hourFrom", "[I", true)
  | 15 => ("WavePlansModel", "hourTo", "[I", true)
  | 16 => ("WavePlansModel", "waves", "I", false)
  | 17 => ("WavePlansModel", "released", "[Z", true)
  | 18 => ("WavePlansModel", "stock", "[I", true)
  | 19 => ("WavePlansModel", "newWave", "[I", true)
  | 20 => ("WavePlansModel", "newCame", "[I", true)
  | _ => ("WavePlansModel", "looked", "[Z", true)
def tyX4 : Nat → FieldType := fun k => match k with
  | 0 => .int
  | 1 => .int
  | 2 => .int
  | 3 => .array .int
  | 4 => .array .int
  | 5 => .array .int
  | 6 => .array .int
  | 7 => .array .int
  | 8 => .array .int
  | 9 => .array .boolean
  | 10 => .array .int
  | 11 => .int
  | 12 => .int
  | 13 => .array .int
  | 14 => .array .int
  | 15 => .array .int
  | 16 => .int
  | 17 => .array .boolean
  | 18 => .array .int
  | 19 => .array .int
  | 20 => .array .int
  | _ => .array .boolean
abbrev wsX40 : List Cond := u_ws RX4 TX4 22
theorem nmX4 : ∀ a, a < 22 → ∀ b, b < 22 → a ≠ b → (TX4 a).2.1 ≠ (TX4 b).2.1 := by decide +kernel
theorem tyX4_ok : ∀ k, k < 22 → parseFieldDescriptor (TX4 k).2.2.1 = some (tyX4 k) := by decide +kernel
abbrev cX4_init : ByteArray := prog_6_method_1_code
def yX4_init : MethodName := ⟨RX4, "<init>", "(I)V"⟩
abbrev cX4_thrown : ByteArray := prog_6_method_2_code
def yX4_thrown : MethodName := ⟨RX4, "thrown", "()I"⟩
abbrev cX4_in : ByteArray := prog_6_method_3_code
def yX4_in : MethodName := ⟨RX4, "in", "(III)Z"⟩
abbrev cX4_isOrder : ByteArray := prog_6_method_4_code
def yX4_isOrder : MethodName := ⟨RX4, "isOrder", "(I)Z"⟩
abbrev cX4_isTime : ByteArray := prog_6_method_5_code
def yX4_isTime : MethodName := ⟨RX4, "isTime", "(I)Z"⟩
abbrev cX4_order : ByteArray := prog_6_method_6_code
def yX4_order : MethodName := ⟨RX4, "order", "(III)I"⟩
abbrev cX4_lines : ByteArray := prog_6_method_7_code
def yX4_lines : MethodName := ⟨RX4, "lines", "(I)I"⟩
abbrev cX4_line : ByteArray := prog_6_method_8_code
def yX4_line : MethodName := ⟨RX4, "line", "(III)I"⟩
abbrev cX4_carrier : ByteArray := prog_6_method_9_code
def yX4_carrier : MethodName := ⟨RX4, "carrier", "(II)V"⟩
abbrev cX4_hour : ByteArray := prog_6_method_10_code
def yX4_hour : MethodName := ⟨RX4, "hour", "(III)I"⟩
abbrev cX4_stock : ByteArray := prog_6_method_11_code
def yX4_stock : MethodName := ⟨RX4, "stock", "(II)V"⟩
abbrev cX4_fits : ByteArray := prog_6_method_12_code
def yX4_fits : MethodName := ⟨RX4, "fits", "(II)Z"⟩
abbrev cX4_saving : ByteArray := prog_6_method_13_code
def yX4_saving : MethodName := ⟨RX4, "saving", "(II)I"⟩
abbrev cX4_savedBy : ByteArray := prog_6_method_14_code
def yX4_savedBy : MethodName := ⟨RX4, "savedBy", "(I)I"⟩
abbrev cX4_savedOf : ByteArray := prog_6_method_15_code
def yX4_savedOf : MethodName := ⟨RX4, "savedOf", "(I)I"⟩
abbrev cX4_sizeOf : ByteArray := prog_6_method_16_code
def yX4_sizeOf : MethodName := ⟨RX4, "sizeOf", "(I)I"⟩
abbrev cX4_secondsOf : ByteArray := prog_6_method_17_code
def yX4_secondsOf : MethodName := ⟨RX4, "secondsOf", "(I)I"⟩
abbrev cX4_isWave : ByteArray := prog_6_method_18_code
def yX4_isWave : MethodName := ⟨RX4, "isWave", "(I)Z"⟩
abbrev cX4_isOpen : ByteArray := prog_6_method_19_code
def yX4_isOpen : MethodName := ⟨RX4, "isOpen", "(I)Z"⟩
abbrev cX4_isEarlier : ByteArray := prog_6_method_20_code
def yX4_isEarlier : MethodName := ⟨RX4, "isEarlier", "(II)Z"⟩
abbrev cX4_plan : ByteArray := prog_6_method_21_code
def yX4_plan : MethodName := ⟨RX4, "plan", "()I"⟩
abbrev cX4_begin : ByteArray := prog_6_method_22_code
def yX4_begin : MethodName := ⟨RX4, "begin", "()I"⟩
abbrev cX4_put : ByteArray := prog_6_method_23_code
def yX4_put : MethodName := ⟨RX4, "put", "(II)V"⟩
abbrev cX4_fill : ByteArray := prog_6_method_24_code
def yX4_fill : MethodName := ⟨RX4, "fill", "(II)I"⟩
abbrev cX4_most : ByteArray := prog_6_method_25_code
def yX4_most : MethodName := ⟨RX4, "most", "(II)I"⟩
abbrev cX4_best : ByteArray := prog_6_method_26_code
def yX4_best : MethodName := ⟨RX4, "best", "(III)I"⟩
abbrev cX4_wave : ByteArray := prog_6_method_27_code
def yX4_wave : MethodName := ⟨RX4, "wave", "(I)I"⟩
abbrev cX4_memberAt : ByteArray := prog_6_method_28_code
def yX4_memberAt : MethodName := ⟨RX4, "memberAt", "(II)I"⟩
abbrev cX4_told : ByteArray := prog_6_method_29_code
def yX4_told : MethodName := ⟨RX4, "told", "(II)I"⟩
abbrev cX4_member : ByteArray := prog_6_method_30_code
def yX4_member : MethodName := ⟨RX4, "member", "(II)I"⟩
abbrev cX4_wantsOf : ByteArray := prog_6_method_31_code
def yX4_wantsOf : MethodName := ⟨RX4, "wantsOf", "(II)I"⟩
abbrev cX4_lackOf : ByteArray := prog_6_method_32_code
def yX4_lackOf : MethodName := ⟨RX4, "lackOf", "(II)I"⟩
abbrev cX4_replenish : ByteArray := prog_6_method_33_code
def yX4_replenish : MethodName := ⟨RX4, "replenish", "(II)I"⟩
abbrev cX4_lacks : ByteArray := prog_6_method_34_code
def yX4_lacks : MethodName := ⟨RX4, "lacks", "(II)I"⟩
abbrev cX4_release : ByteArray := prog_6_method_35_code
def yX4_release : MethodName := ⟨RX4, "release", "(I)I"⟩
abbrev cX4_done : ByteArray := prog_6_method_36_code
def yX4_done : MethodName := ⟨RX4, "done", "(I)I"⟩
abbrev cX4_change : ByteArray := prog_6_method_37_code
def yX4_change : MethodName := ⟨RX4, "change", "(II)Z"⟩
abbrev cX4_join : ByteArray := prog_6_method_38_code
def yX4_join : MethodName := ⟨RX4, "join", "(II)I"⟩
abbrev cX4_cutoff : ByteArray := prog_6_method_39_code
def yX4_cutoff : MethodName := ⟨RX4, "cutoff", "(II)I"⟩
abbrev cX4_late : ByteArray := prog_6_method_40_code
def yX4_late : MethodName := ⟨RX4, "late", "(I)I"⟩
abbrev cX4_count : ByteArray := prog_6_method_41_code
def yX4_count : MethodName := ⟨RX4, "count", "(I)I"⟩
def RJ9 : String := "java/lang/Math"
def TJ9 : u_T := fun k => match k with
  | _ => ("", "", "", false)
def tyJ9 : Nat → FieldType := fun k => match k with
  | _ => .int
abbrev wsJ90 : List Cond := u_ws RJ9 TJ9 0
theorem nmJ9 : ∀ a, a < 0 → ∀ b, b < 0 → a ≠ b → (TJ9 a).2.1 ≠ (TJ9 b).2.1 := by decide +kernel
theorem tyJ9_ok : ∀ k, k < 0 → parseFieldDescriptor (TJ9 k).2.2.1 = some (tyJ9 k) := by decide +kernel
abbrev cJ9_abs_0f7a4 : ByteArray := prog_10_method_59_code
def yJ9_abs_0f7a4 : MethodName := ⟨RJ9, "abs", "(I)I"⟩
abbrev cJ9_max_7cf53 : ByteArray := prog_10_method_65_code
def yJ9_max_7cf53 : MethodName := ⟨RJ9, "max", "(II)I"⟩
abbrev cJ9_min_7cf53 : ByteArray := prog_10_method_69_code
def yJ9_min_7cf53 : MethodName := ⟨RJ9, "min", "(II)I"⟩
def RJ0 : String := "java/lang/String"
def TJ0 : u_T := fun k => match k with
  | _ => ("", "", "", false)
def tyJ0 : Nat → FieldType := fun k => match k with
  | _ => .int
abbrev wsJ00 : List Cond := u_ws RJ0 TJ0 0
theorem nmJ0 : ∀ a, a < 0 → ∀ b, b < 0 → a ≠ b → (TJ0 a).2.1 ≠ (TJ0 b).2.1 := by decide +kernel
theorem tyJ0_ok : ∀ k, k < 0 → parseFieldDescriptor (TJ0 k).2.2.1 = some (tyJ0 k) := by decide +kernel
def RL : String := "WavePlansLaw"
abbrev cL_cell : ByteArray := method_2_code
def yL_cell : MethodName := ⟨RL, "cell", "([II)I"⟩
abbrev cL_order : ByteArray := method_3_code
def yL_order : MethodName := ⟨RL, "order", "(LWavePlans;III[J)I"⟩
abbrev cL_line : ByteArray := method_4_code
def yL_line : MethodName := ⟨RL, "line", "(LWavePlans;III[J)I"⟩
abbrev cL_carrier : ByteArray := method_5_code
def yL_carrier : MethodName := ⟨RL, "carrier", "(LWavePlans;II)I"⟩
abbrev cL_hour : ByteArray := method_6_code
def yL_hour : MethodName := ⟨RL, "hour", "(LWavePlans;III[J)I"⟩
abbrev cL_stock : ByteArray := method_7_code
def yL_stock : MethodName := ⟨RL, "stock", "(LWavePlans;II)I"⟩
abbrev cL_plan : ByteArray := method_8_code
def yL_plan : MethodName := ⟨RL, "plan", "(LWavePlans;[J)I"⟩
abbrev cL_wave : ByteArray := method_9_code
def yL_wave : MethodName := ⟨RL, "wave", "(LWavePlans;I[J)I"⟩
abbrev cL_told : ByteArray := method_10_code
def yL_told : MethodName := ⟨RL, "told", "(LWavePlans;II[J)I"⟩
abbrev cL_member : ByteArray := method_11_code
def yL_member : MethodName := ⟨RL, "member", "(LWavePlans;II[J)I"⟩
abbrev cL_replenish : ByteArray := method_12_code
def yL_replenish : MethodName := ⟨RL, "replenish", "(LWavePlans;II[J)I"⟩
abbrev cL_lacks : ByteArray := method_13_code
def yL_lacks : MethodName := ⟨RL, "lacks", "(LWavePlans;II[J)I"⟩
abbrev cL_release : ByteArray := method_14_code
def yL_release : MethodName := ⟨RL, "release", "(LWavePlans;I[J)I"⟩
abbrev cL_done : ByteArray := method_15_code
def yL_done : MethodName := ⟨RL, "done", "(LWavePlans;I[J)I"⟩
abbrev cL_change : ByteArray := method_16_code
def yL_change : MethodName := ⟨RL, "change", "(LWavePlans;II[J)I"⟩
abbrev cL_join : ByteArray := method_17_code
def yL_join : MethodName := ⟨RL, "join", "(LWavePlans;II[J)I"⟩
abbrev cL_cutoff : ByteArray := method_18_code
def yL_cutoff : MethodName := ⟨RL, "cutoff", "(LWavePlans;II[J)I"⟩
abbrev cL_late : ByteArray := method_19_code
def yL_late : MethodName := ⟨RL, "late", "(LWavePlans;I[J)I"⟩
abbrev cL_law : ByteArray := code
def yL_law : MethodName := ⟨RL, "law", "([I)Z"⟩
abbrev vwCl : List vw_C := [(RX0, TX0, 4), (RX1, TX1, 9), (RX2, TX2, 4), (RX3, TX3, 8), (RX4, TX4, 22)]
end
section
theorem dX0_init_0 : decode cX0_init 0 = .ok (.aload_n 0, 1) := by decide +kernel
theorem dX0_init_1 : decode cX0_init 1 = .ok (.invokespecial 3, 3) := by decide +kernel
theorem dX0_init_4 : decode cX0_init 4 = .ok (.aload_n 0, 1) := by decide +kernel
theorem dX0_init_5 : decode cX0_init 5 = .ok (.bipush 10, 2) := by decide +kernel
theorem dX0_init_7 : decode cX0_init 7 = .ok (.newarray .int, 2) := by decide +kernel
theorem dX0_init_9 : decode cX0_init 9 = .ok (.putfield 9, 3) := by decide +kernel
theorem dX0_init_12 : decode cX0_init 12 = .ok (.aload_n 0, 1) := by decide +kernel
theorem dX0_init_13 : decode cX0_init 13 = .ok (.bipush 10, 2) := by decide +kernel
theorem dX0_init_15 : decode cX0_init 15 = .ok (.newarray .int, 2) := by decide +kernel
theorem dX0_init_17 : decode cX0_init 17 = .ok (.putfield 15, 3) := by decide +kernel
theorem dX0_init_20 : decode cX0_init 20 = .ok (.aload_n 0, 1) := by decide +kernel
theorem dX0_init_21 : decode cX0_init 21 = .ok (.bipush 10, 2) := by decide +kernel
theorem dX0_init_23 : decode cX0_init 23 = .ok (.newarray .int, 2) := by decide +kernel
theorem dX0_init_25 : decode cX0_init 25 = .ok (.putfield 18, 3) := by decide +kernel
theorem dX0_init_28 : decode cX0_init 28 = .ok (.return_, 1) := by decide +kernel
theorem dX0_open_0 : decode cX0_open 0 = .ok (.aload_n 0, 1) := by decide +kernel
theorem dX0_open_1 : decode cX0_open 1 = .ok (.getfield 21, 3) := by decide +kernel
theorem dX0_open_4 : decode cX0_open 4 = .ok (.bipush 10, 2) := by decide +kernel
theorem dX0_open_6 : decode cX0_open 6 = .ok (.if_icmp .ge 43, 3) := by decide +kernel
theorem dX0_open_9 : decode cX0_open 9 = .ok (.aload_n 0, 1) := by decide +kernel
theorem dX0_open_10 : decode cX0_open 10 = .ok (.getfield 9, 3) := by decide +kernel
theorem dX0_open_13 : decode cX0_open 13 = .ok (.aload_n 0, 1) := by decide +kernel
theorem dX0_open_14 : decode cX0_open 14 = .ok (.getfield 21, 3) := by decide +kernel
theorem dX0_open_17 : decode cX0_open 17 = .ok (.iload_n 1, 1) := by decide +kernel
theorem dX0_open_18 : decode cX0_open 18 = .ok (.iastore, 1) := by decide +kernel
theorem dX0_open_19 : decode cX0_open 19 = .ok (.aload_n 0, 1) := by decide +kernel
theorem dX0_open_20 : decode cX0_open 20 = .ok (.getfield 15, 3) := by decide +kernel
theorem dX0_open_23 : decode cX0_open 23 = .ok (.aload_n 0, 1) := by decide +kernel
theorem dX0_open_24 : decode cX0_open 24 = .ok (.getfield 21, 3) := by decide +kernel
theorem dX0_open_27 : decode cX0_open 27 = .ok (.iload_n 2, 1) := by decide +kernel
theorem dX0_open_28 : decode cX0_open 28 = .ok (.iastore, 1) := by decide +kernel
theorem dX0_open_29 : decode cX0_open 29 = .ok (.aload_n 0, 1) := by decide +kernel
theorem dX0_open_30 : decode cX0_open 30 = .ok (.getfield 18, 3) := by decide +kernel
theorem dX0_open_33 : decode cX0_open 33 = .ok (.aload_n 0, 1) := by decide +kernel
theorem dX0_open_34 : decode cX0_open 34 = .ok (.getfield 21, 3) := by decide +kernel
theorem dX0_open_37 : decode cX0_open 37 = .ok (.iload_n 3, 1) := by decide +kernel
theorem dX0_open_38 : decode cX0_open 38 = .ok (.iastore, 1) := by decide +kernel
theorem dX0_open_39 : decode cX0_open 39 = .ok (.aload_n 0, 1) := by decide +kernel
theorem dX0_open_40 : decode cX0_open 40 = .ok (.dup, 1) := by decide +kernel
theorem dX0_open_41 : decode cX0_open 41 = .ok (.getfield 21, 3) := by decide +kernel
theorem dX0_open_44 : decode cX0_open 44 = .ok (.iconst 1, 1) := by decide +kernel
theorem dX0_open_45 : decode cX0_open 45 = .ok (.iadd, 1) := by decide +kernel
theorem dX0_open_46 : decode cX0_open 46 = .ok (.putfield 21, 3) := by decide +kernel
theorem dX0_open_49 : decode cX0_open 49 = .ok (.return_, 1) := by decide +kernel
theorem dX0_hoursOf_0 : decode cX0_hoursOf 0 = .ok (.iconst 0, 1) := by decide +kernel
theorem dX0_hoursOf_1 : decode cX0_hoursOf 1 = .ok (.istore_n 2, 1) := by decide +kernel
theorem dX0_hoursOf_2 : decode cX0_hoursOf 2 = .ok (.iconst 0, 1) := by decide +kernel
theorem dX0_hoursOf_3 : decode cX0_hoursOf 3 = .ok (.istore_n 3, 1) := by decide +kernel
theorem dX0_hoursOf_4 : decode cX0_hoursOf 4 = .ok (.iload_n 3, 1) := by decide +kernel
theorem dX0_hoursOf_5 : decode cX0_hoursOf 5 = .ok (.aload_n 0, 1) := by decide +kernel
theorem dX0_hoursOf_6 : decode cX0_hoursOf 6 = .ok (.getfield 21, 3) := by decide +kernel
theorem dX0_hoursOf_9 : decode cX0_hoursOf 9 = .ok (.if_icmp .ge 22, 3) := by decide +kernel
theorem dX0_hoursOf_12 : decode cX0_hoursOf 12 = .ok (.aload_n 0, 1) := by decide +kernel
theorem dX0_hoursOf_13 : decode cX0_hoursOf 13 = .ok (.getfield 9, 3) := by decide +kernel
theorem dX0_hoursOf_16 : decode cX0_hoursOf 16 = .ok (.iload_n 3, 1) := by decide +kernel
theorem dX0_hoursOf_17 : decode cX0_hoursOf 17 = .ok (.iaload, 1) := by decide +kernel
theorem dX0_hoursOf_18 : decode cX0_hoursOf 18 = .ok (.iload_n 1, 1) := by decide +kernel
theorem dX0_hoursOf_19 : decode cX0_hoursOf 19 = .ok (.if_icmp .ne 6, 3) := by decide +kernel
theorem dX0_hoursOf_22 : decode cX0_hoursOf 22 = .ok (.iinc 2 1, 3) := by decide +kernel
theorem dX0_hoursOf_25 : decode cX0_hoursOf 25 = .ok (.iinc 3 1, 3) := by decide +kernel
theorem dX0_hoursOf_28 : decode cX0_hoursOf 28 = .ok (.goto (-24), 3) := by decide +kernel
theorem dX0_hoursOf_31 : decode cX0_hoursOf 31 = .ok (.iload_n 2, 1) := by decide +kernel
theorem dX0_hoursOf_32 : decode cX0_hoursOf 32 = .ok (.ireturn, 1) := by decide +kernel
theorem dX0_have_0 : decode cX0_have 0 = .ok (.iconst 0, 1) := by decide +kernel
theorem dX0_have_1 : decode cX0_have 1 = .ok (.istore_n 3, 1) := by decide +kernel
theorem dX0_have_2 : decode cX0_have 2 = .ok (.iload_n 3, 1) := by decide +kernel
theorem dX0_have_3 : decode cX0_have 3 = .ok (.aload_n 0, 1) := by decide +kernel
theorem dX0_have_4 : decode cX0_have 4 = .ok (.getfield 21, 3) := by decide +kernel
theorem dX0_have_7 : decode cX0_have 7 = .ok (.if_icmp .ge 41, 3) := by decide +kernel
theorem dX0_have_10 : decode cX0_have 10 = .ok (.aload_n 0, 1) := by decide +kernel
theorem dX0_have_11 : decode cX0_have 11 = .ok (.getfield 9, 3) := by decide +kernel
theorem dX0_have_14 : decode cX0_have 14 = .ok (.iload_n 3, 1) := by decide +kernel
theorem dX0_have_15 : decode cX0_have 15 = .ok (.iaload, 1) := by decide +kernel
theorem dX0_have_16 : decode cX0_have 16 = .ok (.iload_n 1, 1) := by decide +kernel
theorem dX0_have_17 : decode cX0_have 17 = .ok (.if_icmp .ne 25, 3) := by decide +kernel
theorem dX0_have_20 : decode cX0_have 20 = .ok (.aload_n 0, 1) := by decide +kernel
theorem dX0_have_21 : decode cX0_have 21 = .ok (.getfield 15, 3) := by decide +kernel
theorem dX0_have_24 : decode cX0_have 24 = .ok (.iload_n 3, 1) := by decide +kernel
theorem dX0_have_25 : decode cX0_have 25 = .ok (.iaload, 1) := by decide +kernel
theorem dX0_have_26 : decode cX0_have 26 = .ok (.iload_n 2, 1) := by decide +kernel
theorem dX0_have_27 : decode cX0_have 27 = .ok (.if_icmp .gt 15, 3) := by decide +kernel
theorem dX0_have_30 : decode cX0_have 30 = .ok (.iload_n 2, 1) := by decide +kernel
theorem dX0_have_31 : decode cX0_have 31 = .ok (.aload_n 0, 1) := by decide +kernel
theorem dX0_have_32 : decode cX0_have 32 = .ok (.getfield 18, 3) := by decide +kernel
theorem dX0_have_35 : decode cX0_have 35 = .ok (.iload_n 3, 1) := by decide +kernel
theorem dX0_have_36 : decode cX0_have 36 = .ok (.iaload, 1) := by decide +kernel
theorem dX0_have_37 : decode cX0_have 37 = .ok (.if_icmp .gt 5, 3) := by decide +kernel
theorem dX0_have_40 : decode cX0_have 40 = .ok (.iconst 1, 1) := by decide +kernel
theorem dX0_have_41 : decode cX0_have 41 = .ok (.ireturn, 1) := by decide +kernel
theorem dX0_have_42 : decode cX0_have 42 = .ok (.iinc 3 1, 3) := by decide +kernel
theorem dX0_have_45 : decode cX0_have 45 = .ok (.goto (-43), 3) := by decide +kernel
theorem dX0_have_48 : decode cX0_have 48 = .ok (.iconst 0, 1) := by decide +kernel
theorem dX0_have_49 : decode cX0_have 49 = .ok (.ireturn, 1) := by decide +kernel
theorem dX1_init_0 : decode cX1_init 0 = .ok (.aload_n 0, 1) := by decide +kernel
theorem dX1_init_1 : decode cX1_init 1 = .ok (.invokespecial 3, 3) := by decide +kernel
theorem dX1_init_4 : decode cX1_init 4 = .ok (.aload_n 0, 1) := by decide +kernel
theorem dX1_init_5 : decode cX1_init 5 = .ok (.bipush 10, 2) := by decide +kernel
theorem dX1_init_7 : decode cX1_init 7 = .ok (.newarray .int, 2) := by decide +kernel
theorem dX1_init_9 : decode cX1_init 9 = .ok (.putfield 9, 3) := by decide +kernel
theorem dX1_init_12 : decode cX1_init 12 = .ok (.aload_n 0, 1) := by decide +kernel
theorem dX1_init_13 : decode cX1_init 13 = .ok (.iconst 0, 1) := by decide +kernel
theorem dX1_init_14 : decode cX1_init 14 = .ok (.putfield 15, 3) := by decide +kernel
theorem dX1_init_17 : decode cX1_init 17 = .ok (.return_, 1) := by decide +kernel
theorem dX1_savingWith_0 : decode cX1_savingWith 0 = .ok (.iconst 0, 1) := by decide +kernel
theorem dX1_savingWith_1 : decode cX1_savingWith 1 = .ok (.istore_n 2, 1) := by decide +kernel
theorem dX1_savingWith_2 : decode cX1_savingWith 2 = .ok (.aload_n 0, 1) := by decide +kernel
theorem dX1_savingWith_3 : decode cX1_savingWith 3 = .ok (.getfield 19, 3) := by decide +kernel
theorem dX1_savingWith_6 : decode cX1_savingWith 6 = .ok (.aload_n 1, 1) := by decide +kernel
theorem dX1_savingWith_7 : decode cX1_savingWith 7 = .ok (.getfield 19, 3) := by decide +kernel
theorem dX1_savingWith_10 : decode cX1_savingWith 10 = .ok (.if_icmp .ne 9, 3) := by decide +kernel
theorem dX1_savingWith_13 : decode cX1_savingWith 13 = .ok (.bipush 10, 2) := by decide +kernel
theorem dX1_savingWith_15 : decode cX1_savingWith 15 = .ok (.istore_n 2, 1) := by decide +kernel
theorem dX1_savingWith_16 : decode cX1_savingWith 16 = .ok (.goto 21, 3) := by decide +kernel
theorem dX1_savingWith_19 : decode cX1_savingWith 19 = .ok (.aload_n 0, 1) := by decide +kernel
theorem dX1_savingWith_20 : decode cX1_savingWith 20 = .ok (.getfield 19, 3) := by decide +kernel
theorem dX1_savingWith_23 : decode cX1_savingWith 23 = .ok (.aload_n 1, 1) := by decide +kernel
theorem dX1_savingWith_24 : decode cX1_savingWith 24 = .ok (.getfield 19, 3) := by decide +kernel
theorem dX1_savingWith_27 : decode cX1_savingWith 27 = .ok (.isub, 1) := by decide +kernel
theorem dX1_savingWith_28 : decode cX1_savingWith 28 = .ok (.invokestatic 22, 3) := by decide +kernel
theorem dX1_savingWith_31 : decode cX1_savingWith 31 = .ok (.iconst 1, 1) := by decide +kernel
theorem dX1_savingWith_32 : decode cX1_savingWith 32 = .ok (.if_icmp .ne 5, 3) := by decide +kernel
theorem dX1_savingWith_35 : decode cX1_savingWith 35 = .ok (.iconst 5, 1) := by decide +kernel
theorem dX1_savingWith_36 : decode cX1_savingWith 36 = .ok (.istore_n 2, 1) := by decide +kernel
theorem dX1_savingWith_37 : decode cX1_savingWith 37 = .ok (.iconst 0, 1) := by decide +kernel
theorem dX1_savingWith_38 : decode cX1_savingWith 38 = .ok (.istore_n 3, 1) := by decide +kernel
theorem dX1_savingWith_39 : decode cX1_savingWith 39 = .ok (.iload_n 3, 1) := by decide +kernel
theorem dX1_savingWith_40 : decode cX1_savingWith 40 = .ok (.bipush 10, 2) := by decide +kernel
theorem dX1_savingWith_42 : decode cX1_savingWith 42 = .ok (.if_icmp .ge 30, 3) := by decide +kernel
theorem dX1_savingWith_45 : decode cX1_savingWith 45 = .ok (.aload_n 0, 1) := by decide +kernel
theorem dX1_savingWith_46 : decode cX1_savingWith 46 = .ok (.getfield 9, 3) := by decide +kernel
theorem dX1_savingWith_49 : decode cX1_savingWith 49 = .ok (.iload_n 3, 1) := by decide +kernel
theorem dX1_savingWith_50 : decode cX1_savingWith 50 = .ok (.iaload, 1) := by decide +kernel
theorem dX1_savingWith_51 : decode cX1_savingWith 51 = .ok (.ifCond .le 15, 3) := by decide +kernel
theorem dX1_savingWith_54 : decode cX1_savingWith 54 = .ok (.aload_n 1, 1) := by decide +kernel
theorem dX1_savingWith_55 : decode cX1_savingWith 55 = .ok (.getfield 9, 3) := by decide +kernel
theorem dX1_savingWith_58 : decode cX1_savingWith 58 = .ok (.iload_n 3, 1) := by decide +kernel
theorem dX1_savingWith_59 : decode cX1_savingWith 59 = .ok (.iaload, 1) := by decide +kernel
theorem dX1_savingWith_60 : decode cX1_savingWith 60 = .ok (.ifCond .le 6, 3) := by decide +kernel
theorem dX1_savingWith_63 : decode cX1_savingWith 63 = .ok (.iinc 2 3, 3) := by decide +kernel
theorem dX1_savingWith_66 : decode cX1_savingWith 66 = .ok (.iinc 3 1, 3) := by decide +kernel
theorem dX1_savingWith_69 : decode cX1_savingWith 69 = .ok (.goto (-30), 3) := by decide +kernel
theorem dX1_savingWith_72 : decode cX1_savingWith 72 = .ok (.iload_n 2, 1) := by decide +kernel
theorem dX1_savingWith_73 : decode cX1_savingWith 73 = .ok (.aload_n 0, 1) := by decide +kernel
theorem dX1_savingWith_74 : decode cX1_savingWith 74 = .ok (.getfield 28, 3) := by decide +kernel
theorem dX1_savingWith_77 : decode cX1_savingWith 77 = .ok (.aload_n 1, 1) := by decide +kernel
theorem dX1_savingWith_78 : decode cX1_savingWith 78 = .ok (.getfield 28, 3) := by decide +kernel
theorem dX1_savingWith_81 : decode cX1_savingWith 81 = .ok (.invokestatic 31, 3) := by decide +kernel
theorem dX1_savingWith_84 : decode cX1_savingWith 84 = .ok (.invokestatic 31, 3) := by decide +kernel
theorem dX1_savingWith_87 : decode cX1_savingWith 87 = .ok (.ireturn, 1) := by decide +kernel
theorem dX2_init_0 : decode cX2_init 0 = .ok (.aload_n 0, 1) := by decide +kernel
theorem dX2_init_1 : decode cX2_init 1 = .ok (.invokespecial 3, 3) := by decide +kernel
theorem dX2_init_4 : decode cX2_init 4 = .ok (.aload_n 0, 1) := by decide +kernel
theorem dX2_init_5 : decode cX2_init 5 = .ok (.bipush 16, 2) := by decide +kernel
theorem dX2_init_7 : decode cX2_init 7 = .ok (.newarray .int, 2) := by decide +kernel
theorem dX2_init_9 : decode cX2_init 9 = .ok (.putfield 9, 3) := by decide +kernel
theorem dX2_init_12 : decode cX2_init 12 = .ok (.return_, 1) := by decide +kernel
theorem dX2_add_0 : decode cX2_add 0 = .ok (.aload_n 0, 1) := by decide +kernel
theorem dX2_add_1 : decode cX2_add 1 = .ok (.getfield 15, 3) := by decide +kernel
theorem dX2_add_4 : decode cX2_add 4 = .ok (.bipush 16, 2) := by decide +kernel
theorem dX2_add_6 : decode cX2_add 6 = .ok (.if_icmp .ge 23, 3) := by decide +kernel
theorem dX2_add_9 : decode cX2_add 9 = .ok (.aload_n 0, 1) := by decide +kernel
theorem dX2_add_10 : decode cX2_add 10 = .ok (.getfield 9, 3) := by decide +kernel
theorem dX2_add_13 : decode cX2_add 13 = .ok (.aload_n 0, 1) := by decide +kernel
theorem dX2_add_14 : decode cX2_add 14 = .ok (.getfield 15, 3) := by decide +kernel
theorem dX2_add_17 : decode cX2_add 17 = .ok (.iload_n 1, 1) := by decide +kernel
theorem dX2_add_18 : decode cX2_add 18 = .ok (.iastore, 1) := by decide +kernel
theorem dX2_add_19 : decode cX2_add 19 = .ok (.aload_n 0, 1) := by decide +kernel
theorem dX2_add_20 : decode cX2_add 20 = .ok (.dup, 1) := by decide +kernel
theorem dX2_add_21 : decode cX2_add 21 = .ok (.getfield 15, 3) := by decide +kernel
theorem dX2_add_24 : decode cX2_add 24 = .ok (.iconst 1, 1) := by decide +kernel
theorem dX2_add_25 : decode cX2_add 25 = .ok (.iadd, 1) := by decide +kernel
theorem dX2_add_26 : decode cX2_add 26 = .ok (.putfield 15, 3) := by decide +kernel
theorem dX2_add_29 : decode cX2_add 29 = .ok (.return_, 1) := by decide +kernel
theorem dX2_addAll_0 : decode cX2_addAll 0 = .ok (.iconst 0, 1) := by decide +kernel
theorem dX2_addAll_1 : decode cX2_addAll 1 = .ok (.istore_n 2, 1) := by decide +kernel
theorem dX2_addAll_2 : decode cX2_addAll 2 = .ok (.iload_n 2, 1) := by decide +kernel
theorem dX2_addAll_3 : decode cX2_addAll 3 = .ok (.aload_n 1, 1) := by decide +kernel
theorem dX2_addAll_4 : decode cX2_addAll 4 = .ok (.getfield 15, 3) := by decide +kernel
theorem dX2_addAll_7 : decode cX2_addAll 7 = .ok (.if_icmp .ge 19, 3) := by decide +kernel
theorem dX2_addAll_10 : decode cX2_addAll 10 = .ok (.aload_n 0, 1) := by decide +kernel
theorem dX2_addAll_11 : decode cX2_addAll 11 = .ok (.aload_n 1, 1) := by decide +kernel
theorem dX2_addAll_12 : decode cX2_addAll 12 = .ok (.getfield 9, 3) := by decide +kernel
theorem dX2_addAll_15 : decode cX2_addAll 15 = .ok (.iload_n 2, 1) := by decide +kernel
theorem dX2_addAll_16 : decode cX2_addAll 16 = .ok (.iaload, 1) := by decide +kernel
theorem dX2_addAll_17 : decode cX2_addAll 17 = .ok (.invokevirtual 19, 3) := by decide +kernel
theorem dX2_addAll_20 : decode cX2_addAll 20 = .ok (.iinc 2 1, 3) := by decide +kernel
theorem dX2_addAll_23 : decode cX2_addAll 23 = .ok (.goto (-21), 3) := by decide +kernel
theorem dX2_addAll_26 : decode cX2_addAll 26 = .ok (.return_, 1) := by decide +kernel
theorem dX2_remove_0 : decode cX2_remove 0 = .ok (.iconst 0, 1) := by decide +kernel
theorem dX2_remove_1 : decode cX2_remove 1 = .ok (.istore_n 2, 1) := by decide +kernel
theorem dX2_remove_2 : decode cX2_remove 2 = .ok (.iconst 0, 1) := by decide +kernel
theorem dX2_remove_3 : decode cX2_remove 3 = .ok (.istore_n 3, 1) := by decide +kernel
theorem dX2_remove_4 : decode cX2_remove 4 = .ok (.iload_n 3, 1) := by decide +kernel
theorem dX2_remove_5 : decode cX2_remove 5 = .ok (.aload_n 0, 1) := by decide +kernel
theorem dX2_remove_6 : decode cX2_remove 6 = .ok (.getfield 15, 3) := by decide +kernel
theorem dX2_remove_9 : decode cX2_remove 9 = .ok (.if_icmp .ge 34, 3) := by decide +kernel
theorem dX2_remove_12 : decode cX2_remove 12 = .ok (.aload_n 0, 1) := by decide +kernel
theorem dX2_remove_13 : decode cX2_remove 13 = .ok (.getfield 9, 3) := by decide +kernel
theorem dX2_remove_16 : decode cX2_remove 16 = .ok (.iload_n 3, 1) := by decide +kernel
theorem dX2_remove_17 : decode cX2_remove 17 = .ok (.iaload, 1) := by decide +kernel
theorem dX2_remove_18 : decode cX2_remove 18 = .ok (.iload_n 1, 1) := by decide +kernel
theorem dX2_remove_19 : decode cX2_remove 19 = .ok (.if_icmp .eq 18, 3) := by decide +kernel
theorem dX2_remove_22 : decode cX2_remove 22 = .ok (.aload_n 0, 1) := by decide +kernel
theorem dX2_remove_23 : decode cX2_remove 23 = .ok (.getfield 9, 3) := by decide +kernel
theorem dX2_remove_26 : decode cX2_remove 26 = .ok (.iload_n 2, 1) := by decide +kernel
theorem dX2_remove_27 : decode cX2_remove 27 = .ok (.aload_n 0, 1) := by decide +kernel
theorem dX2_remove_28 : decode cX2_remove 28 = .ok (.getfield 9, 3) := by decide +kernel
theorem dX2_remove_31 : decode cX2_remove 31 = .ok (.iload_n 3, 1) := by decide +kernel
theorem dX2_remove_32 : decode cX2_remove 32 = .ok (.iaload, 1) := by decide +kernel
theorem dX2_remove_33 : decode cX2_remove 33 = .ok (.iastore, 1) := by decide +kernel
theorem dX2_remove_34 : decode cX2_remove 34 = .ok (.iinc 2 1, 3) := by decide +kernel
theorem dX2_remove_37 : decode cX2_remove 37 = .ok (.iinc 3 1, 3) := by decide +kernel
theorem dX2_remove_40 : decode cX2_remove 40 = .ok (.goto (-36), 3) := by decide +kernel
theorem dX2_remove_43 : decode cX2_remove 43 = .ok (.aload_n 0, 1) := by decide +kernel
theorem dX2_remove_44 : decode cX2_remove 44 = .ok (.iload_n 2, 1) := by decide +kernel
theorem dX2_remove_45 : decode cX2_remove 45 = .ok (.putfield 15, 3) := by decide +kernel
theorem dX2_remove_48 : decode cX2_remove 48 = .ok (.return_, 1) := by decide +kernel
theorem dX2_empty_0 : decode cX2_empty 0 = .ok (.aload_n 0, 1) := by decide +kernel
theorem dX2_empty_1 : decode cX2_empty 1 = .ok (.iconst 0, 1) := by decide +kernel
theorem dX2_empty_2 : decode cX2_empty 2 = .ok (.putfield 15, 3) := by decide +kernel
theorem dX2_empty_5 : decode cX2_empty 5 = .ok (.return_, 1) := by decide +kernel
theorem dX3_init_0 : decode cX3_init 0 = .ok (.aload_n 0, 1) := by decide +kernel
theorem dX3_init_1 : decode cX3_init 1 = .ok (.invokespecial 1, 3) := by decide +kernel
theorem dX3_init_4 : decode cX3_init 4 = .ok (.aload_n 0, 1) := by decide +kernel
theorem dX3_init_5 : decode cX3_init 5 = .ok (.iconst 0, 1) := by decide +kernel
theorem dX3_init_6 : decode cX3_init 6 = .ok (.iload_n 1, 1) := by decide +kernel
theorem dX3_init_7 : decode cX3_init 7 = .ok (.ldc 9, 2) := by decide +kernel
theorem dX3_init_9 : decode cX3_init 9 = .ok (.invokestatic 10, 3) := by decide +kernel
theorem dX3_init_12 : decode cX3_init 12 = .ok (.invokestatic 16, 3) := by decide +kernel
theorem dX3_init_15 : decode cX3_init 15 = .ok (.putfield 19, 3) := by decide +kernel
theorem dX3_init_18 : decode cX3_init 18 = .ok (.aload_n 0, 1) := by decide +kernel
theorem dX3_init_19 : decode cX3_init 19 = .ok (.new 23, 3) := by decide +kernel
theorem dX3_init_22 : decode cX3_init 22 = .ok (.dup, 1) := by decide +kernel
theorem dX3_init_23 : decode cX3_init 23 = .ok (.invokespecial 25, 3) := by decide +kernel
theorem dX3_init_26 : decode cX3_init 26 = .ok (.putfield 26, 3) := by decide +kernel
theorem dX3_init_29 : decode cX3_init 29 = .ok (.aload_n 0, 1) := by decide +kernel
theorem dX3_init_30 : decode cX3_init 30 = .ok (.bipush 10, 2) := by decide +kernel
theorem dX3_init_32 : decode cX3_init 32 = .ok (.newarray .int, 2) := by decide +kernel
theorem dX3_init_34 : decode cX3_init 34 = .ok (.putfield 30, 3) := by decide +kernel
theorem dX3_init_37 : decode cX3_init 37 = .ok (.aload_n 0, 1) := by decide +kernel
theorem dX3_init_38 : decode cX3_init 38 = .ok (.bipush 16, 2) := by decide +kernel
theorem dX3_init_40 : decode cX3_init 40 = .ok (.anewarray 34, 3) := by decide +kernel
theorem dX3_init_43 : decode cX3_init 43 = .ok (.putfield 36, 3) := by decide +kernel
theorem dX3_init_46 : decode cX3_init 46 = .ok (.iconst 0, 1) := by decide +kernel
theorem dX3_init_47 : decode cX3_init 47 = .ok (.istore_n 2, 1) := by decide +kernel
theorem dX3_init_48 : decode cX3_init 48 = .ok (.iload_n 2, 1) := by decide +kernel
theorem dX3_init_49 : decode cX3_init 49 = .ok (.bipush 16, 2) := by decide +kernel
theorem dX3_init_51 : decode cX3_init 51 = .ok (.if_icmp .ge 22, 3) := by decide +kernel
theorem dX3_init_54 : decode cX3_init 54 = .ok (.aload_n 0, 1) := by decide +kernel
theorem dX3_init_55 : decode cX3_init 55 = .ok (.getfield 36, 3) := by decide +kernel
theorem dX3_init_58 : decode cX3_init 58 = .ok (.iload_n 2, 1) := by decide +kernel
theorem dX3_init_59 : decode cX3_init 59 = .ok (.new 34, 3) := by decide +kernel
theorem dX3_init_62 : decode cX3_init 62 = .ok (.dup, 1) := by decide +kernel
theorem dX3_init_63 : decode cX3_init 63 = .ok (.invokespecial 40, 3) := by decide +kernel
theorem dX3_init_66 : decode cX3_init 66 = .ok (.aastore, 1) := by decide +kernel
theorem dX3_init_67 : decode cX3_init 67 = .ok (.iinc 2 1, 3) := by decide +kernel
theorem dX3_init_70 : decode cX3_init 70 = .ok (.goto (-22), 3) := by decide +kernel
theorem dX3_init_73 : decode cX3_init 73 = .ok (.aload_n 0, 1) := by decide +kernel
theorem dX3_init_74 : decode cX3_init 74 = .ok (.bipush 16, 2) := by decide +kernel
theorem dX3_init_76 : decode cX3_init 76 = .ok (.anewarray 41, 3) := by decide +kernel
theorem dX3_init_79 : decode cX3_init 79 = .ok (.putfield 43, 3) := by decide +kernel
theorem dX3_init_82 : decode cX3_init 82 = .ok (.iconst 0, 1) := by decide +kernel
theorem dX3_init_83 : decode cX3_init 83 = .ok (.istore_n 2, 1) := by decide +kernel
theorem dX3_init_84 : decode cX3_init 84 = .ok (.iload_n 2, 1) := by decide +kernel
theorem dX3_init_85 : decode cX3_init 85 = .ok (.bipush 16, 2) := by decide +kernel
theorem dX3_init_87 : decode cX3_init 87 = .ok (.if_icmp .ge 22, 3) := by decide +kernel
theorem dX3_init_90 : decode cX3_init 90 = .ok (.aload_n 0, 1) := by decide +kernel
theorem dX3_init_91 : decode cX3_init 91 = .ok (.getfield 43, 3) := by decide +kernel
theorem dX3_init_94 : decode cX3_init 94 = .ok (.iload_n 2, 1) := by decide +kernel
theorem dX3_init_95 : decode cX3_init 95 = .ok (.new 41, 3) := by decide +kernel
theorem dX3_init_98 : decode cX3_init 98 = .ok (.dup, 1) := by decide +kernel
theorem dX3_init_99 : decode cX3_init 99 = .ok (.invokespecial 47, 3) := by decide +kernel
theorem dX3_init_102 : decode cX3_init 102 = .ok (.aastore, 1) := by decide +kernel
theorem dX3_init_103 : decode cX3_init 103 = .ok (.iinc 2 1, 3) := by decide +kernel
theorem dX3_init_106 : decode cX3_init 106 = .ok (.goto (-22), 3) := by decide +kernel
theorem dX3_init_109 : decode cX3_init 109 = .ok (.aload_n 0, 1) := by decide +kernel
theorem dX3_init_110 : decode cX3_init 110 = .ok (.new 41, 3) := by decide +kernel
theorem dX3_init_113 : decode cX3_init 113 = .ok (.dup, 1) := by decide +kernel
theorem dX3_init_114 : decode cX3_init 114 = .ok (.invokespecial 47, 3) := by decide +kernel
theorem dX3_init_117 : decode cX3_init 117 = .ok (.putfield 48, 3) := by decide +kernel
theorem dX3_init_120 : decode cX3_init 120 = .ok (.return_, 1) := by decide +kernel
theorem dX3_order_0 : decode cX3_order 0 = .ok (.iload_n 1, 1) := by decide +kernel
theorem dX3_order_1 : decode cX3_order 1 = .ok (.iconst 0, 1) := by decide +kernel
theorem dX3_order_2 : decode cX3_order 2 = .ok (.ldc 52, 2) := by decide +kernel
theorem dX3_order_4 : decode cX3_order 4 = .ok (.invokestatic 53, 3) := by decide +kernel
theorem dX3_order_7 : decode cX3_order 7 = .ok (.iload_n 2, 1) := by decide +kernel
theorem dX3_order_8 : decode cX3_order 8 = .ok (.iconst 0, 1) := by decide +kernel
theorem dX3_order_9 : decode cX3_order 9 = .ok (.bipush 7, 2) := by decide +kernel
theorem dX3_order_11 : decode cX3_order 11 = .ok (.invokestatic 53, 3) := by decide +kernel
theorem dX3_order_14 : decode cX3_order 14 = .ok (.iload_n 3, 1) := by decide +kernel
theorem dX3_order_15 : decode cX3_order 15 = .ok (.iconst 1, 1) := by decide +kernel
theorem dX3_order_16 : decode cX3_order 16 = .ok (.sipush 10000, 3) := by decide +kernel
theorem dX3_order_19 : decode cX3_order 19 = .ok (.invokestatic 53, 3) := by decide +kernel
theorem dX3_order_22 : decode cX3_order 22 = .ok (.aload_n 0, 1) := by decide +kernel
theorem dX3_order_23 : decode cX3_order 23 = .ok (.getfield 57, 3) := by decide +kernel
theorem dX3_order_26 : decode cX3_order 26 = .ok (.bipush 16, 2) := by decide +kernel
theorem dX3_order_28 : decode cX3_order 28 = .ok (.if_icmp .lt 13, 3) := by decide +kernel
theorem dX3_order_31 : decode cX3_order 31 = .ok (.new 60, 3) := by decide +kernel
theorem dX3_order_34 : decode cX3_order 34 = .ok (.dup, 1) := by decide +kernel
theorem dX3_order_35 : decode cX3_order 35 = .ok (.ldc 62, 2) := by decide +kernel
theorem dX3_order_37 : decode cX3_order 37 = .ok (.invokespecial 64, 3) := by decide +kernel
theorem dX3_order_40 : decode cX3_order 40 = .ok (.athrow, 1) := by decide +kernel
theorem dX3_order_41 : decode cX3_order 41 = .ok (.aload_n 0, 1) := by decide +kernel
theorem dX3_order_42 : decode cX3_order 42 = .ok (.getfield 36, 3) := by decide +kernel
theorem dX3_order_45 : decode cX3_order 45 = .ok (.aload_n 0, 1) := by decide +kernel
theorem dX3_order_46 : decode cX3_order 46 = .ok (.getfield 57, 3) := by decide +kernel
theorem dX3_order_49 : decode cX3_order 49 = .ok (.aaload, 1) := by decide +kernel
theorem dX3_order_50 : decode cX3_order 50 = .ok (.astore 4, 2) := by decide +kernel
theorem dX3_order_52 : decode cX3_order 52 = .ok (.aload 4, 2) := by decide +kernel
theorem dX3_order_54 : decode cX3_order 54 = .ok (.iload_n 1, 1) := by decide +kernel
theorem dX3_order_55 : decode cX3_order 55 = .ok (.putfield 67, 3) := by decide +kernel
theorem dX3_order_58 : decode cX3_order 58 = .ok (.aload 4, 2) := by decide +kernel
theorem dX3_order_60 : decode cX3_order 60 = .ok (.iload_n 2, 1) := by decide +kernel
theorem dX3_order_61 : decode cX3_order 61 = .ok (.putfield 70, 3) := by decide +kernel
theorem dX3_order_64 : decode cX3_order 64 = .ok (.aload 4, 2) := by decide +kernel
theorem dX3_order_66 : decode cX3_order 66 = .ok (.iload_n 3, 1) := by decide +kernel
theorem dX3_order_67 : decode cX3_order 67 = .ok (.putfield 73, 3) := by decide +kernel
theorem dX3_order_70 : decode cX3_order 70 = .ok (.aload_n 0, 1) := by decide +kernel
theorem dX3_order_71 : decode cX3_order 71 = .ok (.dup, 1) := by decide +kernel
theorem dX3_order_72 : decode cX3_order 72 = .ok (.getfield 57, 3) := by decide +kernel
theorem dX3_order_75 : decode cX3_order 75 = .ok (.iconst 1, 1) := by decide +kernel
theorem dX3_order_76 : decode cX3_order 76 = .ok (.iadd, 1) := by decide +kernel
theorem dX3_order_77 : decode cX3_order 77 = .ok (.putfield 57, 3) := by decide +kernel
theorem dX3_order_80 : decode cX3_order 80 = .ok (.aload_n 0, 1) := by decide +kernel
theorem dX3_order_81 : decode cX3_order 81 = .ok (.getfield 57, 3) := by decide +kernel
theorem dX3_order_84 : decode cX3_order 84 = .ok (.iconst 1, 1) := by decide +kernel
theorem dX3_order_85 : decode cX3_order 85 = .ok (.isub, 1) := by decide +kernel
theorem dX3_order_86 : decode cX3_order 86 = .ok (.ireturn, 1) := by decide +kernel
theorem dX3_line_0 : decode cX3_line 0 = .ok (.aload_n 0, 1) := by decide +kernel
theorem dX3_line_1 : decode cX3_line 1 = .ok (.iload_n 1, 1) := by decide +kernel
theorem dX3_line_2 : decode cX3_line 2 = .ok (.invokevirtual 76, 3) := by decide +kernel
theorem dX3_line_5 : decode cX3_line 5 = .ok (.astore 4, 2) := by decide +kernel
theorem dX3_line_7 : decode cX3_line 7 = .ok (.iload_n 2, 1) := by decide +kernel
theorem dX3_line_8 : decode cX3_line 8 = .ok (.iconst 0, 1) := by decide +kernel
theorem dX3_line_9 : decode cX3_line 9 = .ok (.bipush 9, 2) := by decide +kernel
theorem dX3_line_11 : decode cX3_line 11 = .ok (.invokestatic 53, 3) := by decide +kernel
theorem dX3_line_14 : decode cX3_line 14 = .ok (.iload_n 3, 1) := by decide +kernel
theorem dX3_line_15 : decode cX3_line 15 = .ok (.iconst 1, 1) := by decide +kernel
theorem dX3_line_16 : decode cX3_line 16 = .ok (.bipush 100, 2) := by decide +kernel
theorem dX3_line_18 : decode cX3_line 18 = .ok (.invokestatic 53, 3) := by decide +kernel
theorem dX3_line_21 : decode cX3_line 21 = .ok (.aload 4, 2) := by decide +kernel
theorem dX3_line_23 : decode cX3_line 23 = .ok (.invokestatic 80, 3) := by decide +kernel
theorem dX3_line_26 : decode cX3_line 26 = .ok (.aload 4, 2) := by decide +kernel
theorem dX3_line_28 : decode cX3_line 28 = .ok (.getfield 84, 3) := by decide +kernel
theorem dX3_line_31 : decode cX3_line 31 = .ok (.iload_n 2, 1) := by decide +kernel
theorem dX3_line_32 : decode cX3_line 32 = .ok (.iaload, 1) := by decide +kernel
theorem dX3_line_33 : decode cX3_line 33 = .ok (.ifCond .le 13, 3) := by decide +kernel
theorem dX3_line_36 : decode cX3_line 36 = .ok (.new 87, 3) := by decide +kernel
theorem dX3_line_39 : decode cX3_line 39 = .ok (.dup, 1) := by decide +kernel
theorem dX3_line_40 : decode cX3_line 40 = .ok (.ldc 89, 2) := by decide +kernel
theorem dX3_line_42 : decode cX3_line 42 = .ok (.invokespecial 91, 3) := by decide +kernel
theorem dX3_line_45 : decode cX3_line 45 = .ok (.athrow, 1) := by decide +kernel
theorem dX3_line_46 : decode cX3_line 46 = .ok (.aload 4, 2) := by decide +kernel
theorem dX3_line_48 : decode cX3_line 48 = .ok (.getfield 92, 3) := by decide +kernel
theorem dX3_line_51 : decode cX3_line 51 = .ok (.iconst 4, 1) := by decide +kernel
theorem dX3_line_52 : decode cX3_line 52 = .ok (.if_icmp .lt 13, 3) := by decide +kernel
theorem dX3_line_55 : decode cX3_line 55 = .ok (.new 60, 3) := by decide +kernel
theorem dX3_line_58 : decode cX3_line 58 = .ok (.dup, 1) := by decide +kernel
theorem dX3_line_59 : decode cX3_line 59 = .ok (.ldc 95, 2) := by decide +kernel
theorem dX3_line_61 : decode cX3_line 61 = .ok (.invokespecial 64, 3) := by decide +kernel
theorem dX3_line_64 : decode cX3_line 64 = .ok (.athrow, 1) := by decide +kernel
theorem dX3_line_65 : decode cX3_line 65 = .ok (.aload 4, 2) := by decide +kernel
theorem dX3_line_67 : decode cX3_line 67 = .ok (.getfield 84, 3) := by decide +kernel
theorem dX3_line_70 : decode cX3_line 70 = .ok (.iload_n 2, 1) := by decide +kernel
theorem dX3_line_71 : decode cX3_line 71 = .ok (.iload_n 3, 1) := by decide +kernel
theorem dX3_line_72 : decode cX3_line 72 = .ok (.iastore, 1) := by decide +kernel
theorem dX3_line_73 : decode cX3_line 73 = .ok (.aload 4, 2) := by decide +kernel
theorem dX3_line_75 : decode cX3_line 75 = .ok (.dup, 1) := by decide +kernel
theorem dX3_line_76 : decode cX3_line 76 = .ok (.getfield 92, 3) := by decide +kernel
theorem dX3_line_79 : decode cX3_line 79 = .ok (.iconst 1, 1) := by decide +kernel
theorem dX3_line_80 : decode cX3_line 80 = .ok (.iadd, 1) := by decide +kernel
theorem dX3_line_81 : decode cX3_line 81 = .ok (.putfield 92, 3) := by decide +kernel
theorem dX3_line_84 : decode cX3_line 84 = .ok (.aload 4, 2) := by decide +kernel
theorem dX3_line_86 : decode cX3_line 86 = .ok (.getfield 92, 3) := by decide +kernel
theorem dX3_line_89 : decode cX3_line 89 = .ok (.ireturn, 1) := by decide +kernel
theorem dX3_carrier_0 : decode cX3_carrier 0 = .ok (.aload_n 0, 1) := by decide +kernel
theorem dX3_carrier_1 : decode cX3_carrier 1 = .ok (.iload_n 1, 1) := by decide +kernel
theorem dX3_carrier_2 : decode cX3_carrier 2 = .ok (.invokevirtual 76, 3) := by decide +kernel
theorem dX3_carrier_5 : decode cX3_carrier 5 = .ok (.astore_n 3, 1) := by decide +kernel
theorem dX3_carrier_6 : decode cX3_carrier 6 = .ok (.iload_n 2, 1) := by decide +kernel
theorem dX3_carrier_7 : decode cX3_carrier 7 = .ok (.iconst 0, 1) := by decide +kernel
theorem dX3_carrier_8 : decode cX3_carrier 8 = .ok (.iconst 3, 1) := by decide +kernel
theorem dX3_carrier_9 : decode cX3_carrier 9 = .ok (.invokestatic 53, 3) := by decide +kernel
theorem dX3_carrier_12 : decode cX3_carrier 12 = .ok (.aload_n 3, 1) := by decide +kernel
theorem dX3_carrier_13 : decode cX3_carrier 13 = .ok (.invokestatic 80, 3) := by decide +kernel
theorem dX3_carrier_16 : decode cX3_carrier 16 = .ok (.aload_n 3, 1) := by decide +kernel
theorem dX3_carrier_17 : decode cX3_carrier 17 = .ok (.iload_n 2, 1) := by decide +kernel
theorem dX3_carrier_18 : decode cX3_carrier 18 = .ok (.putfield 97, 3) := by decide +kernel
theorem dX3_carrier_21 : decode cX3_carrier 21 = .ok (.return_, 1) := by decide +kernel
theorem dX3_hour_0 : decode cX3_hour 0 = .ok (.iload_n 1, 1) := by decide +kernel
theorem dX3_hour_1 : decode cX3_hour 1 = .ok (.iconst 0, 1) := by decide +kernel
theorem dX3_hour_2 : decode cX3_hour 2 = .ok (.iconst 3, 1) := by decide +kernel
theorem dX3_hour_3 : decode cX3_hour 3 = .ok (.invokestatic 53, 3) := by decide +kernel
theorem dX3_hour_6 : decode cX3_hour 6 = .ok (.iload_n 2, 1) := by decide +kernel
theorem dX3_hour_7 : decode cX3_hour 7 = .ok (.iconst 0, 1) := by decide +kernel
theorem dX3_hour_8 : decode cX3_hour 8 = .ok (.ldc 52, 2) := by decide +kernel
theorem dX3_hour_10 : decode cX3_hour 10 = .ok (.invokestatic 53, 3) := by decide +kernel
theorem dX3_hour_13 : decode cX3_hour 13 = .ok (.iload_n 3, 1) := by decide +kernel
theorem dX3_hour_14 : decode cX3_hour 14 = .ok (.iload_n 2, 1) := by decide +kernel
theorem dX3_hour_15 : decode cX3_hour 15 = .ok (.ldc 52, 2) := by decide +kernel
theorem dX3_hour_17 : decode cX3_hour 17 = .ok (.invokestatic 53, 3) := by decide +kernel
theorem dX3_hour_20 : decode cX3_hour 20 = .ok (.aload_n 0, 1) := by decide +kernel
theorem dX3_hour_21 : decode cX3_hour 21 = .ok (.getfield 26, 3) := by decide +kernel
theorem dX3_hour_24 : decode cX3_hour 24 = .ok (.getfield 100, 3) := by decide +kernel
theorem dX3_hour_27 : decode cX3_hour 27 = .ok (.bipush 10, 2) := by decide +kernel
theorem dX3_hour_29 : decode cX3_hour 29 = .ok (.if_icmp .lt 13, 3) := by decide +kernel
theorem dX3_hour_32 : decode cX3_hour 32 = .ok (.new 60, 3) := by decide +kernel
theorem dX3_hour_35 : decode cX3_hour 35 = .ok (.dup, 1) := by decide +kernel
theorem dX3_hour_36 : decode cX3_hour 36 = .ok (.ldc 103, 2) := by decide +kernel
theorem dX3_hour_38 : decode cX3_hour 38 = .ok (.invokespecial 64, 3) := by decide +kernel
theorem dX3_hour_41 : decode cX3_hour 41 = .ok (.athrow, 1) := by decide +kernel
theorem dX3_hour_42 : decode cX3_hour 42 = .ok (.aload_n 0, 1) := by decide +kernel
theorem dX3_hour_43 : decode cX3_hour 43 = .ok (.getfield 26, 3) := by decide +kernel
theorem dX3_hour_46 : decode cX3_hour 46 = .ok (.iload_n 1, 1) := by decide +kernel
theorem dX3_hour_47 : decode cX3_hour 47 = .ok (.iload_n 2, 1) := by decide +kernel
theorem dX3_hour_48 : decode cX3_hour 48 = .ok (.iload_n 3, 1) := by decide +kernel
theorem dX3_hour_49 : decode cX3_hour 49 = .ok (.invokevirtual 105, 3) := by decide +kernel
theorem dX3_hour_52 : decode cX3_hour 52 = .ok (.aload_n 0, 1) := by decide +kernel
theorem dX3_hour_53 : decode cX3_hour 53 = .ok (.getfield 26, 3) := by decide +kernel
theorem dX3_hour_56 : decode cX3_hour 56 = .ok (.iload_n 1, 1) := by decide +kernel
theorem dX3_hour_57 : decode cX3_hour 57 = .ok (.invokevirtual 108, 3) := by decide +kernel
theorem dX3_hour_60 : decode cX3_hour 60 = .ok (.ireturn, 1) := by decide +kernel
theorem dX3_stock_0 : decode cX3_stock 0 = .ok (.iload_n 1, 1) := by decide +kernel
theorem dX3_stock_1 : decode cX3_stock 1 = .ok (.iconst 0, 1) := by decide +kernel
theorem dX3_stock_2 : decode cX3_stock 2 = .ok (.bipush 9, 2) := by decide +kernel
theorem dX3_stock_4 : decode cX3_stock 4 = .ok (.invokestatic 53, 3) := by decide +kernel
theorem dX3_stock_7 : decode cX3_stock 7 = .ok (.iload_n 2, 1) := by decide +kernel
theorem dX3_stock_8 : decode cX3_stock 8 = .ok (.iconst 0, 1) := by decide +kernel
theorem dX3_stock_9 : decode cX3_stock 9 = .ok (.sipush 10000, 3) := by decide +kernel
theorem dX3_stock_12 : decode cX3_stock 12 = .ok (.invokestatic 53, 3) := by decide +kernel
theorem dX3_stock_15 : decode cX3_stock 15 = .ok (.aload_n 0, 1) := by decide +kernel
theorem dX3_stock_16 : decode cX3_stock 16 = .ok (.getfield 30, 3) := by decide +kernel
theorem dX3_stock_19 : decode cX3_stock 19 = .ok (.iload_n 1, 1) := by decide +kernel
theorem dX3_stock_20 : decode cX3_stock 20 = .ok (.iload_n 2, 1) := by decide +kernel
theorem dX3_stock_21 : decode cX3_stock 21 = .ok (.iastore, 1) := by decide +kernel
theorem dX3_stock_22 : decode cX3_stock 22 = .ok (.return_, 1) := by decide +kernel
theorem dX3_plan_0 : decode cX3_plan 0 = .ok (.aload_n 0, 1) := by decide +kernel
theorem dX3_plan_1 : decode cX3_plan 1 = .ok (.getfield 112, 3) := by decide +kernel
theorem dX3_plan_4 : decode cX3_plan 4 = .ok (.istore_n 1, 1) := by decide +kernel
theorem dX3_plan_5 : decode cX3_plan 5 = .ok (.aload_n 0, 1) := by decide +kernel
theorem dX3_plan_6 : decode cX3_plan 6 = .ok (.invokevirtual 115, 3) := by decide +kernel
theorem dX3_plan_9 : decode cX3_plan 9 = .ok (.ifCond .ne 18, 3) := by decide +kernel
theorem dX3_plan_12 : decode cX3_plan 12 = .ok (.aload_n 0, 1) := by decide +kernel
theorem dX3_plan_13 : decode cX3_plan 13 = .ok (.iload_n 1, 1) := by decide +kernel
theorem dX3_plan_14 : decode cX3_plan 14 = .ok (.invokevirtual 119, 3) := by decide +kernel
theorem dX3_plan_17 : decode cX3_plan 17 = .ok (.new 60, 3) := by decide +kernel
theorem dX3_plan_20 : decode cX3_plan 20 = .ok (.dup, 1) := by decide +kernel
theorem dX3_plan_21 : decode cX3_plan 21 = .ok (.ldc 123, 2) := by decide +kernel
theorem dX3_plan_23 : decode cX3_plan 23 = .ok (.invokespecial 64, 3) := by decide +kernel
theorem dX3_plan_26 : decode cX3_plan 26 = .ok (.athrow, 1) := by decide +kernel
theorem dX3_plan_27 : decode cX3_plan 27 = .ok (.aload_n 0, 1) := by decide +kernel
theorem dX3_plan_28 : decode cX3_plan 28 = .ok (.iload_n 1, 1) := by decide +kernel
theorem dX3_plan_29 : decode cX3_plan 29 = .ok (.invokevirtual 125, 3) := by decide +kernel
theorem dX3_plan_32 : decode cX3_plan 32 = .ok (.ireturn, 1) := by decide +kernel
theorem dX3_wave_0 : decode cX3_wave 0 = .ok (.aload_n 0, 1) := by decide +kernel
theorem dX3_wave_1 : decode cX3_wave 1 = .ok (.iload_n 1, 1) := by decide +kernel
theorem dX3_wave_2 : decode cX3_wave 2 = .ok (.invokevirtual 76, 3) := by decide +kernel
theorem dX3_wave_5 : decode cX3_wave 5 = .ok (.getfield 128, 3) := by decide +kernel
theorem dX3_wave_8 : decode cX3_wave 8 = .ok (.ireturn, 1) := by decide +kernel
theorem dX3_told_0 : decode cX3_told 0 = .ok (.aload_n 0, 1) := by decide +kernel
theorem dX3_told_1 : decode cX3_told 1 = .ok (.iload_n 1, 1) := by decide +kernel
theorem dX3_told_2 : decode cX3_told 2 = .ok (.invokevirtual 131, 3) := by decide +kernel
theorem dX3_told_5 : decode cX3_told 5 = .ok (.astore_n 3, 1) := by decide +kernel
theorem dX3_told_6 : decode cX3_told 6 = .ok (.iload_n 2, 1) := by decide +kernel
theorem dX3_told_7 : decode cX3_told 7 = .ok (.tableswitch 88 0 6 #[41, 47, 53, 58, 64, 69, 82], 41) := by decide +kernel
theorem dX3_told_48 : decode cX3_told 48 = .ok (.aload_n 0, 1) := by decide +kernel
theorem dX3_told_49 : decode cX3_told 49 = .ok (.aload_n 3, 1) := by decide +kernel
theorem dX3_told_50 : decode cX3_told 50 = .ok (.invokevirtual 135, 3) := by decide +kernel
theorem dX3_told_53 : decode cX3_told 53 = .ok (.ireturn, 1) := by decide +kernel
theorem dX3_told_54 : decode cX3_told 54 = .ok (.aload_n 0, 1) := by decide +kernel
theorem dX3_told_55 : decode cX3_told 55 = .ok (.aload_n 3, 1) := by decide +kernel
theorem dX3_told_56 : decode cX3_told 56 = .ok (.invokevirtual 139, 3) := by decide +kernel
theorem dX3_told_59 : decode cX3_told 59 = .ok (.ireturn, 1) := by decide +kernel
theorem dX3_told_60 : decode cX3_told 60 = .ok (.aload_n 3, 1) := by decide +kernel
theorem dX3_told_61 : decode cX3_told 61 = .ok (.getfield 142, 3) := by decide +kernel
theorem dX3_told_64 : decode cX3_told 64 = .ok (.ireturn, 1) := by decide +kernel
theorem dX3_told_65 : decode cX3_told 65 = .ok (.aload_n 0, 1) := by decide +kernel
theorem dX3_told_66 : decode cX3_told 66 = .ok (.aload_n 3, 1) := by decide +kernel
theorem dX3_told_67 : decode cX3_told 67 = .ok (.invokevirtual 143, 3) := by decide +kernel
theorem dX3_told_70 : decode cX3_told 70 = .ok (.ireturn, 1) := by decide +kernel
theorem dX3_told_71 : decode cX3_told 71 = .ok (.aload_n 3, 1) := by decide +kernel
theorem dX3_told_72 : decode cX3_told 72 = .ok (.getfield 146, 3) := by decide +kernel
theorem dX3_told_75 : decode cX3_told 75 = .ok (.ireturn, 1) := by decide +kernel
theorem dX3_told_76 : decode cX3_told 76 = .ok (.aload_n 3, 1) := by decide +kernel
theorem dX3_told_77 : decode cX3_told 77 = .ok (.getfield 147, 3) := by decide +kernel
theorem dX3_told_80 : decode cX3_told 80 = .ok (.ifCond .eq 7, 3) := by decide +kernel
theorem dX3_told_83 : decode cX3_told 83 = .ok (.iconst 1, 1) := by decide +kernel
theorem dX3_told_84 : decode cX3_told 84 = .ok (.goto 4, 3) := by decide +kernel
theorem dX3_told_87 : decode cX3_told 87 = .ok (.iconst 0, 1) := by decide +kernel
theorem dX3_told_88 : decode cX3_told 88 = .ok (.ireturn, 1) := by decide +kernel
theorem dX3_told_89 : decode cX3_told 89 = .ok (.aload_n 0, 1) := by decide +kernel
theorem dX3_told_90 : decode cX3_told 90 = .ok (.aload_n 3, 1) := by decide +kernel
theorem dX3_told_91 : decode cX3_told 91 = .ok (.invokevirtual 151, 3) := by decide +kernel
theorem dX3_told_94 : decode cX3_told 94 = .ok (.ireturn, 1) := by decide +kernel
theorem dX3_told_95 : decode cX3_told 95 = .ok (.new 154, 3) := by decide +kernel
theorem dX3_told_98 : decode cX3_told 98 = .ok (.dup, 1) := by decide +kernel
theorem dX3_told_99 : decode cX3_told 99 = .ok (.ldc 156, 2) := by decide +kernel
theorem dX3_told_101 : decode cX3_told 101 = .ok (.invokespecial 158, 3) := by decide +kernel
theorem dX3_told_104 : decode cX3_told 104 = .ok (.athrow, 1) := by decide +kernel
theorem dX3_member_0 : decode cX3_member 0 = .ok (.aload_n 0, 1) := by decide +kernel
theorem dX3_member_1 : decode cX3_member 1 = .ok (.iload_n 1, 1) := by decide +kernel
theorem dX3_member_2 : decode cX3_member 2 = .ok (.invokevirtual 131, 3) := by decide +kernel
theorem dX3_member_5 : decode cX3_member 5 = .ok (.astore_n 3, 1) := by decide +kernel
theorem dX3_member_6 : decode cX3_member 6 = .ok (.iload_n 2, 1) := by decide +kernel
theorem dX3_member_7 : decode cX3_member 7 = .ok (.ifCond .lt 11, 3) := by decide +kernel
theorem dX3_member_10 : decode cX3_member 10 = .ok (.iload_n 2, 1) := by decide +kernel
theorem dX3_member_11 : decode cX3_member 11 = .ok (.aload_n 3, 1) := by decide +kernel
theorem dX3_member_12 : decode cX3_member 12 = .ok (.getfield 142, 3) := by decide +kernel
theorem dX3_member_15 : decode cX3_member 15 = .ok (.if_icmp .lt 13, 3) := by decide +kernel
theorem dX3_member_18 : decode cX3_member 18 = .ok (.new 159, 3) := by decide +kernel
theorem dX3_member_21 : decode cX3_member 21 = .ok (.dup, 1) := by decide +kernel
theorem dX3_member_22 : decode cX3_member 22 = .ok (.ldc 161, 2) := by decide +kernel
theorem dX3_member_24 : decode cX3_member 24 = .ok (.invokespecial 163, 3) := by decide +kernel
theorem dX3_member_27 : decode cX3_member 27 = .ok (.athrow, 1) := by decide +kernel
theorem dX3_member_28 : decode cX3_member 28 = .ok (.aload_n 3, 1) := by decide +kernel
theorem dX3_member_29 : decode cX3_member 29 = .ok (.getfield 164, 3) := by decide +kernel
theorem dX3_member_32 : decode cX3_member 32 = .ok (.iload_n 2, 1) := by decide +kernel
theorem dX3_member_33 : decode cX3_member 33 = .ok (.iaload, 1) := by decide +kernel
theorem dX3_member_34 : decode cX3_member 34 = .ok (.ireturn, 1) := by decide +kernel
theorem dX3_replenish_0 : decode cX3_replenish 0 = .ok (.aload_n 0, 1) := by decide +kernel
theorem dX3_replenish_1 : decode cX3_replenish 1 = .ok (.iload_n 1, 1) := by decide +kernel
theorem dX3_replenish_2 : decode cX3_replenish 2 = .ok (.invokevirtual 131, 3) := by decide +kernel
theorem dX3_replenish_5 : decode cX3_replenish 5 = .ok (.pop, 1) := by decide +kernel
theorem dX3_replenish_6 : decode cX3_replenish 6 = .ok (.iload_n 2, 1) := by decide +kernel
theorem dX3_replenish_7 : decode cX3_replenish 7 = .ok (.invokestatic 167, 3) := by decide +kernel
theorem dX3_replenish_10 : decode cX3_replenish 10 = .ok (.aload_n 0, 1) := by decide +kernel
theorem dX3_replenish_11 : decode cX3_replenish 11 = .ok (.iload_n 1, 1) := by decide +kernel
theorem dX3_replenish_12 : decode cX3_replenish 12 = .ok (.iload_n 2, 1) := by decide +kernel
theorem dX3_replenish_13 : decode cX3_replenish 13 = .ok (.invokevirtual 170, 3) := by decide +kernel
theorem dX3_replenish_16 : decode cX3_replenish 16 = .ok (.ireturn, 1) := by decide +kernel
theorem dX3_lacks_0 : decode cX3_lacks 0 = .ok (.aload_n 0, 1) := by decide +kernel
theorem dX3_lacks_1 : decode cX3_lacks 1 = .ok (.iload_n 1, 1) := by decide +kernel
theorem dX3_lacks_2 : decode cX3_lacks 2 = .ok (.invokevirtual 131, 3) := by decide +kernel
theorem dX3_lacks_5 : decode cX3_lacks 5 = .ok (.pop, 1) := by decide +kernel
theorem dX3_lacks_6 : decode cX3_lacks 6 = .ok (.iload_n 2, 1) := by decide +kernel
theorem dX3_lacks_7 : decode cX3_lacks 7 = .ok (.iconst 0, 1) := by decide +kernel
theorem dX3_lacks_8 : decode cX3_lacks 8 = .ok (.bipush 9, 2) := by decide +kernel
theorem dX3_lacks_10 : decode cX3_lacks 10 = .ok (.invokestatic 53, 3) := by decide +kernel
theorem dX3_lacks_13 : decode cX3_lacks 13 = .ok (.aload_n 0, 1) := by decide +kernel
theorem dX3_lacks_14 : decode cX3_lacks 14 = .ok (.iload_n 1, 1) := by decide +kernel
theorem dX3_lacks_15 : decode cX3_lacks 15 = .ok (.iload_n 2, 1) := by decide +kernel
theorem dX3_lacks_16 : decode cX3_lacks 16 = .ok (.invokevirtual 173, 3) := by decide +kernel
theorem dX3_lacks_19 : decode cX3_lacks 19 = .ok (.ireturn, 1) := by decide +kernel
theorem dX3_release_0 : decode cX3_release 0 = .ok (.aload_n 0, 1) := by decide +kernel
theorem dX3_release_1 : decode cX3_release 1 = .ok (.iload_n 1, 1) := by decide +kernel
theorem dX3_release_2 : decode cX3_release 2 = .ok (.invokevirtual 131, 3) := by decide +kernel
theorem dX3_release_5 : decode cX3_release 5 = .ok (.astore_n 2, 1) := by decide +kernel
theorem dX3_release_6 : decode cX3_release 6 = .ok (.aload_n 2, 1) := by decide +kernel
theorem dX3_release_7 : decode cX3_release 7 = .ok (.invokestatic 176, 3) := by decide +kernel
theorem dX3_release_10 : decode cX3_release 10 = .ok (.aload_n 0, 1) := by decide +kernel
theorem dX3_release_11 : decode cX3_release 11 = .ok (.aload_n 2, 1) := by decide +kernel
theorem dX3_release_12 : decode cX3_release 12 = .ok (.invokevirtual 180, 3) := by decide +kernel
theorem dX3_release_15 : decode cX3_release 15 = .ok (.ifCond .ne 5, 3) := by decide +kernel
theorem dX3_release_18 : decode cX3_release 18 = .ok (.iconst 1, 1) := by decide +kernel
theorem dX3_release_19 : decode cX3_release 19 = .ok (.ireturn, 1) := by decide +kernel
theorem dX3_release_20 : decode cX3_release 20 = .ok (.aload_n 0, 1) := by decide +kernel
theorem dX3_release_21 : decode cX3_release 21 = .ok (.iload_n 1, 1) := by decide +kernel
theorem dX3_release_22 : decode cX3_release 22 = .ok (.iconst 0, 1) := by decide +kernel
theorem dX3_release_23 : decode cX3_release 23 = .ok (.invokevirtual 170, 3) := by decide +kernel
theorem dX3_release_26 : decode cX3_release 26 = .ok (.iconst (-1), 1) := by decide +kernel
theorem dX3_release_27 : decode cX3_release 27 = .ok (.if_icmp .eq 5, 3) := by decide +kernel
theorem dX3_release_30 : decode cX3_release 30 = .ok (.iconst 2, 1) := by decide +kernel
theorem dX3_release_31 : decode cX3_release 31 = .ok (.ireturn, 1) := by decide +kernel
theorem dX3_release_32 : decode cX3_release 32 = .ok (.aload_n 2, 1) := by decide +kernel
theorem dX3_release_33 : decode cX3_release 33 = .ok (.iconst 1, 1) := by decide +kernel
theorem dX3_release_34 : decode cX3_release 34 = .ok (.putfield 147, 3) := by decide +kernel
theorem dX3_release_37 : decode cX3_release 37 = .ok (.iconst 0, 1) := by decide +kernel
theorem dX3_release_38 : decode cX3_release 38 = .ok (.ireturn, 1) := by decide +kernel
theorem dX3_done_0 : decode cX3_done 0 = .ok (.aload_n 0, 1) := by decide +kernel
theorem dX3_done_1 : decode cX3_done 1 = .ok (.iload_n 1, 1) := by decide +kernel
theorem dX3_done_2 : decode cX3_done 2 = .ok (.invokevirtual 76, 3) := by decide +kernel
theorem dX3_done_5 : decode cX3_done 5 = .ok (.astore_n 2, 1) := by decide +kernel
theorem dX3_done_6 : decode cX3_done 6 = .ok (.aload_n 0, 1) := by decide +kernel
theorem dX3_done_7 : decode cX3_done 7 = .ok (.aload_n 2, 1) := by decide +kernel
theorem dX3_done_8 : decode cX3_done 8 = .ok (.invokevirtual 184, 3) := by decide +kernel
theorem dX3_done_11 : decode cX3_done 11 = .ok (.ifCond .eq 10, 3) := by decide +kernel
theorem dX3_done_14 : decode cX3_done 14 = .ok (.aload_n 2, 1) := by decide +kernel
theorem dX3_done_15 : decode cX3_done 15 = .ok (.getfield 188, 3) := by decide +kernel
theorem dX3_done_18 : decode cX3_done 18 = .ok (.ifCond .eq 13, 3) := by decide +kernel
theorem dX3_done_21 : decode cX3_done 21 = .ok (.new 87, 3) := by decide +kernel
theorem dX3_done_24 : decode cX3_done 24 = .ok (.dup, 1) := by decide +kernel
theorem dX3_done_25 : decode cX3_done 25 = .ok (.ldc 191, 2) := by decide +kernel
theorem dX3_done_27 : decode cX3_done 27 = .ok (.invokespecial 91, 3) := by decide +kernel
theorem dX3_done_30 : decode cX3_done 30 = .ok (.athrow, 1) := by decide +kernel
theorem dX3_done_31 : decode cX3_done 31 = .ok (.aload_n 2, 1) := by decide +kernel
theorem dX3_done_32 : decode cX3_done 32 = .ok (.iconst 1, 1) := by decide +kernel
theorem dX3_done_33 : decode cX3_done 33 = .ok (.putfield 188, 3) := by decide +kernel
theorem dX3_done_36 : decode cX3_done 36 = .ok (.aload_n 0, 1) := by decide +kernel
theorem dX3_done_37 : decode cX3_done 37 = .ok (.aload_n 2, 1) := by decide +kernel
theorem dX3_done_38 : decode cX3_done 38 = .ok (.invokevirtual 193, 3) := by decide +kernel
theorem dX3_done_41 : decode cX3_done 41 = .ok (.aload_n 0, 1) := by decide +kernel
theorem dX3_done_42 : decode cX3_done 42 = .ok (.getfield 43, 3) := by decide +kernel
theorem dX3_done_45 : decode cX3_done 45 = .ok (.aload_n 2, 1) := by decide +kernel
theorem dX3_done_46 : decode cX3_done 46 = .ok (.getfield 128, 3) := by decide +kernel
theorem dX3_done_49 : decode cX3_done 49 = .ok (.iconst 1, 1) := by decide +kernel
theorem dX3_done_50 : decode cX3_done 50 = .ok (.isub, 1) := by decide +kernel
theorem dX3_done_51 : decode cX3_done 51 = .ok (.aaload, 1) := by decide +kernel
theorem dX3_done_52 : decode cX3_done 52 = .ok (.astore_n 3, 1) := by decide +kernel
theorem dX3_done_53 : decode cX3_done 53 = .ok (.aload_n 3, 1) := by decide +kernel
theorem dX3_done_54 : decode cX3_done 54 = .ok (.getfield 142, 3) := by decide +kernel
theorem dX3_done_57 : decode cX3_done 57 = .ok (.aload_n 0, 1) := by decide +kernel
theorem dX3_done_58 : decode cX3_done 58 = .ok (.aload_n 3, 1) := by decide +kernel
theorem dX3_done_59 : decode cX3_done 59 = .ok (.invokevirtual 151, 3) := by decide +kernel
theorem dX3_done_62 : decode cX3_done 62 = .ok (.isub, 1) := by decide +kernel
theorem dX3_done_63 : decode cX3_done 63 = .ok (.ireturn, 1) := by decide +kernel
theorem dX3_change_0 : decode cX3_change 0 = .ok (.aload_n 0, 1) := by decide +kernel
theorem dX3_change_1 : decode cX3_change 1 = .ok (.iload_n 1, 1) := by decide +kernel
theorem dX3_change_2 : decode cX3_change 2 = .ok (.invokevirtual 76, 3) := by decide +kernel
theorem dX3_change_5 : decode cX3_change 5 = .ok (.astore_n 3, 1) := by decide +kernel
theorem dX3_change_6 : decode cX3_change 6 = .ok (.iload_n 2, 1) := by decide +kernel
theorem dX3_change_7 : decode cX3_change 7 = .ok (.iconst 0, 1) := by decide +kernel
theorem dX3_change_8 : decode cX3_change 8 = .ok (.ldc 52, 2) := by decide +kernel
theorem dX3_change_10 : decode cX3_change 10 = .ok (.invokestatic 53, 3) := by decide +kernel
theorem dX3_change_13 : decode cX3_change 13 = .ok (.aload_n 3, 1) := by decide +kernel
theorem dX3_change_14 : decode cX3_change 14 = .ok (.getfield 128, 3) := by decide +kernel
theorem dX3_change_17 : decode cX3_change 17 = .ok (.iconst (-1), 1) := by decide +kernel
theorem dX3_change_18 : decode cX3_change 18 = .ok (.if_icmp .eq 10, 3) := by decide +kernel
theorem dX3_change_21 : decode cX3_change 21 = .ok (.aload_n 3, 1) := by decide +kernel
theorem dX3_change_22 : decode cX3_change 22 = .ok (.getfield 188, 3) := by decide +kernel
theorem dX3_change_25 : decode cX3_change 25 = .ok (.ifCond .eq 13, 3) := by decide +kernel
theorem dX3_change_28 : decode cX3_change 28 = .ok (.new 87, 3) := by decide +kernel
theorem dX3_change_31 : decode cX3_change 31 = .ok (.dup, 1) := by decide +kernel
theorem dX3_change_32 : decode cX3_change 32 = .ok (.ldc 196, 2) := by decide +kernel
theorem dX3_change_34 : decode cX3_change 34 = .ok (.invokespecial 91, 3) := by decide +kernel
theorem dX3_change_37 : decode cX3_change 37 = .ok (.athrow, 1) := by decide +kernel
theorem dX3_change_38 : decode cX3_change 38 = .ok (.aload_n 3, 1) := by decide +kernel
theorem dX3_change_39 : decode cX3_change 39 = .ok (.iload_n 2, 1) := by decide +kernel
theorem dX3_change_40 : decode cX3_change 40 = .ok (.putfield 67, 3) := by decide +kernel
theorem dX3_change_43 : decode cX3_change 43 = .ok (.aload_n 3, 1) := by decide +kernel
theorem dX3_change_44 : decode cX3_change 44 = .ok (.getfield 128, 3) := by decide +kernel
theorem dX3_change_47 : decode cX3_change 47 = .ok (.ifCond .eq 23, 3) := by decide +kernel
theorem dX3_change_50 : decode cX3_change 50 = .ok (.aload_n 0, 1) := by decide +kernel
theorem dX3_change_51 : decode cX3_change 51 = .ok (.aload_n 3, 1) := by decide +kernel
theorem dX3_change_52 : decode cX3_change 52 = .ok (.invokevirtual 184, 3) := by decide +kernel
theorem dX3_change_55 : decode cX3_change 55 = .ok (.ifCond .ne 15, 3) := by decide +kernel
theorem dX3_change_58 : decode cX3_change 58 = .ok (.aload_n 0, 1) := by decide +kernel
theorem dX3_change_59 : decode cX3_change 59 = .ok (.aload_n 3, 1) := by decide +kernel
theorem dX3_change_60 : decode cX3_change 60 = .ok (.invokevirtual 198, 3) := by decide +kernel
theorem dX3_change_63 : decode cX3_change 63 = .ok (.ifCond .ne 7, 3) := by decide +kernel
theorem dX3_change_66 : decode cX3_change 66 = .ok (.iconst 1, 1) := by decide +kernel
theorem dX3_change_67 : decode cX3_change 67 = .ok (.goto 4, 3) := by decide +kernel
theorem dX3_change_70 : decode cX3_change 70 = .ok (.iconst 0, 1) := by decide +kernel
theorem dX3_change_71 : decode cX3_change 71 = .ok (.istore 4, 2) := by decide +kernel
theorem dX3_change_73 : decode cX3_change 73 = .ok (.iload 4, 2) := by decide +kernel
theorem dX3_change_75 : decode cX3_change 75 = .ok (.ifCond .eq 9, 3) := by decide +kernel
theorem dX3_change_78 : decode cX3_change 78 = .ok (.aload_n 0, 1) := by decide +kernel
theorem dX3_change_79 : decode cX3_change 79 = .ok (.iload_n 1, 1) := by decide +kernel
theorem dX3_change_80 : decode cX3_change 80 = .ok (.iconst 0, 1) := by decide +kernel
theorem dX3_change_81 : decode cX3_change 81 = .ok (.invokevirtual 201, 3) := by decide +kernel
theorem dX3_change_84 : decode cX3_change 84 = .ok (.iload 4, 2) := by decide +kernel
theorem dX3_change_86 : decode cX3_change 86 = .ok (.ireturn, 1) := by decide +kernel
theorem dX3_join_0 : decode cX3_join 0 = .ok (.aload_n 0, 1) := by decide +kernel
theorem dX3_join_1 : decode cX3_join 1 = .ok (.iload_n 1, 1) := by decide +kernel
theorem dX3_join_2 : decode cX3_join 2 = .ok (.invokevirtual 131, 3) := by decide +kernel
theorem dX3_join_5 : decode cX3_join 5 = .ok (.astore_n 3, 1) := by decide +kernel
theorem dX3_join_6 : decode cX3_join 6 = .ok (.aload_n 0, 1) := by decide +kernel
theorem dX3_join_7 : decode cX3_join 7 = .ok (.iload_n 2, 1) := by decide +kernel
theorem dX3_join_8 : decode cX3_join 8 = .ok (.invokevirtual 131, 3) := by decide +kernel
theorem dX3_join_11 : decode cX3_join 11 = .ok (.astore 4, 2) := by decide +kernel
theorem dX3_join_13 : decode cX3_join 13 = .ok (.aload_n 3, 1) := by decide +kernel
theorem dX3_join_14 : decode cX3_join 14 = .ok (.invokestatic 176, 3) := by decide +kernel
theorem dX3_join_17 : decode cX3_join 17 = .ok (.aload 4, 2) := by decide +kernel
theorem dX3_join_19 : decode cX3_join 19 = .ok (.invokestatic 176, 3) := by decide +kernel
theorem dX3_join_22 : decode cX3_join 22 = .ok (.iload_n 1, 1) := by decide +kernel
theorem dX3_join_23 : decode cX3_join 23 = .ok (.iload_n 2, 1) := by decide +kernel
theorem dX3_join_24 : decode cX3_join 24 = .ok (.if_icmp .eq 15, 3) := by decide +kernel
theorem dX3_join_27 : decode cX3_join 27 = .ok (.aload_n 3, 1) := by decide +kernel
theorem dX3_join_28 : decode cX3_join 28 = .ok (.getfield 146, 3) := by decide +kernel
theorem dX3_join_31 : decode cX3_join 31 = .ok (.aload 4, 2) := by decide +kernel
theorem dX3_join_33 : decode cX3_join 33 = .ok (.getfield 146, 3) := by decide +kernel
theorem dX3_join_36 : decode cX3_join 36 = .ok (.if_icmp .eq 13, 3) := by decide +kernel
theorem dX3_join_39 : decode cX3_join 39 = .ok (.new 87, 3) := by decide +kernel
theorem dX3_join_42 : decode cX3_join 42 = .ok (.dup, 1) := by decide +kernel
theorem dX3_join_43 : decode cX3_join 43 = .ok (.ldc 205, 2) := by decide +kernel
theorem dX3_join_45 : decode cX3_join 45 = .ok (.invokespecial 91, 3) := by decide +kernel
theorem dX3_join_48 : decode cX3_join 48 = .ok (.athrow, 1) := by decide +kernel
theorem dX3_join_49 : decode cX3_join 49 = .ok (.aload_n 0, 1) := by decide +kernel
theorem dX3_join_50 : decode cX3_join 50 = .ok (.getfield 48, 3) := by decide +kernel
theorem dX3_join_53 : decode cX3_join 53 = .ok (.invokevirtual 207, 3) := by decide +kernel
theorem dX3_join_56 : decode cX3_join 56 = .ok (.aload_n 0, 1) := by decide +kernel
theorem dX3_join_57 : decode cX3_join 57 = .ok (.getfield 48, 3) := by decide +kernel
theorem dX3_join_60 : decode cX3_join 60 = .ok (.aload_n 3, 1) := by decide +kernel
theorem dX3_join_61 : decode cX3_join 61 = .ok (.invokevirtual 210, 3) := by decide +kernel
theorem dX3_join_64 : decode cX3_join 64 = .ok (.aload_n 0, 1) := by decide +kernel
theorem dX3_join_65 : decode cX3_join 65 = .ok (.getfield 48, 3) := by decide +kernel
theorem dX3_join_68 : decode cX3_join 68 = .ok (.aload 4, 2) := by decide +kernel
theorem dX3_join_70 : decode cX3_join 70 = .ok (.invokevirtual 210, 3) := by decide +kernel
theorem dX3_join_73 : decode cX3_join 73 = .ok (.aload_n 0, 1) := by decide +kernel
theorem dX3_join_74 : decode cX3_join 74 = .ok (.aload_n 0, 1) := by decide +kernel
theorem dX3_join_75 : decode cX3_join 75 = .ok (.getfield 48, 3) := by decide +kernel
theorem dX3_join_78 : decode cX3_join 78 = .ok (.invokevirtual 135, 3) := by decide +kernel
theorem dX3_join_81 : decode cX3_join 81 = .ok (.istore 5, 2) := by decide +kernel
theorem dX3_join_83 : decode cX3_join 83 = .ok (.iload 5, 2) := by decide +kernel
theorem dX3_join_85 : decode cX3_join 85 = .ok (.aload_n 0, 1) := by decide +kernel
theorem dX3_join_86 : decode cX3_join 86 = .ok (.getfield 19, 3) := by decide +kernel
theorem dX3_join_89 : decode cX3_join 89 = .ok (.if_icmp .le 13, 3) := by decide +kernel
theorem dX3_join_92 : decode cX3_join 92 = .ok (.new 87, 3) := by decide +kernel
theorem dX3_join_95 : decode cX3_join 95 = .ok (.dup, 1) := by decide +kernel
theorem dX3_join_96 : decode cX3_join 96 = .ok (.ldc 213, 2) := by decide +kernel
theorem dX3_join_98 : decode cX3_join 98 = .ok (.invokespecial 91, 3) := by decide +kernel
theorem dX3_join_101 : decode cX3_join 101 = .ok (.athrow, 1) := by decide +kernel
theorem dX3_join_102 : decode cX3_join 102 = .ok (.iconst 0, 1) := by decide +kernel
theorem dX3_join_103 : decode cX3_join 103 = .ok (.istore 6, 2) := by decide +kernel
theorem dX3_join_105 : decode cX3_join 105 = .ok (.iload 6, 2) := by decide +kernel
theorem dX3_join_107 : decode cX3_join 107 = .ok (.aload 4, 2) := by decide +kernel
theorem dX3_join_109 : decode cX3_join 109 = .ok (.getfield 142, 3) := by decide +kernel
theorem dX3_join_112 : decode cX3_join 112 = .ok (.if_icmp .ge 26, 3) := by decide +kernel
theorem dX3_join_115 : decode cX3_join 115 = .ok (.aload_n 0, 1) := by decide +kernel
theorem dX3_join_116 : decode cX3_join 116 = .ok (.getfield 36, 3) := by decide +kernel
theorem dX3_join_119 : decode cX3_join 119 = .ok (.aload 4, 2) := by decide +kernel
theorem dX3_join_121 : decode cX3_join 121 = .ok (.getfield 164, 3) := by decide +kernel
theorem dX3_join_124 : decode cX3_join 124 = .ok (.iload 6, 2) := by decide +kernel
theorem dX3_join_126 : decode cX3_join 126 = .ok (.iaload, 1) := by decide +kernel
theorem dX3_join_127 : decode cX3_join 127 = .ok (.aaload, 1) := by decide +kernel
theorem dX3_join_128 : decode cX3_join 128 = .ok (.iload_n 1, 1) := by decide +kernel
theorem dX3_join_129 : decode cX3_join 129 = .ok (.putfield 128, 3) := by decide +kernel
theorem dX3_join_132 : decode cX3_join 132 = .ok (.iinc 6 1, 3) := by decide +kernel
theorem dX3_join_135 : decode cX3_join 135 = .ok (.goto (-30), 3) := by decide +kernel
theorem dX3_join_138 : decode cX3_join 138 = .ok (.aload_n 3, 1) := by decide +kernel
theorem dX3_join_139 : decode cX3_join 139 = .ok (.aload 4, 2) := by decide +kernel
theorem dX3_join_141 : decode cX3_join 141 = .ok (.invokevirtual 210, 3) := by decide +kernel
theorem dX3_join_144 : decode cX3_join 144 = .ok (.aload 4, 2) := by decide +kernel
theorem dX3_join_146 : decode cX3_join 146 = .ok (.invokevirtual 207, 3) := by decide +kernel
theorem dX3_join_149 : decode cX3_join 149 = .ok (.iload 5, 2) := by decide +kernel
theorem dX3_join_151 : decode cX3_join 151 = .ok (.ireturn, 1) := by decide +kernel
theorem dX3_cutoff_0 : decode cX3_cutoff 0 = .ok (.iload_n 1, 1) := by decide +kernel
theorem dX3_cutoff_1 : decode cX3_cutoff 1 = .ok (.iconst 0, 1) := by decide +kernel
theorem dX3_cutoff_2 : decode cX3_cutoff 2 = .ok (.iconst 3, 1) := by decide +kernel
theorem dX3_cutoff_3 : decode cX3_cutoff 3 = .ok (.invokestatic 53, 3) := by decide +kernel
theorem dX3_cutoff_6 : decode cX3_cutoff 6 = .ok (.iload_n 2, 1) := by decide +kernel
theorem dX3_cutoff_7 : decode cX3_cutoff 7 = .ok (.iconst 0, 1) := by decide +kernel
theorem dX3_cutoff_8 : decode cX3_cutoff 8 = .ok (.ldc 52, 2) := by decide +kernel
theorem dX3_cutoff_10 : decode cX3_cutoff 10 = .ok (.invokestatic 53, 3) := by decide +kernel
theorem dX3_cutoff_13 : decode cX3_cutoff 13 = .ok (.iconst 0, 1) := by decide +kernel
theorem dX3_cutoff_14 : decode cX3_cutoff 14 = .ok (.istore_n 3, 1) := by decide +kernel
theorem dX3_cutoff_15 : decode cX3_cutoff 15 = .ok (.iconst 0, 1) := by decide +kernel
theorem dX3_cutoff_16 : decode cX3_cutoff 16 = .ok (.istore 4, 2) := by decide +kernel
theorem dX3_cutoff_18 : decode cX3_cutoff 18 = .ok (.iload 4, 2) := by decide +kernel
theorem dX3_cutoff_20 : decode cX3_cutoff 20 = .ok (.aload_n 0, 1) := by decide +kernel
theorem dX3_cutoff_21 : decode cX3_cutoff 21 = .ok (.getfield 57, 3) := by decide +kernel
theorem dX3_cutoff_24 : decode cX3_cutoff 24 = .ok (.if_icmp .ge 64, 3) := by decide +kernel
theorem dX3_cutoff_27 : decode cX3_cutoff 27 = .ok (.aload_n 0, 1) := by decide +kernel
theorem dX3_cutoff_28 : decode cX3_cutoff 28 = .ok (.getfield 36, 3) := by decide +kernel
theorem dX3_cutoff_31 : decode cX3_cutoff 31 = .ok (.iload 4, 2) := by decide +kernel
theorem dX3_cutoff_33 : decode cX3_cutoff 33 = .ok (.aaload, 1) := by decide +kernel
theorem dX3_cutoff_34 : decode cX3_cutoff 34 = .ok (.astore 5, 2) := by decide +kernel
theorem dX3_cutoff_36 : decode cX3_cutoff 36 = .ok (.aload 5, 2) := by decide +kernel
theorem dX3_cutoff_38 : decode cX3_cutoff 38 = .ok (.getfield 97, 3) := by decide +kernel
theorem dX3_cutoff_41 : decode cX3_cutoff 41 = .ok (.iload_n 1, 1) := by decide +kernel
theorem dX3_cutoff_42 : decode cX3_cutoff 42 = .ok (.if_icmp .ne 40, 3) := by decide +kernel
theorem dX3_cutoff_45 : decode cX3_cutoff 45 = .ok (.aload 5, 2) := by decide +kernel
theorem dX3_cutoff_47 : decode cX3_cutoff 47 = .ok (.getfield 67, 3) := by decide +kernel
theorem dX3_cutoff_50 : decode cX3_cutoff 50 = .ok (.iload_n 2, 1) := by decide +kernel
theorem dX3_cutoff_51 : decode cX3_cutoff 51 = .ok (.if_icmp .gt 31, 3) := by decide +kernel
theorem dX3_cutoff_54 : decode cX3_cutoff 54 = .ok (.aload 5, 2) := by decide +kernel
theorem dX3_cutoff_56 : decode cX3_cutoff 56 = .ok (.getfield 128, 3) := by decide +kernel
theorem dX3_cutoff_59 : decode cX3_cutoff 59 = .ok (.iconst (-1), 1) := by decide +kernel
theorem dX3_cutoff_60 : decode cX3_cutoff 60 = .ok (.if_icmp .eq 22, 3) := by decide +kernel
theorem dX3_cutoff_63 : decode cX3_cutoff 63 = .ok (.aload_n 0, 1) := by decide +kernel
theorem dX3_cutoff_64 : decode cX3_cutoff 64 = .ok (.aload 5, 2) := by decide +kernel
theorem dX3_cutoff_66 : decode cX3_cutoff 66 = .ok (.invokevirtual 184, 3) := by decide +kernel
theorem dX3_cutoff_69 : decode cX3_cutoff 69 = .ok (.ifCond .ne 13, 3) := by decide +kernel
theorem dX3_cutoff_72 : decode cX3_cutoff 72 = .ok (.aload_n 0, 1) := by decide +kernel
theorem dX3_cutoff_73 : decode cX3_cutoff 73 = .ok (.iload 4, 2) := by decide +kernel
theorem dX3_cutoff_75 : decode cX3_cutoff 75 = .ok (.iconst (-1), 1) := by decide +kernel
theorem dX3_cutoff_76 : decode cX3_cutoff 76 = .ok (.invokevirtual 201, 3) := by decide +kernel
theorem dX3_cutoff_79 : decode cX3_cutoff 79 = .ok (.iinc 3 1, 3) := by decide +kernel
theorem dX3_cutoff_82 : decode cX3_cutoff 82 = .ok (.iinc 4 1, 3) := by decide +kernel
theorem dX3_cutoff_85 : decode cX3_cutoff 85 = .ok (.goto (-67), 3) := by decide +kernel
theorem dX3_cutoff_88 : decode cX3_cutoff 88 = .ok (.iload_n 3, 1) := by decide +kernel
theorem dX3_cutoff_89 : decode cX3_cutoff 89 = .ok (.ireturn, 1) := by decide +kernel
theorem dX3_late_0 : decode cX3_late 0 = .ok (.iload_n 1, 1) := by decide +kernel
theorem dX3_late_1 : decode cX3_late 1 = .ok (.invokestatic 167, 3) := by decide +kernel
theorem dX3_late_4 : decode cX3_late 4 = .ok (.iconst 0, 1) := by decide +kernel
theorem dX3_late_5 : decode cX3_late 5 = .ok (.istore_n 2, 1) := by decide +kernel
theorem dX3_late_6 : decode cX3_late 6 = .ok (.iconst 0, 1) := by decide +kernel
theorem dX3_late_7 : decode cX3_late 7 = .ok (.istore_n 3, 1) := by decide +kernel
theorem dX3_late_8 : decode cX3_late 8 = .ok (.iload_n 3, 1) := by decide +kernel
theorem dX3_late_9 : decode cX3_late 9 = .ok (.aload_n 0, 1) := by decide +kernel
theorem dX3_late_10 : decode cX3_late 10 = .ok (.getfield 57, 3) := by decide +kernel
theorem dX3_late_13 : decode cX3_late 13 = .ok (.if_icmp .ge 35, 3) := by decide +kernel
theorem dX3_late_16 : decode cX3_late 16 = .ok (.aload_n 0, 1) := by decide +kernel
theorem dX3_late_17 : decode cX3_late 17 = .ok (.getfield 36, 3) := by decide +kernel
theorem dX3_late_20 : decode cX3_late 20 = .ok (.iload_n 3, 1) := by decide +kernel
theorem dX3_late_21 : decode cX3_late 21 = .ok (.aaload, 1) := by decide +kernel
theorem dX3_late_22 : decode cX3_late 22 = .ok (.getfield 128, 3) := by decide +kernel
theorem dX3_late_25 : decode cX3_late 25 = .ok (.iconst (-1), 1) := by decide +kernel
theorem dX3_late_26 : decode cX3_late 26 = .ok (.if_icmp .eq 6, 3) := by decide +kernel
theorem dX3_late_29 : decode cX3_late 29 = .ok (.goto 13, 3) := by decide +kernel
theorem dX3_late_32 : decode cX3_late 32 = .ok (.iload_n 2, 1) := by decide +kernel
theorem dX3_late_33 : decode cX3_late 33 = .ok (.iload_n 1, 1) := by decide +kernel
theorem dX3_late_34 : decode cX3_late 34 = .ok (.if_icmp .ne 5, 3) := by decide +kernel
theorem dX3_late_37 : decode cX3_late 37 = .ok (.iload_n 3, 1) := by decide +kernel
theorem dX3_late_38 : decode cX3_late 38 = .ok (.ireturn, 1) := by decide +kernel
theorem dX3_late_39 : decode cX3_late 39 = .ok (.iinc 2 1, 3) := by decide +kernel
theorem dX3_late_42 : decode cX3_late 42 = .ok (.iinc 3 1, 3) := by decide +kernel
theorem dX3_late_45 : decode cX3_late 45 = .ok (.goto (-37), 3) := by decide +kernel
theorem dX3_late_48 : decode cX3_late 48 = .ok (.iconst (-1), 1) := by decide +kernel
theorem dX3_late_49 : decode cX3_late 49 = .ok (.ireturn, 1) := by decide +kernel
theorem dX3_count_0 : decode cX3_count 0 = .ok (.iload_n 1, 1) := by decide +kernel
theorem dX3_count_1 : decode cX3_count 1 = .ok (.tableswitch 81 0 6 #[43, 48, 53, 59, 65, 70, 76], 43) := by decide +kernel
theorem dX3_count_44 : decode cX3_count 44 = .ok (.aload_n 0, 1) := by decide +kernel
theorem dX3_count_45 : decode cX3_count 45 = .ok (.getfield 57, 3) := by decide +kernel
theorem dX3_count_48 : decode cX3_count 48 = .ok (.ireturn, 1) := by decide +kernel
theorem dX3_count_49 : decode cX3_count 49 = .ok (.aload_n 0, 1) := by decide +kernel
theorem dX3_count_50 : decode cX3_count 50 = .ok (.invokevirtual 215, 3) := by decide +kernel
theorem dX3_count_53 : decode cX3_count 53 = .ok (.ireturn, 1) := by decide +kernel
theorem dX3_count_54 : decode cX3_count 54 = .ok (.aload_n 0, 1) := by decide +kernel
theorem dX3_count_55 : decode cX3_count 55 = .ok (.iconst 0, 1) := by decide +kernel
theorem dX3_count_56 : decode cX3_count 56 = .ok (.invokevirtual 219, 3) := by decide +kernel
theorem dX3_count_59 : decode cX3_count 59 = .ok (.ireturn, 1) := by decide +kernel
theorem dX3_count_60 : decode cX3_count 60 = .ok (.aload_n 0, 1) := by decide +kernel
theorem dX3_count_61 : decode cX3_count 61 = .ok (.iconst (-1), 1) := by decide +kernel
theorem dX3_count_62 : decode cX3_count 62 = .ok (.invokevirtual 219, 3) := by decide +kernel
theorem dX3_count_65 : decode cX3_count 65 = .ok (.ireturn, 1) := by decide +kernel
theorem dX3_count_66 : decode cX3_count 66 = .ok (.aload_n 0, 1) := by decide +kernel
theorem dX3_count_67 : decode cX3_count 67 = .ok (.invokevirtual 222, 3) := by decide +kernel
theorem dX3_count_70 : decode cX3_count 70 = .ok (.ireturn, 1) := by decide +kernel
theorem dX3_count_71 : decode cX3_count 71 = .ok (.aload_n 0, 1) := by decide +kernel
theorem dX3_count_72 : decode cX3_count 72 = .ok (.iconst 0, 1) := by decide +kernel
theorem dX3_count_73 : decode cX3_count 73 = .ok (.invokevirtual 125, 3) := by decide +kernel
theorem dX3_count_76 : decode cX3_count 76 = .ok (.ireturn, 1) := by decide +kernel
theorem dX3_count_77 : decode cX3_count 77 = .ok (.aload_n 0, 1) := by decide +kernel
theorem dX3_count_78 : decode cX3_count 78 = .ok (.getfield 19, 3) := by decide +kernel
theorem dX3_count_81 : decode cX3_count 81 = .ok (.ireturn, 1) := by decide +kernel
theorem dX3_count_82 : decode cX3_count 82 = .ok (.iconst (-1), 1) := by decide +kernel
theorem dX3_count_83 : decode cX3_count 83 = .ok (.ireturn, 1) := by decide +kernel
theorem dX3_requireRange_0 : decode cX3_requireRange 0 = .ok (.iload_n 0, 1) := by decide +kernel
theorem dX3_requireRange_1 : decode cX3_requireRange 1 = .ok (.iload_n 1, 1) := by decide +kernel
theorem dX3_requireRange_2 : decode cX3_requireRange 2 = .ok (.if_icmp .lt 8, 3) := by decide +kernel
theorem dX3_requireRange_5 : decode cX3_requireRange 5 = .ok (.iload_n 0, 1) := by decide +kernel
theorem dX3_requireRange_6 : decode cX3_requireRange 6 = .ok (.iload_n 2, 1) := by decide +kernel
theorem dX3_requireRange_7 : decode cX3_requireRange 7 = .ok (.if_icmp .le 13, 3) := by decide +kernel
theorem dX3_requireRange_10 : decode cX3_requireRange 10 = .ok (.new 154, 3) := by decide +kernel
theorem dX3_requireRange_13 : decode cX3_requireRange 13 = .ok (.dup, 1) := by decide +kernel
theorem dX3_requireRange_14 : decode cX3_requireRange 14 = .ok (.ldc 225, 2) := by decide +kernel
theorem dX3_requireRange_16 : decode cX3_requireRange 16 = .ok (.invokespecial 158, 3) := by decide +kernel
theorem dX3_requireRange_19 : decode cX3_requireRange 19 = .ok (.athrow, 1) := by decide +kernel
theorem dX3_requireRange_20 : decode cX3_requireRange 20 = .ok (.return_, 1) := by decide +kernel
theorem dX3_requireNotNegative_0 : decode cX3_requireNotNegative 0 = .ok (.iload_n 0, 1) := by decide +kernel
theorem dX3_requireNotNegative_1 : decode cX3_requireNotNegative 1 = .ok (.ifCond .ge 13, 3) := by decide +kernel
theorem dX3_requireNotNegative_4 : decode cX3_requireNotNegative 4 = .ok (.new 154, 3) := by decide +kernel
theorem dX3_requireNotNegative_7 : decode cX3_requireNotNegative 7 = .ok (.dup, 1) := by decide +kernel
theorem dX3_requireNotNegative_8 : decode cX3_requireNotNegative 8 = .ok (.ldc 227, 2) := by decide +kernel
theorem dX3_requireNotNegative_10 : decode cX3_requireNotNegative 10 = .ok (.invokespecial 158, 3) := by decide +kernel
theorem dX3_requireNotNegative_13 : decode cX3_requireNotNegative 13 = .ok (.athrow, 1) := by decide +kernel
theorem dX3_requireNotNegative_14 : decode cX3_requireNotNegative 14 = .ok (.return_, 1) := by decide +kernel
theorem dX3_requireFree_0 : decode cX3_requireFree 0 = .ok (.aload_n 0, 1) := by decide +kernel
theorem dX3_requireFree_1 : decode cX3_requireFree 1 = .ok (.getfield 128, 3) := by decide +kernel
theorem dX3_requireFree_4 : decode cX3_requireFree 4 = .ok (.ifCond .eq 13, 3) := by decide +kernel
theorem dX3_requireFree_7 : decode cX3_requireFree 7 = .ok (.new 87, 3) := by decide +kernel
theorem dX3_requireFree_10 : decode cX3_requireFree 10 = .ok (.dup, 1) := by decide +kernel
theorem dX3_requireFree_11 : decode cX3_requireFree 11 = .ok (.ldc 229, 2) := by decide +kernel
theorem dX3_requireFree_13 : decode cX3_requireFree 13 = .ok (.invokespecial 91, 3) := by decide +kernel
theorem dX3_requireFree_16 : decode cX3_requireFree 16 = .ok (.athrow, 1) := by decide +kernel
theorem dX3_requireFree_17 : decode cX3_requireFree 17 = .ok (.return_, 1) := by decide +kernel
theorem dX3_requirePlanned_0 : decode cX3_requirePlanned 0 = .ok (.aload_n 0, 1) := by decide +kernel
theorem dX3_requirePlanned_1 : decode cX3_requirePlanned 1 = .ok (.getfield 147, 3) := by decide +kernel
theorem dX3_requirePlanned_4 : decode cX3_requirePlanned 4 = .ok (.ifCond .eq 13, 3) := by decide +kernel
theorem dX3_requirePlanned_7 : decode cX3_requirePlanned 7 = .ok (.new 87, 3) := by decide +kernel
theorem dX3_requirePlanned_10 : decode cX3_requirePlanned 10 = .ok (.dup, 1) := by decide +kernel
theorem dX3_requirePlanned_11 : decode cX3_requirePlanned 11 = .ok (.ldc 231, 2) := by decide +kernel
theorem dX3_requirePlanned_13 : decode cX3_requirePlanned 13 = .ok (.invokespecial 91, 3) := by decide +kernel
theorem dX3_requirePlanned_16 : decode cX3_requirePlanned 16 = .ok (.athrow, 1) := by decide +kernel
theorem dX3_requirePlanned_17 : decode cX3_requirePlanned 17 = .ok (.return_, 1) := by decide +kernel
theorem dX3_requireOrder_0 : decode cX3_requireOrder 0 = .ok (.iload_n 1, 1) := by decide +kernel
theorem dX3_requireOrder_1 : decode cX3_requireOrder 1 = .ok (.ifCond .lt 11, 3) := by decide +kernel
theorem dX3_requireOrder_4 : decode cX3_requireOrder 4 = .ok (.iload_n 1, 1) := by decide +kernel
theorem dX3_requireOrder_5 : decode cX3_requireOrder 5 = .ok (.aload_n 0, 1) := by decide +kernel
theorem dX3_requireOrder_6 : decode cX3_requireOrder 6 = .ok (.getfield 57, 3) := by decide +kernel
theorem dX3_requireOrder_9 : decode cX3_requireOrder 9 = .ok (.if_icmp .lt 13, 3) := by decide +kernel
theorem dX3_requireOrder_12 : decode cX3_requireOrder 12 = .ok (.new 159, 3) := by decide +kernel
theorem dX3_requireOrder_15 : decode cX3_requireOrder 15 = .ok (.dup, 1) := by decide +kernel
theorem dX3_requireOrder_16 : decode cX3_requireOrder 16 = .ok (.ldc 233, 2) := by decide +kernel
theorem dX3_requireOrder_18 : decode cX3_requireOrder 18 = .ok (.invokespecial 163, 3) := by decide +kernel
theorem dX3_requireOrder_21 : decode cX3_requireOrder 21 = .ok (.athrow, 1) := by decide +kernel
theorem dX3_requireOrder_22 : decode cX3_requireOrder 22 = .ok (.aload_n 0, 1) := by decide +kernel
theorem dX3_requireOrder_23 : decode cX3_requireOrder 23 = .ok (.getfield 36, 3) := by decide +kernel
theorem dX3_requireOrder_26 : decode cX3_requireOrder 26 = .ok (.iload_n 1, 1) := by decide +kernel
theorem dX3_requireOrder_27 : decode cX3_requireOrder 27 = .ok (.aaload, 1) := by decide +kernel
theorem dX3_requireOrder_28 : decode cX3_requireOrder 28 = .ok (.areturn, 1) := by decide +kernel
theorem dX3_requireWave_0 : decode cX3_requireWave 0 = .ok (.iload_n 1, 1) := by decide +kernel
theorem dX3_requireWave_1 : decode cX3_requireWave 1 = .ok (.iconst 1, 1) := by decide +kernel
theorem dX3_requireWave_2 : decode cX3_requireWave 2 = .ok (.if_icmp .lt 25, 3) := by decide +kernel
theorem dX3_requireWave_5 : decode cX3_requireWave 5 = .ok (.iload_n 1, 1) := by decide +kernel
theorem dX3_requireWave_6 : decode cX3_requireWave 6 = .ok (.aload_n 0, 1) := by decide +kernel
theorem dX3_requireWave_7 : decode cX3_requireWave 7 = .ok (.getfield 112, 3) := by decide +kernel
theorem dX3_requireWave_10 : decode cX3_requireWave 10 = .ok (.if_icmp .gt 17, 3) := by decide +kernel
theorem dX3_requireWave_13 : decode cX3_requireWave 13 = .ok (.aload_n 0, 1) := by decide +kernel
theorem dX3_requireWave_14 : decode cX3_requireWave 14 = .ok (.getfield 43, 3) := by decide +kernel
theorem dX3_requireWave_17 : decode cX3_requireWave 17 = .ok (.iload_n 1, 1) := by decide +kernel
theorem dX3_requireWave_18 : decode cX3_requireWave 18 = .ok (.iconst 1, 1) := by decide +kernel
theorem dX3_requireWave_19 : decode cX3_requireWave 19 = .ok (.isub, 1) := by decide +kernel
theorem dX3_requireWave_20 : decode cX3_requireWave 20 = .ok (.aaload, 1) := by decide +kernel
theorem dX3_requireWave_21 : decode cX3_requireWave 21 = .ok (.getfield 142, 3) := by decide +kernel
theorem dX3_requireWave_24 : decode cX3_requireWave 24 = .ok (.ifCond .ne 13, 3) := by decide +kernel
theorem dX3_requireWave_27 : decode cX3_requireWave 27 = .ok (.new 159, 3) := by decide +kernel
theorem dX3_requireWave_30 : decode cX3_requireWave 30 = .ok (.dup, 1) := by decide +kernel
theorem dX3_requireWave_31 : decode cX3_requireWave 31 = .ok (.ldc 235, 2) := by decide +kernel
theorem dX3_requireWave_33 : decode cX3_requireWave 33 = .ok (.invokespecial 163, 3) := by decide +kernel
theorem dX3_requireWave_36 : decode cX3_requireWave 36 = .ok (.athrow, 1) := by decide +kernel
theorem dX3_requireWave_37 : decode cX3_requireWave 37 = .ok (.aload_n 0, 1) := by decide +kernel
theorem dX3_requireWave_38 : decode cX3_requireWave 38 = .ok (.getfield 43, 3) := by decide +kernel
theorem dX3_requireWave_41 : decode cX3_requireWave 41 = .ok (.iload_n 1, 1) := by decide +kernel
theorem dX3_requireWave_42 : decode cX3_requireWave 42 = .ok (.iconst 1, 1) := by decide +kernel
theorem dX3_requireWave_43 : decode cX3_requireWave 43 = .ok (.isub, 1) := by decide +kernel
theorem dX3_requireWave_44 : decode cX3_requireWave 44 = .ok (.aaload, 1) := by decide +kernel
theorem dX3_requireWave_45 : decode cX3_requireWave 45 = .ok (.areturn, 1) := by decide +kernel
theorem dX3_fits_0 : decode cX3_fits 0 = .ok (.aload_n 0, 1) := by decide +kernel
theorem dX3_fits_1 : decode cX3_fits 1 = .ok (.getfield 26, 3) := by decide +kernel
theorem dX3_fits_4 : decode cX3_fits 4 = .ok (.aload_n 1, 1) := by decide +kernel
theorem dX3_fits_5 : decode cX3_fits 5 = .ok (.getfield 97, 3) := by decide +kernel
theorem dX3_fits_8 : decode cX3_fits 8 = .ok (.aload_n 1, 1) := by decide +kernel
theorem dX3_fits_9 : decode cX3_fits 9 = .ok (.getfield 67, 3) := by decide +kernel
theorem dX3_fits_12 : decode cX3_fits 12 = .ok (.invokevirtual 237, 3) := by decide +kernel
theorem dX3_fits_15 : decode cX3_fits 15 = .ok (.ireturn, 1) := by decide +kernel
theorem dX3_allFit_0 : decode cX3_allFit 0 = .ok (.iconst 0, 1) := by decide +kernel
theorem dX3_allFit_1 : decode cX3_allFit 1 = .ok (.istore_n 2, 1) := by decide +kernel
theorem dX3_allFit_2 : decode cX3_allFit 2 = .ok (.iload_n 2, 1) := by decide +kernel
theorem dX3_allFit_3 : decode cX3_allFit 3 = .ok (.aload_n 1, 1) := by decide +kernel
theorem dX3_allFit_4 : decode cX3_allFit 4 = .ok (.getfield 142, 3) := by decide +kernel
theorem dX3_allFit_7 : decode cX3_allFit 7 = .ok (.if_icmp .ge 29, 3) := by decide +kernel
theorem dX3_allFit_10 : decode cX3_allFit 10 = .ok (.aload_n 0, 1) := by decide +kernel
theorem dX3_allFit_11 : decode cX3_allFit 11 = .ok (.aload_n 0, 1) := by decide +kernel
theorem dX3_allFit_12 : decode cX3_allFit 12 = .ok (.getfield 36, 3) := by decide +kernel
theorem dX3_allFit_15 : decode cX3_allFit 15 = .ok (.aload_n 1, 1) := by decide +kernel
theorem dX3_allFit_16 : decode cX3_allFit 16 = .ok (.getfield 164, 3) := by decide +kernel
theorem dX3_allFit_19 : decode cX3_allFit 19 = .ok (.iload_n 2, 1) := by decide +kernel
theorem dX3_allFit_20 : decode cX3_allFit 20 = .ok (.iaload, 1) := by decide +kernel
theorem dX3_allFit_21 : decode cX3_allFit 21 = .ok (.aaload, 1) := by decide +kernel
theorem dX3_allFit_22 : decode cX3_allFit 22 = .ok (.invokevirtual 198, 3) := by decide +kernel
theorem dX3_allFit_25 : decode cX3_allFit 25 = .ok (.ifCond .ne 5, 3) := by decide +kernel
theorem dX3_allFit_28 : decode cX3_allFit 28 = .ok (.iconst 0, 1) := by decide +kernel
theorem dX3_allFit_29 : decode cX3_allFit 29 = .ok (.ireturn, 1) := by decide +kernel
theorem dX3_allFit_30 : decode cX3_allFit 30 = .ok (.iinc 2 1, 3) := by decide +kernel
theorem dX3_allFit_33 : decode cX3_allFit 33 = .ok (.goto (-31), 3) := by decide +kernel
theorem dX3_allFit_36 : decode cX3_allFit 36 = .ok (.iconst 1, 1) := by decide +kernel
theorem dX3_allFit_37 : decode cX3_allFit 37 = .ok (.ireturn, 1) := by decide +kernel
theorem dX3_isReleased_0 : decode cX3_isReleased 0 = .ok (.aload_n 1, 1) := by decide +kernel
theorem dX3_isReleased_1 : decode cX3_isReleased 1 = .ok (.getfield 128, 3) := by decide +kernel
theorem dX3_isReleased_4 : decode cX3_isReleased 4 = .ok (.iconst 1, 1) := by decide +kernel
theorem dX3_isReleased_5 : decode cX3_isReleased 5 = .ok (.if_icmp .lt 35, 3) := by decide +kernel
theorem dX3_isReleased_8 : decode cX3_isReleased 8 = .ok (.aload_n 1, 1) := by decide +kernel
theorem dX3_isReleased_9 : decode cX3_isReleased 9 = .ok (.getfield 128, 3) := by decide +kernel
theorem dX3_isReleased_12 : decode cX3_isReleased 12 = .ok (.aload_n 0, 1) := by decide +kernel
theorem dX3_isReleased_13 : decode cX3_isReleased 13 = .ok (.getfield 112, 3) := by decide +kernel
theorem dX3_isReleased_16 : decode cX3_isReleased 16 = .ok (.if_icmp .gt 24, 3) := by decide +kernel
theorem dX3_isReleased_19 : decode cX3_isReleased 19 = .ok (.aload_n 0, 1) := by decide +kernel
theorem dX3_isReleased_20 : decode cX3_isReleased 20 = .ok (.getfield 43, 3) := by decide +kernel
theorem dX3_isReleased_23 : decode cX3_isReleased 23 = .ok (.aload_n 1, 1) := by decide +kernel
theorem dX3_isReleased_24 : decode cX3_isReleased 24 = .ok (.getfield 128, 3) := by decide +kernel
theorem dX3_isReleased_27 : decode cX3_isReleased 27 = .ok (.iconst 1, 1) := by decide +kernel
theorem dX3_isReleased_28 : decode cX3_isReleased 28 = .ok (.isub, 1) := by decide +kernel
theorem dX3_isReleased_29 : decode cX3_isReleased 29 = .ok (.aaload, 1) := by decide +kernel
theorem dX3_isReleased_30 : decode cX3_isReleased 30 = .ok (.getfield 147, 3) := by decide +kernel
theorem dX3_isReleased_33 : decode cX3_isReleased 33 = .ok (.ifCond .eq 7, 3) := by decide +kernel
theorem dX3_isReleased_36 : decode cX3_isReleased 36 = .ok (.iconst 1, 1) := by decide +kernel
theorem dX3_isReleased_37 : decode cX3_isReleased 37 = .ok (.goto 4, 3) := by decide +kernel
theorem dX3_isReleased_40 : decode cX3_isReleased 40 = .ok (.iconst 0, 1) := by decide +kernel
theorem dX3_isReleased_41 : decode cX3_isReleased 41 = .ok (.ireturn, 1) := by decide +kernel
theorem dX3_takeOut_0 : decode cX3_takeOut 0 = .ok (.aload_n 0, 1) := by decide +kernel
theorem dX3_takeOut_1 : decode cX3_takeOut 1 = .ok (.getfield 36, 3) := by decide +kernel
theorem dX3_takeOut_4 : decode cX3_takeOut 4 = .ok (.iload_n 1, 1) := by decide +kernel
theorem dX3_takeOut_5 : decode cX3_takeOut 5 = .ok (.aaload, 1) := by decide +kernel
theorem dX3_takeOut_6 : decode cX3_takeOut 6 = .ok (.astore_n 3, 1) := by decide +kernel
theorem dX3_takeOut_7 : decode cX3_takeOut 7 = .ok (.aload_n 3, 1) := by decide +kernel
theorem dX3_takeOut_8 : decode cX3_takeOut 8 = .ok (.getfield 128, 3) := by decide +kernel
theorem dX3_takeOut_11 : decode cX3_takeOut 11 = .ok (.iconst 1, 1) := by decide +kernel
theorem dX3_takeOut_12 : decode cX3_takeOut 12 = .ok (.if_icmp .lt 29, 3) := by decide +kernel
theorem dX3_takeOut_15 : decode cX3_takeOut 15 = .ok (.aload_n 3, 1) := by decide +kernel
theorem dX3_takeOut_16 : decode cX3_takeOut 16 = .ok (.getfield 128, 3) := by decide +kernel
theorem dX3_takeOut_19 : decode cX3_takeOut 19 = .ok (.aload_n 0, 1) := by decide +kernel
theorem dX3_takeOut_20 : decode cX3_takeOut 20 = .ok (.getfield 112, 3) := by decide +kernel
theorem dX3_takeOut_23 : decode cX3_takeOut 23 = .ok (.if_icmp .gt 18, 3) := by decide +kernel
theorem dX3_takeOut_26 : decode cX3_takeOut 26 = .ok (.aload_n 0, 1) := by decide +kernel
theorem dX3_takeOut_27 : decode cX3_takeOut 27 = .ok (.getfield 43, 3) := by decide +kernel
theorem dX3_takeOut_30 : decode cX3_takeOut 30 = .ok (.aload_n 3, 1) := by decide +kernel
theorem dX3_takeOut_31 : decode cX3_takeOut 31 = .ok (.getfield 128, 3) := by decide +kernel
theorem dX3_takeOut_34 : decode cX3_takeOut 34 = .ok (.iconst 1, 1) := by decide +kernel
theorem dX3_takeOut_35 : decode cX3_takeOut 35 = .ok (.isub, 1) := by decide +kernel
theorem dX3_takeOut_36 : decode cX3_takeOut 36 = .ok (.aaload, 1) := by decide +kernel
theorem dX3_takeOut_37 : decode cX3_takeOut 37 = .ok (.iload_n 1, 1) := by decide +kernel
theorem dX3_takeOut_38 : decode cX3_takeOut 38 = .ok (.invokevirtual 241, 3) := by decide +kernel
theorem dX3_takeOut_41 : decode cX3_takeOut 41 = .ok (.aload_n 3, 1) := by decide +kernel
theorem dX3_takeOut_42 : decode cX3_takeOut 42 = .ok (.iload_n 2, 1) := by decide +kernel
theorem dX3_takeOut_43 : decode cX3_takeOut 43 = .ok (.putfield 128, 3) := by decide +kernel
theorem dX3_takeOut_46 : decode cX3_takeOut 46 = .ok (.return_, 1) := by decide +kernel
theorem dX3_makeWaves_0 : decode cX3_makeWaves 0 = .ok (.iconst 0, 1) := by decide +kernel
theorem dX3_makeWaves_1 : decode cX3_makeWaves 1 = .ok (.istore_n 1, 1) := by decide +kernel
theorem dX3_makeWaves_2 : decode cX3_makeWaves 2 = .ok (.iload_n 1, 1) := by decide +kernel
theorem dX3_makeWaves_3 : decode cX3_makeWaves 3 = .ok (.aload_n 0, 1) := by decide +kernel
theorem dX3_makeWaves_4 : decode cX3_makeWaves 4 = .ok (.getfield 57, 3) := by decide +kernel
theorem dX3_makeWaves_7 : decode cX3_makeWaves 7 = .ok (.if_icmp .ge 19, 3) := by decide +kernel
theorem dX3_makeWaves_10 : decode cX3_makeWaves 10 = .ok (.aload_n 0, 1) := by decide +kernel
theorem dX3_makeWaves_11 : decode cX3_makeWaves 11 = .ok (.getfield 36, 3) := by decide +kernel
theorem dX3_makeWaves_14 : decode cX3_makeWaves 14 = .ok (.iload_n 1, 1) := by decide +kernel
theorem dX3_makeWaves_15 : decode cX3_makeWaves 15 = .ok (.aaload, 1) := by decide +kernel
theorem dX3_makeWaves_16 : decode cX3_makeWaves 16 = .ok (.iconst 0, 1) := by decide +kernel
theorem dX3_makeWaves_17 : decode cX3_makeWaves 17 = .ok (.putfield 244, 3) := by decide +kernel
theorem dX3_makeWaves_20 : decode cX3_makeWaves 20 = .ok (.iinc 1 1, 3) := by decide +kernel
end
section
theorem dX3_makeWaves_23 : decode cX3_makeWaves 23 = .ok (.goto (-21), 3) := by decide +kernel
theorem dX3_makeWaves_26 : decode cX3_makeWaves 26 = .ok (.iconst 0, 1) := by decide +kernel
theorem dX3_makeWaves_27 : decode cX3_makeWaves 27 = .ok (.istore_n 1, 1) := by decide +kernel
theorem dX3_makeWaves_28 : decode cX3_makeWaves 28 = .ok (.iload_n 1, 1) := by decide +kernel
theorem dX3_makeWaves_29 : decode cX3_makeWaves 29 = .ok (.aload_n 0, 1) := by decide +kernel
theorem dX3_makeWaves_30 : decode cX3_makeWaves 30 = .ok (.getfield 57, 3) := by decide +kernel
theorem dX3_makeWaves_33 : decode cX3_makeWaves 33 = .ok (.if_icmp .ge 66, 3) := by decide +kernel
theorem dX3_makeWaves_36 : decode cX3_makeWaves 36 = .ok (.aload_n 0, 1) := by decide +kernel
theorem dX3_makeWaves_37 : decode cX3_makeWaves 37 = .ok (.invokevirtual 247, 3) := by decide +kernel
theorem dX3_makeWaves_40 : decode cX3_makeWaves 40 = .ok (.istore_n 2, 1) := by decide +kernel
theorem dX3_makeWaves_41 : decode cX3_makeWaves 41 = .ok (.iload_n 2, 1) := by decide +kernel
theorem dX3_makeWaves_42 : decode cX3_makeWaves 42 = .ok (.iconst (-1), 1) := by decide +kernel
theorem dX3_makeWaves_43 : decode cX3_makeWaves 43 = .ok (.if_icmp .ne 5, 3) := by decide +kernel
theorem dX3_makeWaves_46 : decode cX3_makeWaves 46 = .ok (.iconst 1, 1) := by decide +kernel
theorem dX3_makeWaves_47 : decode cX3_makeWaves 47 = .ok (.ireturn, 1) := by decide +kernel
theorem dX3_makeWaves_48 : decode cX3_makeWaves 48 = .ok (.aload_n 0, 1) := by decide +kernel
theorem dX3_makeWaves_49 : decode cX3_makeWaves 49 = .ok (.getfield 36, 3) := by decide +kernel
theorem dX3_makeWaves_52 : decode cX3_makeWaves 52 = .ok (.iload_n 2, 1) := by decide +kernel
theorem dX3_makeWaves_53 : decode cX3_makeWaves 53 = .ok (.aaload, 1) := by decide +kernel
theorem dX3_makeWaves_54 : decode cX3_makeWaves 54 = .ok (.iconst 1, 1) := by decide +kernel
theorem dX3_makeWaves_55 : decode cX3_makeWaves 55 = .ok (.putfield 244, 3) := by decide +kernel
theorem dX3_makeWaves_58 : decode cX3_makeWaves 58 = .ok (.aload_n 0, 1) := by decide +kernel
theorem dX3_makeWaves_59 : decode cX3_makeWaves 59 = .ok (.getfield 36, 3) := by decide +kernel
theorem dX3_makeWaves_62 : decode cX3_makeWaves 62 = .ok (.iload_n 2, 1) := by decide +kernel
theorem dX3_makeWaves_63 : decode cX3_makeWaves 63 = .ok (.aaload, 1) := by decide +kernel
theorem dX3_makeWaves_64 : decode cX3_makeWaves 64 = .ok (.getfield 73, 3) := by decide +kernel
theorem dX3_makeWaves_67 : decode cX3_makeWaves 67 = .ok (.aload_n 0, 1) := by decide +kernel
theorem dX3_makeWaves_68 : decode cX3_makeWaves 68 = .ok (.getfield 19, 3) := by decide +kernel
theorem dX3_makeWaves_71 : decode cX3_makeWaves 71 = .ok (.if_icmp .le 6, 3) := by decide +kernel
theorem dX3_makeWaves_74 : decode cX3_makeWaves 74 = .ok (.goto 19, 3) := by decide +kernel
theorem dX3_makeWaves_77 : decode cX3_makeWaves 77 = .ok (.aload_n 0, 1) := by decide +kernel
theorem dX3_makeWaves_78 : decode cX3_makeWaves 78 = .ok (.getfield 112, 3) := by decide +kernel
theorem dX3_makeWaves_81 : decode cX3_makeWaves 81 = .ok (.bipush 16, 2) := by decide +kernel
theorem dX3_makeWaves_83 : decode cX3_makeWaves 83 = .ok (.if_icmp .lt 5, 3) := by decide +kernel
theorem dX3_makeWaves_86 : decode cX3_makeWaves 86 = .ok (.iconst 0, 1) := by decide +kernel
theorem dX3_makeWaves_87 : decode cX3_makeWaves 87 = .ok (.ireturn, 1) := by decide +kernel
theorem dX3_makeWaves_88 : decode cX3_makeWaves 88 = .ok (.aload_n 0, 1) := by decide +kernel
theorem dX3_makeWaves_89 : decode cX3_makeWaves 89 = .ok (.iload_n 2, 1) := by decide +kernel
theorem dX3_makeWaves_90 : decode cX3_makeWaves 90 = .ok (.invokevirtual 250, 3) := by decide +kernel
theorem dX3_makeWaves_93 : decode cX3_makeWaves 93 = .ok (.iinc 1 1, 3) := by decide +kernel
theorem dX3_makeWaves_96 : decode cX3_makeWaves 96 = .ok (.goto (-68), 3) := by decide +kernel
theorem dX3_makeWaves_99 : decode cX3_makeWaves 99 = .ok (.iconst 1, 1) := by decide +kernel
theorem dX3_makeWaves_100 : decode cX3_makeWaves 100 = .ok (.ireturn, 1) := by decide +kernel
theorem dX3_mayBePlanned_0 : decode cX3_mayBePlanned 0 = .ok (.aload_n 1, 1) := by decide +kernel
theorem dX3_mayBePlanned_1 : decode cX3_mayBePlanned 1 = .ok (.getfield 128, 3) := by decide +kernel
theorem dX3_mayBePlanned_4 : decode cX3_mayBePlanned 4 = .ok (.ifCond .ne 15, 3) := by decide +kernel
theorem dX3_mayBePlanned_7 : decode cX3_mayBePlanned 7 = .ok (.aload_n 0, 1) := by decide +kernel
theorem dX3_mayBePlanned_8 : decode cX3_mayBePlanned 8 = .ok (.aload_n 1, 1) := by decide +kernel
theorem dX3_mayBePlanned_9 : decode cX3_mayBePlanned 9 = .ok (.invokevirtual 198, 3) := by decide +kernel
theorem dX3_mayBePlanned_12 : decode cX3_mayBePlanned 12 = .ok (.ifCond .eq 7, 3) := by decide +kernel
theorem dX3_mayBePlanned_15 : decode cX3_mayBePlanned 15 = .ok (.iconst 1, 1) := by decide +kernel
theorem dX3_mayBePlanned_16 : decode cX3_mayBePlanned 16 = .ok (.goto 4, 3) := by decide +kernel
theorem dX3_mayBePlanned_19 : decode cX3_mayBePlanned 19 = .ok (.iconst 0, 1) := by decide +kernel
theorem dX3_mayBePlanned_20 : decode cX3_mayBePlanned 20 = .ok (.ireturn, 1) := by decide +kernel
theorem dX3_nextBeginning_0 : decode cX3_nextBeginning 0 = .ok (.iconst (-1), 1) := by decide +kernel
theorem dX3_nextBeginning_1 : decode cX3_nextBeginning 1 = .ok (.istore_n 1, 1) := by decide +kernel
theorem dX3_nextBeginning_2 : decode cX3_nextBeginning 2 = .ok (.iconst 0, 1) := by decide +kernel
theorem dX3_nextBeginning_3 : decode cX3_nextBeginning 3 = .ok (.istore_n 2, 1) := by decide +kernel
theorem dX3_nextBeginning_4 : decode cX3_nextBeginning 4 = .ok (.iload_n 2, 1) := by decide +kernel
theorem dX3_nextBeginning_5 : decode cX3_nextBeginning 5 = .ok (.aload_n 0, 1) := by decide +kernel
theorem dX3_nextBeginning_6 : decode cX3_nextBeginning 6 = .ok (.getfield 57, 3) := by decide +kernel
theorem dX3_nextBeginning_9 : decode cX3_nextBeginning 9 = .ok (.if_icmp .ge 54, 3) := by decide +kernel
theorem dX3_nextBeginning_12 : decode cX3_nextBeginning 12 = .ok (.aload_n 0, 1) := by decide +kernel
theorem dX3_nextBeginning_13 : decode cX3_nextBeginning 13 = .ok (.getfield 36, 3) := by decide +kernel
theorem dX3_nextBeginning_16 : decode cX3_nextBeginning 16 = .ok (.iload_n 2, 1) := by decide +kernel
theorem dX3_nextBeginning_17 : decode cX3_nextBeginning 17 = .ok (.aaload, 1) := by decide +kernel
theorem dX3_nextBeginning_18 : decode cX3_nextBeginning 18 = .ok (.astore_n 3, 1) := by decide +kernel
theorem dX3_nextBeginning_19 : decode cX3_nextBeginning 19 = .ok (.aload_n 0, 1) := by decide +kernel
theorem dX3_nextBeginning_20 : decode cX3_nextBeginning 20 = .ok (.aload_n 3, 1) := by decide +kernel
theorem dX3_nextBeginning_21 : decode cX3_nextBeginning 21 = .ok (.invokevirtual 253, 3) := by decide +kernel
theorem dX3_nextBeginning_24 : decode cX3_nextBeginning 24 = .ok (.ifCond .eq 33, 3) := by decide +kernel
theorem dX3_nextBeginning_27 : decode cX3_nextBeginning 27 = .ok (.aload_n 3, 1) := by decide +kernel
theorem dX3_nextBeginning_28 : decode cX3_nextBeginning 28 = .ok (.getfield 244, 3) := by decide +kernel
theorem dX3_nextBeginning_31 : decode cX3_nextBeginning 31 = .ok (.ifCond .ne 26, 3) := by decide +kernel
theorem dX3_nextBeginning_34 : decode cX3_nextBeginning 34 = .ok (.iload_n 1, 1) := by decide +kernel
theorem dX3_nextBeginning_35 : decode cX3_nextBeginning 35 = .ok (.iconst (-1), 1) := by decide +kernel
theorem dX3_nextBeginning_36 : decode cX3_nextBeginning 36 = .ok (.if_icmp .eq 19, 3) := by decide +kernel
theorem dX3_nextBeginning_39 : decode cX3_nextBeginning 39 = .ok (.aload_n 3, 1) := by decide +kernel
theorem dX3_nextBeginning_40 : decode cX3_nextBeginning 40 = .ok (.getfield 67, 3) := by decide +kernel
theorem dX3_nextBeginning_43 : decode cX3_nextBeginning 43 = .ok (.aload_n 0, 1) := by decide +kernel
theorem dX3_nextBeginning_44 : decode cX3_nextBeginning 44 = .ok (.getfield 36, 3) := by decide +kernel
theorem dX3_nextBeginning_47 : decode cX3_nextBeginning 47 = .ok (.iload_n 1, 1) := by decide +kernel
theorem dX3_nextBeginning_48 : decode cX3_nextBeginning 48 = .ok (.aaload, 1) := by decide +kernel
theorem dX3_nextBeginning_49 : decode cX3_nextBeginning 49 = .ok (.getfield 67, 3) := by decide +kernel
theorem dX3_nextBeginning_52 : decode cX3_nextBeginning 52 = .ok (.if_icmp .ge 5, 3) := by decide +kernel
theorem dX3_nextBeginning_55 : decode cX3_nextBeginning 55 = .ok (.iload_n 2, 1) := by decide +kernel
theorem dX3_nextBeginning_56 : decode cX3_nextBeginning 56 = .ok (.istore_n 1, 1) := by decide +kernel
theorem dX3_nextBeginning_57 : decode cX3_nextBeginning 57 = .ok (.iinc 2 1, 3) := by decide +kernel
theorem dX3_nextBeginning_60 : decode cX3_nextBeginning 60 = .ok (.goto (-56), 3) := by decide +kernel
theorem dX3_nextBeginning_63 : decode cX3_nextBeginning 63 = .ok (.iload_n 1, 1) := by decide +kernel
theorem dX3_nextBeginning_64 : decode cX3_nextBeginning 64 = .ok (.ireturn, 1) := by decide +kernel
theorem dX3_makeWave_0 : decode cX3_makeWave 0 = .ok (.aload_n 0, 1) := by decide +kernel
theorem dX3_makeWave_1 : decode cX3_makeWave 1 = .ok (.getfield 43, 3) := by decide +kernel
theorem dX3_makeWave_4 : decode cX3_makeWave 4 = .ok (.aload_n 0, 1) := by decide +kernel
theorem dX3_makeWave_5 : decode cX3_makeWave 5 = .ok (.getfield 112, 3) := by decide +kernel
theorem dX3_makeWave_8 : decode cX3_makeWave 8 = .ok (.aaload, 1) := by decide +kernel
theorem dX3_makeWave_9 : decode cX3_makeWave 9 = .ok (.astore_n 2, 1) := by decide +kernel
theorem dX3_makeWave_10 : decode cX3_makeWave 10 = .ok (.aload_n 0, 1) := by decide +kernel
theorem dX3_makeWave_11 : decode cX3_makeWave 11 = .ok (.dup, 1) := by decide +kernel
theorem dX3_makeWave_12 : decode cX3_makeWave 12 = .ok (.getfield 112, 3) := by decide +kernel
theorem dX3_makeWave_15 : decode cX3_makeWave 15 = .ok (.iconst 1, 1) := by decide +kernel
theorem dX3_makeWave_16 : decode cX3_makeWave 16 = .ok (.iadd, 1) := by decide +kernel
theorem dX3_makeWave_17 : decode cX3_makeWave 17 = .ok (.putfield 112, 3) := by decide +kernel
theorem dX3_makeWave_20 : decode cX3_makeWave 20 = .ok (.aload_n 2, 1) := by decide +kernel
theorem dX3_makeWave_21 : decode cX3_makeWave 21 = .ok (.aload_n 0, 1) := by decide +kernel
theorem dX3_makeWave_22 : decode cX3_makeWave 22 = .ok (.getfield 36, 3) := by decide +kernel
theorem dX3_makeWave_25 : decode cX3_makeWave 25 = .ok (.iload_n 1, 1) := by decide +kernel
theorem dX3_makeWave_26 : decode cX3_makeWave 26 = .ok (.aaload, 1) := by decide +kernel
theorem dX3_makeWave_27 : decode cX3_makeWave 27 = .ok (.getfield 97, 3) := by decide +kernel
theorem dX3_makeWave_30 : decode cX3_makeWave 30 = .ok (.putfield 146, 3) := by decide +kernel
theorem dX3_makeWave_33 : decode cX3_makeWave 33 = .ok (.aload_n 0, 1) := by decide +kernel
theorem dX3_makeWave_34 : decode cX3_makeWave 34 = .ok (.getfield 19, 3) := by decide +kernel
theorem dX3_makeWave_37 : decode cX3_makeWave 37 = .ok (.istore_n 3, 1) := by decide +kernel
theorem dX3_makeWave_38 : decode cX3_makeWave 38 = .ok (.iload_n 1, 1) := by decide +kernel
theorem dX3_makeWave_39 : decode cX3_makeWave 39 = .ok (.istore 4, 2) := by decide +kernel
theorem dX3_makeWave_41 : decode cX3_makeWave 41 = .ok (.iconst 0, 1) := by decide +kernel
theorem dX3_makeWave_42 : decode cX3_makeWave 42 = .ok (.istore 5, 2) := by decide +kernel
theorem dX3_makeWave_44 : decode cX3_makeWave 44 = .ok (.iload 5, 2) := by decide +kernel
theorem dX3_makeWave_46 : decode cX3_makeWave 46 = .ok (.bipush 16, 2) := by decide +kernel
theorem dX3_makeWave_48 : decode cX3_makeWave 48 = .ok (.if_icmp .ge 67, 3) := by decide +kernel
theorem dX3_makeWave_51 : decode cX3_makeWave 51 = .ok (.iload 4, 2) := by decide +kernel
theorem dX3_makeWave_53 : decode cX3_makeWave 53 = .ok (.iconst (-1), 1) := by decide +kernel
theorem dX3_makeWave_54 : decode cX3_makeWave 54 = .ok (.if_icmp .eq 61, 3) := by decide +kernel
theorem dX3_makeWave_57 : decode cX3_makeWave 57 = .ok (.aload_n 0, 1) := by decide +kernel
theorem dX3_makeWave_58 : decode cX3_makeWave 58 = .ok (.getfield 36, 3) := by decide +kernel
theorem dX3_makeWave_61 : decode cX3_makeWave 61 = .ok (.iload 4, 2) := by decide +kernel
theorem dX3_makeWave_63 : decode cX3_makeWave 63 = .ok (.aaload, 1) := by decide +kernel
theorem dX3_makeWave_64 : decode cX3_makeWave 64 = .ok (.astore 6, 2) := by decide +kernel
theorem dX3_makeWave_66 : decode cX3_makeWave 66 = .ok (.iload_n 3, 1) := by decide +kernel
theorem dX3_makeWave_67 : decode cX3_makeWave 67 = .ok (.aload 6, 2) := by decide +kernel
theorem dX3_makeWave_69 : decode cX3_makeWave 69 = .ok (.getfield 73, 3) := by decide +kernel
theorem dX3_makeWave_72 : decode cX3_makeWave 72 = .ok (.aload_n 0, 1) := by decide +kernel
theorem dX3_makeWave_73 : decode cX3_makeWave 73 = .ok (.aload 6, 2) := by decide +kernel
theorem dX3_makeWave_75 : decode cX3_makeWave 75 = .ok (.aload_n 2, 1) := by decide +kernel
theorem dX3_makeWave_76 : decode cX3_makeWave 76 = .ok (.aload_n 2, 1) := by decide +kernel
theorem dX3_makeWave_77 : decode cX3_makeWave 77 = .ok (.getfield 142, 3) := by decide +kernel
theorem dX3_makeWave_80 : decode cX3_makeWave 80 = .ok (.invokevirtual 256, 3) := by decide +kernel
theorem dX3_makeWave_83 : decode cX3_makeWave 83 = .ok (.isub, 1) := by decide +kernel
theorem dX3_makeWave_84 : decode cX3_makeWave 84 = .ok (.isub, 1) := by decide +kernel
theorem dX3_makeWave_85 : decode cX3_makeWave 85 = .ok (.istore_n 3, 1) := by decide +kernel
theorem dX3_makeWave_86 : decode cX3_makeWave 86 = .ok (.aload_n 2, 1) := by decide +kernel
theorem dX3_makeWave_87 : decode cX3_makeWave 87 = .ok (.iload 4, 2) := by decide +kernel
theorem dX3_makeWave_89 : decode cX3_makeWave 89 = .ok (.invokevirtual 260, 3) := by decide +kernel
theorem dX3_makeWave_92 : decode cX3_makeWave 92 = .ok (.aload 6, 2) := by decide +kernel
theorem dX3_makeWave_94 : decode cX3_makeWave 94 = .ok (.aload_n 0, 1) := by decide +kernel
theorem dX3_makeWave_95 : decode cX3_makeWave 95 = .ok (.getfield 112, 3) := by decide +kernel
theorem dX3_makeWave_98 : decode cX3_makeWave 98 = .ok (.putfield 128, 3) := by decide +kernel
theorem dX3_makeWave_101 : decode cX3_makeWave 101 = .ok (.aload_n 0, 1) := by decide +kernel
theorem dX3_makeWave_102 : decode cX3_makeWave 102 = .ok (.aload_n 2, 1) := by decide +kernel
theorem dX3_makeWave_103 : decode cX3_makeWave 103 = .ok (.iload_n 3, 1) := by decide +kernel
theorem dX3_makeWave_104 : decode cX3_makeWave 104 = .ok (.invokevirtual 263, 3) := by decide +kernel
theorem dX3_makeWave_107 : decode cX3_makeWave 107 = .ok (.istore 4, 2) := by decide +kernel
theorem dX3_makeWave_109 : decode cX3_makeWave 109 = .ok (.iinc 5 1, 3) := by decide +kernel
theorem dX3_makeWave_112 : decode cX3_makeWave 112 = .ok (.goto (-68), 3) := by decide +kernel
theorem dX3_makeWave_115 : decode cX3_makeWave 115 = .ok (.return_, 1) := by decide +kernel
theorem dX3_bestAddition_0 : decode cX3_bestAddition 0 = .ok (.iconst (-1), 1) := by decide +kernel
theorem dX3_bestAddition_1 : decode cX3_bestAddition 1 = .ok (.istore_n 3, 1) := by decide +kernel
theorem dX3_bestAddition_2 : decode cX3_bestAddition 2 = .ok (.iconst 0, 1) := by decide +kernel
theorem dX3_bestAddition_3 : decode cX3_bestAddition 3 = .ok (.istore 4, 2) := by decide +kernel
theorem dX3_bestAddition_5 : decode cX3_bestAddition 5 = .ok (.iconst 0, 1) := by decide +kernel
theorem dX3_bestAddition_6 : decode cX3_bestAddition 6 = .ok (.istore 5, 2) := by decide +kernel
theorem dX3_bestAddition_8 : decode cX3_bestAddition 8 = .ok (.iload 5, 2) := by decide +kernel
theorem dX3_bestAddition_10 : decode cX3_bestAddition 10 = .ok (.aload_n 0, 1) := by decide +kernel
theorem dX3_bestAddition_11 : decode cX3_bestAddition 11 = .ok (.getfield 57, 3) := by decide +kernel
theorem dX3_bestAddition_14 : decode cX3_bestAddition 14 = .ok (.if_icmp .ge 130, 3) := by decide +kernel
theorem dX3_bestAddition_17 : decode cX3_bestAddition 17 = .ok (.aload_n 0, 1) := by decide +kernel
theorem dX3_bestAddition_18 : decode cX3_bestAddition 18 = .ok (.getfield 36, 3) := by decide +kernel
theorem dX3_bestAddition_21 : decode cX3_bestAddition 21 = .ok (.iload 5, 2) := by decide +kernel
theorem dX3_bestAddition_23 : decode cX3_bestAddition 23 = .ok (.aaload, 1) := by decide +kernel
theorem dX3_bestAddition_24 : decode cX3_bestAddition 24 = .ok (.astore 6, 2) := by decide +kernel
theorem dX3_bestAddition_26 : decode cX3_bestAddition 26 = .ok (.aload_n 0, 1) := by decide +kernel
theorem dX3_bestAddition_27 : decode cX3_bestAddition 27 = .ok (.aload 6, 2) := by decide +kernel
theorem dX3_bestAddition_29 : decode cX3_bestAddition 29 = .ok (.invokevirtual 253, 3) := by decide +kernel
theorem dX3_bestAddition_32 : decode cX3_bestAddition 32 = .ok (.ifCond .eq 106, 3) := by decide +kernel
theorem dX3_bestAddition_35 : decode cX3_bestAddition 35 = .ok (.aload 6, 2) := by decide +kernel
theorem dX3_bestAddition_37 : decode cX3_bestAddition 37 = .ok (.getfield 97, 3) := by decide +kernel
theorem dX3_bestAddition_40 : decode cX3_bestAddition 40 = .ok (.aload_n 1, 1) := by decide +kernel
theorem dX3_bestAddition_41 : decode cX3_bestAddition 41 = .ok (.getfield 146, 3) := by decide +kernel
theorem dX3_bestAddition_44 : decode cX3_bestAddition 44 = .ok (.if_icmp .eq 6, 3) := by decide +kernel
theorem dX3_bestAddition_47 : decode cX3_bestAddition 47 = .ok (.goto 91, 3) := by decide +kernel
theorem dX3_bestAddition_50 : decode cX3_bestAddition 50 = .ok (.aload_n 0, 1) := by decide +kernel
theorem dX3_bestAddition_51 : decode cX3_bestAddition 51 = .ok (.aload 6, 2) := by decide +kernel
theorem dX3_bestAddition_53 : decode cX3_bestAddition 53 = .ok (.aload_n 1, 1) := by decide +kernel
theorem dX3_bestAddition_54 : decode cX3_bestAddition 54 = .ok (.aload_n 1, 1) := by decide +kernel
theorem dX3_bestAddition_55 : decode cX3_bestAddition 55 = .ok (.getfield 142, 3) := by decide +kernel
theorem dX3_bestAddition_58 : decode cX3_bestAddition 58 = .ok (.invokevirtual 256, 3) := by decide +kernel
theorem dX3_bestAddition_61 : decode cX3_bestAddition 61 = .ok (.istore 7, 2) := by decide +kernel
theorem dX3_bestAddition_63 : decode cX3_bestAddition 63 = .ok (.aload 6, 2) := by decide +kernel
theorem dX3_bestAddition_65 : decode cX3_bestAddition 65 = .ok (.getfield 73, 3) := by decide +kernel
theorem dX3_bestAddition_68 : decode cX3_bestAddition 68 = .ok (.iload 7, 2) := by decide +kernel
theorem dX3_bestAddition_70 : decode cX3_bestAddition 70 = .ok (.isub, 1) := by decide +kernel
theorem dX3_bestAddition_71 : decode cX3_bestAddition 71 = .ok (.iload_n 2, 1) := by decide +kernel
theorem dX3_bestAddition_72 : decode cX3_bestAddition 72 = .ok (.if_icmp .le 6, 3) := by decide +kernel
theorem dX3_bestAddition_75 : decode cX3_bestAddition 75 = .ok (.goto 63, 3) := by decide +kernel
theorem dX3_bestAddition_78 : decode cX3_bestAddition 78 = .ok (.iload_n 3, 1) := by decide +kernel
theorem dX3_bestAddition_79 : decode cX3_bestAddition 79 = .ok (.iconst (-1), 1) := by decide +kernel
theorem dX3_bestAddition_80 : decode cX3_bestAddition 80 = .ok (.if_icmp .eq 31, 3) := by decide +kernel
theorem dX3_bestAddition_83 : decode cX3_bestAddition 83 = .ok (.iload 7, 2) := by decide +kernel
theorem dX3_bestAddition_85 : decode cX3_bestAddition 85 = .ok (.iload 4, 2) := by decide +kernel
theorem dX3_bestAddition_87 : decode cX3_bestAddition 87 = .ok (.if_icmp .ne 24, 3) := by decide +kernel
theorem dX3_bestAddition_90 : decode cX3_bestAddition 90 = .ok (.aload 6, 2) := by decide +kernel
theorem dX3_bestAddition_92 : decode cX3_bestAddition 92 = .ok (.getfield 67, 3) := by decide +kernel
theorem dX3_bestAddition_95 : decode cX3_bestAddition 95 = .ok (.aload_n 0, 1) := by decide +kernel
theorem dX3_bestAddition_96 : decode cX3_bestAddition 96 = .ok (.getfield 36, 3) := by decide +kernel
theorem dX3_bestAddition_99 : decode cX3_bestAddition 99 = .ok (.iload_n 3, 1) := by decide +kernel
theorem dX3_bestAddition_100 : decode cX3_bestAddition 100 = .ok (.aaload, 1) := by decide +kernel
theorem dX3_bestAddition_101 : decode cX3_bestAddition 101 = .ok (.getfield 67, 3) := by decide +kernel
theorem dX3_bestAddition_104 : decode cX3_bestAddition 104 = .ok (.if_icmp .ge 7, 3) := by decide +kernel
theorem dX3_bestAddition_107 : decode cX3_bestAddition 107 = .ok (.iconst 1, 1) := by decide +kernel
theorem dX3_bestAddition_108 : decode cX3_bestAddition 108 = .ok (.goto 4, 3) := by decide +kernel
theorem dX3_bestAddition_111 : decode cX3_bestAddition 111 = .ok (.iconst 0, 1) := by decide +kernel
theorem dX3_bestAddition_112 : decode cX3_bestAddition 112 = .ok (.istore 8, 2) := by decide +kernel
theorem dX3_bestAddition_114 : decode cX3_bestAddition 114 = .ok (.iload_n 3, 1) := by decide +kernel
theorem dX3_bestAddition_115 : decode cX3_bestAddition 115 = .ok (.iconst (-1), 1) := by decide +kernel
theorem dX3_bestAddition_116 : decode cX3_bestAddition 116 = .ok (.if_icmp .eq 15, 3) := by decide +kernel
theorem dX3_bestAddition_119 : decode cX3_bestAddition 119 = .ok (.iload 7, 2) := by decide +kernel
theorem dX3_bestAddition_121 : decode cX3_bestAddition 121 = .ok (.iload 4, 2) := by decide +kernel
theorem dX3_bestAddition_123 : decode cX3_bestAddition 123 = .ok (.if_icmp .gt 8, 3) := by decide +kernel
theorem dX3_bestAddition_126 : decode cX3_bestAddition 126 = .ok (.iload 8, 2) := by decide +kernel
theorem dX3_bestAddition_128 : decode cX3_bestAddition 128 = .ok (.ifCond .eq 10, 3) := by decide +kernel
theorem dX3_bestAddition_131 : decode cX3_bestAddition 131 = .ok (.iload 5, 2) := by decide +kernel
theorem dX3_bestAddition_133 : decode cX3_bestAddition 133 = .ok (.istore_n 3, 1) := by decide +kernel
theorem dX3_bestAddition_134 : decode cX3_bestAddition 134 = .ok (.iload 7, 2) := by decide +kernel
theorem dX3_bestAddition_136 : decode cX3_bestAddition 136 = .ok (.istore 4, 2) := by decide +kernel
theorem dX3_bestAddition_138 : decode cX3_bestAddition 138 = .ok (.iinc 5 1, 3) := by decide +kernel
theorem dX3_bestAddition_141 : decode cX3_bestAddition 141 = .ok (.goto (-133), 3) := by decide +kernel
theorem dX3_bestAddition_144 : decode cX3_bestAddition 144 = .ok (.iload_n 3, 1) := by decide +kernel
theorem dX3_bestAddition_145 : decode cX3_bestAddition 145 = .ok (.ireturn, 1) := by decide +kernel
theorem dX3_undoWavesBehind_0 : decode cX3_undoWavesBehind 0 = .ok (.iconst 0, 1) := by decide +kernel
theorem dX3_undoWavesBehind_1 : decode cX3_undoWavesBehind 1 = .ok (.istore_n 2, 1) := by decide +kernel
theorem dX3_undoWavesBehind_2 : decode cX3_undoWavesBehind 2 = .ok (.iload_n 2, 1) := by decide +kernel
theorem dX3_undoWavesBehind_3 : decode cX3_undoWavesBehind 3 = .ok (.aload_n 0, 1) := by decide +kernel
theorem dX3_undoWavesBehind_4 : decode cX3_undoWavesBehind 4 = .ok (.getfield 57, 3) := by decide +kernel
theorem dX3_undoWavesBehind_7 : decode cX3_undoWavesBehind 7 = .ok (.if_icmp .ge 32, 3) := by decide +kernel
theorem dX3_undoWavesBehind_10 : decode cX3_undoWavesBehind 10 = .ok (.aload_n 0, 1) := by decide +kernel
theorem dX3_undoWavesBehind_11 : decode cX3_undoWavesBehind 11 = .ok (.getfield 36, 3) := by decide +kernel
theorem dX3_undoWavesBehind_14 : decode cX3_undoWavesBehind 14 = .ok (.iload_n 2, 1) := by decide +kernel
theorem dX3_undoWavesBehind_15 : decode cX3_undoWavesBehind 15 = .ok (.aaload, 1) := by decide +kernel
theorem dX3_undoWavesBehind_16 : decode cX3_undoWavesBehind 16 = .ok (.getfield 128, 3) := by decide +kernel
theorem dX3_undoWavesBehind_19 : decode cX3_undoWavesBehind 19 = .ok (.iload_n 1, 1) := by decide +kernel
theorem dX3_undoWavesBehind_20 : decode cX3_undoWavesBehind 20 = .ok (.if_icmp .le 13, 3) := by decide +kernel
theorem dX3_undoWavesBehind_23 : decode cX3_undoWavesBehind 23 = .ok (.aload_n 0, 1) := by decide +kernel
theorem dX3_undoWavesBehind_24 : decode cX3_undoWavesBehind 24 = .ok (.getfield 36, 3) := by decide +kernel
theorem dX3_undoWavesBehind_27 : decode cX3_undoWavesBehind 27 = .ok (.iload_n 2, 1) := by decide +kernel
theorem dX3_undoWavesBehind_28 : decode cX3_undoWavesBehind 28 = .ok (.aaload, 1) := by decide +kernel
theorem dX3_undoWavesBehind_29 : decode cX3_undoWavesBehind 29 = .ok (.iconst 0, 1) := by decide +kernel
theorem dX3_undoWavesBehind_30 : decode cX3_undoWavesBehind 30 = .ok (.putfield 128, 3) := by decide +kernel
theorem dX3_undoWavesBehind_33 : decode cX3_undoWavesBehind 33 = .ok (.iinc 2 1, 3) := by decide +kernel
theorem dX3_undoWavesBehind_36 : decode cX3_undoWavesBehind 36 = .ok (.goto (-34), 3) := by decide +kernel
theorem dX3_undoWavesBehind_39 : decode cX3_undoWavesBehind 39 = .ok (.iload_n 1, 1) := by decide +kernel
theorem dX3_undoWavesBehind_40 : decode cX3_undoWavesBehind 40 = .ok (.istore_n 2, 1) := by decide +kernel
theorem dX3_undoWavesBehind_41 : decode cX3_undoWavesBehind 41 = .ok (.iload_n 2, 1) := by decide +kernel
theorem dX3_undoWavesBehind_42 : decode cX3_undoWavesBehind 42 = .ok (.aload_n 0, 1) := by decide +kernel
theorem dX3_undoWavesBehind_43 : decode cX3_undoWavesBehind 43 = .ok (.getfield 112, 3) := by decide +kernel
theorem dX3_undoWavesBehind_46 : decode cX3_undoWavesBehind 46 = .ok (.if_icmp .ge 18, 3) := by decide +kernel
theorem dX3_undoWavesBehind_49 : decode cX3_undoWavesBehind 49 = .ok (.aload_n 0, 1) := by decide +kernel
theorem dX3_undoWavesBehind_50 : decode cX3_undoWavesBehind 50 = .ok (.getfield 43, 3) := by decide +kernel
theorem dX3_undoWavesBehind_53 : decode cX3_undoWavesBehind 53 = .ok (.iload_n 2, 1) := by decide +kernel
theorem dX3_undoWavesBehind_54 : decode cX3_undoWavesBehind 54 = .ok (.aaload, 1) := by decide +kernel
theorem dX3_undoWavesBehind_55 : decode cX3_undoWavesBehind 55 = .ok (.invokevirtual 207, 3) := by decide +kernel
theorem dX3_undoWavesBehind_58 : decode cX3_undoWavesBehind 58 = .ok (.iinc 2 1, 3) := by decide +kernel
theorem dX3_undoWavesBehind_61 : decode cX3_undoWavesBehind 61 = .ok (.goto (-20), 3) := by decide +kernel
theorem dX3_undoWavesBehind_64 : decode cX3_undoWavesBehind 64 = .ok (.aload_n 0, 1) := by decide +kernel
theorem dX3_undoWavesBehind_65 : decode cX3_undoWavesBehind 65 = .ok (.iload_n 1, 1) := by decide +kernel
theorem dX3_undoWavesBehind_66 : decode cX3_undoWavesBehind 66 = .ok (.putfield 112, 3) := by decide +kernel
theorem dX3_undoWavesBehind_69 : decode cX3_undoWavesBehind 69 = .ok (.return_, 1) := by decide +kernel
theorem dX3_greatestSaving_0 : decode cX3_greatestSaving 0 = .ok (.iconst 0, 1) := by decide +kernel
theorem dX3_greatestSaving_1 : decode cX3_greatestSaving 1 = .ok (.istore 4, 2) := by decide +kernel
theorem dX3_greatestSaving_3 : decode cX3_greatestSaving 3 = .ok (.iconst 0, 1) := by decide +kernel
theorem dX3_greatestSaving_4 : decode cX3_greatestSaving 4 = .ok (.istore 5, 2) := by decide +kernel
theorem dX3_greatestSaving_6 : decode cX3_greatestSaving 6 = .ok (.iload 5, 2) := by decide +kernel
theorem dX3_greatestSaving_8 : decode cX3_greatestSaving 8 = .ok (.iload_n 3, 1) := by decide +kernel
theorem dX3_greatestSaving_9 : decode cX3_greatestSaving 9 = .ok (.if_icmp .ge 41, 3) := by decide +kernel
theorem dX3_greatestSaving_12 : decode cX3_greatestSaving 12 = .ok (.iload 5, 2) := by decide +kernel
theorem dX3_greatestSaving_14 : decode cX3_greatestSaving 14 = .ok (.aload_n 2, 1) := by decide +kernel
theorem dX3_greatestSaving_15 : decode cX3_greatestSaving 15 = .ok (.getfield 142, 3) := by decide +kernel
theorem dX3_greatestSaving_18 : decode cX3_greatestSaving 18 = .ok (.if_icmp .ge 32, 3) := by decide +kernel
theorem dX3_greatestSaving_21 : decode cX3_greatestSaving 21 = .ok (.iload 4, 2) := by decide +kernel
theorem dX3_greatestSaving_23 : decode cX3_greatestSaving 23 = .ok (.aload_n 1, 1) := by decide +kernel
theorem dX3_greatestSaving_24 : decode cX3_greatestSaving 24 = .ok (.aload_n 0, 1) := by decide +kernel
theorem dX3_greatestSaving_25 : decode cX3_greatestSaving 25 = .ok (.getfield 36, 3) := by decide +kernel
theorem dX3_greatestSaving_28 : decode cX3_greatestSaving 28 = .ok (.aload_n 2, 1) := by decide +kernel
theorem dX3_greatestSaving_29 : decode cX3_greatestSaving 29 = .ok (.getfield 164, 3) := by decide +kernel
theorem dX3_greatestSaving_32 : decode cX3_greatestSaving 32 = .ok (.iload 5, 2) := by decide +kernel
theorem dX3_greatestSaving_34 : decode cX3_greatestSaving 34 = .ok (.iaload, 1) := by decide +kernel
theorem dX3_greatestSaving_35 : decode cX3_greatestSaving 35 = .ok (.aaload, 1) := by decide +kernel
theorem dX3_greatestSaving_36 : decode cX3_greatestSaving 36 = .ok (.invokevirtual 267, 3) := by decide +kernel
theorem dX3_greatestSaving_39 : decode cX3_greatestSaving 39 = .ok (.invokestatic 16, 3) := by decide +kernel
theorem dX3_greatestSaving_42 : decode cX3_greatestSaving 42 = .ok (.istore 4, 2) := by decide +kernel
theorem dX3_greatestSaving_44 : decode cX3_greatestSaving 44 = .ok (.iinc 5 1, 3) := by decide +kernel
theorem dX3_greatestSaving_47 : decode cX3_greatestSaving 47 = .ok (.goto (-41), 3) := by decide +kernel
theorem dX3_greatestSaving_50 : decode cX3_greatestSaving 50 = .ok (.iload 4, 2) := by decide +kernel
theorem dX3_greatestSaving_52 : decode cX3_greatestSaving 52 = .ok (.ireturn, 1) := by decide +kernel
theorem dX3_savedOf_0 : decode cX3_savedOf 0 = .ok (.iconst 0, 1) := by decide +kernel
theorem dX3_savedOf_1 : decode cX3_savedOf 1 = .ok (.istore_n 2, 1) := by decide +kernel
theorem dX3_savedOf_2 : decode cX3_savedOf 2 = .ok (.iconst 1, 1) := by decide +kernel
theorem dX3_savedOf_3 : decode cX3_savedOf 3 = .ok (.istore_n 3, 1) := by decide +kernel
theorem dX3_savedOf_4 : decode cX3_savedOf 4 = .ok (.iload_n 3, 1) := by decide +kernel
theorem dX3_savedOf_5 : decode cX3_savedOf 5 = .ok (.aload_n 1, 1) := by decide +kernel
theorem dX3_savedOf_6 : decode cX3_savedOf 6 = .ok (.getfield 142, 3) := by decide +kernel
theorem dX3_savedOf_9 : decode cX3_savedOf 9 = .ok (.if_icmp .ge 29, 3) := by decide +kernel
theorem dX3_savedOf_12 : decode cX3_savedOf 12 = .ok (.iload_n 2, 1) := by decide +kernel
theorem dX3_savedOf_13 : decode cX3_savedOf 13 = .ok (.aload_n 0, 1) := by decide +kernel
theorem dX3_savedOf_14 : decode cX3_savedOf 14 = .ok (.aload_n 0, 1) := by decide +kernel
theorem dX3_savedOf_15 : decode cX3_savedOf 15 = .ok (.getfield 36, 3) := by decide +kernel
theorem dX3_savedOf_18 : decode cX3_savedOf 18 = .ok (.aload_n 1, 1) := by decide +kernel
theorem dX3_savedOf_19 : decode cX3_savedOf 19 = .ok (.getfield 164, 3) := by decide +kernel
theorem dX3_savedOf_22 : decode cX3_savedOf 22 = .ok (.iload_n 3, 1) := by decide +kernel
theorem dX3_savedOf_23 : decode cX3_savedOf 23 = .ok (.iaload, 1) := by decide +kernel
theorem dX3_savedOf_24 : decode cX3_savedOf 24 = .ok (.aaload, 1) := by decide +kernel
theorem dX3_savedOf_25 : decode cX3_savedOf 25 = .ok (.aload_n 1, 1) := by decide +kernel
theorem dX3_savedOf_26 : decode cX3_savedOf 26 = .ok (.iload_n 3, 1) := by decide +kernel
theorem dX3_savedOf_27 : decode cX3_savedOf 27 = .ok (.invokevirtual 256, 3) := by decide +kernel
theorem dX3_savedOf_30 : decode cX3_savedOf 30 = .ok (.iadd, 1) := by decide +kernel
theorem dX3_savedOf_31 : decode cX3_savedOf 31 = .ok (.istore_n 2, 1) := by decide +kernel
theorem dX3_savedOf_32 : decode cX3_savedOf 32 = .ok (.iinc 3 1, 3) := by decide +kernel
theorem dX3_savedOf_35 : decode cX3_savedOf 35 = .ok (.goto (-31), 3) := by decide +kernel
theorem dX3_savedOf_38 : decode cX3_savedOf 38 = .ok (.iload_n 2, 1) := by decide +kernel
theorem dX3_savedOf_39 : decode cX3_savedOf 39 = .ok (.ireturn, 1) := by decide +kernel
theorem dX3_savedBehind_0 : decode cX3_savedBehind 0 = .ok (.iconst 0, 1) := by decide +kernel
theorem dX3_savedBehind_1 : decode cX3_savedBehind 1 = .ok (.istore_n 2, 1) := by decide +kernel
theorem dX3_savedBehind_2 : decode cX3_savedBehind 2 = .ok (.iload_n 1, 1) := by decide +kernel
theorem dX3_savedBehind_3 : decode cX3_savedBehind 3 = .ok (.istore_n 3, 1) := by decide +kernel
theorem dX3_savedBehind_4 : decode cX3_savedBehind 4 = .ok (.iload_n 3, 1) := by decide +kernel
theorem dX3_savedBehind_5 : decode cX3_savedBehind 5 = .ok (.aload_n 0, 1) := by decide +kernel
theorem dX3_savedBehind_6 : decode cX3_savedBehind 6 = .ok (.getfield 112, 3) := by decide +kernel
theorem dX3_savedBehind_9 : decode cX3_savedBehind 9 = .ok (.if_icmp .ge 22, 3) := by decide +kernel
theorem dX3_savedBehind_12 : decode cX3_savedBehind 12 = .ok (.iload_n 2, 1) := by decide +kernel
theorem dX3_savedBehind_13 : decode cX3_savedBehind 13 = .ok (.aload_n 0, 1) := by decide +kernel
theorem dX3_savedBehind_14 : decode cX3_savedBehind 14 = .ok (.aload_n 0, 1) := by decide +kernel
theorem dX3_savedBehind_15 : decode cX3_savedBehind 15 = .ok (.getfield 43, 3) := by decide +kernel
theorem dX3_savedBehind_18 : decode cX3_savedBehind 18 = .ok (.iload_n 3, 1) := by decide +kernel
theorem dX3_savedBehind_19 : decode cX3_savedBehind 19 = .ok (.aaload, 1) := by decide +kernel
theorem dX3_savedBehind_20 : decode cX3_savedBehind 20 = .ok (.invokevirtual 139, 3) := by decide +kernel
theorem dX3_savedBehind_23 : decode cX3_savedBehind 23 = .ok (.iadd, 1) := by decide +kernel
theorem dX3_savedBehind_24 : decode cX3_savedBehind 24 = .ok (.istore_n 2, 1) := by decide +kernel
theorem dX3_savedBehind_25 : decode cX3_savedBehind 25 = .ok (.iinc 3 1, 3) := by decide +kernel
theorem dX3_savedBehind_28 : decode cX3_savedBehind 28 = .ok (.goto (-24), 3) := by decide +kernel
theorem dX3_savedBehind_31 : decode cX3_savedBehind 31 = .ok (.iload_n 2, 1) := by decide +kernel
theorem dX3_savedBehind_32 : decode cX3_savedBehind 32 = .ok (.ireturn, 1) := by decide +kernel
theorem dX3_secondsOf_0 : decode cX3_secondsOf 0 = .ok (.iconst 0, 1) := by decide +kernel
theorem dX3_secondsOf_1 : decode cX3_secondsOf 1 = .ok (.istore_n 2, 1) := by decide +kernel
theorem dX3_secondsOf_2 : decode cX3_secondsOf 2 = .ok (.iconst 0, 1) := by decide +kernel
theorem dX3_secondsOf_3 : decode cX3_secondsOf 3 = .ok (.istore_n 3, 1) := by decide +kernel
theorem dX3_secondsOf_4 : decode cX3_secondsOf 4 = .ok (.iload_n 3, 1) := by decide +kernel
theorem dX3_secondsOf_5 : decode cX3_secondsOf 5 = .ok (.aload_n 1, 1) := by decide +kernel
theorem dX3_secondsOf_6 : decode cX3_secondsOf 6 = .ok (.getfield 142, 3) := by decide +kernel
theorem dX3_secondsOf_9 : decode cX3_secondsOf 9 = .ok (.if_icmp .ge 26, 3) := by decide +kernel
theorem dX3_secondsOf_12 : decode cX3_secondsOf 12 = .ok (.iload_n 2, 1) := by decide +kernel
theorem dX3_secondsOf_13 : decode cX3_secondsOf 13 = .ok (.aload_n 0, 1) := by decide +kernel
theorem dX3_secondsOf_14 : decode cX3_secondsOf 14 = .ok (.getfield 36, 3) := by decide +kernel
theorem dX3_secondsOf_17 : decode cX3_secondsOf 17 = .ok (.aload_n 1, 1) := by decide +kernel
theorem dX3_secondsOf_18 : decode cX3_secondsOf 18 = .ok (.getfield 164, 3) := by decide +kernel
theorem dX3_secondsOf_21 : decode cX3_secondsOf 21 = .ok (.iload_n 3, 1) := by decide +kernel
theorem dX3_secondsOf_22 : decode cX3_secondsOf 22 = .ok (.iaload, 1) := by decide +kernel
theorem dX3_secondsOf_23 : decode cX3_secondsOf 23 = .ok (.aaload, 1) := by decide +kernel
theorem dX3_secondsOf_24 : decode cX3_secondsOf 24 = .ok (.getfield 73, 3) := by decide +kernel
theorem dX3_secondsOf_27 : decode cX3_secondsOf 27 = .ok (.iadd, 1) := by decide +kernel
theorem dX3_secondsOf_28 : decode cX3_secondsOf 28 = .ok (.istore_n 2, 1) := by decide +kernel
theorem dX3_secondsOf_29 : decode cX3_secondsOf 29 = .ok (.iinc 3 1, 3) := by decide +kernel
theorem dX3_secondsOf_32 : decode cX3_secondsOf 32 = .ok (.goto (-28), 3) := by decide +kernel
theorem dX3_secondsOf_35 : decode cX3_secondsOf 35 = .ok (.iload_n 2, 1) := by decide +kernel
theorem dX3_secondsOf_36 : decode cX3_secondsOf 36 = .ok (.aload_n 0, 1) := by decide +kernel
theorem dX3_secondsOf_37 : decode cX3_secondsOf 37 = .ok (.aload_n 1, 1) := by decide +kernel
theorem dX3_secondsOf_38 : decode cX3_secondsOf 38 = .ok (.invokevirtual 139, 3) := by decide +kernel
theorem dX3_secondsOf_41 : decode cX3_secondsOf 41 = .ok (.isub, 1) := by decide +kernel
theorem dX3_secondsOf_42 : decode cX3_secondsOf 42 = .ok (.ireturn, 1) := by decide +kernel
theorem dX3_dueOf_0 : decode cX3_dueOf 0 = .ok (.ldc 52, 2) := by decide +kernel
theorem dX3_dueOf_2 : decode cX3_dueOf 2 = .ok (.istore_n 2, 1) := by decide +kernel
theorem dX3_dueOf_3 : decode cX3_dueOf 3 = .ok (.iconst 0, 1) := by decide +kernel
theorem dX3_dueOf_4 : decode cX3_dueOf 4 = .ok (.istore_n 3, 1) := by decide +kernel
theorem dX3_dueOf_5 : decode cX3_dueOf 5 = .ok (.iload_n 3, 1) := by decide +kernel
theorem dX3_dueOf_6 : decode cX3_dueOf 6 = .ok (.aload_n 1, 1) := by decide +kernel
theorem dX3_dueOf_7 : decode cX3_dueOf 7 = .ok (.getfield 142, 3) := by decide +kernel
theorem dX3_dueOf_10 : decode cX3_dueOf 10 = .ok (.if_icmp .ge 28, 3) := by decide +kernel
theorem dX3_dueOf_13 : decode cX3_dueOf 13 = .ok (.iload_n 2, 1) := by decide +kernel
theorem dX3_dueOf_14 : decode cX3_dueOf 14 = .ok (.aload_n 0, 1) := by decide +kernel
theorem dX3_dueOf_15 : decode cX3_dueOf 15 = .ok (.getfield 36, 3) := by decide +kernel
theorem dX3_dueOf_18 : decode cX3_dueOf 18 = .ok (.aload_n 1, 1) := by decide +kernel
theorem dX3_dueOf_19 : decode cX3_dueOf 19 = .ok (.getfield 164, 3) := by decide +kernel
theorem dX3_dueOf_22 : decode cX3_dueOf 22 = .ok (.iload_n 3, 1) := by decide +kernel
theorem dX3_dueOf_23 : decode cX3_dueOf 23 = .ok (.iaload, 1) := by decide +kernel
theorem dX3_dueOf_24 : decode cX3_dueOf 24 = .ok (.aaload, 1) := by decide +kernel
theorem dX3_dueOf_25 : decode cX3_dueOf 25 = .ok (.getfield 67, 3) := by decide +kernel
theorem dX3_dueOf_28 : decode cX3_dueOf 28 = .ok (.invokestatic 10, 3) := by decide +kernel
theorem dX3_dueOf_31 : decode cX3_dueOf 31 = .ok (.istore_n 2, 1) := by decide +kernel
theorem dX3_dueOf_32 : decode cX3_dueOf 32 = .ok (.iinc 3 1, 3) := by decide +kernel
theorem dX3_dueOf_35 : decode cX3_dueOf 35 = .ok (.goto (-30), 3) := by decide +kernel
theorem dX3_dueOf_38 : decode cX3_dueOf 38 = .ok (.iload_n 2, 1) := by decide +kernel
theorem dX3_dueOf_39 : decode cX3_dueOf 39 = .ok (.ireturn, 1) := by decide +kernel
theorem dX3_finishedOf_0 : decode cX3_finishedOf 0 = .ok (.iconst 0, 1) := by decide +kernel
theorem dX3_finishedOf_1 : decode cX3_finishedOf 1 = .ok (.istore_n 2, 1) := by decide +kernel
theorem dX3_finishedOf_2 : decode cX3_finishedOf 2 = .ok (.iconst 0, 1) := by decide +kernel
theorem dX3_finishedOf_3 : decode cX3_finishedOf 3 = .ok (.istore_n 3, 1) := by decide +kernel
theorem dX3_finishedOf_4 : decode cX3_finishedOf 4 = .ok (.iload_n 3, 1) := by decide +kernel
theorem dX3_finishedOf_5 : decode cX3_finishedOf 5 = .ok (.aload_n 1, 1) := by decide +kernel
theorem dX3_finishedOf_6 : decode cX3_finishedOf 6 = .ok (.getfield 142, 3) := by decide +kernel
theorem dX3_finishedOf_9 : decode cX3_finishedOf 9 = .ok (.if_icmp .ge 29, 3) := by decide +kernel
theorem dX3_finishedOf_12 : decode cX3_finishedOf 12 = .ok (.aload_n 0, 1) := by decide +kernel
theorem dX3_finishedOf_13 : decode cX3_finishedOf 13 = .ok (.getfield 36, 3) := by decide +kernel
theorem dX3_finishedOf_16 : decode cX3_finishedOf 16 = .ok (.aload_n 1, 1) := by decide +kernel
theorem dX3_finishedOf_17 : decode cX3_finishedOf 17 = .ok (.getfield 164, 3) := by decide +kernel
theorem dX3_finishedOf_20 : decode cX3_finishedOf 20 = .ok (.iload_n 3, 1) := by decide +kernel
theorem dX3_finishedOf_21 : decode cX3_finishedOf 21 = .ok (.iaload, 1) := by decide +kernel
theorem dX3_finishedOf_22 : decode cX3_finishedOf 22 = .ok (.aaload, 1) := by decide +kernel
theorem dX3_finishedOf_23 : decode cX3_finishedOf 23 = .ok (.getfield 188, 3) := by decide +kernel
theorem dX3_finishedOf_26 : decode cX3_finishedOf 26 = .ok (.ifCond .eq 6, 3) := by decide +kernel
theorem dX3_finishedOf_29 : decode cX3_finishedOf 29 = .ok (.iinc 2 1, 3) := by decide +kernel
theorem dX3_finishedOf_32 : decode cX3_finishedOf 32 = .ok (.iinc 3 1, 3) := by decide +kernel
theorem dX3_finishedOf_35 : decode cX3_finishedOf 35 = .ok (.goto (-31), 3) := by decide +kernel
theorem dX3_finishedOf_38 : decode cX3_finishedOf 38 = .ok (.iload_n 2, 1) := by decide +kernel
theorem dX3_finishedOf_39 : decode cX3_finishedOf 39 = .ok (.ireturn, 1) := by decide +kernel
theorem dX3_wantedOf_0 : decode cX3_wantedOf 0 = .ok (.iconst 0, 1) := by decide +kernel
theorem dX3_wantedOf_1 : decode cX3_wantedOf 1 = .ok (.istore_n 3, 1) := by decide +kernel
theorem dX3_wantedOf_2 : decode cX3_wantedOf 2 = .ok (.iconst 0, 1) := by decide +kernel
theorem dX3_wantedOf_3 : decode cX3_wantedOf 3 = .ok (.istore 4, 2) := by decide +kernel
theorem dX3_wantedOf_5 : decode cX3_wantedOf 5 = .ok (.iload 4, 2) := by decide +kernel
theorem dX3_wantedOf_7 : decode cX3_wantedOf 7 = .ok (.aload_n 1, 1) := by decide +kernel
theorem dX3_wantedOf_8 : decode cX3_wantedOf 8 = .ok (.getfield 142, 3) := by decide +kernel
theorem dX3_wantedOf_11 : decode cX3_wantedOf 11 = .ok (.if_icmp .ge 41, 3) := by decide +kernel
theorem dX3_wantedOf_14 : decode cX3_wantedOf 14 = .ok (.aload_n 0, 1) := by decide +kernel
theorem dX3_wantedOf_15 : decode cX3_wantedOf 15 = .ok (.getfield 36, 3) := by decide +kernel
theorem dX3_wantedOf_18 : decode cX3_wantedOf 18 = .ok (.aload_n 1, 1) := by decide +kernel
theorem dX3_wantedOf_19 : decode cX3_wantedOf 19 = .ok (.getfield 164, 3) := by decide +kernel
theorem dX3_wantedOf_22 : decode cX3_wantedOf 22 = .ok (.iload 4, 2) := by decide +kernel
theorem dX3_wantedOf_24 : decode cX3_wantedOf 24 = .ok (.iaload, 1) := by decide +kernel
theorem dX3_wantedOf_25 : decode cX3_wantedOf 25 = .ok (.aaload, 1) := by decide +kernel
theorem dX3_wantedOf_26 : decode cX3_wantedOf 26 = .ok (.astore 5, 2) := by decide +kernel
theorem dX3_wantedOf_28 : decode cX3_wantedOf 28 = .ok (.aload 5, 2) := by decide +kernel
theorem dX3_wantedOf_30 : decode cX3_wantedOf 30 = .ok (.getfield 188, 3) := by decide +kernel
theorem dX3_wantedOf_33 : decode cX3_wantedOf 33 = .ok (.ifCond .ne 13, 3) := by decide +kernel
theorem dX3_wantedOf_36 : decode cX3_wantedOf 36 = .ok (.iload_n 3, 1) := by decide +kernel
theorem dX3_wantedOf_37 : decode cX3_wantedOf 37 = .ok (.aload 5, 2) := by decide +kernel
theorem dX3_wantedOf_39 : decode cX3_wantedOf 39 = .ok (.getfield 84, 3) := by decide +kernel
theorem dX3_wantedOf_42 : decode cX3_wantedOf 42 = .ok (.iload_n 2, 1) := by decide +kernel
theorem dX3_wantedOf_43 : decode cX3_wantedOf 43 = .ok (.iaload, 1) := by decide +kernel
theorem dX3_wantedOf_44 : decode cX3_wantedOf 44 = .ok (.iadd, 1) := by decide +kernel
theorem dX3_wantedOf_45 : decode cX3_wantedOf 45 = .ok (.istore_n 3, 1) := by decide +kernel
theorem dX3_wantedOf_46 : decode cX3_wantedOf 46 = .ok (.iinc 4 1, 3) := by decide +kernel
theorem dX3_wantedOf_49 : decode cX3_wantedOf 49 = .ok (.goto (-44), 3) := by decide +kernel
theorem dX3_wantedOf_52 : decode cX3_wantedOf 52 = .ok (.iload_n 3, 1) := by decide +kernel
theorem dX3_wantedOf_53 : decode cX3_wantedOf 53 = .ok (.ireturn, 1) := by decide +kernel
theorem dX3_lackOf_0 : decode cX3_lackOf 0 = .ok (.aload_n 0, 1) := by decide +kernel
theorem dX3_lackOf_1 : decode cX3_lackOf 1 = .ok (.getfield 30, 3) := by decide +kernel
theorem dX3_lackOf_4 : decode cX3_lackOf 4 = .ok (.iload_n 2, 1) := by decide +kernel
theorem dX3_lackOf_5 : decode cX3_lackOf 5 = .ok (.iaload, 1) := by decide +kernel
theorem dX3_lackOf_6 : decode cX3_lackOf 6 = .ok (.istore_n 3, 1) := by decide +kernel
theorem dX3_lackOf_7 : decode cX3_lackOf 7 = .ok (.iconst 0, 1) := by decide +kernel
theorem dX3_lackOf_8 : decode cX3_lackOf 8 = .ok (.istore 4, 2) := by decide +kernel
theorem dX3_lackOf_10 : decode cX3_lackOf 10 = .ok (.iload 4, 2) := by decide +kernel
theorem dX3_lackOf_12 : decode cX3_lackOf 12 = .ok (.aload_n 0, 1) := by decide +kernel
theorem dX3_lackOf_13 : decode cX3_lackOf 13 = .ok (.getfield 112, 3) := by decide +kernel
theorem dX3_lackOf_16 : decode cX3_lackOf 16 = .ok (.if_icmp .ge 45, 3) := by decide +kernel
theorem dX3_lackOf_19 : decode cX3_lackOf 19 = .ok (.iload 4, 2) := by decide +kernel
theorem dX3_lackOf_21 : decode cX3_lackOf 21 = .ok (.iload_n 1, 1) := by decide +kernel
theorem dX3_lackOf_22 : decode cX3_lackOf 22 = .ok (.iconst 1, 1) := by decide +kernel
theorem dX3_lackOf_23 : decode cX3_lackOf 23 = .ok (.isub, 1) := by decide +kernel
theorem dX3_lackOf_24 : decode cX3_lackOf 24 = .ok (.if_icmp .eq 31, 3) := by decide +kernel
theorem dX3_lackOf_27 : decode cX3_lackOf 27 = .ok (.aload_n 0, 1) := by decide +kernel
theorem dX3_lackOf_28 : decode cX3_lackOf 28 = .ok (.getfield 43, 3) := by decide +kernel
theorem dX3_lackOf_31 : decode cX3_lackOf 31 = .ok (.iload 4, 2) := by decide +kernel
theorem dX3_lackOf_33 : decode cX3_lackOf 33 = .ok (.aaload, 1) := by decide +kernel
theorem dX3_lackOf_34 : decode cX3_lackOf 34 = .ok (.getfield 147, 3) := by decide +kernel
theorem dX3_lackOf_37 : decode cX3_lackOf 37 = .ok (.ifCond .eq 18, 3) := by decide +kernel
theorem dX3_lackOf_40 : decode cX3_lackOf 40 = .ok (.iload_n 3, 1) := by decide +kernel
theorem dX3_lackOf_41 : decode cX3_lackOf 41 = .ok (.aload_n 0, 1) := by decide +kernel
theorem dX3_lackOf_42 : decode cX3_lackOf 42 = .ok (.aload_n 0, 1) := by decide +kernel
theorem dX3_lackOf_43 : decode cX3_lackOf 43 = .ok (.getfield 43, 3) := by decide +kernel
theorem dX3_lackOf_46 : decode cX3_lackOf 46 = .ok (.iload 4, 2) := by decide +kernel
theorem dX3_lackOf_48 : decode cX3_lackOf 48 = .ok (.aaload, 1) := by decide +kernel
theorem dX3_lackOf_49 : decode cX3_lackOf 49 = .ok (.iload_n 2, 1) := by decide +kernel
theorem dX3_lackOf_50 : decode cX3_lackOf 50 = .ok (.invokevirtual 271, 3) := by decide +kernel
theorem dX3_lackOf_53 : decode cX3_lackOf 53 = .ok (.isub, 1) := by decide +kernel
theorem dX3_lackOf_54 : decode cX3_lackOf 54 = .ok (.istore_n 3, 1) := by decide +kernel
theorem dX3_lackOf_55 : decode cX3_lackOf 55 = .ok (.iinc 4 1, 3) := by decide +kernel
theorem dX3_lackOf_58 : decode cX3_lackOf 58 = .ok (.goto (-48), 3) := by decide +kernel
theorem dX3_lackOf_61 : decode cX3_lackOf 61 = .ok (.iconst 0, 1) := by decide +kernel
theorem dX3_lackOf_62 : decode cX3_lackOf 62 = .ok (.aload_n 0, 1) := by decide +kernel
theorem dX3_lackOf_63 : decode cX3_lackOf 63 = .ok (.aload_n 0, 1) := by decide +kernel
theorem dX3_lackOf_64 : decode cX3_lackOf 64 = .ok (.getfield 43, 3) := by decide +kernel
theorem dX3_lackOf_67 : decode cX3_lackOf 67 = .ok (.iload_n 1, 1) := by decide +kernel
theorem dX3_lackOf_68 : decode cX3_lackOf 68 = .ok (.iconst 1, 1) := by decide +kernel
theorem dX3_lackOf_69 : decode cX3_lackOf 69 = .ok (.isub, 1) := by decide +kernel
theorem dX3_lackOf_70 : decode cX3_lackOf 70 = .ok (.aaload, 1) := by decide +kernel
theorem dX3_lackOf_71 : decode cX3_lackOf 71 = .ok (.iload_n 2, 1) := by decide +kernel
theorem dX3_lackOf_72 : decode cX3_lackOf 72 = .ok (.invokevirtual 271, 3) := by decide +kernel
theorem dX3_lackOf_75 : decode cX3_lackOf 75 = .ok (.iconst 0, 1) := by decide +kernel
theorem dX3_lackOf_76 : decode cX3_lackOf 76 = .ok (.iload_n 3, 1) := by decide +kernel
theorem dX3_lackOf_77 : decode cX3_lackOf 77 = .ok (.invokestatic 16, 3) := by decide +kernel
theorem dX3_lackOf_80 : decode cX3_lackOf 80 = .ok (.isub, 1) := by decide +kernel
theorem dX3_lackOf_81 : decode cX3_lackOf 81 = .ok (.invokestatic 16, 3) := by decide +kernel
theorem dX3_lackOf_84 : decode cX3_lackOf 84 = .ok (.ireturn, 1) := by decide +kernel
theorem dX3_lackedGood_0 : decode cX3_lackedGood 0 = .ok (.iconst 0, 1) := by decide +kernel
theorem dX3_lackedGood_1 : decode cX3_lackedGood 1 = .ok (.istore_n 3, 1) := by decide +kernel
theorem dX3_lackedGood_2 : decode cX3_lackedGood 2 = .ok (.iconst 0, 1) := by decide +kernel
theorem dX3_lackedGood_3 : decode cX3_lackedGood 3 = .ok (.istore 4, 2) := by decide +kernel
theorem dX3_lackedGood_5 : decode cX3_lackedGood 5 = .ok (.iload 4, 2) := by decide +kernel
theorem dX3_lackedGood_7 : decode cX3_lackedGood 7 = .ok (.bipush 10, 2) := by decide +kernel
theorem dX3_lackedGood_9 : decode cX3_lackedGood 9 = .ok (.if_icmp .ge 33, 3) := by decide +kernel
theorem dX3_lackedGood_12 : decode cX3_lackedGood 12 = .ok (.aload_n 0, 1) := by decide +kernel
theorem dX3_lackedGood_13 : decode cX3_lackedGood 13 = .ok (.iload_n 1, 1) := by decide +kernel
theorem dX3_lackedGood_14 : decode cX3_lackedGood 14 = .ok (.iload 4, 2) := by decide +kernel
theorem dX3_lackedGood_16 : decode cX3_lackedGood 16 = .ok (.invokevirtual 173, 3) := by decide +kernel
theorem dX3_lackedGood_19 : decode cX3_lackedGood 19 = .ok (.ifCond .ne 6, 3) := by decide +kernel
theorem dX3_lackedGood_22 : decode cX3_lackedGood 22 = .ok (.goto 14, 3) := by decide +kernel
theorem dX3_lackedGood_25 : decode cX3_lackedGood 25 = .ok (.iload_n 3, 1) := by decide +kernel
theorem dX3_lackedGood_26 : decode cX3_lackedGood 26 = .ok (.iload_n 2, 1) := by decide +kernel
theorem dX3_lackedGood_27 : decode cX3_lackedGood 27 = .ok (.if_icmp .ne 6, 3) := by decide +kernel
theorem dX3_lackedGood_30 : decode cX3_lackedGood 30 = .ok (.iload 4, 2) := by decide +kernel
theorem dX3_lackedGood_32 : decode cX3_lackedGood 32 = .ok (.ireturn, 1) := by decide +kernel
theorem dX3_lackedGood_33 : decode cX3_lackedGood 33 = .ok (.iinc 3 1, 3) := by decide +kernel
theorem dX3_lackedGood_36 : decode cX3_lackedGood 36 = .ok (.iinc 4 1, 3) := by decide +kernel
theorem dX3_lackedGood_39 : decode cX3_lackedGood 39 = .ok (.goto (-34), 3) := by decide +kernel
theorem dX3_lackedGood_42 : decode cX3_lackedGood 42 = .ok (.iconst (-1), 1) := by decide +kernel
theorem dX3_lackedGood_43 : decode cX3_lackedGood 43 = .ok (.ireturn, 1) := by decide +kernel
theorem dX3_takeFromStock_0 : decode cX3_takeFromStock 0 = .ok (.iconst 0, 1) := by decide +kernel
theorem dX3_takeFromStock_1 : decode cX3_takeFromStock 1 = .ok (.istore_n 2, 1) := by decide +kernel
theorem dX3_takeFromStock_2 : decode cX3_takeFromStock 2 = .ok (.iload_n 2, 1) := by decide +kernel
theorem dX3_takeFromStock_3 : decode cX3_takeFromStock 3 = .ok (.bipush 10, 2) := by decide +kernel
theorem dX3_takeFromStock_5 : decode cX3_takeFromStock 5 = .ok (.if_icmp .ge 32, 3) := by decide +kernel
theorem dX3_takeFromStock_8 : decode cX3_takeFromStock 8 = .ok (.aload_n 0, 1) := by decide +kernel
theorem dX3_takeFromStock_9 : decode cX3_takeFromStock 9 = .ok (.getfield 30, 3) := by decide +kernel
theorem dX3_takeFromStock_12 : decode cX3_takeFromStock 12 = .ok (.iload_n 2, 1) := by decide +kernel
theorem dX3_takeFromStock_13 : decode cX3_takeFromStock 13 = .ok (.iconst 0, 1) := by decide +kernel
theorem dX3_takeFromStock_14 : decode cX3_takeFromStock 14 = .ok (.aload_n 0, 1) := by decide +kernel
theorem dX3_takeFromStock_15 : decode cX3_takeFromStock 15 = .ok (.getfield 30, 3) := by decide +kernel
theorem dX3_takeFromStock_18 : decode cX3_takeFromStock 18 = .ok (.iload_n 2, 1) := by decide +kernel
theorem dX3_takeFromStock_19 : decode cX3_takeFromStock 19 = .ok (.iaload, 1) := by decide +kernel
theorem dX3_takeFromStock_20 : decode cX3_takeFromStock 20 = .ok (.aload_n 1, 1) := by decide +kernel
theorem dX3_takeFromStock_21 : decode cX3_takeFromStock 21 = .ok (.getfield 84, 3) := by decide +kernel
theorem dX3_takeFromStock_24 : decode cX3_takeFromStock 24 = .ok (.iload_n 2, 1) := by decide +kernel
theorem dX3_takeFromStock_25 : decode cX3_takeFromStock 25 = .ok (.iaload, 1) := by decide +kernel
theorem dX3_takeFromStock_26 : decode cX3_takeFromStock 26 = .ok (.isub, 1) := by decide +kernel
theorem dX3_takeFromStock_27 : decode cX3_takeFromStock 27 = .ok (.invokestatic 16, 3) := by decide +kernel
theorem dX3_takeFromStock_30 : decode cX3_takeFromStock 30 = .ok (.iastore, 1) := by decide +kernel
theorem dX3_takeFromStock_31 : decode cX3_takeFromStock 31 = .ok (.iinc 2 1, 3) := by decide +kernel
theorem dX3_takeFromStock_34 : decode cX3_takeFromStock 34 = .ok (.goto (-32), 3) := by decide +kernel
theorem dX3_takeFromStock_37 : decode cX3_takeFromStock 37 = .ok (.return_, 1) := by decide +kernel
theorem dX3_wavesWithOrders_0 : decode cX3_wavesWithOrders 0 = .ok (.iconst 0, 1) := by decide +kernel
theorem dX3_wavesWithOrders_1 : decode cX3_wavesWithOrders 1 = .ok (.istore_n 1, 1) := by decide +kernel
theorem dX3_wavesWithOrders_2 : decode cX3_wavesWithOrders 2 = .ok (.iconst 0, 1) := by decide +kernel
theorem dX3_wavesWithOrders_3 : decode cX3_wavesWithOrders 3 = .ok (.istore_n 2, 1) := by decide +kernel
theorem dX3_wavesWithOrders_4 : decode cX3_wavesWithOrders 4 = .ok (.iload_n 2, 1) := by decide +kernel
theorem dX3_wavesWithOrders_5 : decode cX3_wavesWithOrders 5 = .ok (.aload_n 0, 1) := by decide +kernel
theorem dX3_wavesWithOrders_6 : decode cX3_wavesWithOrders 6 = .ok (.getfield 112, 3) := by decide +kernel
theorem dX3_wavesWithOrders_9 : decode cX3_wavesWithOrders 9 = .ok (.if_icmp .ge 24, 3) := by decide +kernel
theorem dX3_wavesWithOrders_12 : decode cX3_wavesWithOrders 12 = .ok (.aload_n 0, 1) := by decide +kernel
theorem dX3_wavesWithOrders_13 : decode cX3_wavesWithOrders 13 = .ok (.getfield 43, 3) := by decide +kernel
theorem dX3_wavesWithOrders_16 : decode cX3_wavesWithOrders 16 = .ok (.iload_n 2, 1) := by decide +kernel
theorem dX3_wavesWithOrders_17 : decode cX3_wavesWithOrders 17 = .ok (.aaload, 1) := by decide +kernel
theorem dX3_wavesWithOrders_18 : decode cX3_wavesWithOrders 18 = .ok (.getfield 142, 3) := by decide +kernel
theorem dX3_wavesWithOrders_21 : decode cX3_wavesWithOrders 21 = .ok (.ifCond .le 6, 3) := by decide +kernel
theorem dX3_wavesWithOrders_24 : decode cX3_wavesWithOrders 24 = .ok (.iinc 1 1, 3) := by decide +kernel
theorem dX3_wavesWithOrders_27 : decode cX3_wavesWithOrders 27 = .ok (.iinc 2 1, 3) := by decide +kernel
theorem dX3_wavesWithOrders_30 : decode cX3_wavesWithOrders 30 = .ok (.goto (-26), 3) := by decide +kernel
theorem dX3_wavesWithOrders_33 : decode cX3_wavesWithOrders 33 = .ok (.iload_n 1, 1) := by decide +kernel
theorem dX3_wavesWithOrders_34 : decode cX3_wavesWithOrders 34 = .ok (.ireturn, 1) := by decide +kernel
theorem dX3_ordersAt_0 : decode cX3_ordersAt 0 = .ok (.iconst 0, 1) := by decide +kernel
theorem dX3_ordersAt_1 : decode cX3_ordersAt 1 = .ok (.istore_n 2, 1) := by decide +kernel
theorem dX3_ordersAt_2 : decode cX3_ordersAt 2 = .ok (.iconst 0, 1) := by decide +kernel
theorem dX3_ordersAt_3 : decode cX3_ordersAt 3 = .ok (.istore_n 3, 1) := by decide +kernel
theorem dX3_ordersAt_4 : decode cX3_ordersAt 4 = .ok (.iload_n 3, 1) := by decide +kernel
theorem dX3_ordersAt_5 : decode cX3_ordersAt 5 = .ok (.aload_n 0, 1) := by decide +kernel
theorem dX3_ordersAt_6 : decode cX3_ordersAt 6 = .ok (.getfield 57, 3) := by decide +kernel
theorem dX3_ordersAt_9 : decode cX3_ordersAt 9 = .ok (.if_icmp .ge 25, 3) := by decide +kernel
theorem dX3_ordersAt_12 : decode cX3_ordersAt 12 = .ok (.aload_n 0, 1) := by decide +kernel
theorem dX3_ordersAt_13 : decode cX3_ordersAt 13 = .ok (.getfield 36, 3) := by decide +kernel
theorem dX3_ordersAt_16 : decode cX3_ordersAt 16 = .ok (.iload_n 3, 1) := by decide +kernel
theorem dX3_ordersAt_17 : decode cX3_ordersAt 17 = .ok (.aaload, 1) := by decide +kernel
theorem dX3_ordersAt_18 : decode cX3_ordersAt 18 = .ok (.getfield 128, 3) := by decide +kernel
theorem dX3_ordersAt_21 : decode cX3_ordersAt 21 = .ok (.iload_n 1, 1) := by decide +kernel
theorem dX3_ordersAt_22 : decode cX3_ordersAt 22 = .ok (.if_icmp .ne 6, 3) := by decide +kernel
theorem dX3_ordersAt_25 : decode cX3_ordersAt 25 = .ok (.iinc 2 1, 3) := by decide +kernel
theorem dX3_ordersAt_28 : decode cX3_ordersAt 28 = .ok (.iinc 3 1, 3) := by decide +kernel
theorem dX3_ordersAt_31 : decode cX3_ordersAt 31 = .ok (.goto (-27), 3) := by decide +kernel
theorem dX3_ordersAt_34 : decode cX3_ordersAt 34 = .ok (.iload_n 2, 1) := by decide +kernel
theorem dX3_ordersAt_35 : decode cX3_ordersAt 35 = .ok (.ireturn, 1) := by decide +kernel
theorem dX3_finishedOrders_0 : decode cX3_finishedOrders 0 = .ok (.iconst 0, 1) := by decide +kernel
theorem dX3_finishedOrders_1 : decode cX3_finishedOrders 1 = .ok (.istore_n 1, 1) := by decide +kernel
theorem dX3_finishedOrders_2 : decode cX3_finishedOrders 2 = .ok (.iconst 0, 1) := by decide +kernel
theorem dX3_finishedOrders_3 : decode cX3_finishedOrders 3 = .ok (.istore_n 2, 1) := by decide +kernel
theorem dX3_finishedOrders_4 : decode cX3_finishedOrders 4 = .ok (.iload_n 2, 1) := by decide +kernel
theorem dX3_finishedOrders_5 : decode cX3_finishedOrders 5 = .ok (.aload_n 0, 1) := by decide +kernel
theorem dX3_finishedOrders_6 : decode cX3_finishedOrders 6 = .ok (.getfield 57, 3) := by decide +kernel
theorem dX3_finishedOrders_9 : decode cX3_finishedOrders 9 = .ok (.if_icmp .ge 24, 3) := by decide +kernel
theorem dX3_finishedOrders_12 : decode cX3_finishedOrders 12 = .ok (.aload_n 0, 1) := by decide +kernel
theorem dX3_finishedOrders_13 : decode cX3_finishedOrders 13 = .ok (.getfield 36, 3) := by decide +kernel
theorem dX3_finishedOrders_16 : decode cX3_finishedOrders 16 = .ok (.iload_n 2, 1) := by decide +kernel
theorem dX3_finishedOrders_17 : decode cX3_finishedOrders 17 = .ok (.aaload, 1) := by decide +kernel
theorem dX3_finishedOrders_18 : decode cX3_finishedOrders 18 = .ok (.getfield 188, 3) := by decide +kernel
theorem dX3_finishedOrders_21 : decode cX3_finishedOrders 21 = .ok (.ifCond .eq 6, 3) := by decide +kernel
theorem dX3_finishedOrders_24 : decode cX3_finishedOrders 24 = .ok (.iinc 1 1, 3) := by decide +kernel
theorem dX3_finishedOrders_27 : decode cX3_finishedOrders 27 = .ok (.iinc 2 1, 3) := by decide +kernel
theorem dX3_finishedOrders_30 : decode cX3_finishedOrders 30 = .ok (.goto (-26), 3) := by decide +kernel
theorem dX3_finishedOrders_33 : decode cX3_finishedOrders 33 = .ok (.iload_n 1, 1) := by decide +kernel
theorem dX3_finishedOrders_34 : decode cX3_finishedOrders 34 = .ok (.ireturn, 1) := by decide +kernel
theorem dX4_init_0 : decode cX4_init 0 = .ok (.aload_n 0, 1) := by decide +kernel
theorem dX4_init_1 : decode cX4_init 1 = .ok (.invokespecial 1, 3) := by decide +kernel
theorem dX4_init_4 : decode cX4_init 4 = .ok (.aload_n 0, 1) := by decide +kernel
theorem dX4_init_5 : decode cX4_init 5 = .ok (.bipush 16, 2) := by decide +kernel
theorem dX4_init_7 : decode cX4_init 7 = .ok (.newarray .int, 2) := by decide +kernel
theorem dX4_init_9 : decode cX4_init 9 = .ok (.putfield 7, 3) := by decide +kernel
theorem dX4_init_12 : decode cX4_init 12 = .ok (.aload_n 0, 1) := by decide +kernel
theorem dX4_init_13 : decode cX4_init 13 = .ok (.bipush 16, 2) := by decide +kernel
theorem dX4_init_15 : decode cX4_init 15 = .ok (.newarray .int, 2) := by decide +kernel
theorem dX4_init_17 : decode cX4_init 17 = .ok (.putfield 13, 3) := by decide +kernel
theorem dX4_init_20 : decode cX4_init 20 = .ok (.aload_n 0, 1) := by decide +kernel
theorem dX4_init_21 : decode cX4_init 21 = .ok (.bipush 16, 2) := by decide +kernel
theorem dX4_init_23 : decode cX4_init 23 = .ok (.newarray .int, 2) := by decide +kernel
theorem dX4_init_25 : decode cX4_init 25 = .ok (.putfield 16, 3) := by decide +kernel
theorem dX4_init_28 : decode cX4_init 28 = .ok (.aload_n 0, 1) := by decide +kernel
theorem dX4_init_29 : decode cX4_init 29 = .ok (.bipush 16, 2) := by decide +kernel
theorem dX4_init_31 : decode cX4_init 31 = .ok (.newarray .int, 2) := by decide +kernel
theorem dX4_init_33 : decode cX4_init 33 = .ok (.putfield 19, 3) := by decide +kernel
theorem dX4_init_36 : decode cX4_init 36 = .ok (.aload_n 0, 1) := by decide +kernel
theorem dX4_init_37 : decode cX4_init 37 = .ok (.bipush 16, 2) := by decide +kernel
theorem dX4_init_39 : decode cX4_init 39 = .ok (.newarray .int, 2) := by decide +kernel
theorem dX4_init_41 : decode cX4_init 41 = .ok (.putfield 22, 3) := by decide +kernel
theorem dX4_init_44 : decode cX4_init 44 = .ok (.aload_n 0, 1) := by decide +kernel
theorem dX4_init_45 : decode cX4_init 45 = .ok (.bipush 16, 2) := by decide +kernel
theorem dX4_init_47 : decode cX4_init 47 = .ok (.newarray .int, 2) := by decide +kernel
theorem dX4_init_49 : decode cX4_init 49 = .ok (.putfield 25, 3) := by decide +kernel
theorem dX4_init_52 : decode cX4_init 52 = .ok (.aload_n 0, 1) := by decide +kernel
theorem dX4_init_53 : decode cX4_init 53 = .ok (.bipush 16, 2) := by decide +kernel
theorem dX4_init_55 : decode cX4_init 55 = .ok (.newarray .boolean, 2) := by decide +kernel
theorem dX4_init_57 : decode cX4_init 57 = .ok (.putfield 28, 3) := by decide +kernel
theorem dX4_init_60 : decode cX4_init 60 = .ok (.aload_n 0, 1) := by decide +kernel
theorem dX4_init_61 : decode cX4_init 61 = .ok (.sipush 160, 3) := by decide +kernel
theorem dX4_init_64 : decode cX4_init 64 = .ok (.newarray .int, 2) := by decide +kernel
theorem dX4_init_66 : decode cX4_init 66 = .ok (.putfield 32, 3) := by decide +kernel
theorem dX4_init_69 : decode cX4_init 69 = .ok (.aload_n 0, 1) := by decide +kernel
theorem dX4_init_70 : decode cX4_init 70 = .ok (.bipush 10, 2) := by decide +kernel
theorem dX4_init_72 : decode cX4_init 72 = .ok (.newarray .int, 2) := by decide +kernel
theorem dX4_init_74 : decode cX4_init 74 = .ok (.putfield 35, 3) := by decide +kernel
theorem dX4_init_77 : decode cX4_init 77 = .ok (.aload_n 0, 1) := by decide +kernel
theorem dX4_init_78 : decode cX4_init 78 = .ok (.bipush 10, 2) := by decide +kernel
theorem dX4_init_80 : decode cX4_init 80 = .ok (.newarray .int, 2) := by decide +kernel
theorem dX4_init_82 : decode cX4_init 82 = .ok (.putfield 38, 3) := by decide +kernel
theorem dX4_init_85 : decode cX4_init 85 = .ok (.aload_n 0, 1) := by decide +kernel
theorem dX4_init_86 : decode cX4_init 86 = .ok (.bipush 10, 2) := by decide +kernel
theorem dX4_init_88 : decode cX4_init 88 = .ok (.newarray .int, 2) := by decide +kernel
theorem dX4_init_90 : decode cX4_init 90 = .ok (.putfield 41, 3) := by decide +kernel
theorem dX4_init_93 : decode cX4_init 93 = .ok (.aload_n 0, 1) := by decide +kernel
theorem dX4_init_94 : decode cX4_init 94 = .ok (.bipush 17, 2) := by decide +kernel
theorem dX4_init_96 : decode cX4_init 96 = .ok (.newarray .boolean, 2) := by decide +kernel
theorem dX4_init_98 : decode cX4_init 98 = .ok (.putfield 44, 3) := by decide +kernel
theorem dX4_init_101 : decode cX4_init 101 = .ok (.aload_n 0, 1) := by decide +kernel
theorem dX4_init_102 : decode cX4_init 102 = .ok (.bipush 10, 2) := by decide +kernel
theorem dX4_init_104 : decode cX4_init 104 = .ok (.newarray .int, 2) := by decide +kernel
theorem dX4_init_106 : decode cX4_init 106 = .ok (.putfield 47, 3) := by decide +kernel
theorem dX4_init_109 : decode cX4_init 109 = .ok (.aload_n 0, 1) := by decide +kernel
theorem dX4_init_110 : decode cX4_init 110 = .ok (.bipush 16, 2) := by decide +kernel
theorem dX4_init_112 : decode cX4_init 112 = .ok (.newarray .int, 2) := by decide +kernel
theorem dX4_init_114 : decode cX4_init 114 = .ok (.putfield 50, 3) := by decide +kernel
theorem dX4_init_117 : decode cX4_init 117 = .ok (.aload_n 0, 1) := by decide +kernel
theorem dX4_init_118 : decode cX4_init 118 = .ok (.bipush 16, 2) := by decide +kernel
theorem dX4_init_120 : decode cX4_init 120 = .ok (.newarray .int, 2) := by decide +kernel
theorem dX4_init_122 : decode cX4_init 122 = .ok (.putfield 53, 3) := by decide +kernel
theorem dX4_init_125 : decode cX4_init 125 = .ok (.aload_n 0, 1) := by decide +kernel
theorem dX4_init_126 : decode cX4_init 126 = .ok (.bipush 16, 2) := by decide +kernel
theorem dX4_init_128 : decode cX4_init 128 = .ok (.newarray .boolean, 2) := by decide +kernel
theorem dX4_init_130 : decode cX4_init 130 = .ok (.putfield 56, 3) := by decide +kernel
theorem dX4_init_133 : decode cX4_init 133 = .ok (.aload_n 0, 1) := by decide +kernel
theorem dX4_init_134 : decode cX4_init 134 = .ok (.iload_n 1, 1) := by decide +kernel
theorem dX4_init_135 : decode cX4_init 135 = .ok (.ifCond .ge 7, 3) := by decide +kernel
theorem dX4_init_138 : decode cX4_init 138 = .ok (.iconst 0, 1) := by decide +kernel
theorem dX4_init_139 : decode cX4_init 139 = .ok (.goto 15, 3) := by decide +kernel
theorem dX4_init_142 : decode cX4_init 142 = .ok (.iload_n 1, 1) := by decide +kernel
theorem dX4_init_143 : decode cX4_init 143 = .ok (.ldc 59, 2) := by decide +kernel
theorem dX4_init_145 : decode cX4_init 145 = .ok (.if_icmp .le 8, 3) := by decide +kernel
theorem dX4_init_148 : decode cX4_init 148 = .ok (.ldc 59, 2) := by decide +kernel
theorem dX4_init_150 : decode cX4_init 150 = .ok (.goto 4, 3) := by decide +kernel
theorem dX4_init_153 : decode cX4_init 153 = .ok (.iload_n 1, 1) := by decide +kernel
theorem dX4_init_154 : decode cX4_init 154 = .ok (.putfield 60, 3) := by decide +kernel
theorem dX4_init_157 : decode cX4_init 157 = .ok (.return_, 1) := by decide +kernel
theorem dX4_thrown_0 : decode cX4_thrown 0 = .ok (.aload_n 0, 1) := by decide +kernel
theorem dX4_thrown_1 : decode cX4_thrown 1 = .ok (.getfield 64, 3) := by decide +kernel
theorem dX4_thrown_4 : decode cX4_thrown 4 = .ok (.ireturn, 1) := by decide +kernel
theorem dX4_in_0 : decode cX4_in 0 = .ok (.iload_n 0, 1) := by decide +kernel
theorem dX4_in_1 : decode cX4_in 1 = .ok (.iload_n 1, 1) := by decide +kernel
theorem dX4_in_2 : decode cX4_in 2 = .ok (.if_icmp .lt 12, 3) := by decide +kernel
theorem dX4_in_5 : decode cX4_in 5 = .ok (.iload_n 0, 1) := by decide +kernel
theorem dX4_in_6 : decode cX4_in 6 = .ok (.iload_n 2, 1) := by decide +kernel
theorem dX4_in_7 : decode cX4_in 7 = .ok (.if_icmp .gt 7, 3) := by decide +kernel
theorem dX4_in_10 : decode cX4_in 10 = .ok (.iconst 1, 1) := by decide +kernel
theorem dX4_in_11 : decode cX4_in 11 = .ok (.goto 4, 3) := by decide +kernel
theorem dX4_in_14 : decode cX4_in 14 = .ok (.iconst 0, 1) := by decide +kernel
theorem dX4_in_15 : decode cX4_in 15 = .ok (.ireturn, 1) := by decide +kernel
theorem dX4_isOrder_0 : decode cX4_isOrder 0 = .ok (.iload_n 1, 1) := by decide +kernel
theorem dX4_isOrder_1 : decode cX4_isOrder 1 = .ok (.iconst 0, 1) := by decide +kernel
theorem dX4_isOrder_2 : decode cX4_isOrder 2 = .ok (.aload_n 0, 1) := by decide +kernel
theorem dX4_isOrder_3 : decode cX4_isOrder 3 = .ok (.getfield 67, 3) := by decide +kernel
theorem dX4_isOrder_6 : decode cX4_isOrder 6 = .ok (.iconst 1, 1) := by decide +kernel
theorem dX4_isOrder_7 : decode cX4_isOrder 7 = .ok (.isub, 1) := by decide +kernel
theorem dX4_isOrder_8 : decode cX4_isOrder 8 = .ok (.invokestatic 70, 3) := by decide +kernel
theorem dX4_isOrder_11 : decode cX4_isOrder 11 = .ok (.ireturn, 1) := by decide +kernel
theorem dX4_isTime_0 : decode cX4_isTime 0 = .ok (.iload_n 0, 1) := by decide +kernel
theorem dX4_isTime_1 : decode cX4_isTime 1 = .ok (.iconst 0, 1) := by decide +kernel
theorem dX4_isTime_2 : decode cX4_isTime 2 = .ok (.ldc 74, 2) := by decide +kernel
theorem dX4_isTime_4 : decode cX4_isTime 4 = .ok (.invokestatic 70, 3) := by decide +kernel
theorem dX4_isTime_7 : decode cX4_isTime 7 = .ok (.ireturn, 1) := by decide +kernel
theorem dX4_order_0 : decode cX4_order 0 = .ok (.aload_n 0, 1) := by decide +kernel
theorem dX4_order_1 : decode cX4_order 1 = .ok (.iload_n 1, 1) := by decide +kernel
theorem dX4_order_2 : decode cX4_order 2 = .ok (.invokestatic 75, 3) := by decide +kernel
theorem dX4_order_5 : decode cX4_order 5 = .ok (.ifCond .eq 24, 3) := by decide +kernel
theorem dX4_order_8 : decode cX4_order 8 = .ok (.iload_n 2, 1) := by decide +kernel
theorem dX4_order_9 : decode cX4_order 9 = .ok (.iconst 0, 1) := by decide +kernel
theorem dX4_order_10 : decode cX4_order 10 = .ok (.bipush 7, 2) := by decide +kernel
theorem dX4_order_12 : decode cX4_order 12 = .ok (.invokestatic 70, 3) := by decide +kernel
theorem dX4_order_15 : decode cX4_order 15 = .ok (.ifCond .eq 14, 3) := by decide +kernel
theorem dX4_order_18 : decode cX4_order 18 = .ok (.iload_n 3, 1) := by decide +kernel
theorem dX4_order_19 : decode cX4_order 19 = .ok (.iconst 1, 1) := by decide +kernel
theorem dX4_order_20 : decode cX4_order 20 = .ok (.sipush 10000, 3) := by decide +kernel
theorem dX4_order_23 : decode cX4_order 23 = .ok (.invokestatic 70, 3) := by decide +kernel
theorem dX4_order_26 : decode cX4_order 26 = .ok (.ifCond .ne 7, 3) := by decide +kernel
theorem dX4_order_29 : decode cX4_order 29 = .ok (.iconst 1, 1) := by decide +kernel
theorem dX4_order_30 : decode cX4_order 30 = .ok (.goto 17, 3) := by decide +kernel
theorem dX4_order_33 : decode cX4_order 33 = .ok (.aload_n 0, 1) := by decide +kernel
theorem dX4_order_34 : decode cX4_order 34 = .ok (.getfield 67, 3) := by decide +kernel
theorem dX4_order_37 : decode cX4_order 37 = .ok (.bipush 16, 2) := by decide +kernel
theorem dX4_order_39 : decode cX4_order 39 = .ok (.if_icmp .ne 7, 3) := by decide +kernel
theorem dX4_order_42 : decode cX4_order 42 = .ok (.iconst 2, 1) := by decide +kernel
theorem dX4_order_43 : decode cX4_order 43 = .ok (.goto 4, 3) := by decide +kernel
theorem dX4_order_46 : decode cX4_order 46 = .ok (.iconst 0, 1) := by decide +kernel
theorem dX4_order_47 : decode cX4_order 47 = .ok (.putfield 64, 3) := by decide +kernel
theorem dX4_order_50 : decode cX4_order 50 = .ok (.aload_n 0, 1) := by decide +kernel
theorem dX4_order_51 : decode cX4_order 51 = .ok (.getfield 64, 3) := by decide +kernel
theorem dX4_order_54 : decode cX4_order 54 = .ok (.ifCond .le 5, 3) := by decide +kernel
theorem dX4_order_57 : decode cX4_order 57 = .ok (.iconst 0, 1) := by decide +kernel
theorem dX4_order_58 : decode cX4_order 58 = .ok (.ireturn, 1) := by decide +kernel
theorem dX4_order_59 : decode cX4_order 59 = .ok (.aload_n 0, 1) := by decide +kernel
theorem dX4_order_60 : decode cX4_order 60 = .ok (.getfield 7, 3) := by decide +kernel
theorem dX4_order_63 : decode cX4_order 63 = .ok (.aload_n 0, 1) := by decide +kernel
theorem dX4_order_64 : decode cX4_order 64 = .ok (.getfield 67, 3) := by decide +kernel
theorem dX4_order_67 : decode cX4_order 67 = .ok (.iload_n 1, 1) := by decide +kernel
theorem dX4_order_68 : decode cX4_order 68 = .ok (.iastore, 1) := by decide +kernel
theorem dX4_order_69 : decode cX4_order 69 = .ok (.aload_n 0, 1) := by decide +kernel
theorem dX4_order_70 : decode cX4_order 70 = .ok (.getfield 13, 3) := by decide +kernel
theorem dX4_order_73 : decode cX4_order 73 = .ok (.aload_n 0, 1) := by decide +kernel
theorem dX4_order_74 : decode cX4_order 74 = .ok (.getfield 67, 3) := by decide +kernel
theorem dX4_order_77 : decode cX4_order 77 = .ok (.iload_n 2, 1) := by decide +kernel
theorem dX4_order_78 : decode cX4_order 78 = .ok (.iastore, 1) := by decide +kernel
theorem dX4_order_79 : decode cX4_order 79 = .ok (.aload_n 0, 1) := by decide +kernel
theorem dX4_order_80 : decode cX4_order 80 = .ok (.getfield 16, 3) := by decide +kernel
theorem dX4_order_83 : decode cX4_order 83 = .ok (.aload_n 0, 1) := by decide +kernel
theorem dX4_order_84 : decode cX4_order 84 = .ok (.getfield 67, 3) := by decide +kernel
theorem dX4_order_87 : decode cX4_order 87 = .ok (.iload_n 3, 1) := by decide +kernel
theorem dX4_order_88 : decode cX4_order 88 = .ok (.iastore, 1) := by decide +kernel
theorem dX4_order_89 : decode cX4_order 89 = .ok (.aload_n 0, 1) := by decide +kernel
theorem dX4_order_90 : decode cX4_order 90 = .ok (.dup, 1) := by decide +kernel
theorem dX4_order_91 : decode cX4_order 91 = .ok (.getfield 67, 3) := by decide +kernel
theorem dX4_order_94 : decode cX4_order 94 = .ok (.iconst 1, 1) := by decide +kernel
theorem dX4_order_95 : decode cX4_order 95 = .ok (.iadd, 1) := by decide +kernel
theorem dX4_order_96 : decode cX4_order 96 = .ok (.putfield 67, 3) := by decide +kernel
theorem dX4_order_99 : decode cX4_order 99 = .ok (.aload_n 0, 1) := by decide +kernel
theorem dX4_order_100 : decode cX4_order 100 = .ok (.getfield 67, 3) := by decide +kernel
theorem dX4_order_103 : decode cX4_order 103 = .ok (.iconst 1, 1) := by decide +kernel
theorem dX4_order_104 : decode cX4_order 104 = .ok (.isub, 1) := by decide +kernel
theorem dX4_order_105 : decode cX4_order 105 = .ok (.ireturn, 1) := by decide +kernel
theorem dX4_lines_0 : decode cX4_lines 0 = .ok (.iconst 0, 1) := by decide +kernel
theorem dX4_lines_1 : decode cX4_lines 1 = .ok (.istore_n 2, 1) := by decide +kernel
theorem dX4_lines_2 : decode cX4_lines 2 = .ok (.iconst 0, 1) := by decide +kernel
theorem dX4_lines_3 : decode cX4_lines 3 = .ok (.istore_n 3, 1) := by decide +kernel
theorem dX4_lines_4 : decode cX4_lines 4 = .ok (.iload_n 3, 1) := by decide +kernel
theorem dX4_lines_5 : decode cX4_lines 5 = .ok (.bipush 10, 2) := by decide +kernel
theorem dX4_lines_7 : decode cX4_lines 7 = .ok (.if_icmp .ge 31, 3) := by decide +kernel
theorem dX4_lines_10 : decode cX4_lines 10 = .ok (.iload_n 2, 1) := by decide +kernel
theorem dX4_lines_11 : decode cX4_lines 11 = .ok (.aload_n 0, 1) := by decide +kernel
theorem dX4_lines_12 : decode cX4_lines 12 = .ok (.getfield 32, 3) := by decide +kernel
theorem dX4_lines_15 : decode cX4_lines 15 = .ok (.bipush 10, 2) := by decide +kernel
theorem dX4_lines_17 : decode cX4_lines 17 = .ok (.iload_n 1, 1) := by decide +kernel
theorem dX4_lines_18 : decode cX4_lines 18 = .ok (.imul, 1) := by decide +kernel
theorem dX4_lines_19 : decode cX4_lines 19 = .ok (.iload_n 3, 1) := by decide +kernel
theorem dX4_lines_20 : decode cX4_lines 20 = .ok (.iadd, 1) := by decide +kernel
theorem dX4_lines_21 : decode cX4_lines 21 = .ok (.iaload, 1) := by decide +kernel
theorem dX4_lines_22 : decode cX4_lines 22 = .ok (.ifCond .le 7, 3) := by decide +kernel
theorem dX4_lines_25 : decode cX4_lines 25 = .ok (.iconst 1, 1) := by decide +kernel
theorem dX4_lines_26 : decode cX4_lines 26 = .ok (.goto 4, 3) := by decide +kernel
theorem dX4_lines_29 : decode cX4_lines 29 = .ok (.iconst 0, 1) := by decide +kernel
theorem dX4_lines_30 : decode cX4_lines 30 = .ok (.iadd, 1) := by decide +kernel
theorem dX4_lines_31 : decode cX4_lines 31 = .ok (.istore_n 2, 1) := by decide +kernel
theorem dX4_lines_32 : decode cX4_lines 32 = .ok (.iinc 3 1, 3) := by decide +kernel
theorem dX4_lines_35 : decode cX4_lines 35 = .ok (.goto (-31), 3) := by decide +kernel
theorem dX4_lines_38 : decode cX4_lines 38 = .ok (.iload_n 2, 1) := by decide +kernel
theorem dX4_lines_39 : decode cX4_lines 39 = .ok (.ireturn, 1) := by decide +kernel
theorem dX4_line_0 : decode cX4_line 0 = .ok (.aload_n 0, 1) := by decide +kernel
theorem dX4_line_1 : decode cX4_line 1 = .ok (.aload_n 0, 1) := by decide +kernel
theorem dX4_line_2 : decode cX4_line 2 = .ok (.iload_n 1, 1) := by decide +kernel
theorem dX4_line_3 : decode cX4_line 3 = .ok (.invokevirtual 79, 3) := by decide +kernel
theorem dX4_line_6 : decode cX4_line 6 = .ok (.ifCond .ne 7, 3) := by decide +kernel
theorem dX4_line_9 : decode cX4_line 9 = .ok (.iconst 1, 1) := by decide +kernel
theorem dX4_line_10 : decode cX4_line 10 = .ok (.goto 28, 3) := by decide +kernel
theorem dX4_line_13 : decode cX4_line 13 = .ok (.iload_n 2, 1) := by decide +kernel
theorem dX4_line_14 : decode cX4_line 14 = .ok (.iconst 0, 1) := by decide +kernel
theorem dX4_line_15 : decode cX4_line 15 = .ok (.bipush 9, 2) := by decide +kernel
theorem dX4_line_17 : decode cX4_line 17 = .ok (.invokestatic 70, 3) := by decide +kernel
theorem dX4_line_20 : decode cX4_line 20 = .ok (.ifCond .eq 13, 3) := by decide +kernel
theorem dX4_line_23 : decode cX4_line 23 = .ok (.iload_n 3, 1) := by decide +kernel
theorem dX4_line_24 : decode cX4_line 24 = .ok (.iconst 1, 1) := by decide +kernel
theorem dX4_line_25 : decode cX4_line 25 = .ok (.bipush 100, 2) := by decide +kernel
theorem dX4_line_27 : decode cX4_line 27 = .ok (.invokestatic 70, 3) := by decide +kernel
theorem dX4_line_30 : decode cX4_line 30 = .ok (.ifCond .ne 7, 3) := by decide +kernel
theorem dX4_line_33 : decode cX4_line 33 = .ok (.iconst 2, 1) := by decide +kernel
theorem dX4_line_34 : decode cX4_line 34 = .ok (.goto 4, 3) := by decide +kernel
theorem dX4_line_37 : decode cX4_line 37 = .ok (.iconst 0, 1) := by decide +kernel
theorem dX4_line_38 : decode cX4_line 38 = .ok (.putfield 64, 3) := by decide +kernel
theorem dX4_line_41 : decode cX4_line 41 = .ok (.aload_n 0, 1) := by decide +kernel
theorem dX4_line_42 : decode cX4_line 42 = .ok (.getfield 64, 3) := by decide +kernel
theorem dX4_line_45 : decode cX4_line 45 = .ok (.ifCond .ne 48, 3) := by decide +kernel
theorem dX4_line_48 : decode cX4_line 48 = .ok (.aload_n 0, 1) := by decide +kernel
theorem dX4_line_49 : decode cX4_line 49 = .ok (.aload_n 0, 1) := by decide +kernel
theorem dX4_line_50 : decode cX4_line 50 = .ok (.getfield 22, 3) := by decide +kernel
theorem dX4_line_53 : decode cX4_line 53 = .ok (.iload_n 1, 1) := by decide +kernel
theorem dX4_line_54 : decode cX4_line 54 = .ok (.iaload, 1) := by decide +kernel
theorem dX4_line_55 : decode cX4_line 55 = .ok (.ifCond .ne 17, 3) := by decide +kernel
theorem dX4_line_58 : decode cX4_line 58 = .ok (.aload_n 0, 1) := by decide +kernel
theorem dX4_line_59 : decode cX4_line 59 = .ok (.getfield 32, 3) := by decide +kernel
theorem dX4_line_62 : decode cX4_line 62 = .ok (.bipush 10, 2) := by decide +kernel
theorem dX4_line_64 : decode cX4_line 64 = .ok (.iload_n 1, 1) := by decide +kernel
theorem dX4_line_65 : decode cX4_line 65 = .ok (.imul, 1) := by decide +kernel
theorem dX4_line_66 : decode cX4_line 66 = .ok (.iload_n 2, 1) := by decide +kernel
theorem dX4_line_67 : decode cX4_line 67 = .ok (.iadd, 1) := by decide +kernel
theorem dX4_line_68 : decode cX4_line 68 = .ok (.iaload, 1) := by decide +kernel
theorem dX4_line_69 : decode cX4_line 69 = .ok (.ifCond .le 7, 3) := by decide +kernel
theorem dX4_line_72 : decode cX4_line 72 = .ok (.iconst 3, 1) := by decide +kernel
theorem dX4_line_73 : decode cX4_line 73 = .ok (.goto 17, 3) := by decide +kernel
theorem dX4_line_76 : decode cX4_line 76 = .ok (.aload_n 0, 1) := by decide +kernel
theorem dX4_line_77 : decode cX4_line 77 = .ok (.iload_n 1, 1) := by decide +kernel
theorem dX4_line_78 : decode cX4_line 78 = .ok (.invokevirtual 82, 3) := by decide +kernel
theorem dX4_line_81 : decode cX4_line 81 = .ok (.iconst 4, 1) := by decide +kernel
theorem dX4_line_82 : decode cX4_line 82 = .ok (.if_icmp .ne 7, 3) := by decide +kernel
theorem dX4_line_85 : decode cX4_line 85 = .ok (.iconst 4, 1) := by decide +kernel
theorem dX4_line_86 : decode cX4_line 86 = .ok (.goto 4, 3) := by decide +kernel
theorem dX4_line_89 : decode cX4_line 89 = .ok (.iconst 0, 1) := by decide +kernel
theorem dX4_line_90 : decode cX4_line 90 = .ok (.putfield 64, 3) := by decide +kernel
theorem dX4_line_93 : decode cX4_line 93 = .ok (.aload_n 0, 1) := by decide +kernel
theorem dX4_line_94 : decode cX4_line 94 = .ok (.getfield 64, 3) := by decide +kernel
theorem dX4_line_97 : decode cX4_line 97 = .ok (.ifCond .le 5, 3) := by decide +kernel
theorem dX4_line_100 : decode cX4_line 100 = .ok (.iconst 0, 1) := by decide +kernel
theorem dX4_line_101 : decode cX4_line 101 = .ok (.ireturn, 1) := by decide +kernel
theorem dX4_line_102 : decode cX4_line 102 = .ok (.aload_n 0, 1) := by decide +kernel
theorem dX4_line_103 : decode cX4_line 103 = .ok (.getfield 32, 3) := by decide +kernel
theorem dX4_line_106 : decode cX4_line 106 = .ok (.bipush 10, 2) := by decide +kernel
theorem dX4_line_108 : decode cX4_line 108 = .ok (.iload_n 1, 1) := by decide +kernel
theorem dX4_line_109 : decode cX4_line 109 = .ok (.imul, 1) := by decide +kernel
theorem dX4_line_110 : decode cX4_line 110 = .ok (.iload_n 2, 1) := by decide +kernel
theorem dX4_line_111 : decode cX4_line 111 = .ok (.iadd, 1) := by decide +kernel
theorem dX4_line_112 : decode cX4_line 112 = .ok (.iload_n 3, 1) := by decide +kernel
theorem dX4_line_113 : decode cX4_line 113 = .ok (.iastore, 1) := by decide +kernel
theorem dX4_line_114 : decode cX4_line 114 = .ok (.aload_n 0, 1) := by decide +kernel
theorem dX4_line_115 : decode cX4_line 115 = .ok (.iload_n 1, 1) := by decide +kernel
theorem dX4_line_116 : decode cX4_line 116 = .ok (.invokevirtual 82, 3) := by decide +kernel
theorem dX4_line_119 : decode cX4_line 119 = .ok (.ireturn, 1) := by decide +kernel
theorem dX4_carrier_0 : decode cX4_carrier 0 = .ok (.aload_n 0, 1) := by decide +kernel
theorem dX4_carrier_1 : decode cX4_carrier 1 = .ok (.aload_n 0, 1) := by decide +kernel
theorem dX4_carrier_2 : decode cX4_carrier 2 = .ok (.iload_n 1, 1) := by decide +kernel
theorem dX4_carrier_3 : decode cX4_carrier 3 = .ok (.invokevirtual 79, 3) := by decide +kernel
theorem dX4_carrier_6 : decode cX4_carrier 6 = .ok (.ifCond .ne 7, 3) := by decide +kernel
theorem dX4_carrier_9 : decode cX4_carrier 9 = .ok (.iconst 1, 1) := by decide +kernel
theorem dX4_carrier_10 : decode cX4_carrier 10 = .ok (.goto 17, 3) := by decide +kernel
theorem dX4_carrier_13 : decode cX4_carrier 13 = .ok (.iload_n 2, 1) := by decide +kernel
theorem dX4_carrier_14 : decode cX4_carrier 14 = .ok (.iconst 0, 1) := by decide +kernel
theorem dX4_carrier_15 : decode cX4_carrier 15 = .ok (.iconst 3, 1) := by decide +kernel
theorem dX4_carrier_16 : decode cX4_carrier 16 = .ok (.invokestatic 70, 3) := by decide +kernel
theorem dX4_carrier_19 : decode cX4_carrier 19 = .ok (.ifCond .ne 7, 3) := by decide +kernel
theorem dX4_carrier_22 : decode cX4_carrier 22 = .ok (.iconst 2, 1) := by decide +kernel
theorem dX4_carrier_23 : decode cX4_carrier 23 = .ok (.goto 4, 3) := by decide +kernel
theorem dX4_carrier_26 : decode cX4_carrier 26 = .ok (.iconst 0, 1) := by decide +kernel
theorem dX4_carrier_27 : decode cX4_carrier 27 = .ok (.putfield 64, 3) := by decide +kernel
theorem dX4_carrier_30 : decode cX4_carrier 30 = .ok (.aload_n 0, 1) := by decide +kernel
theorem dX4_carrier_31 : decode cX4_carrier 31 = .ok (.getfield 64, 3) := by decide +kernel
theorem dX4_carrier_34 : decode cX4_carrier 34 = .ok (.ifCond .ne 21, 3) := by decide +kernel
theorem dX4_carrier_37 : decode cX4_carrier 37 = .ok (.aload_n 0, 1) := by decide +kernel
theorem dX4_carrier_38 : decode cX4_carrier 38 = .ok (.aload_n 0, 1) := by decide +kernel
theorem dX4_carrier_39 : decode cX4_carrier 39 = .ok (.getfield 22, 3) := by decide +kernel
theorem dX4_carrier_42 : decode cX4_carrier 42 = .ok (.iload_n 1, 1) := by decide +kernel
theorem dX4_carrier_43 : decode cX4_carrier 43 = .ok (.iaload, 1) := by decide +kernel
theorem dX4_carrier_44 : decode cX4_carrier 44 = .ok (.ifCond .eq 7, 3) := by decide +kernel
theorem dX4_carrier_47 : decode cX4_carrier 47 = .ok (.iconst 3, 1) := by decide +kernel
theorem dX4_carrier_48 : decode cX4_carrier 48 = .ok (.goto 4, 3) := by decide +kernel
theorem dX4_carrier_51 : decode cX4_carrier 51 = .ok (.iconst 0, 1) := by decide +kernel
theorem dX4_carrier_52 : decode cX4_carrier 52 = .ok (.putfield 64, 3) := by decide +kernel
theorem dX4_carrier_55 : decode cX4_carrier 55 = .ok (.aload_n 0, 1) := by decide +kernel
theorem dX4_carrier_56 : decode cX4_carrier 56 = .ok (.getfield 64, 3) := by decide +kernel
theorem dX4_carrier_59 : decode cX4_carrier 59 = .ok (.ifCond .ne 10, 3) := by decide +kernel
theorem dX4_carrier_62 : decode cX4_carrier 62 = .ok (.aload_n 0, 1) := by decide +kernel
theorem dX4_carrier_63 : decode cX4_carrier 63 = .ok (.getfield 19, 3) := by decide +kernel
theorem dX4_carrier_66 : decode cX4_carrier 66 = .ok (.iload_n 1, 1) := by decide +kernel
theorem dX4_carrier_67 : decode cX4_carrier 67 = .ok (.iload_n 2, 1) := by decide +kernel
theorem dX4_carrier_68 : decode cX4_carrier 68 = .ok (.iastore, 1) := by decide +kernel
theorem dX4_carrier_69 : decode cX4_carrier 69 = .ok (.return_, 1) := by decide +kernel
theorem dX4_hour_0 : decode cX4_hour 0 = .ok (.aload_n 0, 1) := by decide +kernel
theorem dX4_hour_1 : decode cX4_hour 1 = .ok (.iload_n 1, 1) := by decide +kernel
theorem dX4_hour_2 : decode cX4_hour 2 = .ok (.iconst 0, 1) := by decide +kernel
theorem dX4_hour_3 : decode cX4_hour 3 = .ok (.iconst 3, 1) := by decide +kernel
theorem dX4_hour_4 : decode cX4_hour 4 = .ok (.invokestatic 70, 3) := by decide +kernel
theorem dX4_hour_7 : decode cX4_hour 7 = .ok (.ifCond .eq 22, 3) := by decide +kernel
theorem dX4_hour_10 : decode cX4_hour 10 = .ok (.iload_n 2, 1) := by decide +kernel
theorem dX4_hour_11 : decode cX4_hour 11 = .ok (.invokestatic 75, 3) := by decide +kernel
theorem dX4_hour_14 : decode cX4_hour 14 = .ok (.ifCond .eq 15, 3) := by decide +kernel
theorem dX4_hour_17 : decode cX4_hour 17 = .ok (.iload_n 3, 1) := by decide +kernel
theorem dX4_hour_18 : decode cX4_hour 18 = .ok (.invokestatic 75, 3) := by decide +kernel
theorem dX4_hour_21 : decode cX4_hour 21 = .ok (.ifCond .eq 8, 3) := by decide +kernel
theorem dX4_hour_24 : decode cX4_hour 24 = .ok (.iload_n 3, 1) := by decide +kernel
theorem dX4_hour_25 : decode cX4_hour 25 = .ok (.iload_n 2, 1) := by decide +kernel
theorem dX4_hour_26 : decode cX4_hour 26 = .ok (.if_icmp .ge 7, 3) := by decide +kernel
theorem dX4_hour_29 : decode cX4_hour 29 = .ok (.iconst 1, 1) := by decide +kernel
theorem dX4_hour_30 : decode cX4_hour 30 = .ok (.goto 17, 3) := by decide +kernel
theorem dX4_hour_33 : decode cX4_hour 33 = .ok (.aload_n 0, 1) := by decide +kernel
theorem dX4_hour_34 : decode cX4_hour 34 = .ok (.getfield 86, 3) := by decide +kernel
theorem dX4_hour_37 : decode cX4_hour 37 = .ok (.bipush 10, 2) := by decide +kernel
theorem dX4_hour_39 : decode cX4_hour 39 = .ok (.if_icmp .ne 7, 3) := by decide +kernel
theorem dX4_hour_42 : decode cX4_hour 42 = .ok (.iconst 2, 1) := by decide +kernel
theorem dX4_hour_43 : decode cX4_hour 43 = .ok (.goto 4, 3) := by decide +kernel
theorem dX4_hour_46 : decode cX4_hour 46 = .ok (.iconst 0, 1) := by decide +kernel
theorem dX4_hour_47 : decode cX4_hour 47 = .ok (.putfield 64, 3) := by decide +kernel
theorem dX4_hour_50 : decode cX4_hour 50 = .ok (.aload_n 0, 1) := by decide +kernel
theorem dX4_hour_51 : decode cX4_hour 51 = .ok (.getfield 64, 3) := by decide +kernel
theorem dX4_hour_54 : decode cX4_hour 54 = .ok (.ifCond .le 5, 3) := by decide +kernel
theorem dX4_hour_57 : decode cX4_hour 57 = .ok (.iconst 0, 1) := by decide +kernel
theorem dX4_hour_58 : decode cX4_hour 58 = .ok (.ireturn, 1) := by decide +kernel
theorem dX4_hour_59 : decode cX4_hour 59 = .ok (.aload_n 0, 1) := by decide +kernel
theorem dX4_hour_60 : decode cX4_hour 60 = .ok (.getfield 35, 3) := by decide +kernel
theorem dX4_hour_63 : decode cX4_hour 63 = .ok (.aload_n 0, 1) := by decide +kernel
theorem dX4_hour_64 : decode cX4_hour 64 = .ok (.getfield 86, 3) := by decide +kernel
theorem dX4_hour_67 : decode cX4_hour 67 = .ok (.iload_n 1, 1) := by decide +kernel
theorem dX4_hour_68 : decode cX4_hour 68 = .ok (.iastore, 1) := by decide +kernel
theorem dX4_hour_69 : decode cX4_hour 69 = .ok (.aload_n 0, 1) := by decide +kernel
theorem dX4_hour_70 : decode cX4_hour 70 = .ok (.getfield 38, 3) := by decide +kernel
theorem dX4_hour_73 : decode cX4_hour 73 = .ok (.aload_n 0, 1) := by decide +kernel
theorem dX4_hour_74 : decode cX4_hour 74 = .ok (.getfield 86, 3) := by decide +kernel
theorem dX4_hour_77 : decode cX4_hour 77 = .ok (.iload_n 2, 1) := by decide +kernel
theorem dX4_hour_78 : decode cX4_hour 78 = .ok (.iastore, 1) := by decide +kernel
theorem dX4_hour_79 : decode cX4_hour 79 = .ok (.aload_n 0, 1) := by decide +kernel
theorem dX4_hour_80 : decode cX4_hour 80 = .ok (.getfield 41, 3) := by decide +kernel
theorem dX4_hour_83 : decode cX4_hour 83 = .ok (.aload_n 0, 1) := by decide +kernel
theorem dX4_hour_84 : decode cX4_hour 84 = .ok (.getfield 86, 3) := by decide +kernel
theorem dX4_hour_87 : decode cX4_hour 87 = .ok (.iload_n 3, 1) := by decide +kernel
theorem dX4_hour_88 : decode cX4_hour 88 = .ok (.iastore, 1) := by decide +kernel
theorem dX4_hour_89 : decode cX4_hour 89 = .ok (.aload_n 0, 1) := by decide +kernel
theorem dX4_hour_90 : decode cX4_hour 90 = .ok (.dup, 1) := by decide +kernel
theorem dX4_hour_91 : decode cX4_hour 91 = .ok (.getfield 86, 3) := by decide +kernel
theorem dX4_hour_94 : decode cX4_hour 94 = .ok (.iconst 1, 1) := by decide +kernel
theorem dX4_hour_95 : decode cX4_hour 95 = .ok (.iadd, 1) := by decide +kernel
theorem dX4_hour_96 : decode cX4_hour 96 = .ok (.putfield 86, 3) := by decide +kernel
theorem dX4_hour_99 : decode cX4_hour 99 = .ok (.iconst 0, 1) := by decide +kernel
theorem dX4_hour_100 : decode cX4_hour 100 = .ok (.istore 4, 2) := by decide +kernel
theorem dX4_hour_102 : decode cX4_hour 102 = .ok (.iconst 0, 1) := by decide +kernel
theorem dX4_hour_103 : decode cX4_hour 103 = .ok (.istore 5, 2) := by decide +kernel
theorem dX4_hour_105 : decode cX4_hour 105 = .ok (.iload 5, 2) := by decide +kernel
theorem dX4_hour_107 : decode cX4_hour 107 = .ok (.aload_n 0, 1) := by decide +kernel
theorem dX4_hour_108 : decode cX4_hour 108 = .ok (.getfield 86, 3) := by decide +kernel
theorem dX4_hour_111 : decode cX4_hour 111 = .ok (.if_icmp .ge 30, 3) := by decide +kernel
theorem dX4_hour_114 : decode cX4_hour 114 = .ok (.iload 4, 2) := by decide +kernel
theorem dX4_hour_116 : decode cX4_hour 116 = .ok (.aload_n 0, 1) := by decide +kernel
theorem dX4_hour_117 : decode cX4_hour 117 = .ok (.getfield 35, 3) := by decide +kernel
theorem dX4_hour_120 : decode cX4_hour 120 = .ok (.iload 5, 2) := by decide +kernel
theorem dX4_hour_122 : decode cX4_hour 122 = .ok (.iaload, 1) := by decide +kernel
theorem dX4_hour_123 : decode cX4_hour 123 = .ok (.iload_n 1, 1) := by decide +kernel
theorem dX4_hour_124 : decode cX4_hour 124 = .ok (.if_icmp .ne 7, 3) := by decide +kernel
theorem dX4_hour_127 : decode cX4_hour 127 = .ok (.iconst 1, 1) := by decide +kernel
theorem dX4_hour_128 : decode cX4_hour 128 = .ok (.goto 4, 3) := by decide +kernel
theorem dX4_hour_131 : decode cX4_hour 131 = .ok (.iconst 0, 1) := by decide +kernel
theorem dX4_hour_132 : decode cX4_hour 132 = .ok (.iadd, 1) := by decide +kernel
theorem dX4_hour_133 : decode cX4_hour 133 = .ok (.istore 4, 2) := by decide +kernel
theorem dX4_hour_135 : decode cX4_hour 135 = .ok (.iinc 5 1, 3) := by decide +kernel
theorem dX4_hour_138 : decode cX4_hour 138 = .ok (.goto (-33), 3) := by decide +kernel
theorem dX4_hour_141 : decode cX4_hour 141 = .ok (.iload 4, 2) := by decide +kernel
theorem dX4_hour_143 : decode cX4_hour 143 = .ok (.ireturn, 1) := by decide +kernel
theorem dX4_stock_0 : decode cX4_stock 0 = .ok (.aload_n 0, 1) := by decide +kernel
theorem dX4_stock_1 : decode cX4_stock 1 = .ok (.iload_n 1, 1) := by decide +kernel
theorem dX4_stock_2 : decode cX4_stock 2 = .ok (.iconst 0, 1) := by decide +kernel
theorem dX4_stock_3 : decode cX4_stock 3 = .ok (.bipush 9, 2) := by decide +kernel
theorem dX4_stock_5 : decode cX4_stock 5 = .ok (.invokestatic 70, 3) := by decide +kernel
theorem dX4_stock_8 : decode cX4_stock 8 = .ok (.ifCond .eq 18, 3) := by decide +kernel
theorem dX4_stock_11 : decode cX4_stock 11 = .ok (.iload_n 2, 1) := by decide +kernel
theorem dX4_stock_12 : decode cX4_stock 12 = .ok (.iconst 0, 1) := by decide +kernel
theorem dX4_stock_13 : decode cX4_stock 13 = .ok (.sipush 10000, 3) := by decide +kernel
theorem dX4_stock_16 : decode cX4_stock 16 = .ok (.invokestatic 70, 3) := by decide +kernel
theorem dX4_stock_19 : decode cX4_stock 19 = .ok (.ifCond .eq 7, 3) := by decide +kernel
theorem dX4_stock_22 : decode cX4_stock 22 = .ok (.iconst 0, 1) := by decide +kernel
theorem dX4_stock_23 : decode cX4_stock 23 = .ok (.goto 4, 3) := by decide +kernel
theorem dX4_stock_26 : decode cX4_stock 26 = .ok (.iconst 1, 1) := by decide +kernel
theorem dX4_stock_27 : decode cX4_stock 27 = .ok (.putfield 64, 3) := by decide +kernel
theorem dX4_stock_30 : decode cX4_stock 30 = .ok (.aload_n 0, 1) := by decide +kernel
theorem dX4_stock_31 : decode cX4_stock 31 = .ok (.getfield 64, 3) := by decide +kernel
theorem dX4_stock_34 : decode cX4_stock 34 = .ok (.ifCond .ne 10, 3) := by decide +kernel
theorem dX4_stock_37 : decode cX4_stock 37 = .ok (.aload_n 0, 1) := by decide +kernel
theorem dX4_stock_38 : decode cX4_stock 38 = .ok (.getfield 47, 3) := by decide +kernel
theorem dX4_stock_41 : decode cX4_stock 41 = .ok (.iload_n 1, 1) := by decide +kernel
theorem dX4_stock_42 : decode cX4_stock 42 = .ok (.iload_n 2, 1) := by decide +kernel
theorem dX4_stock_43 : decode cX4_stock 43 = .ok (.iastore, 1) := by decide +kernel
theorem dX4_stock_44 : decode cX4_stock 44 = .ok (.return_, 1) := by decide +kernel
theorem dX4_fits_0 : decode cX4_fits 0 = .ok (.iconst 0, 1) := by decide +kernel
theorem dX4_fits_1 : decode cX4_fits 1 = .ok (.istore_n 3, 1) := by decide +kernel
theorem dX4_fits_2 : decode cX4_fits 2 = .ok (.iload_n 3, 1) := by decide +kernel
theorem dX4_fits_3 : decode cX4_fits 3 = .ok (.aload_n 0, 1) := by decide +kernel
theorem dX4_fits_4 : decode cX4_fits 4 = .ok (.getfield 86, 3) := by decide +kernel
theorem dX4_fits_7 : decode cX4_fits 7 = .ok (.if_icmp .ge 41, 3) := by decide +kernel
theorem dX4_fits_10 : decode cX4_fits 10 = .ok (.aload_n 0, 1) := by decide +kernel
end
section
theorem dX4_fits_11 : decode cX4_fits 11 = .ok (.getfield 35, 3) := by decide +kernel
theorem dX4_fits_14 : decode cX4_fits 14 = .ok (.iload_n 3, 1) := by decide +kernel
theorem dX4_fits_15 : decode cX4_fits 15 = .ok (.iaload, 1) := by decide +kernel
theorem dX4_fits_16 : decode cX4_fits 16 = .ok (.iload_n 1, 1) := by decide +kernel
theorem dX4_fits_17 : decode cX4_fits 17 = .ok (.if_icmp .ne 25, 3) := by decide +kernel
theorem dX4_fits_20 : decode cX4_fits 20 = .ok (.aload_n 0, 1) := by decide +kernel
theorem dX4_fits_21 : decode cX4_fits 21 = .ok (.getfield 38, 3) := by decide +kernel
theorem dX4_fits_24 : decode cX4_fits 24 = .ok (.iload_n 3, 1) := by decide +kernel
theorem dX4_fits_25 : decode cX4_fits 25 = .ok (.iaload, 1) := by decide +kernel
theorem dX4_fits_26 : decode cX4_fits 26 = .ok (.iload_n 2, 1) := by decide +kernel
theorem dX4_fits_27 : decode cX4_fits 27 = .ok (.if_icmp .gt 15, 3) := by decide +kernel
theorem dX4_fits_30 : decode cX4_fits 30 = .ok (.iload_n 2, 1) := by decide +kernel
theorem dX4_fits_31 : decode cX4_fits 31 = .ok (.aload_n 0, 1) := by decide +kernel
theorem dX4_fits_32 : decode cX4_fits 32 = .ok (.getfield 41, 3) := by decide +kernel
theorem dX4_fits_35 : decode cX4_fits 35 = .ok (.iload_n 3, 1) := by decide +kernel
theorem dX4_fits_36 : decode cX4_fits 36 = .ok (.iaload, 1) := by decide +kernel
theorem dX4_fits_37 : decode cX4_fits 37 = .ok (.if_icmp .gt 5, 3) := by decide +kernel
theorem dX4_fits_40 : decode cX4_fits 40 = .ok (.iconst 1, 1) := by decide +kernel
theorem dX4_fits_41 : decode cX4_fits 41 = .ok (.ireturn, 1) := by decide +kernel
theorem dX4_fits_42 : decode cX4_fits 42 = .ok (.iinc 3 1, 3) := by decide +kernel
theorem dX4_fits_45 : decode cX4_fits 45 = .ok (.goto (-43), 3) := by decide +kernel
theorem dX4_fits_48 : decode cX4_fits 48 = .ok (.iconst 0, 1) := by decide +kernel
theorem dX4_fits_49 : decode cX4_fits 49 = .ok (.ireturn, 1) := by decide +kernel
theorem dX4_saving_0 : decode cX4_saving 0 = .ok (.aload_n 0, 1) := by decide +kernel
theorem dX4_saving_1 : decode cX4_saving 1 = .ok (.getfield 13, 3) := by decide +kernel
theorem dX4_saving_4 : decode cX4_saving 4 = .ok (.iload_n 1, 1) := by decide +kernel
theorem dX4_saving_5 : decode cX4_saving 5 = .ok (.iaload, 1) := by decide +kernel
theorem dX4_saving_6 : decode cX4_saving 6 = .ok (.aload_n 0, 1) := by decide +kernel
theorem dX4_saving_7 : decode cX4_saving 7 = .ok (.getfield 13, 3) := by decide +kernel
theorem dX4_saving_10 : decode cX4_saving 10 = .ok (.iload_n 2, 1) := by decide +kernel
theorem dX4_saving_11 : decode cX4_saving 11 = .ok (.iaload, 1) := by decide +kernel
theorem dX4_saving_12 : decode cX4_saving 12 = .ok (.if_icmp .le 19, 3) := by decide +kernel
theorem dX4_saving_15 : decode cX4_saving 15 = .ok (.aload_n 0, 1) := by decide +kernel
theorem dX4_saving_16 : decode cX4_saving 16 = .ok (.getfield 13, 3) := by decide +kernel
theorem dX4_saving_19 : decode cX4_saving 19 = .ok (.iload_n 1, 1) := by decide +kernel
theorem dX4_saving_20 : decode cX4_saving 20 = .ok (.iaload, 1) := by decide +kernel
theorem dX4_saving_21 : decode cX4_saving 21 = .ok (.aload_n 0, 1) := by decide +kernel
theorem dX4_saving_22 : decode cX4_saving 22 = .ok (.getfield 13, 3) := by decide +kernel
theorem dX4_saving_25 : decode cX4_saving 25 = .ok (.iload_n 2, 1) := by decide +kernel
theorem dX4_saving_26 : decode cX4_saving 26 = .ok (.iaload, 1) := by decide +kernel
theorem dX4_saving_27 : decode cX4_saving 27 = .ok (.isub, 1) := by decide +kernel
theorem dX4_saving_28 : decode cX4_saving 28 = .ok (.goto 16, 3) := by decide +kernel
theorem dX4_saving_31 : decode cX4_saving 31 = .ok (.aload_n 0, 1) := by decide +kernel
theorem dX4_saving_32 : decode cX4_saving 32 = .ok (.getfield 13, 3) := by decide +kernel
theorem dX4_saving_35 : decode cX4_saving 35 = .ok (.iload_n 2, 1) := by decide +kernel
theorem dX4_saving_36 : decode cX4_saving 36 = .ok (.iaload, 1) := by decide +kernel
theorem dX4_saving_37 : decode cX4_saving 37 = .ok (.aload_n 0, 1) := by decide +kernel
theorem dX4_saving_38 : decode cX4_saving 38 = .ok (.getfield 13, 3) := by decide +kernel
theorem dX4_saving_41 : decode cX4_saving 41 = .ok (.iload_n 1, 1) := by decide +kernel
theorem dX4_saving_42 : decode cX4_saving 42 = .ok (.iaload, 1) := by decide +kernel
theorem dX4_saving_43 : decode cX4_saving 43 = .ok (.isub, 1) := by decide +kernel
theorem dX4_saving_44 : decode cX4_saving 44 = .ok (.istore_n 3, 1) := by decide +kernel
theorem dX4_saving_45 : decode cX4_saving 45 = .ok (.iload_n 3, 1) := by decide +kernel
theorem dX4_saving_46 : decode cX4_saving 46 = .ok (.ifCond .ne 8, 3) := by decide +kernel
theorem dX4_saving_49 : decode cX4_saving 49 = .ok (.bipush 10, 2) := by decide +kernel
theorem dX4_saving_51 : decode cX4_saving 51 = .ok (.goto 13, 3) := by decide +kernel
theorem dX4_saving_54 : decode cX4_saving 54 = .ok (.iload_n 3, 1) := by decide +kernel
theorem dX4_saving_55 : decode cX4_saving 55 = .ok (.iconst 1, 1) := by decide +kernel
theorem dX4_saving_56 : decode cX4_saving 56 = .ok (.if_icmp .ne 7, 3) := by decide +kernel
theorem dX4_saving_59 : decode cX4_saving 59 = .ok (.iconst 5, 1) := by decide +kernel
theorem dX4_saving_60 : decode cX4_saving 60 = .ok (.goto 4, 3) := by decide +kernel
theorem dX4_saving_63 : decode cX4_saving 63 = .ok (.iconst 0, 1) := by decide +kernel
theorem dX4_saving_64 : decode cX4_saving 64 = .ok (.istore 4, 2) := by decide +kernel
theorem dX4_saving_66 : decode cX4_saving 66 = .ok (.iconst 0, 1) := by decide +kernel
theorem dX4_saving_67 : decode cX4_saving 67 = .ok (.istore 5, 2) := by decide +kernel
theorem dX4_saving_69 : decode cX4_saving 69 = .ok (.iload 5, 2) := by decide +kernel
theorem dX4_saving_71 : decode cX4_saving 71 = .ok (.bipush 10, 2) := by decide +kernel
theorem dX4_saving_73 : decode cX4_saving 73 = .ok (.if_icmp .ge 49, 3) := by decide +kernel
theorem dX4_saving_76 : decode cX4_saving 76 = .ok (.iload 4, 2) := by decide +kernel
theorem dX4_saving_78 : decode cX4_saving 78 = .ok (.aload_n 0, 1) := by decide +kernel
theorem dX4_saving_79 : decode cX4_saving 79 = .ok (.getfield 32, 3) := by decide +kernel
theorem dX4_saving_82 : decode cX4_saving 82 = .ok (.bipush 10, 2) := by decide +kernel
theorem dX4_saving_84 : decode cX4_saving 84 = .ok (.iload_n 1, 1) := by decide +kernel
theorem dX4_saving_85 : decode cX4_saving 85 = .ok (.imul, 1) := by decide +kernel
theorem dX4_saving_86 : decode cX4_saving 86 = .ok (.iload 5, 2) := by decide +kernel
theorem dX4_saving_88 : decode cX4_saving 88 = .ok (.iadd, 1) := by decide +kernel
theorem dX4_saving_89 : decode cX4_saving 89 = .ok (.iaload, 1) := by decide +kernel
theorem dX4_saving_90 : decode cX4_saving 90 = .ok (.ifCond .le 22, 3) := by decide +kernel
theorem dX4_saving_93 : decode cX4_saving 93 = .ok (.aload_n 0, 1) := by decide +kernel
theorem dX4_saving_94 : decode cX4_saving 94 = .ok (.getfield 32, 3) := by decide +kernel
theorem dX4_saving_97 : decode cX4_saving 97 = .ok (.bipush 10, 2) := by decide +kernel
theorem dX4_saving_99 : decode cX4_saving 99 = .ok (.iload_n 2, 1) := by decide +kernel
theorem dX4_saving_100 : decode cX4_saving 100 = .ok (.imul, 1) := by decide +kernel
theorem dX4_saving_101 : decode cX4_saving 101 = .ok (.iload 5, 2) := by decide +kernel
theorem dX4_saving_103 : decode cX4_saving 103 = .ok (.iadd, 1) := by decide +kernel
theorem dX4_saving_104 : decode cX4_saving 104 = .ok (.iaload, 1) := by decide +kernel
theorem dX4_saving_105 : decode cX4_saving 105 = .ok (.ifCond .le 7, 3) := by decide +kernel
theorem dX4_saving_108 : decode cX4_saving 108 = .ok (.iconst 3, 1) := by decide +kernel
theorem dX4_saving_109 : decode cX4_saving 109 = .ok (.goto 4, 3) := by decide +kernel
theorem dX4_saving_112 : decode cX4_saving 112 = .ok (.iconst 0, 1) := by decide +kernel
theorem dX4_saving_113 : decode cX4_saving 113 = .ok (.iadd, 1) := by decide +kernel
theorem dX4_saving_114 : decode cX4_saving 114 = .ok (.istore 4, 2) := by decide +kernel
theorem dX4_saving_116 : decode cX4_saving 116 = .ok (.iinc 5 1, 3) := by decide +kernel
theorem dX4_saving_119 : decode cX4_saving 119 = .ok (.goto (-50), 3) := by decide +kernel
theorem dX4_saving_122 : decode cX4_saving 122 = .ok (.aload_n 0, 1) := by decide +kernel
theorem dX4_saving_123 : decode cX4_saving 123 = .ok (.getfield 16, 3) := by decide +kernel
theorem dX4_saving_126 : decode cX4_saving 126 = .ok (.iload_n 1, 1) := by decide +kernel
theorem dX4_saving_127 : decode cX4_saving 127 = .ok (.iaload, 1) := by decide +kernel
theorem dX4_saving_128 : decode cX4_saving 128 = .ok (.aload_n 0, 1) := by decide +kernel
theorem dX4_saving_129 : decode cX4_saving 129 = .ok (.getfield 16, 3) := by decide +kernel
theorem dX4_saving_132 : decode cX4_saving 132 = .ok (.iload_n 2, 1) := by decide +kernel
theorem dX4_saving_133 : decode cX4_saving 133 = .ok (.iaload, 1) := by decide +kernel
theorem dX4_saving_134 : decode cX4_saving 134 = .ok (.if_icmp .ge 12, 3) := by decide +kernel
theorem dX4_saving_137 : decode cX4_saving 137 = .ok (.aload_n 0, 1) := by decide +kernel
theorem dX4_saving_138 : decode cX4_saving 138 = .ok (.getfield 16, 3) := by decide +kernel
theorem dX4_saving_141 : decode cX4_saving 141 = .ok (.iload_n 1, 1) := by decide +kernel
theorem dX4_saving_142 : decode cX4_saving 142 = .ok (.iaload, 1) := by decide +kernel
theorem dX4_saving_143 : decode cX4_saving 143 = .ok (.goto 9, 3) := by decide +kernel
theorem dX4_saving_146 : decode cX4_saving 146 = .ok (.aload_n 0, 1) := by decide +kernel
theorem dX4_saving_147 : decode cX4_saving 147 = .ok (.getfield 16, 3) := by decide +kernel
theorem dX4_saving_150 : decode cX4_saving 150 = .ok (.iload_n 2, 1) := by decide +kernel
theorem dX4_saving_151 : decode cX4_saving 151 = .ok (.iaload, 1) := by decide +kernel
theorem dX4_saving_152 : decode cX4_saving 152 = .ok (.istore 5, 2) := by decide +kernel
theorem dX4_saving_154 : decode cX4_saving 154 = .ok (.iload 4, 2) := by decide +kernel
theorem dX4_saving_156 : decode cX4_saving 156 = .ok (.iload 5, 2) := by decide +kernel
theorem dX4_saving_158 : decode cX4_saving 158 = .ok (.if_icmp .ge 8, 3) := by decide +kernel
theorem dX4_saving_161 : decode cX4_saving 161 = .ok (.iload 4, 2) := by decide +kernel
theorem dX4_saving_163 : decode cX4_saving 163 = .ok (.goto 5, 3) := by decide +kernel
theorem dX4_saving_166 : decode cX4_saving 166 = .ok (.iload 5, 2) := by decide +kernel
theorem dX4_saving_168 : decode cX4_saving 168 = .ok (.ireturn, 1) := by decide +kernel
theorem dX4_savedBy_0 : decode cX4_savedBy 0 = .ok (.iconst 0, 1) := by decide +kernel
theorem dX4_savedBy_1 : decode cX4_savedBy 1 = .ok (.istore_n 2, 1) := by decide +kernel
theorem dX4_savedBy_2 : decode cX4_savedBy 2 = .ok (.iconst 0, 1) := by decide +kernel
theorem dX4_savedBy_3 : decode cX4_savedBy 3 = .ok (.istore_n 3, 1) := by decide +kernel
theorem dX4_savedBy_4 : decode cX4_savedBy 4 = .ok (.iload_n 3, 1) := by decide +kernel
theorem dX4_savedBy_5 : decode cX4_savedBy 5 = .ok (.aload_n 0, 1) := by decide +kernel
theorem dX4_savedBy_6 : decode cX4_savedBy 6 = .ok (.getfield 67, 3) := by decide +kernel
theorem dX4_savedBy_9 : decode cX4_savedBy 9 = .ok (.if_icmp .ge 56, 3) := by decide +kernel
theorem dX4_savedBy_12 : decode cX4_savedBy 12 = .ok (.aload_n 0, 1) := by decide +kernel
theorem dX4_savedBy_13 : decode cX4_savedBy 13 = .ok (.getfield 22, 3) := by decide +kernel
theorem dX4_savedBy_16 : decode cX4_savedBy 16 = .ok (.iload_n 3, 1) := by decide +kernel
theorem dX4_savedBy_17 : decode cX4_savedBy 17 = .ok (.iaload, 1) := by decide +kernel
theorem dX4_savedBy_18 : decode cX4_savedBy 18 = .ok (.aload_n 0, 1) := by decide +kernel
theorem dX4_savedBy_19 : decode cX4_savedBy 19 = .ok (.getfield 22, 3) := by decide +kernel
theorem dX4_savedBy_22 : decode cX4_savedBy 22 = .ok (.iload_n 1, 1) := by decide +kernel
theorem dX4_savedBy_23 : decode cX4_savedBy 23 = .ok (.iaload, 1) := by decide +kernel
theorem dX4_savedBy_24 : decode cX4_savedBy 24 = .ok (.if_icmp .ne 35, 3) := by decide +kernel
theorem dX4_savedBy_27 : decode cX4_savedBy 27 = .ok (.aload_n 0, 1) := by decide +kernel
theorem dX4_savedBy_28 : decode cX4_savedBy 28 = .ok (.getfield 25, 3) := by decide +kernel
theorem dX4_savedBy_31 : decode cX4_savedBy 31 = .ok (.iload_n 3, 1) := by decide +kernel
theorem dX4_savedBy_32 : decode cX4_savedBy 32 = .ok (.iaload, 1) := by decide +kernel
theorem dX4_savedBy_33 : decode cX4_savedBy 33 = .ok (.aload_n 0, 1) := by decide +kernel
theorem dX4_savedBy_34 : decode cX4_savedBy 34 = .ok (.getfield 25, 3) := by decide +kernel
theorem dX4_savedBy_37 : decode cX4_savedBy 37 = .ok (.iload_n 1, 1) := by decide +kernel
theorem dX4_savedBy_38 : decode cX4_savedBy 38 = .ok (.iaload, 1) := by decide +kernel
theorem dX4_savedBy_39 : decode cX4_savedBy 39 = .ok (.if_icmp .ge 20, 3) := by decide +kernel
theorem dX4_savedBy_42 : decode cX4_savedBy 42 = .ok (.aload_n 0, 1) := by decide +kernel
theorem dX4_savedBy_43 : decode cX4_savedBy 43 = .ok (.iload_n 3, 1) := by decide +kernel
theorem dX4_savedBy_44 : decode cX4_savedBy 44 = .ok (.iload_n 1, 1) := by decide +kernel
theorem dX4_savedBy_45 : decode cX4_savedBy 45 = .ok (.invokevirtual 89, 3) := by decide +kernel
theorem dX4_savedBy_48 : decode cX4_savedBy 48 = .ok (.iload_n 2, 1) := by decide +kernel
theorem dX4_savedBy_49 : decode cX4_savedBy 49 = .ok (.if_icmp .le 10, 3) := by decide +kernel
theorem dX4_savedBy_52 : decode cX4_savedBy 52 = .ok (.aload_n 0, 1) := by decide +kernel
theorem dX4_savedBy_53 : decode cX4_savedBy 53 = .ok (.iload_n 3, 1) := by decide +kernel
theorem dX4_savedBy_54 : decode cX4_savedBy 54 = .ok (.iload_n 1, 1) := by decide +kernel
theorem dX4_savedBy_55 : decode cX4_savedBy 55 = .ok (.invokevirtual 89, 3) := by decide +kernel
theorem dX4_savedBy_58 : decode cX4_savedBy 58 = .ok (.istore_n 2, 1) := by decide +kernel
theorem dX4_savedBy_59 : decode cX4_savedBy 59 = .ok (.iinc 3 1, 3) := by decide +kernel
theorem dX4_savedBy_62 : decode cX4_savedBy 62 = .ok (.goto (-58), 3) := by decide +kernel
theorem dX4_savedBy_65 : decode cX4_savedBy 65 = .ok (.iload_n 2, 1) := by decide +kernel
theorem dX4_savedBy_66 : decode cX4_savedBy 66 = .ok (.ireturn, 1) := by decide +kernel
theorem dX4_savedOf_0 : decode cX4_savedOf 0 = .ok (.iconst 0, 1) := by decide +kernel
theorem dX4_savedOf_1 : decode cX4_savedOf 1 = .ok (.istore_n 2, 1) := by decide +kernel
theorem dX4_savedOf_2 : decode cX4_savedOf 2 = .ok (.iconst 0, 1) := by decide +kernel
theorem dX4_savedOf_3 : decode cX4_savedOf 3 = .ok (.istore_n 3, 1) := by decide +kernel
theorem dX4_savedOf_4 : decode cX4_savedOf 4 = .ok (.iload_n 3, 1) := by decide +kernel
theorem dX4_savedOf_5 : decode cX4_savedOf 5 = .ok (.aload_n 0, 1) := by decide +kernel
theorem dX4_savedOf_6 : decode cX4_savedOf 6 = .ok (.getfield 67, 3) := by decide +kernel
theorem dX4_savedOf_9 : decode cX4_savedOf 9 = .ok (.if_icmp .ge 31, 3) := by decide +kernel
theorem dX4_savedOf_12 : decode cX4_savedOf 12 = .ok (.iload_n 2, 1) := by decide +kernel
theorem dX4_savedOf_13 : decode cX4_savedOf 13 = .ok (.aload_n 0, 1) := by decide +kernel
theorem dX4_savedOf_14 : decode cX4_savedOf 14 = .ok (.getfield 22, 3) := by decide +kernel
theorem dX4_savedOf_17 : decode cX4_savedOf 17 = .ok (.iload_n 3, 1) := by decide +kernel
theorem dX4_savedOf_18 : decode cX4_savedOf 18 = .ok (.iaload, 1) := by decide +kernel
theorem dX4_savedOf_19 : decode cX4_savedOf 19 = .ok (.iload_n 1, 1) := by decide +kernel
theorem dX4_savedOf_20 : decode cX4_savedOf 20 = .ok (.if_icmp .ne 11, 3) := by decide +kernel
theorem dX4_savedOf_23 : decode cX4_savedOf 23 = .ok (.aload_n 0, 1) := by decide +kernel
theorem dX4_savedOf_24 : decode cX4_savedOf 24 = .ok (.iload_n 3, 1) := by decide +kernel
theorem dX4_savedOf_25 : decode cX4_savedOf 25 = .ok (.invokevirtual 93, 3) := by decide +kernel
theorem dX4_savedOf_28 : decode cX4_savedOf 28 = .ok (.goto 4, 3) := by decide +kernel
theorem dX4_savedOf_31 : decode cX4_savedOf 31 = .ok (.iconst 0, 1) := by decide +kernel
theorem dX4_savedOf_32 : decode cX4_savedOf 32 = .ok (.iadd, 1) := by decide +kernel
theorem dX4_savedOf_33 : decode cX4_savedOf 33 = .ok (.istore_n 2, 1) := by decide +kernel
theorem dX4_savedOf_34 : decode cX4_savedOf 34 = .ok (.iinc 3 1, 3) := by decide +kernel
theorem dX4_savedOf_37 : decode cX4_savedOf 37 = .ok (.goto (-33), 3) := by decide +kernel
theorem dX4_savedOf_40 : decode cX4_savedOf 40 = .ok (.iload_n 2, 1) := by decide +kernel
theorem dX4_savedOf_41 : decode cX4_savedOf 41 = .ok (.ireturn, 1) := by decide +kernel
theorem dX4_sizeOf_0 : decode cX4_sizeOf 0 = .ok (.iconst 0, 1) := by decide +kernel
theorem dX4_sizeOf_1 : decode cX4_sizeOf 1 = .ok (.istore_n 2, 1) := by decide +kernel
theorem dX4_sizeOf_2 : decode cX4_sizeOf 2 = .ok (.iconst 0, 1) := by decide +kernel
theorem dX4_sizeOf_3 : decode cX4_sizeOf 3 = .ok (.istore_n 3, 1) := by decide +kernel
theorem dX4_sizeOf_4 : decode cX4_sizeOf 4 = .ok (.iload_n 3, 1) := by decide +kernel
theorem dX4_sizeOf_5 : decode cX4_sizeOf 5 = .ok (.aload_n 0, 1) := by decide +kernel
theorem dX4_sizeOf_6 : decode cX4_sizeOf 6 = .ok (.getfield 67, 3) := by decide +kernel
theorem dX4_sizeOf_9 : decode cX4_sizeOf 9 = .ok (.if_icmp .ge 27, 3) := by decide +kernel
theorem dX4_sizeOf_12 : decode cX4_sizeOf 12 = .ok (.iload_n 2, 1) := by decide +kernel
theorem dX4_sizeOf_13 : decode cX4_sizeOf 13 = .ok (.aload_n 0, 1) := by decide +kernel
theorem dX4_sizeOf_14 : decode cX4_sizeOf 14 = .ok (.getfield 22, 3) := by decide +kernel
theorem dX4_sizeOf_17 : decode cX4_sizeOf 17 = .ok (.iload_n 3, 1) := by decide +kernel
theorem dX4_sizeOf_18 : decode cX4_sizeOf 18 = .ok (.iaload, 1) := by decide +kernel
theorem dX4_sizeOf_19 : decode cX4_sizeOf 19 = .ok (.iload_n 1, 1) := by decide +kernel
theorem dX4_sizeOf_20 : decode cX4_sizeOf 20 = .ok (.if_icmp .ne 7, 3) := by decide +kernel
theorem dX4_sizeOf_23 : decode cX4_sizeOf 23 = .ok (.iconst 1, 1) := by decide +kernel
theorem dX4_sizeOf_24 : decode cX4_sizeOf 24 = .ok (.goto 4, 3) := by decide +kernel
theorem dX4_sizeOf_27 : decode cX4_sizeOf 27 = .ok (.iconst 0, 1) := by decide +kernel
theorem dX4_sizeOf_28 : decode cX4_sizeOf 28 = .ok (.iadd, 1) := by decide +kernel
theorem dX4_sizeOf_29 : decode cX4_sizeOf 29 = .ok (.istore_n 2, 1) := by decide +kernel
theorem dX4_sizeOf_30 : decode cX4_sizeOf 30 = .ok (.iinc 3 1, 3) := by decide +kernel
theorem dX4_sizeOf_33 : decode cX4_sizeOf 33 = .ok (.goto (-29), 3) := by decide +kernel
theorem dX4_sizeOf_36 : decode cX4_sizeOf 36 = .ok (.iload_n 2, 1) := by decide +kernel
theorem dX4_sizeOf_37 : decode cX4_sizeOf 37 = .ok (.ireturn, 1) := by decide +kernel
theorem dX4_secondsOf_0 : decode cX4_secondsOf 0 = .ok (.iconst 0, 1) := by decide +kernel
theorem dX4_secondsOf_1 : decode cX4_secondsOf 1 = .ok (.istore_n 2, 1) := by decide +kernel
theorem dX4_secondsOf_2 : decode cX4_secondsOf 2 = .ok (.iconst 0, 1) := by decide +kernel
theorem dX4_secondsOf_3 : decode cX4_secondsOf 3 = .ok (.istore_n 3, 1) := by decide +kernel
theorem dX4_secondsOf_4 : decode cX4_secondsOf 4 = .ok (.iload_n 3, 1) := by decide +kernel
theorem dX4_secondsOf_5 : decode cX4_secondsOf 5 = .ok (.aload_n 0, 1) := by decide +kernel
theorem dX4_secondsOf_6 : decode cX4_secondsOf 6 = .ok (.getfield 67, 3) := by decide +kernel
theorem dX4_secondsOf_9 : decode cX4_secondsOf 9 = .ok (.if_icmp .ge 32, 3) := by decide +kernel
theorem dX4_secondsOf_12 : decode cX4_secondsOf 12 = .ok (.iload_n 2, 1) := by decide +kernel
theorem dX4_secondsOf_13 : decode cX4_secondsOf 13 = .ok (.aload_n 0, 1) := by decide +kernel
theorem dX4_secondsOf_14 : decode cX4_secondsOf 14 = .ok (.getfield 22, 3) := by decide +kernel
theorem dX4_secondsOf_17 : decode cX4_secondsOf 17 = .ok (.iload_n 3, 1) := by decide +kernel
theorem dX4_secondsOf_18 : decode cX4_secondsOf 18 = .ok (.iaload, 1) := by decide +kernel
theorem dX4_secondsOf_19 : decode cX4_secondsOf 19 = .ok (.iload_n 1, 1) := by decide +kernel
theorem dX4_secondsOf_20 : decode cX4_secondsOf 20 = .ok (.if_icmp .ne 12, 3) := by decide +kernel
theorem dX4_secondsOf_23 : decode cX4_secondsOf 23 = .ok (.aload_n 0, 1) := by decide +kernel
theorem dX4_secondsOf_24 : decode cX4_secondsOf 24 = .ok (.getfield 16, 3) := by decide +kernel
theorem dX4_secondsOf_27 : decode cX4_secondsOf 27 = .ok (.iload_n 3, 1) := by decide +kernel
theorem dX4_secondsOf_28 : decode cX4_secondsOf 28 = .ok (.iaload, 1) := by decide +kernel
theorem dX4_secondsOf_29 : decode cX4_secondsOf 29 = .ok (.goto 4, 3) := by decide +kernel
theorem dX4_secondsOf_32 : decode cX4_secondsOf 32 = .ok (.iconst 0, 1) := by decide +kernel
theorem dX4_secondsOf_33 : decode cX4_secondsOf 33 = .ok (.iadd, 1) := by decide +kernel
theorem dX4_secondsOf_34 : decode cX4_secondsOf 34 = .ok (.istore_n 2, 1) := by decide +kernel
theorem dX4_secondsOf_35 : decode cX4_secondsOf 35 = .ok (.iinc 3 1, 3) := by decide +kernel
theorem dX4_secondsOf_38 : decode cX4_secondsOf 38 = .ok (.goto (-34), 3) := by decide +kernel
theorem dX4_secondsOf_41 : decode cX4_secondsOf 41 = .ok (.iload_n 2, 1) := by decide +kernel
theorem dX4_secondsOf_42 : decode cX4_secondsOf 42 = .ok (.aload_n 0, 1) := by decide +kernel
theorem dX4_secondsOf_43 : decode cX4_secondsOf 43 = .ok (.iload_n 1, 1) := by decide +kernel
theorem dX4_secondsOf_44 : decode cX4_secondsOf 44 = .ok (.invokevirtual 96, 3) := by decide +kernel
theorem dX4_secondsOf_47 : decode cX4_secondsOf 47 = .ok (.isub, 1) := by decide +kernel
theorem dX4_secondsOf_48 : decode cX4_secondsOf 48 = .ok (.ireturn, 1) := by decide +kernel
theorem dX4_isWave_0 : decode cX4_isWave 0 = .ok (.iload_n 1, 1) := by decide +kernel
theorem dX4_isWave_1 : decode cX4_isWave 1 = .ok (.iconst 1, 1) := by decide +kernel
theorem dX4_isWave_2 : decode cX4_isWave 2 = .ok (.aload_n 0, 1) := by decide +kernel
theorem dX4_isWave_3 : decode cX4_isWave 3 = .ok (.getfield 99, 3) := by decide +kernel
theorem dX4_isWave_6 : decode cX4_isWave 6 = .ok (.invokestatic 70, 3) := by decide +kernel
theorem dX4_isWave_9 : decode cX4_isWave 9 = .ok (.ifCond .eq 15, 3) := by decide +kernel
theorem dX4_isWave_12 : decode cX4_isWave 12 = .ok (.aload_n 0, 1) := by decide +kernel
theorem dX4_isWave_13 : decode cX4_isWave 13 = .ok (.iload_n 1, 1) := by decide +kernel
theorem dX4_isWave_14 : decode cX4_isWave 14 = .ok (.invokevirtual 102, 3) := by decide +kernel
theorem dX4_isWave_17 : decode cX4_isWave 17 = .ok (.ifCond .le 7, 3) := by decide +kernel
theorem dX4_isWave_20 : decode cX4_isWave 20 = .ok (.iconst 1, 1) := by decide +kernel
theorem dX4_isWave_21 : decode cX4_isWave 21 = .ok (.goto 4, 3) := by decide +kernel
theorem dX4_isWave_24 : decode cX4_isWave 24 = .ok (.iconst 0, 1) := by decide +kernel
theorem dX4_isWave_25 : decode cX4_isWave 25 = .ok (.ireturn, 1) := by decide +kernel
theorem dX4_isOpen_0 : decode cX4_isOpen 0 = .ok (.aload_n 0, 1) := by decide +kernel
theorem dX4_isOpen_1 : decode cX4_isOpen 1 = .ok (.getfield 22, 3) := by decide +kernel
theorem dX4_isOpen_4 : decode cX4_isOpen 4 = .ok (.iload_n 1, 1) := by decide +kernel
theorem dX4_isOpen_5 : decode cX4_isOpen 5 = .ok (.iaload, 1) := by decide +kernel
theorem dX4_isOpen_6 : decode cX4_isOpen 6 = .ok (.ifCond .ne 35, 3) := by decide +kernel
theorem dX4_isOpen_9 : decode cX4_isOpen 9 = .ok (.aload_n 0, 1) := by decide +kernel
theorem dX4_isOpen_10 : decode cX4_isOpen 10 = .ok (.getfield 50, 3) := by decide +kernel
theorem dX4_isOpen_13 : decode cX4_isOpen 13 = .ok (.iload_n 1, 1) := by decide +kernel
theorem dX4_isOpen_14 : decode cX4_isOpen 14 = .ok (.iaload, 1) := by decide +kernel
theorem dX4_isOpen_15 : decode cX4_isOpen 15 = .ok (.ifCond .ne 26, 3) := by decide +kernel
theorem dX4_isOpen_18 : decode cX4_isOpen 18 = .ok (.aload_n 0, 1) := by decide +kernel
theorem dX4_isOpen_19 : decode cX4_isOpen 19 = .ok (.aload_n 0, 1) := by decide +kernel
theorem dX4_isOpen_20 : decode cX4_isOpen 20 = .ok (.getfield 19, 3) := by decide +kernel
theorem dX4_isOpen_23 : decode cX4_isOpen 23 = .ok (.iload_n 1, 1) := by decide +kernel
theorem dX4_isOpen_24 : decode cX4_isOpen 24 = .ok (.iaload, 1) := by decide +kernel
theorem dX4_isOpen_25 : decode cX4_isOpen 25 = .ok (.aload_n 0, 1) := by decide +kernel
theorem dX4_isOpen_26 : decode cX4_isOpen 26 = .ok (.getfield 7, 3) := by decide +kernel
theorem dX4_isOpen_29 : decode cX4_isOpen 29 = .ok (.iload_n 1, 1) := by decide +kernel
theorem dX4_isOpen_30 : decode cX4_isOpen 30 = .ok (.iaload, 1) := by decide +kernel
theorem dX4_isOpen_31 : decode cX4_isOpen 31 = .ok (.invokevirtual 105, 3) := by decide +kernel
theorem dX4_isOpen_34 : decode cX4_isOpen 34 = .ok (.ifCond .eq 7, 3) := by decide +kernel
theorem dX4_isOpen_37 : decode cX4_isOpen 37 = .ok (.iconst 1, 1) := by decide +kernel
theorem dX4_isOpen_38 : decode cX4_isOpen 38 = .ok (.goto 4, 3) := by decide +kernel
theorem dX4_isOpen_41 : decode cX4_isOpen 41 = .ok (.iconst 0, 1) := by decide +kernel
theorem dX4_isOpen_42 : decode cX4_isOpen 42 = .ok (.ireturn, 1) := by decide +kernel
theorem dX4_isEarlier_0 : decode cX4_isEarlier 0 = .ok (.iload_n 2, 1) := by decide +kernel
theorem dX4_isEarlier_1 : decode cX4_isEarlier 1 = .ok (.iconst (-1), 1) := by decide +kernel
theorem dX4_isEarlier_2 : decode cX4_isEarlier 2 = .ok (.if_icmp .eq 38, 3) := by decide +kernel
theorem dX4_isEarlier_5 : decode cX4_isEarlier 5 = .ok (.aload_n 0, 1) := by decide +kernel
theorem dX4_isEarlier_6 : decode cX4_isEarlier 6 = .ok (.getfield 7, 3) := by decide +kernel
theorem dX4_isEarlier_9 : decode cX4_isEarlier 9 = .ok (.iload_n 1, 1) := by decide +kernel
theorem dX4_isEarlier_10 : decode cX4_isEarlier 10 = .ok (.iaload, 1) := by decide +kernel
theorem dX4_isEarlier_11 : decode cX4_isEarlier 11 = .ok (.aload_n 0, 1) := by decide +kernel
theorem dX4_isEarlier_12 : decode cX4_isEarlier 12 = .ok (.getfield 7, 3) := by decide +kernel
theorem dX4_isEarlier_15 : decode cX4_isEarlier 15 = .ok (.iload_n 2, 1) := by decide +kernel
theorem dX4_isEarlier_16 : decode cX4_isEarlier 16 = .ok (.iaload, 1) := by decide +kernel
theorem dX4_isEarlier_17 : decode cX4_isEarlier 17 = .ok (.if_icmp .lt 23, 3) := by decide +kernel
theorem dX4_isEarlier_20 : decode cX4_isEarlier 20 = .ok (.aload_n 0, 1) := by decide +kernel
theorem dX4_isEarlier_21 : decode cX4_isEarlier 21 = .ok (.getfield 7, 3) := by decide +kernel
theorem dX4_isEarlier_24 : decode cX4_isEarlier 24 = .ok (.iload_n 1, 1) := by decide +kernel
theorem dX4_isEarlier_25 : decode cX4_isEarlier 25 = .ok (.iaload, 1) := by decide +kernel
theorem dX4_isEarlier_26 : decode cX4_isEarlier 26 = .ok (.aload_n 0, 1) := by decide +kernel
theorem dX4_isEarlier_27 : decode cX4_isEarlier 27 = .ok (.getfield 7, 3) := by decide +kernel
theorem dX4_isEarlier_30 : decode cX4_isEarlier 30 = .ok (.iload_n 2, 1) := by decide +kernel
theorem dX4_isEarlier_31 : decode cX4_isEarlier 31 = .ok (.iaload, 1) := by decide +kernel
theorem dX4_isEarlier_32 : decode cX4_isEarlier 32 = .ok (.if_icmp .ne 12, 3) := by decide +kernel
theorem dX4_isEarlier_35 : decode cX4_isEarlier 35 = .ok (.iload_n 1, 1) := by decide +kernel
theorem dX4_isEarlier_36 : decode cX4_isEarlier 36 = .ok (.iload_n 2, 1) := by decide +kernel
theorem dX4_isEarlier_37 : decode cX4_isEarlier 37 = .ok (.if_icmp .ge 7, 3) := by decide +kernel
theorem dX4_isEarlier_40 : decode cX4_isEarlier 40 = .ok (.iconst 1, 1) := by decide +kernel
theorem dX4_isEarlier_41 : decode cX4_isEarlier 41 = .ok (.goto 4, 3) := by decide +kernel
theorem dX4_isEarlier_44 : decode cX4_isEarlier 44 = .ok (.iconst 0, 1) := by decide +kernel
theorem dX4_isEarlier_45 : decode cX4_isEarlier 45 = .ok (.ireturn, 1) := by decide +kernel
theorem dX4_plan_0 : decode cX4_plan 0 = .ok (.aload_n 0, 1) := by decide +kernel
theorem dX4_plan_1 : decode cX4_plan 1 = .ok (.getfield 99, 3) := by decide +kernel
theorem dX4_plan_4 : decode cX4_plan 4 = .ok (.istore_n 1, 1) := by decide +kernel
theorem dX4_plan_5 : decode cX4_plan 5 = .ok (.aload_n 0, 1) := by decide +kernel
theorem dX4_plan_6 : decode cX4_plan 6 = .ok (.getfield 109, 3) := by decide +kernel
theorem dX4_plan_9 : decode cX4_plan 9 = .ok (.istore_n 2, 1) := by decide +kernel
theorem dX4_plan_10 : decode cX4_plan 10 = .ok (.iconst 0, 1) := by decide +kernel
theorem dX4_plan_11 : decode cX4_plan 11 = .ok (.istore_n 3, 1) := by decide +kernel
theorem dX4_plan_12 : decode cX4_plan 12 = .ok (.iconst 0, 1) := by decide +kernel
theorem dX4_plan_13 : decode cX4_plan 13 = .ok (.istore 4, 2) := by decide +kernel
theorem dX4_plan_15 : decode cX4_plan 15 = .ok (.iload 4, 2) := by decide +kernel
theorem dX4_plan_17 : decode cX4_plan 17 = .ok (.aload_n 0, 1) := by decide +kernel
theorem dX4_plan_18 : decode cX4_plan 18 = .ok (.getfield 67, 3) := by decide +kernel
theorem dX4_plan_21 : decode cX4_plan 21 = .ok (.if_icmp .ge 25, 3) := by decide +kernel
theorem dX4_plan_24 : decode cX4_plan 24 = .ok (.aload_n 0, 1) := by decide +kernel
theorem dX4_plan_25 : decode cX4_plan 25 = .ok (.getfield 50, 3) := by decide +kernel
theorem dX4_plan_28 : decode cX4_plan 28 = .ok (.iload 4, 2) := by decide +kernel
theorem dX4_plan_30 : decode cX4_plan 30 = .ok (.iconst 0, 1) := by decide +kernel
theorem dX4_plan_31 : decode cX4_plan 31 = .ok (.iastore, 1) := by decide +kernel
theorem dX4_plan_32 : decode cX4_plan 32 = .ok (.aload_n 0, 1) := by decide +kernel
theorem dX4_plan_33 : decode cX4_plan 33 = .ok (.getfield 56, 3) := by decide +kernel
theorem dX4_plan_36 : decode cX4_plan 36 = .ok (.iload 4, 2) := by decide +kernel
theorem dX4_plan_38 : decode cX4_plan 38 = .ok (.iconst 0, 1) := by decide +kernel
theorem dX4_plan_39 : decode cX4_plan 39 = .ok (.bastore, 1) := by decide +kernel
theorem dX4_plan_40 : decode cX4_plan 40 = .ok (.iinc 4 1, 3) := by decide +kernel
theorem dX4_plan_43 : decode cX4_plan 43 = .ok (.goto (-28), 3) := by decide +kernel
theorem dX4_plan_46 : decode cX4_plan 46 = .ok (.aload_n 0, 1) := by decide +kernel
theorem dX4_plan_47 : decode cX4_plan 47 = .ok (.invokevirtual 112, 3) := by decide +kernel
theorem dX4_plan_50 : decode cX4_plan 50 = .ok (.istore 4, 2) := by decide +kernel
theorem dX4_plan_52 : decode cX4_plan 52 = .ok (.iload 4, 2) := by decide +kernel
theorem dX4_plan_54 : decode cX4_plan 54 = .ok (.iconst (-1), 1) := by decide +kernel
theorem dX4_plan_55 : decode cX4_plan 55 = .ok (.if_icmp .eq 57, 3) := by decide +kernel
theorem dX4_plan_58 : decode cX4_plan 58 = .ok (.aload_n 0, 1) := by decide +kernel
theorem dX4_plan_59 : decode cX4_plan 59 = .ok (.getfield 56, 3) := by decide +kernel
theorem dX4_plan_62 : decode cX4_plan 62 = .ok (.iload 4, 2) := by decide +kernel
theorem dX4_plan_64 : decode cX4_plan 64 = .ok (.iconst 1, 1) := by decide +kernel
theorem dX4_plan_65 : decode cX4_plan 65 = .ok (.bastore, 1) := by decide +kernel
theorem dX4_plan_66 : decode cX4_plan 66 = .ok (.aload_n 0, 1) := by decide +kernel
theorem dX4_plan_67 : decode cX4_plan 67 = .ok (.getfield 16, 3) := by decide +kernel
theorem dX4_plan_70 : decode cX4_plan 70 = .ok (.iload 4, 2) := by decide +kernel
theorem dX4_plan_72 : decode cX4_plan 72 = .ok (.iaload, 1) := by decide +kernel
theorem dX4_plan_73 : decode cX4_plan 73 = .ok (.aload_n 0, 1) := by decide +kernel
theorem dX4_plan_74 : decode cX4_plan 74 = .ok (.getfield 60, 3) := by decide +kernel
theorem dX4_plan_77 : decode cX4_plan 77 = .ok (.if_icmp .le 6, 3) := by decide +kernel
theorem dX4_plan_80 : decode cX4_plan 80 = .ok (.goto 23, 3) := by decide +kernel
theorem dX4_plan_83 : decode cX4_plan 83 = .ok (.iinc 1 1, 3) := by decide +kernel
theorem dX4_plan_86 : decode cX4_plan 86 = .ok (.aload_n 0, 1) := by decide +kernel
theorem dX4_plan_87 : decode cX4_plan 87 = .ok (.iload 4, 2) := by decide +kernel
theorem dX4_plan_89 : decode cX4_plan 89 = .ok (.iload_n 1, 1) := by decide +kernel
theorem dX4_plan_90 : decode cX4_plan 90 = .ok (.invokevirtual 116, 3) := by decide +kernel
theorem dX4_plan_93 : decode cX4_plan 93 = .ok (.iload_n 3, 1) := by decide +kernel
theorem dX4_plan_94 : decode cX4_plan 94 = .ok (.aload_n 0, 1) := by decide +kernel
theorem dX4_plan_95 : decode cX4_plan 95 = .ok (.iload 4, 2) := by decide +kernel
theorem dX4_plan_97 : decode cX4_plan 97 = .ok (.iload_n 1, 1) := by decide +kernel
theorem dX4_plan_98 : decode cX4_plan 98 = .ok (.invokevirtual 120, 3) := by decide +kernel
theorem dX4_plan_101 : decode cX4_plan 101 = .ok (.iadd, 1) := by decide +kernel
theorem dX4_plan_102 : decode cX4_plan 102 = .ok (.istore_n 3, 1) := by decide +kernel
theorem dX4_plan_103 : decode cX4_plan 103 = .ok (.aload_n 0, 1) := by decide +kernel
theorem dX4_plan_104 : decode cX4_plan 104 = .ok (.invokevirtual 112, 3) := by decide +kernel
theorem dX4_plan_107 : decode cX4_plan 107 = .ok (.istore 4, 2) := by decide +kernel
theorem dX4_plan_109 : decode cX4_plan 109 = .ok (.goto (-57), 3) := by decide +kernel
theorem dX4_plan_112 : decode cX4_plan 112 = .ok (.aload_n 0, 1) := by decide +kernel
theorem dX4_plan_113 : decode cX4_plan 113 = .ok (.iload_n 1, 1) := by decide +kernel
theorem dX4_plan_114 : decode cX4_plan 114 = .ok (.bipush 16, 2) := by decide +kernel
theorem dX4_plan_116 : decode cX4_plan 116 = .ok (.if_icmp .le 7, 3) := by decide +kernel
theorem dX4_plan_119 : decode cX4_plan 119 = .ok (.iconst 1, 1) := by decide +kernel
theorem dX4_plan_120 : decode cX4_plan 120 = .ok (.goto 4, 3) := by decide +kernel
theorem dX4_plan_123 : decode cX4_plan 123 = .ok (.iconst 0, 1) := by decide +kernel
theorem dX4_plan_124 : decode cX4_plan 124 = .ok (.putfield 64, 3) := by decide +kernel
theorem dX4_plan_127 : decode cX4_plan 127 = .ok (.aload_n 0, 1) := by decide +kernel
theorem dX4_plan_128 : decode cX4_plan 128 = .ok (.getfield 64, 3) := by decide +kernel
theorem dX4_plan_131 : decode cX4_plan 131 = .ok (.ifCond .le 10, 3) := by decide +kernel
theorem dX4_plan_134 : decode cX4_plan 134 = .ok (.aload_n 0, 1) := by decide +kernel
theorem dX4_plan_135 : decode cX4_plan 135 = .ok (.iload_n 2, 1) := by decide +kernel
theorem dX4_plan_136 : decode cX4_plan 136 = .ok (.putfield 109, 3) := by decide +kernel
theorem dX4_plan_139 : decode cX4_plan 139 = .ok (.iconst 0, 1) := by decide +kernel
theorem dX4_plan_140 : decode cX4_plan 140 = .ok (.ireturn, 1) := by decide +kernel
theorem dX4_plan_141 : decode cX4_plan 141 = .ok (.iconst 0, 1) := by decide +kernel
theorem dX4_plan_142 : decode cX4_plan 142 = .ok (.istore 4, 2) := by decide +kernel
theorem dX4_plan_144 : decode cX4_plan 144 = .ok (.iload 4, 2) := by decide +kernel
theorem dX4_plan_146 : decode cX4_plan 146 = .ok (.aload_n 0, 1) := by decide +kernel
theorem dX4_plan_147 : decode cX4_plan 147 = .ok (.getfield 67, 3) := by decide +kernel
theorem dX4_plan_150 : decode cX4_plan 150 = .ok (.if_icmp .ge 50, 3) := by decide +kernel
theorem dX4_plan_153 : decode cX4_plan 153 = .ok (.aload_n 0, 1) := by decide +kernel
theorem dX4_plan_154 : decode cX4_plan 154 = .ok (.getfield 50, 3) := by decide +kernel
theorem dX4_plan_157 : decode cX4_plan 157 = .ok (.iload 4, 2) := by decide +kernel
theorem dX4_plan_159 : decode cX4_plan 159 = .ok (.iaload, 1) := by decide +kernel
theorem dX4_plan_160 : decode cX4_plan 160 = .ok (.ifCond .ne 6, 3) := by decide +kernel
theorem dX4_plan_163 : decode cX4_plan 163 = .ok (.goto 31, 3) := by decide +kernel
theorem dX4_plan_166 : decode cX4_plan 166 = .ok (.aload_n 0, 1) := by decide +kernel
theorem dX4_plan_167 : decode cX4_plan 167 = .ok (.getfield 22, 3) := by decide +kernel
theorem dX4_plan_170 : decode cX4_plan 170 = .ok (.iload 4, 2) := by decide +kernel
theorem dX4_plan_172 : decode cX4_plan 172 = .ok (.aload_n 0, 1) := by decide +kernel
theorem dX4_plan_173 : decode cX4_plan 173 = .ok (.getfield 50, 3) := by decide +kernel
theorem dX4_plan_176 : decode cX4_plan 176 = .ok (.iload 4, 2) := by decide +kernel
theorem dX4_plan_178 : decode cX4_plan 178 = .ok (.iaload, 1) := by decide +kernel
theorem dX4_plan_179 : decode cX4_plan 179 = .ok (.iastore, 1) := by decide +kernel
theorem dX4_plan_180 : decode cX4_plan 180 = .ok (.aload_n 0, 1) := by decide +kernel
theorem dX4_plan_181 : decode cX4_plan 181 = .ok (.getfield 25, 3) := by decide +kernel
theorem dX4_plan_184 : decode cX4_plan 184 = .ok (.iload 4, 2) := by decide +kernel
theorem dX4_plan_186 : decode cX4_plan 186 = .ok (.aload_n 0, 1) := by decide +kernel
theorem dX4_plan_187 : decode cX4_plan 187 = .ok (.getfield 53, 3) := by decide +kernel
theorem dX4_plan_190 : decode cX4_plan 190 = .ok (.iload 4, 2) := by decide +kernel
theorem dX4_plan_192 : decode cX4_plan 192 = .ok (.iaload, 1) := by decide +kernel
theorem dX4_plan_193 : decode cX4_plan 193 = .ok (.iastore, 1) := by decide +kernel
theorem dX4_plan_194 : decode cX4_plan 194 = .ok (.iinc 4 1, 3) := by decide +kernel
theorem dX4_plan_197 : decode cX4_plan 197 = .ok (.goto (-53), 3) := by decide +kernel
theorem dX4_plan_200 : decode cX4_plan 200 = .ok (.aload_n 0, 1) := by decide +kernel
theorem dX4_plan_201 : decode cX4_plan 201 = .ok (.iload_n 1, 1) := by decide +kernel
theorem dX4_plan_202 : decode cX4_plan 202 = .ok (.putfield 99, 3) := by decide +kernel
theorem dX4_plan_205 : decode cX4_plan 205 = .ok (.iload_n 3, 1) := by decide +kernel
theorem dX4_plan_206 : decode cX4_plan 206 = .ok (.ireturn, 1) := by decide +kernel
theorem dX4_begin_0 : decode cX4_begin 0 = .ok (.iconst (-1), 1) := by decide +kernel
theorem dX4_begin_1 : decode cX4_begin 1 = .ok (.istore_n 1, 1) := by decide +kernel
theorem dX4_begin_2 : decode cX4_begin 2 = .ok (.iconst 0, 1) := by decide +kernel
theorem dX4_begin_3 : decode cX4_begin 3 = .ok (.istore_n 2, 1) := by decide +kernel
theorem dX4_begin_4 : decode cX4_begin 4 = .ok (.iload_n 2, 1) := by decide +kernel
theorem dX4_begin_5 : decode cX4_begin 5 = .ok (.aload_n 0, 1) := by decide +kernel
theorem dX4_begin_6 : decode cX4_begin 6 = .ok (.getfield 67, 3) := by decide +kernel
theorem dX4_begin_9 : decode cX4_begin 9 = .ok (.if_icmp .ge 37, 3) := by decide +kernel
theorem dX4_begin_12 : decode cX4_begin 12 = .ok (.aload_n 0, 1) := by decide +kernel
theorem dX4_begin_13 : decode cX4_begin 13 = .ok (.iload_n 2, 1) := by decide +kernel
theorem dX4_begin_14 : decode cX4_begin 14 = .ok (.invokevirtual 123, 3) := by decide +kernel
theorem dX4_begin_17 : decode cX4_begin 17 = .ok (.ifCond .eq 23, 3) := by decide +kernel
theorem dX4_begin_20 : decode cX4_begin 20 = .ok (.aload_n 0, 1) := by decide +kernel
theorem dX4_begin_21 : decode cX4_begin 21 = .ok (.getfield 56, 3) := by decide +kernel
theorem dX4_begin_24 : decode cX4_begin 24 = .ok (.iload_n 2, 1) := by decide +kernel
theorem dX4_begin_25 : decode cX4_begin 25 = .ok (.baload, 1) := by decide +kernel
theorem dX4_begin_26 : decode cX4_begin 26 = .ok (.ifCond .ne 14, 3) := by decide +kernel
theorem dX4_begin_29 : decode cX4_begin 29 = .ok (.aload_n 0, 1) := by decide +kernel
theorem dX4_begin_30 : decode cX4_begin 30 = .ok (.iload_n 2, 1) := by decide +kernel
theorem dX4_begin_31 : decode cX4_begin 31 = .ok (.iload_n 1, 1) := by decide +kernel
theorem dX4_begin_32 : decode cX4_begin 32 = .ok (.invokevirtual 126, 3) := by decide +kernel
theorem dX4_begin_35 : decode cX4_begin 35 = .ok (.ifCond .eq 5, 3) := by decide +kernel
theorem dX4_begin_38 : decode cX4_begin 38 = .ok (.iload_n 2, 1) := by decide +kernel
theorem dX4_begin_39 : decode cX4_begin 39 = .ok (.istore_n 1, 1) := by decide +kernel
theorem dX4_begin_40 : decode cX4_begin 40 = .ok (.iinc 2 1, 3) := by decide +kernel
theorem dX4_begin_43 : decode cX4_begin 43 = .ok (.goto (-39), 3) := by decide +kernel
theorem dX4_begin_46 : decode cX4_begin 46 = .ok (.iload_n 1, 1) := by decide +kernel
theorem dX4_begin_47 : decode cX4_begin 47 = .ok (.ireturn, 1) := by decide +kernel
theorem dX4_put_0 : decode cX4_put 0 = .ok (.aload_n 0, 1) := by decide +kernel
theorem dX4_put_1 : decode cX4_put 1 = .ok (.getfield 50, 3) := by decide +kernel
theorem dX4_put_4 : decode cX4_put 4 = .ok (.iload_n 1, 1) := by decide +kernel
theorem dX4_put_5 : decode cX4_put 5 = .ok (.iload_n 2, 1) := by decide +kernel
theorem dX4_put_6 : decode cX4_put 6 = .ok (.iastore, 1) := by decide +kernel
theorem dX4_put_7 : decode cX4_put 7 = .ok (.aload_n 0, 1) := by decide +kernel
theorem dX4_put_8 : decode cX4_put 8 = .ok (.getfield 53, 3) := by decide +kernel
theorem dX4_put_11 : decode cX4_put 11 = .ok (.iload_n 1, 1) := by decide +kernel
theorem dX4_put_12 : decode cX4_put 12 = .ok (.aload_n 0, 1) := by decide +kernel
theorem dX4_put_13 : decode cX4_put 13 = .ok (.getfield 109, 3) := by decide +kernel
theorem dX4_put_16 : decode cX4_put 16 = .ok (.iastore, 1) := by decide +kernel
theorem dX4_put_17 : decode cX4_put 17 = .ok (.aload_n 0, 1) := by decide +kernel
theorem dX4_put_18 : decode cX4_put 18 = .ok (.dup, 1) := by decide +kernel
theorem dX4_put_19 : decode cX4_put 19 = .ok (.getfield 109, 3) := by decide +kernel
theorem dX4_put_22 : decode cX4_put 22 = .ok (.iconst 1, 1) := by decide +kernel
theorem dX4_put_23 : decode cX4_put 23 = .ok (.iadd, 1) := by decide +kernel
theorem dX4_put_24 : decode cX4_put 24 = .ok (.putfield 109, 3) := by decide +kernel
theorem dX4_put_27 : decode cX4_put 27 = .ok (.return_, 1) := by decide +kernel
theorem dX4_fill_0 : decode cX4_fill 0 = .ok (.aload_n 0, 1) := by decide +kernel
theorem dX4_fill_1 : decode cX4_fill 1 = .ok (.getfield 16, 3) := by decide +kernel
theorem dX4_fill_4 : decode cX4_fill 4 = .ok (.iload_n 1, 1) := by decide +kernel
theorem dX4_fill_5 : decode cX4_fill 5 = .ok (.iaload, 1) := by decide +kernel
theorem dX4_fill_6 : decode cX4_fill 6 = .ok (.istore_n 3, 1) := by decide +kernel
theorem dX4_fill_7 : decode cX4_fill 7 = .ok (.iconst 0, 1) := by decide +kernel
theorem dX4_fill_8 : decode cX4_fill 8 = .ok (.istore 4, 2) := by decide +kernel
theorem dX4_fill_10 : decode cX4_fill 10 = .ok (.aload_n 0, 1) := by decide +kernel
theorem dX4_fill_11 : decode cX4_fill 11 = .ok (.iload_n 2, 1) := by decide +kernel
theorem dX4_fill_12 : decode cX4_fill 12 = .ok (.aload_n 0, 1) := by decide +kernel
theorem dX4_fill_13 : decode cX4_fill 13 = .ok (.getfield 19, 3) := by decide +kernel
theorem dX4_fill_16 : decode cX4_fill 16 = .ok (.iload_n 1, 1) := by decide +kernel
theorem dX4_fill_17 : decode cX4_fill 17 = .ok (.iaload, 1) := by decide +kernel
theorem dX4_fill_18 : decode cX4_fill 18 = .ok (.iload_n 3, 1) := by decide +kernel
theorem dX4_fill_19 : decode cX4_fill 19 = .ok (.invokevirtual 129, 3) := by decide +kernel
theorem dX4_fill_22 : decode cX4_fill 22 = .ok (.istore 5, 2) := by decide +kernel
theorem dX4_fill_24 : decode cX4_fill 24 = .ok (.iload 5, 2) := by decide +kernel
theorem dX4_fill_26 : decode cX4_fill 26 = .ok (.iconst (-1), 1) := by decide +kernel
theorem dX4_fill_27 : decode cX4_fill 27 = .ok (.if_icmp .eq 56, 3) := by decide +kernel
theorem dX4_fill_30 : decode cX4_fill 30 = .ok (.aload_n 0, 1) := by decide +kernel
theorem dX4_fill_31 : decode cX4_fill 31 = .ok (.iload 5, 2) := by decide +kernel
theorem dX4_fill_33 : decode cX4_fill 33 = .ok (.iload_n 2, 1) := by decide +kernel
theorem dX4_fill_34 : decode cX4_fill 34 = .ok (.invokevirtual 133, 3) := by decide +kernel
theorem dX4_fill_37 : decode cX4_fill 37 = .ok (.istore 6, 2) := by decide +kernel
theorem dX4_fill_39 : decode cX4_fill 39 = .ok (.aload_n 0, 1) := by decide +kernel
theorem dX4_fill_40 : decode cX4_fill 40 = .ok (.iload 5, 2) := by decide +kernel
theorem dX4_fill_42 : decode cX4_fill 42 = .ok (.iload_n 2, 1) := by decide +kernel
theorem dX4_fill_43 : decode cX4_fill 43 = .ok (.invokevirtual 116, 3) := by decide +kernel
theorem dX4_fill_46 : decode cX4_fill 46 = .ok (.iload_n 3, 1) := by decide +kernel
theorem dX4_fill_47 : decode cX4_fill 47 = .ok (.aload_n 0, 1) := by decide +kernel
theorem dX4_fill_48 : decode cX4_fill 48 = .ok (.getfield 16, 3) := by decide +kernel
theorem dX4_fill_51 : decode cX4_fill 51 = .ok (.iload 5, 2) := by decide +kernel
theorem dX4_fill_53 : decode cX4_fill 53 = .ok (.iaload, 1) := by decide +kernel
theorem dX4_fill_54 : decode cX4_fill 54 = .ok (.iload 6, 2) := by decide +kernel
theorem dX4_fill_56 : decode cX4_fill 56 = .ok (.isub, 1) := by decide +kernel
theorem dX4_fill_57 : decode cX4_fill 57 = .ok (.iadd, 1) := by decide +kernel
theorem dX4_fill_58 : decode cX4_fill 58 = .ok (.istore_n 3, 1) := by decide +kernel
theorem dX4_fill_59 : decode cX4_fill 59 = .ok (.iload 4, 2) := by decide +kernel
theorem dX4_fill_61 : decode cX4_fill 61 = .ok (.iload 6, 2) := by decide +kernel
theorem dX4_fill_63 : decode cX4_fill 63 = .ok (.iadd, 1) := by decide +kernel
theorem dX4_fill_64 : decode cX4_fill 64 = .ok (.istore 4, 2) := by decide +kernel
theorem dX4_fill_66 : decode cX4_fill 66 = .ok (.aload_n 0, 1) := by decide +kernel
theorem dX4_fill_67 : decode cX4_fill 67 = .ok (.iload_n 2, 1) := by decide +kernel
theorem dX4_fill_68 : decode cX4_fill 68 = .ok (.aload_n 0, 1) := by decide +kernel
theorem dX4_fill_69 : decode cX4_fill 69 = .ok (.getfield 19, 3) := by decide +kernel
theorem dX4_fill_72 : decode cX4_fill 72 = .ok (.iload_n 1, 1) := by decide +kernel
theorem dX4_fill_73 : decode cX4_fill 73 = .ok (.iaload, 1) := by decide +kernel
theorem dX4_fill_74 : decode cX4_fill 74 = .ok (.iload_n 3, 1) := by decide +kernel
theorem dX4_fill_75 : decode cX4_fill 75 = .ok (.invokevirtual 129, 3) := by decide +kernel
theorem dX4_fill_78 : decode cX4_fill 78 = .ok (.istore 5, 2) := by decide +kernel
theorem dX4_fill_80 : decode cX4_fill 80 = .ok (.goto (-56), 3) := by decide +kernel
theorem dX4_fill_83 : decode cX4_fill 83 = .ok (.iload 4, 2) := by decide +kernel
theorem dX4_fill_85 : decode cX4_fill 85 = .ok (.ireturn, 1) := by decide +kernel
theorem dX4_most_0 : decode cX4_most 0 = .ok (.iconst 0, 1) := by decide +kernel
theorem dX4_most_1 : decode cX4_most 1 = .ok (.istore_n 3, 1) := by decide +kernel
theorem dX4_most_2 : decode cX4_most 2 = .ok (.iconst 0, 1) := by decide +kernel
theorem dX4_most_3 : decode cX4_most 3 = .ok (.istore 4, 2) := by decide +kernel
theorem dX4_most_5 : decode cX4_most 5 = .ok (.iload 4, 2) := by decide +kernel
theorem dX4_most_7 : decode cX4_most 7 = .ok (.aload_n 0, 1) := by decide +kernel
theorem dX4_most_8 : decode cX4_most 8 = .ok (.getfield 67, 3) := by decide +kernel
theorem dX4_most_11 : decode cX4_most 11 = .ok (.if_icmp .ge 39, 3) := by decide +kernel
theorem dX4_most_14 : decode cX4_most 14 = .ok (.aload_n 0, 1) := by decide +kernel
theorem dX4_most_15 : decode cX4_most 15 = .ok (.getfield 50, 3) := by decide +kernel
theorem dX4_most_18 : decode cX4_most 18 = .ok (.iload 4, 2) := by decide +kernel
theorem dX4_most_20 : decode cX4_most 20 = .ok (.iaload, 1) := by decide +kernel
theorem dX4_most_21 : decode cX4_most 21 = .ok (.iload_n 2, 1) := by decide +kernel
theorem dX4_most_22 : decode cX4_most 22 = .ok (.if_icmp .ne 22, 3) := by decide +kernel
theorem dX4_most_25 : decode cX4_most 25 = .ok (.aload_n 0, 1) := by decide +kernel
theorem dX4_most_26 : decode cX4_most 26 = .ok (.iload 4, 2) := by decide +kernel
theorem dX4_most_28 : decode cX4_most 28 = .ok (.iload_n 1, 1) := by decide +kernel
theorem dX4_most_29 : decode cX4_most 29 = .ok (.invokevirtual 89, 3) := by decide +kernel
theorem dX4_most_32 : decode cX4_most 32 = .ok (.iload_n 3, 1) := by decide +kernel
theorem dX4_most_33 : decode cX4_most 33 = .ok (.if_icmp .le 11, 3) := by decide +kernel
theorem dX4_most_36 : decode cX4_most 36 = .ok (.aload_n 0, 1) := by decide +kernel
theorem dX4_most_37 : decode cX4_most 37 = .ok (.iload 4, 2) := by decide +kernel
theorem dX4_most_39 : decode cX4_most 39 = .ok (.iload_n 1, 1) := by decide +kernel
theorem dX4_most_40 : decode cX4_most 40 = .ok (.invokevirtual 89, 3) := by decide +kernel
theorem dX4_most_43 : decode cX4_most 43 = .ok (.istore_n 3, 1) := by decide +kernel
theorem dX4_most_44 : decode cX4_most 44 = .ok (.iinc 4 1, 3) := by decide +kernel
theorem dX4_most_47 : decode cX4_most 47 = .ok (.goto (-42), 3) := by decide +kernel
theorem dX4_most_50 : decode cX4_most 50 = .ok (.iload_n 3, 1) := by decide +kernel
theorem dX4_most_51 : decode cX4_most 51 = .ok (.ireturn, 1) := by decide +kernel
theorem dX4_best_0 : decode cX4_best 0 = .ok (.iconst (-1), 1) := by decide +kernel
theorem dX4_best_1 : decode cX4_best 1 = .ok (.istore 4, 2) := by decide +kernel
theorem dX4_best_3 : decode cX4_best 3 = .ok (.iconst 0, 1) := by decide +kernel
theorem dX4_best_4 : decode cX4_best 4 = .ok (.istore 5, 2) := by decide +kernel
theorem dX4_best_6 : decode cX4_best 6 = .ok (.iload 5, 2) := by decide +kernel
theorem dX4_best_8 : decode cX4_best 8 = .ok (.aload_n 0, 1) := by decide +kernel
theorem dX4_best_9 : decode cX4_best 9 = .ok (.getfield 67, 3) := by decide +kernel
theorem dX4_best_12 : decode cX4_best 12 = .ok (.if_icmp .ge 111, 3) := by decide +kernel
theorem dX4_best_15 : decode cX4_best 15 = .ok (.aload_n 0, 1) := by decide +kernel
theorem dX4_best_16 : decode cX4_best 16 = .ok (.iload 5, 2) := by decide +kernel
theorem dX4_best_18 : decode cX4_best 18 = .ok (.invokevirtual 123, 3) := by decide +kernel
theorem dX4_best_21 : decode cX4_best 21 = .ok (.ifCond .eq 96, 3) := by decide +kernel
theorem dX4_best_24 : decode cX4_best 24 = .ok (.aload_n 0, 1) := by decide +kernel
theorem dX4_best_25 : decode cX4_best 25 = .ok (.getfield 19, 3) := by decide +kernel
theorem dX4_best_28 : decode cX4_best 28 = .ok (.iload 5, 2) := by decide +kernel
theorem dX4_best_30 : decode cX4_best 30 = .ok (.iaload, 1) := by decide +kernel
theorem dX4_best_31 : decode cX4_best 31 = .ok (.iload_n 2, 1) := by decide +kernel
theorem dX4_best_32 : decode cX4_best 32 = .ok (.if_icmp .ne 85, 3) := by decide +kernel
theorem dX4_best_35 : decode cX4_best 35 = .ok (.iload_n 3, 1) := by decide +kernel
theorem dX4_best_36 : decode cX4_best 36 = .ok (.aload_n 0, 1) := by decide +kernel
theorem dX4_best_37 : decode cX4_best 37 = .ok (.getfield 16, 3) := by decide +kernel
theorem dX4_best_40 : decode cX4_best 40 = .ok (.iload 5, 2) := by decide +kernel
theorem dX4_best_42 : decode cX4_best 42 = .ok (.iaload, 1) := by decide +kernel
theorem dX4_best_43 : decode cX4_best 43 = .ok (.iadd, 1) := by decide +kernel
theorem dX4_best_44 : decode cX4_best 44 = .ok (.aload_n 0, 1) := by decide +kernel
theorem dX4_best_45 : decode cX4_best 45 = .ok (.iload 5, 2) := by decide +kernel
theorem dX4_best_47 : decode cX4_best 47 = .ok (.iload_n 1, 1) := by decide +kernel
theorem dX4_best_48 : decode cX4_best 48 = .ok (.invokevirtual 133, 3) := by decide +kernel
theorem dX4_best_51 : decode cX4_best 51 = .ok (.isub, 1) := by decide +kernel
theorem dX4_best_52 : decode cX4_best 52 = .ok (.aload_n 0, 1) := by decide +kernel
theorem dX4_best_53 : decode cX4_best 53 = .ok (.getfield 60, 3) := by decide +kernel
theorem dX4_best_56 : decode cX4_best 56 = .ok (.if_icmp .le 6, 3) := by decide +kernel
theorem dX4_best_59 : decode cX4_best 59 = .ok (.goto 58, 3) := by decide +kernel
theorem dX4_best_62 : decode cX4_best 62 = .ok (.iload 4, 2) := by decide +kernel
theorem dX4_best_64 : decode cX4_best 64 = .ok (.iconst (-1), 1) := by decide +kernel
theorem dX4_best_65 : decode cX4_best 65 = .ok (.if_icmp .eq 48, 3) := by decide +kernel
theorem dX4_best_68 : decode cX4_best 68 = .ok (.aload_n 0, 1) := by decide +kernel
theorem dX4_best_69 : decode cX4_best 69 = .ok (.iload 5, 2) := by decide +kernel
theorem dX4_best_71 : decode cX4_best 71 = .ok (.iload_n 1, 1) := by decide +kernel
theorem dX4_best_72 : decode cX4_best 72 = .ok (.invokevirtual 133, 3) := by decide +kernel
theorem dX4_best_75 : decode cX4_best 75 = .ok (.aload_n 0, 1) := by decide +kernel
theorem dX4_best_76 : decode cX4_best 76 = .ok (.iload 4, 2) := by decide +kernel
theorem dX4_best_78 : decode cX4_best 78 = .ok (.iload_n 1, 1) := by decide +kernel
theorem dX4_best_79 : decode cX4_best 79 = .ok (.invokevirtual 133, 3) := by decide +kernel
theorem dX4_best_82 : decode cX4_best 82 = .ok (.if_icmp .gt 31, 3) := by decide +kernel
theorem dX4_best_85 : decode cX4_best 85 = .ok (.aload_n 0, 1) := by decide +kernel
theorem dX4_best_86 : decode cX4_best 86 = .ok (.iload 5, 2) := by decide +kernel
theorem dX4_best_88 : decode cX4_best 88 = .ok (.iload_n 1, 1) := by decide +kernel
theorem dX4_best_89 : decode cX4_best 89 = .ok (.invokevirtual 133, 3) := by decide +kernel
theorem dX4_best_92 : decode cX4_best 92 = .ok (.aload_n 0, 1) := by decide +kernel
theorem dX4_best_93 : decode cX4_best 93 = .ok (.iload 4, 2) := by decide +kernel
theorem dX4_best_95 : decode cX4_best 95 = .ok (.iload_n 1, 1) := by decide +kernel
theorem dX4_best_96 : decode cX4_best 96 = .ok (.invokevirtual 133, 3) := by decide +kernel
theorem dX4_best_99 : decode cX4_best 99 = .ok (.if_icmp .ne 18, 3) := by decide +kernel
theorem dX4_best_102 : decode cX4_best 102 = .ok (.aload_n 0, 1) := by decide +kernel
theorem dX4_best_103 : decode cX4_best 103 = .ok (.iload 5, 2) := by decide +kernel
theorem dX4_best_105 : decode cX4_best 105 = .ok (.iload 4, 2) := by decide +kernel
theorem dX4_best_107 : decode cX4_best 107 = .ok (.invokevirtual 126, 3) := by decide +kernel
theorem dX4_best_110 : decode cX4_best 110 = .ok (.ifCond .eq 7, 3) := by decide +kernel
theorem dX4_best_113 : decode cX4_best 113 = .ok (.iload 5, 2) := by decide +kernel
theorem dX4_best_115 : decode cX4_best 115 = .ok (.istore 4, 2) := by decide +kernel
theorem dX4_best_117 : decode cX4_best 117 = .ok (.iinc 5 1, 3) := by decide +kernel
theorem dX4_best_120 : decode cX4_best 120 = .ok (.goto (-114), 3) := by decide +kernel
theorem dX4_best_123 : decode cX4_best 123 = .ok (.iload 4, 2) := by decide +kernel
theorem dX4_best_125 : decode cX4_best 125 = .ok (.ireturn, 1) := by decide +kernel
theorem dX4_wave_0 : decode cX4_wave 0 = .ok (.aload_n 0, 1) := by decide +kernel
theorem dX4_wave_1 : decode cX4_wave 1 = .ok (.aload_n 0, 1) := by decide +kernel
theorem dX4_wave_2 : decode cX4_wave 2 = .ok (.iload_n 1, 1) := by decide +kernel
theorem dX4_wave_3 : decode cX4_wave 3 = .ok (.invokevirtual 79, 3) := by decide +kernel
theorem dX4_wave_6 : decode cX4_wave 6 = .ok (.ifCond .eq 7, 3) := by decide +kernel
theorem dX4_wave_9 : decode cX4_wave 9 = .ok (.iconst 0, 1) := by decide +kernel
theorem dX4_wave_10 : decode cX4_wave 10 = .ok (.goto 4, 3) := by decide +kernel
theorem dX4_wave_13 : decode cX4_wave 13 = .ok (.iconst 1, 1) := by decide +kernel
theorem dX4_wave_14 : decode cX4_wave 14 = .ok (.putfield 64, 3) := by decide +kernel
theorem dX4_wave_17 : decode cX4_wave 17 = .ok (.aload_n 0, 1) := by decide +kernel
theorem dX4_wave_18 : decode cX4_wave 18 = .ok (.getfield 64, 3) := by decide +kernel
theorem dX4_wave_21 : decode cX4_wave 21 = .ok (.ifCond .le 7, 3) := by decide +kernel
theorem dX4_wave_24 : decode cX4_wave 24 = .ok (.iconst 0, 1) := by decide +kernel
theorem dX4_wave_25 : decode cX4_wave 25 = .ok (.goto 9, 3) := by decide +kernel
theorem dX4_wave_28 : decode cX4_wave 28 = .ok (.aload_n 0, 1) := by decide +kernel
theorem dX4_wave_29 : decode cX4_wave 29 = .ok (.getfield 22, 3) := by decide +kernel
theorem dX4_wave_32 : decode cX4_wave 32 = .ok (.iload_n 1, 1) := by decide +kernel
theorem dX4_wave_33 : decode cX4_wave 33 = .ok (.iaload, 1) := by decide +kernel
theorem dX4_wave_34 : decode cX4_wave 34 = .ok (.ireturn, 1) := by decide +kernel
theorem dX4_memberAt_0 : decode cX4_memberAt 0 = .ok (.iconst 0, 1) := by decide +kernel
theorem dX4_memberAt_1 : decode cX4_memberAt 1 = .ok (.istore_n 3, 1) := by decide +kernel
theorem dX4_memberAt_2 : decode cX4_memberAt 2 = .ok (.iload_n 3, 1) := by decide +kernel
theorem dX4_memberAt_3 : decode cX4_memberAt 3 = .ok (.aload_n 0, 1) := by decide +kernel
theorem dX4_memberAt_4 : decode cX4_memberAt 4 = .ok (.getfield 67, 3) := by decide +kernel
theorem dX4_memberAt_7 : decode cX4_memberAt 7 = .ok (.if_icmp .ge 88, 3) := by decide +kernel
theorem dX4_memberAt_10 : decode cX4_memberAt 10 = .ok (.aload_n 0, 1) := by decide +kernel
theorem dX4_memberAt_11 : decode cX4_memberAt 11 = .ok (.getfield 22, 3) := by decide +kernel
theorem dX4_memberAt_14 : decode cX4_memberAt 14 = .ok (.iload_n 3, 1) := by decide +kernel
theorem dX4_memberAt_15 : decode cX4_memberAt 15 = .ok (.iaload, 1) := by decide +kernel
theorem dX4_memberAt_16 : decode cX4_memberAt 16 = .ok (.iload_n 1, 1) := by decide +kernel
theorem dX4_memberAt_17 : decode cX4_memberAt 17 = .ok (.if_icmp .eq 6, 3) := by decide +kernel
theorem dX4_memberAt_20 : decode cX4_memberAt 20 = .ok (.goto 69, 3) := by decide +kernel
theorem dX4_memberAt_23 : decode cX4_memberAt 23 = .ok (.iconst 0, 1) := by decide +kernel
theorem dX4_memberAt_24 : decode cX4_memberAt 24 = .ok (.istore 4, 2) := by decide +kernel
theorem dX4_memberAt_26 : decode cX4_memberAt 26 = .ok (.iconst 0, 1) := by decide +kernel
theorem dX4_memberAt_27 : decode cX4_memberAt 27 = .ok (.istore 5, 2) := by decide +kernel
theorem dX4_memberAt_29 : decode cX4_memberAt 29 = .ok (.iload 5, 2) := by decide +kernel
theorem dX4_memberAt_31 : decode cX4_memberAt 31 = .ok (.aload_n 0, 1) := by decide +kernel
theorem dX4_memberAt_32 : decode cX4_memberAt 32 = .ok (.getfield 67, 3) := by decide +kernel
theorem dX4_memberAt_35 : decode cX4_memberAt 35 = .ok (.if_icmp .ge 46, 3) := by decide +kernel
theorem dX4_memberAt_38 : decode cX4_memberAt 38 = .ok (.iload 4, 2) := by decide +kernel
theorem dX4_memberAt_40 : decode cX4_memberAt 40 = .ok (.aload_n 0, 1) := by decide +kernel
theorem dX4_memberAt_41 : decode cX4_memberAt 41 = .ok (.getfield 22, 3) := by decide +kernel
theorem dX4_memberAt_44 : decode cX4_memberAt 44 = .ok (.iload 5, 2) := by decide +kernel
theorem dX4_memberAt_46 : decode cX4_memberAt 46 = .ok (.iaload, 1) := by decide +kernel
theorem dX4_memberAt_47 : decode cX4_memberAt 47 = .ok (.iload_n 1, 1) := by decide +kernel
theorem dX4_memberAt_48 : decode cX4_memberAt 48 = .ok (.if_icmp .ne 23, 3) := by decide +kernel
theorem dX4_memberAt_51 : decode cX4_memberAt 51 = .ok (.aload_n 0, 1) := by decide +kernel
theorem dX4_memberAt_52 : decode cX4_memberAt 52 = .ok (.getfield 25, 3) := by decide +kernel
theorem dX4_memberAt_55 : decode cX4_memberAt 55 = .ok (.iload 5, 2) := by decide +kernel
theorem dX4_memberAt_57 : decode cX4_memberAt 57 = .ok (.iaload, 1) := by decide +kernel
theorem dX4_memberAt_58 : decode cX4_memberAt 58 = .ok (.aload_n 0, 1) := by decide +kernel
theorem dX4_memberAt_59 : decode cX4_memberAt 59 = .ok (.getfield 25, 3) := by decide +kernel
theorem dX4_memberAt_62 : decode cX4_memberAt 62 = .ok (.iload_n 3, 1) := by decide +kernel
theorem dX4_memberAt_63 : decode cX4_memberAt 63 = .ok (.iaload, 1) := by decide +kernel
theorem dX4_memberAt_64 : decode cX4_memberAt 64 = .ok (.if_icmp .ge 7, 3) := by decide +kernel
theorem dX4_memberAt_67 : decode cX4_memberAt 67 = .ok (.iconst 1, 1) := by decide +kernel
theorem dX4_memberAt_68 : decode cX4_memberAt 68 = .ok (.goto 4, 3) := by decide +kernel
theorem dX4_memberAt_71 : decode cX4_memberAt 71 = .ok (.iconst 0, 1) := by decide +kernel
theorem dX4_memberAt_72 : decode cX4_memberAt 72 = .ok (.iadd, 1) := by decide +kernel
theorem dX4_memberAt_73 : decode cX4_memberAt 73 = .ok (.istore 4, 2) := by decide +kernel
theorem dX4_memberAt_75 : decode cX4_memberAt 75 = .ok (.iinc 5 1, 3) := by decide +kernel
theorem dX4_memberAt_78 : decode cX4_memberAt 78 = .ok (.goto (-49), 3) := by decide +kernel
theorem dX4_memberAt_81 : decode cX4_memberAt 81 = .ok (.iload 4, 2) := by decide +kernel
theorem dX4_memberAt_83 : decode cX4_memberAt 83 = .ok (.iload_n 2, 1) := by decide +kernel
theorem dX4_memberAt_84 : decode cX4_memberAt 84 = .ok (.if_icmp .ne 5, 3) := by decide +kernel
theorem dX4_memberAt_87 : decode cX4_memberAt 87 = .ok (.iload_n 3, 1) := by decide +kernel
theorem dX4_memberAt_88 : decode cX4_memberAt 88 = .ok (.ireturn, 1) := by decide +kernel
theorem dX4_memberAt_89 : decode cX4_memberAt 89 = .ok (.iinc 3 1, 3) := by decide +kernel
theorem dX4_memberAt_92 : decode cX4_memberAt 92 = .ok (.goto (-90), 3) := by decide +kernel
theorem dX4_memberAt_95 : decode cX4_memberAt 95 = .ok (.iconst (-1), 1) := by decide +kernel
theorem dX4_memberAt_96 : decode cX4_memberAt 96 = .ok (.ireturn, 1) := by decide +kernel
theorem dX4_told_0 : decode cX4_told 0 = .ok (.aload_n 0, 1) := by decide +kernel
theorem dX4_told_1 : decode cX4_told 1 = .ok (.aload_n 0, 1) := by decide +kernel
theorem dX4_told_2 : decode cX4_told 2 = .ok (.iload_n 1, 1) := by decide +kernel
theorem dX4_told_3 : decode cX4_told 3 = .ok (.invokevirtual 136, 3) := by decide +kernel
theorem dX4_told_6 : decode cX4_told 6 = .ok (.ifCond .ne 7, 3) := by decide +kernel
theorem dX4_told_9 : decode cX4_told 9 = .ok (.iconst 1, 1) := by decide +kernel
theorem dX4_told_10 : decode cX4_told 10 = .ok (.goto 18, 3) := by decide +kernel
theorem dX4_told_13 : decode cX4_told 13 = .ok (.iload_n 2, 1) := by decide +kernel
theorem dX4_told_14 : decode cX4_told 14 = .ok (.iconst 0, 1) := by decide +kernel
theorem dX4_told_15 : decode cX4_told 15 = .ok (.bipush 6, 2) := by decide +kernel
theorem dX4_told_17 : decode cX4_told 17 = .ok (.invokestatic 70, 3) := by decide +kernel
theorem dX4_told_20 : decode cX4_told 20 = .ok (.ifCond .ne 7, 3) := by decide +kernel
theorem dX4_told_23 : decode cX4_told 23 = .ok (.iconst 2, 1) := by decide +kernel
theorem dX4_told_24 : decode cX4_told 24 = .ok (.goto 4, 3) := by decide +kernel
theorem dX4_told_27 : decode cX4_told 27 = .ok (.iconst 0, 1) := by decide +kernel
theorem dX4_told_28 : decode cX4_told 28 = .ok (.putfield 64, 3) := by decide +kernel
theorem dX4_told_31 : decode cX4_told 31 = .ok (.aload_n 0, 1) := by decide +kernel
theorem dX4_told_32 : decode cX4_told 32 = .ok (.getfield 64, 3) := by decide +kernel
theorem dX4_told_35 : decode cX4_told 35 = .ok (.ifCond .le 5, 3) := by decide +kernel
theorem dX4_told_38 : decode cX4_told 38 = .ok (.iconst 0, 1) := by decide +kernel
theorem dX4_told_39 : decode cX4_told 39 = .ok (.ireturn, 1) := by decide +kernel
theorem dX4_told_40 : decode cX4_told 40 = .ok (.iload_n 2, 1) := by decide +kernel
theorem dX4_told_41 : decode cX4_told 41 = .ok (.ifCond .ne 9, 3) := by decide +kernel
theorem dX4_told_44 : decode cX4_told 44 = .ok (.aload_n 0, 1) := by decide +kernel
theorem dX4_told_45 : decode cX4_told 45 = .ok (.iload_n 1, 1) := by decide +kernel
theorem dX4_told_46 : decode cX4_told 46 = .ok (.invokevirtual 139, 3) := by decide +kernel
theorem dX4_told_49 : decode cX4_told 49 = .ok (.ireturn, 1) := by decide +kernel
theorem dX4_told_50 : decode cX4_told 50 = .ok (.iload_n 2, 1) := by decide +kernel
theorem dX4_told_51 : decode cX4_told 51 = .ok (.iconst 1, 1) := by decide +kernel
theorem dX4_told_52 : decode cX4_told 52 = .ok (.if_icmp .ne 9, 3) := by decide +kernel
theorem dX4_told_55 : decode cX4_told 55 = .ok (.aload_n 0, 1) := by decide +kernel
theorem dX4_told_56 : decode cX4_told 56 = .ok (.iload_n 1, 1) := by decide +kernel
theorem dX4_told_57 : decode cX4_told 57 = .ok (.invokevirtual 96, 3) := by decide +kernel
theorem dX4_told_60 : decode cX4_told 60 = .ok (.ireturn, 1) := by decide +kernel
theorem dX4_told_61 : decode cX4_told 61 = .ok (.iload_n 2, 1) := by decide +kernel
theorem dX4_told_62 : decode cX4_told 62 = .ok (.iconst 2, 1) := by decide +kernel
theorem dX4_told_63 : decode cX4_told 63 = .ok (.if_icmp .ne 9, 3) := by decide +kernel
theorem dX4_told_66 : decode cX4_told 66 = .ok (.aload_n 0, 1) := by decide +kernel
theorem dX4_told_67 : decode cX4_told 67 = .ok (.iload_n 1, 1) := by decide +kernel
theorem dX4_told_68 : decode cX4_told 68 = .ok (.invokevirtual 102, 3) := by decide +kernel
theorem dX4_told_71 : decode cX4_told 71 = .ok (.ireturn, 1) := by decide +kernel
theorem dX4_told_72 : decode cX4_told 72 = .ok (.iload_n 2, 1) := by decide +kernel
theorem dX4_told_73 : decode cX4_told 73 = .ok (.iconst 4, 1) := by decide +kernel
theorem dX4_told_74 : decode cX4_told 74 = .ok (.if_icmp .ne 15, 3) := by decide +kernel
theorem dX4_told_77 : decode cX4_told 77 = .ok (.aload_n 0, 1) := by decide +kernel
theorem dX4_told_78 : decode cX4_told 78 = .ok (.getfield 19, 3) := by decide +kernel
theorem dX4_told_81 : decode cX4_told 81 = .ok (.aload_n 0, 1) := by decide +kernel
theorem dX4_told_82 : decode cX4_told 82 = .ok (.iload_n 1, 1) := by decide +kernel
theorem dX4_told_83 : decode cX4_told 83 = .ok (.iconst 0, 1) := by decide +kernel
theorem dX4_told_84 : decode cX4_told 84 = .ok (.invokevirtual 142, 3) := by decide +kernel
theorem dX4_told_87 : decode cX4_told 87 = .ok (.iaload, 1) := by decide +kernel
theorem dX4_told_88 : decode cX4_told 88 = .ok (.ireturn, 1) := by decide +kernel
theorem dX4_told_89 : decode cX4_told 89 = .ok (.iload_n 2, 1) := by decide +kernel
theorem dX4_told_90 : decode cX4_told 90 = .ok (.iconst 5, 1) := by decide +kernel
theorem dX4_told_91 : decode cX4_told 91 = .ok (.if_icmp .ne 18, 3) := by decide +kernel
theorem dX4_told_94 : decode cX4_told 94 = .ok (.aload_n 0, 1) := by decide +kernel
theorem dX4_told_95 : decode cX4_told 95 = .ok (.getfield 44, 3) := by decide +kernel
theorem dX4_told_98 : decode cX4_told 98 = .ok (.iload_n 1, 1) := by decide +kernel
theorem dX4_told_99 : decode cX4_told 99 = .ok (.baload, 1) := by decide +kernel
theorem dX4_told_100 : decode cX4_told 100 = .ok (.ifCond .eq 7, 3) := by decide +kernel
theorem dX4_told_103 : decode cX4_told 103 = .ok (.iconst 1, 1) := by decide +kernel
theorem dX4_told_104 : decode cX4_told 104 = .ok (.goto 4, 3) := by decide +kernel
theorem dX4_told_107 : decode cX4_told 107 = .ok (.iconst 0, 1) := by decide +kernel
theorem dX4_told_108 : decode cX4_told 108 = .ok (.ireturn, 1) := by decide +kernel
theorem dX4_told_109 : decode cX4_told 109 = .ok (.ldc 74, 2) := by decide +kernel
theorem dX4_told_111 : decode cX4_told 111 = .ok (.istore_n 3, 1) := by decide +kernel
theorem dX4_told_112 : decode cX4_told 112 = .ok (.iconst 0, 1) := by decide +kernel
theorem dX4_told_113 : decode cX4_told 113 = .ok (.istore 4, 2) := by decide +kernel
theorem dX4_told_115 : decode cX4_told 115 = .ok (.iconst 0, 1) := by decide +kernel
theorem dX4_told_116 : decode cX4_told 116 = .ok (.istore 5, 2) := by decide +kernel
theorem dX4_told_118 : decode cX4_told 118 = .ok (.iload 5, 2) := by decide +kernel
theorem dX4_told_120 : decode cX4_told 120 = .ok (.aload_n 0, 1) := by decide +kernel
theorem dX4_told_121 : decode cX4_told 121 = .ok (.getfield 67, 3) := by decide +kernel
theorem dX4_told_124 : decode cX4_told 124 = .ok (.if_icmp .ge 66, 3) := by decide +kernel
theorem dX4_told_127 : decode cX4_told 127 = .ok (.aload_n 0, 1) := by decide +kernel
theorem dX4_told_128 : decode cX4_told 128 = .ok (.getfield 22, 3) := by decide +kernel
theorem dX4_told_131 : decode cX4_told 131 = .ok (.iload 5, 2) := by decide +kernel
theorem dX4_told_133 : decode cX4_told 133 = .ok (.iaload, 1) := by decide +kernel
theorem dX4_told_134 : decode cX4_told 134 = .ok (.iload_n 1, 1) := by decide +kernel
theorem dX4_told_135 : decode cX4_told 135 = .ok (.if_icmp .eq 6, 3) := by decide +kernel
theorem dX4_told_138 : decode cX4_told 138 = .ok (.goto 46, 3) := by decide +kernel
theorem dX4_told_141 : decode cX4_told 141 = .ok (.aload_n 0, 1) := by decide +kernel
theorem dX4_told_142 : decode cX4_told 142 = .ok (.getfield 7, 3) := by decide +kernel
theorem dX4_told_145 : decode cX4_told 145 = .ok (.iload 5, 2) := by decide +kernel
theorem dX4_told_147 : decode cX4_told 147 = .ok (.iaload, 1) := by decide +kernel
theorem dX4_told_148 : decode cX4_told 148 = .ok (.iload_n 3, 1) := by decide +kernel
theorem dX4_told_149 : decode cX4_told 149 = .ok (.if_icmp .ge 13, 3) := by decide +kernel
theorem dX4_told_152 : decode cX4_told 152 = .ok (.aload_n 0, 1) := by decide +kernel
theorem dX4_told_153 : decode cX4_told 153 = .ok (.getfield 7, 3) := by decide +kernel
theorem dX4_told_156 : decode cX4_told 156 = .ok (.iload 5, 2) := by decide +kernel
theorem dX4_told_158 : decode cX4_told 158 = .ok (.iaload, 1) := by decide +kernel
theorem dX4_told_159 : decode cX4_told 159 = .ok (.goto 4, 3) := by decide +kernel
theorem dX4_told_162 : decode cX4_told 162 = .ok (.iload_n 3, 1) := by decide +kernel
theorem dX4_told_163 : decode cX4_told 163 = .ok (.istore_n 3, 1) := by decide +kernel
theorem dX4_told_164 : decode cX4_told 164 = .ok (.iload 4, 2) := by decide +kernel
theorem dX4_told_166 : decode cX4_told 166 = .ok (.aload_n 0, 1) := by decide +kernel
theorem dX4_told_167 : decode cX4_told 167 = .ok (.getfield 28, 3) := by decide +kernel
theorem dX4_told_170 : decode cX4_told 170 = .ok (.iload 5, 2) := by decide +kernel
theorem dX4_told_172 : decode cX4_told 172 = .ok (.baload, 1) := by decide +kernel
theorem dX4_told_173 : decode cX4_told 173 = .ok (.ifCond .eq 7, 3) := by decide +kernel
theorem dX4_told_176 : decode cX4_told 176 = .ok (.iconst 1, 1) := by decide +kernel
theorem dX4_told_177 : decode cX4_told 177 = .ok (.goto 4, 3) := by decide +kernel
theorem dX4_told_180 : decode cX4_told 180 = .ok (.iconst 0, 1) := by decide +kernel
theorem dX4_told_181 : decode cX4_told 181 = .ok (.iadd, 1) := by decide +kernel
theorem dX4_told_182 : decode cX4_told 182 = .ok (.istore 4, 2) := by decide +kernel
theorem dX4_told_184 : decode cX4_told 184 = .ok (.iinc 5 1, 3) := by decide +kernel
theorem dX4_told_187 : decode cX4_told 187 = .ok (.goto (-69), 3) := by decide +kernel
theorem dX4_told_190 : decode cX4_told 190 = .ok (.iload_n 2, 1) := by decide +kernel
theorem dX4_told_191 : decode cX4_told 191 = .ok (.iconst 3, 1) := by decide +kernel
theorem dX4_told_192 : decode cX4_told 192 = .ok (.if_icmp .ne 7, 3) := by decide +kernel
theorem dX4_told_195 : decode cX4_told 195 = .ok (.iload_n 3, 1) := by decide +kernel
theorem dX4_told_196 : decode cX4_told 196 = .ok (.goto 5, 3) := by decide +kernel
theorem dX4_told_199 : decode cX4_told 199 = .ok (.iload 4, 2) := by decide +kernel
theorem dX4_told_201 : decode cX4_told 201 = .ok (.ireturn, 1) := by decide +kernel
theorem dX4_member_0 : decode cX4_member 0 = .ok (.aload_n 0, 1) := by decide +kernel
theorem dX4_member_1 : decode cX4_member 1 = .ok (.aload_n 0, 1) := by decide +kernel
theorem dX4_member_2 : decode cX4_member 2 = .ok (.iload_n 1, 1) := by decide +kernel
theorem dX4_member_3 : decode cX4_member 3 = .ok (.invokevirtual 136, 3) := by decide +kernel
theorem dX4_member_6 : decode cX4_member 6 = .ok (.ifCond .eq 7, 3) := by decide +kernel
theorem dX4_member_9 : decode cX4_member 9 = .ok (.iload_n 2, 1) := by decide +kernel
theorem dX4_member_10 : decode cX4_member 10 = .ok (.ifCond .ge 7, 3) := by decide +kernel
theorem dX4_member_13 : decode cX4_member 13 = .ok (.iconst 1, 1) := by decide +kernel
theorem dX4_member_14 : decode cX4_member 14 = .ok (.goto 4, 3) := by decide +kernel
theorem dX4_member_17 : decode cX4_member 17 = .ok (.iconst 0, 1) := by decide +kernel
theorem dX4_member_18 : decode cX4_member 18 = .ok (.putfield 64, 3) := by decide +kernel
theorem dX4_member_21 : decode cX4_member 21 = .ok (.aload_n 0, 1) := by decide +kernel
theorem dX4_member_22 : decode cX4_member 22 = .ok (.getfield 64, 3) := by decide +kernel
theorem dX4_member_25 : decode cX4_member 25 = .ok (.ifCond .le 5, 3) := by decide +kernel
theorem dX4_member_28 : decode cX4_member 28 = .ok (.iconst 0, 1) := by decide +kernel
theorem dX4_member_29 : decode cX4_member 29 = .ok (.ireturn, 1) := by decide +kernel
theorem dX4_member_30 : decode cX4_member 30 = .ok (.aload_n 0, 1) := by decide +kernel
theorem dX4_member_31 : decode cX4_member 31 = .ok (.iload_n 1, 1) := by decide +kernel
theorem dX4_member_32 : decode cX4_member 32 = .ok (.iload_n 2, 1) := by decide +kernel
theorem dX4_member_33 : decode cX4_member 33 = .ok (.invokevirtual 142, 3) := by decide +kernel
theorem dX4_member_36 : decode cX4_member 36 = .ok (.istore_n 3, 1) := by decide +kernel
theorem dX4_member_37 : decode cX4_member 37 = .ok (.aload_n 0, 1) := by decide +kernel
theorem dX4_member_38 : decode cX4_member 38 = .ok (.iload_n 3, 1) := by decide +kernel
theorem dX4_member_39 : decode cX4_member 39 = .ok (.iconst (-1), 1) := by decide +kernel
theorem dX4_member_40 : decode cX4_member 40 = .ok (.if_icmp .ne 7, 3) := by decide +kernel
theorem dX4_member_43 : decode cX4_member 43 = .ok (.iconst 1, 1) := by decide +kernel
theorem dX4_member_44 : decode cX4_member 44 = .ok (.goto 4, 3) := by decide +kernel
theorem dX4_member_47 : decode cX4_member 47 = .ok (.iconst 0, 1) := by decide +kernel
theorem dX4_member_48 : decode cX4_member 48 = .ok (.putfield 64, 3) := by decide +kernel
theorem dX4_member_51 : decode cX4_member 51 = .ok (.aload_n 0, 1) := by decide +kernel
theorem dX4_member_52 : decode cX4_member 52 = .ok (.getfield 64, 3) := by decide +kernel
theorem dX4_member_55 : decode cX4_member 55 = .ok (.ifCond .le 7, 3) := by decide +kernel
theorem dX4_member_58 : decode cX4_member 58 = .ok (.iconst 0, 1) := by decide +kernel
theorem dX4_member_59 : decode cX4_member 59 = .ok (.goto 4, 3) := by decide +kernel
theorem dX4_member_62 : decode cX4_member 62 = .ok (.iload_n 3, 1) := by decide +kernel
theorem dX4_member_63 : decode cX4_member 63 = .ok (.ireturn, 1) := by decide +kernel
theorem dX4_wantsOf_0 : decode cX4_wantsOf 0 = .ok (.iconst 0, 1) := by decide +kernel
theorem dX4_wantsOf_1 : decode cX4_wantsOf 1 = .ok (.istore_n 3, 1) := by decide +kernel
theorem dX4_wantsOf_2 : decode cX4_wantsOf 2 = .ok (.iconst 0, 1) := by decide +kernel
theorem dX4_wantsOf_3 : decode cX4_wantsOf 3 = .ok (.istore 4, 2) := by decide +kernel
theorem dX4_wantsOf_5 : decode cX4_wantsOf 5 = .ok (.iload 4, 2) := by decide +kernel
theorem dX4_wantsOf_7 : decode cX4_wantsOf 7 = .ok (.aload_n 0, 1) := by decide +kernel
theorem dX4_wantsOf_8 : decode cX4_wantsOf 8 = .ok (.getfield 67, 3) := by decide +kernel
theorem dX4_wantsOf_11 : decode cX4_wantsOf 11 = .ok (.if_icmp .ge 49, 3) := by decide +kernel
theorem dX4_wantsOf_14 : decode cX4_wantsOf 14 = .ok (.iload_n 3, 1) := by decide +kernel
theorem dX4_wantsOf_15 : decode cX4_wantsOf 15 = .ok (.aload_n 0, 1) := by decide +kernel
theorem dX4_wantsOf_16 : decode cX4_wantsOf 16 = .ok (.getfield 22, 3) := by decide +kernel
theorem dX4_wantsOf_19 : decode cX4_wantsOf 19 = .ok (.iload 4, 2) := by decide +kernel
theorem dX4_wantsOf_21 : decode cX4_wantsOf 21 = .ok (.iaload, 1) := by decide +kernel
theorem dX4_wantsOf_22 : decode cX4_wantsOf 22 = .ok (.iload_n 1, 1) := by decide +kernel
theorem dX4_wantsOf_23 : decode cX4_wantsOf 23 = .ok (.if_icmp .ne 28, 3) := by decide +kernel
theorem dX4_wantsOf_26 : decode cX4_wantsOf 26 = .ok (.aload_n 0, 1) := by decide +kernel
theorem dX4_wantsOf_27 : decode cX4_wantsOf 27 = .ok (.getfield 28, 3) := by decide +kernel
theorem dX4_wantsOf_30 : decode cX4_wantsOf 30 = .ok (.iload 4, 2) := by decide +kernel
theorem dX4_wantsOf_32 : decode cX4_wantsOf 32 = .ok (.baload, 1) := by decide +kernel
theorem dX4_wantsOf_33 : decode cX4_wantsOf 33 = .ok (.ifCond .ne 18, 3) := by decide +kernel
theorem dX4_wantsOf_36 : decode cX4_wantsOf 36 = .ok (.aload_n 0, 1) := by decide +kernel
theorem dX4_wantsOf_37 : decode cX4_wantsOf 37 = .ok (.getfield 32, 3) := by decide +kernel
theorem dX4_wantsOf_40 : decode cX4_wantsOf 40 = .ok (.bipush 10, 2) := by decide +kernel
theorem dX4_wantsOf_42 : decode cX4_wantsOf 42 = .ok (.iload 4, 2) := by decide +kernel
theorem dX4_wantsOf_44 : decode cX4_wantsOf 44 = .ok (.imul, 1) := by decide +kernel
theorem dX4_wantsOf_45 : decode cX4_wantsOf 45 = .ok (.iload_n 2, 1) := by decide +kernel
theorem dX4_wantsOf_46 : decode cX4_wantsOf 46 = .ok (.iadd, 1) := by decide +kernel
theorem dX4_wantsOf_47 : decode cX4_wantsOf 47 = .ok (.iaload, 1) := by decide +kernel
theorem dX4_wantsOf_48 : decode cX4_wantsOf 48 = .ok (.goto 4, 3) := by decide +kernel
theorem dX4_wantsOf_51 : decode cX4_wantsOf 51 = .ok (.iconst 0, 1) := by decide +kernel
theorem dX4_wantsOf_52 : decode cX4_wantsOf 52 = .ok (.iadd, 1) := by decide +kernel
theorem dX4_wantsOf_53 : decode cX4_wantsOf 53 = .ok (.istore_n 3, 1) := by decide +kernel
theorem dX4_wantsOf_54 : decode cX4_wantsOf 54 = .ok (.iinc 4 1, 3) := by decide +kernel
theorem dX4_wantsOf_57 : decode cX4_wantsOf 57 = .ok (.goto (-52), 3) := by decide +kernel
theorem dX4_wantsOf_60 : decode cX4_wantsOf 60 = .ok (.iload_n 3, 1) := by decide +kernel
theorem dX4_wantsOf_61 : decode cX4_wantsOf 61 = .ok (.ireturn, 1) := by decide +kernel
theorem dX4_lackOf_0 : decode cX4_lackOf 0 = .ok (.aload_n 0, 1) := by decide +kernel
theorem dX4_lackOf_1 : decode cX4_lackOf 1 = .ok (.getfield 47, 3) := by decide +kernel
theorem dX4_lackOf_4 : decode cX4_lackOf 4 = .ok (.iload_n 2, 1) := by decide +kernel
theorem dX4_lackOf_5 : decode cX4_lackOf 5 = .ok (.iaload, 1) := by decide +kernel
theorem dX4_lackOf_6 : decode cX4_lackOf 6 = .ok (.istore_n 3, 1) := by decide +kernel
theorem dX4_lackOf_7 : decode cX4_lackOf 7 = .ok (.iconst 1, 1) := by decide +kernel
theorem dX4_lackOf_8 : decode cX4_lackOf 8 = .ok (.istore 4, 2) := by decide +kernel
theorem dX4_lackOf_10 : decode cX4_lackOf 10 = .ok (.iload 4, 2) := by decide +kernel
theorem dX4_lackOf_12 : decode cX4_lackOf 12 = .ok (.aload_n 0, 1) := by decide +kernel
theorem dX4_lackOf_13 : decode cX4_lackOf 13 = .ok (.getfield 99, 3) := by decide +kernel
theorem dX4_lackOf_16 : decode cX4_lackOf 16 = .ok (.if_icmp .gt 39, 3) := by decide +kernel
theorem dX4_lackOf_19 : decode cX4_lackOf 19 = .ok (.iload_n 3, 1) := by decide +kernel
theorem dX4_lackOf_20 : decode cX4_lackOf 20 = .ok (.iload 4, 2) := by decide +kernel
theorem dX4_lackOf_22 : decode cX4_lackOf 22 = .ok (.iload_n 1, 1) := by decide +kernel
theorem dX4_lackOf_23 : decode cX4_lackOf 23 = .ok (.if_icmp .eq 23, 3) := by decide +kernel
theorem dX4_lackOf_26 : decode cX4_lackOf 26 = .ok (.aload_n 0, 1) := by decide +kernel
theorem dX4_lackOf_27 : decode cX4_lackOf 27 = .ok (.getfield 44, 3) := by decide +kernel
theorem dX4_lackOf_30 : decode cX4_lackOf 30 = .ok (.iload 4, 2) := by decide +kernel
theorem dX4_lackOf_32 : decode cX4_lackOf 32 = .ok (.baload, 1) := by decide +kernel
theorem dX4_lackOf_33 : decode cX4_lackOf 33 = .ok (.ifCond .eq 13, 3) := by decide +kernel
theorem dX4_lackOf_36 : decode cX4_lackOf 36 = .ok (.aload_n 0, 1) := by decide +kernel
theorem dX4_lackOf_37 : decode cX4_lackOf 37 = .ok (.iload 4, 2) := by decide +kernel
theorem dX4_lackOf_39 : decode cX4_lackOf 39 = .ok (.iload_n 2, 1) := by decide +kernel
theorem dX4_lackOf_40 : decode cX4_lackOf 40 = .ok (.invokevirtual 145, 3) := by decide +kernel
theorem dX4_lackOf_43 : decode cX4_lackOf 43 = .ok (.goto 4, 3) := by decide +kernel
theorem dX4_lackOf_46 : decode cX4_lackOf 46 = .ok (.iconst 0, 1) := by decide +kernel
theorem dX4_lackOf_47 : decode cX4_lackOf 47 = .ok (.isub, 1) := by decide +kernel
theorem dX4_lackOf_48 : decode cX4_lackOf 48 = .ok (.istore_n 3, 1) := by decide +kernel
theorem dX4_lackOf_49 : decode cX4_lackOf 49 = .ok (.iinc 4 1, 3) := by decide +kernel
theorem dX4_lackOf_52 : decode cX4_lackOf 52 = .ok (.goto (-42), 3) := by decide +kernel
theorem dX4_lackOf_55 : decode cX4_lackOf 55 = .ok (.iload_n 3, 1) := by decide +kernel
theorem dX4_lackOf_56 : decode cX4_lackOf 56 = .ok (.ifCond .ge 7, 3) := by decide +kernel
theorem dX4_lackOf_59 : decode cX4_lackOf 59 = .ok (.iconst 0, 1) := by decide +kernel
theorem dX4_lackOf_60 : decode cX4_lackOf 60 = .ok (.goto 4, 3) := by decide +kernel
theorem dX4_lackOf_63 : decode cX4_lackOf 63 = .ok (.iload_n 3, 1) := by decide +kernel
theorem dX4_lackOf_64 : decode cX4_lackOf 64 = .ok (.istore_n 3, 1) := by decide +kernel
theorem dX4_lackOf_65 : decode cX4_lackOf 65 = .ok (.aload_n 0, 1) := by decide +kernel
theorem dX4_lackOf_66 : decode cX4_lackOf 66 = .ok (.iload_n 1, 1) := by decide +kernel
theorem dX4_lackOf_67 : decode cX4_lackOf 67 = .ok (.iload_n 2, 1) := by decide +kernel
theorem dX4_lackOf_68 : decode cX4_lackOf 68 = .ok (.invokevirtual 145, 3) := by decide +kernel
theorem dX4_lackOf_71 : decode cX4_lackOf 71 = .ok (.iload_n 3, 1) := by decide +kernel
theorem dX4_lackOf_72 : decode cX4_lackOf 72 = .ok (.isub, 1) := by decide +kernel
theorem dX4_lackOf_73 : decode cX4_lackOf 73 = .ok (.istore 4, 2) := by decide +kernel
theorem dX4_lackOf_75 : decode cX4_lackOf 75 = .ok (.iload 4, 2) := by decide +kernel
theorem dX4_lackOf_77 : decode cX4_lackOf 77 = .ok (.ifCond .le 8, 3) := by decide +kernel
theorem dX4_lackOf_80 : decode cX4_lackOf 80 = .ok (.iload 4, 2) := by decide +kernel
theorem dX4_lackOf_82 : decode cX4_lackOf 82 = .ok (.goto 4, 3) := by decide +kernel
theorem dX4_lackOf_85 : decode cX4_lackOf 85 = .ok (.iconst 0, 1) := by decide +kernel
theorem dX4_lackOf_86 : decode cX4_lackOf 86 = .ok (.ireturn, 1) := by decide +kernel
theorem dX4_replenish_0 : decode cX4_replenish 0 = .ok (.aload_n 0, 1) := by decide +kernel
theorem dX4_replenish_1 : decode cX4_replenish 1 = .ok (.aload_n 0, 1) := by decide +kernel
theorem dX4_replenish_2 : decode cX4_replenish 2 = .ok (.iload_n 1, 1) := by decide +kernel
theorem dX4_replenish_3 : decode cX4_replenish 3 = .ok (.invokevirtual 136, 3) := by decide +kernel
theorem dX4_replenish_6 : decode cX4_replenish 6 = .ok (.ifCond .ne 7, 3) := by decide +kernel
theorem dX4_replenish_9 : decode cX4_replenish 9 = .ok (.iconst 1, 1) := by decide +kernel
theorem dX4_replenish_10 : decode cX4_replenish 10 = .ok (.goto 12, 3) := by decide +kernel
theorem dX4_replenish_13 : decode cX4_replenish 13 = .ok (.iload_n 2, 1) := by decide +kernel
theorem dX4_replenish_14 : decode cX4_replenish 14 = .ok (.ifCond .ge 7, 3) := by decide +kernel
theorem dX4_replenish_17 : decode cX4_replenish 17 = .ok (.iconst 2, 1) := by decide +kernel
theorem dX4_replenish_18 : decode cX4_replenish 18 = .ok (.goto 4, 3) := by decide +kernel
theorem dX4_replenish_21 : decode cX4_replenish 21 = .ok (.iconst 0, 1) := by decide +kernel
theorem dX4_replenish_22 : decode cX4_replenish 22 = .ok (.putfield 64, 3) := by decide +kernel
theorem dX4_replenish_25 : decode cX4_replenish 25 = .ok (.aload_n 0, 1) := by decide +kernel
theorem dX4_replenish_26 : decode cX4_replenish 26 = .ok (.getfield 64, 3) := by decide +kernel
theorem dX4_replenish_29 : decode cX4_replenish 29 = .ok (.ifCond .le 5, 3) := by decide +kernel
theorem dX4_replenish_32 : decode cX4_replenish 32 = .ok (.iconst 0, 1) := by decide +kernel
theorem dX4_replenish_33 : decode cX4_replenish 33 = .ok (.ireturn, 1) := by decide +kernel
theorem dX4_replenish_34 : decode cX4_replenish 34 = .ok (.iload_n 2, 1) := by decide +kernel
theorem dX4_replenish_35 : decode cX4_replenish 35 = .ok (.istore_n 3, 1) := by decide +kernel
theorem dX4_replenish_36 : decode cX4_replenish 36 = .ok (.iconst 0, 1) := by decide +kernel
theorem dX4_replenish_37 : decode cX4_replenish 37 = .ok (.istore 4, 2) := by decide +kernel
theorem dX4_replenish_39 : decode cX4_replenish 39 = .ok (.iload 4, 2) := by decide +kernel
theorem dX4_replenish_41 : decode cX4_replenish 41 = .ok (.bipush 10, 2) := by decide +kernel
theorem dX4_replenish_43 : decode cX4_replenish 43 = .ok (.if_icmp .ge 32, 3) := by decide +kernel
theorem dX4_replenish_46 : decode cX4_replenish 46 = .ok (.aload_n 0, 1) := by decide +kernel
theorem dX4_replenish_47 : decode cX4_replenish 47 = .ok (.iload_n 1, 1) := by decide +kernel
theorem dX4_replenish_48 : decode cX4_replenish 48 = .ok (.iload 4, 2) := by decide +kernel
theorem dX4_replenish_50 : decode cX4_replenish 50 = .ok (.invokevirtual 148, 3) := by decide +kernel
theorem dX4_replenish_53 : decode cX4_replenish 53 = .ok (.ifCond .ne 6, 3) := by decide +kernel
theorem dX4_replenish_56 : decode cX4_replenish 56 = .ok (.goto 13, 3) := by decide +kernel
theorem dX4_replenish_59 : decode cX4_replenish 59 = .ok (.iload_n 3, 1) := by decide +kernel
theorem dX4_replenish_60 : decode cX4_replenish 60 = .ok (.ifCond .ne 6, 3) := by decide +kernel
theorem dX4_replenish_63 : decode cX4_replenish 63 = .ok (.iload 4, 2) := by decide +kernel
theorem dX4_replenish_65 : decode cX4_replenish 65 = .ok (.ireturn, 1) := by decide +kernel
theorem dX4_replenish_66 : decode cX4_replenish 66 = .ok (.iinc 3 (-1), 3) := by decide +kernel
theorem dX4_replenish_69 : decode cX4_replenish 69 = .ok (.iinc 4 1, 3) := by decide +kernel
theorem dX4_replenish_72 : decode cX4_replenish 72 = .ok (.goto (-33), 3) := by decide +kernel
theorem dX4_replenish_75 : decode cX4_replenish 75 = .ok (.iconst (-1), 1) := by decide +kernel
theorem dX4_replenish_76 : decode cX4_replenish 76 = .ok (.ireturn, 1) := by decide +kernel
theorem dX4_lacks_0 : decode cX4_lacks 0 = .ok (.aload_n 0, 1) := by decide +kernel
theorem dX4_lacks_1 : decode cX4_lacks 1 = .ok (.aload_n 0, 1) := by decide +kernel
theorem dX4_lacks_2 : decode cX4_lacks 2 = .ok (.iload_n 1, 1) := by decide +kernel
theorem dX4_lacks_3 : decode cX4_lacks 3 = .ok (.invokevirtual 136, 3) := by decide +kernel
theorem dX4_lacks_6 : decode cX4_lacks 6 = .ok (.ifCond .ne 7, 3) := by decide +kernel
theorem dX4_lacks_9 : decode cX4_lacks 9 = .ok (.iconst 1, 1) := by decide +kernel
theorem dX4_lacks_10 : decode cX4_lacks 10 = .ok (.goto 18, 3) := by decide +kernel
theorem dX4_lacks_13 : decode cX4_lacks 13 = .ok (.iload_n 2, 1) := by decide +kernel
theorem dX4_lacks_14 : decode cX4_lacks 14 = .ok (.iconst 0, 1) := by decide +kernel
theorem dX4_lacks_15 : decode cX4_lacks 15 = .ok (.bipush 9, 2) := by decide +kernel
theorem dX4_lacks_17 : decode cX4_lacks 17 = .ok (.invokestatic 70, 3) := by decide +kernel
theorem dX4_lacks_20 : decode cX4_lacks 20 = .ok (.ifCond .ne 7, 3) := by decide +kernel
theorem dX4_lacks_23 : decode cX4_lacks 23 = .ok (.iconst 2, 1) := by decide +kernel
theorem dX4_lacks_24 : decode cX4_lacks 24 = .ok (.goto 4, 3) := by decide +kernel
theorem dX4_lacks_27 : decode cX4_lacks 27 = .ok (.iconst 0, 1) := by decide +kernel
theorem dX4_lacks_28 : decode cX4_lacks 28 = .ok (.putfield 64, 3) := by decide +kernel
theorem dX4_lacks_31 : decode cX4_lacks 31 = .ok (.aload_n 0, 1) := by decide +kernel
theorem dX4_lacks_32 : decode cX4_lacks 32 = .ok (.getfield 64, 3) := by decide +kernel
theorem dX4_lacks_35 : decode cX4_lacks 35 = .ok (.ifCond .le 7, 3) := by decide +kernel
theorem dX4_lacks_38 : decode cX4_lacks 38 = .ok (.iconst 0, 1) := by decide +kernel
theorem dX4_lacks_39 : decode cX4_lacks 39 = .ok (.goto 9, 3) := by decide +kernel
theorem dX4_lacks_42 : decode cX4_lacks 42 = .ok (.aload_n 0, 1) := by decide +kernel
theorem dX4_lacks_43 : decode cX4_lacks 43 = .ok (.iload_n 1, 1) := by decide +kernel
theorem dX4_lacks_44 : decode cX4_lacks 44 = .ok (.iload_n 2, 1) := by decide +kernel
theorem dX4_lacks_45 : decode cX4_lacks 45 = .ok (.invokevirtual 148, 3) := by decide +kernel
theorem dX4_lacks_48 : decode cX4_lacks 48 = .ok (.ireturn, 1) := by decide +kernel
theorem dX4_release_0 : decode cX4_release 0 = .ok (.aload_n 0, 1) := by decide +kernel
theorem dX4_release_1 : decode cX4_release 1 = .ok (.aload_n 0, 1) := by decide +kernel
theorem dX4_release_2 : decode cX4_release 2 = .ok (.iload_n 1, 1) := by decide +kernel
theorem dX4_release_3 : decode cX4_release 3 = .ok (.invokevirtual 136, 3) := by decide +kernel
theorem dX4_release_6 : decode cX4_release 6 = .ok (.ifCond .ne 7, 3) := by decide +kernel
theorem dX4_release_9 : decode cX4_release 9 = .ok (.iconst 1, 1) := by decide +kernel
theorem dX4_release_10 : decode cX4_release 10 = .ok (.goto 4, 3) := by decide +kernel
theorem dX4_release_13 : decode cX4_release 13 = .ok (.iconst 0, 1) := by decide +kernel
theorem dX4_release_14 : decode cX4_release 14 = .ok (.putfield 64, 3) := by decide +kernel
theorem dX4_release_17 : decode cX4_release 17 = .ok (.aload_n 0, 1) := by decide +kernel
theorem dX4_release_18 : decode cX4_release 18 = .ok (.getfield 64, 3) := by decide +kernel
theorem dX4_release_21 : decode cX4_release 21 = .ok (.ifCond .ne 21, 3) := by decide +kernel
theorem dX4_release_24 : decode cX4_release 24 = .ok (.aload_n 0, 1) := by decide +kernel
end
section
theorem dX4_release_25 : decode cX4_release 25 = .ok (.aload_n 0, 1) := by decide +kernel
theorem dX4_release_26 : decode cX4_release 26 = .ok (.getfield 44, 3) := by decide +kernel
theorem dX4_release_29 : decode cX4_release 29 = .ok (.iload_n 1, 1) := by decide +kernel
theorem dX4_release_30 : decode cX4_release 30 = .ok (.baload, 1) := by decide +kernel
theorem dX4_release_31 : decode cX4_release 31 = .ok (.ifCond .eq 7, 3) := by decide +kernel
theorem dX4_release_34 : decode cX4_release 34 = .ok (.iconst 2, 1) := by decide +kernel
theorem dX4_release_35 : decode cX4_release 35 = .ok (.goto 4, 3) := by decide +kernel
theorem dX4_release_38 : decode cX4_release 38 = .ok (.iconst 0, 1) := by decide +kernel
theorem dX4_release_39 : decode cX4_release 39 = .ok (.putfield 64, 3) := by decide +kernel
theorem dX4_release_42 : decode cX4_release 42 = .ok (.aload_n 0, 1) := by decide +kernel
theorem dX4_release_43 : decode cX4_release 43 = .ok (.getfield 64, 3) := by decide +kernel
theorem dX4_release_46 : decode cX4_release 46 = .ok (.ifCond .le 5, 3) := by decide +kernel
theorem dX4_release_49 : decode cX4_release 49 = .ok (.iconst 0, 1) := by decide +kernel
theorem dX4_release_50 : decode cX4_release 50 = .ok (.ireturn, 1) := by decide +kernel
theorem dX4_release_51 : decode cX4_release 51 = .ok (.iconst 0, 1) := by decide +kernel
theorem dX4_release_52 : decode cX4_release 52 = .ok (.istore_n 2, 1) := by decide +kernel
theorem dX4_release_53 : decode cX4_release 53 = .ok (.iload_n 2, 1) := by decide +kernel
theorem dX4_release_54 : decode cX4_release 54 = .ok (.aload_n 0, 1) := by decide +kernel
theorem dX4_release_55 : decode cX4_release 55 = .ok (.getfield 67, 3) := by decide +kernel
theorem dX4_release_58 : decode cX4_release 58 = .ok (.if_icmp .ge 40, 3) := by decide +kernel
theorem dX4_release_61 : decode cX4_release 61 = .ok (.aload_n 0, 1) := by decide +kernel
theorem dX4_release_62 : decode cX4_release 62 = .ok (.getfield 22, 3) := by decide +kernel
theorem dX4_release_65 : decode cX4_release 65 = .ok (.iload_n 2, 1) := by decide +kernel
theorem dX4_release_66 : decode cX4_release 66 = .ok (.iaload, 1) := by decide +kernel
theorem dX4_release_67 : decode cX4_release 67 = .ok (.iload_n 1, 1) := by decide +kernel
theorem dX4_release_68 : decode cX4_release 68 = .ok (.if_icmp .ne 24, 3) := by decide +kernel
theorem dX4_release_71 : decode cX4_release 71 = .ok (.aload_n 0, 1) := by decide +kernel
theorem dX4_release_72 : decode cX4_release 72 = .ok (.aload_n 0, 1) := by decide +kernel
theorem dX4_release_73 : decode cX4_release 73 = .ok (.getfield 19, 3) := by decide +kernel
theorem dX4_release_76 : decode cX4_release 76 = .ok (.iload_n 2, 1) := by decide +kernel
theorem dX4_release_77 : decode cX4_release 77 = .ok (.iaload, 1) := by decide +kernel
theorem dX4_release_78 : decode cX4_release 78 = .ok (.aload_n 0, 1) := by decide +kernel
theorem dX4_release_79 : decode cX4_release 79 = .ok (.getfield 7, 3) := by decide +kernel
theorem dX4_release_82 : decode cX4_release 82 = .ok (.iload_n 2, 1) := by decide +kernel
theorem dX4_release_83 : decode cX4_release 83 = .ok (.iaload, 1) := by decide +kernel
theorem dX4_release_84 : decode cX4_release 84 = .ok (.invokevirtual 105, 3) := by decide +kernel
theorem dX4_release_87 : decode cX4_release 87 = .ok (.ifCond .ne 5, 3) := by decide +kernel
theorem dX4_release_90 : decode cX4_release 90 = .ok (.iconst 1, 1) := by decide +kernel
theorem dX4_release_91 : decode cX4_release 91 = .ok (.ireturn, 1) := by decide +kernel
theorem dX4_release_92 : decode cX4_release 92 = .ok (.iinc 2 1, 3) := by decide +kernel
theorem dX4_release_95 : decode cX4_release 95 = .ok (.goto (-42), 3) := by decide +kernel
theorem dX4_release_98 : decode cX4_release 98 = .ok (.iconst 0, 1) := by decide +kernel
theorem dX4_release_99 : decode cX4_release 99 = .ok (.istore_n 2, 1) := by decide +kernel
theorem dX4_release_100 : decode cX4_release 100 = .ok (.iload_n 2, 1) := by decide +kernel
theorem dX4_release_101 : decode cX4_release 101 = .ok (.bipush 10, 2) := by decide +kernel
theorem dX4_release_103 : decode cX4_release 103 = .ok (.if_icmp .ge 20, 3) := by decide +kernel
theorem dX4_release_106 : decode cX4_release 106 = .ok (.aload_n 0, 1) := by decide +kernel
theorem dX4_release_107 : decode cX4_release 107 = .ok (.iload_n 1, 1) := by decide +kernel
theorem dX4_release_108 : decode cX4_release 108 = .ok (.iload_n 2, 1) := by decide +kernel
theorem dX4_release_109 : decode cX4_release 109 = .ok (.invokevirtual 148, 3) := by decide +kernel
theorem dX4_release_112 : decode cX4_release 112 = .ok (.ifCond .le 5, 3) := by decide +kernel
theorem dX4_release_115 : decode cX4_release 115 = .ok (.iconst 2, 1) := by decide +kernel
theorem dX4_release_116 : decode cX4_release 116 = .ok (.ireturn, 1) := by decide +kernel
theorem dX4_release_117 : decode cX4_release 117 = .ok (.iinc 2 1, 3) := by decide +kernel
theorem dX4_release_120 : decode cX4_release 120 = .ok (.goto (-20), 3) := by decide +kernel
theorem dX4_release_123 : decode cX4_release 123 = .ok (.aload_n 0, 1) := by decide +kernel
theorem dX4_release_124 : decode cX4_release 124 = .ok (.getfield 44, 3) := by decide +kernel
theorem dX4_release_127 : decode cX4_release 127 = .ok (.iload_n 1, 1) := by decide +kernel
theorem dX4_release_128 : decode cX4_release 128 = .ok (.iconst 1, 1) := by decide +kernel
theorem dX4_release_129 : decode cX4_release 129 = .ok (.bastore, 1) := by decide +kernel
theorem dX4_release_130 : decode cX4_release 130 = .ok (.iconst 0, 1) := by decide +kernel
theorem dX4_release_131 : decode cX4_release 131 = .ok (.ireturn, 1) := by decide +kernel
theorem dX4_done_0 : decode cX4_done 0 = .ok (.aload_n 0, 1) := by decide +kernel
theorem dX4_done_1 : decode cX4_done 1 = .ok (.aload_n 0, 1) := by decide +kernel
theorem dX4_done_2 : decode cX4_done 2 = .ok (.iload_n 1, 1) := by decide +kernel
theorem dX4_done_3 : decode cX4_done 3 = .ok (.invokevirtual 79, 3) := by decide +kernel
theorem dX4_done_6 : decode cX4_done 6 = .ok (.ifCond .ne 7, 3) := by decide +kernel
theorem dX4_done_9 : decode cX4_done 9 = .ok (.iconst 1, 1) := by decide +kernel
theorem dX4_done_10 : decode cX4_done 10 = .ok (.goto 4, 3) := by decide +kernel
theorem dX4_done_13 : decode cX4_done 13 = .ok (.iconst 0, 1) := by decide +kernel
theorem dX4_done_14 : decode cX4_done 14 = .ok (.putfield 64, 3) := by decide +kernel
theorem dX4_done_17 : decode cX4_done 17 = .ok (.aload_n 0, 1) := by decide +kernel
theorem dX4_done_18 : decode cX4_done 18 = .ok (.getfield 64, 3) := by decide +kernel
theorem dX4_done_21 : decode cX4_done 21 = .ok (.ifCond .ne 22, 3) := by decide +kernel
theorem dX4_done_24 : decode cX4_done 24 = .ok (.aload_n 0, 1) := by decide +kernel
theorem dX4_done_25 : decode cX4_done 25 = .ok (.aload_n 0, 1) := by decide +kernel
theorem dX4_done_26 : decode cX4_done 26 = .ok (.getfield 22, 3) := by decide +kernel
theorem dX4_done_29 : decode cX4_done 29 = .ok (.iload_n 1, 1) := by decide +kernel
theorem dX4_done_30 : decode cX4_done 30 = .ok (.iaload, 1) := by decide +kernel
theorem dX4_done_31 : decode cX4_done 31 = .ok (.iconst 1, 1) := by decide +kernel
theorem dX4_done_32 : decode cX4_done 32 = .ok (.if_icmp .ge 7, 3) := by decide +kernel
theorem dX4_done_35 : decode cX4_done 35 = .ok (.iconst 2, 1) := by decide +kernel
theorem dX4_done_36 : decode cX4_done 36 = .ok (.goto 4, 3) := by decide +kernel
theorem dX4_done_39 : decode cX4_done 39 = .ok (.iconst 0, 1) := by decide +kernel
theorem dX4_done_40 : decode cX4_done 40 = .ok (.putfield 64, 3) := by decide +kernel
theorem dX4_done_43 : decode cX4_done 43 = .ok (.aload_n 0, 1) := by decide +kernel
theorem dX4_done_44 : decode cX4_done 44 = .ok (.getfield 64, 3) := by decide +kernel
theorem dX4_done_47 : decode cX4_done 47 = .ok (.ifCond .ne 35, 3) := by decide +kernel
theorem dX4_done_50 : decode cX4_done 50 = .ok (.aload_n 0, 1) := by decide +kernel
theorem dX4_done_51 : decode cX4_done 51 = .ok (.aload_n 0, 1) := by decide +kernel
theorem dX4_done_52 : decode cX4_done 52 = .ok (.getfield 44, 3) := by decide +kernel
theorem dX4_done_55 : decode cX4_done 55 = .ok (.aload_n 0, 1) := by decide +kernel
theorem dX4_done_56 : decode cX4_done 56 = .ok (.getfield 22, 3) := by decide +kernel
theorem dX4_done_59 : decode cX4_done 59 = .ok (.iload_n 1, 1) := by decide +kernel
theorem dX4_done_60 : decode cX4_done 60 = .ok (.iaload, 1) := by decide +kernel
theorem dX4_done_61 : decode cX4_done 61 = .ok (.baload, 1) := by decide +kernel
theorem dX4_done_62 : decode cX4_done 62 = .ok (.ifCond .eq 12, 3) := by decide +kernel
theorem dX4_done_65 : decode cX4_done 65 = .ok (.aload_n 0, 1) := by decide +kernel
theorem dX4_done_66 : decode cX4_done 66 = .ok (.getfield 28, 3) := by decide +kernel
theorem dX4_done_69 : decode cX4_done 69 = .ok (.iload_n 1, 1) := by decide +kernel
theorem dX4_done_70 : decode cX4_done 70 = .ok (.baload, 1) := by decide +kernel
theorem dX4_done_71 : decode cX4_done 71 = .ok (.ifCond .eq 7, 3) := by decide +kernel
theorem dX4_done_74 : decode cX4_done 74 = .ok (.iconst 2, 1) := by decide +kernel
theorem dX4_done_75 : decode cX4_done 75 = .ok (.goto 4, 3) := by decide +kernel
theorem dX4_done_78 : decode cX4_done 78 = .ok (.iconst 0, 1) := by decide +kernel
theorem dX4_done_79 : decode cX4_done 79 = .ok (.putfield 64, 3) := by decide +kernel
theorem dX4_done_82 : decode cX4_done 82 = .ok (.aload_n 0, 1) := by decide +kernel
theorem dX4_done_83 : decode cX4_done 83 = .ok (.getfield 64, 3) := by decide +kernel
theorem dX4_done_86 : decode cX4_done 86 = .ok (.ifCond .le 5, 3) := by decide +kernel
theorem dX4_done_89 : decode cX4_done 89 = .ok (.iconst 0, 1) := by decide +kernel
theorem dX4_done_90 : decode cX4_done 90 = .ok (.ireturn, 1) := by decide +kernel
theorem dX4_done_91 : decode cX4_done 91 = .ok (.aload_n 0, 1) := by decide +kernel
theorem dX4_done_92 : decode cX4_done 92 = .ok (.getfield 28, 3) := by decide +kernel
theorem dX4_done_95 : decode cX4_done 95 = .ok (.iload_n 1, 1) := by decide +kernel
theorem dX4_done_96 : decode cX4_done 96 = .ok (.iconst 1, 1) := by decide +kernel
theorem dX4_done_97 : decode cX4_done 97 = .ok (.bastore, 1) := by decide +kernel
theorem dX4_done_98 : decode cX4_done 98 = .ok (.iconst 0, 1) := by decide +kernel
theorem dX4_done_99 : decode cX4_done 99 = .ok (.istore_n 2, 1) := by decide +kernel
theorem dX4_done_100 : decode cX4_done 100 = .ok (.iload_n 2, 1) := by decide +kernel
theorem dX4_done_101 : decode cX4_done 101 = .ok (.bipush 10, 2) := by decide +kernel
theorem dX4_done_103 : decode cX4_done 103 = .ok (.if_icmp .ge 80, 3) := by decide +kernel
theorem dX4_done_106 : decode cX4_done 106 = .ok (.aload_n 0, 1) := by decide +kernel
theorem dX4_done_107 : decode cX4_done 107 = .ok (.getfield 47, 3) := by decide +kernel
theorem dX4_done_110 : decode cX4_done 110 = .ok (.iload_n 2, 1) := by decide +kernel
theorem dX4_done_111 : decode cX4_done 111 = .ok (.aload_n 0, 1) := by decide +kernel
theorem dX4_done_112 : decode cX4_done 112 = .ok (.getfield 47, 3) := by decide +kernel
theorem dX4_done_115 : decode cX4_done 115 = .ok (.iload_n 2, 1) := by decide +kernel
theorem dX4_done_116 : decode cX4_done 116 = .ok (.iaload, 1) := by decide +kernel
theorem dX4_done_117 : decode cX4_done 117 = .ok (.aload_n 0, 1) := by decide +kernel
theorem dX4_done_118 : decode cX4_done 118 = .ok (.getfield 32, 3) := by decide +kernel
theorem dX4_done_121 : decode cX4_done 121 = .ok (.bipush 10, 2) := by decide +kernel
theorem dX4_done_123 : decode cX4_done 123 = .ok (.iload_n 1, 1) := by decide +kernel
theorem dX4_done_124 : decode cX4_done 124 = .ok (.imul, 1) := by decide +kernel
theorem dX4_done_125 : decode cX4_done 125 = .ok (.iload_n 2, 1) := by decide +kernel
theorem dX4_done_126 : decode cX4_done 126 = .ok (.iadd, 1) := by decide +kernel
theorem dX4_done_127 : decode cX4_done 127 = .ok (.iaload, 1) := by decide +kernel
theorem dX4_done_128 : decode cX4_done 128 = .ok (.if_icmp .le 24, 3) := by decide +kernel
theorem dX4_done_131 : decode cX4_done 131 = .ok (.aload_n 0, 1) := by decide +kernel
theorem dX4_done_132 : decode cX4_done 132 = .ok (.getfield 47, 3) := by decide +kernel
theorem dX4_done_135 : decode cX4_done 135 = .ok (.iload_n 2, 1) := by decide +kernel
theorem dX4_done_136 : decode cX4_done 136 = .ok (.iaload, 1) := by decide +kernel
theorem dX4_done_137 : decode cX4_done 137 = .ok (.aload_n 0, 1) := by decide +kernel
theorem dX4_done_138 : decode cX4_done 138 = .ok (.getfield 32, 3) := by decide +kernel
theorem dX4_done_141 : decode cX4_done 141 = .ok (.bipush 10, 2) := by decide +kernel
theorem dX4_done_143 : decode cX4_done 143 = .ok (.iload_n 1, 1) := by decide +kernel
theorem dX4_done_144 : decode cX4_done 144 = .ok (.imul, 1) := by decide +kernel
theorem dX4_done_145 : decode cX4_done 145 = .ok (.iload_n 2, 1) := by decide +kernel
theorem dX4_done_146 : decode cX4_done 146 = .ok (.iadd, 1) := by decide +kernel
theorem dX4_done_147 : decode cX4_done 147 = .ok (.iaload, 1) := by decide +kernel
theorem dX4_done_148 : decode cX4_done 148 = .ok (.isub, 1) := by decide +kernel
theorem dX4_done_149 : decode cX4_done 149 = .ok (.goto 27, 3) := by decide +kernel
theorem dX4_done_152 : decode cX4_done 152 = .ok (.aload_n 0, 1) := by decide +kernel
theorem dX4_done_153 : decode cX4_done 153 = .ok (.getfield 32, 3) := by decide +kernel
theorem dX4_done_156 : decode cX4_done 156 = .ok (.bipush 10, 2) := by decide +kernel
theorem dX4_done_158 : decode cX4_done 158 = .ok (.iload_n 1, 1) := by decide +kernel
theorem dX4_done_159 : decode cX4_done 159 = .ok (.imul, 1) := by decide +kernel
theorem dX4_done_160 : decode cX4_done 160 = .ok (.iload_n 2, 1) := by decide +kernel
theorem dX4_done_161 : decode cX4_done 161 = .ok (.iadd, 1) := by decide +kernel
theorem dX4_done_162 : decode cX4_done 162 = .ok (.iaload, 1) := by decide +kernel
theorem dX4_done_163 : decode cX4_done 163 = .ok (.ifCond .le 7, 3) := by decide +kernel
theorem dX4_done_166 : decode cX4_done 166 = .ok (.iconst 0, 1) := by decide +kernel
theorem dX4_done_167 : decode cX4_done 167 = .ok (.goto 9, 3) := by decide +kernel
theorem dX4_done_170 : decode cX4_done 170 = .ok (.aload_n 0, 1) := by decide +kernel
theorem dX4_done_171 : decode cX4_done 171 = .ok (.getfield 47, 3) := by decide +kernel
theorem dX4_done_174 : decode cX4_done 174 = .ok (.iload_n 2, 1) := by decide +kernel
theorem dX4_done_175 : decode cX4_done 175 = .ok (.iaload, 1) := by decide +kernel
theorem dX4_done_176 : decode cX4_done 176 = .ok (.iastore, 1) := by decide +kernel
theorem dX4_done_177 : decode cX4_done 177 = .ok (.iinc 2 1, 3) := by decide +kernel
theorem dX4_done_180 : decode cX4_done 180 = .ok (.goto (-80), 3) := by decide +kernel
theorem dX4_done_183 : decode cX4_done 183 = .ok (.iconst 0, 1) := by decide +kernel
theorem dX4_done_184 : decode cX4_done 184 = .ok (.istore_n 2, 1) := by decide +kernel
theorem dX4_done_185 : decode cX4_done 185 = .ok (.iconst 0, 1) := by decide +kernel
theorem dX4_done_186 : decode cX4_done 186 = .ok (.istore_n 3, 1) := by decide +kernel
theorem dX4_done_187 : decode cX4_done 187 = .ok (.iload_n 3, 1) := by decide +kernel
theorem dX4_done_188 : decode cX4_done 188 = .ok (.aload_n 0, 1) := by decide +kernel
theorem dX4_done_189 : decode cX4_done 189 = .ok (.getfield 67, 3) := by decide +kernel
theorem dX4_done_192 : decode cX4_done 192 = .ok (.if_icmp .ge 41, 3) := by decide +kernel
theorem dX4_done_195 : decode cX4_done 195 = .ok (.iload_n 2, 1) := by decide +kernel
theorem dX4_done_196 : decode cX4_done 196 = .ok (.aload_n 0, 1) := by decide +kernel
theorem dX4_done_197 : decode cX4_done 197 = .ok (.getfield 22, 3) := by decide +kernel
theorem dX4_done_200 : decode cX4_done 200 = .ok (.iload_n 3, 1) := by decide +kernel
theorem dX4_done_201 : decode cX4_done 201 = .ok (.iaload, 1) := by decide +kernel
theorem dX4_done_202 : decode cX4_done 202 = .ok (.aload_n 0, 1) := by decide +kernel
theorem dX4_done_203 : decode cX4_done 203 = .ok (.getfield 22, 3) := by decide +kernel
theorem dX4_done_206 : decode cX4_done 206 = .ok (.iload_n 1, 1) := by decide +kernel
theorem dX4_done_207 : decode cX4_done 207 = .ok (.iaload, 1) := by decide +kernel
theorem dX4_done_208 : decode cX4_done 208 = .ok (.if_icmp .ne 16, 3) := by decide +kernel
theorem dX4_done_211 : decode cX4_done 211 = .ok (.aload_n 0, 1) := by decide +kernel
theorem dX4_done_212 : decode cX4_done 212 = .ok (.getfield 28, 3) := by decide +kernel
theorem dX4_done_215 : decode cX4_done 215 = .ok (.iload_n 3, 1) := by decide +kernel
theorem dX4_done_216 : decode cX4_done 216 = .ok (.baload, 1) := by decide +kernel
theorem dX4_done_217 : decode cX4_done 217 = .ok (.ifCond .ne 7, 3) := by decide +kernel
theorem dX4_done_220 : decode cX4_done 220 = .ok (.iconst 1, 1) := by decide +kernel
theorem dX4_done_221 : decode cX4_done 221 = .ok (.goto 4, 3) := by decide +kernel
theorem dX4_done_224 : decode cX4_done 224 = .ok (.iconst 0, 1) := by decide +kernel
theorem dX4_done_225 : decode cX4_done 225 = .ok (.iadd, 1) := by decide +kernel
theorem dX4_done_226 : decode cX4_done 226 = .ok (.istore_n 2, 1) := by decide +kernel
theorem dX4_done_227 : decode cX4_done 227 = .ok (.iinc 3 1, 3) := by decide +kernel
theorem dX4_done_230 : decode cX4_done 230 = .ok (.goto (-43), 3) := by decide +kernel
theorem dX4_done_233 : decode cX4_done 233 = .ok (.iload_n 2, 1) := by decide +kernel
theorem dX4_done_234 : decode cX4_done 234 = .ok (.ireturn, 1) := by decide +kernel
theorem dX4_change_0 : decode cX4_change 0 = .ok (.aload_n 0, 1) := by decide +kernel
theorem dX4_change_1 : decode cX4_change 1 = .ok (.aload_n 0, 1) := by decide +kernel
theorem dX4_change_2 : decode cX4_change 2 = .ok (.iload_n 1, 1) := by decide +kernel
theorem dX4_change_3 : decode cX4_change 3 = .ok (.invokevirtual 79, 3) := by decide +kernel
theorem dX4_change_6 : decode cX4_change 6 = .ok (.ifCond .ne 7, 3) := by decide +kernel
theorem dX4_change_9 : decode cX4_change 9 = .ok (.iconst 1, 1) := by decide +kernel
theorem dX4_change_10 : decode cX4_change 10 = .ok (.goto 15, 3) := by decide +kernel
theorem dX4_change_13 : decode cX4_change 13 = .ok (.iload_n 2, 1) := by decide +kernel
theorem dX4_change_14 : decode cX4_change 14 = .ok (.invokestatic 75, 3) := by decide +kernel
theorem dX4_change_17 : decode cX4_change 17 = .ok (.ifCond .ne 7, 3) := by decide +kernel
theorem dX4_change_20 : decode cX4_change 20 = .ok (.iconst 2, 1) := by decide +kernel
theorem dX4_change_21 : decode cX4_change 21 = .ok (.goto 4, 3) := by decide +kernel
theorem dX4_change_24 : decode cX4_change 24 = .ok (.iconst 0, 1) := by decide +kernel
theorem dX4_change_25 : decode cX4_change 25 = .ok (.putfield 64, 3) := by decide +kernel
theorem dX4_change_28 : decode cX4_change 28 = .ok (.aload_n 0, 1) := by decide +kernel
theorem dX4_change_29 : decode cX4_change 29 = .ok (.getfield 64, 3) := by decide +kernel
theorem dX4_change_32 : decode cX4_change 32 = .ok (.ifCond .ne 31, 3) := by decide +kernel
theorem dX4_change_35 : decode cX4_change 35 = .ok (.aload_n 0, 1) := by decide +kernel
theorem dX4_change_36 : decode cX4_change 36 = .ok (.aload_n 0, 1) := by decide +kernel
theorem dX4_change_37 : decode cX4_change 37 = .ok (.getfield 22, 3) := by decide +kernel
theorem dX4_change_40 : decode cX4_change 40 = .ok (.iload_n 1, 1) := by decide +kernel
theorem dX4_change_41 : decode cX4_change 41 = .ok (.iaload, 1) := by decide +kernel
theorem dX4_change_42 : decode cX4_change 42 = .ok (.iconst (-1), 1) := by decide +kernel
theorem dX4_change_43 : decode cX4_change 43 = .ok (.if_icmp .eq 12, 3) := by decide +kernel
theorem dX4_change_46 : decode cX4_change 46 = .ok (.aload_n 0, 1) := by decide +kernel
theorem dX4_change_47 : decode cX4_change 47 = .ok (.getfield 28, 3) := by decide +kernel
theorem dX4_change_50 : decode cX4_change 50 = .ok (.iload_n 1, 1) := by decide +kernel
theorem dX4_change_51 : decode cX4_change 51 = .ok (.baload, 1) := by decide +kernel
theorem dX4_change_52 : decode cX4_change 52 = .ok (.ifCond .eq 7, 3) := by decide +kernel
theorem dX4_change_55 : decode cX4_change 55 = .ok (.iconst 3, 1) := by decide +kernel
theorem dX4_change_56 : decode cX4_change 56 = .ok (.goto 4, 3) := by decide +kernel
theorem dX4_change_59 : decode cX4_change 59 = .ok (.iconst 0, 1) := by decide +kernel
theorem dX4_change_60 : decode cX4_change 60 = .ok (.putfield 64, 3) := by decide +kernel
theorem dX4_change_63 : decode cX4_change 63 = .ok (.aload_n 0, 1) := by decide +kernel
theorem dX4_change_64 : decode cX4_change 64 = .ok (.getfield 64, 3) := by decide +kernel
theorem dX4_change_67 : decode cX4_change 67 = .ok (.ifCond .le 5, 3) := by decide +kernel
theorem dX4_change_70 : decode cX4_change 70 = .ok (.iconst 0, 1) := by decide +kernel
theorem dX4_change_71 : decode cX4_change 71 = .ok (.ireturn, 1) := by decide +kernel
theorem dX4_change_72 : decode cX4_change 72 = .ok (.aload_n 0, 1) := by decide +kernel
theorem dX4_change_73 : decode cX4_change 73 = .ok (.getfield 7, 3) := by decide +kernel
theorem dX4_change_76 : decode cX4_change 76 = .ok (.iload_n 1, 1) := by decide +kernel
theorem dX4_change_77 : decode cX4_change 77 = .ok (.iload_n 2, 1) := by decide +kernel
theorem dX4_change_78 : decode cX4_change 78 = .ok (.iastore, 1) := by decide +kernel
theorem dX4_change_79 : decode cX4_change 79 = .ok (.aload_n 0, 1) := by decide +kernel
theorem dX4_change_80 : decode cX4_change 80 = .ok (.getfield 22, 3) := by decide +kernel
theorem dX4_change_83 : decode cX4_change 83 = .ok (.iload_n 1, 1) := by decide +kernel
theorem dX4_change_84 : decode cX4_change 84 = .ok (.iaload, 1) := by decide +kernel
theorem dX4_change_85 : decode cX4_change 85 = .ok (.ifCond .le 48, 3) := by decide +kernel
theorem dX4_change_88 : decode cX4_change 88 = .ok (.aload_n 0, 1) := by decide +kernel
theorem dX4_change_89 : decode cX4_change 89 = .ok (.getfield 44, 3) := by decide +kernel
theorem dX4_change_92 : decode cX4_change 92 = .ok (.aload_n 0, 1) := by decide +kernel
theorem dX4_change_93 : decode cX4_change 93 = .ok (.getfield 22, 3) := by decide +kernel
theorem dX4_change_96 : decode cX4_change 96 = .ok (.iload_n 1, 1) := by decide +kernel
theorem dX4_change_97 : decode cX4_change 97 = .ok (.iaload, 1) := by decide +kernel
theorem dX4_change_98 : decode cX4_change 98 = .ok (.ifCond .le 12, 3) := by decide +kernel
theorem dX4_change_101 : decode cX4_change 101 = .ok (.aload_n 0, 1) := by decide +kernel
theorem dX4_change_102 : decode cX4_change 102 = .ok (.getfield 22, 3) := by decide +kernel
theorem dX4_change_105 : decode cX4_change 105 = .ok (.iload_n 1, 1) := by decide +kernel
theorem dX4_change_106 : decode cX4_change 106 = .ok (.iaload, 1) := by decide +kernel
theorem dX4_change_107 : decode cX4_change 107 = .ok (.goto 4, 3) := by decide +kernel
theorem dX4_change_110 : decode cX4_change 110 = .ok (.iconst 0, 1) := by decide +kernel
theorem dX4_change_111 : decode cX4_change 111 = .ok (.baload, 1) := by decide +kernel
theorem dX4_change_112 : decode cX4_change 112 = .ok (.ifCond .ne 21, 3) := by decide +kernel
theorem dX4_change_115 : decode cX4_change 115 = .ok (.aload_n 0, 1) := by decide +kernel
theorem dX4_change_116 : decode cX4_change 116 = .ok (.aload_n 0, 1) := by decide +kernel
theorem dX4_change_117 : decode cX4_change 117 = .ok (.getfield 19, 3) := by decide +kernel
theorem dX4_change_120 : decode cX4_change 120 = .ok (.iload_n 1, 1) := by decide +kernel
theorem dX4_change_121 : decode cX4_change 121 = .ok (.iaload, 1) := by decide +kernel
theorem dX4_change_122 : decode cX4_change 122 = .ok (.iload_n 2, 1) := by decide +kernel
theorem dX4_change_123 : decode cX4_change 123 = .ok (.invokevirtual 105, 3) := by decide +kernel
theorem dX4_change_126 : decode cX4_change 126 = .ok (.ifCond .ne 7, 3) := by decide +kernel
theorem dX4_change_129 : decode cX4_change 129 = .ok (.iconst 1, 1) := by decide +kernel
theorem dX4_change_130 : decode cX4_change 130 = .ok (.goto 4, 3) := by decide +kernel
theorem dX4_change_133 : decode cX4_change 133 = .ok (.iconst 0, 1) := by decide +kernel
theorem dX4_change_134 : decode cX4_change 134 = .ok (.istore_n 3, 1) := by decide +kernel
theorem dX4_change_135 : decode cX4_change 135 = .ok (.iload_n 3, 1) := by decide +kernel
theorem dX4_change_136 : decode cX4_change 136 = .ok (.ifCond .eq 10, 3) := by decide +kernel
theorem dX4_change_139 : decode cX4_change 139 = .ok (.aload_n 0, 1) := by decide +kernel
theorem dX4_change_140 : decode cX4_change 140 = .ok (.getfield 22, 3) := by decide +kernel
theorem dX4_change_143 : decode cX4_change 143 = .ok (.iload_n 1, 1) := by decide +kernel
theorem dX4_change_144 : decode cX4_change 144 = .ok (.iconst 0, 1) := by decide +kernel
theorem dX4_change_145 : decode cX4_change 145 = .ok (.iastore, 1) := by decide +kernel
theorem dX4_change_146 : decode cX4_change 146 = .ok (.iload_n 3, 1) := by decide +kernel
theorem dX4_change_147 : decode cX4_change 147 = .ok (.ireturn, 1) := by decide +kernel
theorem dX4_join_0 : decode cX4_join 0 = .ok (.aload_n 0, 1) := by decide +kernel
theorem dX4_join_1 : decode cX4_join 1 = .ok (.aload_n 0, 1) := by decide +kernel
theorem dX4_join_2 : decode cX4_join 2 = .ok (.iload_n 1, 1) := by decide +kernel
theorem dX4_join_3 : decode cX4_join 3 = .ok (.invokevirtual 136, 3) := by decide +kernel
theorem dX4_join_6 : decode cX4_join 6 = .ok (.ifCond .eq 11, 3) := by decide +kernel
theorem dX4_join_9 : decode cX4_join 9 = .ok (.aload_n 0, 1) := by decide +kernel
theorem dX4_join_10 : decode cX4_join 10 = .ok (.iload_n 2, 1) := by decide +kernel
theorem dX4_join_11 : decode cX4_join 11 = .ok (.invokevirtual 136, 3) := by decide +kernel
theorem dX4_join_14 : decode cX4_join 14 = .ok (.ifCond .ne 7, 3) := by decide +kernel
theorem dX4_join_17 : decode cX4_join 17 = .ok (.iconst 1, 1) := by decide +kernel
theorem dX4_join_18 : decode cX4_join 18 = .ok (.goto 4, 3) := by decide +kernel
theorem dX4_join_21 : decode cX4_join 21 = .ok (.iconst 0, 1) := by decide +kernel
theorem dX4_join_22 : decode cX4_join 22 = .ok (.putfield 64, 3) := by decide +kernel
theorem dX4_join_25 : decode cX4_join 25 = .ok (.aload_n 0, 1) := by decide +kernel
theorem dX4_join_26 : decode cX4_join 26 = .ok (.getfield 64, 3) := by decide +kernel
theorem dX4_join_29 : decode cX4_join 29 = .ok (.ifCond .ne 60, 3) := by decide +kernel
theorem dX4_join_32 : decode cX4_join 32 = .ok (.aload_n 0, 1) := by decide +kernel
theorem dX4_join_33 : decode cX4_join 33 = .ok (.iload_n 1, 1) := by decide +kernel
theorem dX4_join_34 : decode cX4_join 34 = .ok (.iload_n 2, 1) := by decide +kernel
theorem dX4_join_35 : decode cX4_join 35 = .ok (.if_icmp .eq 46, 3) := by decide +kernel
theorem dX4_join_38 : decode cX4_join 38 = .ok (.aload_n 0, 1) := by decide +kernel
theorem dX4_join_39 : decode cX4_join 39 = .ok (.getfield 44, 3) := by decide +kernel
theorem dX4_join_42 : decode cX4_join 42 = .ok (.iload_n 1, 1) := by decide +kernel
theorem dX4_join_43 : decode cX4_join 43 = .ok (.baload, 1) := by decide +kernel
theorem dX4_join_44 : decode cX4_join 44 = .ok (.ifCond .ne 37, 3) := by decide +kernel
theorem dX4_join_47 : decode cX4_join 47 = .ok (.aload_n 0, 1) := by decide +kernel
theorem dX4_join_48 : decode cX4_join 48 = .ok (.getfield 44, 3) := by decide +kernel
theorem dX4_join_51 : decode cX4_join 51 = .ok (.iload_n 2, 1) := by decide +kernel
theorem dX4_join_52 : decode cX4_join 52 = .ok (.baload, 1) := by decide +kernel
theorem dX4_join_53 : decode cX4_join 53 = .ok (.ifCond .ne 28, 3) := by decide +kernel
theorem dX4_join_56 : decode cX4_join 56 = .ok (.aload_n 0, 1) := by decide +kernel
theorem dX4_join_57 : decode cX4_join 57 = .ok (.getfield 19, 3) := by decide +kernel
theorem dX4_join_60 : decode cX4_join 60 = .ok (.aload_n 0, 1) := by decide +kernel
theorem dX4_join_61 : decode cX4_join 61 = .ok (.iload_n 1, 1) := by decide +kernel
theorem dX4_join_62 : decode cX4_join 62 = .ok (.iconst 0, 1) := by decide +kernel
theorem dX4_join_63 : decode cX4_join 63 = .ok (.invokevirtual 142, 3) := by decide +kernel
theorem dX4_join_66 : decode cX4_join 66 = .ok (.iaload, 1) := by decide +kernel
theorem dX4_join_67 : decode cX4_join 67 = .ok (.aload_n 0, 1) := by decide +kernel
theorem dX4_join_68 : decode cX4_join 68 = .ok (.getfield 19, 3) := by decide +kernel
theorem dX4_join_71 : decode cX4_join 71 = .ok (.aload_n 0, 1) := by decide +kernel
theorem dX4_join_72 : decode cX4_join 72 = .ok (.iload_n 2, 1) := by decide +kernel
theorem dX4_join_73 : decode cX4_join 73 = .ok (.iconst 0, 1) := by decide +kernel
theorem dX4_join_74 : decode cX4_join 74 = .ok (.invokevirtual 142, 3) := by decide +kernel
theorem dX4_join_77 : decode cX4_join 77 = .ok (.iaload, 1) := by decide +kernel
theorem dX4_join_78 : decode cX4_join 78 = .ok (.if_icmp .eq 7, 3) := by decide +kernel
theorem dX4_join_81 : decode cX4_join 81 = .ok (.iconst 2, 1) := by decide +kernel
theorem dX4_join_82 : decode cX4_join 82 = .ok (.goto 4, 3) := by decide +kernel
theorem dX4_join_85 : decode cX4_join 85 = .ok (.iconst 0, 1) := by decide +kernel
theorem dX4_join_86 : decode cX4_join 86 = .ok (.putfield 64, 3) := by decide +kernel
theorem dX4_join_89 : decode cX4_join 89 = .ok (.aload_n 0, 1) := by decide +kernel
theorem dX4_join_90 : decode cX4_join 90 = .ok (.getfield 64, 3) := by decide +kernel
theorem dX4_join_93 : decode cX4_join 93 = .ok (.ifCond .le 5, 3) := by decide +kernel
theorem dX4_join_96 : decode cX4_join 96 = .ok (.iconst 0, 1) := by decide +kernel
theorem dX4_join_97 : decode cX4_join 97 = .ok (.ireturn, 1) := by decide +kernel
theorem dX4_join_98 : decode cX4_join 98 = .ok (.iconst 0, 1) := by decide +kernel
theorem dX4_join_99 : decode cX4_join 99 = .ok (.istore_n 3, 1) := by decide +kernel
theorem dX4_join_100 : decode cX4_join 100 = .ok (.iload_n 3, 1) := by decide +kernel
theorem dX4_join_101 : decode cX4_join 101 = .ok (.aload_n 0, 1) := by decide +kernel
theorem dX4_join_102 : decode cX4_join 102 = .ok (.getfield 67, 3) := by decide +kernel
theorem dX4_join_105 : decode cX4_join 105 = .ok (.if_icmp .ge 33, 3) := by decide +kernel
theorem dX4_join_108 : decode cX4_join 108 = .ok (.aload_n 0, 1) := by decide +kernel
theorem dX4_join_109 : decode cX4_join 109 = .ok (.getfield 53, 3) := by decide +kernel
theorem dX4_join_112 : decode cX4_join 112 = .ok (.iload_n 3, 1) := by decide +kernel
theorem dX4_join_113 : decode cX4_join 113 = .ok (.aload_n 0, 1) := by decide +kernel
theorem dX4_join_114 : decode cX4_join 114 = .ok (.getfield 25, 3) := by decide +kernel
theorem dX4_join_117 : decode cX4_join 117 = .ok (.iload_n 3, 1) := by decide +kernel
theorem dX4_join_118 : decode cX4_join 118 = .ok (.iaload, 1) := by decide +kernel
theorem dX4_join_119 : decode cX4_join 119 = .ok (.iastore, 1) := by decide +kernel
theorem dX4_join_120 : decode cX4_join 120 = .ok (.aload_n 0, 1) := by decide +kernel
theorem dX4_join_121 : decode cX4_join 121 = .ok (.getfield 50, 3) := by decide +kernel
theorem dX4_join_124 : decode cX4_join 124 = .ok (.iload_n 3, 1) := by decide +kernel
theorem dX4_join_125 : decode cX4_join 125 = .ok (.aload_n 0, 1) := by decide +kernel
theorem dX4_join_126 : decode cX4_join 126 = .ok (.getfield 22, 3) := by decide +kernel
theorem dX4_join_129 : decode cX4_join 129 = .ok (.iload_n 3, 1) := by decide +kernel
theorem dX4_join_130 : decode cX4_join 130 = .ok (.iaload, 1) := by decide +kernel
theorem dX4_join_131 : decode cX4_join 131 = .ok (.iastore, 1) := by decide +kernel
theorem dX4_join_132 : decode cX4_join 132 = .ok (.iinc 3 1, 3) := by decide +kernel
theorem dX4_join_135 : decode cX4_join 135 = .ok (.goto (-35), 3) := by decide +kernel
theorem dX4_join_138 : decode cX4_join 138 = .ok (.aload_n 0, 1) := by decide +kernel
theorem dX4_join_139 : decode cX4_join 139 = .ok (.iload_n 2, 1) := by decide +kernel
theorem dX4_join_140 : decode cX4_join 140 = .ok (.invokevirtual 102, 3) := by decide +kernel
theorem dX4_join_143 : decode cX4_join 143 = .ok (.istore_n 3, 1) := by decide +kernel
theorem dX4_join_144 : decode cX4_join 144 = .ok (.iconst 0, 1) := by decide +kernel
theorem dX4_join_145 : decode cX4_join 145 = .ok (.istore 4, 2) := by decide +kernel
theorem dX4_join_147 : decode cX4_join 147 = .ok (.iload 4, 2) := by decide +kernel
theorem dX4_join_149 : decode cX4_join 149 = .ok (.iload_n 3, 1) := by decide +kernel
theorem dX4_join_150 : decode cX4_join 150 = .ok (.if_icmp .ge 46, 3) := by decide +kernel
theorem dX4_join_153 : decode cX4_join 153 = .ok (.aload_n 0, 1) := by decide +kernel
theorem dX4_join_154 : decode cX4_join 154 = .ok (.iload_n 2, 1) := by decide +kernel
theorem dX4_join_155 : decode cX4_join 155 = .ok (.iconst 0, 1) := by decide +kernel
theorem dX4_join_156 : decode cX4_join 156 = .ok (.invokevirtual 142, 3) := by decide +kernel
theorem dX4_join_159 : decode cX4_join 159 = .ok (.istore 5, 2) := by decide +kernel
theorem dX4_join_161 : decode cX4_join 161 = .ok (.aload_n 0, 1) := by decide +kernel
theorem dX4_join_162 : decode cX4_join 162 = .ok (.getfield 22, 3) := by decide +kernel
theorem dX4_join_165 : decode cX4_join 165 = .ok (.iload 5, 2) := by decide +kernel
theorem dX4_join_167 : decode cX4_join 167 = .ok (.iload_n 1, 1) := by decide +kernel
theorem dX4_join_168 : decode cX4_join 168 = .ok (.iastore, 1) := by decide +kernel
theorem dX4_join_169 : decode cX4_join 169 = .ok (.aload_n 0, 1) := by decide +kernel
theorem dX4_join_170 : decode cX4_join 170 = .ok (.getfield 25, 3) := by decide +kernel
theorem dX4_join_173 : decode cX4_join 173 = .ok (.iload 5, 2) := by decide +kernel
theorem dX4_join_175 : decode cX4_join 175 = .ok (.aload_n 0, 1) := by decide +kernel
theorem dX4_join_176 : decode cX4_join 176 = .ok (.getfield 109, 3) := by decide +kernel
theorem dX4_join_179 : decode cX4_join 179 = .ok (.iastore, 1) := by decide +kernel
theorem dX4_join_180 : decode cX4_join 180 = .ok (.aload_n 0, 1) := by decide +kernel
theorem dX4_join_181 : decode cX4_join 181 = .ok (.dup, 1) := by decide +kernel
theorem dX4_join_182 : decode cX4_join 182 = .ok (.getfield 109, 3) := by decide +kernel
theorem dX4_join_185 : decode cX4_join 185 = .ok (.iconst 1, 1) := by decide +kernel
theorem dX4_join_186 : decode cX4_join 186 = .ok (.iadd, 1) := by decide +kernel
theorem dX4_join_187 : decode cX4_join 187 = .ok (.putfield 109, 3) := by decide +kernel
theorem dX4_join_190 : decode cX4_join 190 = .ok (.iinc 4 1, 3) := by decide +kernel
theorem dX4_join_193 : decode cX4_join 193 = .ok (.goto (-46), 3) := by decide +kernel
theorem dX4_join_196 : decode cX4_join 196 = .ok (.aload_n 0, 1) := by decide +kernel
theorem dX4_join_197 : decode cX4_join 197 = .ok (.iload_n 1, 1) := by decide +kernel
theorem dX4_join_198 : decode cX4_join 198 = .ok (.invokevirtual 139, 3) := by decide +kernel
theorem dX4_join_201 : decode cX4_join 201 = .ok (.aload_n 0, 1) := by decide +kernel
theorem dX4_join_202 : decode cX4_join 202 = .ok (.getfield 60, 3) := by decide +kernel
theorem dX4_join_205 : decode cX4_join 205 = .ok (.if_icmp .gt 9, 3) := by decide +kernel
theorem dX4_join_208 : decode cX4_join 208 = .ok (.aload_n 0, 1) := by decide +kernel
theorem dX4_join_209 : decode cX4_join 209 = .ok (.iload_n 1, 1) := by decide +kernel
theorem dX4_join_210 : decode cX4_join 210 = .ok (.invokevirtual 139, 3) := by decide +kernel
theorem dX4_join_213 : decode cX4_join 213 = .ok (.ireturn, 1) := by decide +kernel
theorem dX4_join_214 : decode cX4_join 214 = .ok (.iconst 0, 1) := by decide +kernel
theorem dX4_join_215 : decode cX4_join 215 = .ok (.istore 4, 2) := by decide +kernel
theorem dX4_join_217 : decode cX4_join 217 = .ok (.iload 4, 2) := by decide +kernel
theorem dX4_join_219 : decode cX4_join 219 = .ok (.aload_n 0, 1) := by decide +kernel
theorem dX4_join_220 : decode cX4_join 220 = .ok (.getfield 67, 3) := by decide +kernel
theorem dX4_join_223 : decode cX4_join 223 = .ok (.if_icmp .ge 37, 3) := by decide +kernel
theorem dX4_join_226 : decode cX4_join 226 = .ok (.aload_n 0, 1) := by decide +kernel
theorem dX4_join_227 : decode cX4_join 227 = .ok (.getfield 25, 3) := by decide +kernel
theorem dX4_join_230 : decode cX4_join 230 = .ok (.iload 4, 2) := by decide +kernel
theorem dX4_join_232 : decode cX4_join 232 = .ok (.aload_n 0, 1) := by decide +kernel
theorem dX4_join_233 : decode cX4_join 233 = .ok (.getfield 53, 3) := by decide +kernel
theorem dX4_join_236 : decode cX4_join 236 = .ok (.iload 4, 2) := by decide +kernel
theorem dX4_join_238 : decode cX4_join 238 = .ok (.iaload, 1) := by decide +kernel
theorem dX4_join_239 : decode cX4_join 239 = .ok (.iastore, 1) := by decide +kernel
theorem dX4_join_240 : decode cX4_join 240 = .ok (.aload_n 0, 1) := by decide +kernel
theorem dX4_join_241 : decode cX4_join 241 = .ok (.getfield 22, 3) := by decide +kernel
theorem dX4_join_244 : decode cX4_join 244 = .ok (.iload 4, 2) := by decide +kernel
theorem dX4_join_246 : decode cX4_join 246 = .ok (.aload_n 0, 1) := by decide +kernel
theorem dX4_join_247 : decode cX4_join 247 = .ok (.getfield 50, 3) := by decide +kernel
theorem dX4_join_250 : decode cX4_join 250 = .ok (.iload 4, 2) := by decide +kernel
theorem dX4_join_252 : decode cX4_join 252 = .ok (.iaload, 1) := by decide +kernel
theorem dX4_join_253 : decode cX4_join 253 = .ok (.iastore, 1) := by decide +kernel
theorem dX4_join_254 : decode cX4_join 254 = .ok (.iinc 4 1, 3) := by decide +kernel
theorem dX4_join_257 : decode cX4_join 257 = .ok (.goto (-40), 3) := by decide +kernel
theorem dX4_join_260 : decode cX4_join 260 = .ok (.aload_n 0, 1) := by decide +kernel
theorem dX4_join_261 : decode cX4_join 261 = .ok (.iconst 2, 1) := by decide +kernel
theorem dX4_join_262 : decode cX4_join 262 = .ok (.putfield 64, 3) := by decide +kernel
theorem dX4_join_265 : decode cX4_join 265 = .ok (.iconst 0, 1) := by decide +kernel
theorem dX4_join_266 : decode cX4_join 266 = .ok (.ireturn, 1) := by decide +kernel
theorem dX4_cutoff_0 : decode cX4_cutoff 0 = .ok (.aload_n 0, 1) := by decide +kernel
theorem dX4_cutoff_1 : decode cX4_cutoff 1 = .ok (.iload_n 1, 1) := by decide +kernel
theorem dX4_cutoff_2 : decode cX4_cutoff 2 = .ok (.iconst 0, 1) := by decide +kernel
theorem dX4_cutoff_3 : decode cX4_cutoff 3 = .ok (.iconst 3, 1) := by decide +kernel
theorem dX4_cutoff_4 : decode cX4_cutoff 4 = .ok (.invokestatic 70, 3) := by decide +kernel
theorem dX4_cutoff_7 : decode cX4_cutoff 7 = .ok (.ifCond .eq 14, 3) := by decide +kernel
theorem dX4_cutoff_10 : decode cX4_cutoff 10 = .ok (.iload_n 2, 1) := by decide +kernel
theorem dX4_cutoff_11 : decode cX4_cutoff 11 = .ok (.invokestatic 75, 3) := by decide +kernel
theorem dX4_cutoff_14 : decode cX4_cutoff 14 = .ok (.ifCond .eq 7, 3) := by decide +kernel
theorem dX4_cutoff_17 : decode cX4_cutoff 17 = .ok (.iconst 0, 1) := by decide +kernel
theorem dX4_cutoff_18 : decode cX4_cutoff 18 = .ok (.goto 4, 3) := by decide +kernel
theorem dX4_cutoff_21 : decode cX4_cutoff 21 = .ok (.iconst 1, 1) := by decide +kernel
theorem dX4_cutoff_22 : decode cX4_cutoff 22 = .ok (.putfield 64, 3) := by decide +kernel
theorem dX4_cutoff_25 : decode cX4_cutoff 25 = .ok (.aload_n 0, 1) := by decide +kernel
theorem dX4_cutoff_26 : decode cX4_cutoff 26 = .ok (.getfield 64, 3) := by decide +kernel
theorem dX4_cutoff_29 : decode cX4_cutoff 29 = .ok (.ifCond .le 5, 3) := by decide +kernel
theorem dX4_cutoff_32 : decode cX4_cutoff 32 = .ok (.iconst 0, 1) := by decide +kernel
theorem dX4_cutoff_33 : decode cX4_cutoff 33 = .ok (.ireturn, 1) := by decide +kernel
theorem dX4_cutoff_34 : decode cX4_cutoff 34 = .ok (.iconst 0, 1) := by decide +kernel
theorem dX4_cutoff_35 : decode cX4_cutoff 35 = .ok (.istore_n 3, 1) := by decide +kernel
theorem dX4_cutoff_36 : decode cX4_cutoff 36 = .ok (.iconst 0, 1) := by decide +kernel
theorem dX4_cutoff_37 : decode cX4_cutoff 37 = .ok (.istore 4, 2) := by decide +kernel
theorem dX4_cutoff_39 : decode cX4_cutoff 39 = .ok (.iload 4, 2) := by decide +kernel
theorem dX4_cutoff_41 : decode cX4_cutoff 41 = .ok (.aload_n 0, 1) := by decide +kernel
theorem dX4_cutoff_42 : decode cX4_cutoff 42 = .ok (.getfield 67, 3) := by decide +kernel
theorem dX4_cutoff_45 : decode cX4_cutoff 45 = .ok (.if_icmp .ge 81, 3) := by decide +kernel
theorem dX4_cutoff_48 : decode cX4_cutoff 48 = .ok (.aload_n 0, 1) := by decide +kernel
theorem dX4_cutoff_49 : decode cX4_cutoff 49 = .ok (.getfield 19, 3) := by decide +kernel
theorem dX4_cutoff_52 : decode cX4_cutoff 52 = .ok (.iload 4, 2) := by decide +kernel
theorem dX4_cutoff_54 : decode cX4_cutoff 54 = .ok (.iaload, 1) := by decide +kernel
theorem dX4_cutoff_55 : decode cX4_cutoff 55 = .ok (.iload_n 1, 1) := by decide +kernel
theorem dX4_cutoff_56 : decode cX4_cutoff 56 = .ok (.if_icmp .ne 64, 3) := by decide +kernel
theorem dX4_cutoff_59 : decode cX4_cutoff 59 = .ok (.aload_n 0, 1) := by decide +kernel
theorem dX4_cutoff_60 : decode cX4_cutoff 60 = .ok (.getfield 7, 3) := by decide +kernel
theorem dX4_cutoff_63 : decode cX4_cutoff 63 = .ok (.iload 4, 2) := by decide +kernel
theorem dX4_cutoff_65 : decode cX4_cutoff 65 = .ok (.iaload, 1) := by decide +kernel
theorem dX4_cutoff_66 : decode cX4_cutoff 66 = .ok (.iload_n 2, 1) := by decide +kernel
theorem dX4_cutoff_67 : decode cX4_cutoff 67 = .ok (.if_icmp .gt 53, 3) := by decide +kernel
theorem dX4_cutoff_70 : decode cX4_cutoff 70 = .ok (.aload_n 0, 1) := by decide +kernel
theorem dX4_cutoff_71 : decode cX4_cutoff 71 = .ok (.getfield 22, 3) := by decide +kernel
theorem dX4_cutoff_74 : decode cX4_cutoff 74 = .ok (.iload 4, 2) := by decide +kernel
theorem dX4_cutoff_76 : decode cX4_cutoff 76 = .ok (.iaload, 1) := by decide +kernel
theorem dX4_cutoff_77 : decode cX4_cutoff 77 = .ok (.iconst (-1), 1) := by decide +kernel
theorem dX4_cutoff_78 : decode cX4_cutoff 78 = .ok (.if_icmp .eq 42, 3) := by decide +kernel
theorem dX4_cutoff_81 : decode cX4_cutoff 81 = .ok (.aload_n 0, 1) := by decide +kernel
theorem dX4_cutoff_82 : decode cX4_cutoff 82 = .ok (.getfield 22, 3) := by decide +kernel
theorem dX4_cutoff_85 : decode cX4_cutoff 85 = .ok (.iload 4, 2) := by decide +kernel
theorem dX4_cutoff_87 : decode cX4_cutoff 87 = .ok (.iaload, 1) := by decide +kernel
theorem dX4_cutoff_88 : decode cX4_cutoff 88 = .ok (.ifCond .le 21, 3) := by decide +kernel
theorem dX4_cutoff_91 : decode cX4_cutoff 91 = .ok (.aload_n 0, 1) := by decide +kernel
theorem dX4_cutoff_92 : decode cX4_cutoff 92 = .ok (.getfield 44, 3) := by decide +kernel
theorem dX4_cutoff_95 : decode cX4_cutoff 95 = .ok (.aload_n 0, 1) := by decide +kernel
theorem dX4_cutoff_96 : decode cX4_cutoff 96 = .ok (.getfield 22, 3) := by decide +kernel
theorem dX4_cutoff_99 : decode cX4_cutoff 99 = .ok (.iload 4, 2) := by decide +kernel
theorem dX4_cutoff_101 : decode cX4_cutoff 101 = .ok (.iaload, 1) := by decide +kernel
theorem dX4_cutoff_102 : decode cX4_cutoff 102 = .ok (.baload, 1) := by decide +kernel
theorem dX4_cutoff_103 : decode cX4_cutoff 103 = .ok (.ifCond .eq 6, 3) := by decide +kernel
theorem dX4_cutoff_106 : decode cX4_cutoff 106 = .ok (.goto 14, 3) := by decide +kernel
theorem dX4_cutoff_109 : decode cX4_cutoff 109 = .ok (.aload_n 0, 1) := by decide +kernel
theorem dX4_cutoff_110 : decode cX4_cutoff 110 = .ok (.getfield 22, 3) := by decide +kernel
theorem dX4_cutoff_113 : decode cX4_cutoff 113 = .ok (.iload 4, 2) := by decide +kernel
theorem dX4_cutoff_115 : decode cX4_cutoff 115 = .ok (.iconst (-1), 1) := by decide +kernel
theorem dX4_cutoff_116 : decode cX4_cutoff 116 = .ok (.iastore, 1) := by decide +kernel
theorem dX4_cutoff_117 : decode cX4_cutoff 117 = .ok (.iinc 3 1, 3) := by decide +kernel
theorem dX4_cutoff_120 : decode cX4_cutoff 120 = .ok (.iinc 4 1, 3) := by decide +kernel
theorem dX4_cutoff_123 : decode cX4_cutoff 123 = .ok (.goto (-84), 3) := by decide +kernel
theorem dX4_cutoff_126 : decode cX4_cutoff 126 = .ok (.iload_n 3, 1) := by decide +kernel
theorem dX4_cutoff_127 : decode cX4_cutoff 127 = .ok (.ireturn, 1) := by decide +kernel
theorem dX4_late_0 : decode cX4_late 0 = .ok (.aload_n 0, 1) := by decide +kernel
theorem dX4_late_1 : decode cX4_late 1 = .ok (.iload_n 1, 1) := by decide +kernel
theorem dX4_late_2 : decode cX4_late 2 = .ok (.ifCond .ge 7, 3) := by decide +kernel
theorem dX4_late_5 : decode cX4_late 5 = .ok (.iconst 1, 1) := by decide +kernel
theorem dX4_late_6 : decode cX4_late 6 = .ok (.goto 4, 3) := by decide +kernel
theorem dX4_late_9 : decode cX4_late 9 = .ok (.iconst 0, 1) := by decide +kernel
theorem dX4_late_10 : decode cX4_late 10 = .ok (.putfield 64, 3) := by decide +kernel
theorem dX4_late_13 : decode cX4_late 13 = .ok (.aload_n 0, 1) := by decide +kernel
theorem dX4_late_14 : decode cX4_late 14 = .ok (.getfield 64, 3) := by decide +kernel
theorem dX4_late_17 : decode cX4_late 17 = .ok (.ifCond .le 5, 3) := by decide +kernel
theorem dX4_late_20 : decode cX4_late 20 = .ok (.iconst 0, 1) := by decide +kernel
theorem dX4_late_21 : decode cX4_late 21 = .ok (.ireturn, 1) := by decide +kernel
theorem dX4_late_22 : decode cX4_late 22 = .ok (.iload_n 1, 1) := by decide +kernel
theorem dX4_late_23 : decode cX4_late 23 = .ok (.istore_n 2, 1) := by decide +kernel
theorem dX4_late_24 : decode cX4_late 24 = .ok (.iconst 0, 1) := by decide +kernel
theorem dX4_late_25 : decode cX4_late 25 = .ok (.istore_n 3, 1) := by decide +kernel
theorem dX4_late_26 : decode cX4_late 26 = .ok (.iload_n 3, 1) := by decide +kernel
theorem dX4_late_27 : decode cX4_late 27 = .ok (.aload_n 0, 1) := by decide +kernel
theorem dX4_late_28 : decode cX4_late 28 = .ok (.getfield 67, 3) := by decide +kernel
theorem dX4_late_31 : decode cX4_late 31 = .ok (.if_icmp .ge 31, 3) := by decide +kernel
theorem dX4_late_34 : decode cX4_late 34 = .ok (.aload_n 0, 1) := by decide +kernel
theorem dX4_late_35 : decode cX4_late 35 = .ok (.getfield 22, 3) := by decide +kernel
theorem dX4_late_38 : decode cX4_late 38 = .ok (.iload_n 3, 1) := by decide +kernel
theorem dX4_late_39 : decode cX4_late 39 = .ok (.iaload, 1) := by decide +kernel
theorem dX4_late_40 : decode cX4_late 40 = .ok (.iconst (-1), 1) := by decide +kernel
theorem dX4_late_41 : decode cX4_late 41 = .ok (.if_icmp .eq 6, 3) := by decide +kernel
theorem dX4_late_44 : decode cX4_late 44 = .ok (.goto 12, 3) := by decide +kernel
theorem dX4_late_47 : decode cX4_late 47 = .ok (.iload_n 2, 1) := by decide +kernel
theorem dX4_late_48 : decode cX4_late 48 = .ok (.ifCond .ne 5, 3) := by decide +kernel
theorem dX4_late_51 : decode cX4_late 51 = .ok (.iload_n 3, 1) := by decide +kernel
theorem dX4_late_52 : decode cX4_late 52 = .ok (.ireturn, 1) := by decide +kernel
theorem dX4_late_53 : decode cX4_late 53 = .ok (.iinc 2 (-1), 3) := by decide +kernel
theorem dX4_late_56 : decode cX4_late 56 = .ok (.iinc 3 1, 3) := by decide +kernel
theorem dX4_late_59 : decode cX4_late 59 = .ok (.goto (-33), 3) := by decide +kernel
theorem dX4_late_62 : decode cX4_late 62 = .ok (.iconst (-1), 1) := by decide +kernel
theorem dX4_late_63 : decode cX4_late 63 = .ok (.ireturn, 1) := by decide +kernel
theorem dX4_count_0 : decode cX4_count 0 = .ok (.aload_n 0, 1) := by decide +kernel
theorem dX4_count_1 : decode cX4_count 1 = .ok (.iconst 0, 1) := by decide +kernel
theorem dX4_count_2 : decode cX4_count 2 = .ok (.putfield 64, 3) := by decide +kernel
theorem dX4_count_5 : decode cX4_count 5 = .ok (.iload_n 1, 1) := by decide +kernel
theorem dX4_count_6 : decode cX4_count 6 = .ok (.ifCond .ne 8, 3) := by decide +kernel
theorem dX4_count_9 : decode cX4_count 9 = .ok (.aload_n 0, 1) := by decide +kernel
theorem dX4_count_10 : decode cX4_count 10 = .ok (.getfield 67, 3) := by decide +kernel
theorem dX4_count_13 : decode cX4_count 13 = .ok (.ireturn, 1) := by decide +kernel
theorem dX4_count_14 : decode cX4_count 14 = .ok (.iload_n 1, 1) := by decide +kernel
theorem dX4_count_15 : decode cX4_count 15 = .ok (.bipush 6, 2) := by decide +kernel
theorem dX4_count_17 : decode cX4_count 17 = .ok (.if_icmp .ne 8, 3) := by decide +kernel
theorem dX4_count_20 : decode cX4_count 20 = .ok (.aload_n 0, 1) := by decide +kernel
theorem dX4_count_21 : decode cX4_count 21 = .ok (.getfield 60, 3) := by decide +kernel
theorem dX4_count_24 : decode cX4_count 24 = .ok (.ireturn, 1) := by decide +kernel
theorem dX4_count_25 : decode cX4_count 25 = .ok (.iconst 0, 1) := by decide +kernel
theorem dX4_count_26 : decode cX4_count 26 = .ok (.istore_n 2, 1) := by decide +kernel
theorem dX4_count_27 : decode cX4_count 27 = .ok (.iconst 1, 1) := by decide +kernel
theorem dX4_count_28 : decode cX4_count 28 = .ok (.istore_n 3, 1) := by decide +kernel
theorem dX4_count_29 : decode cX4_count 29 = .ok (.iload_n 3, 1) := by decide +kernel
theorem dX4_count_30 : decode cX4_count 30 = .ok (.aload_n 0, 1) := by decide +kernel
theorem dX4_count_31 : decode cX4_count 31 = .ok (.getfield 99, 3) := by decide +kernel
theorem dX4_count_34 : decode cX4_count 34 = .ok (.if_icmp .gt 47, 3) := by decide +kernel
theorem dX4_count_37 : decode cX4_count 37 = .ok (.iload_n 2, 1) := by decide +kernel
theorem dX4_count_38 : decode cX4_count 38 = .ok (.iload_n 1, 1) := by decide +kernel
theorem dX4_count_39 : decode cX4_count 39 = .ok (.iconst 1, 1) := by decide +kernel
theorem dX4_count_40 : decode cX4_count 40 = .ok (.if_icmp .ne 19, 3) := by decide +kernel
theorem dX4_count_43 : decode cX4_count 43 = .ok (.aload_n 0, 1) := by decide +kernel
theorem dX4_count_44 : decode cX4_count 44 = .ok (.iload_n 3, 1) := by decide +kernel
theorem dX4_count_45 : decode cX4_count 45 = .ok (.invokevirtual 102, 3) := by decide +kernel
theorem dX4_count_48 : decode cX4_count 48 = .ok (.ifCond .le 7, 3) := by decide +kernel
theorem dX4_count_51 : decode cX4_count 51 = .ok (.iconst 1, 1) := by decide +kernel
theorem dX4_count_52 : decode cX4_count 52 = .ok (.goto 21, 3) := by decide +kernel
theorem dX4_count_55 : decode cX4_count 55 = .ok (.iconst 0, 1) := by decide +kernel
theorem dX4_count_56 : decode cX4_count 56 = .ok (.goto 17, 3) := by decide +kernel
theorem dX4_count_59 : decode cX4_count 59 = .ok (.iload_n 1, 1) := by decide +kernel
theorem dX4_count_60 : decode cX4_count 60 = .ok (.iconst 5, 1) := by decide +kernel
theorem dX4_count_61 : decode cX4_count 61 = .ok (.if_icmp .ne 11, 3) := by decide +kernel
theorem dX4_count_64 : decode cX4_count 64 = .ok (.aload_n 0, 1) := by decide +kernel
theorem dX4_count_65 : decode cX4_count 65 = .ok (.iload_n 3, 1) := by decide +kernel
theorem dX4_count_66 : decode cX4_count 66 = .ok (.invokevirtual 96, 3) := by decide +kernel
theorem dX4_count_69 : decode cX4_count 69 = .ok (.goto 4, 3) := by decide +kernel
theorem dX4_count_72 : decode cX4_count 72 = .ok (.iconst 0, 1) := by decide +kernel
theorem dX4_count_73 : decode cX4_count 73 = .ok (.iadd, 1) := by decide +kernel
theorem dX4_count_74 : decode cX4_count 74 = .ok (.istore_n 2, 1) := by decide +kernel
theorem dX4_count_75 : decode cX4_count 75 = .ok (.iinc 3 1, 3) := by decide +kernel
theorem dX4_count_78 : decode cX4_count 78 = .ok (.goto (-49), 3) := by decide +kernel
theorem dX4_count_81 : decode cX4_count 81 = .ok (.iconst 0, 1) := by decide +kernel
theorem dX4_count_82 : decode cX4_count 82 = .ok (.istore_n 3, 1) := by decide +kernel
theorem dX4_count_83 : decode cX4_count 83 = .ok (.iload_n 3, 1) := by decide +kernel
theorem dX4_count_84 : decode cX4_count 84 = .ok (.aload_n 0, 1) := by decide +kernel
theorem dX4_count_85 : decode cX4_count 85 = .ok (.getfield 67, 3) := by decide +kernel
theorem dX4_count_88 : decode cX4_count 88 = .ok (.if_icmp .ge 60, 3) := by decide +kernel
theorem dX4_count_91 : decode cX4_count 91 = .ok (.iload_n 2, 1) := by decide +kernel
theorem dX4_count_92 : decode cX4_count 92 = .ok (.iload_n 1, 1) := by decide +kernel
theorem dX4_count_93 : decode cX4_count 93 = .ok (.iconst 2, 1) := by decide +kernel
theorem dX4_count_94 : decode cX4_count 94 = .ok (.if_icmp .ne 12, 3) := by decide +kernel
theorem dX4_count_97 : decode cX4_count 97 = .ok (.aload_n 0, 1) := by decide +kernel
theorem dX4_count_98 : decode cX4_count 98 = .ok (.getfield 22, 3) := by decide +kernel
theorem dX4_count_101 : decode cX4_count 101 = .ok (.iload_n 3, 1) := by decide +kernel
theorem dX4_count_102 : decode cX4_count 102 = .ok (.iaload, 1) := by decide +kernel
theorem dX4_count_103 : decode cX4_count 103 = .ok (.ifCond .eq 32, 3) := by decide +kernel
theorem dX4_count_106 : decode cX4_count 106 = .ok (.iload_n 1, 1) := by decide +kernel
theorem dX4_count_107 : decode cX4_count 107 = .ok (.iconst 3, 1) := by decide +kernel
theorem dX4_count_108 : decode cX4_count 108 = .ok (.if_icmp .ne 13, 3) := by decide +kernel
theorem dX4_count_111 : decode cX4_count 111 = .ok (.aload_n 0, 1) := by decide +kernel
theorem dX4_count_112 : decode cX4_count 112 = .ok (.getfield 22, 3) := by decide +kernel
theorem dX4_count_115 : decode cX4_count 115 = .ok (.iload_n 3, 1) := by decide +kernel
theorem dX4_count_116 : decode cX4_count 116 = .ok (.iaload, 1) := by decide +kernel
theorem dX4_count_117 : decode cX4_count 117 = .ok (.iconst (-1), 1) := by decide +kernel
theorem dX4_count_118 : decode cX4_count 118 = .ok (.if_icmp .eq 17, 3) := by decide +kernel
theorem dX4_count_121 : decode cX4_count 121 = .ok (.iload_n 1, 1) := by decide +kernel
theorem dX4_count_122 : decode cX4_count 122 = .ok (.iconst 4, 1) := by decide +kernel
theorem dX4_count_123 : decode cX4_count 123 = .ok (.if_icmp .ne 16, 3) := by decide +kernel
theorem dX4_count_126 : decode cX4_count 126 = .ok (.aload_n 0, 1) := by decide +kernel
theorem dX4_count_127 : decode cX4_count 127 = .ok (.getfield 28, 3) := by decide +kernel
theorem dX4_count_130 : decode cX4_count 130 = .ok (.iload_n 3, 1) := by decide +kernel
theorem dX4_count_131 : decode cX4_count 131 = .ok (.baload, 1) := by decide +kernel
theorem dX4_count_132 : decode cX4_count 132 = .ok (.ifCond .eq 7, 3) := by decide +kernel
theorem dX4_count_135 : decode cX4_count 135 = .ok (.iconst 1, 1) := by decide +kernel
theorem dX4_count_136 : decode cX4_count 136 = .ok (.goto 4, 3) := by decide +kernel
theorem dX4_count_139 : decode cX4_count 139 = .ok (.iconst 0, 1) := by decide +kernel
theorem dX4_count_140 : decode cX4_count 140 = .ok (.iadd, 1) := by decide +kernel
theorem dX4_count_141 : decode cX4_count 141 = .ok (.istore_n 2, 1) := by decide +kernel
theorem dX4_count_142 : decode cX4_count 142 = .ok (.iinc 3 1, 3) := by decide +kernel
theorem dX4_count_145 : decode cX4_count 145 = .ok (.goto (-62), 3) := by decide +kernel
theorem dX4_count_148 : decode cX4_count 148 = .ok (.iload_n 1, 1) := by decide +kernel
theorem dX4_count_149 : decode cX4_count 149 = .ok (.iconst 1, 1) := by decide +kernel
theorem dX4_count_150 : decode cX4_count 150 = .ok (.iconst 5, 1) := by decide +kernel
theorem dX4_count_151 : decode cX4_count 151 = .ok (.invokestatic 70, 3) := by decide +kernel
theorem dX4_count_154 : decode cX4_count 154 = .ok (.ifCond .eq 7, 3) := by decide +kernel
theorem dX4_count_157 : decode cX4_count 157 = .ok (.iload_n 2, 1) := by decide +kernel
theorem dX4_count_158 : decode cX4_count 158 = .ok (.goto 4, 3) := by decide +kernel
theorem dX4_count_161 : decode cX4_count 161 = .ok (.iconst (-1), 1) := by decide +kernel
theorem dX4_count_162 : decode cX4_count 162 = .ok (.ireturn, 1) := by decide +kernel
theorem dL_cell_0 : decode cL_cell 0 = .ok (.iload_n 1, 1) := by decide +kernel
theorem dL_cell_1 : decode cL_cell 1 = .ok (.aload_n 0, 1) := by decide +kernel
theorem dL_cell_2 : decode cL_cell 2 = .ok (.arraylength, 1) := by decide +kernel
theorem dL_cell_3 : decode cL_cell 3 = .ok (.if_icmp .ge 9, 3) := by decide +kernel
theorem dL_cell_6 : decode cL_cell 6 = .ok (.aload_n 0, 1) := by decide +kernel
theorem dL_cell_7 : decode cL_cell 7 = .ok (.iload_n 1, 1) := by decide +kernel
theorem dL_cell_8 : decode cL_cell 8 = .ok (.iaload, 1) := by decide +kernel
theorem dL_cell_9 : decode cL_cell 9 = .ok (.goto 4, 3) := by decide +kernel
theorem dL_cell_12 : decode cL_cell 12 = .ok (.iconst 0, 1) := by decide +kernel
theorem dL_cell_13 : decode cL_cell 13 = .ok (.ireturn, 1) := by decide +kernel
theorem dL_order_0 : decode cL_order 0 = .ok (.aload 4, 2) := by decide +kernel
theorem dL_order_2 : decode cL_order 2 = .ok (.iconst 0, 1) := by decide +kernel
theorem dL_order_3 : decode cL_order 3 = .ok (.aload_n 0, 1) := by decide +kernel
theorem dL_order_4 : decode cL_order 4 = .ok (.iload_n 1, 1) := by decide +kernel
theorem dL_order_5 : decode cL_order 5 = .ok (.iload_n 2, 1) := by decide +kernel
theorem dL_order_6 : decode cL_order 6 = .ok (.iload_n 3, 1) := by decide +kernel
theorem dL_order_7 : decode cL_order 7 = .ok (.invokevirtual 7, 3) := by decide +kernel
theorem dL_order_10 : decode cL_order 10 = .ok (.i2l, 1) := by decide +kernel
theorem dL_order_11 : decode cL_order 11 = .ok (.lastore, 1) := by decide +kernel
theorem dL_order_12 : decode cL_order 12 = .ok (.goto 11, 3) := by decide +kernel
theorem dL_order_15 : decode cL_order 15 = .ok (.astore 5, 2) := by decide +kernel
theorem dL_order_17 : decode cL_order 17 = .ok (.iconst 1, 1) := by decide +kernel
theorem dL_order_18 : decode cL_order 18 = .ok (.ireturn, 1) := by decide +kernel
theorem dL_order_19 : decode cL_order 19 = .ok (.astore 5, 2) := by decide +kernel
theorem dL_order_21 : decode cL_order 21 = .ok (.iconst 2, 1) := by decide +kernel
theorem dL_order_22 : decode cL_order 22 = .ok (.ireturn, 1) := by decide +kernel
theorem dL_order_23 : decode cL_order 23 = .ok (.iconst 0, 1) := by decide +kernel
theorem dL_order_24 : decode cL_order 24 = .ok (.ireturn, 1) := by decide +kernel
theorem dL_line_0 : decode cL_line 0 = .ok (.aload 4, 2) := by decide +kernel
theorem dL_line_2 : decode cL_line 2 = .ok (.iconst 0, 1) := by decide +kernel
theorem dL_line_3 : decode cL_line 3 = .ok (.aload_n 0, 1) := by decide +kernel
theorem dL_line_4 : decode cL_line 4 = .ok (.iload_n 1, 1) := by decide +kernel
theorem dL_line_5 : decode cL_line 5 = .ok (.iload_n 2, 1) := by decide +kernel
theorem dL_line_6 : decode cL_line 6 = .ok (.iload_n 3, 1) := by decide +kernel
theorem dL_line_7 : decode cL_line 7 = .ok (.invokevirtual 17, 3) := by decide +kernel
theorem dL_line_10 : decode cL_line 10 = .ok (.i2l, 1) := by decide +kernel
theorem dL_line_11 : decode cL_line 11 = .ok (.lastore, 1) := by decide +kernel
theorem dL_line_12 : decode cL_line 12 = .ok (.goto 19, 3) := by decide +kernel
theorem dL_line_15 : decode cL_line 15 = .ok (.astore 5, 2) := by decide +kernel
theorem dL_line_17 : decode cL_line 17 = .ok (.iconst 1, 1) := by decide +kernel
theorem dL_line_18 : decode cL_line 18 = .ok (.ireturn, 1) := by decide +kernel
theorem dL_line_19 : decode cL_line 19 = .ok (.astore 5, 2) := by decide +kernel
theorem dL_line_21 : decode cL_line 21 = .ok (.iconst 2, 1) := by decide +kernel
theorem dL_line_22 : decode cL_line 22 = .ok (.ireturn, 1) := by decide +kernel
theorem dL_line_23 : decode cL_line 23 = .ok (.astore 5, 2) := by decide +kernel
theorem dL_line_25 : decode cL_line 25 = .ok (.iconst 3, 1) := by decide +kernel
theorem dL_line_26 : decode cL_line 26 = .ok (.ireturn, 1) := by decide +kernel
theorem dL_line_27 : decode cL_line 27 = .ok (.astore 5, 2) := by decide +kernel
theorem dL_line_29 : decode cL_line 29 = .ok (.iconst 4, 1) := by decide +kernel
theorem dL_line_30 : decode cL_line 30 = .ok (.ireturn, 1) := by decide +kernel
theorem dL_line_31 : decode cL_line 31 = .ok (.iconst 0, 1) := by decide +kernel
theorem dL_line_32 : decode cL_line 32 = .ok (.ireturn, 1) := by decide +kernel
theorem dL_carrier_0 : decode cL_carrier 0 = .ok (.aload_n 0, 1) := by decide +kernel
theorem dL_carrier_1 : decode cL_carrier 1 = .ok (.iload_n 1, 1) := by decide +kernel
theorem dL_carrier_2 : decode cL_carrier 2 = .ok (.iload_n 2, 1) := by decide +kernel
theorem dL_carrier_3 : decode cL_carrier 3 = .ok (.invokevirtual 24, 3) := by decide +kernel
theorem dL_carrier_6 : decode cL_carrier 6 = .ok (.goto 12, 3) := by decide +kernel
theorem dL_carrier_9 : decode cL_carrier 9 = .ok (.astore_n 3, 1) := by decide +kernel
theorem dL_carrier_10 : decode cL_carrier 10 = .ok (.iconst 1, 1) := by decide +kernel
theorem dL_carrier_11 : decode cL_carrier 11 = .ok (.ireturn, 1) := by decide +kernel
theorem dL_carrier_12 : decode cL_carrier 12 = .ok (.astore_n 3, 1) := by decide +kernel
theorem dL_carrier_13 : decode cL_carrier 13 = .ok (.iconst 2, 1) := by decide +kernel
theorem dL_carrier_14 : decode cL_carrier 14 = .ok (.ireturn, 1) := by decide +kernel
theorem dL_carrier_15 : decode cL_carrier 15 = .ok (.astore_n 3, 1) := by decide +kernel
theorem dL_carrier_16 : decode cL_carrier 16 = .ok (.iconst 3, 1) := by decide +kernel
theorem dL_carrier_17 : decode cL_carrier 17 = .ok (.ireturn, 1) := by decide +kernel
theorem dL_carrier_18 : decode cL_carrier 18 = .ok (.iconst 0, 1) := by decide +kernel
theorem dL_carrier_19 : decode cL_carrier 19 = .ok (.ireturn, 1) := by decide +kernel
theorem dL_hour_0 : decode cL_hour 0 = .ok (.aload 4, 2) := by decide +kernel
theorem dL_hour_2 : decode cL_hour 2 = .ok (.iconst 0, 1) := by decide +kernel
theorem dL_hour_3 : decode cL_hour 3 = .ok (.aload_n 0, 1) := by decide +kernel
theorem dL_hour_4 : decode cL_hour 4 = .ok (.iload_n 1, 1) := by decide +kernel
theorem dL_hour_5 : decode cL_hour 5 = .ok (.iload_n 2, 1) := by decide +kernel
theorem dL_hour_6 : decode cL_hour 6 = .ok (.iload_n 3, 1) := by decide +kernel
theorem dL_hour_7 : decode cL_hour 7 = .ok (.invokevirtual 28, 3) := by decide +kernel
theorem dL_hour_10 : decode cL_hour 10 = .ok (.i2l, 1) := by decide +kernel
theorem dL_hour_11 : decode cL_hour 11 = .ok (.lastore, 1) := by decide +kernel
theorem dL_hour_12 : decode cL_hour 12 = .ok (.goto 11, 3) := by decide +kernel
theorem dL_hour_15 : decode cL_hour 15 = .ok (.astore 5, 2) := by decide +kernel
theorem dL_hour_17 : decode cL_hour 17 = .ok (.iconst 1, 1) := by decide +kernel
theorem dL_hour_18 : decode cL_hour 18 = .ok (.ireturn, 1) := by decide +kernel
theorem dL_hour_19 : decode cL_hour 19 = .ok (.astore 5, 2) := by decide +kernel
theorem dL_hour_21 : decode cL_hour 21 = .ok (.iconst 2, 1) := by decide +kernel
theorem dL_hour_22 : decode cL_hour 22 = .ok (.ireturn, 1) := by decide +kernel
theorem dL_hour_23 : decode cL_hour 23 = .ok (.iconst 0, 1) := by decide +kernel
theorem dL_hour_24 : decode cL_hour 24 = .ok (.ireturn, 1) := by decide +kernel
theorem dL_stock_0 : decode cL_stock 0 = .ok (.aload_n 0, 1) := by decide +kernel
theorem dL_stock_1 : decode cL_stock 1 = .ok (.iload_n 1, 1) := by decide +kernel
theorem dL_stock_2 : decode cL_stock 2 = .ok (.iload_n 2, 1) := by decide +kernel
theorem dL_stock_3 : decode cL_stock 3 = .ok (.invokevirtual 31, 3) := by decide +kernel
theorem dL_stock_6 : decode cL_stock 6 = .ok (.goto 6, 3) := by decide +kernel
theorem dL_stock_9 : decode cL_stock 9 = .ok (.astore_n 3, 1) := by decide +kernel
theorem dL_stock_10 : decode cL_stock 10 = .ok (.iconst 1, 1) := by decide +kernel
theorem dL_stock_11 : decode cL_stock 11 = .ok (.ireturn, 1) := by decide +kernel
theorem dL_stock_12 : decode cL_stock 12 = .ok (.iconst 0, 1) := by decide +kernel
theorem dL_stock_13 : decode cL_stock 13 = .ok (.ireturn, 1) := by decide +kernel
theorem dL_plan_0 : decode cL_plan 0 = .ok (.aload_n 1, 1) := by decide +kernel
theorem dL_plan_1 : decode cL_plan 1 = .ok (.iconst 0, 1) := by decide +kernel
theorem dL_plan_2 : decode cL_plan 2 = .ok (.aload_n 0, 1) := by decide +kernel
theorem dL_plan_3 : decode cL_plan 3 = .ok (.invokevirtual 34, 3) := by decide +kernel
theorem dL_plan_6 : decode cL_plan 6 = .ok (.i2l, 1) := by decide +kernel
theorem dL_plan_7 : decode cL_plan 7 = .ok (.lastore, 1) := by decide +kernel
theorem dL_plan_8 : decode cL_plan 8 = .ok (.goto 6, 3) := by decide +kernel
theorem dL_plan_11 : decode cL_plan 11 = .ok (.astore_n 2, 1) := by decide +kernel
theorem dL_plan_12 : decode cL_plan 12 = .ok (.iconst 1, 1) := by decide +kernel
theorem dL_plan_13 : decode cL_plan 13 = .ok (.ireturn, 1) := by decide +kernel
theorem dL_plan_14 : decode cL_plan 14 = .ok (.iconst 0, 1) := by decide +kernel
theorem dL_plan_15 : decode cL_plan 15 = .ok (.ireturn, 1) := by decide +kernel
theorem dL_wave_0 : decode cL_wave 0 = .ok (.aload_n 2, 1) := by decide +kernel
theorem dL_wave_1 : decode cL_wave 1 = .ok (.iconst 0, 1) := by decide +kernel
theorem dL_wave_2 : decode cL_wave 2 = .ok (.aload_n 0, 1) := by decide +kernel
theorem dL_wave_3 : decode cL_wave 3 = .ok (.iload_n 1, 1) := by decide +kernel
theorem dL_wave_4 : decode cL_wave 4 = .ok (.invokevirtual 38, 3) := by decide +kernel
theorem dL_wave_7 : decode cL_wave 7 = .ok (.i2l, 1) := by decide +kernel
theorem dL_wave_8 : decode cL_wave 8 = .ok (.lastore, 1) := by decide +kernel
theorem dL_wave_9 : decode cL_wave 9 = .ok (.goto 6, 3) := by decide +kernel
theorem dL_wave_12 : decode cL_wave 12 = .ok (.astore_n 3, 1) := by decide +kernel
theorem dL_wave_13 : decode cL_wave 13 = .ok (.iconst 1, 1) := by decide +kernel
theorem dL_wave_14 : decode cL_wave 14 = .ok (.ireturn, 1) := by decide +kernel
theorem dL_wave_15 : decode cL_wave 15 = .ok (.iconst 0, 1) := by decide +kernel
theorem dL_wave_16 : decode cL_wave 16 = .ok (.ireturn, 1) := by decide +kernel
theorem dL_told_0 : decode cL_told 0 = .ok (.aload_n 3, 1) := by decide +kernel
theorem dL_told_1 : decode cL_told 1 = .ok (.iconst 0, 1) := by decide +kernel
theorem dL_told_2 : decode cL_told 2 = .ok (.aload_n 0, 1) := by decide +kernel
theorem dL_told_3 : decode cL_told 3 = .ok (.iload_n 1, 1) := by decide +kernel
theorem dL_told_4 : decode cL_told 4 = .ok (.iload_n 2, 1) := by decide +kernel
theorem dL_told_5 : decode cL_told 5 = .ok (.invokevirtual 42, 3) := by decide +kernel
theorem dL_told_8 : decode cL_told 8 = .ok (.i2l, 1) := by decide +kernel
theorem dL_told_9 : decode cL_told 9 = .ok (.lastore, 1) := by decide +kernel
theorem dL_told_10 : decode cL_told 10 = .ok (.goto 11, 3) := by decide +kernel
theorem dL_told_13 : decode cL_told 13 = .ok (.astore 4, 2) := by decide +kernel
theorem dL_told_15 : decode cL_told 15 = .ok (.iconst 1, 1) := by decide +kernel
theorem dL_told_16 : decode cL_told 16 = .ok (.ireturn, 1) := by decide +kernel
theorem dL_told_17 : decode cL_told 17 = .ok (.astore 4, 2) := by decide +kernel
theorem dL_told_19 : decode cL_told 19 = .ok (.iconst 2, 1) := by decide +kernel
theorem dL_told_20 : decode cL_told 20 = .ok (.ireturn, 1) := by decide +kernel
theorem dL_told_21 : decode cL_told 21 = .ok (.iconst 0, 1) := by decide +kernel
theorem dL_told_22 : decode cL_told 22 = .ok (.ireturn, 1) := by decide +kernel
theorem dL_member_0 : decode cL_member 0 = .ok (.aload_n 3, 1) := by decide +kernel
theorem dL_member_1 : decode cL_member 1 = .ok (.iconst 0, 1) := by decide +kernel
theorem dL_member_2 : decode cL_member 2 = .ok (.aload_n 0, 1) := by decide +kernel
theorem dL_member_3 : decode cL_member 3 = .ok (.iload_n 1, 1) := by decide +kernel
theorem dL_member_4 : decode cL_member 4 = .ok (.iload_n 2, 1) := by decide +kernel
theorem dL_member_5 : decode cL_member 5 = .ok (.invokevirtual 46, 3) := by decide +kernel
theorem dL_member_8 : decode cL_member 8 = .ok (.i2l, 1) := by decide +kernel
theorem dL_member_9 : decode cL_member 9 = .ok (.lastore, 1) := by decide +kernel
theorem dL_member_10 : decode cL_member 10 = .ok (.goto 7, 3) := by decide +kernel
theorem dL_member_13 : decode cL_member 13 = .ok (.astore 4, 2) := by decide +kernel
theorem dL_member_15 : decode cL_member 15 = .ok (.iconst 1, 1) := by decide +kernel
theorem dL_member_16 : decode cL_member 16 = .ok (.ireturn, 1) := by decide +kernel
theorem dL_member_17 : decode cL_member 17 = .ok (.iconst 0, 1) := by decide +kernel
theorem dL_member_18 : decode cL_member 18 = .ok (.ireturn, 1) := by decide +kernel
theorem dL_replenish_0 : decode cL_replenish 0 = .ok (.aload_n 3, 1) := by decide +kernel
theorem dL_replenish_1 : decode cL_replenish 1 = .ok (.iconst 0, 1) := by decide +kernel
theorem dL_replenish_2 : decode cL_replenish 2 = .ok (.aload_n 0, 1) := by decide +kernel
theorem dL_replenish_3 : decode cL_replenish 3 = .ok (.iload_n 1, 1) := by decide +kernel
theorem dL_replenish_4 : decode cL_replenish 4 = .ok (.iload_n 2, 1) := by decide +kernel
theorem dL_replenish_5 : decode cL_replenish 5 = .ok (.invokevirtual 49, 3) := by decide +kernel
theorem dL_replenish_8 : decode cL_replenish 8 = .ok (.i2l, 1) := by decide +kernel
theorem dL_replenish_9 : decode cL_replenish 9 = .ok (.lastore, 1) := by decide +kernel
theorem dL_replenish_10 : decode cL_replenish 10 = .ok (.goto 11, 3) := by decide +kernel
theorem dL_replenish_13 : decode cL_replenish 13 = .ok (.astore 4, 2) := by decide +kernel
theorem dL_replenish_15 : decode cL_replenish 15 = .ok (.iconst 1, 1) := by decide +kernel
theorem dL_replenish_16 : decode cL_replenish 16 = .ok (.ireturn, 1) := by decide +kernel
theorem dL_replenish_17 : decode cL_replenish 17 = .ok (.astore 4, 2) := by decide +kernel
theorem dL_replenish_19 : decode cL_replenish 19 = .ok (.iconst 2, 1) := by decide +kernel
theorem dL_replenish_20 : decode cL_replenish 20 = .ok (.ireturn, 1) := by decide +kernel
theorem dL_replenish_21 : decode cL_replenish 21 = .ok (.iconst 0, 1) := by decide +kernel
theorem dL_replenish_22 : decode cL_replenish 22 = .ok (.ireturn, 1) := by decide +kernel
theorem dL_lacks_0 : decode cL_lacks 0 = .ok (.aload_n 3, 1) := by decide +kernel
theorem dL_lacks_1 : decode cL_lacks 1 = .ok (.iconst 0, 1) := by decide +kernel
theorem dL_lacks_2 : decode cL_lacks 2 = .ok (.aload_n 0, 1) := by decide +kernel
theorem dL_lacks_3 : decode cL_lacks 3 = .ok (.iload_n 1, 1) := by decide +kernel
theorem dL_lacks_4 : decode cL_lacks 4 = .ok (.iload_n 2, 1) := by decide +kernel
theorem dL_lacks_5 : decode cL_lacks 5 = .ok (.invokevirtual 52, 3) := by decide +kernel
theorem dL_lacks_8 : decode cL_lacks 8 = .ok (.i2l, 1) := by decide +kernel
theorem dL_lacks_9 : decode cL_lacks 9 = .ok (.lastore, 1) := by decide +kernel
theorem dL_lacks_10 : decode cL_lacks 10 = .ok (.goto 11, 3) := by decide +kernel
theorem dL_lacks_13 : decode cL_lacks 13 = .ok (.astore 4, 2) := by decide +kernel
theorem dL_lacks_15 : decode cL_lacks 15 = .ok (.iconst 1, 1) := by decide +kernel
theorem dL_lacks_16 : decode cL_lacks 16 = .ok (.ireturn, 1) := by decide +kernel
theorem dL_lacks_17 : decode cL_lacks 17 = .ok (.astore 4, 2) := by decide +kernel
theorem dL_lacks_19 : decode cL_lacks 19 = .ok (.iconst 2, 1) := by decide +kernel
theorem dL_lacks_20 : decode cL_lacks 20 = .ok (.ireturn, 1) := by decide +kernel
theorem dL_lacks_21 : decode cL_lacks 21 = .ok (.iconst 0, 1) := by decide +kernel
theorem dL_lacks_22 : decode cL_lacks 22 = .ok (.ireturn, 1) := by decide +kernel
theorem dL_release_0 : decode cL_release 0 = .ok (.aload_n 2, 1) := by decide +kernel
theorem dL_release_1 : decode cL_release 1 = .ok (.iconst 0, 1) := by decide +kernel
theorem dL_release_2 : decode cL_release 2 = .ok (.aload_n 0, 1) := by decide +kernel
theorem dL_release_3 : decode cL_release 3 = .ok (.iload_n 1, 1) := by decide +kernel
theorem dL_release_4 : decode cL_release 4 = .ok (.invokevirtual 55, 3) := by decide +kernel
theorem dL_release_7 : decode cL_release 7 = .ok (.i2l, 1) := by decide +kernel
theorem dL_release_8 : decode cL_release 8 = .ok (.lastore, 1) := by decide +kernel
theorem dL_release_9 : decode cL_release 9 = .ok (.goto 9, 3) := by decide +kernel
theorem dL_release_12 : decode cL_release 12 = .ok (.astore_n 3, 1) := by decide +kernel
theorem dL_release_13 : decode cL_release 13 = .ok (.iconst 1, 1) := by decide +kernel
theorem dL_release_14 : decode cL_release 14 = .ok (.ireturn, 1) := by decide +kernel
theorem dL_release_15 : decode cL_release 15 = .ok (.astore_n 3, 1) := by decide +kernel
theorem dL_release_16 : decode cL_release 16 = .ok (.iconst 2, 1) := by decide +kernel
theorem dL_release_17 : decode cL_release 17 = .ok (.ireturn, 1) := by decide +kernel
theorem dL_release_18 : decode cL_release 18 = .ok (.iconst 0, 1) := by decide +kernel
theorem dL_release_19 : decode cL_release 19 = .ok (.ireturn, 1) := by decide +kernel
theorem dL_done_0 : decode cL_done 0 = .ok (.aload_n 2, 1) := by decide +kernel
theorem dL_done_1 : decode cL_done 1 = .ok (.iconst 0, 1) := by decide +kernel
theorem dL_done_2 : decode cL_done 2 = .ok (.aload_n 0, 1) := by decide +kernel
theorem dL_done_3 : decode cL_done 3 = .ok (.iload_n 1, 1) := by decide +kernel
theorem dL_done_4 : decode cL_done 4 = .ok (.invokevirtual 58, 3) := by decide +kernel
theorem dL_done_7 : decode cL_done 7 = .ok (.i2l, 1) := by decide +kernel
theorem dL_done_8 : decode cL_done 8 = .ok (.lastore, 1) := by decide +kernel
theorem dL_done_9 : decode cL_done 9 = .ok (.goto 9, 3) := by decide +kernel
theorem dL_done_12 : decode cL_done 12 = .ok (.astore_n 3, 1) := by decide +kernel
theorem dL_done_13 : decode cL_done 13 = .ok (.iconst 1, 1) := by decide +kernel
theorem dL_done_14 : decode cL_done 14 = .ok (.ireturn, 1) := by decide +kernel
theorem dL_done_15 : decode cL_done 15 = .ok (.astore_n 3, 1) := by decide +kernel
theorem dL_done_16 : decode cL_done 16 = .ok (.iconst 2, 1) := by decide +kernel
theorem dL_done_17 : decode cL_done 17 = .ok (.ireturn, 1) := by decide +kernel
theorem dL_done_18 : decode cL_done 18 = .ok (.iconst 0, 1) := by decide +kernel
theorem dL_done_19 : decode cL_done 19 = .ok (.ireturn, 1) := by decide +kernel
theorem dL_change_0 : decode cL_change 0 = .ok (.aload_n 3, 1) := by decide +kernel
theorem dL_change_1 : decode cL_change 1 = .ok (.iconst 0, 1) := by decide +kernel
theorem dL_change_2 : decode cL_change 2 = .ok (.aload_n 0, 1) := by decide +kernel
theorem dL_change_3 : decode cL_change 3 = .ok (.iload_n 1, 1) := by decide +kernel
theorem dL_change_4 : decode cL_change 4 = .ok (.iload_n 2, 1) := by decide +kernel
theorem dL_change_5 : decode cL_change 5 = .ok (.invokevirtual 61, 3) := by decide +kernel
theorem dL_change_8 : decode cL_change 8 = .ok (.ifCond .eq 7, 3) := by decide +kernel
theorem dL_change_11 : decode cL_change 11 = .ok (.lconst 1, 1) := by decide +kernel
theorem dL_change_12 : decode cL_change 12 = .ok (.goto 4, 3) := by decide +kernel
theorem dL_change_15 : decode cL_change 15 = .ok (.lconst 0, 1) := by decide +kernel
theorem dL_change_16 : decode cL_change 16 = .ok (.lastore, 1) := by decide +kernel
theorem dL_change_17 : decode cL_change 17 = .ok (.goto 15, 3) := by decide +kernel
theorem dL_change_20 : decode cL_change 20 = .ok (.astore 4, 2) := by decide +kernel
theorem dL_change_22 : decode cL_change 22 = .ok (.iconst 1, 1) := by decide +kernel
theorem dL_change_23 : decode cL_change 23 = .ok (.ireturn, 1) := by decide +kernel
theorem dL_change_24 : decode cL_change 24 = .ok (.astore 4, 2) := by decide +kernel
theorem dL_change_26 : decode cL_change 26 = .ok (.iconst 2, 1) := by decide +kernel
theorem dL_change_27 : decode cL_change 27 = .ok (.ireturn, 1) := by decide +kernel
theorem dL_change_28 : decode cL_change 28 = .ok (.astore 4, 2) := by decide +kernel
theorem dL_change_30 : decode cL_change 30 = .ok (.iconst 3, 1) := by decide +kernel
theorem dL_change_31 : decode cL_change 31 = .ok (.ireturn, 1) := by decide +kernel
theorem dL_change_32 : decode cL_change 32 = .ok (.iconst 0, 1) := by decide +kernel
theorem dL_change_33 : decode cL_change 33 = .ok (.ireturn, 1) := by decide +kernel
theorem dL_join_0 : decode cL_join 0 = .ok (.aload_n 3, 1) := by decide +kernel
theorem dL_join_1 : decode cL_join 1 = .ok (.iconst 0, 1) := by decide +kernel
theorem dL_join_2 : decode cL_join 2 = .ok (.aload_n 0, 1) := by decide +kernel
theorem dL_join_3 : decode cL_join 3 = .ok (.iload_n 1, 1) := by decide +kernel
theorem dL_join_4 : decode cL_join 4 = .ok (.iload_n 2, 1) := by decide +kernel
theorem dL_join_5 : decode cL_join 5 = .ok (.invokevirtual 65, 3) := by decide +kernel
theorem dL_join_8 : decode cL_join 8 = .ok (.i2l, 1) := by decide +kernel
theorem dL_join_9 : decode cL_join 9 = .ok (.lastore, 1) := by decide +kernel
theorem dL_join_10 : decode cL_join 10 = .ok (.goto 11, 3) := by decide +kernel
theorem dL_join_13 : decode cL_join 13 = .ok (.astore 4, 2) := by decide +kernel
theorem dL_join_15 : decode cL_join 15 = .ok (.iconst 1, 1) := by decide +kernel
theorem dL_join_16 : decode cL_join 16 = .ok (.ireturn, 1) := by decide +kernel
theorem dL_join_17 : decode cL_join 17 = .ok (.astore 4, 2) := by decide +kernel
theorem dL_join_19 : decode cL_join 19 = .ok (.iconst 2, 1) := by decide +kernel
theorem dL_join_20 : decode cL_join 20 = .ok (.ireturn, 1) := by decide +kernel
theorem dL_join_21 : decode cL_join 21 = .ok (.iconst 0, 1) := by decide +kernel
theorem dL_join_22 : decode cL_join 22 = .ok (.ireturn, 1) := by decide +kernel
theorem dL_cutoff_0 : decode cL_cutoff 0 = .ok (.aload_n 3, 1) := by decide +kernel
theorem dL_cutoff_1 : decode cL_cutoff 1 = .ok (.iconst 0, 1) := by decide +kernel
theorem dL_cutoff_2 : decode cL_cutoff 2 = .ok (.aload_n 0, 1) := by decide +kernel
theorem dL_cutoff_3 : decode cL_cutoff 3 = .ok (.iload_n 1, 1) := by decide +kernel
theorem dL_cutoff_4 : decode cL_cutoff 4 = .ok (.iload_n 2, 1) := by decide +kernel
theorem dL_cutoff_5 : decode cL_cutoff 5 = .ok (.invokevirtual 68, 3) := by decide +kernel
theorem dL_cutoff_8 : decode cL_cutoff 8 = .ok (.i2l, 1) := by decide +kernel
theorem dL_cutoff_9 : decode cL_cutoff 9 = .ok (.lastore, 1) := by decide +kernel
theorem dL_cutoff_10 : decode cL_cutoff 10 = .ok (.goto 7, 3) := by decide +kernel
theorem dL_cutoff_13 : decode cL_cutoff 13 = .ok (.astore 4, 2) := by decide +kernel
theorem dL_cutoff_15 : decode cL_cutoff 15 = .ok (.iconst 1, 1) := by decide +kernel
theorem dL_cutoff_16 : decode cL_cutoff 16 = .ok (.ireturn, 1) := by decide +kernel
theorem dL_cutoff_17 : decode cL_cutoff 17 = .ok (.iconst 0, 1) := by decide +kernel
theorem dL_cutoff_18 : decode cL_cutoff 18 = .ok (.ireturn, 1) := by decide +kernel
theorem dL_late_0 : decode cL_late 0 = .ok (.aload_n 2, 1) := by decide +kernel
theorem dL_late_1 : decode cL_late 1 = .ok (.iconst 0, 1) := by decide +kernel
theorem dL_late_2 : decode cL_late 2 = .ok (.aload_n 0, 1) := by decide +kernel
theorem dL_late_3 : decode cL_late 3 = .ok (.iload_n 1, 1) := by decide +kernel
theorem dL_late_4 : decode cL_late 4 = .ok (.invokevirtual 71, 3) := by decide +kernel
theorem dL_late_7 : decode cL_late 7 = .ok (.i2l, 1) := by decide +kernel
theorem dL_late_8 : decode cL_late 8 = .ok (.lastore, 1) := by decide +kernel
theorem dL_late_9 : decode cL_late 9 = .ok (.goto 6, 3) := by decide +kernel
theorem dL_late_12 : decode cL_late 12 = .ok (.astore_n 3, 1) := by decide +kernel
theorem dL_late_13 : decode cL_late 13 = .ok (.iconst 1, 1) := by decide +kernel
theorem dL_late_14 : decode cL_late 14 = .ok (.ireturn, 1) := by decide +kernel
theorem dL_late_15 : decode cL_late 15 = .ok (.iconst 0, 1) := by decide +kernel
theorem dL_late_16 : decode cL_late 16 = .ok (.ireturn, 1) := by decide +kernel
end
section
theorem dL_law_0 : decode cL_law 0 = .ok (.new 8, 3) := by decide +kernel
theorem dL_law_3 : decode cL_law 3 = .ok (.dup, 1) := by decide +kernel
theorem dL_law_4 : decode cL_law 4 = .ok (.aload_n 0, 1) := by decide +kernel
theorem dL_law_5 : decode cL_law 5 = .ok (.iconst 0, 1) := by decide +kernel
theorem dL_law_6 : decode cL_law 6 = .ok (.invokestatic 74, 3) := by decide +kernel
theorem dL_law_9 : decode cL_law 9 = .ok (.invokespecial 80, 3) := by decide +kernel
theorem dL_law_12 : decode cL_law 12 = .ok (.astore_n 1, 1) := by decide +kernel
theorem dL_law_13 : decode cL_law 13 = .ok (.new 83, 3) := by decide +kernel
theorem dL_law_16 : decode cL_law 16 = .ok (.dup, 1) := by decide +kernel
theorem dL_law_17 : decode cL_law 17 = .ok (.aload_n 0, 1) := by decide +kernel
theorem dL_law_18 : decode cL_law 18 = .ok (.iconst 0, 1) := by decide +kernel
theorem dL_law_19 : decode cL_law 19 = .ok (.invokestatic 74, 3) := by decide +kernel
theorem dL_law_22 : decode cL_law 22 = .ok (.invokespecial 85, 3) := by decide +kernel
theorem dL_law_25 : decode cL_law 25 = .ok (.astore_n 2, 1) := by decide +kernel
theorem dL_law_26 : decode cL_law 26 = .ok (.iconst 1, 1) := by decide +kernel
theorem dL_law_27 : decode cL_law 27 = .ok (.newarray .long, 2) := by decide +kernel
theorem dL_law_29 : decode cL_law 29 = .ok (.astore_n 3, 1) := by decide +kernel
theorem dL_law_30 : decode cL_law 30 = .ok (.iconst 1, 1) := by decide +kernel
theorem dL_law_31 : decode cL_law 31 = .ok (.istore 4, 2) := by decide +kernel
theorem dL_law_33 : decode cL_law 33 = .ok (.iload 4, 2) := by decide +kernel
theorem dL_law_35 : decode cL_law 35 = .ok (.aload_n 0, 1) := by decide +kernel
theorem dL_law_36 : decode cL_law 36 = .ok (.arraylength, 1) := by decide +kernel
theorem dL_law_37 : decode cL_law 37 = .ok (.iconst 4, 1) := by decide +kernel
theorem dL_law_38 : decode cL_law 38 = .ok (.isub, 1) := by decide +kernel
theorem dL_law_39 : decode cL_law 39 = .ok (.if_icmp .gt 1215, 3) := by decide +kernel
theorem dL_law_42 : decode cL_law 42 = .ok (.aload_n 0, 1) := by decide +kernel
theorem dL_law_43 : decode cL_law 43 = .ok (.iload 4, 2) := by decide +kernel
theorem dL_law_45 : decode cL_law 45 = .ok (.iaload, 1) := by decide +kernel
theorem dL_law_46 : decode cL_law 46 = .ok (.bipush 31, 2) := by decide +kernel
theorem dL_law_48 : decode cL_law 48 = .ok (.iand, 1) := by decide +kernel
theorem dL_law_49 : decode cL_law 49 = .ok (.tableswitch 1199 0 17 #[87, 167, 247, 295, 375, 423, 467, 523, 591, 659, 727, 795, 851, 907, 982, 1050, 1118, 1174], 87) := by decide +kernel
theorem dL_law_136 : decode cL_law 136 = .ok (.aload_n 1, 1) := by decide +kernel
theorem dL_law_137 : decode cL_law 137 = .ok (.aload_n 0, 1) := by decide +kernel
theorem dL_law_138 : decode cL_law 138 = .ok (.iload 4, 2) := by decide +kernel
theorem dL_law_140 : decode cL_law 140 = .ok (.iconst 1, 1) := by decide +kernel
theorem dL_law_141 : decode cL_law 141 = .ok (.iadd, 1) := by decide +kernel
theorem dL_law_142 : decode cL_law 142 = .ok (.iaload, 1) := by decide +kernel
theorem dL_law_143 : decode cL_law 143 = .ok (.aload_n 0, 1) := by decide +kernel
theorem dL_law_144 : decode cL_law 144 = .ok (.iload 4, 2) := by decide +kernel
theorem dL_law_146 : decode cL_law 146 = .ok (.iconst 2, 1) := by decide +kernel
theorem dL_law_147 : decode cL_law 147 = .ok (.iadd, 1) := by decide +kernel
theorem dL_law_148 : decode cL_law 148 = .ok (.iaload, 1) := by decide +kernel
theorem dL_law_149 : decode cL_law 149 = .ok (.aload_n 0, 1) := by decide +kernel
theorem dL_law_150 : decode cL_law 150 = .ok (.iload 4, 2) := by decide +kernel
theorem dL_law_152 : decode cL_law 152 = .ok (.iconst 3, 1) := by decide +kernel
theorem dL_law_153 : decode cL_law 153 = .ok (.iadd, 1) := by decide +kernel
theorem dL_law_154 : decode cL_law 154 = .ok (.iaload, 1) := by decide +kernel
theorem dL_law_155 : decode cL_law 155 = .ok (.aload_n 3, 1) := by decide +kernel
theorem dL_law_156 : decode cL_law 156 = .ok (.invokestatic 86, 3) := by decide +kernel
theorem dL_law_159 : decode cL_law 159 = .ok (.istore 5, 2) := by decide +kernel
theorem dL_law_161 : decode cL_law 161 = .ok (.aload_n 2, 1) := by decide +kernel
theorem dL_law_162 : decode cL_law 162 = .ok (.aload_n 0, 1) := by decide +kernel
theorem dL_law_163 : decode cL_law 163 = .ok (.iload 4, 2) := by decide +kernel
theorem dL_law_165 : decode cL_law 165 = .ok (.iconst 1, 1) := by decide +kernel
theorem dL_law_166 : decode cL_law 166 = .ok (.iadd, 1) := by decide +kernel
theorem dL_law_167 : decode cL_law 167 = .ok (.iaload, 1) := by decide +kernel
theorem dL_law_168 : decode cL_law 168 = .ok (.aload_n 0, 1) := by decide +kernel
theorem dL_law_169 : decode cL_law 169 = .ok (.iload 4, 2) := by decide +kernel
theorem dL_law_171 : decode cL_law 171 = .ok (.iconst 2, 1) := by decide +kernel
theorem dL_law_172 : decode cL_law 172 = .ok (.iadd, 1) := by decide +kernel
theorem dL_law_173 : decode cL_law 173 = .ok (.iaload, 1) := by decide +kernel
theorem dL_law_174 : decode cL_law 174 = .ok (.aload_n 0, 1) := by decide +kernel
theorem dL_law_175 : decode cL_law 175 = .ok (.iload 4, 2) := by decide +kernel
theorem dL_law_177 : decode cL_law 177 = .ok (.iconst 3, 1) := by decide +kernel
theorem dL_law_178 : decode cL_law 178 = .ok (.iadd, 1) := by decide +kernel
theorem dL_law_179 : decode cL_law 179 = .ok (.iaload, 1) := by decide +kernel
theorem dL_law_180 : decode cL_law 180 = .ok (.invokevirtual 89, 3) := by decide +kernel
theorem dL_law_183 : decode cL_law 183 = .ok (.istore 6, 2) := by decide +kernel
theorem dL_law_185 : decode cL_law 185 = .ok (.aload_n 2, 1) := by decide +kernel
theorem dL_law_186 : decode cL_law 186 = .ok (.invokevirtual 90, 3) := by decide +kernel
theorem dL_law_189 : decode cL_law 189 = .ok (.iload 5, 2) := by decide +kernel
theorem dL_law_191 : decode cL_law 191 = .ok (.if_icmp .eq 5, 3) := by decide +kernel
theorem dL_law_194 : decode cL_law 194 = .ok (.iconst 0, 1) := by decide +kernel
theorem dL_law_195 : decode cL_law 195 = .ok (.ireturn, 1) := by decide +kernel
theorem dL_law_196 : decode cL_law 196 = .ok (.iload 5, 2) := by decide +kernel
theorem dL_law_198 : decode cL_law 198 = .ok (.ifCond .ne 15, 3) := by decide +kernel
theorem dL_law_201 : decode cL_law 201 = .ok (.aload_n 3, 1) := by decide +kernel
theorem dL_law_202 : decode cL_law 202 = .ok (.iconst 0, 1) := by decide +kernel
theorem dL_law_203 : decode cL_law 203 = .ok (.laload, 1) := by decide +kernel
theorem dL_law_204 : decode cL_law 204 = .ok (.iload 6, 2) := by decide +kernel
theorem dL_law_206 : decode cL_law 206 = .ok (.i2l, 1) := by decide +kernel
theorem dL_law_207 : decode cL_law 207 = .ok (.lcmp, 1) := by decide +kernel
theorem dL_law_208 : decode cL_law 208 = .ok (.ifCond .eq 5, 3) := by decide +kernel
theorem dL_law_211 : decode cL_law 211 = .ok (.iconst 0, 1) := by decide +kernel
theorem dL_law_212 : decode cL_law 212 = .ok (.ireturn, 1) := by decide +kernel
theorem dL_law_213 : decode cL_law 213 = .ok (.goto 1035, 3) := by decide +kernel
theorem dL_law_216 : decode cL_law 216 = .ok (.aload_n 1, 1) := by decide +kernel
theorem dL_law_217 : decode cL_law 217 = .ok (.aload_n 0, 1) := by decide +kernel
theorem dL_law_218 : decode cL_law 218 = .ok (.iload 4, 2) := by decide +kernel
theorem dL_law_220 : decode cL_law 220 = .ok (.iconst 1, 1) := by decide +kernel
theorem dL_law_221 : decode cL_law 221 = .ok (.iadd, 1) := by decide +kernel
theorem dL_law_222 : decode cL_law 222 = .ok (.iaload, 1) := by decide +kernel
theorem dL_law_223 : decode cL_law 223 = .ok (.aload_n 0, 1) := by decide +kernel
theorem dL_law_224 : decode cL_law 224 = .ok (.iload 4, 2) := by decide +kernel
theorem dL_law_226 : decode cL_law 226 = .ok (.iconst 2, 1) := by decide +kernel
theorem dL_law_227 : decode cL_law 227 = .ok (.iadd, 1) := by decide +kernel
theorem dL_law_228 : decode cL_law 228 = .ok (.iaload, 1) := by decide +kernel
theorem dL_law_229 : decode cL_law 229 = .ok (.aload_n 0, 1) := by decide +kernel
theorem dL_law_230 : decode cL_law 230 = .ok (.iload 4, 2) := by decide +kernel
theorem dL_law_232 : decode cL_law 232 = .ok (.iconst 3, 1) := by decide +kernel
theorem dL_law_233 : decode cL_law 233 = .ok (.iadd, 1) := by decide +kernel
theorem dL_law_234 : decode cL_law 234 = .ok (.iaload, 1) := by decide +kernel
theorem dL_law_235 : decode cL_law 235 = .ok (.aload_n 3, 1) := by decide +kernel
theorem dL_law_236 : decode cL_law 236 = .ok (.invokestatic 93, 3) := by decide +kernel
theorem dL_law_239 : decode cL_law 239 = .ok (.istore 5, 2) := by decide +kernel
theorem dL_law_241 : decode cL_law 241 = .ok (.aload_n 2, 1) := by decide +kernel
theorem dL_law_242 : decode cL_law 242 = .ok (.aload_n 0, 1) := by decide +kernel
theorem dL_law_243 : decode cL_law 243 = .ok (.iload 4, 2) := by decide +kernel
theorem dL_law_245 : decode cL_law 245 = .ok (.iconst 1, 1) := by decide +kernel
theorem dL_law_246 : decode cL_law 246 = .ok (.iadd, 1) := by decide +kernel
theorem dL_law_247 : decode cL_law 247 = .ok (.iaload, 1) := by decide +kernel
theorem dL_law_248 : decode cL_law 248 = .ok (.aload_n 0, 1) := by decide +kernel
theorem dL_law_249 : decode cL_law 249 = .ok (.iload 4, 2) := by decide +kernel
theorem dL_law_251 : decode cL_law 251 = .ok (.iconst 2, 1) := by decide +kernel
theorem dL_law_252 : decode cL_law 252 = .ok (.iadd, 1) := by decide +kernel
theorem dL_law_253 : decode cL_law 253 = .ok (.iaload, 1) := by decide +kernel
theorem dL_law_254 : decode cL_law 254 = .ok (.aload_n 0, 1) := by decide +kernel
theorem dL_law_255 : decode cL_law 255 = .ok (.iload 4, 2) := by decide +kernel
theorem dL_law_257 : decode cL_law 257 = .ok (.iconst 3, 1) := by decide +kernel
theorem dL_law_258 : decode cL_law 258 = .ok (.iadd, 1) := by decide +kernel
theorem dL_law_259 : decode cL_law 259 = .ok (.iaload, 1) := by decide +kernel
theorem dL_law_260 : decode cL_law 260 = .ok (.invokevirtual 95, 3) := by decide +kernel
theorem dL_law_263 : decode cL_law 263 = .ok (.istore 6, 2) := by decide +kernel
theorem dL_law_265 : decode cL_law 265 = .ok (.aload_n 2, 1) := by decide +kernel
theorem dL_law_266 : decode cL_law 266 = .ok (.invokevirtual 90, 3) := by decide +kernel
theorem dL_law_269 : decode cL_law 269 = .ok (.iload 5, 2) := by decide +kernel
theorem dL_law_271 : decode cL_law 271 = .ok (.if_icmp .eq 5, 3) := by decide +kernel
theorem dL_law_274 : decode cL_law 274 = .ok (.iconst 0, 1) := by decide +kernel
theorem dL_law_275 : decode cL_law 275 = .ok (.ireturn, 1) := by decide +kernel
theorem dL_law_276 : decode cL_law 276 = .ok (.iload 5, 2) := by decide +kernel
theorem dL_law_278 : decode cL_law 278 = .ok (.ifCond .ne 15, 3) := by decide +kernel
theorem dL_law_281 : decode cL_law 281 = .ok (.aload_n 3, 1) := by decide +kernel
theorem dL_law_282 : decode cL_law 282 = .ok (.iconst 0, 1) := by decide +kernel
theorem dL_law_283 : decode cL_law 283 = .ok (.laload, 1) := by decide +kernel
theorem dL_law_284 : decode cL_law 284 = .ok (.iload 6, 2) := by decide +kernel
theorem dL_law_286 : decode cL_law 286 = .ok (.i2l, 1) := by decide +kernel
theorem dL_law_287 : decode cL_law 287 = .ok (.lcmp, 1) := by decide +kernel
theorem dL_law_288 : decode cL_law 288 = .ok (.ifCond .eq 5, 3) := by decide +kernel
theorem dL_law_291 : decode cL_law 291 = .ok (.iconst 0, 1) := by decide +kernel
theorem dL_law_292 : decode cL_law 292 = .ok (.ireturn, 1) := by decide +kernel
theorem dL_law_293 : decode cL_law 293 = .ok (.goto 955, 3) := by decide +kernel
theorem dL_law_296 : decode cL_law 296 = .ok (.aload_n 1, 1) := by decide +kernel
theorem dL_law_297 : decode cL_law 297 = .ok (.aload_n 0, 1) := by decide +kernel
theorem dL_law_298 : decode cL_law 298 = .ok (.iload 4, 2) := by decide +kernel
theorem dL_law_300 : decode cL_law 300 = .ok (.iconst 1, 1) := by decide +kernel
theorem dL_law_301 : decode cL_law 301 = .ok (.iadd, 1) := by decide +kernel
theorem dL_law_302 : decode cL_law 302 = .ok (.iaload, 1) := by decide +kernel
theorem dL_law_303 : decode cL_law 303 = .ok (.aload_n 0, 1) := by decide +kernel
theorem dL_law_304 : decode cL_law 304 = .ok (.iload 4, 2) := by decide +kernel
theorem dL_law_306 : decode cL_law 306 = .ok (.iconst 2, 1) := by decide +kernel
theorem dL_law_307 : decode cL_law 307 = .ok (.iadd, 1) := by decide +kernel
theorem dL_law_308 : decode cL_law 308 = .ok (.iaload, 1) := by decide +kernel
theorem dL_law_309 : decode cL_law 309 = .ok (.invokestatic 96, 3) := by decide +kernel
theorem dL_law_312 : decode cL_law 312 = .ok (.istore 5, 2) := by decide +kernel
theorem dL_law_314 : decode cL_law 314 = .ok (.aload_n 2, 1) := by decide +kernel
theorem dL_law_315 : decode cL_law 315 = .ok (.aload_n 0, 1) := by decide +kernel
theorem dL_law_316 : decode cL_law 316 = .ok (.iload 4, 2) := by decide +kernel
theorem dL_law_318 : decode cL_law 318 = .ok (.iconst 1, 1) := by decide +kernel
theorem dL_law_319 : decode cL_law 319 = .ok (.iadd, 1) := by decide +kernel
theorem dL_law_320 : decode cL_law 320 = .ok (.iaload, 1) := by decide +kernel
theorem dL_law_321 : decode cL_law 321 = .ok (.aload_n 0, 1) := by decide +kernel
theorem dL_law_322 : decode cL_law 322 = .ok (.iload 4, 2) := by decide +kernel
theorem dL_law_324 : decode cL_law 324 = .ok (.iconst 2, 1) := by decide +kernel
theorem dL_law_325 : decode cL_law 325 = .ok (.iadd, 1) := by decide +kernel
theorem dL_law_326 : decode cL_law 326 = .ok (.iaload, 1) := by decide +kernel
theorem dL_law_327 : decode cL_law 327 = .ok (.invokevirtual 99, 3) := by decide +kernel
theorem dL_law_330 : decode cL_law 330 = .ok (.aload_n 2, 1) := by decide +kernel
theorem dL_law_331 : decode cL_law 331 = .ok (.invokevirtual 90, 3) := by decide +kernel
theorem dL_law_334 : decode cL_law 334 = .ok (.iload 5, 2) := by decide +kernel
theorem dL_law_336 : decode cL_law 336 = .ok (.if_icmp .eq 5, 3) := by decide +kernel
theorem dL_law_339 : decode cL_law 339 = .ok (.iconst 0, 1) := by decide +kernel
theorem dL_law_340 : decode cL_law 340 = .ok (.ireturn, 1) := by decide +kernel
theorem dL_law_341 : decode cL_law 341 = .ok (.goto 907, 3) := by decide +kernel
theorem dL_law_344 : decode cL_law 344 = .ok (.aload_n 1, 1) := by decide +kernel
theorem dL_law_345 : decode cL_law 345 = .ok (.aload_n 0, 1) := by decide +kernel
theorem dL_law_346 : decode cL_law 346 = .ok (.iload 4, 2) := by decide +kernel
theorem dL_law_348 : decode cL_law 348 = .ok (.iconst 1, 1) := by decide +kernel
theorem dL_law_349 : decode cL_law 349 = .ok (.iadd, 1) := by decide +kernel
theorem dL_law_350 : decode cL_law 350 = .ok (.iaload, 1) := by decide +kernel
theorem dL_law_351 : decode cL_law 351 = .ok (.aload_n 0, 1) := by decide +kernel
theorem dL_law_352 : decode cL_law 352 = .ok (.iload 4, 2) := by decide +kernel
theorem dL_law_354 : decode cL_law 354 = .ok (.iconst 2, 1) := by decide +kernel
theorem dL_law_355 : decode cL_law 355 = .ok (.iadd, 1) := by decide +kernel
theorem dL_law_356 : decode cL_law 356 = .ok (.iaload, 1) := by decide +kernel
theorem dL_law_357 : decode cL_law 357 = .ok (.aload_n 0, 1) := by decide +kernel
theorem dL_law_358 : decode cL_law 358 = .ok (.iload 4, 2) := by decide +kernel
theorem dL_law_360 : decode cL_law 360 = .ok (.iconst 3, 1) := by decide +kernel
theorem dL_law_361 : decode cL_law 361 = .ok (.iadd, 1) := by decide +kernel
theorem dL_law_362 : decode cL_law 362 = .ok (.iaload, 1) := by decide +kernel
theorem dL_law_363 : decode cL_law 363 = .ok (.aload_n 3, 1) := by decide +kernel
theorem dL_law_364 : decode cL_law 364 = .ok (.invokestatic 100, 3) := by decide +kernel
theorem dL_law_367 : decode cL_law 367 = .ok (.istore 5, 2) := by decide +kernel
theorem dL_law_369 : decode cL_law 369 = .ok (.aload_n 2, 1) := by decide +kernel
theorem dL_law_370 : decode cL_law 370 = .ok (.aload_n 0, 1) := by decide +kernel
theorem dL_law_371 : decode cL_law 371 = .ok (.iload 4, 2) := by decide +kernel
theorem dL_law_373 : decode cL_law 373 = .ok (.iconst 1, 1) := by decide +kernel
theorem dL_law_374 : decode cL_law 374 = .ok (.iadd, 1) := by decide +kernel
theorem dL_law_375 : decode cL_law 375 = .ok (.iaload, 1) := by decide +kernel
theorem dL_law_376 : decode cL_law 376 = .ok (.aload_n 0, 1) := by decide +kernel
theorem dL_law_377 : decode cL_law 377 = .ok (.iload 4, 2) := by decide +kernel
theorem dL_law_379 : decode cL_law 379 = .ok (.iconst 2, 1) := by decide +kernel
theorem dL_law_380 : decode cL_law 380 = .ok (.iadd, 1) := by decide +kernel
theorem dL_law_381 : decode cL_law 381 = .ok (.iaload, 1) := by decide +kernel
theorem dL_law_382 : decode cL_law 382 = .ok (.aload_n 0, 1) := by decide +kernel
theorem dL_law_383 : decode cL_law 383 = .ok (.iload 4, 2) := by decide +kernel
theorem dL_law_385 : decode cL_law 385 = .ok (.iconst 3, 1) := by decide +kernel
theorem dL_law_386 : decode cL_law 386 = .ok (.iadd, 1) := by decide +kernel
theorem dL_law_387 : decode cL_law 387 = .ok (.iaload, 1) := by decide +kernel
theorem dL_law_388 : decode cL_law 388 = .ok (.invokevirtual 102, 3) := by decide +kernel
theorem dL_law_391 : decode cL_law 391 = .ok (.istore 6, 2) := by decide +kernel
theorem dL_law_393 : decode cL_law 393 = .ok (.aload_n 2, 1) := by decide +kernel
theorem dL_law_394 : decode cL_law 394 = .ok (.invokevirtual 90, 3) := by decide +kernel
theorem dL_law_397 : decode cL_law 397 = .ok (.iload 5, 2) := by decide +kernel
theorem dL_law_399 : decode cL_law 399 = .ok (.if_icmp .eq 5, 3) := by decide +kernel
theorem dL_law_402 : decode cL_law 402 = .ok (.iconst 0, 1) := by decide +kernel
theorem dL_law_403 : decode cL_law 403 = .ok (.ireturn, 1) := by decide +kernel
theorem dL_law_404 : decode cL_law 404 = .ok (.iload 5, 2) := by decide +kernel
theorem dL_law_406 : decode cL_law 406 = .ok (.ifCond .ne 15, 3) := by decide +kernel
theorem dL_law_409 : decode cL_law 409 = .ok (.aload_n 3, 1) := by decide +kernel
theorem dL_law_410 : decode cL_law 410 = .ok (.iconst 0, 1) := by decide +kernel
theorem dL_law_411 : decode cL_law 411 = .ok (.laload, 1) := by decide +kernel
theorem dL_law_412 : decode cL_law 412 = .ok (.iload 6, 2) := by decide +kernel
theorem dL_law_414 : decode cL_law 414 = .ok (.i2l, 1) := by decide +kernel
theorem dL_law_415 : decode cL_law 415 = .ok (.lcmp, 1) := by decide +kernel
theorem dL_law_416 : decode cL_law 416 = .ok (.ifCond .eq 5, 3) := by decide +kernel
theorem dL_law_419 : decode cL_law 419 = .ok (.iconst 0, 1) := by decide +kernel
theorem dL_law_420 : decode cL_law 420 = .ok (.ireturn, 1) := by decide +kernel
theorem dL_law_421 : decode cL_law 421 = .ok (.goto 827, 3) := by decide +kernel
theorem dL_law_424 : decode cL_law 424 = .ok (.aload_n 1, 1) := by decide +kernel
theorem dL_law_425 : decode cL_law 425 = .ok (.aload_n 0, 1) := by decide +kernel
theorem dL_law_426 : decode cL_law 426 = .ok (.iload 4, 2) := by decide +kernel
theorem dL_law_428 : decode cL_law 428 = .ok (.iconst 1, 1) := by decide +kernel
theorem dL_law_429 : decode cL_law 429 = .ok (.iadd, 1) := by decide +kernel
theorem dL_law_430 : decode cL_law 430 = .ok (.iaload, 1) := by decide +kernel
theorem dL_law_431 : decode cL_law 431 = .ok (.aload_n 0, 1) := by decide +kernel
theorem dL_law_432 : decode cL_law 432 = .ok (.iload 4, 2) := by decide +kernel
theorem dL_law_434 : decode cL_law 434 = .ok (.iconst 2, 1) := by decide +kernel
theorem dL_law_435 : decode cL_law 435 = .ok (.iadd, 1) := by decide +kernel
theorem dL_law_436 : decode cL_law 436 = .ok (.iaload, 1) := by decide +kernel
theorem dL_law_437 : decode cL_law 437 = .ok (.invokestatic 103, 3) := by decide +kernel
theorem dL_law_440 : decode cL_law 440 = .ok (.istore 5, 2) := by decide +kernel
theorem dL_law_442 : decode cL_law 442 = .ok (.aload_n 2, 1) := by decide +kernel
theorem dL_law_443 : decode cL_law 443 = .ok (.aload_n 0, 1) := by decide +kernel
theorem dL_law_444 : decode cL_law 444 = .ok (.iload 4, 2) := by decide +kernel
theorem dL_law_446 : decode cL_law 446 = .ok (.iconst 1, 1) := by decide +kernel
theorem dL_law_447 : decode cL_law 447 = .ok (.iadd, 1) := by decide +kernel
theorem dL_law_448 : decode cL_law 448 = .ok (.iaload, 1) := by decide +kernel
theorem dL_law_449 : decode cL_law 449 = .ok (.aload_n 0, 1) := by decide +kernel
theorem dL_law_450 : decode cL_law 450 = .ok (.iload 4, 2) := by decide +kernel
theorem dL_law_452 : decode cL_law 452 = .ok (.iconst 2, 1) := by decide +kernel
theorem dL_law_453 : decode cL_law 453 = .ok (.iadd, 1) := by decide +kernel
theorem dL_law_454 : decode cL_law 454 = .ok (.iaload, 1) := by decide +kernel
theorem dL_law_455 : decode cL_law 455 = .ok (.invokevirtual 105, 3) := by decide +kernel
theorem dL_law_458 : decode cL_law 458 = .ok (.aload_n 2, 1) := by decide +kernel
theorem dL_law_459 : decode cL_law 459 = .ok (.invokevirtual 90, 3) := by decide +kernel
theorem dL_law_462 : decode cL_law 462 = .ok (.iload 5, 2) := by decide +kernel
theorem dL_law_464 : decode cL_law 464 = .ok (.if_icmp .eq 5, 3) := by decide +kernel
theorem dL_law_467 : decode cL_law 467 = .ok (.iconst 0, 1) := by decide +kernel
theorem dL_law_468 : decode cL_law 468 = .ok (.ireturn, 1) := by decide +kernel
theorem dL_law_469 : decode cL_law 469 = .ok (.goto 779, 3) := by decide +kernel
theorem dL_law_472 : decode cL_law 472 = .ok (.aload_n 1, 1) := by decide +kernel
theorem dL_law_473 : decode cL_law 473 = .ok (.aload_n 3, 1) := by decide +kernel
theorem dL_law_474 : decode cL_law 474 = .ok (.invokestatic 106, 3) := by decide +kernel
theorem dL_law_477 : decode cL_law 477 = .ok (.istore 5, 2) := by decide +kernel
theorem dL_law_479 : decode cL_law 479 = .ok (.aload_n 2, 1) := by decide +kernel
theorem dL_law_480 : decode cL_law 480 = .ok (.invokevirtual 109, 3) := by decide +kernel
theorem dL_law_483 : decode cL_law 483 = .ok (.istore 6, 2) := by decide +kernel
theorem dL_law_485 : decode cL_law 485 = .ok (.aload_n 2, 1) := by decide +kernel
theorem dL_law_486 : decode cL_law 486 = .ok (.invokevirtual 90, 3) := by decide +kernel
theorem dL_law_489 : decode cL_law 489 = .ok (.iload 5, 2) := by decide +kernel
theorem dL_law_491 : decode cL_law 491 = .ok (.if_icmp .eq 5, 3) := by decide +kernel
theorem dL_law_494 : decode cL_law 494 = .ok (.iconst 0, 1) := by decide +kernel
theorem dL_law_495 : decode cL_law 495 = .ok (.ireturn, 1) := by decide +kernel
theorem dL_law_496 : decode cL_law 496 = .ok (.iload 5, 2) := by decide +kernel
theorem dL_law_498 : decode cL_law 498 = .ok (.ifCond .ne 15, 3) := by decide +kernel
theorem dL_law_501 : decode cL_law 501 = .ok (.aload_n 3, 1) := by decide +kernel
theorem dL_law_502 : decode cL_law 502 = .ok (.iconst 0, 1) := by decide +kernel
theorem dL_law_503 : decode cL_law 503 = .ok (.laload, 1) := by decide +kernel
theorem dL_law_504 : decode cL_law 504 = .ok (.iload 6, 2) := by decide +kernel
theorem dL_law_506 : decode cL_law 506 = .ok (.i2l, 1) := by decide +kernel
theorem dL_law_507 : decode cL_law 507 = .ok (.lcmp, 1) := by decide +kernel
theorem dL_law_508 : decode cL_law 508 = .ok (.ifCond .eq 5, 3) := by decide +kernel
theorem dL_law_511 : decode cL_law 511 = .ok (.iconst 0, 1) := by decide +kernel
theorem dL_law_512 : decode cL_law 512 = .ok (.ireturn, 1) := by decide +kernel
theorem dL_law_513 : decode cL_law 513 = .ok (.goto 735, 3) := by decide +kernel
theorem dL_law_516 : decode cL_law 516 = .ok (.aload_n 1, 1) := by decide +kernel
theorem dL_law_517 : decode cL_law 517 = .ok (.aload_n 0, 1) := by decide +kernel
theorem dL_law_518 : decode cL_law 518 = .ok (.iload 4, 2) := by decide +kernel
theorem dL_law_520 : decode cL_law 520 = .ok (.iconst 1, 1) := by decide +kernel
theorem dL_law_521 : decode cL_law 521 = .ok (.iadd, 1) := by decide +kernel
theorem dL_law_522 : decode cL_law 522 = .ok (.iaload, 1) := by decide +kernel
theorem dL_law_523 : decode cL_law 523 = .ok (.aload_n 3, 1) := by decide +kernel
theorem dL_law_524 : decode cL_law 524 = .ok (.invokestatic 110, 3) := by decide +kernel
theorem dL_law_527 : decode cL_law 527 = .ok (.istore 5, 2) := by decide +kernel
theorem dL_law_529 : decode cL_law 529 = .ok (.aload_n 2, 1) := by decide +kernel
theorem dL_law_530 : decode cL_law 530 = .ok (.aload_n 0, 1) := by decide +kernel
theorem dL_law_531 : decode cL_law 531 = .ok (.iload 4, 2) := by decide +kernel
theorem dL_law_533 : decode cL_law 533 = .ok (.iconst 1, 1) := by decide +kernel
theorem dL_law_534 : decode cL_law 534 = .ok (.iadd, 1) := by decide +kernel
theorem dL_law_535 : decode cL_law 535 = .ok (.iaload, 1) := by decide +kernel
theorem dL_law_536 : decode cL_law 536 = .ok (.invokevirtual 113, 3) := by decide +kernel
theorem dL_law_539 : decode cL_law 539 = .ok (.istore 6, 2) := by decide +kernel
theorem dL_law_541 : decode cL_law 541 = .ok (.aload_n 2, 1) := by decide +kernel
theorem dL_law_542 : decode cL_law 542 = .ok (.invokevirtual 90, 3) := by decide +kernel
theorem dL_law_545 : decode cL_law 545 = .ok (.iload 5, 2) := by decide +kernel
theorem dL_law_547 : decode cL_law 547 = .ok (.if_icmp .eq 5, 3) := by decide +kernel
theorem dL_law_550 : decode cL_law 550 = .ok (.iconst 0, 1) := by decide +kernel
theorem dL_law_551 : decode cL_law 551 = .ok (.ireturn, 1) := by decide +kernel
theorem dL_law_552 : decode cL_law 552 = .ok (.iload 5, 2) := by decide +kernel
theorem dL_law_554 : decode cL_law 554 = .ok (.ifCond .ne 15, 3) := by decide +kernel
theorem dL_law_557 : decode cL_law 557 = .ok (.aload_n 3, 1) := by decide +kernel
theorem dL_law_558 : decode cL_law 558 = .ok (.iconst 0, 1) := by decide +kernel
theorem dL_law_559 : decode cL_law 559 = .ok (.laload, 1) := by decide +kernel
theorem dL_law_560 : decode cL_law 560 = .ok (.iload 6, 2) := by decide +kernel
theorem dL_law_562 : decode cL_law 562 = .ok (.i2l, 1) := by decide +kernel
theorem dL_law_563 : decode cL_law 563 = .ok (.lcmp, 1) := by decide +kernel
theorem dL_law_564 : decode cL_law 564 = .ok (.ifCond .eq 5, 3) := by decide +kernel
theorem dL_law_567 : decode cL_law 567 = .ok (.iconst 0, 1) := by decide +kernel
theorem dL_law_568 : decode cL_law 568 = .ok (.ireturn, 1) := by decide +kernel
theorem dL_law_569 : decode cL_law 569 = .ok (.goto 679, 3) := by decide +kernel
theorem dL_law_572 : decode cL_law 572 = .ok (.aload_n 1, 1) := by decide +kernel
theorem dL_law_573 : decode cL_law 573 = .ok (.aload_n 0, 1) := by decide +kernel
theorem dL_law_574 : decode cL_law 574 = .ok (.iload 4, 2) := by decide +kernel
theorem dL_law_576 : decode cL_law 576 = .ok (.iconst 1, 1) := by decide +kernel
theorem dL_law_577 : decode cL_law 577 = .ok (.iadd, 1) := by decide +kernel
theorem dL_law_578 : decode cL_law 578 = .ok (.iaload, 1) := by decide +kernel
theorem dL_law_579 : decode cL_law 579 = .ok (.aload_n 0, 1) := by decide +kernel
theorem dL_law_580 : decode cL_law 580 = .ok (.iload 4, 2) := by decide +kernel
theorem dL_law_582 : decode cL_law 582 = .ok (.iconst 2, 1) := by decide +kernel
theorem dL_law_583 : decode cL_law 583 = .ok (.iadd, 1) := by decide +kernel
theorem dL_law_584 : decode cL_law 584 = .ok (.iaload, 1) := by decide +kernel
theorem dL_law_585 : decode cL_law 585 = .ok (.aload_n 3, 1) := by decide +kernel
theorem dL_law_586 : decode cL_law 586 = .ok (.invokestatic 114, 3) := by decide +kernel
theorem dL_law_589 : decode cL_law 589 = .ok (.istore 5, 2) := by decide +kernel
theorem dL_law_591 : decode cL_law 591 = .ok (.aload_n 2, 1) := by decide +kernel
theorem dL_law_592 : decode cL_law 592 = .ok (.aload_n 0, 1) := by decide +kernel
theorem dL_law_593 : decode cL_law 593 = .ok (.iload 4, 2) := by decide +kernel
theorem dL_law_595 : decode cL_law 595 = .ok (.iconst 1, 1) := by decide +kernel
theorem dL_law_596 : decode cL_law 596 = .ok (.iadd, 1) := by decide +kernel
theorem dL_law_597 : decode cL_law 597 = .ok (.iaload, 1) := by decide +kernel
theorem dL_law_598 : decode cL_law 598 = .ok (.aload_n 0, 1) := by decide +kernel
theorem dL_law_599 : decode cL_law 599 = .ok (.iload 4, 2) := by decide +kernel
theorem dL_law_601 : decode cL_law 601 = .ok (.iconst 2, 1) := by decide +kernel
theorem dL_law_602 : decode cL_law 602 = .ok (.iadd, 1) := by decide +kernel
theorem dL_law_603 : decode cL_law 603 = .ok (.iaload, 1) := by decide +kernel
theorem dL_law_604 : decode cL_law 604 = .ok (.invokevirtual 117, 3) := by decide +kernel
theorem dL_law_607 : decode cL_law 607 = .ok (.istore 6, 2) := by decide +kernel
theorem dL_law_609 : decode cL_law 609 = .ok (.aload_n 2, 1) := by decide +kernel
theorem dL_law_610 : decode cL_law 610 = .ok (.invokevirtual 90, 3) := by decide +kernel
theorem dL_law_613 : decode cL_law 613 = .ok (.iload 5, 2) := by decide +kernel
theorem dL_law_615 : decode cL_law 615 = .ok (.if_icmp .eq 5, 3) := by decide +kernel
theorem dL_law_618 : decode cL_law 618 = .ok (.iconst 0, 1) := by decide +kernel
theorem dL_law_619 : decode cL_law 619 = .ok (.ireturn, 1) := by decide +kernel
theorem dL_law_620 : decode cL_law 620 = .ok (.iload 5, 2) := by decide +kernel
theorem dL_law_622 : decode cL_law 622 = .ok (.ifCond .ne 15, 3) := by decide +kernel
theorem dL_law_625 : decode cL_law 625 = .ok (.aload_n 3, 1) := by decide +kernel
theorem dL_law_626 : decode cL_law 626 = .ok (.iconst 0, 1) := by decide +kernel
theorem dL_law_627 : decode cL_law 627 = .ok (.laload, 1) := by decide +kernel
theorem dL_law_628 : decode cL_law 628 = .ok (.iload 6, 2) := by decide +kernel
theorem dL_law_630 : decode cL_law 630 = .ok (.i2l, 1) := by decide +kernel
theorem dL_law_631 : decode cL_law 631 = .ok (.lcmp, 1) := by decide +kernel
theorem dL_law_632 : decode cL_law 632 = .ok (.ifCond .eq 5, 3) := by decide +kernel
theorem dL_law_635 : decode cL_law 635 = .ok (.iconst 0, 1) := by decide +kernel
theorem dL_law_636 : decode cL_law 636 = .ok (.ireturn, 1) := by decide +kernel
theorem dL_law_637 : decode cL_law 637 = .ok (.goto 611, 3) := by decide +kernel
theorem dL_law_640 : decode cL_law 640 = .ok (.aload_n 1, 1) := by decide +kernel
theorem dL_law_641 : decode cL_law 641 = .ok (.aload_n 0, 1) := by decide +kernel
theorem dL_law_642 : decode cL_law 642 = .ok (.iload 4, 2) := by decide +kernel
theorem dL_law_644 : decode cL_law 644 = .ok (.iconst 1, 1) := by decide +kernel
theorem dL_law_645 : decode cL_law 645 = .ok (.iadd, 1) := by decide +kernel
theorem dL_law_646 : decode cL_law 646 = .ok (.iaload, 1) := by decide +kernel
theorem dL_law_647 : decode cL_law 647 = .ok (.aload_n 0, 1) := by decide +kernel
theorem dL_law_648 : decode cL_law 648 = .ok (.iload 4, 2) := by decide +kernel
theorem dL_law_650 : decode cL_law 650 = .ok (.iconst 2, 1) := by decide +kernel
theorem dL_law_651 : decode cL_law 651 = .ok (.iadd, 1) := by decide +kernel
theorem dL_law_652 : decode cL_law 652 = .ok (.iaload, 1) := by decide +kernel
theorem dL_law_653 : decode cL_law 653 = .ok (.aload_n 3, 1) := by decide +kernel
theorem dL_law_654 : decode cL_law 654 = .ok (.invokestatic 118, 3) := by decide +kernel
theorem dL_law_657 : decode cL_law 657 = .ok (.istore 5, 2) := by decide +kernel
theorem dL_law_659 : decode cL_law 659 = .ok (.aload_n 2, 1) := by decide +kernel
theorem dL_law_660 : decode cL_law 660 = .ok (.aload_n 0, 1) := by decide +kernel
theorem dL_law_661 : decode cL_law 661 = .ok (.iload 4, 2) := by decide +kernel
theorem dL_law_663 : decode cL_law 663 = .ok (.iconst 1, 1) := by decide +kernel
theorem dL_law_664 : decode cL_law 664 = .ok (.iadd, 1) := by decide +kernel
theorem dL_law_665 : decode cL_law 665 = .ok (.iaload, 1) := by decide +kernel
theorem dL_law_666 : decode cL_law 666 = .ok (.aload_n 0, 1) := by decide +kernel
theorem dL_law_667 : decode cL_law 667 = .ok (.iload 4, 2) := by decide +kernel
theorem dL_law_669 : decode cL_law 669 = .ok (.iconst 2, 1) := by decide +kernel
theorem dL_law_670 : decode cL_law 670 = .ok (.iadd, 1) := by decide +kernel
theorem dL_law_671 : decode cL_law 671 = .ok (.iaload, 1) := by decide +kernel
theorem dL_law_672 : decode cL_law 672 = .ok (.invokevirtual 120, 3) := by decide +kernel
theorem dL_law_675 : decode cL_law 675 = .ok (.istore 6, 2) := by decide +kernel
theorem dL_law_677 : decode cL_law 677 = .ok (.aload_n 2, 1) := by decide +kernel
theorem dL_law_678 : decode cL_law 678 = .ok (.invokevirtual 90, 3) := by decide +kernel
theorem dL_law_681 : decode cL_law 681 = .ok (.iload 5, 2) := by decide +kernel
theorem dL_law_683 : decode cL_law 683 = .ok (.if_icmp .eq 5, 3) := by decide +kernel
theorem dL_law_686 : decode cL_law 686 = .ok (.iconst 0, 1) := by decide +kernel
theorem dL_law_687 : decode cL_law 687 = .ok (.ireturn, 1) := by decide +kernel
theorem dL_law_688 : decode cL_law 688 = .ok (.iload 5, 2) := by decide +kernel
theorem dL_law_690 : decode cL_law 690 = .ok (.ifCond .ne 15, 3) := by decide +kernel
end
section
theorem dL_law_693 : decode cL_law 693 = .ok (.aload_n 3, 1) := by decide +kernel
theorem dL_law_694 : decode cL_law 694 = .ok (.iconst 0, 1) := by decide +kernel
theorem dL_law_695 : decode cL_law 695 = .ok (.laload, 1) := by decide +kernel
theorem dL_law_696 : decode cL_law 696 = .ok (.iload 6, 2) := by decide +kernel
theorem dL_law_698 : decode cL_law 698 = .ok (.i2l, 1) := by decide +kernel
theorem dL_law_699 : decode cL_law 699 = .ok (.lcmp, 1) := by decide +kernel
theorem dL_law_700 : decode cL_law 700 = .ok (.ifCond .eq 5, 3) := by decide +kernel
theorem dL_law_703 : decode cL_law 703 = .ok (.iconst 0, 1) := by decide +kernel
theorem dL_law_704 : decode cL_law 704 = .ok (.ireturn, 1) := by decide +kernel
theorem dL_law_705 : decode cL_law 705 = .ok (.goto 543, 3) := by decide +kernel
theorem dL_law_708 : decode cL_law 708 = .ok (.aload_n 1, 1) := by decide +kernel
theorem dL_law_709 : decode cL_law 709 = .ok (.aload_n 0, 1) := by decide +kernel
theorem dL_law_710 : decode cL_law 710 = .ok (.iload 4, 2) := by decide +kernel
theorem dL_law_712 : decode cL_law 712 = .ok (.iconst 1, 1) := by decide +kernel
theorem dL_law_713 : decode cL_law 713 = .ok (.iadd, 1) := by decide +kernel
theorem dL_law_714 : decode cL_law 714 = .ok (.iaload, 1) := by decide +kernel
theorem dL_law_715 : decode cL_law 715 = .ok (.aload_n 0, 1) := by decide +kernel
theorem dL_law_716 : decode cL_law 716 = .ok (.iload 4, 2) := by decide +kernel
theorem dL_law_718 : decode cL_law 718 = .ok (.iconst 2, 1) := by decide +kernel
theorem dL_law_719 : decode cL_law 719 = .ok (.iadd, 1) := by decide +kernel
theorem dL_law_720 : decode cL_law 720 = .ok (.iaload, 1) := by decide +kernel
theorem dL_law_721 : decode cL_law 721 = .ok (.aload_n 3, 1) := by decide +kernel
theorem dL_law_722 : decode cL_law 722 = .ok (.invokestatic 121, 3) := by decide +kernel
theorem dL_law_725 : decode cL_law 725 = .ok (.istore 5, 2) := by decide +kernel
theorem dL_law_727 : decode cL_law 727 = .ok (.aload_n 2, 1) := by decide +kernel
theorem dL_law_728 : decode cL_law 728 = .ok (.aload_n 0, 1) := by decide +kernel
theorem dL_law_729 : decode cL_law 729 = .ok (.iload 4, 2) := by decide +kernel
theorem dL_law_731 : decode cL_law 731 = .ok (.iconst 1, 1) := by decide +kernel
theorem dL_law_732 : decode cL_law 732 = .ok (.iadd, 1) := by decide +kernel
theorem dL_law_733 : decode cL_law 733 = .ok (.iaload, 1) := by decide +kernel
theorem dL_law_734 : decode cL_law 734 = .ok (.aload_n 0, 1) := by decide +kernel
theorem dL_law_735 : decode cL_law 735 = .ok (.iload 4, 2) := by decide +kernel
theorem dL_law_737 : decode cL_law 737 = .ok (.iconst 2, 1) := by decide +kernel
theorem dL_law_738 : decode cL_law 738 = .ok (.iadd, 1) := by decide +kernel
theorem dL_law_739 : decode cL_law 739 = .ok (.iaload, 1) := by decide +kernel
theorem dL_law_740 : decode cL_law 740 = .ok (.invokevirtual 123, 3) := by decide +kernel
theorem dL_law_743 : decode cL_law 743 = .ok (.istore 6, 2) := by decide +kernel
theorem dL_law_745 : decode cL_law 745 = .ok (.aload_n 2, 1) := by decide +kernel
theorem dL_law_746 : decode cL_law 746 = .ok (.invokevirtual 90, 3) := by decide +kernel
theorem dL_law_749 : decode cL_law 749 = .ok (.iload 5, 2) := by decide +kernel
theorem dL_law_751 : decode cL_law 751 = .ok (.if_icmp .eq 5, 3) := by decide +kernel
theorem dL_law_754 : decode cL_law 754 = .ok (.iconst 0, 1) := by decide +kernel
theorem dL_law_755 : decode cL_law 755 = .ok (.ireturn, 1) := by decide +kernel
theorem dL_law_756 : decode cL_law 756 = .ok (.iload 5, 2) := by decide +kernel
theorem dL_law_758 : decode cL_law 758 = .ok (.ifCond .ne 15, 3) := by decide +kernel
theorem dL_law_761 : decode cL_law 761 = .ok (.aload_n 3, 1) := by decide +kernel
theorem dL_law_762 : decode cL_law 762 = .ok (.iconst 0, 1) := by decide +kernel
theorem dL_law_763 : decode cL_law 763 = .ok (.laload, 1) := by decide +kernel
theorem dL_law_764 : decode cL_law 764 = .ok (.iload 6, 2) := by decide +kernel
theorem dL_law_766 : decode cL_law 766 = .ok (.i2l, 1) := by decide +kernel
theorem dL_law_767 : decode cL_law 767 = .ok (.lcmp, 1) := by decide +kernel
theorem dL_law_768 : decode cL_law 768 = .ok (.ifCond .eq 5, 3) := by decide +kernel
theorem dL_law_771 : decode cL_law 771 = .ok (.iconst 0, 1) := by decide +kernel
theorem dL_law_772 : decode cL_law 772 = .ok (.ireturn, 1) := by decide +kernel
theorem dL_law_773 : decode cL_law 773 = .ok (.goto 475, 3) := by decide +kernel
theorem dL_law_776 : decode cL_law 776 = .ok (.aload_n 1, 1) := by decide +kernel
theorem dL_law_777 : decode cL_law 777 = .ok (.aload_n 0, 1) := by decide +kernel
theorem dL_law_778 : decode cL_law 778 = .ok (.iload 4, 2) := by decide +kernel
theorem dL_law_780 : decode cL_law 780 = .ok (.iconst 1, 1) := by decide +kernel
theorem dL_law_781 : decode cL_law 781 = .ok (.iadd, 1) := by decide +kernel
theorem dL_law_782 : decode cL_law 782 = .ok (.iaload, 1) := by decide +kernel
theorem dL_law_783 : decode cL_law 783 = .ok (.aload_n 0, 1) := by decide +kernel
theorem dL_law_784 : decode cL_law 784 = .ok (.iload 4, 2) := by decide +kernel
theorem dL_law_786 : decode cL_law 786 = .ok (.iconst 2, 1) := by decide +kernel
theorem dL_law_787 : decode cL_law 787 = .ok (.iadd, 1) := by decide +kernel
theorem dL_law_788 : decode cL_law 788 = .ok (.iaload, 1) := by decide +kernel
theorem dL_law_789 : decode cL_law 789 = .ok (.aload_n 3, 1) := by decide +kernel
theorem dL_law_790 : decode cL_law 790 = .ok (.invokestatic 124, 3) := by decide +kernel
theorem dL_law_793 : decode cL_law 793 = .ok (.istore 5, 2) := by decide +kernel
theorem dL_law_795 : decode cL_law 795 = .ok (.aload_n 2, 1) := by decide +kernel
theorem dL_law_796 : decode cL_law 796 = .ok (.aload_n 0, 1) := by decide +kernel
theorem dL_law_797 : decode cL_law 797 = .ok (.iload 4, 2) := by decide +kernel
theorem dL_law_799 : decode cL_law 799 = .ok (.iconst 1, 1) := by decide +kernel
theorem dL_law_800 : decode cL_law 800 = .ok (.iadd, 1) := by decide +kernel
theorem dL_law_801 : decode cL_law 801 = .ok (.iaload, 1) := by decide +kernel
theorem dL_law_802 : decode cL_law 802 = .ok (.aload_n 0, 1) := by decide +kernel
theorem dL_law_803 : decode cL_law 803 = .ok (.iload 4, 2) := by decide +kernel
theorem dL_law_805 : decode cL_law 805 = .ok (.iconst 2, 1) := by decide +kernel
theorem dL_law_806 : decode cL_law 806 = .ok (.iadd, 1) := by decide +kernel
theorem dL_law_807 : decode cL_law 807 = .ok (.iaload, 1) := by decide +kernel
theorem dL_law_808 : decode cL_law 808 = .ok (.invokevirtual 126, 3) := by decide +kernel
theorem dL_law_811 : decode cL_law 811 = .ok (.istore 6, 2) := by decide +kernel
theorem dL_law_813 : decode cL_law 813 = .ok (.aload_n 2, 1) := by decide +kernel
theorem dL_law_814 : decode cL_law 814 = .ok (.invokevirtual 90, 3) := by decide +kernel
theorem dL_law_817 : decode cL_law 817 = .ok (.iload 5, 2) := by decide +kernel
theorem dL_law_819 : decode cL_law 819 = .ok (.if_icmp .eq 5, 3) := by decide +kernel
theorem dL_law_822 : decode cL_law 822 = .ok (.iconst 0, 1) := by decide +kernel
theorem dL_law_823 : decode cL_law 823 = .ok (.ireturn, 1) := by decide +kernel
theorem dL_law_824 : decode cL_law 824 = .ok (.iload 5, 2) := by decide +kernel
theorem dL_law_826 : decode cL_law 826 = .ok (.ifCond .ne 15, 3) := by decide +kernel
theorem dL_law_829 : decode cL_law 829 = .ok (.aload_n 3, 1) := by decide +kernel
theorem dL_law_830 : decode cL_law 830 = .ok (.iconst 0, 1) := by decide +kernel
theorem dL_law_831 : decode cL_law 831 = .ok (.laload, 1) := by decide +kernel
theorem dL_law_832 : decode cL_law 832 = .ok (.iload 6, 2) := by decide +kernel
theorem dL_law_834 : decode cL_law 834 = .ok (.i2l, 1) := by decide +kernel
theorem dL_law_835 : decode cL_law 835 = .ok (.lcmp, 1) := by decide +kernel
theorem dL_law_836 : decode cL_law 836 = .ok (.ifCond .eq 5, 3) := by decide +kernel
theorem dL_law_839 : decode cL_law 839 = .ok (.iconst 0, 1) := by decide +kernel
theorem dL_law_840 : decode cL_law 840 = .ok (.ireturn, 1) := by decide +kernel
theorem dL_law_841 : decode cL_law 841 = .ok (.goto 407, 3) := by decide +kernel
theorem dL_law_844 : decode cL_law 844 = .ok (.aload_n 1, 1) := by decide +kernel
theorem dL_law_845 : decode cL_law 845 = .ok (.aload_n 0, 1) := by decide +kernel
theorem dL_law_846 : decode cL_law 846 = .ok (.iload 4, 2) := by decide +kernel
theorem dL_law_848 : decode cL_law 848 = .ok (.iconst 1, 1) := by decide +kernel
theorem dL_law_849 : decode cL_law 849 = .ok (.iadd, 1) := by decide +kernel
theorem dL_law_850 : decode cL_law 850 = .ok (.iaload, 1) := by decide +kernel
theorem dL_law_851 : decode cL_law 851 = .ok (.aload_n 3, 1) := by decide +kernel
theorem dL_law_852 : decode cL_law 852 = .ok (.invokestatic 127, 3) := by decide +kernel
theorem dL_law_855 : decode cL_law 855 = .ok (.istore 5, 2) := by decide +kernel
theorem dL_law_857 : decode cL_law 857 = .ok (.aload_n 2, 1) := by decide +kernel
theorem dL_law_858 : decode cL_law 858 = .ok (.aload_n 0, 1) := by decide +kernel
theorem dL_law_859 : decode cL_law 859 = .ok (.iload 4, 2) := by decide +kernel
theorem dL_law_861 : decode cL_law 861 = .ok (.iconst 1, 1) := by decide +kernel
theorem dL_law_862 : decode cL_law 862 = .ok (.iadd, 1) := by decide +kernel
theorem dL_law_863 : decode cL_law 863 = .ok (.iaload, 1) := by decide +kernel
theorem dL_law_864 : decode cL_law 864 = .ok (.invokevirtual 129, 3) := by decide +kernel
theorem dL_law_867 : decode cL_law 867 = .ok (.istore 6, 2) := by decide +kernel
theorem dL_law_869 : decode cL_law 869 = .ok (.aload_n 2, 1) := by decide +kernel
theorem dL_law_870 : decode cL_law 870 = .ok (.invokevirtual 90, 3) := by decide +kernel
theorem dL_law_873 : decode cL_law 873 = .ok (.iload 5, 2) := by decide +kernel
theorem dL_law_875 : decode cL_law 875 = .ok (.if_icmp .eq 5, 3) := by decide +kernel
theorem dL_law_878 : decode cL_law 878 = .ok (.iconst 0, 1) := by decide +kernel
theorem dL_law_879 : decode cL_law 879 = .ok (.ireturn, 1) := by decide +kernel
theorem dL_law_880 : decode cL_law 880 = .ok (.iload 5, 2) := by decide +kernel
theorem dL_law_882 : decode cL_law 882 = .ok (.ifCond .ne 15, 3) := by decide +kernel
theorem dL_law_885 : decode cL_law 885 = .ok (.aload_n 3, 1) := by decide +kernel
theorem dL_law_886 : decode cL_law 886 = .ok (.iconst 0, 1) := by decide +kernel
theorem dL_law_887 : decode cL_law 887 = .ok (.laload, 1) := by decide +kernel
theorem dL_law_888 : decode cL_law 888 = .ok (.iload 6, 2) := by decide +kernel
theorem dL_law_890 : decode cL_law 890 = .ok (.i2l, 1) := by decide +kernel
theorem dL_law_891 : decode cL_law 891 = .ok (.lcmp, 1) := by decide +kernel
theorem dL_law_892 : decode cL_law 892 = .ok (.ifCond .eq 5, 3) := by decide +kernel
theorem dL_law_895 : decode cL_law 895 = .ok (.iconst 0, 1) := by decide +kernel
theorem dL_law_896 : decode cL_law 896 = .ok (.ireturn, 1) := by decide +kernel
theorem dL_law_897 : decode cL_law 897 = .ok (.goto 351, 3) := by decide +kernel
theorem dL_law_900 : decode cL_law 900 = .ok (.aload_n 1, 1) := by decide +kernel
theorem dL_law_901 : decode cL_law 901 = .ok (.aload_n 0, 1) := by decide +kernel
theorem dL_law_902 : decode cL_law 902 = .ok (.iload 4, 2) := by decide +kernel
theorem dL_law_904 : decode cL_law 904 = .ok (.iconst 1, 1) := by decide +kernel
theorem dL_law_905 : decode cL_law 905 = .ok (.iadd, 1) := by decide +kernel
theorem dL_law_906 : decode cL_law 906 = .ok (.iaload, 1) := by decide +kernel
theorem dL_law_907 : decode cL_law 907 = .ok (.aload_n 3, 1) := by decide +kernel
theorem dL_law_908 : decode cL_law 908 = .ok (.invokestatic 130, 3) := by decide +kernel
theorem dL_law_911 : decode cL_law 911 = .ok (.istore 5, 2) := by decide +kernel
theorem dL_law_913 : decode cL_law 913 = .ok (.aload_n 2, 1) := by decide +kernel
theorem dL_law_914 : decode cL_law 914 = .ok (.aload_n 0, 1) := by decide +kernel
theorem dL_law_915 : decode cL_law 915 = .ok (.iload 4, 2) := by decide +kernel
theorem dL_law_917 : decode cL_law 917 = .ok (.iconst 1, 1) := by decide +kernel
theorem dL_law_918 : decode cL_law 918 = .ok (.iadd, 1) := by decide +kernel
theorem dL_law_919 : decode cL_law 919 = .ok (.iaload, 1) := by decide +kernel
theorem dL_law_920 : decode cL_law 920 = .ok (.invokevirtual 132, 3) := by decide +kernel
theorem dL_law_923 : decode cL_law 923 = .ok (.istore 6, 2) := by decide +kernel
theorem dL_law_925 : decode cL_law 925 = .ok (.aload_n 2, 1) := by decide +kernel
theorem dL_law_926 : decode cL_law 926 = .ok (.invokevirtual 90, 3) := by decide +kernel
theorem dL_law_929 : decode cL_law 929 = .ok (.iload 5, 2) := by decide +kernel
theorem dL_law_931 : decode cL_law 931 = .ok (.if_icmp .eq 5, 3) := by decide +kernel
theorem dL_law_934 : decode cL_law 934 = .ok (.iconst 0, 1) := by decide +kernel
theorem dL_law_935 : decode cL_law 935 = .ok (.ireturn, 1) := by decide +kernel
theorem dL_law_936 : decode cL_law 936 = .ok (.iload 5, 2) := by decide +kernel
theorem dL_law_938 : decode cL_law 938 = .ok (.ifCond .ne 15, 3) := by decide +kernel
theorem dL_law_941 : decode cL_law 941 = .ok (.aload_n 3, 1) := by decide +kernel
theorem dL_law_942 : decode cL_law 942 = .ok (.iconst 0, 1) := by decide +kernel
theorem dL_law_943 : decode cL_law 943 = .ok (.laload, 1) := by decide +kernel
theorem dL_law_944 : decode cL_law 944 = .ok (.iload 6, 2) := by decide +kernel
theorem dL_law_946 : decode cL_law 946 = .ok (.i2l, 1) := by decide +kernel
theorem dL_law_947 : decode cL_law 947 = .ok (.lcmp, 1) := by decide +kernel
theorem dL_law_948 : decode cL_law 948 = .ok (.ifCond .eq 5, 3) := by decide +kernel
theorem dL_law_951 : decode cL_law 951 = .ok (.iconst 0, 1) := by decide +kernel
theorem dL_law_952 : decode cL_law 952 = .ok (.ireturn, 1) := by decide +kernel
theorem dL_law_953 : decode cL_law 953 = .ok (.goto 295, 3) := by decide +kernel
theorem dL_law_956 : decode cL_law 956 = .ok (.aload_n 1, 1) := by decide +kernel
theorem dL_law_957 : decode cL_law 957 = .ok (.aload_n 0, 1) := by decide +kernel
theorem dL_law_958 : decode cL_law 958 = .ok (.iload 4, 2) := by decide +kernel
theorem dL_law_960 : decode cL_law 960 = .ok (.iconst 1, 1) := by decide +kernel
theorem dL_law_961 : decode cL_law 961 = .ok (.iadd, 1) := by decide +kernel
theorem dL_law_962 : decode cL_law 962 = .ok (.iaload, 1) := by decide +kernel
theorem dL_law_963 : decode cL_law 963 = .ok (.aload_n 0, 1) := by decide +kernel
theorem dL_law_964 : decode cL_law 964 = .ok (.iload 4, 2) := by decide +kernel
theorem dL_law_966 : decode cL_law 966 = .ok (.iconst 2, 1) := by decide +kernel
theorem dL_law_967 : decode cL_law 967 = .ok (.iadd, 1) := by decide +kernel
theorem dL_law_968 : decode cL_law 968 = .ok (.iaload, 1) := by decide +kernel
theorem dL_law_969 : decode cL_law 969 = .ok (.aload_n 3, 1) := by decide +kernel
theorem dL_law_970 : decode cL_law 970 = .ok (.invokestatic 133, 3) := by decide +kernel
theorem dL_law_973 : decode cL_law 973 = .ok (.istore 5, 2) := by decide +kernel
theorem dL_law_975 : decode cL_law 975 = .ok (.aload_n 2, 1) := by decide +kernel
theorem dL_law_976 : decode cL_law 976 = .ok (.aload_n 0, 1) := by decide +kernel
theorem dL_law_977 : decode cL_law 977 = .ok (.iload 4, 2) := by decide +kernel
theorem dL_law_979 : decode cL_law 979 = .ok (.iconst 1, 1) := by decide +kernel
theorem dL_law_980 : decode cL_law 980 = .ok (.iadd, 1) := by decide +kernel
theorem dL_law_981 : decode cL_law 981 = .ok (.iaload, 1) := by decide +kernel
theorem dL_law_982 : decode cL_law 982 = .ok (.aload_n 0, 1) := by decide +kernel
theorem dL_law_983 : decode cL_law 983 = .ok (.iload 4, 2) := by decide +kernel
theorem dL_law_985 : decode cL_law 985 = .ok (.iconst 2, 1) := by decide +kernel
theorem dL_law_986 : decode cL_law 986 = .ok (.iadd, 1) := by decide +kernel
theorem dL_law_987 : decode cL_law 987 = .ok (.iaload, 1) := by decide +kernel
theorem dL_law_988 : decode cL_law 988 = .ok (.invokevirtual 135, 3) := by decide +kernel
theorem dL_law_991 : decode cL_law 991 = .ok (.istore 6, 2) := by decide +kernel
theorem dL_law_993 : decode cL_law 993 = .ok (.aload_n 2, 1) := by decide +kernel
theorem dL_law_994 : decode cL_law 994 = .ok (.invokevirtual 90, 3) := by decide +kernel
theorem dL_law_997 : decode cL_law 997 = .ok (.iload 5, 2) := by decide +kernel
theorem dL_law_999 : decode cL_law 999 = .ok (.if_icmp .eq 5, 3) := by decide +kernel
theorem dL_law_1002 : decode cL_law 1002 = .ok (.iconst 0, 1) := by decide +kernel
theorem dL_law_1003 : decode cL_law 1003 = .ok (.ireturn, 1) := by decide +kernel
theorem dL_law_1004 : decode cL_law 1004 = .ok (.iload 5, 2) := by decide +kernel
theorem dL_law_1006 : decode cL_law 1006 = .ok (.ifCond .ne 22, 3) := by decide +kernel
theorem dL_law_1009 : decode cL_law 1009 = .ok (.aload_n 3, 1) := by decide +kernel
theorem dL_law_1010 : decode cL_law 1010 = .ok (.iconst 0, 1) := by decide +kernel
theorem dL_law_1011 : decode cL_law 1011 = .ok (.laload, 1) := by decide +kernel
theorem dL_law_1012 : decode cL_law 1012 = .ok (.iload 6, 2) := by decide +kernel
theorem dL_law_1014 : decode cL_law 1014 = .ok (.ifCond .eq 7, 3) := by decide +kernel
theorem dL_law_1017 : decode cL_law 1017 = .ok (.lconst 1, 1) := by decide +kernel
theorem dL_law_1018 : decode cL_law 1018 = .ok (.goto 4, 3) := by decide +kernel
theorem dL_law_1021 : decode cL_law 1021 = .ok (.lconst 0, 1) := by decide +kernel
theorem dL_law_1022 : decode cL_law 1022 = .ok (.lcmp, 1) := by decide +kernel
theorem dL_law_1023 : decode cL_law 1023 = .ok (.ifCond .eq 5, 3) := by decide +kernel
theorem dL_law_1026 : decode cL_law 1026 = .ok (.iconst 0, 1) := by decide +kernel
theorem dL_law_1027 : decode cL_law 1027 = .ok (.ireturn, 1) := by decide +kernel
theorem dL_law_1028 : decode cL_law 1028 = .ok (.goto 220, 3) := by decide +kernel
theorem dL_law_1031 : decode cL_law 1031 = .ok (.aload_n 1, 1) := by decide +kernel
theorem dL_law_1032 : decode cL_law 1032 = .ok (.aload_n 0, 1) := by decide +kernel
theorem dL_law_1033 : decode cL_law 1033 = .ok (.iload 4, 2) := by decide +kernel
theorem dL_law_1035 : decode cL_law 1035 = .ok (.iconst 1, 1) := by decide +kernel
theorem dL_law_1036 : decode cL_law 1036 = .ok (.iadd, 1) := by decide +kernel
theorem dL_law_1037 : decode cL_law 1037 = .ok (.iaload, 1) := by decide +kernel
theorem dL_law_1038 : decode cL_law 1038 = .ok (.aload_n 0, 1) := by decide +kernel
theorem dL_law_1039 : decode cL_law 1039 = .ok (.iload 4, 2) := by decide +kernel
theorem dL_law_1041 : decode cL_law 1041 = .ok (.iconst 2, 1) := by decide +kernel
theorem dL_law_1042 : decode cL_law 1042 = .ok (.iadd, 1) := by decide +kernel
theorem dL_law_1043 : decode cL_law 1043 = .ok (.iaload, 1) := by decide +kernel
theorem dL_law_1044 : decode cL_law 1044 = .ok (.aload_n 3, 1) := by decide +kernel
theorem dL_law_1045 : decode cL_law 1045 = .ok (.invokestatic 136, 3) := by decide +kernel
theorem dL_law_1048 : decode cL_law 1048 = .ok (.istore 5, 2) := by decide +kernel
theorem dL_law_1050 : decode cL_law 1050 = .ok (.aload_n 2, 1) := by decide +kernel
theorem dL_law_1051 : decode cL_law 1051 = .ok (.aload_n 0, 1) := by decide +kernel
theorem dL_law_1052 : decode cL_law 1052 = .ok (.iload 4, 2) := by decide +kernel
theorem dL_law_1054 : decode cL_law 1054 = .ok (.iconst 1, 1) := by decide +kernel
theorem dL_law_1055 : decode cL_law 1055 = .ok (.iadd, 1) := by decide +kernel
theorem dL_law_1056 : decode cL_law 1056 = .ok (.iaload, 1) := by decide +kernel
theorem dL_law_1057 : decode cL_law 1057 = .ok (.aload_n 0, 1) := by decide +kernel
theorem dL_law_1058 : decode cL_law 1058 = .ok (.iload 4, 2) := by decide +kernel
theorem dL_law_1060 : decode cL_law 1060 = .ok (.iconst 2, 1) := by decide +kernel
theorem dL_law_1061 : decode cL_law 1061 = .ok (.iadd, 1) := by decide +kernel
theorem dL_law_1062 : decode cL_law 1062 = .ok (.iaload, 1) := by decide +kernel
theorem dL_law_1063 : decode cL_law 1063 = .ok (.invokevirtual 138, 3) := by decide +kernel
theorem dL_law_1066 : decode cL_law 1066 = .ok (.istore 6, 2) := by decide +kernel
theorem dL_law_1068 : decode cL_law 1068 = .ok (.aload_n 2, 1) := by decide +kernel
theorem dL_law_1069 : decode cL_law 1069 = .ok (.invokevirtual 90, 3) := by decide +kernel
theorem dL_law_1072 : decode cL_law 1072 = .ok (.iload 5, 2) := by decide +kernel
theorem dL_law_1074 : decode cL_law 1074 = .ok (.if_icmp .eq 5, 3) := by decide +kernel
theorem dL_law_1077 : decode cL_law 1077 = .ok (.iconst 0, 1) := by decide +kernel
theorem dL_law_1078 : decode cL_law 1078 = .ok (.ireturn, 1) := by decide +kernel
theorem dL_law_1079 : decode cL_law 1079 = .ok (.iload 5, 2) := by decide +kernel
theorem dL_law_1081 : decode cL_law 1081 = .ok (.ifCond .ne 15, 3) := by decide +kernel
theorem dL_law_1084 : decode cL_law 1084 = .ok (.aload_n 3, 1) := by decide +kernel
theorem dL_law_1085 : decode cL_law 1085 = .ok (.iconst 0, 1) := by decide +kernel
theorem dL_law_1086 : decode cL_law 1086 = .ok (.laload, 1) := by decide +kernel
theorem dL_law_1087 : decode cL_law 1087 = .ok (.iload 6, 2) := by decide +kernel
theorem dL_law_1089 : decode cL_law 1089 = .ok (.i2l, 1) := by decide +kernel
theorem dL_law_1090 : decode cL_law 1090 = .ok (.lcmp, 1) := by decide +kernel
theorem dL_law_1091 : decode cL_law 1091 = .ok (.ifCond .eq 5, 3) := by decide +kernel
theorem dL_law_1094 : decode cL_law 1094 = .ok (.iconst 0, 1) := by decide +kernel
theorem dL_law_1095 : decode cL_law 1095 = .ok (.ireturn, 1) := by decide +kernel
theorem dL_law_1096 : decode cL_law 1096 = .ok (.goto 152, 3) := by decide +kernel
theorem dL_law_1099 : decode cL_law 1099 = .ok (.aload_n 1, 1) := by decide +kernel
theorem dL_law_1100 : decode cL_law 1100 = .ok (.aload_n 0, 1) := by decide +kernel
theorem dL_law_1101 : decode cL_law 1101 = .ok (.iload 4, 2) := by decide +kernel
theorem dL_law_1103 : decode cL_law 1103 = .ok (.iconst 1, 1) := by decide +kernel
theorem dL_law_1104 : decode cL_law 1104 = .ok (.iadd, 1) := by decide +kernel
theorem dL_law_1105 : decode cL_law 1105 = .ok (.iaload, 1) := by decide +kernel
theorem dL_law_1106 : decode cL_law 1106 = .ok (.aload_n 0, 1) := by decide +kernel
theorem dL_law_1107 : decode cL_law 1107 = .ok (.iload 4, 2) := by decide +kernel
theorem dL_law_1109 : decode cL_law 1109 = .ok (.iconst 2, 1) := by decide +kernel
theorem dL_law_1110 : decode cL_law 1110 = .ok (.iadd, 1) := by decide +kernel
theorem dL_law_1111 : decode cL_law 1111 = .ok (.iaload, 1) := by decide +kernel
theorem dL_law_1112 : decode cL_law 1112 = .ok (.aload_n 3, 1) := by decide +kernel
theorem dL_law_1113 : decode cL_law 1113 = .ok (.invokestatic 139, 3) := by decide +kernel
theorem dL_law_1116 : decode cL_law 1116 = .ok (.istore 5, 2) := by decide +kernel
theorem dL_law_1118 : decode cL_law 1118 = .ok (.aload_n 2, 1) := by decide +kernel
theorem dL_law_1119 : decode cL_law 1119 = .ok (.aload_n 0, 1) := by decide +kernel
theorem dL_law_1120 : decode cL_law 1120 = .ok (.iload 4, 2) := by decide +kernel
theorem dL_law_1122 : decode cL_law 1122 = .ok (.iconst 1, 1) := by decide +kernel
theorem dL_law_1123 : decode cL_law 1123 = .ok (.iadd, 1) := by decide +kernel
theorem dL_law_1124 : decode cL_law 1124 = .ok (.iaload, 1) := by decide +kernel
theorem dL_law_1125 : decode cL_law 1125 = .ok (.aload_n 0, 1) := by decide +kernel
theorem dL_law_1126 : decode cL_law 1126 = .ok (.iload 4, 2) := by decide +kernel
theorem dL_law_1128 : decode cL_law 1128 = .ok (.iconst 2, 1) := by decide +kernel
theorem dL_law_1129 : decode cL_law 1129 = .ok (.iadd, 1) := by decide +kernel
theorem dL_law_1130 : decode cL_law 1130 = .ok (.iaload, 1) := by decide +kernel
theorem dL_law_1131 : decode cL_law 1131 = .ok (.invokevirtual 141, 3) := by decide +kernel
theorem dL_law_1134 : decode cL_law 1134 = .ok (.istore 6, 2) := by decide +kernel
theorem dL_law_1136 : decode cL_law 1136 = .ok (.aload_n 2, 1) := by decide +kernel
theorem dL_law_1137 : decode cL_law 1137 = .ok (.invokevirtual 90, 3) := by decide +kernel
theorem dL_law_1140 : decode cL_law 1140 = .ok (.iload 5, 2) := by decide +kernel
theorem dL_law_1142 : decode cL_law 1142 = .ok (.if_icmp .eq 5, 3) := by decide +kernel
theorem dL_law_1145 : decode cL_law 1145 = .ok (.iconst 0, 1) := by decide +kernel
theorem dL_law_1146 : decode cL_law 1146 = .ok (.ireturn, 1) := by decide +kernel
theorem dL_law_1147 : decode cL_law 1147 = .ok (.iload 5, 2) := by decide +kernel
theorem dL_law_1149 : decode cL_law 1149 = .ok (.ifCond .ne 15, 3) := by decide +kernel
theorem dL_law_1152 : decode cL_law 1152 = .ok (.aload_n 3, 1) := by decide +kernel
theorem dL_law_1153 : decode cL_law 1153 = .ok (.iconst 0, 1) := by decide +kernel
theorem dL_law_1154 : decode cL_law 1154 = .ok (.laload, 1) := by decide +kernel
theorem dL_law_1155 : decode cL_law 1155 = .ok (.iload 6, 2) := by decide +kernel
theorem dL_law_1157 : decode cL_law 1157 = .ok (.i2l, 1) := by decide +kernel
theorem dL_law_1158 : decode cL_law 1158 = .ok (.lcmp, 1) := by decide +kernel
theorem dL_law_1159 : decode cL_law 1159 = .ok (.ifCond .eq 5, 3) := by decide +kernel
theorem dL_law_1162 : decode cL_law 1162 = .ok (.iconst 0, 1) := by decide +kernel
theorem dL_law_1163 : decode cL_law 1163 = .ok (.ireturn, 1) := by decide +kernel
theorem dL_law_1164 : decode cL_law 1164 = .ok (.goto 84, 3) := by decide +kernel
theorem dL_law_1167 : decode cL_law 1167 = .ok (.aload_n 1, 1) := by decide +kernel
theorem dL_law_1168 : decode cL_law 1168 = .ok (.aload_n 0, 1) := by decide +kernel
theorem dL_law_1169 : decode cL_law 1169 = .ok (.iload 4, 2) := by decide +kernel
theorem dL_law_1171 : decode cL_law 1171 = .ok (.iconst 1, 1) := by decide +kernel
theorem dL_law_1172 : decode cL_law 1172 = .ok (.iadd, 1) := by decide +kernel
theorem dL_law_1173 : decode cL_law 1173 = .ok (.iaload, 1) := by decide +kernel
theorem dL_law_1174 : decode cL_law 1174 = .ok (.aload_n 3, 1) := by decide +kernel
theorem dL_law_1175 : decode cL_law 1175 = .ok (.invokestatic 142, 3) := by decide +kernel
theorem dL_law_1178 : decode cL_law 1178 = .ok (.istore 5, 2) := by decide +kernel
theorem dL_law_1180 : decode cL_law 1180 = .ok (.aload_n 2, 1) := by decide +kernel
theorem dL_law_1181 : decode cL_law 1181 = .ok (.aload_n 0, 1) := by decide +kernel
theorem dL_law_1182 : decode cL_law 1182 = .ok (.iload 4, 2) := by decide +kernel
theorem dL_law_1184 : decode cL_law 1184 = .ok (.iconst 1, 1) := by decide +kernel
theorem dL_law_1185 : decode cL_law 1185 = .ok (.iadd, 1) := by decide +kernel
theorem dL_law_1186 : decode cL_law 1186 = .ok (.iaload, 1) := by decide +kernel
theorem dL_law_1187 : decode cL_law 1187 = .ok (.invokevirtual 144, 3) := by decide +kernel
theorem dL_law_1190 : decode cL_law 1190 = .ok (.istore 6, 2) := by decide +kernel
theorem dL_law_1192 : decode cL_law 1192 = .ok (.aload_n 2, 1) := by decide +kernel
theorem dL_law_1193 : decode cL_law 1193 = .ok (.invokevirtual 90, 3) := by decide +kernel
theorem dL_law_1196 : decode cL_law 1196 = .ok (.iload 5, 2) := by decide +kernel
theorem dL_law_1198 : decode cL_law 1198 = .ok (.if_icmp .eq 5, 3) := by decide +kernel
theorem dL_law_1201 : decode cL_law 1201 = .ok (.iconst 0, 1) := by decide +kernel
theorem dL_law_1202 : decode cL_law 1202 = .ok (.ireturn, 1) := by decide +kernel
theorem dL_law_1203 : decode cL_law 1203 = .ok (.iload 5, 2) := by decide +kernel
theorem dL_law_1205 : decode cL_law 1205 = .ok (.ifCond .ne 15, 3) := by decide +kernel
theorem dL_law_1208 : decode cL_law 1208 = .ok (.aload_n 3, 1) := by decide +kernel
theorem dL_law_1209 : decode cL_law 1209 = .ok (.iconst 0, 1) := by decide +kernel
theorem dL_law_1210 : decode cL_law 1210 = .ok (.laload, 1) := by decide +kernel
theorem dL_law_1211 : decode cL_law 1211 = .ok (.iload 6, 2) := by decide +kernel
theorem dL_law_1213 : decode cL_law 1213 = .ok (.i2l, 1) := by decide +kernel
theorem dL_law_1214 : decode cL_law 1214 = .ok (.lcmp, 1) := by decide +kernel
theorem dL_law_1215 : decode cL_law 1215 = .ok (.ifCond .eq 5, 3) := by decide +kernel
theorem dL_law_1218 : decode cL_law 1218 = .ok (.iconst 0, 1) := by decide +kernel
theorem dL_law_1219 : decode cL_law 1219 = .ok (.ireturn, 1) := by decide +kernel
theorem dL_law_1220 : decode cL_law 1220 = .ok (.goto 28, 3) := by decide +kernel
theorem dL_law_1223 : decode cL_law 1223 = .ok (.aload_n 1, 1) := by decide +kernel
theorem dL_law_1224 : decode cL_law 1224 = .ok (.aload_n 0, 1) := by decide +kernel
theorem dL_law_1225 : decode cL_law 1225 = .ok (.iload 4, 2) := by decide +kernel
theorem dL_law_1227 : decode cL_law 1227 = .ok (.iconst 1, 1) := by decide +kernel
theorem dL_law_1228 : decode cL_law 1228 = .ok (.iadd, 1) := by decide +kernel
theorem dL_law_1229 : decode cL_law 1229 = .ok (.iaload, 1) := by decide +kernel
theorem dL_law_1230 : decode cL_law 1230 = .ok (.invokevirtual 145, 3) := by decide +kernel
theorem dL_law_1233 : decode cL_law 1233 = .ok (.aload_n 2, 1) := by decide +kernel
theorem dL_law_1234 : decode cL_law 1234 = .ok (.aload_n 0, 1) := by decide +kernel
theorem dL_law_1235 : decode cL_law 1235 = .ok (.iload 4, 2) := by decide +kernel
theorem dL_law_1237 : decode cL_law 1237 = .ok (.iconst 1, 1) := by decide +kernel
theorem dL_law_1238 : decode cL_law 1238 = .ok (.iadd, 1) := by decide +kernel
theorem dL_law_1239 : decode cL_law 1239 = .ok (.iaload, 1) := by decide +kernel
theorem dL_law_1240 : decode cL_law 1240 = .ok (.invokevirtual 148, 3) := by decide +kernel
theorem dL_law_1243 : decode cL_law 1243 = .ok (.if_icmp .eq 5, 3) := by decide +kernel
theorem dL_law_1246 : decode cL_law 1246 = .ok (.iconst 0, 1) := by decide +kernel
theorem dL_law_1247 : decode cL_law 1247 = .ok (.ireturn, 1) := by decide +kernel
theorem dL_law_1248 : decode cL_law 1248 = .ok (.iinc 4 4, 3) := by decide +kernel
theorem dL_law_1251 : decode cL_law 1251 = .ok (.goto (-1218), 3) := by decide +kernel
theorem dL_law_1254 : decode cL_law 1254 = .ok (.iconst 1, 1) := by decide +kernel
theorem dL_law_1255 : decode cL_law 1255 = .ok (.ireturn, 1) := by decide +kernel
end
section
def TB : List Cond := lw_tbl.filter goodWord
theorem tbm {w : Cond} (i : Nat) (h : tables_1[i]? = some w) (g : goodWord w = true) : w ∈ TB := List.mem_filter.mpr ⟨List.mem_append_right _ (List.mem_of_getElem? h), g⟩
theorem tbs {w : Cond} (i : Nat) (h : (k2_sels lw_privs)[i]? = some w) (g : goodWord w = true) : w ∈ TB := List.mem_filter.mpr ⟨List.mem_append_left _ (List.mem_of_getElem? h), g⟩
set_option maxRecDepth 20000 in
theorem inX0 : ∀ w ∈ wsX00, w ∈ TB := fun w h => List.mem_filter.mpr ⟨(show ∀ w ∈ wsX00, w ∈ lw_tbl by decide +kernel) w h, (show ∀ w ∈ wsX00, goodWord w = true by decide +kernel) w h⟩
set_option maxRecDepth 20000 in
theorem inX1 : ∀ w ∈ wsX10, w ∈ TB := fun w h => List.mem_filter.mpr ⟨(show ∀ w ∈ wsX10, w ∈ lw_tbl by decide +kernel) w h, (show ∀ w ∈ wsX10, goodWord w = true by decide +kernel) w h⟩
set_option maxRecDepth 20000 in
theorem inX2 : ∀ w ∈ wsX20, w ∈ TB := fun w h => List.mem_filter.mpr ⟨(show ∀ w ∈ wsX20, w ∈ lw_tbl by decide +kernel) w h, (show ∀ w ∈ wsX20, goodWord w = true by decide +kernel) w h⟩
set_option maxRecDepth 20000 in
theorem inX3 : ∀ w ∈ wsX30, w ∈ TB := fun w h => List.mem_filter.mpr ⟨(show ∀ w ∈ wsX30, w ∈ lw_tbl by decide +kernel) w h, (show ∀ w ∈ wsX30, goodWord w = true by decide +kernel) w h⟩
set_option maxRecDepth 20000 in
theorem inX4 : ∀ w ∈ wsX40, w ∈ TB := fun w h => List.mem_filter.mpr ⟨(show ∀ w ∈ wsX40, w ∈ lw_tbl by decide +kernel) w h, (show ∀ w ∈ wsX40, goodWord w = true by decide +kernel) w h⟩
set_option maxRecDepth 20000 in
theorem tk_0 : Cond.initialized RL ∈ TB := tbm 0 (by decide +kernel) (by decide)
set_option maxRecDepth 20000 in
theorem tk_1 : Cond.initialized RX3 ∈ TB := tbm 1 (by decide +kernel) (by decide)
set_option maxRecDepth 20000 in
theorem tk_2 : Cond.initialized RJ9 ∈ TB := tbm 2 (by decide +kernel) (by decide)
set_option maxRecDepth 20000 in
theorem tk_3 : Cond.initialized RX0 ∈ TB := tbm 3 (by decide +kernel) (by decide)
set_option maxRecDepth 20000 in
theorem tk_4 : Cond.initialized RX1 ∈ TB := tbm 4 (by decide +kernel) (by decide)
set_option maxRecDepth 20000 in
theorem tk_5 : Cond.initialized RX2 ∈ TB := tbm 5 (by decide +kernel) (by decide)
set_option maxRecDepth 20000 in
theorem tk_6 : Cond.initialized RX4 ∈ TB := tbm 6 (by decide +kernel) (by decide)
set_option maxRecDepth 20000 in
theorem tk_7 : Cond.initialized "java/lang/Throwable" ∈ TB := tbm 7 (by decide +kernel) (by decide)
set_option maxRecDepth 20000 in
theorem tk_8 : Cond.initialized "java/lang/Exception" ∈ TB := tbm 8 (by decide +kernel) (by decide)
set_option maxRecDepth 20000 in
theorem tk_9 : Cond.initialized "java/lang/RuntimeException" ∈ TB := tbm 9 (by decide +kernel) (by decide)
set_option maxRecDepth 20000 in
theorem tk_10 : Cond.initialized "java/lang/IllegalArgumentException" ∈ TB := tbm 10 (by decide +kernel) (by decide)
set_option maxRecDepth 20000 in
theorem tk_11 : Cond.initialized "java/lang/UnsupportedOperationException" ∈ TB := tbm 11 (by decide +kernel) (by decide)
set_option maxRecDepth 20000 in
theorem tk_12 : Cond.initialized "java/util/NoSuchElementException" ∈ TB := tbm 12 (by decide +kernel) (by decide)
set_option maxRecDepth 20000 in
theorem tk_13 : Cond.initialized "java/lang/IllegalStateException" ∈ TB := tbm 13 (by decide +kernel) (by decide)
set_option maxRecDepth 20000 in
theorem tk_14 : Cond.classLink RL 8 RX3 ∈ TB := tbm 14 (by decide +kernel) (by decide)
set_option maxRecDepth 20000 in
theorem tk_15 : Cond.instantiable RX3 8 ∈ TB := tbm 15 (by decide +kernel) (by decide)
set_option maxRecDepth 20000 in
theorem tk_16 : Cond.methodLink RL 80 yX3_init ∈ TB := tbm 16 (by decide +kernel) (by decide)
set_option maxRecDepth 20000 in
theorem tk_17 : Cond.instanceMethod yX3_init ∈ TB := tbm 17 (by decide +kernel) (by decide)
set_option maxRecDepth 20000 in
theorem tk_18 : Cond.code yX3_init cX3_init 3 none ∈ TB := tbm 18 (by decide +kernel) (by decide)
set_option maxRecDepth 20000 in
theorem tk_19 : Cond.methodLink RX3 1 objectInit ∈ TB := tbm 19 (by decide +kernel) (by decide)
set_option maxRecDepth 20000 in
theorem tk_20 : Cond.instanceMethod objectInit ∈ TB := tbm 20 (by decide +kernel) (by decide)
set_option maxRecDepth 20000 in
theorem tk_21 : Cond.code objectInit ⟨#[0xb1]⟩ 1 none ∈ TB := tbm 21 (by decide +kernel) (by decide)
set_option maxRecDepth 20000 in
theorem tk_22 : Cond.constant RX3 9 (65536) ∈ TB := tbm 22 (by decide +kernel) (by decide)
set_option maxRecDepth 20000 in
theorem tk_23 : Cond.methodLink RX3 10 Lib.Math.min.name ∈ TB := tbm 23 (by decide +kernel) (by decide)
set_option maxRecDepth 20000 in
theorem tk_24 : Cond.static Lib.Math.min.name ∈ TB := tbm 24 (by decide +kernel) (by decide)
set_option maxRecDepth 20000 in
theorem tk_25 : Cond.code Lib.Math.min.name Lib.Math.min.code 2 (some .int) ∈ TB := tbm 25 (by decide +kernel) (by decide)
set_option maxRecDepth 20000 in
theorem tk_26 : Cond.methodLink RX3 16 Lib.Math.max.name ∈ TB := tbm 26 (by decide +kernel) (by decide)
set_option maxRecDepth 20000 in
theorem tk_27 : Cond.static Lib.Math.max.name ∈ TB := tbm 27 (by decide +kernel) (by decide)
set_option maxRecDepth 20000 in
theorem tk_28 : Cond.code Lib.Math.max.name Lib.Math.max.code 2 (some .int) ∈ TB := tbm 28 (by decide +kernel) (by decide)
set_option maxRecDepth 20000 in
theorem tk_29 : Cond.classLink RX3 23 RX0 ∈ TB := tbm 29 (by decide +kernel) (by decide)
set_option maxRecDepth 20000 in
theorem tk_30 : Cond.instantiable RX0 4 ∈ TB := tbm 30 (by decide +kernel) (by decide)
set_option maxRecDepth 20000 in
theorem tk_32 : Cond.instanceMethod yX0_init ∈ TB := tbm 32 (by decide +kernel) (by decide)
set_option maxRecDepth 20000 in
theorem tk_33 : Cond.code yX0_init cX0_init 1 none ∈ TB := tbm 33 (by decide +kernel) (by decide)
set_option maxRecDepth 20000 in
theorem tk_34 : Cond.methodLink RX0 3 objectInit ∈ TB := tbm 34 (by decide +kernel) (by decide)
set_option maxRecDepth 20000 in
theorem tk_35 : Cond.fieldLink RX0 9 "WavePlans$Docks" "carriers" "[I" ∈ TB := tbm 35 (by decide +kernel) (by decide)
set_option maxRecDepth 20000 in
theorem tk_36 : Cond.fieldLink RX0 15 "WavePlans$Docks" "from" "[I" ∈ TB := tbm 36 (by decide +kernel) (by decide)
set_option maxRecDepth 20000 in
theorem tk_37 : Cond.fieldLink RX0 18 "WavePlans$Docks" "to" "[I" ∈ TB := tbm 37 (by decide +kernel) (by decide)
set_option maxRecDepth 20000 in
theorem tk_38 : Cond.fieldLink RX0 21 "WavePlans$Docks" "size" "I" ∈ TB := tbm 38 (by decide +kernel) (by decide)
set_option maxRecDepth 20000 in
theorem tk_49 : Cond.arrayClass .int ∈ TB := tbm 49 (by decide +kernel) (by decide)
set_option maxRecDepth 20000 in
theorem tk_50 : Cond.classLink RX3 34 RX1 ∈ TB := tbm 50 (by decide +kernel) (by decide)
set_option maxRecDepth 20000 in
theorem tk_52 : Cond.instantiable RX1 9 ∈ TB := tbm 52 (by decide +kernel) (by decide)
set_option maxRecDepth 20000 in
theorem tk_54 : Cond.instanceMethod yX1_init ∈ TB := tbm 54 (by decide +kernel) (by decide)
set_option maxRecDepth 20000 in
theorem tk_55 : Cond.code yX1_init cX1_init 1 none ∈ TB := tbm 55 (by decide +kernel) (by decide)
set_option maxRecDepth 20000 in
theorem tk_56 : Cond.methodLink RX1 3 objectInit ∈ TB := tbm 56 (by decide +kernel) (by decide)
set_option maxRecDepth 20000 in
theorem tk_58 : Cond.fieldLink RX1 19 "WavePlans$Order" "zone" "I" ∈ TB := tbm 58 (by decide +kernel) (by decide)
set_option maxRecDepth 20000 in
theorem tk_61 : Cond.fieldLink RX1 28 "WavePlans$Order" "seconds" "I" ∈ TB := tbm 61 (by decide +kernel) (by decide)
set_option maxRecDepth 20000 in
theorem tk_64 : Cond.fieldLink RX1 9 "WavePlans$Order" "wanted" "[I" ∈ TB := tbm 64 (by decide +kernel) (by decide)
set_option maxRecDepth 20000 in
theorem tk_66 : Cond.fieldLink RX1 15 "WavePlans$Order" "place" "I" ∈ TB := tbm 66 (by decide +kernel) (by decide)
set_option maxRecDepth 20000 in
theorem tk_89 : Cond.classLink RX3 41 RX2 ∈ TB := tbm 89 (by decide +kernel) (by decide)
set_option maxRecDepth 20000 in
theorem tk_91 : Cond.instantiable RX2 4 ∈ TB := tbm 91 (by decide +kernel) (by decide)
set_option maxRecDepth 20000 in
theorem tk_93 : Cond.instanceMethod yX2_init ∈ TB := tbm 93 (by decide +kernel) (by decide)
set_option maxRecDepth 20000 in
theorem tk_94 : Cond.code yX2_init cX2_init 1 none ∈ TB := tbm 94 (by decide +kernel) (by decide)
set_option maxRecDepth 20000 in
theorem tk_95 : Cond.methodLink RX2 3 objectInit ∈ TB := tbm 95 (by decide +kernel) (by decide)
set_option maxRecDepth 20000 in
theorem tk_96 : Cond.fieldLink RX2 9 "WavePlans$Wave" "members" "[I" ∈ TB := tbm 96 (by decide +kernel) (by decide)
set_option maxRecDepth 20000 in
theorem tk_98 : Cond.fieldLink RX2 15 "WavePlans$Wave" "size" "I" ∈ TB := tbm 98 (by decide +kernel) (by decide)
set_option maxRecDepth 20000 in
theorem tk_111 : Cond.fieldLink RX3 19 "WavePlans" "capacity" "I" ∈ TB := tbm 111 (by decide +kernel) (by decide)
set_option maxRecDepth 20000 in
theorem tk_112 : Cond.fieldLink RX3 26 "WavePlans" "docks" "LWavePlans$Docks;" ∈ TB := tbm 112 (by decide +kernel) (by decide)
set_option maxRecDepth 20000 in
theorem tk_113 : Cond.fieldLink RX3 30 "WavePlans" "pieces" "[I" ∈ TB := tbm 113 (by decide +kernel) (by decide)
set_option maxRecDepth 20000 in
theorem tk_114 : Cond.fieldLink RX3 36 "WavePlans" "orders" "[LWavePlans$Order;" ∈ TB := tbm 114 (by decide +kernel) (by decide)
set_option maxRecDepth 20000 in
theorem tk_115 : Cond.fieldLink RX3 57 "WavePlans" "orderCount" "I" ∈ TB := tbm 115 (by decide +kernel) (by decide)
set_option maxRecDepth 20000 in
theorem tk_116 : Cond.fieldLink RX3 43 "WavePlans" "waves" "[LWavePlans$Wave;" ∈ TB := tbm 116 (by decide +kernel) (by decide)
set_option maxRecDepth 20000 in
theorem tk_117 : Cond.fieldLink RX3 112 "WavePlans" "waveCount" "I" ∈ TB := tbm 117 (by decide +kernel) (by decide)
set_option maxRecDepth 20000 in
theorem tk_118 : Cond.fieldLink RX3 48 "WavePlans" "trial" "LWavePlans$Wave;" ∈ TB := tbm 118 (by decide +kernel) (by decide)
set_option maxRecDepth 20000 in
theorem tk_136 : Cond.methodLink RL 145 yX3_count ∈ TB := tbm 136 (by decide +kernel) (by decide)
set_option maxRecDepth 20000 in
theorem tk_137 : Cond.instanceMethod yX3_count ∈ TB := tbm 137 (by decide +kernel) (by decide)
set_option maxRecDepth 20000 in
theorem tk_138 : Cond.selects RX3 yX3_count yX3_count ∈ TB := tbm 138 (by decide +kernel) (by decide)
set_option maxRecDepth 20000 in
theorem tk_139 : Cond.code yX3_count cX3_count 2 (some .int) ∈ TB := tbm 139 (by decide +kernel) (by decide)
set_option maxRecDepth 20000 in
theorem tk_140 : Cond.methodLink RX3 215 yX3_wavesWithOrders ∈ TB := tbm 140 (by decide +kernel) (by decide)
set_option maxRecDepth 20000 in
theorem tk_142 : Cond.instanceMethod yX3_wavesWithOrders ∈ TB := tbm 142 (by decide +kernel) (by decide)
set_option maxRecDepth 20000 in
theorem tk_143 : Cond.code yX3_wavesWithOrders cX3_wavesWithOrders 3 (some .int) ∈ TB := tbm 143 (by decide +kernel) (by decide)
set_option maxRecDepth 20000 in
theorem tk_144 : Cond.methodLink RX3 219 yX3_ordersAt ∈ TB := tbm 144 (by decide +kernel) (by decide)
set_option maxRecDepth 20000 in
theorem tk_146 : Cond.instanceMethod yX3_ordersAt ∈ TB := tbm 146 (by decide +kernel) (by decide)
set_option maxRecDepth 20000 in
theorem tk_147 : Cond.code yX3_ordersAt cX3_ordersAt 4 (some .int) ∈ TB := tbm 147 (by decide +kernel) (by decide)
set_option maxRecDepth 20000 in
theorem tk_148 : Cond.methodLink RX3 222 yX3_finishedOrders ∈ TB := tbm 148 (by decide +kernel) (by decide)
set_option maxRecDepth 20000 in
theorem tk_150 : Cond.instanceMethod yX3_finishedOrders ∈ TB := tbm 150 (by decide +kernel) (by decide)
set_option maxRecDepth 20000 in
theorem tk_151 : Cond.code yX3_finishedOrders cX3_finishedOrders 3 (some .int) ∈ TB := tbm 151 (by decide +kernel) (by decide)
set_option maxRecDepth 20000 in
theorem tk_152 : Cond.methodLink RX3 125 yX3_savedBehind ∈ TB := tbm 152 (by decide +kernel) (by decide)
set_option maxRecDepth 20000 in
theorem tk_154 : Cond.instanceMethod yX3_savedBehind ∈ TB := tbm 154 (by decide +kernel) (by decide)
set_option maxRecDepth 20000 in
theorem tk_155 : Cond.code yX3_savedBehind cX3_savedBehind 4 (some .int) ∈ TB := tbm 155 (by decide +kernel) (by decide)
set_option maxRecDepth 20000 in
theorem tk_156 : Cond.methodLink RX3 139 yX3_savedOf ∈ TB := tbm 156 (by decide +kernel) (by decide)
set_option maxRecDepth 20000 in
theorem tk_158 : Cond.instanceMethod yX3_savedOf ∈ TB := tbm 158 (by decide +kernel) (by decide)
set_option maxRecDepth 20000 in
theorem tk_159 : Cond.code yX3_savedOf cX3_savedOf 4 (some .int) ∈ TB := tbm 159 (by decide +kernel) (by decide)
set_option maxRecDepth 20000 in
theorem tk_160 : Cond.methodLink RX3 256 yX3_greatestSaving ∈ TB := tbm 160 (by decide +kernel) (by decide)
set_option maxRecDepth 20000 in
theorem tk_162 : Cond.instanceMethod yX3_greatestSaving ∈ TB := tbm 162 (by decide +kernel) (by decide)
set_option maxRecDepth 20000 in
theorem tk_163 : Cond.code yX3_greatestSaving cX3_greatestSaving 6 (some .int) ∈ TB := tbm 163 (by decide +kernel) (by decide)
set_option maxRecDepth 20000 in
theorem tk_166 : Cond.instanceMethod yX1_savingWith ∈ TB := tbm 166 (by decide +kernel) (by decide)
set_option maxRecDepth 20000 in
theorem tk_167 : Cond.code yX1_savingWith cX1_savingWith 4 (some .int) ∈ TB := tbm 167 (by decide +kernel) (by decide)
set_option maxRecDepth 20000 in
theorem tk_168 : Cond.methodLink RX1 22 Lib.Math.abs.name ∈ TB := tbm 168 (by decide +kernel) (by decide)
set_option maxRecDepth 20000 in
theorem tk_169 : Cond.static Lib.Math.abs.name ∈ TB := tbm 169 (by decide +kernel) (by decide)
set_option maxRecDepth 20000 in
theorem tk_170 : Cond.code Lib.Math.abs.name Lib.Math.abs.code 1 (some .int) ∈ TB := tbm 170 (by decide +kernel) (by decide)
set_option maxRecDepth 20000 in
theorem tk_171 : Cond.methodLink RX1 31 Lib.Math.min.name ∈ TB := tbm 171 (by decide +kernel) (by decide)
set_option maxRecDepth 20000 in
theorem tk_172 : Cond.methodLink RL 74 yL_cell ∈ TB := tbm 172 (by decide +kernel) (by decide)
set_option maxRecDepth 20000 in
theorem tk_173 : Cond.static yL_cell ∈ TB := tbm 173 (by decide +kernel) (by decide)
set_option maxRecDepth 20000 in
theorem tk_174 : Cond.code yL_cell cL_cell 2 (some .int) ∈ TB := tbm 174 (by decide +kernel) (by decide)
set_option maxRecDepth 20000 in
theorem tk_175 : Cond.methodLink RL 86 yL_order ∈ TB := tbm 175 (by decide +kernel) (by decide)
set_option maxRecDepth 20000 in
theorem tk_176 : Cond.static yL_order ∈ TB := tbm 176 (by decide +kernel) (by decide)
set_option maxRecDepth 20000 in
theorem tk_177 : Cond.codeWith yL_order cL_order 6 (some .int) [(0, 12, 15, 13), (0, 12, 19, 15)] ∈ TB := tbm 177 (by decide +kernel) (by decide)
set_option maxRecDepth 20000 in
theorem tk_178 : Cond.classLink RL 13 "java/lang/IllegalArgumentException" ∈ TB := tbm 178 (by decide +kernel) (by decide)
set_option maxRecDepth 20000 in
theorem tk_179 : Cond.classLink RL 15 "java/lang/UnsupportedOperationException" ∈ TB := tbm 179 (by decide +kernel) (by decide)
set_option maxRecDepth 20000 in
theorem tk_180 : Cond.methodLink RL 7 yX3_order ∈ TB := tbm 180 (by decide +kernel) (by decide)
set_option maxRecDepth 20000 in
theorem tk_181 : Cond.instanceMethod yX3_order ∈ TB := tbm 181 (by decide +kernel) (by decide)
set_option maxRecDepth 20000 in
theorem tk_182 : Cond.selects RX3 yX3_order yX3_order ∈ TB := tbm 182 (by decide +kernel) (by decide)
set_option maxRecDepth 20000 in
theorem tk_183 : Cond.code yX3_order cX3_order 5 (some .int) ∈ TB := tbm 183 (by decide +kernel) (by decide)
set_option maxRecDepth 20000 in
theorem tk_184 : Cond.constant RX3 52 (100000) ∈ TB := tbm 184 (by decide +kernel) (by decide)
set_option maxRecDepth 20000 in
theorem tk_185 : Cond.methodLink RX3 53 yX3_requireRange ∈ TB := tbm 185 (by decide +kernel) (by decide)
set_option maxRecDepth 20000 in
theorem tk_186 : Cond.static yX3_requireRange ∈ TB := tbm 186 (by decide +kernel) (by decide)
set_option maxRecDepth 20000 in
theorem tk_187 : Cond.code yX3_requireRange cX3_requireRange 3 none ∈ TB := tbm 187 (by decide +kernel) (by decide)
set_option maxRecDepth 20000 in
theorem tk_188 : Cond.classLink RX3 154 "java/lang/IllegalArgumentException" ∈ TB := tbm 188 (by decide +kernel) (by decide)
set_option maxRecDepth 20000 in
theorem tk_189 : Cond.instantiable "java/lang/IllegalArgumentException" 6 ∈ TB := tbm 189 (by decide +kernel) (by decide)
set_option maxRecDepth 20000 in
theorem tk_209 : Cond.fieldLink "java/lang/Throwable" 198 "java/lang/Throwable" "backtrace" "Ljava/lang/Object;" ∈ TB := tbm 209 (by decide +kernel) (by decide)
set_option maxRecDepth 20000 in
theorem tk_213 : Cond.methodLink "java/lang/Throwable" 1 objectInit ∈ TB := tbm 213 (by decide +kernel) (by decide)
set_option maxRecDepth 20000 in
theorem tk_214 : Cond.fieldLink "java/lang/Throwable" 13 "java/lang/Throwable" "UNASSIGNED_STACK" "[Ljava/lang/StackTraceElement;" ∈ TB := tbm 214 (by decide +kernel) (by decide)
set_option maxRecDepth 20000 in
theorem tk_216 : Cond.fieldLink "java/lang/Throwable" 20 "java/lang/Throwable" "SUPPRESSED_SENTINEL" "Ljava/util/List;" ∈ TB := tbm 216 (by decide +kernel) (by decide)
set_option maxRecDepth 20000 in
theorem tk_228 : Cond.instantiable "java/lang/Throwable" 6 ∈ TB := tbm 228 (by decide +kernel) (by decide)
set_option maxRecDepth 20000 in
theorem tk_243 : Cond.fieldLink "java/lang/Throwable" 198 "java/lang/Throwable" "backtrace" "Ljava/lang/Object;" ∈ TB := tbm 243 (by decide +kernel) (by decide)
set_option maxRecDepth 20000 in
theorem tk_244 : Cond.fieldLink "java/lang/Throwable" 31 "java/lang/Throwable" "detailMessage" "Ljava/lang/String;" ∈ TB := tbm 244 (by decide +kernel) (by decide)
set_option maxRecDepth 20000 in
theorem tk_245 : Cond.fieldLink "java/lang/Throwable" 7 "java/lang/Throwable" "cause" "Ljava/lang/Throwable;" ∈ TB := tbm 245 (by decide +kernel) (by decide)
set_option maxRecDepth 20000 in
theorem tk_246 : Cond.fieldLink "java/lang/Throwable" 17 "java/lang/Throwable" "stackTrace" "[Ljava/lang/StackTraceElement;" ∈ TB := tbm 246 (by decide +kernel) (by decide)
set_option maxRecDepth 20000 in
theorem tk_247 : Cond.fieldLink "java/lang/Throwable" 24 "java/lang/Throwable" "suppressedExceptions" "Ljava/util/List;" ∈ TB := tbm 247 (by decide +kernel) (by decide)
set_option maxRecDepth 20000 in
theorem tk_257 : Cond.classLink RX3 60 "java/lang/UnsupportedOperationException" ∈ TB := tbm 257 (by decide +kernel) (by decide)
set_option maxRecDepth 20000 in
theorem tk_258 : Cond.instantiable "java/lang/UnsupportedOperationException" 6 ∈ TB := tbm 258 (by decide +kernel) (by decide)
set_option maxRecDepth 20000 in
theorem tk_273 : Cond.methodLink RL 93 yL_line ∈ TB := tbm 273 (by decide +kernel) (by decide)
set_option maxRecDepth 20000 in
theorem tk_274 : Cond.static yL_line ∈ TB := tbm 274 (by decide +kernel) (by decide)
set_option maxRecDepth 20000 in
theorem tk_275 : Cond.codeWith yL_line cL_line 6 (some .int) [(0, 12, 15, 20), (0, 12, 19, 13), (0, 12, 23, 22), (0, 12, 27, 15)] ∈ TB := tbm 275 (by decide +kernel) (by decide)
set_option maxRecDepth 20000 in
theorem tk_276 : Cond.classLink RL 20 "java/util/NoSuchElementException" ∈ TB := tbm 276 (by decide +kernel) (by decide)
set_option maxRecDepth 20000 in
theorem tk_277 : Cond.classLink RL 22 "java/lang/IllegalStateException" ∈ TB := tbm 277 (by decide +kernel) (by decide)
set_option maxRecDepth 20000 in
theorem tk_278 : Cond.methodLink RL 17 yX3_line ∈ TB := tbm 278 (by decide +kernel) (by decide)
set_option maxRecDepth 20000 in
theorem tk_279 : Cond.instanceMethod yX3_line ∈ TB := tbm 279 (by decide +kernel) (by decide)
set_option maxRecDepth 20000 in
theorem tk_280 : Cond.selects RX3 yX3_line yX3_line ∈ TB := tbm 280 (by decide +kernel) (by decide)
set_option maxRecDepth 20000 in
theorem tk_281 : Cond.code yX3_line cX3_line 5 (some .int) ∈ TB := tbm 281 (by decide +kernel) (by decide)
set_option maxRecDepth 20000 in
theorem tk_282 : Cond.methodLink RX3 76 yX3_requireOrder ∈ TB := tbm 282 (by decide +kernel) (by decide)
set_option maxRecDepth 20000 in
theorem tk_284 : Cond.instanceMethod yX3_requireOrder ∈ TB := tbm 284 (by decide +kernel) (by decide)
set_option maxRecDepth 20000 in
theorem tk_285 : Cond.code yX3_requireOrder cX3_requireOrder 2 (some (.object "WavePlans$Order")) ∈ TB := tbm 285 (by decide +kernel) (by decide)
set_option maxRecDepth 20000 in
theorem tk_286 : Cond.classLink RX3 159 "java/util/NoSuchElementException" ∈ TB := tbm 286 (by decide +kernel) (by decide)
set_option maxRecDepth 20000 in
theorem tk_287 : Cond.instantiable "java/util/NoSuchElementException" 6 ∈ TB := tbm 287 (by decide +kernel) (by decide)
set_option maxRecDepth 20000 in
theorem tk_302 : Cond.methodLink RX3 80 yX3_requireFree ∈ TB := tbm 302 (by decide +kernel) (by decide)
set_option maxRecDepth 20000 in
theorem tk_303 : Cond.static yX3_requireFree ∈ TB := tbm 303 (by decide +kernel) (by decide)
set_option maxRecDepth 20000 in
theorem tk_304 : Cond.code yX3_requireFree cX3_requireFree 1 none ∈ TB := tbm 304 (by decide +kernel) (by decide)
set_option maxRecDepth 20000 in
theorem tk_305 : Cond.classLink RX3 87 "java/lang/IllegalStateException" ∈ TB := tbm 305 (by decide +kernel) (by decide)
set_option maxRecDepth 20000 in
theorem tk_306 : Cond.instantiable "java/lang/IllegalStateException" 6 ∈ TB := tbm 306 (by decide +kernel) (by decide)
set_option maxRecDepth 20000 in
theorem tk_323 : Cond.methodLink RL 96 yL_carrier ∈ TB := tbm 323 (by decide +kernel) (by decide)
set_option maxRecDepth 20000 in
theorem tk_324 : Cond.static yL_carrier ∈ TB := tbm 324 (by decide +kernel) (by decide)
set_option maxRecDepth 20000 in
theorem tk_325 : Cond.codeWith yL_carrier cL_carrier 4 (some .int) [(0, 6, 9, 20), (0, 6, 12, 13), (0, 6, 15, 22)] ∈ TB := tbm 325 (by decide +kernel) (by decide)
set_option maxRecDepth 20000 in
theorem tk_326 : Cond.methodLink RL 24 yX3_carrier ∈ TB := tbm 326 (by decide +kernel) (by decide)
set_option maxRecDepth 20000 in
theorem tk_327 : Cond.instanceMethod yX3_carrier ∈ TB := tbm 327 (by decide +kernel) (by decide)
set_option maxRecDepth 20000 in
theorem tk_328 : Cond.selects RX3 yX3_carrier yX3_carrier ∈ TB := tbm 328 (by decide +kernel) (by decide)
set_option maxRecDepth 20000 in
theorem tk_329 : Cond.code yX3_carrier cX3_carrier 4 none ∈ TB := tbm 329 (by decide +kernel) (by decide)
set_option maxRecDepth 20000 in
theorem tk_330 : Cond.methodLink RL 100 yL_hour ∈ TB := tbm 330 (by decide +kernel) (by decide)
set_option maxRecDepth 20000 in
theorem tk_331 : Cond.static yL_hour ∈ TB := tbm 331 (by decide +kernel) (by decide)
set_option maxRecDepth 20000 in
theorem tk_332 : Cond.codeWith yL_hour cL_hour 6 (some .int) [(0, 12, 15, 13), (0, 12, 19, 15)] ∈ TB := tbm 332 (by decide +kernel) (by decide)
set_option maxRecDepth 20000 in
theorem tk_333 : Cond.methodLink RL 28 yX3_hour ∈ TB := tbm 333 (by decide +kernel) (by decide)
set_option maxRecDepth 20000 in
theorem tk_334 : Cond.instanceMethod yX3_hour ∈ TB := tbm 334 (by decide +kernel) (by decide)
set_option maxRecDepth 20000 in
theorem tk_335 : Cond.selects RX3 yX3_hour yX3_hour ∈ TB := tbm 335 (by decide +kernel) (by decide)
set_option maxRecDepth 20000 in
theorem tk_336 : Cond.code yX3_hour cX3_hour 4 (some .int) ∈ TB := tbm 336 (by decide +kernel) (by decide)
set_option maxRecDepth 20000 in
theorem tk_340 : Cond.instanceMethod yX0_open ∈ TB := tbm 340 (by decide +kernel) (by decide)
set_option maxRecDepth 20000 in
theorem tk_341 : Cond.code yX0_open cX0_open 4 none ∈ TB := tbm 341 (by decide +kernel) (by decide)
set_option maxRecDepth 20000 in
theorem tk_344 : Cond.instanceMethod yX0_hoursOf ∈ TB := tbm 344 (by decide +kernel) (by decide)
set_option maxRecDepth 20000 in
theorem tk_345 : Cond.code yX0_hoursOf cX0_hoursOf 4 (some .int) ∈ TB := tbm 345 (by decide +kernel) (by decide)
set_option maxRecDepth 20000 in
theorem tk_346 : Cond.methodLink RL 103 yL_stock ∈ TB := tbm 346 (by decide +kernel) (by decide)
set_option maxRecDepth 20000 in
theorem tk_347 : Cond.static yL_stock ∈ TB := tbm 347 (by decide +kernel) (by decide)
set_option maxRecDepth 20000 in
theorem tk_348 : Cond.codeWith yL_stock cL_stock 4 (some .int) [(0, 6, 9, 13)] ∈ TB := tbm 348 (by decide +kernel) (by decide)
set_option maxRecDepth 20000 in
theorem tk_349 : Cond.methodLink RL 31 yX3_stock ∈ TB := tbm 349 (by decide +kernel) (by decide)
set_option maxRecDepth 20000 in
theorem tk_350 : Cond.instanceMethod yX3_stock ∈ TB := tbm 350 (by decide +kernel) (by decide)
set_option maxRecDepth 20000 in
theorem tk_351 : Cond.selects RX3 yX3_stock yX3_stock ∈ TB := tbm 351 (by decide +kernel) (by decide)
set_option maxRecDepth 20000 in
theorem tk_352 : Cond.code yX3_stock cX3_stock 3 none ∈ TB := tbm 352 (by decide +kernel) (by decide)
set_option maxRecDepth 20000 in
theorem tk_353 : Cond.methodLink RL 106 yL_plan ∈ TB := tbm 353 (by decide +kernel) (by decide)
set_option maxRecDepth 20000 in
theorem tk_354 : Cond.static yL_plan ∈ TB := tbm 354 (by decide +kernel) (by decide)
set_option maxRecDepth 20000 in
theorem tk_355 : Cond.codeWith yL_plan cL_plan 3 (some .int) [(0, 8, 11, 15)] ∈ TB := tbm 355 (by decide +kernel) (by decide)
set_option maxRecDepth 20000 in
theorem tk_356 : Cond.methodLink RL 34 yX3_plan ∈ TB := tbm 356 (by decide +kernel) (by decide)
set_option maxRecDepth 20000 in
theorem tk_357 : Cond.instanceMethod yX3_plan ∈ TB := tbm 357 (by decide +kernel) (by decide)
set_option maxRecDepth 20000 in
theorem tk_358 : Cond.selects RX3 yX3_plan yX3_plan ∈ TB := tbm 358 (by decide +kernel) (by decide)
set_option maxRecDepth 20000 in
theorem tk_359 : Cond.code yX3_plan cX3_plan 2 (some .int) ∈ TB := tbm 359 (by decide +kernel) (by decide)
set_option maxRecDepth 20000 in
theorem tk_360 : Cond.methodLink RX3 115 yX3_makeWaves ∈ TB := tbm 360 (by decide +kernel) (by decide)
set_option maxRecDepth 20000 in
theorem tk_362 : Cond.instanceMethod yX3_makeWaves ∈ TB := tbm 362 (by decide +kernel) (by decide)
set_option maxRecDepth 20000 in
theorem tk_363 : Cond.code yX3_makeWaves cX3_makeWaves 3 (some .boolean) ∈ TB := tbm 363 (by decide +kernel) (by decide)
set_option maxRecDepth 20000 in
theorem tk_364 : Cond.methodLink RX3 247 yX3_nextBeginning ∈ TB := tbm 364 (by decide +kernel) (by decide)
set_option maxRecDepth 20000 in
theorem tk_366 : Cond.instanceMethod yX3_nextBeginning ∈ TB := tbm 366 (by decide +kernel) (by decide)
set_option maxRecDepth 20000 in
theorem tk_367 : Cond.code yX3_nextBeginning cX3_nextBeginning 4 (some .int) ∈ TB := tbm 367 (by decide +kernel) (by decide)
set_option maxRecDepth 20000 in
theorem tk_368 : Cond.methodLink RX3 253 yX3_mayBePlanned ∈ TB := tbm 368 (by decide +kernel) (by decide)
set_option maxRecDepth 20000 in
theorem tk_370 : Cond.instanceMethod yX3_mayBePlanned ∈ TB := tbm 370 (by decide +kernel) (by decide)
set_option maxRecDepth 20000 in
theorem tk_371 : Cond.code yX3_mayBePlanned cX3_mayBePlanned 2 (some .boolean) ∈ TB := tbm 371 (by decide +kernel) (by decide)
set_option maxRecDepth 20000 in
theorem tk_372 : Cond.methodLink RX3 198 yX3_fits ∈ TB := tbm 372 (by decide +kernel) (by decide)
set_option maxRecDepth 20000 in
theorem tk_374 : Cond.instanceMethod yX3_fits ∈ TB := tbm 374 (by decide +kernel) (by decide)
set_option maxRecDepth 20000 in
theorem tk_375 : Cond.code yX3_fits cX3_fits 2 (some .boolean) ∈ TB := tbm 375 (by decide +kernel) (by decide)
set_option maxRecDepth 20000 in
theorem tk_378 : Cond.instanceMethod yX0_have ∈ TB := tbm 378 (by decide +kernel) (by decide)
set_option maxRecDepth 20000 in
theorem tk_379 : Cond.code yX0_have cX0_have 4 (some .boolean) ∈ TB := tbm 379 (by decide +kernel) (by decide)
set_option maxRecDepth 20000 in
theorem tk_380 : Cond.methodLink RX3 250 yX3_makeWave ∈ TB := tbm 380 (by decide +kernel) (by decide)
set_option maxRecDepth 20000 in
theorem tk_382 : Cond.instanceMethod yX3_makeWave ∈ TB := tbm 382 (by decide +kernel) (by decide)
set_option maxRecDepth 20000 in
theorem tk_383 : Cond.code yX3_makeWave cX3_makeWave 7 none ∈ TB := tbm 383 (by decide +kernel) (by decide)
set_option maxRecDepth 20000 in
theorem tk_386 : Cond.instanceMethod yX2_add ∈ TB := tbm 386 (by decide +kernel) (by decide)
set_option maxRecDepth 20000 in
theorem tk_387 : Cond.code yX2_add cX2_add 2 none ∈ TB := tbm 387 (by decide +kernel) (by decide)
set_option maxRecDepth 20000 in
theorem tk_388 : Cond.methodLink RX3 263 yX3_bestAddition ∈ TB := tbm 388 (by decide +kernel) (by decide)
set_option maxRecDepth 20000 in
theorem tk_390 : Cond.instanceMethod yX3_bestAddition ∈ TB := tbm 390 (by decide +kernel) (by decide)
set_option maxRecDepth 20000 in
theorem tk_391 : Cond.code yX3_bestAddition cX3_bestAddition 9 (some .int) ∈ TB := tbm 391 (by decide +kernel) (by decide)
set_option maxRecDepth 20000 in
theorem tk_392 : Cond.methodLink RX3 119 yX3_undoWavesBehind ∈ TB := tbm 392 (by decide +kernel) (by decide)
set_option maxRecDepth 20000 in
theorem tk_394 : Cond.instanceMethod yX3_undoWavesBehind ∈ TB := tbm 394 (by decide +kernel) (by decide)
set_option maxRecDepth 20000 in
theorem tk_395 : Cond.code yX3_undoWavesBehind cX3_undoWavesBehind 3 none ∈ TB := tbm 395 (by decide +kernel) (by decide)
set_option maxRecDepth 20000 in
theorem tk_398 : Cond.instanceMethod yX2_empty ∈ TB := tbm 398 (by decide +kernel) (by decide)
set_option maxRecDepth 20000 in
theorem tk_399 : Cond.code yX2_empty cX2_empty 1 none ∈ TB := tbm 399 (by decide +kernel) (by decide)
set_option maxRecDepth 20000 in
theorem tk_401 : Cond.methodLink RL 110 yL_wave ∈ TB := tbm 401 (by decide +kernel) (by decide)
set_option maxRecDepth 20000 in
theorem tk_402 : Cond.static yL_wave ∈ TB := tbm 402 (by decide +kernel) (by decide)
set_option maxRecDepth 20000 in
theorem tk_403 : Cond.codeWith yL_wave cL_wave 4 (some .int) [(0, 9, 12, 20)] ∈ TB := tbm 403 (by decide +kernel) (by decide)
set_option maxRecDepth 20000 in
theorem tk_404 : Cond.methodLink RL 38 yX3_wave ∈ TB := tbm 404 (by decide +kernel) (by decide)
set_option maxRecDepth 20000 in
theorem tk_405 : Cond.instanceMethod yX3_wave ∈ TB := tbm 405 (by decide +kernel) (by decide)
set_option maxRecDepth 20000 in
theorem tk_406 : Cond.selects RX3 yX3_wave yX3_wave ∈ TB := tbm 406 (by decide +kernel) (by decide)
set_option maxRecDepth 20000 in
theorem tk_407 : Cond.code yX3_wave cX3_wave 2 (some .int) ∈ TB := tbm 407 (by decide +kernel) (by decide)
set_option maxRecDepth 20000 in
theorem tk_408 : Cond.methodLink RL 114 yL_told ∈ TB := tbm 408 (by decide +kernel) (by decide)
set_option maxRecDepth 20000 in
theorem tk_409 : Cond.static yL_told ∈ TB := tbm 409 (by decide +kernel) (by decide)
set_option maxRecDepth 20000 in
theorem tk_410 : Cond.codeWith yL_told cL_told 5 (some .int) [(0, 10, 13, 20), (0, 10, 17, 13)] ∈ TB := tbm 410 (by decide +kernel) (by decide)
set_option maxRecDepth 20000 in
theorem tk_411 : Cond.methodLink RL 42 yX3_told ∈ TB := tbm 411 (by decide +kernel) (by decide)
set_option maxRecDepth 20000 in
theorem tk_412 : Cond.instanceMethod yX3_told ∈ TB := tbm 412 (by decide +kernel) (by decide)
set_option maxRecDepth 20000 in
theorem tk_413 : Cond.selects RX3 yX3_told yX3_told ∈ TB := tbm 413 (by decide +kernel) (by decide)
set_option maxRecDepth 20000 in
theorem tk_414 : Cond.code yX3_told cX3_told 4 (some .int) ∈ TB := tbm 414 (by decide +kernel) (by decide)
set_option maxRecDepth 20000 in
theorem tk_415 : Cond.methodLink RX3 131 yX3_requireWave ∈ TB := tbm 415 (by decide +kernel) (by decide)
set_option maxRecDepth 20000 in
theorem tk_417 : Cond.instanceMethod yX3_requireWave ∈ TB := tbm 417 (by decide +kernel) (by decide)
set_option maxRecDepth 20000 in
theorem tk_418 : Cond.code yX3_requireWave cX3_requireWave 2 (some (.object "WavePlans$Wave")) ∈ TB := tbm 418 (by decide +kernel) (by decide)
set_option maxRecDepth 20000 in
theorem tk_420 : Cond.methodLink RX3 135 yX3_secondsOf ∈ TB := tbm 420 (by decide +kernel) (by decide)
set_option maxRecDepth 20000 in
theorem tk_422 : Cond.instanceMethod yX3_secondsOf ∈ TB := tbm 422 (by decide +kernel) (by decide)
set_option maxRecDepth 20000 in
theorem tk_423 : Cond.code yX3_secondsOf cX3_secondsOf 4 (some .int) ∈ TB := tbm 423 (by decide +kernel) (by decide)
set_option maxRecDepth 20000 in
theorem tk_424 : Cond.methodLink RX3 143 yX3_dueOf ∈ TB := tbm 424 (by decide +kernel) (by decide)
set_option maxRecDepth 20000 in
theorem tk_426 : Cond.instanceMethod yX3_dueOf ∈ TB := tbm 426 (by decide +kernel) (by decide)
set_option maxRecDepth 20000 in
theorem tk_427 : Cond.code yX3_dueOf cX3_dueOf 4 (some .int) ∈ TB := tbm 427 (by decide +kernel) (by decide)
set_option maxRecDepth 20000 in
theorem tk_428 : Cond.methodLink RX3 151 yX3_finishedOf ∈ TB := tbm 428 (by decide +kernel) (by decide)
set_option maxRecDepth 20000 in
theorem tk_430 : Cond.instanceMethod yX3_finishedOf ∈ TB := tbm 430 (by decide +kernel) (by decide)
set_option maxRecDepth 20000 in
theorem tk_431 : Cond.code yX3_finishedOf cX3_finishedOf 4 (some .int) ∈ TB := tbm 431 (by decide +kernel) (by decide)
set_option maxRecDepth 20000 in
theorem tk_433 : Cond.methodLink RL 118 yL_member ∈ TB := tbm 433 (by decide +kernel) (by decide)
set_option maxRecDepth 20000 in
theorem tk_434 : Cond.static yL_member ∈ TB := tbm 434 (by decide +kernel) (by decide)
set_option maxRecDepth 20000 in
theorem tk_435 : Cond.codeWith yL_member cL_member 5 (some .int) [(0, 10, 13, 20)] ∈ TB := tbm 435 (by decide +kernel) (by decide)
set_option maxRecDepth 20000 in
theorem tk_436 : Cond.methodLink RL 46 yX3_member ∈ TB := tbm 436 (by decide +kernel) (by decide)
set_option maxRecDepth 20000 in
theorem tk_437 : Cond.instanceMethod yX3_member ∈ TB := tbm 437 (by decide +kernel) (by decide)
set_option maxRecDepth 20000 in
theorem tk_438 : Cond.selects RX3 yX3_member yX3_member ∈ TB := tbm 438 (by decide +kernel) (by decide)
set_option maxRecDepth 20000 in
theorem tk_439 : Cond.code yX3_member cX3_member 4 (some .int) ∈ TB := tbm 439 (by decide +kernel) (by decide)
set_option maxRecDepth 20000 in
theorem tk_441 : Cond.methodLink RL 121 yL_replenish ∈ TB := tbm 441 (by decide +kernel) (by decide)
set_option maxRecDepth 20000 in
theorem tk_442 : Cond.static yL_replenish ∈ TB := tbm 442 (by decide +kernel) (by decide)
set_option maxRecDepth 20000 in
theorem tk_443 : Cond.codeWith yL_replenish cL_replenish 5 (some .int) [(0, 10, 13, 20), (0, 10, 17, 13)] ∈ TB := tbm 443 (by decide +kernel) (by decide)
set_option maxRecDepth 20000 in
theorem tk_444 : Cond.methodLink RL 49 yX3_replenish ∈ TB := tbm 444 (by decide +kernel) (by decide)
set_option maxRecDepth 20000 in
theorem tk_445 : Cond.instanceMethod yX3_replenish ∈ TB := tbm 445 (by decide +kernel) (by decide)
set_option maxRecDepth 20000 in
theorem tk_446 : Cond.selects RX3 yX3_replenish yX3_replenish ∈ TB := tbm 446 (by decide +kernel) (by decide)
set_option maxRecDepth 20000 in
theorem tk_447 : Cond.code yX3_replenish cX3_replenish 3 (some .int) ∈ TB := tbm 447 (by decide +kernel) (by decide)
set_option maxRecDepth 20000 in
theorem tk_448 : Cond.methodLink RX3 167 yX3_requireNotNegative ∈ TB := tbm 448 (by decide +kernel) (by decide)
set_option maxRecDepth 20000 in
theorem tk_449 : Cond.static yX3_requireNotNegative ∈ TB := tbm 449 (by decide +kernel) (by decide)
set_option maxRecDepth 20000 in
theorem tk_450 : Cond.code yX3_requireNotNegative cX3_requireNotNegative 1 none ∈ TB := tbm 450 (by decide +kernel) (by decide)
set_option maxRecDepth 20000 in
theorem tk_452 : Cond.methodLink RX3 170 yX3_lackedGood ∈ TB := tbm 452 (by decide +kernel) (by decide)
set_option maxRecDepth 20000 in
theorem tk_454 : Cond.instanceMethod yX3_lackedGood ∈ TB := tbm 454 (by decide +kernel) (by decide)
set_option maxRecDepth 20000 in
theorem tk_455 : Cond.code yX3_lackedGood cX3_lackedGood 5 (some .int) ∈ TB := tbm 455 (by decide +kernel) (by decide)
set_option maxRecDepth 20000 in
theorem tk_456 : Cond.methodLink RX3 173 yX3_lackOf ∈ TB := tbm 456 (by decide +kernel) (by decide)
set_option maxRecDepth 20000 in
theorem tk_458 : Cond.instanceMethod yX3_lackOf ∈ TB := tbm 458 (by decide +kernel) (by decide)
set_option maxRecDepth 20000 in
theorem tk_459 : Cond.code yX3_lackOf cX3_lackOf 5 (some .int) ∈ TB := tbm 459 (by decide +kernel) (by decide)
set_option maxRecDepth 20000 in
theorem tk_460 : Cond.methodLink RX3 271 yX3_wantedOf ∈ TB := tbm 460 (by decide +kernel) (by decide)
set_option maxRecDepth 20000 in
theorem tk_462 : Cond.instanceMethod yX3_wantedOf ∈ TB := tbm 462 (by decide +kernel) (by decide)
set_option maxRecDepth 20000 in
theorem tk_463 : Cond.code yX3_wantedOf cX3_wantedOf 6 (some .int) ∈ TB := tbm 463 (by decide +kernel) (by decide)
set_option maxRecDepth 20000 in
theorem tk_464 : Cond.methodLink RL 124 yL_lacks ∈ TB := tbm 464 (by decide +kernel) (by decide)
set_option maxRecDepth 20000 in
theorem tk_465 : Cond.static yL_lacks ∈ TB := tbm 465 (by decide +kernel) (by decide)
set_option maxRecDepth 20000 in
theorem tk_466 : Cond.codeWith yL_lacks cL_lacks 5 (some .int) [(0, 10, 13, 20), (0, 10, 17, 13)] ∈ TB := tbm 466 (by decide +kernel) (by decide)
set_option maxRecDepth 20000 in
theorem tk_467 : Cond.methodLink RL 52 yX3_lacks ∈ TB := tbm 467 (by decide +kernel) (by decide)
set_option maxRecDepth 20000 in
theorem tk_468 : Cond.instanceMethod yX3_lacks ∈ TB := tbm 468 (by decide +kernel) (by decide)
set_option maxRecDepth 20000 in
theorem tk_469 : Cond.selects RX3 yX3_lacks yX3_lacks ∈ TB := tbm 469 (by decide +kernel) (by decide)
set_option maxRecDepth 20000 in
theorem tk_470 : Cond.code yX3_lacks cX3_lacks 3 (some .int) ∈ TB := tbm 470 (by decide +kernel) (by decide)
set_option maxRecDepth 20000 in
theorem tk_471 : Cond.methodLink RL 127 yL_release ∈ TB := tbm 471 (by decide +kernel) (by decide)
set_option maxRecDepth 20000 in
theorem tk_472 : Cond.static yL_release ∈ TB := tbm 472 (by decide +kernel) (by decide)
set_option maxRecDepth 20000 in
theorem tk_473 : Cond.codeWith yL_release cL_release 4 (some .int) [(0, 9, 12, 20), (0, 9, 15, 22)] ∈ TB := tbm 473 (by decide +kernel) (by decide)
set_option maxRecDepth 20000 in
theorem tk_474 : Cond.methodLink RL 55 yX3_release ∈ TB := tbm 474 (by decide +kernel) (by decide)
set_option maxRecDepth 20000 in
theorem tk_475 : Cond.instanceMethod yX3_release ∈ TB := tbm 475 (by decide +kernel) (by decide)
set_option maxRecDepth 20000 in
theorem tk_476 : Cond.selects RX3 yX3_release yX3_release ∈ TB := tbm 476 (by decide +kernel) (by decide)
set_option maxRecDepth 20000 in
theorem tk_477 : Cond.code yX3_release cX3_release 3 (some .int) ∈ TB := tbm 477 (by decide +kernel) (by decide)
set_option maxRecDepth 20000 in
theorem tk_478 : Cond.methodLink RX3 176 yX3_requirePlanned ∈ TB := tbm 478 (by decide +kernel) (by decide)
set_option maxRecDepth 20000 in
theorem tk_479 : Cond.static yX3_requirePlanned ∈ TB := tbm 479 (by decide +kernel) (by decide)
set_option maxRecDepth 20000 in
theorem tk_480 : Cond.code yX3_requirePlanned cX3_requirePlanned 1 none ∈ TB := tbm 480 (by decide +kernel) (by decide)
set_option maxRecDepth 20000 in
theorem tk_482 : Cond.methodLink RX3 180 yX3_allFit ∈ TB := tbm 482 (by decide +kernel) (by decide)
set_option maxRecDepth 20000 in
theorem tk_484 : Cond.instanceMethod yX3_allFit ∈ TB := tbm 484 (by decide +kernel) (by decide)
set_option maxRecDepth 20000 in
theorem tk_485 : Cond.code yX3_allFit cX3_allFit 3 (some .boolean) ∈ TB := tbm 485 (by decide +kernel) (by decide)
set_option maxRecDepth 20000 in
theorem tk_486 : Cond.methodLink RL 130 yL_done ∈ TB := tbm 486 (by decide +kernel) (by decide)
set_option maxRecDepth 20000 in
theorem tk_487 : Cond.static yL_done ∈ TB := tbm 487 (by decide +kernel) (by decide)
set_option maxRecDepth 20000 in
theorem tk_488 : Cond.codeWith yL_done cL_done 4 (some .int) [(0, 9, 12, 20), (0, 9, 15, 22)] ∈ TB := tbm 488 (by decide +kernel) (by decide)
set_option maxRecDepth 20000 in
theorem tk_489 : Cond.methodLink RL 58 yX3_done ∈ TB := tbm 489 (by decide +kernel) (by decide)
set_option maxRecDepth 20000 in
theorem tk_490 : Cond.instanceMethod yX3_done ∈ TB := tbm 490 (by decide +kernel) (by decide)
set_option maxRecDepth 20000 in
theorem tk_491 : Cond.selects RX3 yX3_done yX3_done ∈ TB := tbm 491 (by decide +kernel) (by decide)
set_option maxRecDepth 20000 in
theorem tk_492 : Cond.code yX3_done cX3_done 4 (some .int) ∈ TB := tbm 492 (by decide +kernel) (by decide)
set_option maxRecDepth 20000 in
theorem tk_493 : Cond.methodLink RX3 184 yX3_isReleased ∈ TB := tbm 493 (by decide +kernel) (by decide)
set_option maxRecDepth 20000 in
theorem tk_495 : Cond.instanceMethod yX3_isReleased ∈ TB := tbm 495 (by decide +kernel) (by decide)
set_option maxRecDepth 20000 in
theorem tk_496 : Cond.code yX3_isReleased cX3_isReleased 2 (some .boolean) ∈ TB := tbm 496 (by decide +kernel) (by decide)
set_option maxRecDepth 20000 in
theorem tk_498 : Cond.methodLink RX3 193 yX3_takeFromStock ∈ TB := tbm 498 (by decide +kernel) (by decide)
set_option maxRecDepth 20000 in
theorem tk_500 : Cond.instanceMethod yX3_takeFromStock ∈ TB := tbm 500 (by decide +kernel) (by decide)
set_option maxRecDepth 20000 in
theorem tk_501 : Cond.code yX3_takeFromStock cX3_takeFromStock 3 none ∈ TB := tbm 501 (by decide +kernel) (by decide)
set_option maxRecDepth 20000 in
theorem tk_502 : Cond.methodLink RL 133 yL_change ∈ TB := tbm 502 (by decide +kernel) (by decide)
set_option maxRecDepth 20000 in
theorem tk_503 : Cond.static yL_change ∈ TB := tbm 503 (by decide +kernel) (by decide)
set_option maxRecDepth 20000 in
theorem tk_504 : Cond.codeWith yL_change cL_change 5 (some .int) [(0, 17, 20, 20), (0, 17, 24, 13), (0, 17, 28, 22)] ∈ TB := tbm 504 (by decide +kernel) (by decide)
set_option maxRecDepth 20000 in
theorem tk_505 : Cond.methodLink RL 61 yX3_change ∈ TB := tbm 505 (by decide +kernel) (by decide)
set_option maxRecDepth 20000 in
theorem tk_506 : Cond.instanceMethod yX3_change ∈ TB := tbm 506 (by decide +kernel) (by decide)
set_option maxRecDepth 20000 in
theorem tk_507 : Cond.selects RX3 yX3_change yX3_change ∈ TB := tbm 507 (by decide +kernel) (by decide)
set_option maxRecDepth 20000 in
theorem tk_508 : Cond.code yX3_change cX3_change 5 (some .boolean) ∈ TB := tbm 508 (by decide +kernel) (by decide)
set_option maxRecDepth 20000 in
theorem tk_510 : Cond.methodLink RX3 201 yX3_takeOut ∈ TB := tbm 510 (by decide +kernel) (by decide)
set_option maxRecDepth 20000 in
theorem tk_512 : Cond.instanceMethod yX3_takeOut ∈ TB := tbm 512 (by decide +kernel) (by decide)
set_option maxRecDepth 20000 in
theorem tk_513 : Cond.code yX3_takeOut cX3_takeOut 4 none ∈ TB := tbm 513 (by decide +kernel) (by decide)
set_option maxRecDepth 20000 in
theorem tk_516 : Cond.instanceMethod yX2_remove ∈ TB := tbm 516 (by decide +kernel) (by decide)
set_option maxRecDepth 20000 in
theorem tk_517 : Cond.code yX2_remove cX2_remove 4 none ∈ TB := tbm 517 (by decide +kernel) (by decide)
set_option maxRecDepth 20000 in
theorem tk_518 : Cond.methodLink RL 136 yL_join ∈ TB := tbm 518 (by decide +kernel) (by decide)
set_option maxRecDepth 20000 in
theorem tk_519 : Cond.static yL_join ∈ TB := tbm 519 (by decide +kernel) (by decide)
set_option maxRecDepth 20000 in
theorem tk_520 : Cond.codeWith yL_join cL_join 5 (some .int) [(0, 10, 13, 20), (0, 10, 17, 22)] ∈ TB := tbm 520 (by decide +kernel) (by decide)
set_option maxRecDepth 20000 in
theorem tk_521 : Cond.methodLink RL 65 yX3_join ∈ TB := tbm 521 (by decide +kernel) (by decide)
set_option maxRecDepth 20000 in
theorem tk_522 : Cond.instanceMethod yX3_join ∈ TB := tbm 522 (by decide +kernel) (by decide)
set_option maxRecDepth 20000 in
theorem tk_523 : Cond.selects RX3 yX3_join yX3_join ∈ TB := tbm 523 (by decide +kernel) (by decide)
set_option maxRecDepth 20000 in
theorem tk_524 : Cond.code yX3_join cX3_join 7 (some .int) ∈ TB := tbm 524 (by decide +kernel) (by decide)
set_option maxRecDepth 20000 in
theorem tk_528 : Cond.instanceMethod yX2_addAll ∈ TB := tbm 528 (by decide +kernel) (by decide)
set_option maxRecDepth 20000 in
theorem tk_529 : Cond.code yX2_addAll cX2_addAll 3 none ∈ TB := tbm 529 (by decide +kernel) (by decide)
set_option maxRecDepth 20000 in
theorem tk_530 : Cond.methodLink RX2 19 yX2_add ∈ TB := tbm 530 (by decide +kernel) (by decide)
set_option maxRecDepth 20000 in
theorem tk_532 : Cond.methodLink RL 139 yL_cutoff ∈ TB := tbm 532 (by decide +kernel) (by decide)
set_option maxRecDepth 20000 in
theorem tk_533 : Cond.static yL_cutoff ∈ TB := tbm 533 (by decide +kernel) (by decide)
set_option maxRecDepth 20000 in
theorem tk_534 : Cond.codeWith yL_cutoff cL_cutoff 5 (some .int) [(0, 10, 13, 13)] ∈ TB := tbm 534 (by decide +kernel) (by decide)
set_option maxRecDepth 20000 in
theorem tk_535 : Cond.methodLink RL 68 yX3_cutoff ∈ TB := tbm 535 (by decide +kernel) (by decide)
set_option maxRecDepth 20000 in
theorem tk_536 : Cond.instanceMethod yX3_cutoff ∈ TB := tbm 536 (by decide +kernel) (by decide)
set_option maxRecDepth 20000 in
theorem tk_537 : Cond.selects RX3 yX3_cutoff yX3_cutoff ∈ TB := tbm 537 (by decide +kernel) (by decide)
set_option maxRecDepth 20000 in
theorem tk_538 : Cond.code yX3_cutoff cX3_cutoff 6 (some .int) ∈ TB := tbm 538 (by decide +kernel) (by decide)
set_option maxRecDepth 20000 in
theorem tk_539 : Cond.methodLink RL 142 yL_late ∈ TB := tbm 539 (by decide +kernel) (by decide)
set_option maxRecDepth 20000 in
theorem tk_540 : Cond.static yL_late ∈ TB := tbm 540 (by decide +kernel) (by decide)
set_option maxRecDepth 20000 in
theorem tk_541 : Cond.codeWith yL_late cL_late 4 (some .int) [(0, 9, 12, 13)] ∈ TB := tbm 541 (by decide +kernel) (by decide)
set_option maxRecDepth 20000 in
theorem tk_542 : Cond.methodLink RL 71 yX3_late ∈ TB := tbm 542 (by decide +kernel) (by decide)
set_option maxRecDepth 20000 in
theorem tk_543 : Cond.instanceMethod yX3_late ∈ TB := tbm 543 (by decide +kernel) (by decide)
set_option maxRecDepth 20000 in
theorem tk_544 : Cond.selects RX3 yX3_late yX3_late ∈ TB := tbm 544 (by decide +kernel) (by decide)
set_option maxRecDepth 20000 in
theorem tk_545 : Cond.code yX3_late cX3_late 4 (some .int) ∈ TB := tbm 545 (by decide +kernel) (by decide)
set_option maxRecDepth 20000 in
theorem tk_546 : Cond.classLink RL 83 RX4 ∈ TB := tbm 546 (by decide +kernel) (by decide)
set_option maxRecDepth 20000 in
theorem tk_547 : Cond.instantiable RX4 22 ∈ TB := tbm 547 (by decide +kernel) (by decide)
set_option maxRecDepth 20000 in
theorem tk_548 : Cond.methodLink RL 85 yX4_init ∈ TB := tbm 548 (by decide +kernel) (by decide)
set_option maxRecDepth 20000 in
theorem tk_549 : Cond.instanceMethod yX4_init ∈ TB := tbm 549 (by decide +kernel) (by decide)
set_option maxRecDepth 20000 in
theorem tk_550 : Cond.code yX4_init cX4_init 2 none ∈ TB := tbm 550 (by decide +kernel) (by decide)
set_option maxRecDepth 20000 in
theorem tk_551 : Cond.methodLink RX4 1 objectInit ∈ TB := tbm 551 (by decide +kernel) (by decide)
set_option maxRecDepth 20000 in
theorem tk_552 : Cond.constant RX4 59 (65536) ∈ TB := tbm 552 (by decide +kernel) (by decide)
set_option maxRecDepth 20000 in
theorem tk_553 : Cond.fieldLink RX4 64 "WavePlansModel" "code" "I" ∈ TB := tbm 553 (by decide +kernel) (by decide)
set_option maxRecDepth 20000 in
theorem tk_554 : Cond.fieldLink RX4 60 "WavePlansModel" "capacity" "I" ∈ TB := tbm 554 (by decide +kernel) (by decide)
set_option maxRecDepth 20000 in
theorem tk_555 : Cond.fieldLink RX4 67 "WavePlansModel" "orders" "I" ∈ TB := tbm 555 (by decide +kernel) (by decide)
set_option maxRecDepth 20000 in
theorem tk_556 : Cond.fieldLink RX4 7 "WavePlansModel" "due" "[I" ∈ TB := tbm 556 (by decide +kernel) (by decide)
set_option maxRecDepth 20000 in
theorem tk_557 : Cond.fieldLink RX4 13 "WavePlansModel" "zone" "[I" ∈ TB := tbm 557 (by decide +kernel) (by decide)
set_option maxRecDepth 20000 in
theorem tk_558 : Cond.fieldLink RX4 16 "WavePlansModel" "seconds" "[I" ∈ TB := tbm 558 (by decide +kernel) (by decide)
set_option maxRecDepth 20000 in
theorem tk_559 : Cond.fieldLink RX4 19 "WavePlansModel" "carrier" "[I" ∈ TB := tbm 559 (by decide +kernel) (by decide)
set_option maxRecDepth 20000 in
theorem tk_560 : Cond.fieldLink RX4 22 "WavePlansModel" "waveOf" "[I" ∈ TB := tbm 560 (by decide +kernel) (by decide)
set_option maxRecDepth 20000 in
theorem tk_561 : Cond.fieldLink RX4 25 "WavePlansModel" "came" "[I" ∈ TB := tbm 561 (by decide +kernel) (by decide)
set_option maxRecDepth 20000 in
theorem tk_562 : Cond.fieldLink RX4 28 "WavePlansModel" "done" "[Z" ∈ TB := tbm 562 (by decide +kernel) (by decide)
set_option maxRecDepth 20000 in
theorem tk_563 : Cond.fieldLink RX4 32 "WavePlansModel" "wants" "[I" ∈ TB := tbm 563 (by decide +kernel) (by decide)
set_option maxRecDepth 20000 in
theorem tk_564 : Cond.fieldLink RX4 109 "WavePlansModel" "coming" "I" ∈ TB := tbm 564 (by decide +kernel) (by decide)
set_option maxRecDepth 20000 in
theorem tk_565 : Cond.fieldLink RX4 86 "WavePlansModel" "hours" "I" ∈ TB := tbm 565 (by decide +kernel) (by decide)
set_option maxRecDepth 20000 in
theorem tk_566 : Cond.fieldLink RX4 35 "WavePlansModel" "hourCarrier" "[I" ∈ TB := tbm 566 (by decide +kernel) (by decide)
set_option maxRecDepth 20000 in
theorem tk_567 : Cond.fieldLink RX4 38 "WavePlansModel" "hourFrom" "[I" ∈ TB := tbm 567 (by decide +kernel) (by decide)
set_option maxRecDepth 20000 in
theorem tk_568 : Cond.fieldLink RX4 41 "WavePlansModel" "hourTo" "[I" ∈ TB := tbm 568 (by decide +kernel) (by decide)
set_option maxRecDepth 20000 in
theorem tk_569 : Cond.fieldLink RX4 99 "WavePlansModel" "waves" "I" ∈ TB := tbm 569 (by decide +kernel) (by decide)
set_option maxRecDepth 20000 in
theorem tk_570 : Cond.fieldLink RX4 44 "WavePlansModel" "released" "[Z" ∈ TB := tbm 570 (by decide +kernel) (by decide)
set_option maxRecDepth 20000 in
theorem tk_571 : Cond.fieldLink RX4 47 "WavePlansModel" "stock" "[I" ∈ TB := tbm 571 (by decide +kernel) (by decide)
set_option maxRecDepth 20000 in
theorem tk_572 : Cond.fieldLink RX4 50 "WavePlansModel" "newWave" "[I" ∈ TB := tbm 572 (by decide +kernel) (by decide)
set_option maxRecDepth 20000 in
theorem tk_573 : Cond.fieldLink RX4 53 "WavePlansModel" "newCame" "[I" ∈ TB := tbm 573 (by decide +kernel) (by decide)
set_option maxRecDepth 20000 in
theorem tk_574 : Cond.fieldLink RX4 56 "WavePlansModel" "looked" "[Z" ∈ TB := tbm 574 (by decide +kernel) (by decide)
set_option maxRecDepth 20000 in
theorem tk_620 : Cond.arrayClass .boolean ∈ TB := tbm 620 (by decide +kernel) (by decide)
set_option maxRecDepth 20000 in
theorem tk_621 : Cond.methodLink RL 90 yX4_thrown ∈ TB := tbm 621 (by decide +kernel) (by decide)
set_option maxRecDepth 20000 in
theorem tk_622 : Cond.instanceMethod yX4_thrown ∈ TB := tbm 622 (by decide +kernel) (by decide)
set_option maxRecDepth 20000 in
theorem tk_623 : Cond.selects RX4 yX4_thrown yX4_thrown ∈ TB := tbm 623 (by decide +kernel) (by decide)
set_option maxRecDepth 20000 in
theorem tk_624 : Cond.code yX4_thrown cX4_thrown 1 (some .int) ∈ TB := tbm 624 (by decide +kernel) (by decide)
set_option maxRecDepth 20000 in
theorem tk_625 : Cond.methodLink RL 89 yX4_order ∈ TB := tbm 625 (by decide +kernel) (by decide)
set_option maxRecDepth 20000 in
theorem tk_626 : Cond.instanceMethod yX4_order ∈ TB := tbm 626 (by decide +kernel) (by decide)
set_option maxRecDepth 20000 in
theorem tk_627 : Cond.selects RX4 yX4_order yX4_order ∈ TB := tbm 627 (by decide +kernel) (by decide)
set_option maxRecDepth 20000 in
theorem tk_628 : Cond.code yX4_order cX4_order 4 (some .int) ∈ TB := tbm 628 (by decide +kernel) (by decide)
set_option maxRecDepth 20000 in
theorem tk_629 : Cond.methodLink RX4 75 yX4_isTime ∈ TB := tbm 629 (by decide +kernel) (by decide)
set_option maxRecDepth 20000 in
theorem tk_630 : Cond.static yX4_isTime ∈ TB := tbm 630 (by decide +kernel) (by decide)
set_option maxRecDepth 20000 in
theorem tk_631 : Cond.code yX4_isTime cX4_isTime 1 (some .boolean) ∈ TB := tbm 631 (by decide +kernel) (by decide)
set_option maxRecDepth 20000 in
theorem tk_632 : Cond.constant RX4 74 (100000) ∈ TB := tbm 632 (by decide +kernel) (by decide)
set_option maxRecDepth 20000 in
theorem tk_633 : Cond.methodLink RX4 70 yX4_in ∈ TB := tbm 633 (by decide +kernel) (by decide)
set_option maxRecDepth 20000 in
theorem tk_634 : Cond.static yX4_in ∈ TB := tbm 634 (by decide +kernel) (by decide)
set_option maxRecDepth 20000 in
theorem tk_635 : Cond.code yX4_in cX4_in 3 (some .boolean) ∈ TB := tbm 635 (by decide +kernel) (by decide)
set_option maxRecDepth 20000 in
theorem tk_636 : Cond.methodLink RL 95 yX4_line ∈ TB := tbm 636 (by decide +kernel) (by decide)
set_option maxRecDepth 20000 in
theorem tk_637 : Cond.instanceMethod yX4_line ∈ TB := tbm 637 (by decide +kernel) (by decide)
set_option maxRecDepth 20000 in
theorem tk_638 : Cond.selects RX4 yX4_line yX4_line ∈ TB := tbm 638 (by decide +kernel) (by decide)
set_option maxRecDepth 20000 in
theorem tk_639 : Cond.code yX4_line cX4_line 4 (some .int) ∈ TB := tbm 639 (by decide +kernel) (by decide)
set_option maxRecDepth 20000 in
theorem tk_640 : Cond.methodLink RX4 79 yX4_isOrder ∈ TB := tbm 640 (by decide +kernel) (by decide)
set_option maxRecDepth 20000 in
theorem tk_642 : Cond.instanceMethod yX4_isOrder ∈ TB := tbm 642 (by decide +kernel) (by decide)
set_option maxRecDepth 20000 in
theorem tk_643 : Cond.code yX4_isOrder cX4_isOrder 2 (some .boolean) ∈ TB := tbm 643 (by decide +kernel) (by decide)
set_option maxRecDepth 20000 in
theorem tk_644 : Cond.methodLink RX4 82 yX4_lines ∈ TB := tbm 644 (by decide +kernel) (by decide)
set_option maxRecDepth 20000 in
theorem tk_646 : Cond.instanceMethod yX4_lines ∈ TB := tbm 646 (by decide +kernel) (by decide)
set_option maxRecDepth 20000 in
theorem tk_647 : Cond.code yX4_lines cX4_lines 4 (some .int) ∈ TB := tbm 647 (by decide +kernel) (by decide)
set_option maxRecDepth 20000 in
theorem tk_648 : Cond.methodLink RL 99 yX4_carrier ∈ TB := tbm 648 (by decide +kernel) (by decide)
set_option maxRecDepth 20000 in
theorem tk_649 : Cond.instanceMethod yX4_carrier ∈ TB := tbm 649 (by decide +kernel) (by decide)
set_option maxRecDepth 20000 in
theorem tk_650 : Cond.selects RX4 yX4_carrier yX4_carrier ∈ TB := tbm 650 (by decide +kernel) (by decide)
set_option maxRecDepth 20000 in
theorem tk_651 : Cond.code yX4_carrier cX4_carrier 3 none ∈ TB := tbm 651 (by decide +kernel) (by decide)
set_option maxRecDepth 20000 in
theorem tk_652 : Cond.methodLink RL 102 yX4_hour ∈ TB := tbm 652 (by decide +kernel) (by decide)
set_option maxRecDepth 20000 in
theorem tk_653 : Cond.instanceMethod yX4_hour ∈ TB := tbm 653 (by decide +kernel) (by decide)
set_option maxRecDepth 20000 in
theorem tk_654 : Cond.selects RX4 yX4_hour yX4_hour ∈ TB := tbm 654 (by decide +kernel) (by decide)
set_option maxRecDepth 20000 in
theorem tk_655 : Cond.code yX4_hour cX4_hour 6 (some .int) ∈ TB := tbm 655 (by decide +kernel) (by decide)
set_option maxRecDepth 20000 in
theorem tk_656 : Cond.methodLink RL 105 yX4_stock ∈ TB := tbm 656 (by decide +kernel) (by decide)
set_option maxRecDepth 20000 in
theorem tk_657 : Cond.instanceMethod yX4_stock ∈ TB := tbm 657 (by decide +kernel) (by decide)
set_option maxRecDepth 20000 in
theorem tk_658 : Cond.selects RX4 yX4_stock yX4_stock ∈ TB := tbm 658 (by decide +kernel) (by decide)
set_option maxRecDepth 20000 in
theorem tk_659 : Cond.code yX4_stock cX4_stock 3 none ∈ TB := tbm 659 (by decide +kernel) (by decide)
set_option maxRecDepth 20000 in
theorem tk_660 : Cond.methodLink RL 109 yX4_plan ∈ TB := tbm 660 (by decide +kernel) (by decide)
set_option maxRecDepth 20000 in
theorem tk_661 : Cond.instanceMethod yX4_plan ∈ TB := tbm 661 (by decide +kernel) (by decide)
set_option maxRecDepth 20000 in
theorem tk_662 : Cond.selects RX4 yX4_plan yX4_plan ∈ TB := tbm 662 (by decide +kernel) (by decide)
set_option maxRecDepth 20000 in
theorem tk_663 : Cond.code yX4_plan cX4_plan 5 (some .int) ∈ TB := tbm 663 (by decide +kernel) (by decide)
set_option maxRecDepth 20000 in
theorem tk_664 : Cond.methodLink RX4 112 yX4_begin ∈ TB := tbm 664 (by decide +kernel) (by decide)
set_option maxRecDepth 20000 in
theorem tk_666 : Cond.instanceMethod yX4_begin ∈ TB := tbm 666 (by decide +kernel) (by decide)
set_option maxRecDepth 20000 in
theorem tk_667 : Cond.code yX4_begin cX4_begin 3 (some .int) ∈ TB := tbm 667 (by decide +kernel) (by decide)
set_option maxRecDepth 20000 in
theorem tk_668 : Cond.methodLink RX4 123 yX4_isOpen ∈ TB := tbm 668 (by decide +kernel) (by decide)
set_option maxRecDepth 20000 in
theorem tk_670 : Cond.instanceMethod yX4_isOpen ∈ TB := tbm 670 (by decide +kernel) (by decide)
set_option maxRecDepth 20000 in
theorem tk_671 : Cond.code yX4_isOpen cX4_isOpen 2 (some .boolean) ∈ TB := tbm 671 (by decide +kernel) (by decide)
set_option maxRecDepth 20000 in
theorem tk_672 : Cond.methodLink RX4 105 yX4_fits ∈ TB := tbm 672 (by decide +kernel) (by decide)
set_option maxRecDepth 20000 in
theorem tk_674 : Cond.instanceMethod yX4_fits ∈ TB := tbm 674 (by decide +kernel) (by decide)
set_option maxRecDepth 20000 in
theorem tk_675 : Cond.code yX4_fits cX4_fits 4 (some .boolean) ∈ TB := tbm 675 (by decide +kernel) (by decide)
set_option maxRecDepth 20000 in
theorem tk_676 : Cond.methodLink RX4 126 yX4_isEarlier ∈ TB := tbm 676 (by decide +kernel) (by decide)
set_option maxRecDepth 20000 in
theorem tk_678 : Cond.instanceMethod yX4_isEarlier ∈ TB := tbm 678 (by decide +kernel) (by decide)
set_option maxRecDepth 20000 in
theorem tk_679 : Cond.code yX4_isEarlier cX4_isEarlier 3 (some .boolean) ∈ TB := tbm 679 (by decide +kernel) (by decide)
set_option maxRecDepth 20000 in
theorem tk_680 : Cond.methodLink RX4 116 yX4_put ∈ TB := tbm 680 (by decide +kernel) (by decide)
set_option maxRecDepth 20000 in
theorem tk_682 : Cond.instanceMethod yX4_put ∈ TB := tbm 682 (by decide +kernel) (by decide)
set_option maxRecDepth 20000 in
theorem tk_683 : Cond.code yX4_put cX4_put 3 none ∈ TB := tbm 683 (by decide +kernel) (by decide)
set_option maxRecDepth 20000 in
theorem tk_684 : Cond.methodLink RX4 120 yX4_fill ∈ TB := tbm 684 (by decide +kernel) (by decide)
set_option maxRecDepth 20000 in
theorem tk_686 : Cond.instanceMethod yX4_fill ∈ TB := tbm 686 (by decide +kernel) (by decide)
set_option maxRecDepth 20000 in
theorem tk_687 : Cond.code yX4_fill cX4_fill 7 (some .int) ∈ TB := tbm 687 (by decide +kernel) (by decide)
set_option maxRecDepth 20000 in
theorem tk_688 : Cond.methodLink RX4 129 yX4_best ∈ TB := tbm 688 (by decide +kernel) (by decide)
set_option maxRecDepth 20000 in
theorem tk_690 : Cond.instanceMethod yX4_best ∈ TB := tbm 690 (by decide +kernel) (by decide)
set_option maxRecDepth 20000 in
theorem tk_691 : Cond.code yX4_best cX4_best 6 (some .int) ∈ TB := tbm 691 (by decide +kernel) (by decide)
set_option maxRecDepth 20000 in
theorem tk_692 : Cond.methodLink RX4 133 yX4_most ∈ TB := tbm 692 (by decide +kernel) (by decide)
set_option maxRecDepth 20000 in
theorem tk_694 : Cond.instanceMethod yX4_most ∈ TB := tbm 694 (by decide +kernel) (by decide)
set_option maxRecDepth 20000 in
theorem tk_695 : Cond.code yX4_most cX4_most 5 (some .int) ∈ TB := tbm 695 (by decide +kernel) (by decide)
set_option maxRecDepth 20000 in
theorem tk_696 : Cond.methodLink RX4 89 yX4_saving ∈ TB := tbm 696 (by decide +kernel) (by decide)
set_option maxRecDepth 20000 in
theorem tk_698 : Cond.instanceMethod yX4_saving ∈ TB := tbm 698 (by decide +kernel) (by decide)
set_option maxRecDepth 20000 in
theorem tk_699 : Cond.code yX4_saving cX4_saving 6 (some .int) ∈ TB := tbm 699 (by decide +kernel) (by decide)
set_option maxRecDepth 20000 in
theorem tk_700 : Cond.methodLink RL 113 yX4_wave ∈ TB := tbm 700 (by decide +kernel) (by decide)
set_option maxRecDepth 20000 in
theorem tk_701 : Cond.instanceMethod yX4_wave ∈ TB := tbm 701 (by decide +kernel) (by decide)
set_option maxRecDepth 20000 in
theorem tk_702 : Cond.selects RX4 yX4_wave yX4_wave ∈ TB := tbm 702 (by decide +kernel) (by decide)
set_option maxRecDepth 20000 in
theorem tk_703 : Cond.code yX4_wave cX4_wave 2 (some .int) ∈ TB := tbm 703 (by decide +kernel) (by decide)
set_option maxRecDepth 20000 in
theorem tk_704 : Cond.methodLink RL 117 yX4_told ∈ TB := tbm 704 (by decide +kernel) (by decide)
set_option maxRecDepth 20000 in
theorem tk_705 : Cond.instanceMethod yX4_told ∈ TB := tbm 705 (by decide +kernel) (by decide)
set_option maxRecDepth 20000 in
theorem tk_706 : Cond.selects RX4 yX4_told yX4_told ∈ TB := tbm 706 (by decide +kernel) (by decide)
set_option maxRecDepth 20000 in
theorem tk_707 : Cond.code yX4_told cX4_told 6 (some .int) ∈ TB := tbm 707 (by decide +kernel) (by decide)
set_option maxRecDepth 20000 in
theorem tk_708 : Cond.methodLink RX4 136 yX4_isWave ∈ TB := tbm 708 (by decide +kernel) (by decide)
set_option maxRecDepth 20000 in
theorem tk_710 : Cond.instanceMethod yX4_isWave ∈ TB := tbm 710 (by decide +kernel) (by decide)
set_option maxRecDepth 20000 in
theorem tk_711 : Cond.code yX4_isWave cX4_isWave 2 (some .boolean) ∈ TB := tbm 711 (by decide +kernel) (by decide)
set_option maxRecDepth 20000 in
theorem tk_712 : Cond.methodLink RX4 102 yX4_sizeOf ∈ TB := tbm 712 (by decide +kernel) (by decide)
set_option maxRecDepth 20000 in
theorem tk_714 : Cond.instanceMethod yX4_sizeOf ∈ TB := tbm 714 (by decide +kernel) (by decide)
set_option maxRecDepth 20000 in
theorem tk_715 : Cond.code yX4_sizeOf cX4_sizeOf 4 (some .int) ∈ TB := tbm 715 (by decide +kernel) (by decide)
set_option maxRecDepth 20000 in
theorem tk_716 : Cond.methodLink RX4 139 yX4_secondsOf ∈ TB := tbm 716 (by decide +kernel) (by decide)
set_option maxRecDepth 20000 in
theorem tk_718 : Cond.instanceMethod yX4_secondsOf ∈ TB := tbm 718 (by decide +kernel) (by decide)
set_option maxRecDepth 20000 in
theorem tk_719 : Cond.code yX4_secondsOf cX4_secondsOf 4 (some .int) ∈ TB := tbm 719 (by decide +kernel) (by decide)
set_option maxRecDepth 20000 in
theorem tk_720 : Cond.methodLink RX4 96 yX4_savedOf ∈ TB := tbm 720 (by decide +kernel) (by decide)
set_option maxRecDepth 20000 in
theorem tk_722 : Cond.instanceMethod yX4_savedOf ∈ TB := tbm 722 (by decide +kernel) (by decide)
set_option maxRecDepth 20000 in
theorem tk_723 : Cond.code yX4_savedOf cX4_savedOf 4 (some .int) ∈ TB := tbm 723 (by decide +kernel) (by decide)
set_option maxRecDepth 20000 in
theorem tk_724 : Cond.methodLink RX4 93 yX4_savedBy ∈ TB := tbm 724 (by decide +kernel) (by decide)
set_option maxRecDepth 20000 in
theorem tk_726 : Cond.instanceMethod yX4_savedBy ∈ TB := tbm 726 (by decide +kernel) (by decide)
set_option maxRecDepth 20000 in
theorem tk_727 : Cond.code yX4_savedBy cX4_savedBy 4 (some .int) ∈ TB := tbm 727 (by decide +kernel) (by decide)
set_option maxRecDepth 20000 in
theorem tk_728 : Cond.methodLink RX4 142 yX4_memberAt ∈ TB := tbm 728 (by decide +kernel) (by decide)
set_option maxRecDepth 20000 in
theorem tk_730 : Cond.instanceMethod yX4_memberAt ∈ TB := tbm 730 (by decide +kernel) (by decide)
set_option maxRecDepth 20000 in
theorem tk_731 : Cond.code yX4_memberAt cX4_memberAt 6 (some .int) ∈ TB := tbm 731 (by decide +kernel) (by decide)
set_option maxRecDepth 20000 in
theorem tk_732 : Cond.methodLink RL 120 yX4_member ∈ TB := tbm 732 (by decide +kernel) (by decide)
set_option maxRecDepth 20000 in
theorem tk_733 : Cond.instanceMethod yX4_member ∈ TB := tbm 733 (by decide +kernel) (by decide)
set_option maxRecDepth 20000 in
theorem tk_734 : Cond.selects RX4 yX4_member yX4_member ∈ TB := tbm 734 (by decide +kernel) (by decide)
set_option maxRecDepth 20000 in
theorem tk_735 : Cond.code yX4_member cX4_member 4 (some .int) ∈ TB := tbm 735 (by decide +kernel) (by decide)
set_option maxRecDepth 20000 in
theorem tk_736 : Cond.methodLink RL 123 yX4_replenish ∈ TB := tbm 736 (by decide +kernel) (by decide)
set_option maxRecDepth 20000 in
theorem tk_737 : Cond.instanceMethod yX4_replenish ∈ TB := tbm 737 (by decide +kernel) (by decide)
set_option maxRecDepth 20000 in
theorem tk_738 : Cond.selects RX4 yX4_replenish yX4_replenish ∈ TB := tbm 738 (by decide +kernel) (by decide)
set_option maxRecDepth 20000 in
theorem tk_739 : Cond.code yX4_replenish cX4_replenish 5 (some .int) ∈ TB := tbm 739 (by decide +kernel) (by decide)
set_option maxRecDepth 20000 in
theorem tk_740 : Cond.methodLink RX4 148 yX4_lackOf ∈ TB := tbm 740 (by decide +kernel) (by decide)
set_option maxRecDepth 20000 in
theorem tk_742 : Cond.instanceMethod yX4_lackOf ∈ TB := tbm 742 (by decide +kernel) (by decide)
set_option maxRecDepth 20000 in
theorem tk_743 : Cond.code yX4_lackOf cX4_lackOf 5 (some .int) ∈ TB := tbm 743 (by decide +kernel) (by decide)
set_option maxRecDepth 20000 in
theorem tk_744 : Cond.methodLink RX4 145 yX4_wantsOf ∈ TB := tbm 744 (by decide +kernel) (by decide)
set_option maxRecDepth 20000 in
theorem tk_746 : Cond.instanceMethod yX4_wantsOf ∈ TB := tbm 746 (by decide +kernel) (by decide)
set_option maxRecDepth 20000 in
theorem tk_747 : Cond.code yX4_wantsOf cX4_wantsOf 5 (some .int) ∈ TB := tbm 747 (by decide +kernel) (by decide)
set_option maxRecDepth 20000 in
theorem tk_748 : Cond.methodLink RL 126 yX4_lacks ∈ TB := tbm 748 (by decide +kernel) (by decide)
set_option maxRecDepth 20000 in
theorem tk_749 : Cond.instanceMethod yX4_lacks ∈ TB := tbm 749 (by decide +kernel) (by decide)
set_option maxRecDepth 20000 in
theorem tk_750 : Cond.selects RX4 yX4_lacks yX4_lacks ∈ TB := tbm 750 (by decide +kernel) (by decide)
set_option maxRecDepth 20000 in
theorem tk_751 : Cond.code yX4_lacks cX4_lacks 3 (some .int) ∈ TB := tbm 751 (by decide +kernel) (by decide)
set_option maxRecDepth 20000 in
theorem tk_752 : Cond.methodLink RL 129 yX4_release ∈ TB := tbm 752 (by decide +kernel) (by decide)
set_option maxRecDepth 20000 in
theorem tk_753 : Cond.instanceMethod yX4_release ∈ TB := tbm 753 (by decide +kernel) (by decide)
set_option maxRecDepth 20000 in
theorem tk_754 : Cond.selects RX4 yX4_release yX4_release ∈ TB := tbm 754 (by decide +kernel) (by decide)
set_option maxRecDepth 20000 in
theorem tk_755 : Cond.code yX4_release cX4_release 3 (some .int) ∈ TB := tbm 755 (by decide +kernel) (by decide)
set_option maxRecDepth 20000 in
theorem tk_756 : Cond.methodLink RL 132 yX4_done ∈ TB := tbm 756 (by decide +kernel) (by decide)
set_option maxRecDepth 20000 in
theorem tk_757 : Cond.instanceMethod yX4_done ∈ TB := tbm 757 (by decide +kernel) (by decide)
set_option maxRecDepth 20000 in
theorem tk_758 : Cond.selects RX4 yX4_done yX4_done ∈ TB := tbm 758 (by decide +kernel) (by decide)
set_option maxRecDepth 20000 in
theorem tk_759 : Cond.code yX4_done cX4_done 4 (some .int) ∈ TB := tbm 759 (by decide +kernel) (by decide)
set_option maxRecDepth 20000 in
theorem tk_760 : Cond.methodLink RL 135 yX4_change ∈ TB := tbm 760 (by decide +kernel) (by decide)
set_option maxRecDepth 20000 in
theorem tk_761 : Cond.instanceMethod yX4_change ∈ TB := tbm 761 (by decide +kernel) (by decide)
set_option maxRecDepth 20000 in
theorem tk_762 : Cond.selects RX4 yX4_change yX4_change ∈ TB := tbm 762 (by decide +kernel) (by decide)
set_option maxRecDepth 20000 in
theorem tk_763 : Cond.code yX4_change cX4_change 4 (some .boolean) ∈ TB := tbm 763 (by decide +kernel) (by decide)
set_option maxRecDepth 20000 in
theorem tk_764 : Cond.methodLink RL 138 yX4_join ∈ TB := tbm 764 (by decide +kernel) (by decide)
set_option maxRecDepth 20000 in
theorem tk_765 : Cond.instanceMethod yX4_join ∈ TB := tbm 765 (by decide +kernel) (by decide)
set_option maxRecDepth 20000 in
theorem tk_766 : Cond.selects RX4 yX4_join yX4_join ∈ TB := tbm 766 (by decide +kernel) (by decide)
set_option maxRecDepth 20000 in
theorem tk_767 : Cond.code yX4_join cX4_join 6 (some .int) ∈ TB := tbm 767 (by decide +kernel) (by decide)
set_option maxRecDepth 20000 in
theorem tk_768 : Cond.methodLink RL 141 yX4_cutoff ∈ TB := tbm 768 (by decide +kernel) (by decide)
set_option maxRecDepth 20000 in
theorem tk_769 : Cond.instanceMethod yX4_cutoff ∈ TB := tbm 769 (by decide +kernel) (by decide)
set_option maxRecDepth 20000 in
theorem tk_770 : Cond.selects RX4 yX4_cutoff yX4_cutoff ∈ TB := tbm 770 (by decide +kernel) (by decide)
set_option maxRecDepth 20000 in
theorem tk_771 : Cond.code yX4_cutoff cX4_cutoff 5 (some .int) ∈ TB := tbm 771 (by decide +kernel) (by decide)
set_option maxRecDepth 20000 in
theorem tk_772 : Cond.methodLink RL 144 yX4_late ∈ TB := tbm 772 (by decide +kernel) (by decide)
set_option maxRecDepth 20000 in
theorem tk_773 : Cond.instanceMethod yX4_late ∈ TB := tbm 773 (by decide +kernel) (by decide)
set_option maxRecDepth 20000 in
theorem tk_774 : Cond.selects RX4 yX4_late yX4_late ∈ TB := tbm 774 (by decide +kernel) (by decide)
set_option maxRecDepth 20000 in
theorem tk_775 : Cond.code yX4_late cX4_late 4 (some .int) ∈ TB := tbm 775 (by decide +kernel) (by decide)
set_option maxRecDepth 20000 in
theorem tk_776 : Cond.methodLink RL 148 yX4_count ∈ TB := tbm 776 (by decide +kernel) (by decide)
set_option maxRecDepth 20000 in
theorem tk_777 : Cond.instanceMethod yX4_count ∈ TB := tbm 777 (by decide +kernel) (by decide)
set_option maxRecDepth 20000 in
theorem tk_778 : Cond.selects RX4 yX4_count yX4_count ∈ TB := tbm 778 (by decide +kernel) (by decide)
set_option maxRecDepth 20000 in
theorem tk_779 : Cond.code yX4_count cX4_count 4 (some .int) ∈ TB := tbm 779 (by decide +kernel) (by decide)
set_option maxRecDepth 20000 in
theorem tk_780 : Cond.arrayClass .long ∈ TB := tbm 780 (by decide +kernel) (by decide)
set_option maxRecDepth 20000 in
theorem tu_0 : Cond.selects RX3 yX3_wavesWithOrders yX3_wavesWithOrders ∈ TB := tbs 0 (by decide +kernel) (by decide)
set_option maxRecDepth 20000 in
theorem tu_1 : Cond.selects RX3 yX3_ordersAt yX3_ordersAt ∈ TB := tbs 1 (by decide +kernel) (by decide)
set_option maxRecDepth 20000 in
theorem tu_2 : Cond.selects RX3 yX3_finishedOrders yX3_finishedOrders ∈ TB := tbs 2 (by decide +kernel) (by decide)
set_option maxRecDepth 20000 in
theorem tu_3 : Cond.selects RX3 yX3_savedBehind yX3_savedBehind ∈ TB := tbs 3 (by decide +kernel) (by decide)
set_option maxRecDepth 20000 in
theorem tu_4 : Cond.selects RX3 yX3_savedOf yX3_savedOf ∈ TB := tbs 4 (by decide +kernel) (by decide)
set_option maxRecDepth 20000 in
theorem tu_5 : Cond.selects RX3 yX3_greatestSaving yX3_greatestSaving ∈ TB := tbs 5 (by decide +kernel) (by decide)
set_option maxRecDepth 20000 in
theorem tu_6 : Cond.selects RX1 yX1_savingWith yX1_savingWith ∈ TB := tbs 6 (by decide +kernel) (by decide)
set_option maxRecDepth 20000 in
theorem tu_8 : Cond.selects RX3 yX3_requireOrder yX3_requireOrder ∈ TB := tbs 8 (by decide +kernel) (by decide)
set_option maxRecDepth 20000 in
theorem tu_9 : Cond.selects RX0 yX0_open yX0_open ∈ TB := tbs 9 (by decide +kernel) (by decide)
set_option maxRecDepth 20000 in
theorem tu_10 : Cond.selects RX0 yX0_hoursOf yX0_hoursOf ∈ TB := tbs 10 (by decide +kernel) (by decide)
set_option maxRecDepth 20000 in
theorem tu_11 : Cond.selects RX3 yX3_makeWaves yX3_makeWaves ∈ TB := tbs 11 (by decide +kernel) (by decide)
set_option maxRecDepth 20000 in
theorem tu_12 : Cond.selects RX3 yX3_nextBeginning yX3_nextBeginning ∈ TB := tbs 12 (by decide +kernel) (by decide)
set_option maxRecDepth 20000 in
theorem tu_13 : Cond.selects RX3 yX3_mayBePlanned yX3_mayBePlanned ∈ TB := tbs 13 (by decide +kernel) (by decide)
set_option maxRecDepth 20000 in
theorem tu_14 : Cond.selects RX3 yX3_fits yX3_fits ∈ TB := tbs 14 (by decide +kernel) (by decide)
set_option maxRecDepth 20000 in
theorem tu_15 : Cond.selects RX0 yX0_have yX0_have ∈ TB := tbs 15 (by decide +kernel) (by decide)
set_option maxRecDepth 20000 in
theorem tu_16 : Cond.selects RX3 yX3_makeWave yX3_makeWave ∈ TB := tbs 16 (by decide +kernel) (by decide)
set_option maxRecDepth 20000 in
theorem tu_17 : Cond.selects RX2 yX2_add yX2_add ∈ TB := tbs 17 (by decide +kernel) (by decide)
set_option maxRecDepth 20000 in
theorem tu_18 : Cond.selects RX3 yX3_bestAddition yX3_bestAddition ∈ TB := tbs 18 (by decide +kernel) (by decide)
set_option maxRecDepth 20000 in
theorem tu_19 : Cond.selects RX3 yX3_undoWavesBehind yX3_undoWavesBehind ∈ TB := tbs 19 (by decide +kernel) (by decide)
set_option maxRecDepth 20000 in
theorem tu_20 : Cond.selects RX2 yX2_empty yX2_empty ∈ TB := tbs 20 (by decide +kernel) (by decide)
set_option maxRecDepth 20000 in
theorem tu_21 : Cond.selects RX3 yX3_requireWave yX3_requireWave ∈ TB := tbs 21 (by decide +kernel) (by decide)
set_option maxRecDepth 20000 in
theorem tu_22 : Cond.selects RX3 yX3_secondsOf yX3_secondsOf ∈ TB := tbs 22 (by decide +kernel) (by decide)
set_option maxRecDepth 20000 in
theorem tu_23 : Cond.selects RX3 yX3_dueOf yX3_dueOf ∈ TB := tbs 23 (by decide +kernel) (by decide)
set_option maxRecDepth 20000 in
theorem tu_24 : Cond.selects RX3 yX3_finishedOf yX3_finishedOf ∈ TB := tbs 24 (by decide +kernel) (by decide)
set_option maxRecDepth 20000 in
theorem tu_25 : Cond.selects RX3 yX3_lackedGood yX3_lackedGood ∈ TB := tbs 25 (by decide +kernel) (by decide)
set_option maxRecDepth 20000 in
theorem tu_26 : Cond.selects RX3 yX3_lackOf yX3_lackOf ∈ TB := tbs 26 (by decide +kernel) (by decide)
set_option maxRecDepth 20000 in
theorem tu_27 : Cond.selects RX3 yX3_wantedOf yX3_wantedOf ∈ TB := tbs 27 (by decide +kernel) (by decide)
set_option maxRecDepth 20000 in
theorem tu_28 : Cond.selects RX3 yX3_allFit yX3_allFit ∈ TB := tbs 28 (by decide +kernel) (by decide)
set_option maxRecDepth 20000 in
theorem tu_29 : Cond.selects RX3 yX3_isReleased yX3_isReleased ∈ TB := tbs 29 (by decide +kernel) (by decide)
set_option maxRecDepth 20000 in
theorem tu_30 : Cond.selects RX3 yX3_takeFromStock yX3_takeFromStock ∈ TB := tbs 30 (by decide +kernel) (by decide)
set_option maxRecDepth 20000 in
theorem tu_31 : Cond.selects RX3 yX3_takeOut yX3_takeOut ∈ TB := tbs 31 (by decide +kernel) (by decide)
set_option maxRecDepth 20000 in
theorem tu_32 : Cond.selects RX2 yX2_remove yX2_remove ∈ TB := tbs 32 (by decide +kernel) (by decide)
set_option maxRecDepth 20000 in
theorem tu_33 : Cond.selects RX2 yX2_addAll yX2_addAll ∈ TB := tbs 33 (by decide +kernel) (by decide)
set_option maxRecDepth 20000 in
theorem tu_34 : Cond.selects RX4 yX4_isOrder yX4_isOrder ∈ TB := tbs 34 (by decide +kernel) (by decide)
set_option maxRecDepth 20000 in
theorem tu_35 : Cond.selects RX4 yX4_lines yX4_lines ∈ TB := tbs 35 (by decide +kernel) (by decide)
set_option maxRecDepth 20000 in
theorem tu_36 : Cond.selects RX4 yX4_begin yX4_begin ∈ TB := tbs 36 (by decide +kernel) (by decide)
set_option maxRecDepth 20000 in
theorem tu_37 : Cond.selects RX4 yX4_isOpen yX4_isOpen ∈ TB := tbs 37 (by decide +kernel) (by decide)
set_option maxRecDepth 20000 in
theorem tu_38 : Cond.selects RX4 yX4_fits yX4_fits ∈ TB := tbs 38 (by decide +kernel) (by decide)
set_option maxRecDepth 20000 in
theorem tu_39 : Cond.selects RX4 yX4_isEarlier yX4_isEarlier ∈ TB := tbs 39 (by decide +kernel) (by decide)
set_option maxRecDepth 20000 in
theorem tu_40 : Cond.selects RX4 yX4_put yX4_put ∈ TB := tbs 40 (by decide +kernel) (by decide)
set_option maxRecDepth 20000 in
theorem tu_41 : Cond.selects RX4 yX4_fill yX4_fill ∈ TB := tbs 41 (by decide +kernel) (by decide)
set_option maxRecDepth 20000 in
theorem tu_42 : Cond.selects RX4 yX4_best yX4_best ∈ TB := tbs 42 (by decide +kernel) (by decide)
set_option maxRecDepth 20000 in
theorem tu_43 : Cond.selects RX4 yX4_most yX4_most ∈ TB := tbs 43 (by decide +kernel) (by decide)
set_option maxRecDepth 20000 in
theorem tu_44 : Cond.selects RX4 yX4_saving yX4_saving ∈ TB := tbs 44 (by decide +kernel) (by decide)
set_option maxRecDepth 20000 in
theorem tu_45 : Cond.selects RX4 yX4_isWave yX4_isWave ∈ TB := tbs 45 (by decide +kernel) (by decide)
set_option maxRecDepth 20000 in
theorem tu_46 : Cond.selects RX4 yX4_sizeOf yX4_sizeOf ∈ TB := tbs 46 (by decide +kernel) (by decide)
set_option maxRecDepth 20000 in
theorem tu_47 : Cond.selects RX4 yX4_secondsOf yX4_secondsOf ∈ TB := tbs 47 (by decide +kernel) (by decide)
set_option maxRecDepth 20000 in
theorem tu_48 : Cond.selects RX4 yX4_savedOf yX4_savedOf ∈ TB := tbs 48 (by decide +kernel) (by decide)
set_option maxRecDepth 20000 in
theorem tu_49 : Cond.selects RX4 yX4_savedBy yX4_savedBy ∈ TB := tbs 49 (by decide +kernel) (by decide)
set_option maxRecDepth 20000 in
theorem tu_50 : Cond.selects RX4 yX4_memberAt yX4_memberAt ∈ TB := tbs 50 (by decide +kernel) (by decide)
set_option maxRecDepth 20000 in
theorem tu_51 : Cond.selects RX4 yX4_lackOf yX4_lackOf ∈ TB := tbs 51 (by decide +kernel) (by decide)
set_option maxRecDepth 20000 in
theorem tu_52 : Cond.selects RX4 yX4_wantsOf yX4_wantsOf ∈ TB := tbs 52 (by decide +kernel) (by decide)
def nst : List Cond := [Cond.methodLinkNest RX3 25 yX0_init "WavePlans", Cond.fieldLinkNest RX3 100 "WavePlans$Docks" "size" "I" "WavePlans", Cond.methodLinkNest RX3 40 yX1_init "WavePlans", Cond.fieldLinkNest RX3 67 "WavePlans$Order" "due" "I" "WavePlans", Cond.fieldLinkNest RX3 70 "WavePlans$Order" "zone" "I" "WavePlans", Cond.fieldLinkNest RX3 73 "WavePlans$Order" "seconds" "I" "WavePlans", Cond.fieldLinkNest RX3 97 "WavePlans$Order" "carrier" "I" "WavePlans", Cond.fieldLinkNest RX3 92 "WavePlans$Order" "lines" "I" "WavePlans", Cond.fieldLinkNest RX3 84 "WavePlans$Order" "wanted" "[I" "WavePlans", Cond.fieldLinkNest RX3 128 "WavePlans$Order" "place" "I" "WavePlans", Cond.fieldLinkNest RX3 188 "WavePlans$Order" "finished" "Z" "WavePlans", Cond.fieldLinkNest RX3 244 "WavePlans$Order" "looked" "Z" "WavePlans", Cond.methodLinkNest RX3 47 yX2_init "WavePlans", Cond.fieldLinkNest RX3 164 "WavePlans$Wave" "members" "[I" "WavePlans", Cond.fieldLinkNest RX3 142 "WavePlans$Wave" "size" "I" "WavePlans", Cond.fieldLinkNest RX3 146 "WavePlans$Wave" "carrier" "I" "WavePlans", Cond.fieldLinkNest RX3 147 "WavePlans$Wave" "released" "Z" "WavePlans", Cond.methodLinkNest RX3 267 yX1_savingWith "WavePlans", Cond.castable "java/lang/IllegalArgumentException" "java/lang/IllegalArgumentException", Cond.declares ⟨"java/lang/RuntimeException", "<init>", "()V"⟩, Cond.declares ⟨"java/lang/RuntimeException", "<init>", "(Ljava/lang/String;)V"⟩, Cond.declares ⟨"java/lang/Exception", "<init>", "()V"⟩, Cond.declares ⟨"java/lang/Exception", "<init>", "(Ljava/lang/String;)V"⟩, Cond.declares ⟨"java/lang/Throwable", "<init>", "()V"⟩, Cond.declares ⟨"java/lang/Throwable", "<init>", "(Ljava/lang/String;)V"⟩, Cond.castable "java/lang/UnsupportedOperationException" "java/lang/UnsupportedOperationException", Cond.castable "java/util/NoSuchElementException" "java/util/NoSuchElementException", Cond.castable "java/lang/IllegalStateException" "java/lang/IllegalStateException", Cond.methodLinkNest RX3 105 yX0_open "WavePlans", Cond.methodLinkNest RX3 108 yX0_hoursOf "WavePlans", Cond.methodLinkNest RX3 237 yX0_have "WavePlans", Cond.methodLinkNest RX3 260 yX2_add "WavePlans", Cond.methodLinkNest RX3 207 yX2_empty "WavePlans", Cond.methodLinkNest RX3 241 yX2_remove "WavePlans", Cond.methodLinkNest RX3 210 yX2_addAll "WavePlans"]
def strs : List (Nat × String) := [(225, "a number is outside its range"), (62, "no room for an order"), (233, "no such order"), (229, "the order is not free"), (89, "the order has a line of this good"), (95, "no room for a line"), (103, "no room for an hour"), (123, "no room for the waves"), (235, "no such wave"), (156, "nothing such is told of a wave"), (161, "no such order in the wave"), (227, "a place is below 0"), (231, "the wave is released"), (191, "the order is not in a released wave, or it is done"), (196, "the order is late or done"), (205, "the waves are the same one, or their carriers differ"), (213, "the waves have more seconds than the capacity")]
set_option maxRecDepth 20000 in
theorem nst_in : ∀ w ∈ nst, w ∈ tables_1 := by decide +kernel
set_option maxRecDepth 20000 in
theorem strs_in : ∀ q ∈ strs, Cond.stringRef RX3 q.1 q.2 ∈ tables_1 := by decide +kernel
theorem tn_0 : Cond.methodLinkNest RX3 25 yX0_init "WavePlans" ∈ nst := List.mem_of_getElem? (i := 0) rfl
theorem tn_1 : Cond.fieldLinkNest RX3 100 "WavePlans$Docks" "size" "I" "WavePlans" ∈ nst := List.mem_of_getElem? (i := 1) rfl
theorem tn_2 : Cond.methodLinkNest RX3 40 yX1_init "WavePlans" ∈ nst := List.mem_of_getElem? (i := 2) rfl
theorem tn_3 : Cond.fieldLinkNest RX3 67 "WavePlans$Order" "due" "I" "WavePlans" ∈ nst := List.mem_of_getElem? (i := 3) rfl
theorem tn_4 : Cond.fieldLinkNest RX3 70 "WavePlans$Order" "zone" "I" "WavePlans" ∈ nst := List.mem_of_getElem? (i := 4) rfl
theorem tn_5 : Cond.fieldLinkNest RX3 73 "WavePlans$Order" "seconds" "I" "WavePlans" ∈ nst := List.mem_of_getElem? (i := 5) rfl
theorem tn_6 : Cond.fieldLinkNest RX3 97 "WavePlans$Order" "carrier" "I" "WavePlans" ∈ nst := List.mem_of_getElem? (i := 6) rfl
theorem tn_7 : Cond.fieldLinkNest RX3 92 "WavePlans$Order" "lines" "I" "WavePlans" ∈ nst := List.mem_of_getElem? (i := 7) rfl
theorem tn_8 : Cond.fieldLinkNest RX3 84 "WavePlans$Order" "wanted" "[I" "WavePlans" ∈ nst := List.mem_of_getElem? (i := 8) rfl
theorem tn_9 : Cond.fieldLinkNest RX3 128 "WavePlans$Order" "place" "I" "WavePlans" ∈ nst := List.mem_of_getElem? (i := 9) rfl
theorem tn_10 : Cond.fieldLinkNest RX3 188 "WavePlans$Order" "finished" "Z" "WavePlans" ∈ nst := List.mem_of_getElem? (i := 10) rfl
theorem tn_11 : Cond.fieldLinkNest RX3 244 "WavePlans$Order" "looked" "Z" "WavePlans" ∈ nst := List.mem_of_getElem? (i := 11) rfl
theorem tn_12 : Cond.methodLinkNest RX3 47 yX2_init "WavePlans" ∈ nst := List.mem_of_getElem? (i := 12) rfl
theorem tn_13 : Cond.fieldLinkNest RX3 164 "WavePlans$Wave" "members" "[I" "WavePlans" ∈ nst := List.mem_of_getElem? (i := 13) rfl
theorem tn_14 : Cond.fieldLinkNest RX3 142 "WavePlans$Wave" "size" "I" "WavePlans" ∈ nst := List.mem_of_getElem? (i := 14) rfl
theorem tn_15 : Cond.fieldLinkNest RX3 146 "WavePlans$Wave" "carrier" "I" "WavePlans" ∈ nst := List.mem_of_getElem? (i := 15) rfl
theorem tn_16 : Cond.fieldLinkNest RX3 147 "WavePlans$Wave" "released" "Z" "WavePlans" ∈ nst := List.mem_of_getElem? (i := 16) rfl
theorem tn_17 : Cond.methodLinkNest RX3 267 yX1_savingWith "WavePlans" ∈ nst := List.mem_of_getElem? (i := 17) rfl
theorem tn_18 : Cond.castable "java/lang/IllegalArgumentException" "java/lang/IllegalArgumentException" ∈ nst := List.mem_of_getElem? (i := 18) rfl
theorem tn_19 : Cond.declares ⟨"java/lang/RuntimeException", "<init>", "()V"⟩ ∈ nst := List.mem_of_getElem? (i := 19) rfl
theorem tn_20 : Cond.declares ⟨"java/lang/RuntimeException", "<init>", "(Ljava/lang/String;)V"⟩ ∈ nst := List.mem_of_getElem? (i := 20) rfl
theorem tn_21 : Cond.declares ⟨"java/lang/Exception", "<init>", "()V"⟩ ∈ nst := List.mem_of_getElem? (i := 21) rfl
theorem tn_22 : Cond.declares ⟨"java/lang/Exception", "<init>", "(Ljava/lang/String;)V"⟩ ∈ nst := List.mem_of_getElem? (i := 22) rfl
theorem tn_23 : Cond.declares ⟨"java/lang/Throwable", "<init>", "()V"⟩ ∈ nst := List.mem_of_getElem? (i := 23) rfl
theorem tn_24 : Cond.declares ⟨"java/lang/Throwable", "<init>", "(Ljava/lang/String;)V"⟩ ∈ nst := List.mem_of_getElem? (i := 24) rfl
theorem tn_25 : Cond.castable "java/lang/UnsupportedOperationException" "java/lang/UnsupportedOperationException" ∈ nst := List.mem_of_getElem? (i := 25) rfl
theorem tn_26 : Cond.castable "java/util/NoSuchElementException" "java/util/NoSuchElementException" ∈ nst := List.mem_of_getElem? (i := 26) rfl
theorem tn_27 : Cond.castable "java/lang/IllegalStateException" "java/lang/IllegalStateException" ∈ nst := List.mem_of_getElem? (i := 27) rfl
theorem tn_28 : Cond.methodLinkNest RX3 105 yX0_open "WavePlans" ∈ nst := List.mem_of_getElem? (i := 28) rfl
theorem tn_29 : Cond.methodLinkNest RX3 108 yX0_hoursOf "WavePlans" ∈ nst := List.mem_of_getElem? (i := 29) rfl
theorem tn_30 : Cond.methodLinkNest RX3 237 yX0_have "WavePlans" ∈ nst := List.mem_of_getElem? (i := 30) rfl
theorem tn_31 : Cond.methodLinkNest RX3 260 yX2_add "WavePlans" ∈ nst := List.mem_of_getElem? (i := 31) rfl
theorem tn_32 : Cond.methodLinkNest RX3 207 yX2_empty "WavePlans" ∈ nst := List.mem_of_getElem? (i := 32) rfl
theorem tn_33 : Cond.methodLinkNest RX3 241 yX2_remove "WavePlans" ∈ nst := List.mem_of_getElem? (i := 33) rfl
theorem tn_34 : Cond.methodLinkNest RX3 210 yX2_addAll "WavePlans" ∈ nst := List.mem_of_getElem? (i := 34) rfl
end
section
/-! ===== the state and the world: 92 cells that stand at fixed places; every int of them by its place and slot ===== -/
abbrev St : Type := Nat → Nat → Int32
def up2 (σ : St) (p k : Nat) (v : Int32) : St := fun q => if q = p then upd (σ p) k v else σ q
/-- classes and slots, array classes, the address of each place, what may be written -/
abbrev GT : Type := va_G × (Nat → ClassId) × (Nat → Nat) × (Nat → Prop)
abbrev gD (G : GT) : va_G := G.1
abbrev gC (G : GT) : Nat → ClassId := G.2.1
abbrev gA (G : GT) : Nat → Nat := G.2.2.1
abbrev gF (G : GT) : Nat → Prop := G.2.2.2
/-- what stands at a place: 0 Docks, 1 Order, 2 Wave, 3 WavePlans, 4 Model, 5 int[], 6 boolean[], 7 Order[], 8 Wave[], 9 long[] -/
def kd (p : Nat) : Nat := if p = 0 then 3 else if p = 1 then 0 else if p < 6 then 5 else if p = 6 then 7 else if p = 7 then 8 else if p = 8 then 4 else if p < 25 then (if p = 15 ∨ p = 20 ∨ p = 24 then 6 else 5) else if p = 25 then 9 else if p < 58 then (if p % 2 = 0 then 1 else 5) else if p < 92 then (if p % 2 = 0 then 2 else 5) else 99
/-- how long the array at a place is -/
def ln (p : Nat) : Nat := if p < 6 then 10 else if p < 16 then 16 else if p = 16 then 160 else if p < 20 then 10 else if p = 20 then 17 else if p = 21 then 10 else if p < 25 then 16 else if p < 58 then 10 else 16
def wcell (G : GT) (lo : Nat → Int64) (σ : St) (p : Nat) : va_E :=
  if kd p = 0 then .inr (0, [.ref (gA G 2), .ref (gA G 3), .ref (gA G 4), .int (σ p 3)])
  else if kd p = 1 then .inr (1, [.int (σ p 0), .int (σ p 1), .int (σ p 2), .int (σ p 3), .int (σ p 4), .ref (gA G (p + 1)), .int (σ p 6), .int (σ p 7), .int (σ p 8)])
  else if kd p = 2 then .inr (2, [.ref (gA G (p + 1)), .int (σ p 1), .int (σ p 2), .int (σ p 3)])
  else if kd p = 3 then .inr (3, [.int (σ p 0), .ref (gA G 1), .ref (gA G 5), .ref (gA G 6), .int (σ p 4), .ref (gA G 7), .int (σ p 6), .ref (gA G 90)])
  else if kd p = 4 then .inr (4, [.int (σ p 0), .int (σ p 1), .int (σ p 2), .ref (gA G 9), .ref (gA G 10), .ref (gA G 11), .ref (gA G 12), .ref (gA G 13), .ref (gA G 14), .ref (gA G 15), .ref (gA G 16), .int (σ p 11), .int (σ p 12), .ref (gA G 17), .ref (gA G 18), .ref (gA G 19), .int (σ p 16), .ref (gA G 20), .ref (gA G 21), .ref (gA G 22), .ref (gA G 23), .ref (gA G 24)])
  else if kd p = 5 then .inl (gC G 0, ln p, .inl (σ p))
  else if kd p = 6 then .inl (gC G 1, ln p, .inl (σ p))
  else if kd p = 7 then .inl (gC G 2, 16, .inr (.inr (.inr (.inr (fun i => some (gA G (26 + 2 * i)))))))
  else if kd p = 8 then .inl (gC G 3, 16, .inr (.inr (.inr (.inr (fun i => some (gA G (58 + 2 * i)))))))
  else .inl (gC G 4, 1, .inr (.inl lo))
section
variable {G : GT} {lo : Nat → Int64} {σ : St} {p : Nat}
theorem wc0 (h : kd p = 0) : wcell G lo σ p = .inr (0, [.ref (gA G 2), .ref (gA G 3), .ref (gA G 4), .int (σ p 3)]) := by simp [wcell, h]
theorem wc1 (h : kd p = 1) : wcell G lo σ p = .inr (1, [.int (σ p 0), .int (σ p 1), .int (σ p 2), .int (σ p 3), .int (σ p 4), .ref (gA G (p + 1)), .int (σ p 6), .int (σ p 7), .int (σ p 8)]) := by simp [wcell, h]
theorem wc2 (h : kd p = 2) : wcell G lo σ p = .inr (2, [.ref (gA G (p + 1)), .int (σ p 1), .int (σ p 2), .int (σ p 3)]) := by simp [wcell, h]
theorem wc3 (h : kd p = 3) : wcell G lo σ p = .inr (3, [.int (σ p 0), .ref (gA G 1), .ref (gA G 5), .ref (gA G 6), .int (σ p 4), .ref (gA G 7), .int (σ p 6), .ref (gA G 90)]) := by simp [wcell, h]
theorem wc4 (h : kd p = 4) : wcell G lo σ p = .inr (4, [.int (σ p 0), .int (σ p 1), .int (σ p 2), .ref (gA G 9), .ref (gA G 10), .ref (gA G 11), .ref (gA G 12), .ref (gA G 13), .ref (gA G 14), .ref (gA G 15), .ref (gA G 16), .int (σ p 11), .int (σ p 12), .ref (gA G 17), .ref (gA G 18), .ref (gA G 19), .int (σ p 16), .ref (gA G 20), .ref (gA G 21), .ref (gA G 22), .ref (gA G 23), .ref (gA G 24)]) := by simp [wcell, h]
theorem wc5 (h : kd p = 5) : wcell G lo σ p = .inl (gC G 0, ln p, .inl (σ p)) := by simp [wcell, h]
theorem wc6 (h : kd p = 6) : wcell G lo σ p = .inl (gC G 1, ln p, .inl (σ p)) := by simp [wcell, h]
theorem wc7 (h : kd p = 7) : wcell G lo σ p = .inl (gC G 2, 16, .inr (.inr (.inr (.inr (fun i => some (gA G (26 + 2 * i))))))) := by simp [wcell, h]
theorem wc8 (h : kd p = 8) : wcell G lo σ p = .inl (gC G 3, 16, .inr (.inr (.inr (.inr (fun i => some (gA G (58 + 2 * i))))))) := by simp [wcell, h]
theorem wc9 (h : kd p = 9) : wcell G lo σ p = .inl (gC G 4, 1, .inr (.inl lo)) := by simp [wcell, h]
end
theorem kd_lt {p : Nat} (h : kd p ≠ 99) : p < 92 := by
  rcases Nat.lt_or_ge p 92 with q | q
  · exact q
  · exact absurd (by unfold kd; simp [show ¬ p = 0 by omega, show ¬ p = 1 by omega, show ¬ p < 6 by omega, show ¬ p = 6 by omega, show ¬ p = 7 by omega, show ¬ p = 8 by omega, show ¬ p < 25 by omega, show ¬ p = 25 by omega, show ¬ p < 58 by omega, show ¬ p < 92 by omega]) h
theorem kd_k {p k : Nat} (h : kd p = k) (hk : k ≠ 99) : p < 92 := kd_lt (by rw [h]; exact hk)
theorem kd_ord {i : Int32} (h : ¬ (i < 0 ∨ 16 ≤ i.toNatClampNeg)) : kd (26 + 2 * i.toNatClampNeg) = 1 := by
  have h2 : i.toNatClampNeg < 16 := Nat.not_le.mp fun q => h (Or.inr q)
  generalize i.toNatClampNeg = n at h2
  unfold kd
  simp [show ¬ (26 + 2 * n = 0) by omega, show ¬ (26 + 2 * n = 1) by omega, show ¬ (26 + 2 * n < 6) by omega, show ¬ (26 + 2 * n = 6) by omega, show ¬ (26 + 2 * n = 7) by omega, show ¬ (26 + 2 * n = 8) by omega, show ¬ (26 + 2 * n < 25) by omega, show ¬ (26 + 2 * n = 25) by omega, show 26 + 2 * n < 58 by omega]
theorem kd_wav {i : Int32} (h : ¬ (i < 0 ∨ 16 ≤ i.toNatClampNeg)) : kd (58 + 2 * i.toNatClampNeg) = 2 := by
  have h2 : i.toNatClampNeg < 16 := Nat.not_le.mp fun q => h (Or.inr q)
  generalize i.toNatClampNeg = n at h2
  unfold kd
  simp [show ¬ (58 + 2 * n = 0) by omega, show ¬ (58 + 2 * n = 1) by omega, show ¬ (58 + 2 * n < 6) by omega, show ¬ (58 + 2 * n = 6) by omega, show ¬ (58 + 2 * n = 7) by omega, show ¬ (58 + 2 * n = 8) by omega, show ¬ (58 + 2 * n < 25) by omega, show ¬ (58 + 2 * n = 25) by omega, show ¬ (58 + 2 * n < 58) by omega, show 58 + 2 * n < 92 by omega]
theorem kd_ordA : ∀ p : Nat, kd p = 1 → kd (p + 1) = 5 ∧ ln (p + 1) = 10 := by
  intro p h
  have hp := kd_k h (by decide)
  have : ∀ p, p < 92 → kd p = 1 → kd (p + 1) = 5 ∧ ln (p + 1) = 10 := by decide +kernel
  exact this p hp h
theorem kd_wavA : ∀ p : Nat, kd p = 2 → kd (p + 1) = 5 ∧ ln (p + 1) = 16 := by
  intro p h
  have hp := kd_k h (by decide)
  have : ∀ p, p < 92 → kd p = 2 → kd (p + 1) = 5 ∧ ln (p + 1) = 16 := by decide +kernel
  exact this p hp h
def wld (G : GT) (lo : Nat → Int64) (σ : St) : va_W := (List.range 92).map (fun p => (gA G p, wcell G lo σ p))
theorem wld_at {G : GT} {lo : Nat → Int64} {σ : St} {p : Nat} (h : p < 92) : (wld G lo σ)[p]? = some (gA G p, wcell G lo σ p) := by
  simp [wld, List.getElem?_map, List.getElem?_range h]
theorem wld_none {G : GT} {lo : Nat → Int64} {σ : St} {p : Nat} (h : 92 ≤ p) : (wld G lo σ)[p]? = none := by
  simp [wld, h]
theorem wld_set {G : GT} {lo lo' : Nat → Int64} {σ σ' : St} {p : Nat} {e : va_E} (h : p < 92) (he : wcell G lo' σ' p = e) (ho : ∀ q, q ≠ p → wcell G lo' σ' q = wcell G lo σ q) : (wld G lo σ).set p (gA G p, e) = wld G lo' σ' := by
  apply List.ext_getElem?
  intro i
  rw [List.getElem?_set]
  have hl : (wld G lo σ).length = 92 := by simp [wld]
  by_cases hi : p = i
  · subst hi
    rw [if_pos rfl, if_pos (by rw [hl]; exact h), wld_at h, he]
  · rw [if_neg hi]
    rcases Nat.lt_or_ge i 92 with q | q
    · rw [wld_at q, wld_at q, ho i (fun z => hi z.symm)]
    · rw [wld_none q, wld_none q]
theorem up2_ne {σ : St} {p k q : Nat} {v : Int32} (h : q ≠ p) : up2 σ p k v q = σ q := by simp [up2, h]
theorem up2_eq {σ : St} {p k : Nat} {v : Int32} : up2 σ p k v p = upd (σ p) k v := by simp [up2]
theorem wcell_ne {G : GT} {lo : Nat → Int64} {σ : St} {p k q : Nat} {v : Int32} (h : q ≠ p) : wcell G lo (up2 σ p k v) q = wcell G lo σ q := by
  simp only [wcell, up2_ne h]
def tyG (G : GT) : List (ClassId × FieldType) := [(gC G 0, .int), (gC G 1, .boolean), (gC G 2, .object RX1), (gC G 3, .object RX2), (gC G 4, .long)]
/-- what a method is told beside the world: places apart and free to write; classes; words on nest mates; texts; two statics of Throwable -/
def Cx (G : GT) (U : State) : Prop := ((∀ i j : Nat, i < 92 → j < 92 → gA G i = gA G j → i = j) ∧ ∀ i : Nat, i < 92 → gF G (gA G i)) ∧ va_K (gD G) vwCl (tyG G) U ∧ (∀ w ∈ nst, va_Nw w U) ∧ (∀ q ∈ strs, ∃ sa : Nat, vk_R RX3 q.1 q.2 sa U) ∧ vx_Zq Bundle.tN "UNASSIGNED_STACK" Bundle.steD (gF G) U U.heap ∧ vx_Zq Bundle.tN "SUPPRESSED_SENTINEL" Bundle.listD (gF G) U U.heap
theorem Cx.apart {G : GT} {U : State} (h : Cx G U) {lo : Nat → Int64} {σ : St} : va_D (gF G) (wld G lo σ) := by
  refine ⟨fun i j p q hi hj he => ?_, fun k q hk => ?_⟩
  · rcases Nat.lt_or_ge i 92 with a | a
    · rcases Nat.lt_or_ge j 92 with b | b
      · rw [wld_at a] at hi
        rw [wld_at b] at hj
        cases hi; cases hj
        exact h.1.1 i j a b he
      · rw [wld_none b] at hj; cases hj
    · rw [wld_none a] at hi; cases hi
  · rcases Nat.lt_or_ge k 92 with a | a
    · rw [wld_at a] at hk
      cases hk
      exact h.1.2 k a
    · rw [wld_none a] at hk; cases hk
def nstOk : Cond → Bool
  | .fieldLinkNest .. => true
  | .methodLinkNest .. => true
  | .castable .. => true
  | .declares .. => true
  | _ => false
theorem nst_ok : ∀ w ∈ nst, nstOk w = true := by decide +kernel
theorem nst_warm {s U : State} (hW : s.WarmedH U.vm) (w : Cond) (hk : nstOk w = true) (h : va_Nw w s) : va_Nw w U := by
  match w, hk, h with
  | .fieldLinkNest a i b n d h, _, hz => exact va_Nw.warmF hW hz
  | .methodLinkNest a i x h, _, hz => exact va_Nw.warmM hW hz
  | .castable a b, _, hz => exact va_Nw.warmC hW hz
  | .declares x, _, hz => exact va_Nw.warmD hW hz
theorem Cx.to {G : GT} {s U : State} {H : Heap} {locs : List Loc} (h : Cx G s) (hW : s.WarmedH U.vm) (hS : va_S (gF G) s.heap H locs) (hU : U.heap = H) : Cx G U := by
  obtain ⟨h1, h2, h3, h4, h5, h6⟩ := h
  refine ⟨h1, va_K.moved hW.alike h2, fun w hw => nst_warm hW w (nst_ok w hw) (h3 w hw), fun q hq => ?_, ?_, ?_⟩
  · obtain ⟨sa, hs⟩ := h4 q hq
    exact ⟨sa, vk_R.warm hW hs⟩
  · rw [hU]; exact vx_Zq.moved hW.alike (h5.kept hS.2.1)
  · rw [hU]; exact vx_Zq.moved hW.alike (h6.kept hS.2.1)
theorem Cx.blind {G : GT} {U : State} (h : Cx G U) (g : JFrame) (mk : MethodId) (a : Array Value) : Cx G (U.calling g mk a) :=
  h.to (H := U.heap) (locs := []) (State.WarmedH.refl U) va_S.rf rfl
theorem nst_tab : ∀ w ∈ nst, w.onTables = true := by decide +kernel
end
section
/-! ===== contracts of one form: the outcome and the state behind it, said exactly ===== -/
/-- returned nothing, an int, a reference to a place; or thrown, by the class -/
abbrev RV : Type := Option (Int32 ⊕ Nat) ⊕ String
def cv (G : GT) (x : Int32 ⊕ Nat) : Value := match x with
  | .inl i => .int i
  | .inr q => .ref (gA G q)
def QCr (G : GT) (lo : Nat → Int64) (r : RV × St) : Array Value → State → Outcome → State → Prop := fun _ st oc t => ∃ v : Option (Int32 ⊕ Nat), r.1 = .inl v ∧ oc = .returned (v.map (cv G)) ∧ va_P (gD G) vwCl (wld G lo r.2) t.heap ∧ va_F (gF G) st t
def XCr (G : GT) (lo : Nat → Int64) (r : RV × St) : String → State → State → Prop := fun E st t => r.1 = .inr E ∧ va_P (gD G) vwCl (wld G lo r.2) t.heap ∧ va_F (gF G) st t
def PWr (G : GT) (lo : Nat → Int64) (vs : List (Int32 ⊕ Nat)) (σ : St) : Array Value → State → Prop := va_Pc (vs.map (cv G)) (fun U => va_P (gD G) vwCl (wld G lo σ) U.heap ∧ Cx G U)
abbrev RM (fr wl mc ms : Nat) : Room := { frames := fr, cells := mc, slots := ms, locals := wl }
def MC (l : Launch) (G : GT) (y : MethodName) (cc : ByteArray) (maxL : Nat) (ret : Option FieldType) (fr wl mc ms : Nat) (vs : List (Int32 ⊕ Nat)) (σ : St) (r : RV × St) : Prop :=
  l.stackTraces = false → ∀ lo : Nat → Int64, vx_Met l y (Cond.code y cc maxL ret :: TB) (RM fr wl mc ms) (PWr G lo vs σ) (QCr G lo r) (XCr G lo r) mc ms (gF G)
/-- what a body knows of the machine and of its method -/
def Fx (p : Program) (l : Launch) (s : State) (args : Array Value) (m : MethodId) (meth : Method) (c : Code) (G : GT) (cc : ByteArray) (nL : Nat) (ret : Option FieldType) (own : String) : Prop :=
  p.tables.exec = Jvm.exec ∧ c.code = cc ∧ meth.sig.returnType = ret ∧ c.maxLocals = nL ∧ s.vm.findClass own = some m.cls ∧ (∀ w ∈ TB, w.before args s = true) ∧ meth.locks = false ∧ Cx G s ∧ (∀ x ∈ c.exceptionTable.toList, False) ∧ l.stackTraces = false
theorem xbody {l : Launch} {G : GT} {y : MethodName} {cc : ByteArray} {maxL : Nat} {ret : Option FieldType} {fr wl mc ms : Nat} {vs : List (Int32 ⊕ Nat)} {σ : St} {r : RV × St} (hy : plainName y.cls = true) (hn : (lg_sl (vs.map (cv G))).length ≤ maxL)
    (body : ∀ (lo : Nat → Int64) (p : Program) (e : Env) (s : State) (m : MethodId) (args : Array Value) (below : List Frame) (meth : Method) (c : Code), Fx p l s args m meth c G cc maxL ret y.cls → va_P (gD G) vwCl (wld G lo σ) s.heap → ∀ ls : Array Slot, lv_has ls maxL (lv_args 0 (vs.map (cv G))) →
      W p l e (RM fr wl mc ms) s m args below meth c s.heap [] 0 0 (vx_MQ below (QCr G lo r) (XCr G lo r) args s mc ms (gF G)) (F0 m 0 ls [])) : MC l G y cc maxL ret fr wl mc ms vs σ r := by
  intro hst lo
  refine vx_ofW (cc := cc) (maxL := maxL) (ret := ret) hy rfl ?_
  intro p e s m args below meth c s₁ B hml htab hv
  obtain ⟨rfl, hP, hC⟩ := hv
  have hts := atoms_spec (ws := Cond.code y cc maxL ret :: TB) B.pre
  have hown : s.vm.findClass y.cls = some m.cls := findClass_of_methodNamed B.named
  have hl := lv_entry (vs.map (cv G)) (n := maxL) hn
  rw [lg_entry_eq]
  exact body lo p e s m _ below meth c ⟨B.exec, B.bytes, B.returns, hml, hown, fun w h => hts w (List.mem_cons_of_mem _ h), B.notSynchronized, hC, htab, hst⟩ hP _ hl
theorem gTB {y : MethodName} {cc : ByteArray} {maxL : Nat} {ret : Option FieldType} (h : Cond.code y cc maxL ret ∈ TB) : GoodIn TB (Cond.code y cc maxL ret :: TB) := by
  intro w hw
  rcases List.mem_cons.mp hw with e | e
  · subst e; exact ⟨h, good_of_word (List.mem_filter.mp h).2⟩
  · exact ⟨e, good_of_word (List.mem_filter.mp e).2⟩
theorem xmet {l : Launch} {y : MethodName} {ws : List Cond} {rm : Room} {Pc : Array Value → State → Prop} {G : GT} {lo : Nat → Int64} {r : RV × St} {v : Option (Int32 ⊕ Nat)} {mc ms : Nat} {free : Addr → Prop} (h : vx_Met l y ws rm Pc (QCr G lo r) (XCr G lo r) mc ms free) (hr : r.1 = .inl v) : Met l y ws rm Pc (QCr G lo r) mc ms free := by
  intro p e a1 a2 a3 s m args below f1 f2 f3 f4
  obtain ⟨n, o, h1, h2, h3, h4⟩ := h p e a1 a2 a3 s m args below f1 f2 f3 f4
  refine ⟨n, o, h1, h2, h3, ?_⟩
  rcases h4 with h4 | ⟨q, -, E, ce, L, hx, -⟩
  · exact h4
  · have := hx.1
    rw [hr] at this
    cases this
section
variable {p : Program} {l : Launch} {e : Env} {R : Room} {s : State} {m : MethodId} {args : Array Value} {below : List Frame} {meth : Method} {c : Code} {H : Heap} {locs : List Loc} {cells slots : Nat} {Q : State → Prop}
variable {cc : ByteArray} {nL : Nat} {ret : Option FieldType} {own : String} {pc : Nat} {ls : Array Slot} {rest st0 : List Value} {G : GT} {lo : Nat → Int64} {σ : St} {r : RV × St} {mc ms : Nat}
/-! ends -/
theorem xir (F : Fx p l s args m meth c G cc nL (some .int) own) {v : Int32} (hP : va_P (gD G) vwCl (wld G lo σ) H) (hS : va_S (gF G) s.heap H locs) (hr : r = (.inl (some (.inl v)), σ)) (hc : cells ≤ mc) (hs : slots ≤ ms) (hdg : decode cc pc = .ok (.ireturn, 1)) :
    W p l e R s m args below meth c H locs cells slots (vx_MQ below (QCr G lo r) (XCr G lo r) args s mc ms (gF G)) (F0 m pc ls [.int v]) := by
  subst hr
  obtain ⟨hx, hb, hrt, hml, hown, hts, hlocks, hC, htab, hst⟩ := F
  refine W.widen (k := mc) (n := ms) hc hs (vx_ret ?_)
  exact W.iret hx hb hrt (fun t ht _ => ⟨some (.inl v), rfl, rfl, by rw [ht]; exact hP, hS.F ht⟩) hS.2.2 hdg hlocks
theorem xzr (F : Fx p l s args m meth c G cc nL (some .boolean) own) {v : Int32} (hP : va_P (gD G) vwCl (wld G lo σ) H) (hS : va_S (gF G) s.heap H locs) (hn : narrow .boolean (.int v) = .int v) (hr : r = (.inl (some (.inl v)), σ)) (hc : cells ≤ mc) (hs : slots ≤ ms) (hdg : decode cc pc = .ok (.ireturn, 1)) :
    W p l e R s m args below meth c H locs cells slots (vx_MQ below (QCr G lo r) (XCr G lo r) args s mc ms (gF G)) (F0 m pc ls [.int v]) := by
  subst hr
  obtain ⟨hx, hb, hrt, hml, hown, hts, hlocks, hC, htab, hst⟩ := F
  refine W.widen (k := mc) (n := ms) hc hs (vx_ret ?_)
  exact W.zret hx hb hrt hn (fun t ht _ => ⟨some (.inl v), rfl, rfl, by rw [ht]; exact hP, hS.F ht⟩) hS.2.2 hdg hlocks
theorem xvr (F : Fx p l s args m meth c G cc nL none own) (hP : va_P (gD G) vwCl (wld G lo σ) H) (hS : va_S (gF G) s.heap H locs) (hr : r = (.inl none, σ)) (hc : cells ≤ mc) (hs : slots ≤ ms) (hdg : decode cc pc = .ok (.return_, 1)) :
    W p l e R s m args below meth c H locs cells slots (vx_MQ below (QCr G lo r) (XCr G lo r) args s mc ms (gF G)) (F0 m pc ls []) := by
  subst hr
  obtain ⟨hx, hb, hrt, hml, hown, hts, hlocks, hC, htab, hst⟩ := F
  refine W.widen (k := mc) (n := ms) hc hs (vx_ret ?_)
  exact W.vret hx hb hrt (fun t ht _ => ⟨none, rfl, rfl, by rw [ht]; exact hP, hS.F ht⟩) hS.2.2 hdg hlocks
theorem xar {C : String} (F : Fx p l s args m meth c G cc nL (some (.object C)) own) {q : Nat} (hP : va_P (gD G) vwCl (wld G lo σ) H) (hS : va_S (gF G) s.heap H locs) (hr : r = (.inl (some (.inr q)), σ)) (hc : cells ≤ mc) (hs : slots ≤ ms) (hdg : decode cc pc = .ok (.areturn, 1)) :
    W p l e R s m args below meth c H locs cells slots (vx_MQ below (QCr G lo r) (XCr G lo r) args s mc ms (gF G)) (F0 m pc ls [.ref (gA G q)]) := by
  subst hr
  obtain ⟨hx, hb, hrt, hml, hown, hts, hlocks, hC, htab, hst⟩ := F
  refine W.widen (k := mc) (n := ms) hc hs (vx_ret ?_)
  exact W.aret hx hb hrt (Or.inl ⟨_, rfl⟩) (Or.inr ⟨_, rfl⟩) (fun t ht _ => ⟨some (.inr q), rfl, rfl, by rw [ht]; exact hP, hS.F ht⟩) hS.2.2 hdg hlocks
/-- a callee has thrown: it goes on to the caller -/
theorem xto (F : Fx p l s args m meth c G cc nL ret own) {E : String} {ce : Cell} {q : Addr} (hP : va_P (gD G) vwCl (wld G lo σ) H) (hS : va_S (gF G) s.heap H locs) (hr : r = (.inr E, σ)) (hc : cells ≤ mc) (hs : slots ≤ ms) (hcell : H[q]? = some ce) (hv : ce.vm = .none) (hcl : s.vm.findClass E = some ce.cls) :
    vx_W p l e R s m args below meth c H locs cells slots (vx_MQ below (QCr G lo r) (XCr G lo r) args s mc ms (gF G)) (F0 m pc ls rest) q := by
  subst hr
  obtain ⟨hx, hb, hrt, hml, hown, hts, hlocks, hC, htab, hst⟩ := F
  exact vx_out (fun x h => (htab x h).elim) hlocks hcell hv hcl (fun t ht _ => ⟨rfl, by rw [ht]; exact hP, hS.F ht⟩) hS.2.2 hc hs
/-- 'throw new E("text")' -/
theorem xthr (F : Fx p l s args m meth c G cc nL ret RX3) {cls text : String} {ik is ic : Nat} (hP : va_P (gD G) vwCl (wld G lo σ) H) (hS : va_S (gF G) s.heap H locs) (hr : r = (.inr cls, σ)) (hc : cells + 1 ≤ mc) (hs : slots + 6 ≤ ms) (hsize : ls.size = nL)
    (hcls : Bundle.fit cls = true) (hk : Cond.classLink RX3 ik cls ∈ TB) (hini : Cond.initialized cls ∈ TB) (hstr : (is, text) ∈ strs) (h1 : ∀ w ∈ (vx_atS RX3 ic cls ["java/lang/RuntimeException", "java/lang/Exception"]).filter goodWord, w ∈ TB) (h2 : ∀ w ∈ (vx_atS RX3 ic cls ["java/lang/RuntimeException", "java/lang/Exception"]).filter (fun w => !goodWord w), w ∈ nst)
    (hgood : ∀ w ∈ Cond.classLink RX3 ik cls :: Cond.initialized cls :: vx_atS RX3 ic cls ["java/lang/RuntimeException", "java/lang/Exception"], vx_ot w = true)
    (d0 : decode cc pc = .ok (.new ik, 3)) (d3 : decode cc (pc + 3) = .ok (.dup, 1)) (d4 : decode cc (pc + 4) = .ok (.ldc is, 2)) (d6 : decode cc (pc + 6) = .ok (.invokespecial ic, 3)) (d9 : decode cc (pc + 9) = .ok (.athrow, 1))
    (hR : 5 < R.frames) (hR2 : (rest.map fun v => v.category).sum + 82 ≤ R.locals) (hR3 : cells + 1 ≤ R.cells) (hR4 : slots + 6 ≤ R.slots) :
    W p l e R s m args below meth c H locs cells slots (vx_MQ below (QCr G lo r) (XCr G lo r) args s mc ms (gF G)) (F0 m pc ls rest) := by
  subst hr
  obtain ⟨hx, hb, hrt, hml, hown, hts, hlocks, hC, htab, hst⟩ := F
  obtain ⟨sa, hsa⟩ := hC.2.2.2.1 _ hstr
  refine vx_throwS (names := ["java/lang/RuntimeException", "java/lang/Exception"]) hx hb hst hown hcls (by decide +kernel) (hts _ hk) (hts _ hini) hsa (vx_hat (fun w hw => hts w (h1 w hw)) h2 (fun w hw => va_Nw.use (nst_tab w hw) (hC.2.2.1 w hw))) hgood hC.2.2.2.2.1 hC.2.2.2.2.2 hS (hsize.trans hml.symm) d0 d3 d4 d6 d9 (fun x h => (htab x h).elim) hR hR2 hR3 hR4 hlocks ?_ hS.2.2 hc hs
  intro t hal hz hk2
  refine ⟨rfl, hP.kept (fun k q hq => hk2 q.1 (hP k q hq).lt), ?_, fun q hq hn => ?_⟩
  · exact Nat.le_trans hS.1 hz
  · rw [hk2 q (Nat.lt_of_lt_of_le hq hS.1)]; exact hS.2.1 q hq hn
/-- 'throw new NoSuchElementException("text")': its constructor links RuntimeException's by another number than the library's rows say -/
theorem xthrN (F : Fx p l s args m meth c G cc nL ret RX3) {text : String} {ik is : Nat} (hP : va_P (gD G) vwCl (wld G lo σ) H) (hS : va_S (gF G) s.heap H locs) (hr : r = (.inr "java/util/NoSuchElementException", σ)) (hc : cells + 1 ≤ mc) (hs : slots + 6 ≤ ms) (hsize : ls.size = nL)
    (hk : Cond.classLink RX3 ik "java/util/NoSuchElementException" ∈ TB) (hstr : (is, text) ∈ strs)
    (d0 : decode cc pc = .ok (.new ik, 3)) (d3 : decode cc (pc + 3) = .ok (.dup, 1)) (d4 : decode cc (pc + 4) = .ok (.ldc is, 2)) (d6 : decode cc (pc + 6) = .ok (.invokespecial 163, 3)) (d9 : decode cc (pc + 9) = .ok (.athrow, 1))
    (hR : 5 < R.frames) (hR2 : (rest.map fun v => v.category).sum + 82 ≤ R.locals) (hR3 : cells + 1 ≤ R.cells) (hR4 : slots + 6 ≤ R.slots) :
    W p l e R s m args below meth c H locs cells slots (vx_MQ below (QCr G lo r) (XCr G lo r) args s mc ms (gF G)) (F0 m pc ls rest) := by
  sorry
/-! fields -/
theorem xg (F : Fx p l s args m meth c G cc nL ret own) {ref C : String} {T : u_T} {N ci index q : Nat} {fs : List Value} {v : Value} (k : Nat) (hin : ∀ w ∈ u_ws C T N, w ∈ TB) (hP : va_P (gD G) vwCl (wld G lo σ) H) (hq : q < 92) (he : wcell G lo σ q = .inr (ci, fs)) (hc : vwCl[ci]? = some (C, T, N)) (hk : k < N) (hlink : Cond.fieldLink own index ref (T k).2.1 (T k).2.2.1 ∈ TB) (hsame : (T k).1 = ref) (hv : fs[k]? = some v) (hdg : decode cc pc = .ok (.getfield index, 3))
    (kk : W p l e R s m args below meth c H locs cells slots Q (F0 m (pc + 3) ls (v :: rest))) : W p l e R s m args below meth c H locs cells slots Q (F0 m pc ls (.ref (gA G q) :: rest)) := by
  obtain ⟨hx, hb, hrt, hml, hown, hts, hlocks, hC, htab, hst⟩ := F
  exact va_get hx hb hts hin hown hC.2.1 hP q (by rw [wld_at hq, he]) hc k hk (hts _ hlink) (fun x h => by rw [← hsame]; exact h) hv hdg kk
theorem xgN (F : Fx p l s args m meth c G cc nL ret own) {ref C host : String} {T : u_T} {N ci index q : Nat} {fs : List Value} {v : Value} (k : Nat) (hin : ∀ w ∈ u_ws C T N, w ∈ TB) (hP : va_P (gD G) vwCl (wld G lo σ) H) (hq : q < 92) (he : wcell G lo σ q = .inr (ci, fs)) (hc : vwCl[ci]? = some (C, T, N)) (hk : k < N) (hlink : Cond.fieldLinkNest own index ref (T k).2.1 (T k).2.2.1 host ∈ nst) (hsame : (T k).1 = ref) (hv : fs[k]? = some v) (hdg : decode cc pc = .ok (.getfield index, 3))
    (kk : W p l e R s m args below meth c H locs cells slots Q (F0 m (pc + 3) ls (v :: rest))) : W p l e R s m args below meth c H locs cells slots Q (F0 m pc ls (.ref (gA G q) :: rest)) := by
  obtain ⟨hx, hb, hrt, hml, hown, hts, hlocks, hC, htab, hst⟩ := F
  exact va_getN hx hb hts hin hown hC.2.1 hP q (by rw [wld_at hq, he]) hc k hk (va_Nw.use rfl (hC.2.2.1 _ hlink)) (fun x h => by rw [← hsame]; exact h) hv hdg kk
theorem xp (F : Fx p l s args m meth c G cc nL ret own) {ref C : String} {T : u_T} {N ci index q : Nat} {fs : List Value} {v : Int32} {ty : FieldType} {ty0 : Nat → FieldType} (k : Nat) (hin : ∀ w ∈ u_ws C T N, w ∈ TB) (hty : ∀ k, k < N → parseFieldDescriptor (T k).2.2.1 = some (ty0 k)) (hnm : ∀ a, a < N → ∀ b, b < N → a ≠ b → (T a).2.1 ≠ (T b).2.1) (hP : va_P (gD G) vwCl (wld G lo σ) H) (hS : va_S (gF G) s.heap H locs) (hq : q < 92) (he : wcell G lo σ q = .inr (ci, fs)) (he2 : wcell G lo (up2 σ q k v) q = .inr (ci, fs.set k (.int v))) (hc : vwCl[ci]? = some (C, T, N)) (hk : k < N) (hlink : Cond.fieldLink own index ref (T k).2.1 (T k).2.2.1 ∈ TB) (hsame : (T k).1 = ref) (hfin : (T k).2.2.2 = false) (hd : ty0 k = ty) (hn : narrow ty (.int v) = .int v) (hfit : fits ty (.int v) = true) (hl : k < fs.length) (hdg : decode cc pc = .ok (.putfield index, 3))
    (kk : ∀ (H1 : Heap) (locs1 : List Loc), va_P (gD G) vwCl (wld G lo (up2 σ q k v)) H1 → va_S (gF G) s.heap H1 locs1 → W p l e R s m args below meth c H1 locs1 cells slots Q (F0 m (pc + 3) ls rest)) : W p l e R s m args below meth c H locs cells slots Q (F0 m pc ls (.int v :: .ref (gA G q) :: rest)) := by
  obtain ⟨hx, hb, hrt, hml, hown, hts, hlocks, hC, htab, hst⟩ := F
  refine va_put hx hb hts hin ty0 hty hnm hown hC.2.1 hP hC.apart hS q (by rw [wld_at hq, he]) hc k hk (hts _ hlink) (fun x h => by rw [← hsame]; exact h) hfin (by rw [hty k hk, hd]) hn hfit hl hdg (fun H1 locs1 hP1 _ hS1 => ?_)
  rw [wld_set hq he2 (fun z hz => wcell_ne hz)] at hP1
  exact kk H1 locs1 hP1 hS1
theorem xpN (F : Fx p l s args m meth c G cc nL ret own) {ref C host : String} {T : u_T} {N ci index q : Nat} {fs : List Value} {v : Int32} {ty : FieldType} {ty0 : Nat → FieldType} (k : Nat) (hin : ∀ w ∈ u_ws C T N, w ∈ TB) (hty : ∀ k, k < N → parseFieldDescriptor (T k).2.2.1 = some (ty0 k)) (hnm : ∀ a, a < N → ∀ b, b < N → a ≠ b → (T a).2.1 ≠ (T b).2.1) (hP : va_P (gD G) vwCl (wld G lo σ) H) (hS : va_S (gF G) s.heap H locs) (hq : q < 92) (he : wcell G lo σ q = .inr (ci, fs)) (he2 : wcell G lo (up2 σ q k v) q = .inr (ci, fs.set k (.int v))) (hc : vwCl[ci]? = some (C, T, N)) (hk : k < N) (hlink : Cond.fieldLinkNest own index ref (T k).2.1 (T k).2.2.1 host ∈ nst) (hsame : (T k).1 = ref) (hfin : (T k).2.2.2 = false) (hd : ty0 k = ty) (hn : narrow ty (.int v) = .int v) (hfit : fits ty (.int v) = true) (hl : k < fs.length) (hdg : decode cc pc = .ok (.putfield index, 3))
    (kk : ∀ (H1 : Heap) (locs1 : List Loc), va_P (gD G) vwCl (wld G lo (up2 σ q k v)) H1 → va_S (gF G) s.heap H1 locs1 → W p l e R s m args below meth c H1 locs1 cells slots Q (F0 m (pc + 3) ls rest)) : W p l e R s m args below meth c H locs cells slots Q (F0 m pc ls (.int v :: .ref (gA G q) :: rest)) := by
  obtain ⟨hx, hb, hrt, hml, hown, hts, hlocks, hC, htab, hst⟩ := F
  refine va_putN hx hb hts hin ty0 hty hnm hown hC.2.1 hP hC.apart hS q (by rw [wld_at hq, he]) hc k hk (va_Nw.use rfl (hC.2.2.1 _ hlink)) (fun x h => by rw [← hsame]; exact h) hfin (by rw [hty k hk, hd]) hn hfit hl hdg (fun H1 locs1 hP1 _ hS1 => ?_)
  rw [wld_set hq he2 (fun z hz => wcell_ne hz)] at hP1
  exact kk H1 locs1 hP1 hS1
/-! arrays -/
theorem xil (F : Fx p l s args m meth c G cc nL ret own) {q n : Nat} {i : Int32} (hP : va_P (gD G) vwCl (wld G lo σ) H) (hk : kd q = 5) (hn : ln q = n) (hin : ¬ (i < 0 ∨ n ≤ i.toNatClampNeg)) (hdg : decode cc pc = .ok (.iaload, 1))
    (kk : W p l e R s m args below meth c H locs cells slots Q (F0 m (pc + 1) ls (.int (σ q i.toNatClampNeg) :: rest))) : W p l e R s m args below meth c H locs cells slots Q (F0 m pc ls (.int i :: .ref (gA G q) :: rest)) := by
  subst hn
  obtain ⟨hx, hb, hrt, hml, hown, hts, hlocks, hC, htab, hst⟩ := F
  exact va_iald hx hb hC.2.1 hP q 0 (by rw [wld_at (kd_k hk (by decide)), wc5 hk]) rfl hin hdg kk
theorem xzl (F : Fx p l s args m meth c G cc nL ret own) {q n : Nat} {i : Int32} (hP : va_P (gD G) vwCl (wld G lo σ) H) (hk : kd q = 6) (hn : ln q = n) (hin : ¬ (i < 0 ∨ n ≤ i.toNatClampNeg)) (hdg : decode cc pc = .ok (.baload, 1))
    (kk : W p l e R s m args below meth c H locs cells slots Q (F0 m (pc + 1) ls (.int (σ q i.toNatClampNeg) :: rest))) : W p l e R s m args below meth c H locs cells slots Q (F0 m pc ls (.int i :: .ref (gA G q) :: rest)) := by
  subst hn
  obtain ⟨hx, hb, hrt, hml, hown, hts, hlocks, hC, htab, hst⟩ := F
  exact va_zald hx hb hC.2.1 hP q 1 (by rw [wld_at (kd_k hk (by decide)), wc6 hk]) rfl hin hdg kk
theorem xol (F : Fx p l s args m meth c G cc nL ret own) {q : Nat} {i : Int32} (hP : va_P (gD G) vwCl (wld G lo σ) H) (hk : kd q = 7) (hin : ¬ (i < 0 ∨ 16 ≤ i.toNatClampNeg)) (hdg : decode cc pc = .ok (.aaload, 1))
    (kk : W p l e R s m args below meth c H locs cells slots Q (F0 m (pc + 1) ls (.ref (gA G (26 + 2 * i.toNatClampNeg)) :: rest))) : W p l e R s m args below meth c H locs cells slots Q (F0 m pc ls (.int i :: .ref (gA G q) :: rest)) := by
  obtain ⟨hx, hb, hrt, hml, hown, hts, hlocks, hC, htab, hst⟩ := F
  exact va_aldq (f := fun i => some (gA G (26 + 2 * i))) hx hb hC.2.1 hP q 2 (by rw [wld_at (kd_k hk (by decide)), wc7 hk]) rfl hin hdg kk
theorem xwl (F : Fx p l s args m meth c G cc nL ret own) {q : Nat} {i : Int32} (hP : va_P (gD G) vwCl (wld G lo σ) H) (hk : kd q = 8) (hin : ¬ (i < 0 ∨ 16 ≤ i.toNatClampNeg)) (hdg : decode cc pc = .ok (.aaload, 1))
    (kk : W p l e R s m args below meth c H locs cells slots Q (F0 m (pc + 1) ls (.ref (gA G (58 + 2 * i.toNatClampNeg)) :: rest))) : W p l e R s m args below meth c H locs cells slots Q (F0 m pc ls (.int i :: .ref (gA G q) :: rest)) := by
  obtain ⟨hx, hb, hrt, hml, hown, hts, hlocks, hC, htab, hst⟩ := F
  exact va_aldq (f := fun i => some (gA G (58 + 2 * i))) hx hb hC.2.1 hP q 3 (by rw [wld_at (kd_k hk (by decide)), wc8 hk]) rfl hin hdg kk
theorem xis (F : Fx p l s args m meth c G cc nL ret own) {q n : Nat} {i v : Int32} (hP : va_P (gD G) vwCl (wld G lo σ) H) (hS : va_S (gF G) s.heap H locs) (hk : kd q = 5) (hn : ln q = n) (hin : ¬ (i < 0 ∨ n ≤ i.toNatClampNeg)) (hdg : decode cc pc = .ok (.iastore, 1))
    (kk : ∀ (H1 : Heap) (locs1 : List Loc), va_P (gD G) vwCl (wld G lo (up2 σ q i.toNatClampNeg v)) H1 → va_S (gF G) s.heap H1 locs1 → W p l e R s m args below meth c H1 locs1 cells slots Q (F0 m (pc + 1) ls rest)) : W p l e R s m args below meth c H locs cells slots Q (F0 m pc ls (.int v :: .int i :: .ref (gA G q) :: rest)) := by
  subst hn
  obtain ⟨hx, hb, hrt, hml, hown, hts, hlocks, hC, htab, hst⟩ := F
  have hq := kd_k hk (by decide)
  refine va_iast hx hb hC.2.1 hP hC.apart hS q 0 (by rw [wld_at hq, wc5 hk]) rfl hin hdg (fun H1 locs1 hP1 _ hS1 => ?_)
  rw [wld_set hq (σ' := up2 σ q i.toNatClampNeg v) (by rw [wc5 hk, up2_eq]) (fun z hz => wcell_ne hz)] at hP1
  exact kk H1 locs1 hP1 hS1
theorem xzs (F : Fx p l s args m meth c G cc nL ret own) {q n : Nat} {i v : Int32} (hP : va_P (gD G) vwCl (wld G lo σ) H) (hS : va_S (gF G) s.heap H locs) (hk : kd q = 6) (hn : ln q = n) (hin : ¬ (i < 0 ∨ n ≤ i.toNatClampNeg)) (hv : vp_nar .boolean v = v) (hdg : decode cc pc = .ok (.bastore, 1))
    (kk : ∀ (H1 : Heap) (locs1 : List Loc), va_P (gD G) vwCl (wld G lo (up2 σ q i.toNatClampNeg v)) H1 → va_S (gF G) s.heap H1 locs1 → W p l e R s m args below meth c H1 locs1 cells slots Q (F0 m (pc + 1) ls rest)) : W p l e R s m args below meth c H locs cells slots Q (F0 m pc ls (.int v :: .int i :: .ref (gA G q) :: rest)) := by
  subst hn
  obtain ⟨hx, hb, hrt, hml, hown, hts, hlocks, hC, htab, hst⟩ := F
  have hq := kd_k hk (by decide)
  refine va_zast hx hb hC.2.1 hP hC.apart hS q 1 (by rw [wld_at hq, wc6 hk]) rfl hin hdg (fun H1 locs1 hP1 _ hS1 => ?_)
  rw [hv, wld_set hq (σ' := up2 σ q i.toNatClampNeg v) (by rw [wc6 hk, up2_eq]) (fun z hz => wcell_ne hz)] at hP1
  exact kk H1 locs1 hP1 hS1
/-! Math -/
theorem xmx (F : Fx p l s args m meth c G cc nL ret own) {index : Nat} {x y : Int32} (hlink : Cond.methodLink own index Lib.Math.max.name ∈ TB) (hstat : Cond.static Lib.Math.max.name ∈ TB) (hini : Cond.initialized "java/lang/Math" ∈ TB) (hcode : Cond.code Lib.Math.max.name Lib.Math.max.code 2 (some .int) ∈ TB) (hsize : ls.size = nL) (hf : 1 ≤ R.frames) (hlo : (rest.map fun v => v.category).sum + 13 ≤ R.locals) (hc : cells ≤ R.cells) (hs : slots ≤ R.slots) (hdg : decode cc pc = .ok (.invokestatic index, 3))
    (kk : W p l e R s m args below meth c H locs cells slots Q (F0 m (pc + 3) ls (.int (if x < y then y else x) :: rest))) : W p l e R s m args below meth c H locs cells slots Q (F0 m pc ls (.int y :: .int x :: rest)) := by
  obtain ⟨hx, hb, hrt, hml, hown, hts, hlocks, hC, htab, hst⟩ := F
  exact va_mmax hx hb (hml.trans hsize.symm) hown (hts _ hlink) (hts _ hstat) (hts _ hini) (hts _ hcode) hf hlo hc hs hdg kk
theorem xmn (F : Fx p l s args m meth c G cc nL ret own) {index : Nat} {x y : Int32} (hlink : Cond.methodLink own index Lib.Math.min.name ∈ TB) (hstat : Cond.static Lib.Math.min.name ∈ TB) (hini : Cond.initialized "java/lang/Math" ∈ TB) (hcode : Cond.code Lib.Math.min.name Lib.Math.min.code 2 (some .int) ∈ TB) (hsize : ls.size = nL) (hf : 1 ≤ R.frames) (hlo : (rest.map fun v => v.category).sum + 13 ≤ R.locals) (hc : cells ≤ R.cells) (hs : slots ≤ R.slots) (hdg : decode cc pc = .ok (.invokestatic index, 3))
    (kk : W p l e R s m args below meth c H locs cells slots Q (F0 m (pc + 3) ls (.int (if y < x then y else x) :: rest))) : W p l e R s m args below meth c H locs cells slots Q (F0 m pc ls (.int y :: .int x :: rest)) := by
  obtain ⟨hx, hb, hrt, hml, hown, hts, hlocks, hC, htab, hst⟩ := F
  exact va_mmin hx hb (hml.trans hsize.symm) hown (hts _ hlink) (hts _ hstat) (hts _ hini) (hts _ hcode) hf hlo hc hs hdg kk
theorem xab (F : Fx p l s args m meth c G cc nL ret own) {index : Nat} {x : Int32} (hlink : Cond.methodLink own index Lib.Math.abs.name ∈ TB) (hstat : Cond.static Lib.Math.abs.name ∈ TB) (hini : Cond.initialized "java/lang/Math" ∈ TB) (hcode : Cond.code Lib.Math.abs.name Lib.Math.abs.code 1 (some .int) ∈ TB) (hsize : ls.size = nL) (hf : 1 ≤ R.frames) (hlo : (rest.map fun v => v.category).sum + 13 ≤ R.locals) (hc : cells ≤ R.cells) (hs : slots ≤ R.slots) (hdg : decode cc pc = .ok (.invokestatic index, 3))
    (kk : W p l e R s m args below meth c H locs cells slots Q (F0 m (pc + 3) ls (.int (if 0 ≤ x then x else 0 - x) :: rest))) : W p l e R s m args below meth c H locs cells slots Q (F0 m pc ls (.int x :: rest)) := by
  obtain ⟨hx, hb, hrt, hml, hown, hts, hlocks, hC, htab, hst⟩ := F
  exact va_mabs hx hb (hml.trans hsize.symm) hown (hts _ hlink) (hts _ hstat) (hts _ hini) (hts _ hcode) hf hlo hc hs hdg kk
/-! calls -/
theorem xpre {vs : List (Int32 ⊕ Nat)} (hC : Cx G s) (hP : va_P (gD G) vwCl (wld G lo σ) H) (hS : va_S (gF G) s.heap H locs) : FrameBlind (PWr G lo vs σ) ∧ ∀ U : State, U.heap = H → s.WarmedH U.vm → PWr G lo vs σ (vs.map (cv G)).toArray U :=
  ⟨fun a U g mk q => ⟨q.1, q.2.1, q.2.2.blind g mk a⟩, fun U hU hW => ⟨rfl, by rw [hU]; exact hP, hC.to hW hS hU⟩⟩
theorem xkN {a : Array Value} {v : Option (Int32 ⊕ Nat)} (hr : va_Run p l e R s m args below meth c H locs cells slots mc ms (F0 m pc ls st0) rest (QCr G lo r a) (gF G)) (hS : va_S (gF G) s.heap H locs) (hv : r.1 = .inl v)
    (kk : ∀ (H1 : Heap) (locs1 : List Loc), va_P (gD G) vwCl (wld G lo r.2) H1 → va_S (gF G) s.heap H1 locs1 → W p l e R s m args below meth c H1 locs1 (cells + mc) (slots + ms) Q (F0 m (pc + 3) ls ((v.map (cv G)).toList ++ rest))) : W p l e R s m args below meth c H locs cells slots Q (F0 m pc ls st0) := by
  intro T hT X
  obtain ⟨v', st₀, t, T', L, h0, X', hL, e1, e2, ⟨w, hw, ho, hP1, hF⟩, st⟩ := hr T hT X
  rw [hv] at hw
  cases hw
  cases ho
  obtain ⟨k1, k2, k3⟩ := vx_keep h0 e1 hS (fun _ _ h => h) (fun _ h => h) hL hF
  obtain ⟨t2, a1, b1⟩ := kk T'.heap (locs ++ L) (by rw [e1]; exact hP1) k3 T' rfl X'
  exact ⟨t2, st t2 a1, b1⟩
theorem xkX {a : Array Value} (hr : vx_Run p l e R s m args below meth c H locs cells slots mc ms (F0 m pc ls st0) rest (QCr G lo r a) (XCr G lo r) (gF G)) (hS : va_S (gF G) s.heap H locs)
    (kk : ∀ v : Option (Int32 ⊕ Nat), r.1 = .inl v → ∀ (H1 : Heap) (locs1 : List Loc), va_P (gD G) vwCl (wld G lo r.2) H1 → va_S (gF G) s.heap H1 locs1 → W p l e R s m args below meth c H1 locs1 (cells + mc) (slots + ms) Q (F0 m (pc + 3) ls ((v.map (cv G)).toList ++ rest)))
    (kx : ∀ E : String, r.1 = .inr E → ∀ (H1 : Heap) (locs1 : List Loc) (q9 : Addr) (ce : Cell), va_P (gD G) vwCl (wld G lo r.2) H1 → va_S (gF G) s.heap H1 locs1 → H1[q9]? = some ce → ce.vm = .none → s.vm.findClass E = some ce.cls → vx_W p l e R s m args below meth c H1 locs1 (cells + mc) (slots + ms) Q (F0 m pc ls rest) q9) : W p l e R s m args below meth c H locs cells slots Q (F0 m pc ls st0) := by
  intro T hT X
  rcases hr T hT X with ⟨v', st₀, t, T', L, h0, X', hL, e1, e2, ⟨w, hw, ho, hP1, hF⟩, st⟩ | ⟨q, st₀, t, T', L, E, ce, h0, X', hL, e1, e2, ⟨hw, hP1, hF⟩, hce, hcv, hcl, st⟩
  · cases ho
    obtain ⟨k1, k2, k3⟩ := vx_keep h0 e1 hS (fun _ _ h => h) (fun _ h => h) hL hF
    obtain ⟨t2, a1, b1⟩ := kk w hw T'.heap (locs ++ L) (by rw [e1]; exact hP1) k3 T' rfl X'
    exact ⟨t2, st t2 a1, b1⟩
  · obtain ⟨k1, k2, k3⟩ := vx_keep h0 e1 hS (fun _ _ h => h) (fun _ h => h) hL hF
    obtain ⟨t2, a1, b1⟩ := kx E hw T'.heap (locs ++ L) q ce (by rw [e1]; exact hP1) k3 (by rw [e1]; exact hce) hcv hcl T' rfl X'
    exact ⟨t2, st.trans a1, b1⟩
/-- an instance method of the same class (or a public one), by invokevirtual -/
theorem xV (F : Fx p l s args m meth c G cc nL ret own) {y : MethodName} {bytes : ByteArray} {maxL fr wl index ci q : Nat} {ret' : Option FieldType} {C : String} {vs : List (Int32 ⊕ Nat)} {fs : List Value} {T : u_T} {N : Nat} (hM : MC l G y bytes maxL ret' fr wl mc ms (.inr q :: vs) σ r) (hcode : Cond.code y bytes maxL ret' ∈ TB) (hlink : Cond.methodLink own index y ∈ TB) (hinst : Cond.instanceMethod y ∈ TB) (hsel : Cond.selects C y y ∈ TB) (hini : Cond.initialized C ∈ TB) (hyc : y.cls = C)
    (n : Nat) (hd : y.cls ≠ "java/lang/invoke/MethodHandle" ∧ y.cls ≠ "java/lang/invoke/VarHandle" ∧ (parseMethodDescriptor y.desc).map (fun d => d.parameters.length) = some n) (hn : vs.length = n) (hR : fr + 1 ≤ R.frames ∧ 8 + (maxL + 11) + wl ≤ R.locals) (hP : va_P (gD G) vwCl (wld G lo σ) H) (hS : va_S (gF G) s.heap H locs) (hq : q < 92) (he : wcell G lo σ q = .inr (ci, fs)) (hcl : vwCl[ci]? = some (C, T, N)) (hsize : ls.size = nL) (hst0 : st0 = (vs.map (cv G)).reverse ++ .ref (gA G q) :: rest) (hW : (rest.map fun v => v.category).sum ≤ 8) (hdg : decode cc pc = .ok (.invokevirtual index, 3)) (hf : cells + mc ≤ R.cells ∧ slots + ms ≤ R.slots)
    (kk : ∀ v : Option (Int32 ⊕ Nat), r.1 = .inl v → ∀ (H1 : Heap) (locs1 : List Loc), va_P (gD G) vwCl (wld G lo r.2) H1 → va_S (gF G) s.heap H1 locs1 → W p l e R s m args below meth c H1 locs1 (cells + mc) (slots + ms) Q (F0 m (pc + 3) ls ((v.map (cv G)).toList ++ rest)))
    (kx : ∀ E : String, r.1 = .inr E → ∀ (H1 : Heap) (locs1 : List Loc) (q9 : Addr) (ce : Cell), va_P (gD G) vwCl (wld G lo r.2) H1 → va_S (gF G) s.heap H1 locs1 → H1[q9]? = some ce → ce.vm = .none → s.vm.findClass E = some ce.cls → vx_W p l e R s m args below meth c H1 locs1 (cells + mc) (slots + ms) Q (F0 m pc ls rest) q9) : W p l e R s m args below meth c H locs cells slots Q (F0 m pc ls st0) := by
  subst hn
  obtain ⟨hx, hb, hrt, hml, hown, hts, hlocks, hC, htab, hst⟩ := F
  obtain ⟨hp1, hp2⟩ := xpre (vs := .inr q :: vs) hC hP hS
  exact xkX (vx_runV (C := C) (b := gA G q) (As := vs.map (cv G)) (rest := rest) ⟨hx, hb, hml, hown, hts⟩ (hM hst lo) ⟨callB_of vs.length hts (gTB hcode) rfl rfl rfl (by rw [hyc]; exact hts _ hini) (hts _ hlink) hd hR, hts _ hinst, hts _ hsel⟩ ⟨hp1, va_recv hC.2.1 hP hcl (by rw [wld_at hq, he]), hp2⟩ rfl (by simp) hsize hst0 (lv_room hW) hdg hf) hS kk kx
/-- a private method of a nest mate, by invokevirtual; it does not throw -/
theorem xVN (F : Fx p l s args m meth c G cc nL ret own) {y : MethodName} {bytes : ByteArray} {maxL fr wl index ci q : Nat} {ret' : Option FieldType} {C host : String} {vs : List (Int32 ⊕ Nat)} {fs : List Value} {T : u_T} {N : Nat} {v : Option (Int32 ⊕ Nat)} (hM : MC l G y bytes maxL ret' fr wl mc ms (.inr q :: vs) σ r) (hv : r.1 = .inl v) (hcode : Cond.code y bytes maxL ret' ∈ TB) (hlink : Cond.methodLinkNest own index y host ∈ nst) (hinst : Cond.instanceMethod y ∈ TB) (hsel : Cond.selects C y y ∈ TB) (hini : Cond.initialized C ∈ TB) (hyc : y.cls = C)
    (n : Nat) (hd : y.cls ≠ "java/lang/invoke/MethodHandle" ∧ y.cls ≠ "java/lang/invoke/VarHandle" ∧ (parseMethodDescriptor y.desc).map (fun d => d.parameters.length) = some n) (hn : vs.length = n) (hR : fr + 1 ≤ R.frames ∧ 8 + (maxL + 11) + wl ≤ R.locals) (hP : va_P (gD G) vwCl (wld G lo σ) H) (hS : va_S (gF G) s.heap H locs) (hq : q < 92) (he : wcell G lo σ q = .inr (ci, fs)) (hcl : vwCl[ci]? = some (C, T, N)) (hsize : ls.size = nL) (hst0 : st0 = (vs.map (cv G)).reverse ++ .ref (gA G q) :: rest) (hW : (rest.map fun v => v.category).sum ≤ 8) (hdg : decode cc pc = .ok (.invokevirtual index, 3)) (hf : cells + mc ≤ R.cells ∧ slots + ms ≤ R.slots)
    (kk : ∀ (H1 : Heap) (locs1 : List Loc), va_P (gD G) vwCl (wld G lo r.2) H1 → va_S (gF G) s.heap H1 locs1 → W p l e R s m args below meth c H1 locs1 (cells + mc) (slots + ms) Q (F0 m (pc + 3) ls ((v.map (cv G)).toList ++ rest))) : W p l e R s m args below meth c H locs cells slots Q (F0 m pc ls st0) := by
  subst hn
  obtain ⟨hx, hb, hrt, hml, hown, hts, hlocks, hC, htab, hst⟩ := F
  obtain ⟨hp1, hp2⟩ := xpre (vs := .inr q :: vs) hC hP hS
  exact xkN (va_runVN (C := C) (b := gA G q) (As := vs.map (cv G)) (rest := rest) ⟨hx, hb, hml, hown, hts⟩ (xmet (hM hst lo) hv) ⟨va_cnB vs.length hts (gTB hcode) rfl rfl rfl (hC.2.2.1 _ hlink) (by rw [hyc]; exact hts _ hini) hd hR, hts _ hinst, hts _ hsel⟩ ⟨hp1, va_recv hC.2.1 hP hcl (by rw [wld_at hq, he]), hp2⟩ rfl (by simp) hsize hst0 (lv_room hW) hdg hf) hS hv kk
/-- a static method -/
theorem xSt (F : Fx p l s args m meth c G cc nL ret own) {y : MethodName} {bytes : ByteArray} {maxL fr wl index : Nat} {ret' : Option FieldType} {C : String} {vs : List (Int32 ⊕ Nat)} (hM : MC l G y bytes maxL ret' fr wl mc ms vs σ r) (hcode : Cond.code y bytes maxL ret' ∈ TB) (hlink : Cond.methodLink own index y ∈ TB) (hstat : Cond.static y ∈ TB) (hini : Cond.initialized C ∈ TB) (hyc : y.cls = C)
    (n : Nat) (hd : y.cls ≠ "java/lang/invoke/MethodHandle" ∧ y.cls ≠ "java/lang/invoke/VarHandle" ∧ (parseMethodDescriptor y.desc).map (fun d => d.parameters.length) = some n) (hn : vs.length = n) (hR : fr + 1 ≤ R.frames ∧ 8 + (maxL + 11) + wl ≤ R.locals) (hP : va_P (gD G) vwCl (wld G lo σ) H) (hS : va_S (gF G) s.heap H locs) (hsize : ls.size = nL) (hst0 : st0 = (vs.map (cv G)).reverse ++ rest) (hW : (rest.map fun v => v.category).sum ≤ 8) (hdg : decode cc pc = .ok (.invokestatic index, 3)) (hf : cells + mc ≤ R.cells ∧ slots + ms ≤ R.slots)
    (kk : ∀ v : Option (Int32 ⊕ Nat), r.1 = .inl v → ∀ (H1 : Heap) (locs1 : List Loc), va_P (gD G) vwCl (wld G lo r.2) H1 → va_S (gF G) s.heap H1 locs1 → W p l e R s m args below meth c H1 locs1 (cells + mc) (slots + ms) Q (F0 m (pc + 3) ls ((v.map (cv G)).toList ++ rest)))
    (kx : ∀ E : String, r.1 = .inr E → ∀ (H1 : Heap) (locs1 : List Loc) (q9 : Addr) (ce : Cell), va_P (gD G) vwCl (wld G lo r.2) H1 → va_S (gF G) s.heap H1 locs1 → H1[q9]? = some ce → ce.vm = .none → s.vm.findClass E = some ce.cls → vx_W p l e R s m args below meth c H1 locs1 (cells + mc) (slots + ms) Q (F0 m pc ls rest) q9) : W p l e R s m args below meth c H locs cells slots Q (F0 m pc ls st0) := by
  subst hn
  obtain ⟨hx, hb, hrt, hml, hown, hts, hlocks, hC, htab, hst⟩ := F
  exact xkX (vx_runS (As := vs.map (cv G)) (rest := rest) ⟨hx, hb, hml, hown, hts⟩ (hM hst lo) ⟨callB_of vs.length hts (gTB hcode) rfl rfl rfl (by rw [hyc]; exact hts _ hini) (hts _ hlink) hd hR, hts _ hstat⟩ (xpre (vs := vs) hC hP hS) rfl (by simp) hsize hst0 (lv_room hW) hdg hf) hS kk kx
end
end
section
theorem kdc_0 : kd 0 = 3 := by decide
theorem kdc_1 : kd 1 = 0 := by decide
theorem kdc_2 : kd 2 = 5 := by decide
theorem lnc_2 : ln 2 = 10 := by decide
theorem kdc_3 : kd 3 = 5 := by decide
theorem lnc_3 : ln 3 = 10 := by decide
theorem kdc_4 : kd 4 = 5 := by decide
theorem lnc_4 : ln 4 = 10 := by decide
theorem kdc_5 : kd 5 = 5 := by decide
theorem lnc_5 : ln 5 = 10 := by decide
theorem kdc_6 : kd 6 = 7 := by decide
theorem kdc_7 : kd 7 = 8 := by decide
theorem kdc_8 : kd 8 = 4 := by decide
theorem kdc_9 : kd 9 = 5 := by decide
theorem lnc_9 : ln 9 = 16 := by decide
theorem kdc_10 : kd 10 = 5 := by decide
theorem lnc_10 : ln 10 = 16 := by decide
theorem kdc_11 : kd 11 = 5 := by decide
theorem lnc_11 : ln 11 = 16 := by decide
theorem kdc_12 : kd 12 = 5 := by decide
theorem lnc_12 : ln 12 = 16 := by decide
theorem kdc_13 : kd 13 = 5 := by decide
theorem lnc_13 : ln 13 = 16 := by decide
theorem kdc_14 : kd 14 = 5 := by decide
theorem lnc_14 : ln 14 = 16 := by decide
theorem kdc_15 : kd 15 = 6 := by decide
theorem lnc_15 : ln 15 = 16 := by decide
theorem kdc_16 : kd 16 = 5 := by decide
theorem lnc_16 : ln 16 = 160 := by decide
theorem kdc_17 : kd 17 = 5 := by decide
theorem lnc_17 : ln 17 = 10 := by decide
theorem kdc_18 : kd 18 = 5 := by decide
theorem lnc_18 : ln 18 = 10 := by decide
theorem kdc_19 : kd 19 = 5 := by decide
theorem lnc_19 : ln 19 = 10 := by decide
theorem kdc_20 : kd 20 = 6 := by decide
theorem lnc_20 : ln 20 = 17 := by decide
theorem kdc_21 : kd 21 = 5 := by decide
theorem lnc_21 : ln 21 = 10 := by decide
theorem kdc_22 : kd 22 = 5 := by decide
theorem lnc_22 : ln 22 = 16 := by decide
theorem kdc_23 : kd 23 = 5 := by decide
theorem lnc_23 : ln 23 = 16 := by decide
theorem kdc_24 : kd 24 = 6 := by decide
theorem lnc_24 : ln 24 = 16 := by decide
theorem kdc_25 : kd 25 = 9 := by decide
theorem kdc_90 : kd 90 = 2 := by decide
theorem kdc_91 : kd 91 = 5 := by decide
theorem lnc_91 : ln 91 = 16 := by decide
theorem wu0_3 {G : GT} {lo : Nat → Int64} {σ : St} {p : Nat} {v : Int32} (h : kd p = 0) : wcell G lo (up2 σ p 3 v) p = .inr (0, ([.ref (gA G 2), .ref (gA G 3), .ref (gA G 4), .int (σ p 3)] : List Value).set 3 (.int v)) := by simp [wc0 h, up2_eq, upd]
theorem wu1_0 {G : GT} {lo : Nat → Int64} {σ : St} {p : Nat} {v : Int32} (h : kd p = 1) : wcell G lo (up2 σ p 0 v) p = .inr (1, ([.int (σ p 0), .int (σ p 1), .int (σ p 2), .int (σ p 3), .int (σ p 4), .ref (gA G (p + 1)), .int (σ p 6), .int (σ p 7), .int (σ p 8)] : List Value).set 0 (.int v)) := by simp [wc1 h, up2_eq, upd]
theorem wu1_1 {G : GT} {lo : Nat → Int64} {σ : St} {p : Nat} {v : Int32} (h : kd p = 1) : wcell G lo (up2 σ p 1 v) p = .inr (1, ([.int (σ p 0), .int (σ p 1), .int (σ p 2), .int (σ p 3), .int (σ p 4), .ref (gA G (p + 1)), .int (σ p 6), .int (σ p 7), .int (σ p 8)] : List Value).set 1 (.int v)) := by simp [wc1 h, up2_eq, upd]
theorem wu1_2 {G : GT} {lo : Nat → Int64} {σ : St} {p : Nat} {v : Int32} (h : kd p = 1) : wcell G lo (up2 σ p 2 v) p = .inr (1, ([.int (σ p 0), .int (σ p 1), .int (σ p 2), .int (σ p 3), .int (σ p 4), .ref (gA G (p + 1)), .int (σ p 6), .int (σ p 7), .int (σ p 8)] : List Value).set 2 (.int v)) := by simp [wc1 h, up2_eq, upd]
theorem wu1_3 {G : GT} {lo : Nat → Int64} {σ : St} {p : Nat} {v : Int32} (h : kd p = 1) : wcell G lo (up2 σ p 3 v) p = .inr (1, ([.int (σ p 0), .int (σ p 1), .int (σ p 2), .int (σ p 3), .int (σ p 4), .ref (gA G (p + 1)), .int (σ p 6), .int (σ p 7), .int (σ p 8)] : List Value).set 3 (.int v)) := by simp [wc1 h, up2_eq, upd]
theorem wu1_4 {G : GT} {lo : Nat → Int64} {σ : St} {p : Nat} {v : Int32} (h : kd p = 1) : wcell G lo (up2 σ p 4 v) p = .inr (1, ([.int (σ p 0), .int (σ p 1), .int (σ p 2), .int (σ p 3), .int (σ p 4), .ref (gA G (p + 1)), .int (σ p 6), .int (σ p 7), .int (σ p 8)] : List Value).set 4 (.int v)) := by simp [wc1 h, up2_eq, upd]
theorem wu1_6 {G : GT} {lo : Nat → Int64} {σ : St} {p : Nat} {v : Int32} (h : kd p = 1) : wcell G lo (up2 σ p 6 v) p = .inr (1, ([.int (σ p 0), .int (σ p 1), .int (σ p 2), .int (σ p 3), .int (σ p 4), .ref (gA G (p + 1)), .int (σ p 6), .int (σ p 7), .int (σ p 8)] : List Value).set 6 (.int v)) := by simp [wc1 h, up2_eq, upd]
theorem wu1_7 {G : GT} {lo : Nat → Int64} {σ : St} {p : Nat} {v : Int32} (h : kd p = 1) : wcell G lo (up2 σ p 7 v) p = .inr (1, ([.int (σ p 0), .int (σ p 1), .int (σ p 2), .int (σ p 3), .int (σ p 4), .ref (gA G (p + 1)), .int (σ p 6), .int (σ p 7), .int (σ p 8)] : List Value).set 7 (.int v)) := by simp [wc1 h, up2_eq, upd]
theorem wu1_8 {G : GT} {lo : Nat → Int64} {σ : St} {p : Nat} {v : Int32} (h : kd p = 1) : wcell G lo (up2 σ p 8 v) p = .inr (1, ([.int (σ p 0), .int (σ p 1), .int (σ p 2), .int (σ p 3), .int (σ p 4), .ref (gA G (p + 1)), .int (σ p 6), .int (σ p 7), .int (σ p 8)] : List Value).set 8 (.int v)) := by simp [wc1 h, up2_eq, upd]
theorem wu2_1 {G : GT} {lo : Nat → Int64} {σ : St} {p : Nat} {v : Int32} (h : kd p = 2) : wcell G lo (up2 σ p 1 v) p = .inr (2, ([.ref (gA G (p + 1)), .int (σ p 1), .int (σ p 2), .int (σ p 3)] : List Value).set 1 (.int v)) := by simp [wc2 h, up2_eq, upd]
theorem wu2_2 {G : GT} {lo : Nat → Int64} {σ : St} {p : Nat} {v : Int32} (h : kd p = 2) : wcell G lo (up2 σ p 2 v) p = .inr (2, ([.ref (gA G (p + 1)), .int (σ p 1), .int (σ p 2), .int (σ p 3)] : List Value).set 2 (.int v)) := by simp [wc2 h, up2_eq, upd]
theorem wu2_3 {G : GT} {lo : Nat → Int64} {σ : St} {p : Nat} {v : Int32} (h : kd p = 2) : wcell G lo (up2 σ p 3 v) p = .inr (2, ([.ref (gA G (p + 1)), .int (σ p 1), .int (σ p 2), .int (σ p 3)] : List Value).set 3 (.int v)) := by simp [wc2 h, up2_eq, upd]
theorem wu3_0 {G : GT} {lo : Nat → Int64} {σ : St} {p : Nat} {v : Int32} (h : kd p = 3) : wcell G lo (up2 σ p 0 v) p = .inr (3, ([.int (σ p 0), .ref (gA G 1), .ref (gA G 5), .ref (gA G 6), .int (σ p 4), .ref (gA G 7), .int (σ p 6), .ref (gA G 90)] : List Value).set 0 (.int v)) := by simp [wc3 h, up2_eq, upd]
theorem wu3_4 {G : GT} {lo : Nat → Int64} {σ : St} {p : Nat} {v : Int32} (h : kd p = 3) : wcell G lo (up2 σ p 4 v) p = .inr (3, ([.int (σ p 0), .ref (gA G 1), .ref (gA G 5), .ref (gA G 6), .int (σ p 4), .ref (gA G 7), .int (σ p 6), .ref (gA G 90)] : List Value).set 4 (.int v)) := by simp [wc3 h, up2_eq, upd]
theorem wu3_6 {G : GT} {lo : Nat → Int64} {σ : St} {p : Nat} {v : Int32} (h : kd p = 3) : wcell G lo (up2 σ p 6 v) p = .inr (3, ([.int (σ p 0), .ref (gA G 1), .ref (gA G 5), .ref (gA G 6), .int (σ p 4), .ref (gA G 7), .int (σ p 6), .ref (gA G 90)] : List Value).set 6 (.int v)) := by simp [wc3 h, up2_eq, upd]
theorem wu4_0 {G : GT} {lo : Nat → Int64} {σ : St} {p : Nat} {v : Int32} (h : kd p = 4) : wcell G lo (up2 σ p 0 v) p = .inr (4, ([.int (σ p 0), .int (σ p 1), .int (σ p 2), .ref (gA G 9), .ref (gA G 10), .ref (gA G 11), .ref (gA G 12), .ref (gA G 13), .ref (gA G 14), .ref (gA G 15), .ref (gA G 16), .int (σ p 11), .int (σ p 12), .ref (gA G 17), .ref (gA G 18), .ref (gA G 19), .int (σ p 16), .ref (gA G 20), .ref (gA G 21), .ref (gA G 22), .ref (gA G 23), .ref (gA G 24)] : List Value).set 0 (.int v)) := by simp [wc4 h, up2_eq, upd]
theorem wu4_1 {G : GT} {lo : Nat → Int64} {σ : St} {p : Nat} {v : Int32} (h : kd p = 4) : wcell G lo (up2 σ p 1 v) p = .inr (4, ([.int (σ p 0), .int (σ p 1), .int (σ p 2), .ref (gA G 9), .ref (gA G 10), .ref (gA G 11), .ref (gA G 12), .ref (gA G 13), .ref (gA G 14), .ref (gA G 15), .ref (gA G 16), .int (σ p 11), .int (σ p 12), .ref (gA G 17), .ref (gA G 18), .ref (gA G 19), .int (σ p 16), .ref (gA G 20), .ref (gA G 21), .ref (gA G 22), .ref (gA G 23), .ref (gA G 24)] : List Value).set 1 (.int v)) := by simp [wc4 h, up2_eq, upd]
theorem wu4_2 {G : GT} {lo : Nat → Int64} {σ : St} {p : Nat} {v : Int32} (h : kd p = 4) : wcell G lo (up2 σ p 2 v) p = .inr (4, ([.int (σ p 0), .int (σ p 1), .int (σ p 2), .ref (gA G 9), .ref (gA G 10), .ref (gA G 11), .ref (gA G 12), .ref (gA G 13), .ref (gA G 14), .ref (gA G 15), .ref (gA G 16), .int (σ p 11), .int (σ p 12), .ref (gA G 17), .ref (gA G 18), .ref (gA G 19), .int (σ p 16), .ref (gA G 20), .ref (gA G 21), .ref (gA G 22), .ref (gA G 23), .ref (gA G 24)] : List Value).set 2 (.int v)) := by simp [wc4 h, up2_eq, upd]
theorem wu4_11 {G : GT} {lo : Nat → Int64} {σ : St} {p : Nat} {v : Int32} (h : kd p = 4) : wcell G lo (up2 σ p 11 v) p = .inr (4, ([.int (σ p 0), .int (σ p 1), .int (σ p 2), .ref (gA G 9), .ref (gA G 10), .ref (gA G 11), .ref (gA G 12), .ref (gA G 13), .ref (gA G 14), .ref (gA G 15), .ref (gA G 16), .int (σ p 11), .int (σ p 12), .ref (gA G 17), .ref (gA G 18), .ref (gA G 19), .int (σ p 16), .ref (gA G 20), .ref (gA G 21), .ref (gA G 22), .ref (gA G 23), .ref (gA G 24)] : List Value).set 11 (.int v)) := by simp [wc4 h, up2_eq, upd]
theorem wu4_12 {G : GT} {lo : Nat → Int64} {σ : St} {p : Nat} {v : Int32} (h : kd p = 4) : wcell G lo (up2 σ p 12 v) p = .inr (4, ([.int (σ p 0), .int (σ p 1), .int (σ p 2), .ref (gA G 9), .ref (gA G 10), .ref (gA G 11), .ref (gA G 12), .ref (gA G 13), .ref (gA G 14), .ref (gA G 15), .ref (gA G 16), .int (σ p 11), .int (σ p 12), .ref (gA G 17), .ref (gA G 18), .ref (gA G 19), .int (σ p 16), .ref (gA G 20), .ref (gA G 21), .ref (gA G 22), .ref (gA G 23), .ref (gA G 24)] : List Value).set 12 (.int v)) := by simp [wc4 h, up2_eq, upd]
theorem wu4_16 {G : GT} {lo : Nat → Int64} {σ : St} {p : Nat} {v : Int32} (h : kd p = 4) : wcell G lo (up2 σ p 16 v) p = .inr (4, ([.int (σ p 0), .int (σ p 1), .int (σ p 2), .ref (gA G 9), .ref (gA G 10), .ref (gA G 11), .ref (gA G 12), .ref (gA G 13), .ref (gA G 14), .ref (gA G 15), .ref (gA G 16), .int (σ p 11), .int (σ p 12), .ref (gA G 17), .ref (gA G 18), .ref (gA G 19), .int (σ p 16), .ref (gA G 20), .ref (gA G 21), .ref (gA G 22), .ref (gA G 23), .ref (gA G 24)] : List Value).set 16 (.int v)) := by simp [wc4 h, up2_eq, upd]
set_option maxRecDepth 20000 in
theorem xt_158_1 : ∀ w ∈ (vx_atS RX3 158 "java/lang/IllegalArgumentException" ["java/lang/RuntimeException", "java/lang/Exception"]).filter goodWord, w ∈ TB := fun w h => List.mem_filter.mpr ⟨(show ∀ w ∈ (vx_atS RX3 158 "java/lang/IllegalArgumentException" ["java/lang/RuntimeException", "java/lang/Exception"]).filter goodWord, w ∈ lw_tbl by decide +kernel) w h, (List.mem_filter.mp h).2⟩
set_option maxRecDepth 20000 in
theorem xt_158_2 : ∀ w ∈ (vx_atS RX3 158 "java/lang/IllegalArgumentException" ["java/lang/RuntimeException", "java/lang/Exception"]).filter (fun w => !goodWord w), w ∈ nst := by decide +kernel
set_option maxRecDepth 20000 in
theorem xt_158_154 : ∀ w ∈ Cond.classLink RX3 154 "java/lang/IllegalArgumentException" :: Cond.initialized "java/lang/IllegalArgumentException" :: vx_atS RX3 158 "java/lang/IllegalArgumentException" ["java/lang/RuntimeException", "java/lang/Exception"], vx_ot w = true := by decide +kernel
set_option maxRecDepth 20000 in
theorem xt_64_1 : ∀ w ∈ (vx_atS RX3 64 "java/lang/UnsupportedOperationException" ["java/lang/RuntimeException", "java/lang/Exception"]).filter goodWord, w ∈ TB := fun w h => List.mem_filter.mpr ⟨(show ∀ w ∈ (vx_atS RX3 64 "java/lang/UnsupportedOperationException" ["java/lang/RuntimeException", "java/lang/Exception"]).filter goodWord, w ∈ lw_tbl by decide +kernel) w h, (List.mem_filter.mp h).2⟩
set_option maxRecDepth 20000 in
theorem xt_64_2 : ∀ w ∈ (vx_atS RX3 64 "java/lang/UnsupportedOperationException" ["java/lang/RuntimeException", "java/lang/Exception"]).filter (fun w => !goodWord w), w ∈ nst := by decide +kernel
set_option maxRecDepth 20000 in
theorem xt_64_60 : ∀ w ∈ Cond.classLink RX3 60 "java/lang/UnsupportedOperationException" :: Cond.initialized "java/lang/UnsupportedOperationException" :: vx_atS RX3 64 "java/lang/UnsupportedOperationException" ["java/lang/RuntimeException", "java/lang/Exception"], vx_ot w = true := by decide +kernel
set_option maxRecDepth 20000 in
theorem xt_91_1 : ∀ w ∈ (vx_atS RX3 91 "java/lang/IllegalStateException" ["java/lang/RuntimeException", "java/lang/Exception"]).filter goodWord, w ∈ TB := fun w h => List.mem_filter.mpr ⟨(show ∀ w ∈ (vx_atS RX3 91 "java/lang/IllegalStateException" ["java/lang/RuntimeException", "java/lang/Exception"]).filter goodWord, w ∈ lw_tbl by decide +kernel) w h, (List.mem_filter.mp h).2⟩
set_option maxRecDepth 20000 in
theorem xt_91_2 : ∀ w ∈ (vx_atS RX3 91 "java/lang/IllegalStateException" ["java/lang/RuntimeException", "java/lang/Exception"]).filter (fun w => !goodWord w), w ∈ nst := by decide +kernel
set_option maxRecDepth 20000 in
theorem xt_91_87 : ∀ w ∈ Cond.classLink RX3 87 "java/lang/IllegalStateException" :: Cond.initialized "java/lang/IllegalStateException" :: vx_atS RX3 91 "java/lang/IllegalStateException" ["java/lang/RuntimeException", "java/lang/Exception"], vx_ot w = true := by decide +kernel
theorem nar_b {v : Int32} (h : v = 0 ∨ v = 1) : narrow .boolean (.int v) = .int v := by
  rcases h with h | h <;> subst h <;> rfl
/-! a callee's outcome, and what goes on with it: n.. it does not throw, b.. it may -/
def ni (m : Option (RV × St)) (k : Int32 → St → Option (RV × St)) : Option (RV × St) := match m with
  | some (.inl (some (.inl x)), σ) => k x σ
  | _ => none
def np (m : Option (RV × St)) (k : Nat → St → Option (RV × St)) : Option (RV × St) := match m with
  | some (.inl (some (.inr x)), σ) => k x σ
  | _ => none
def nv (m : Option (RV × St)) (k : St → Option (RV × St)) : Option (RV × St) := match m with
  | some (.inl none, σ) => k σ
  | _ => none
def bi (m : Option (RV × St)) (k : Int32 → St → Option (RV × St)) : Option (RV × St) := match m with
  | some (.inl (some (.inl x)), σ) => k x σ
  | some (.inr E, σ) => some (.inr E, σ)
  | _ => none
def bp (m : Option (RV × St)) (k : Nat → St → Option (RV × St)) : Option (RV × St) := match m with
  | some (.inl (some (.inr x)), σ) => k x σ
  | some (.inr E, σ) => some (.inr E, σ)
  | _ => none
def bv (m : Option (RV × St)) (k : St → Option (RV × St)) : Option (RV × St) := match m with
  | some (.inl none, σ) => k σ
  | some (.inr E, σ) => some (.inr E, σ)
  | _ => none
theorem ni_inv {m : Option (RV × St)} {k : Int32 → St → Option (RV × St)} {r : RV × St} (h : ni m k = some r) : ∃ x σ, m = some (.inl (some (.inl x)), σ) ∧ k x σ = some r := by
  unfold ni at h
  split at h
  · exact ⟨_, _, rfl, h⟩
  · cases h
theorem np_inv {m : Option (RV × St)} {k : Nat → St → Option (RV × St)} {r : RV × St} (h : np m k = some r) : ∃ x σ, m = some (.inl (some (.inr x)), σ) ∧ k x σ = some r := by
  unfold np at h
  split at h
  · exact ⟨_, _, rfl, h⟩
  · cases h
theorem nv_inv {m : Option (RV × St)} {k : St → Option (RV × St)} {r : RV × St} (h : nv m k = some r) : ∃ σ, m = some (.inl none, σ) ∧ k σ = some r := by
  unfold nv at h
  split at h
  · exact ⟨_, rfl, h⟩
  · cases h
theorem bi_inv {m : Option (RV × St)} {k : Int32 → St → Option (RV × St)} {r : RV × St} (h : bi m k = some r) : (∃ x σ, m = some (.inl (some (.inl x)), σ) ∧ k x σ = some r) ∨ ∃ E σ, m = some (.inr E, σ) ∧ r = (.inr E, σ) := by
  unfold bi at h
  split at h
  · exact Or.inl ⟨_, _, rfl, h⟩
  · exact Or.inr ⟨_, _, rfl, (Option.some.inj h).symm⟩
  · cases h
theorem bp_inv {m : Option (RV × St)} {k : Nat → St → Option (RV × St)} {r : RV × St} (h : bp m k = some r) : (∃ x σ, m = some (.inl (some (.inr x)), σ) ∧ k x σ = some r) ∨ ∃ E σ, m = some (.inr E, σ) ∧ r = (.inr E, σ) := by
  unfold bp at h
  split at h
  · exact Or.inl ⟨_, _, rfl, h⟩
  · exact Or.inr ⟨_, _, rfl, (Option.some.inj h).symm⟩
  · cases h
theorem bv_inv {m : Option (RV × St)} {k : St → Option (RV × St)} {r : RV × St} (h : bv m k = some r) : (∃ σ, m = some (.inl none, σ) ∧ k σ = some r) ∨ ∃ E σ, m = some (.inr E, σ) ∧ r = (.inr E, σ) := by
  unfold bv at h
  split at h
  · exact Or.inl ⟨_, rfl, h⟩
  · exact Or.inr ⟨_, _, rfl, (Option.some.inj h).symm⟩
  · cases h
end
section
def f_X0_have_2 (σ : St) (x1 : Int32) (x2 : Int32) : Nat → Int32 → Option (RV × St)
  | 0, _ => none
  | n + 1, x3 =>
    if (σ 1 3) ≤ x3 then
      some (.inl (some (.inl 0)), σ)
    else
      if x3 < 0 ∨ 10 ≤ x3.toNatClampNeg then none
      else
        if (σ 2 x3.toNatClampNeg) = x1 then
          if x2 < (σ 3 x3.toNatClampNeg) then
            f_X0_have_2 σ x1 x2 n (x3 + 1)
          else
            if (σ 4 x3.toNatClampNeg) < x2 then
              f_X0_have_2 σ x1 x2 n (x3 + 1)
            else
              some (.inl (some (.inl 1)), σ)
        else
          f_X0_have_2 σ x1 x2 n (x3 + 1)
set_option maxHeartbeats 4000000 in
set_option maxRecDepth 100000 in
theorem w_X0_have_2 {p : Program} {l : Launch} {e : Env} {s : State} {m : MethodId} {args : Array Value} {below : List Frame} {meth : Method} {c : Code} {G : GT} {lo : Nat → Int64} (F : Fx p l s args m meth c G cX0_have 4 (some .boolean) RX0) {σ : St} {x1 : Int32} {x2 : Int32} : ∀ (n : Nat) {x3 : Int32} {r : RV × St}, f_X0_have_2 σ x1 x2 n x3 = some r → ∀ {H : Heap} {locs : List Loc}, va_P (gD G) vwCl (wld G lo σ) H → va_S (gF G) s.heap H locs → ∀ {ls : Array Slot}, lv_has ls 4 [(0, .ref (gA G 1)), (1, .int x1), (2, .int x2), (3, .int x3)] → W p l e (RM 0 0 0 0) s m args below meth c H locs 0 0 (vx_MQ below (QCr G lo r) (XCr G lo r) args s 0 0 (gF G)) (F0 m 2 ls []) := by
  obtain ⟨hx, hb, hrt, hml, hown, hts, hlocks, hC, htab, hst⟩ := id F
  intro n
  induction n with
  | zero =>
    intro x3 r hm
    simp only [f_X0_have_2] at hm
    cases hm
  | succ n ih =>
    intro x3 r hm H locs hP hS ls hl
    rw [f_X0_have_2] at hm
    refine lv_iload_n hx hb dX0_have_2 rfl (lv_at hl 3 rfl) ?_
    refine lv_aload_n hx hb dX0_have_3 rfl (lv_at hl 0 rfl) ?_
    refine xg F 3 inX0 hP (kd_k kdc_1 (by decide)) (wc0 kdc_1) rfl (by decide) tk_38 rfl rfl dX0_have_4 ?_
    refine lv_icmp_ge (tgt := 48) hx hb dX0_have_7 (by decide) (fun b1 => ?_) (fun b1 => ?_)
    · rw [if_pos b1] at hm
      refine lv_iconst (v := 0) hx hb dX0_have_48 (by decide) ?_
      exact xzr F hP hS rfl (Option.some.inj hm).symm (by decide) (by decide) dX0_have_49
    · rw [if_neg b1] at hm
      refine lv_aload_n hx hb dX0_have_10 rfl (lv_at hl 0 rfl) ?_
      refine xg F 0 inX0 hP (kd_k kdc_1 (by decide)) (wc0 kdc_1) rfl (by decide) tk_35 rfl rfl dX0_have_11 ?_
      refine lv_iload_n hx hb dX0_have_14 rfl (lv_at hl 3 rfl) ?_
      by_cases b2 : (x3 < 0 ∨ 10 ≤ x3.toNatClampNeg)
      · rw [if_pos b2] at hm
        cases hm
      · rw [if_neg b2] at hm
        refine xil F hP kdc_2 lnc_2 b2 dX0_have_15 ?_
        refine lv_iload_n hx hb dX0_have_16 rfl (lv_at hl 1 rfl) ?_
        refine lv_icmp_ne (tgt := 42) hx hb dX0_have_17 (by decide) (fun b3 => ?_) (fun b3 => ?_)
        · rw [if_neg b3] at hm
          refine lv_iinc (v := (x3 + 1)) (lv' := [(3, .int (x3 + 1)), (0, .ref (gA G 1)), (1, .int x1), (2, .int x2)]) hx hb dX0_have_42 hl (k := 3) rfl rfl (by decide) rfl (fun ls hl => ?_)
          refine lv_goto (tgt := 2) hx hb dX0_have_45 (by decide) ?_
          exact ih hm hP hS (lv_sub hl [1, 2, 3, 0] rfl)
        · rw [if_pos b3] at hm
          refine lv_aload_n hx hb dX0_have_20 rfl (lv_at hl 0 rfl) ?_
          refine xg F 1 inX0 hP (kd_k kdc_1 (by decide)) (wc0 kdc_1) rfl (by decide) tk_36 rfl rfl dX0_have_21 ?_
          refine lv_iload_n hx hb dX0_have_24 rfl (lv_at hl 3 rfl) ?_
          refine xil F hP kdc_3 lnc_3 b2 dX0_have_25 ?_
          refine lv_iload_n hx hb dX0_have_26 rfl (lv_at hl 2 rfl) ?_
          refine lv_icmp_gt (tgt := 42) hx hb dX0_have_27 (by decide) (fun b4 => ?_) (fun b4 => ?_)
          · rw [if_pos b4] at hm
            refine lv_iinc (v := (x3 + 1)) (lv' := [(3, .int (x3 + 1)), (0, .ref (gA G 1)), (1, .int x1), (2, .int x2)]) hx hb dX0_have_42 hl (k := 3) rfl rfl (by decide) rfl (fun ls hl => ?_)
            refine lv_goto (tgt := 2) hx hb dX0_have_45 (by decide) ?_
            exact ih hm hP hS (lv_sub hl [1, 2, 3, 0] rfl)
          · rw [if_neg b4] at hm
            refine lv_iload_n hx hb dX0_have_30 rfl (lv_at hl 2 rfl) ?_
            refine lv_aload_n hx hb dX0_have_31 rfl (lv_at hl 0 rfl) ?_
            refine xg F 2 inX0 hP (kd_k kdc_1 (by decide)) (wc0 kdc_1) rfl (by decide) tk_37 rfl rfl dX0_have_32 ?_
            refine lv_iload_n hx hb dX0_have_35 rfl (lv_at hl 3 rfl) ?_
            refine xil F hP kdc_4 lnc_4 b2 dX0_have_36 ?_
            refine lv_icmp_gt (tgt := 42) hx hb dX0_have_37 (by decide) (fun b5 => ?_) (fun b5 => ?_)
            · rw [if_pos b5] at hm
              refine lv_iinc (v := (x3 + 1)) (lv' := [(3, .int (x3 + 1)), (0, .ref (gA G 1)), (1, .int x1), (2, .int x2)]) hx hb dX0_have_42 hl (k := 3) rfl rfl (by decide) rfl (fun ls hl => ?_)
              refine lv_goto (tgt := 2) hx hb dX0_have_45 (by decide) ?_
              exact ih hm hP hS (lv_sub hl [1, 2, 3, 0] rfl)
            · rw [if_neg b5] at hm
              refine lv_iconst (v := 1) hx hb dX0_have_40 (by decide) ?_
              exact xzr F hP hS rfl (Option.some.inj hm).symm (by decide) (by decide) dX0_have_41
def f_X0_have (σ : St) (x1 : Int32) (x2 : Int32) : Option (RV × St) :=
  f_X0_have_2 σ x1 x2 40 0
set_option maxHeartbeats 4000000 in
set_option maxRecDepth 100000 in
theorem c_X0_have {l : Launch} {G : GT} {σ : St} {x1 : Int32} {x2 : Int32} {r : RV × St} (hm : f_X0_have σ x1 x2 = some r) : MC l G yX0_have cX0_have 4 (some .boolean) 0 0 0 0 [.inr 1, .inl x1, .inl x2] σ r := by
  refine xbody (by decide) (Nat.le_of_ble_eq_true rfl) ?_
  intro lo p e s m args below meth c F hP ls hl
  have F : Fx p l s args m meth c G cX0_have 4 (some .boolean) RX0 := F
  obtain ⟨hx, hb, hrt, hml, hown, hts, hlocks, hC, htab, hst⟩ := id F
  have hS : va_S (gF G) s.heap s.heap [] := va_S.rf
  have hl : lv_has ls 4 [(0, .ref (gA G 1)), (1, .int x1), (2, .int x2)] := hl
  unfold f_X0_have at hm
  refine lv_iconst (v := 0) hx hb dX0_have_0 (by decide) ?_
  refine lv_istore_n (lv' := [(3, .int 0), (0, .ref (gA G 1)), (1, .int x1), (2, .int x2)]) hx hb dX0_have_1 rfl hl (by decide) rfl (fun ls hl => ?_)
  exact w_X0_have_2 F 40 hm hP hS (lv_sub hl [1, 2, 3, 0] rfl)

def f_X0_hoursOf_4 (σ : St) (x1 : Int32) : Nat → Int32 → Int32 → Option (RV × St)
  | 0, _, _ => none
  | n + 1, x2, x3 =>
    if (σ 1 3) ≤ x3 then
      some (.inl (some (.inl x2)), σ)
    else
      if x3 < 0 ∨ 10 ≤ x3.toNatClampNeg then none
      else
        if (σ 2 x3.toNatClampNeg) = x1 then
          f_X0_hoursOf_4 σ x1 n (x2 + 1) (x3 + 1)
        else
          f_X0_hoursOf_4 σ x1 n x2 (x3 + 1)
set_option maxHeartbeats 4000000 in
set_option maxRecDepth 100000 in
theorem w_X0_hoursOf_4 {p : Program} {l : Launch} {e : Env} {s : State} {m : MethodId} {args : Array Value} {below : List Frame} {meth : Method} {c : Code} {G : GT} {lo : Nat → Int64} (F : Fx p l s args m meth c G cX0_hoursOf 4 (some .int) RX0) {σ : St} {x1 : Int32} : ∀ (n : Nat) {x2 : Int32} {x3 : Int32} {r : RV × St}, f_X0_hoursOf_4 σ x1 n x2 x3 = some r → ∀ {H : Heap} {locs : List Loc}, va_P (gD G) vwCl (wld G lo σ) H → va_S (gF G) s.heap H locs → ∀ {ls : Array Slot}, lv_has ls 4 [(0, .ref (gA G 1)), (1, .int x1), (2, .int x2), (3, .int x3)] → W p l e (RM 0 0 0 0) s m args below meth c H locs 0 0 (vx_MQ below (QCr G lo r) (XCr G lo r) args s 0 0 (gF G)) (F0 m 4 ls []) := by
  obtain ⟨hx, hb, hrt, hml, hown, hts, hlocks, hC, htab, hst⟩ := id F
  intro n
  induction n with
  | zero =>
    intro x2 x3 r hm
    simp only [f_X0_hoursOf_4] at hm
    cases hm
  | succ n ih =>
    intro x2 x3 r hm H locs hP hS ls hl
    rw [f_X0_hoursOf_4] at hm
    refine lv_iload_n hx hb dX0_hoursOf_4 rfl (lv_at hl 3 rfl) ?_
    refine lv_aload_n hx hb dX0_hoursOf_5 rfl (lv_at hl 0 rfl) ?_
    refine xg F 3 inX0 hP (kd_k kdc_1 (by decide)) (wc0 kdc_1) rfl (by decide) tk_38 rfl rfl dX0_hoursOf_6 ?_
    refine lv_icmp_ge (tgt := 31) hx hb dX0_hoursOf_9 (by decide) (fun b1 => ?_) (fun b1 => ?_)
    · rw [if_pos b1] at hm
      refine lv_iload_n hx hb dX0_hoursOf_31 rfl (lv_at hl 2 rfl) ?_
      exact xir F hP hS (Option.some.inj hm).symm (by decide) (by decide) dX0_hoursOf_32
    · rw [if_neg b1] at hm
      refine lv_aload_n hx hb dX0_hoursOf_12 rfl (lv_at hl 0 rfl) ?_
      refine xg F 0 inX0 hP (kd_k kdc_1 (by decide)) (wc0 kdc_1) rfl (by decide) tk_35 rfl rfl dX0_hoursOf_13 ?_
      refine lv_iload_n hx hb dX0_hoursOf_16 rfl (lv_at hl 3 rfl) ?_
      by_cases b2 : (x3 < 0 ∨ 10 ≤ x3.toNatClampNeg)
      · rw [if_pos b2] at hm
        cases hm
      · rw [if_neg b2] at hm
        refine xil F hP kdc_2 lnc_2 b2 dX0_hoursOf_17 ?_
        refine lv_iload_n hx hb dX0_hoursOf_18 rfl (lv_at hl 1 rfl) ?_
        refine lv_icmp_ne (tgt := 25) hx hb dX0_hoursOf_19 (by decide) (fun b3 => ?_) (fun b3 => ?_)
        · rw [if_neg b3] at hm
          refine lv_iinc (v := (x3 + 1)) (lv' := [(3, .int (x3 + 1)), (0, .ref (gA G 1)), (1, .int x1), (2, .int x2)]) hx hb dX0_hoursOf_25 hl (k := 3) rfl rfl (by decide) rfl (fun ls hl => ?_)
          refine lv_goto (tgt := 4) hx hb dX0_hoursOf_28 (by decide) ?_
          exact ih hm hP hS (lv_sub hl [1, 2, 3, 0] rfl)
        · rw [if_pos b3] at hm
          refine lv_iinc (v := (x2 + 1)) (lv' := [(2, .int (x2 + 1)), (0, .ref (gA G 1)), (1, .int x1), (3, .int x3)]) hx hb dX0_hoursOf_22 hl (k := 2) rfl rfl (by decide) rfl (fun ls hl => ?_)
          refine lv_iinc (v := (x3 + 1)) (lv' := [(3, .int (x3 + 1)), (2, .int (x2 + 1)), (0, .ref (gA G 1)), (1, .int x1)]) hx hb dX0_hoursOf_25 hl (k := 3) rfl rfl (by decide) rfl (fun ls hl => ?_)
          refine lv_goto (tgt := 4) hx hb dX0_hoursOf_28 (by decide) ?_
          exact ih hm hP hS (lv_sub hl [2, 3, 1, 0] rfl)
def f_X0_hoursOf (σ : St) (x1 : Int32) : Option (RV × St) :=
  f_X0_hoursOf_4 σ x1 40 0 0
set_option maxHeartbeats 4000000 in
set_option maxRecDepth 100000 in
theorem c_X0_hoursOf {l : Launch} {G : GT} {σ : St} {x1 : Int32} {r : RV × St} (hm : f_X0_hoursOf σ x1 = some r) : MC l G yX0_hoursOf cX0_hoursOf 4 (some .int) 0 0 0 0 [.inr 1, .inl x1] σ r := by
  refine xbody (by decide) (Nat.le_of_ble_eq_true rfl) ?_
  intro lo p e s m args below meth c F hP ls hl
  have F : Fx p l s args m meth c G cX0_hoursOf 4 (some .int) RX0 := F
  obtain ⟨hx, hb, hrt, hml, hown, hts, hlocks, hC, htab, hst⟩ := id F
  have hS : va_S (gF G) s.heap s.heap [] := va_S.rf
  have hl : lv_has ls 4 [(0, .ref (gA G 1)), (1, .int x1)] := hl
  unfold f_X0_hoursOf at hm
  refine lv_iconst (v := 0) hx hb dX0_hoursOf_0 (by decide) ?_
  refine lv_istore_n (lv' := [(2, .int 0), (0, .ref (gA G 1)), (1, .int x1)]) hx hb dX0_hoursOf_1 rfl hl (by decide) rfl (fun ls hl => ?_)
  refine lv_iconst (v := 0) hx hb dX0_hoursOf_2 (by decide) ?_
  refine lv_istore_n (lv' := [(3, .int 0), (2, .int 0), (0, .ref (gA G 1)), (1, .int x1)]) hx hb dX0_hoursOf_3 rfl hl (by decide) rfl (fun ls hl => ?_)
  exact w_X0_hoursOf_4 F 40 hm hP hS (lv_sub hl [2, 3, 1, 0] rfl)

def f_X0_open (σ : St) (x1 : Int32) (x2 : Int32) (x3 : Int32) : Option (RV × St) :=
  if 10 ≤ (σ 1 3) then
    some (.inl none, σ)
  else
    if (σ 1 3) < 0 ∨ 10 ≤ (σ 1 3).toNatClampNeg then none
    else
      if ((up2 σ 2 (σ 1 3).toNatClampNeg x1) 1 3) < 0 ∨ 10 ≤ ((up2 σ 2 (σ 1 3).toNatClampNeg x1) 1 3).toNatClampNeg then none
      else
        if ((up2 (up2 σ 2 (σ 1 3).toNatClampNeg x1) 3 ((up2 σ 2 (σ 1 3).toNatClampNeg x1) 1 3).toNatClampNeg x2) 1 3) < 0 ∨ 10 ≤ ((up2 (up2 σ 2 (σ 1 3).toNatClampNeg x1) 3 ((up2 σ 2 (σ 1 3).toNatClampNeg x1) 1 3).toNatClampNeg x2) 1 3).toNatClampNeg then none
        else
          some (.inl none, (up2 (up2 (up2 (up2 σ 2 (σ 1 3).toNatClampNeg x1) 3 ((up2 σ 2 (σ 1 3).toNatClampNeg x1) 1 3).toNatClampNeg x2) 4 ((up2 (up2 σ 2 (σ 1 3).toNatClampNeg x1) 3 ((up2 σ 2 (σ 1 3).toNatClampNeg x1) 1 3).toNatClampNeg x2) 1 3).toNatClampNeg x3) 1 3 (((up2 (up2 (up2 σ 2 (σ 1 3).toNatClampNeg x1) 3 ((up2 σ 2 (σ 1 3).toNatClampNeg x1) 1 3).toNatClampNeg x2) 4 ((up2 (up2 σ 2 (σ 1 3).toNatClampNeg x1) 3 ((up2 σ 2 (σ 1 3).toNatClampNeg x1) 1 3).toNatClampNeg x2) 1 3).toNatClampNeg x3) 1 3) + 1)))
set_option maxHeartbeats 4000000 in
set_option maxRecDepth 100000 in
theorem c_X0_open {l : Launch} {G : GT} {σ : St} {x1 : Int32} {x2 : Int32} {x3 : Int32} {r : RV × St} (hm : f_X0_open σ x1 x2 x3 = some r) : MC l G yX0_open cX0_open 4 none 0 0 0 0 [.inr 1, .inl x1, .inl x2, .inl x3] σ r := by
  refine xbody (by decide) (Nat.le_of_ble_eq_true rfl) ?_
  intro lo p e s m args below meth c F hP ls hl
  have F : Fx p l s args m meth c G cX0_open 4 none RX0 := F
  obtain ⟨hx, hb, hrt, hml, hown, hts, hlocks, hC, htab, hst⟩ := id F
  have hS : va_S (gF G) s.heap s.heap [] := va_S.rf
  have hl : lv_has ls 4 [(0, .ref (gA G 1)), (1, .int x1), (2, .int x2), (3, .int x3)] := hl
  unfold f_X0_open at hm
  refine lv_aload_n hx hb dX0_open_0 rfl (lv_at hl 0 rfl) ?_
  refine xg F 3 inX0 hP (kd_k kdc_1 (by decide)) (wc0 kdc_1) rfl (by decide) tk_38 rfl rfl dX0_open_1 ?_
  refine lv_bipush (v := 10) hx hb dX0_open_4 (by decide) ?_
  refine lv_icmp_ge (tgt := 49) hx hb dX0_open_6 (by decide) (fun b1 => ?_) (fun b1 => ?_)
  · rw [if_pos b1] at hm
    exact xvr F hP hS (Option.some.inj hm).symm (by decide) (by decide) dX0_open_49
  · rw [if_neg b1] at hm
    refine lv_aload_n hx hb dX0_open_9 rfl (lv_at hl 0 rfl) ?_
    refine xg F 0 inX0 hP (kd_k kdc_1 (by decide)) (wc0 kdc_1) rfl (by decide) tk_35 rfl rfl dX0_open_10 ?_
    refine lv_aload_n hx hb dX0_open_13 rfl (lv_at hl 0 rfl) ?_
    refine xg F 3 inX0 hP (kd_k kdc_1 (by decide)) (wc0 kdc_1) rfl (by decide) tk_38 rfl rfl dX0_open_14 ?_
    refine lv_iload_n hx hb dX0_open_17 rfl (lv_at hl 1 rfl) ?_
    by_cases b2 : ((σ 1 3) < 0 ∨ 10 ≤ (σ 1 3).toNatClampNeg)
    · rw [if_pos b2] at hm
      cases hm
    · rw [if_neg b2] at hm
      refine xis F (v := x1) hP hS kdc_2 lnc_2 b2 dX0_open_18 (fun H locs hP hS => ?_)
      refine lv_aload_n hx hb dX0_open_19 rfl (lv_at hl 0 rfl) ?_
      refine xg F 1 inX0 hP (kd_k kdc_1 (by decide)) (wc0 kdc_1) rfl (by decide) tk_36 rfl rfl dX0_open_20 ?_
      refine lv_aload_n hx hb dX0_open_23 rfl (lv_at hl 0 rfl) ?_
      refine xg F 3 inX0 hP (kd_k kdc_1 (by decide)) (wc0 kdc_1) rfl (by decide) tk_38 rfl rfl dX0_open_24 ?_
      refine lv_iload_n hx hb dX0_open_27 rfl (lv_at hl 2 rfl) ?_
      by_cases b3 : (((up2 σ 2 (σ 1 3).toNatClampNeg x1) 1 3) < 0 ∨ 10 ≤ ((up2 σ 2 (σ 1 3).toNatClampNeg x1) 1 3).toNatClampNeg)
      · rw [if_pos b3] at hm
        cases hm
      · rw [if_neg b3] at hm
        refine xis F (v := x2) hP hS kdc_3 lnc_3 b3 dX0_open_28 (fun H locs hP hS => ?_)
        refine lv_aload_n hx hb dX0_open_29 rfl (lv_at hl 0 rfl) ?_
        refine xg F 2 inX0 hP (kd_k kdc_1 (by decide)) (wc0 kdc_1) rfl (by decide) tk_37 rfl rfl dX0_open_30 ?_
        refine lv_aload_n hx hb dX0_open_33 rfl (lv_at hl 0 rfl) ?_
        refine xg F 3 inX0 hP (kd_k kdc_1 (by decide)) (wc0 kdc_1) rfl (by decide) tk_38 rfl rfl dX0_open_34 ?_
        refine lv_iload_n hx hb dX0_open_37 rfl (lv_at hl 3 rfl) ?_
        by_cases b4 : (((up2 (up2 σ 2 (σ 1 3).toNatClampNeg x1) 3 ((up2 σ 2 (σ 1 3).toNatClampNeg x1) 1 3).toNatClampNeg x2) 1 3) < 0 ∨ 10 ≤ ((up2 (up2 σ 2 (σ 1 3).toNatClampNeg x1) 3 ((up2 σ 2 (σ 1 3).toNatClampNeg x1) 1 3).toNatClampNeg x2) 1 3).toNatClampNeg)
        · rw [if_pos b4] at hm
          cases hm
        · rw [if_neg b4] at hm
          refine xis F (v := x3) hP hS kdc_4 lnc_4 b4 dX0_open_38 (fun H locs hP hS => ?_)
          refine lv_aload_n hx hb dX0_open_39 rfl (lv_at hl 0 rfl) ?_
          refine lv_dup hx hb dX0_open_40 rfl ?_
          refine xg F 3 inX0 hP (kd_k kdc_1 (by decide)) (wc0 kdc_1) rfl (by decide) tk_38 rfl rfl dX0_open_41 ?_
          refine lv_iconst (v := 1) hx hb dX0_open_44 (by decide) ?_
          refine lv_iadd hx hb dX0_open_45 ?_
          refine xp F (v := (((up2 (up2 (up2 σ 2 (σ 1 3).toNatClampNeg x1) 3 ((up2 σ 2 (σ 1 3).toNatClampNeg x1) 1 3).toNatClampNeg x2) 4 ((up2 (up2 σ 2 (σ 1 3).toNatClampNeg x1) 3 ((up2 σ 2 (σ 1 3).toNatClampNeg x1) 1 3).toNatClampNeg x2) 1 3).toNatClampNeg x3) 1 3) + 1)) (ty := .int) 3 inX0 tyX0_ok nmX0 hP hS (kd_k kdc_1 (by decide)) (wc0 kdc_1) (wu0_3 kdc_1) rfl (by decide) tk_38 rfl rfl rfl rfl rfl (Nat.le_of_ble_eq_true rfl) dX0_open_46 (fun H locs hP hS => ?_)
          exact xvr F hP hS (Option.some.inj hm).symm (by decide) (by decide) dX0_open_49

def f_X2_add (σ : St) (q0 : Nat) (x1 : Int32) : Option (RV × St) :=
  if 16 ≤ (σ q0 1) then
    some (.inl none, σ)
  else
    if (σ q0 1) < 0 ∨ 16 ≤ (σ q0 1).toNatClampNeg then none
    else
      some (.inl none, (up2 (up2 σ (q0 + 1) (σ q0 1).toNatClampNeg x1) q0 1 (((up2 σ (q0 + 1) (σ q0 1).toNatClampNeg x1) q0 1) + 1)))
set_option maxHeartbeats 4000000 in
set_option maxRecDepth 100000 in
theorem c_X2_add {l : Launch} {G : GT} {σ : St} {q0 : Nat} {x1 : Int32} (k0 : kd q0 = 2) {r : RV × St} (hm : f_X2_add σ q0 x1 = some r) : MC l G yX2_add cX2_add 2 none 0 0 0 0 [.inr q0, .inl x1] σ r := by
  refine xbody (by decide) (Nat.le_of_ble_eq_true rfl) ?_
  intro lo p e s m args below meth c F hP ls hl
  have F : Fx p l s args m meth c G cX2_add 2 none RX2 := F
  obtain ⟨hx, hb, hrt, hml, hown, hts, hlocks, hC, htab, hst⟩ := id F
  have hS : va_S (gF G) s.heap s.heap [] := va_S.rf
  have hl : lv_has ls 2 [(0, .ref (gA G q0)), (1, .int x1)] := hl
  unfold f_X2_add at hm
  refine lv_aload_n hx hb dX2_add_0 rfl (lv_at hl 0 rfl) ?_
  refine xg F 1 inX2 hP (kd_k k0 (by decide)) (wc2 k0) rfl (by decide) tk_98 rfl rfl dX2_add_1 ?_
  refine lv_bipush (v := 16) hx hb dX2_add_4 (by decide) ?_
  refine lv_icmp_ge (tgt := 29) hx hb dX2_add_6 (by decide) (fun b1 => ?_) (fun b1 => ?_)
  · rw [if_pos b1] at hm
    exact xvr F hP hS (Option.some.inj hm).symm (by decide) (by decide) dX2_add_29
  · rw [if_neg b1] at hm
    refine lv_aload_n hx hb dX2_add_9 rfl (lv_at hl 0 rfl) ?_
    refine xg F 0 inX2 hP (kd_k k0 (by decide)) (wc2 k0) rfl (by decide) tk_96 rfl rfl dX2_add_10 ?_
    refine lv_aload_n hx hb dX2_add_13 rfl (lv_at hl 0 rfl) ?_
    refine xg F 1 inX2 hP (kd_k k0 (by decide)) (wc2 k0) rfl (by decide) tk_98 rfl rfl dX2_add_14 ?_
    refine lv_iload_n hx hb dX2_add_17 rfl (lv_at hl 1 rfl) ?_
    by_cases b2 : ((σ q0 1) < 0 ∨ 16 ≤ (σ q0 1).toNatClampNeg)
    · rw [if_pos b2] at hm
      cases hm
    · rw [if_neg b2] at hm
      refine xis F (v := x1) hP hS ((kd_wavA _ k0).1) ((kd_wavA _ k0).2) b2 dX2_add_18 (fun H locs hP hS => ?_)
      refine lv_aload_n hx hb dX2_add_19 rfl (lv_at hl 0 rfl) ?_
      refine lv_dup hx hb dX2_add_20 rfl ?_
      refine xg F 1 inX2 hP (kd_k k0 (by decide)) (wc2 k0) rfl (by decide) tk_98 rfl rfl dX2_add_21 ?_
      refine lv_iconst (v := 1) hx hb dX2_add_24 (by decide) ?_
      refine lv_iadd hx hb dX2_add_25 ?_
      refine xp F (v := (((up2 σ (q0 + 1) (σ q0 1).toNatClampNeg x1) q0 1) + 1)) (ty := .int) 1 inX2 tyX2_ok nmX2 hP hS (kd_k k0 (by decide)) (wc2 k0) (wu2_1 k0) rfl (by decide) tk_98 rfl rfl rfl rfl rfl (Nat.le_of_ble_eq_true rfl) dX2_add_26 (fun H locs hP hS => ?_)
      exact xvr F hP hS (Option.some.inj hm).symm (by decide) (by decide) dX2_add_29

def f_X1_savingWith_39 (σ : St) (q0 : Nat) (q1 : Nat) : Nat → Int32 → Int32 → Option (RV × St)
  | 0, _, _ => none
  | n + 1, x2, x3 =>
    if 10 ≤ x3 then
      some (.inl (some (.inl (if (if (σ q1 2) < (σ q0 2) then (σ q1 2) else (σ q0 2)) < x2 then (if (σ q1 2) < (σ q0 2) then (σ q1 2) else (σ q0 2)) else x2))), σ)
    else
      if x3 < 0 ∨ 10 ≤ x3.toNatClampNeg then none
      else
        if (σ (q0 + 1) x3.toNatClampNeg) ≤ 0 then
          f_X1_savingWith_39 σ q0 q1 n x2 (x3 + 1)
        else
          if (σ (q1 + 1) x3.toNatClampNeg) ≤ 0 then
            f_X1_savingWith_39 σ q0 q1 n x2 (x3 + 1)
          else
            f_X1_savingWith_39 σ q0 q1 n (x2 + 3) (x3 + 1)
set_option maxHeartbeats 4000000 in
set_option maxRecDepth 100000 in
theorem w_X1_savingWith_39 {p : Program} {l : Launch} {e : Env} {s : State} {m : MethodId} {args : Array Value} {below : List Frame} {meth : Method} {c : Code} {G : GT} {lo : Nat → Int64} (F : Fx p l s args m meth c G cX1_savingWith 4 (some .int) RX1) {σ : St} {q0 : Nat} {q1 : Nat} (k0 : kd q0 = 1) (k1 : kd q1 = 1) : ∀ (n : Nat) {x2 : Int32} {x3 : Int32} {r : RV × St}, f_X1_savingWith_39 σ q0 q1 n x2 x3 = some r → ∀ {H : Heap} {locs : List Loc}, va_P (gD G) vwCl (wld G lo σ) H → va_S (gF G) s.heap H locs → ∀ {ls : Array Slot}, lv_has ls 4 [(0, .ref (gA G q0)), (1, .ref (gA G q1)), (2, .int x2), (3, .int x3)] → W p l e (RM 1 21 0 0) s m args below meth c H locs 0 0 (vx_MQ below (QCr G lo r) (XCr G lo r) args s 0 0 (gF G)) (F0 m 39 ls []) := by
  obtain ⟨hx, hb, hrt, hml, hown, hts, hlocks, hC, htab, hst⟩ := id F
  intro n
  induction n with
  | zero =>
    intro x2 x3 r hm
    simp only [f_X1_savingWith_39] at hm
    cases hm
  | succ n ih =>
    intro x2 x3 r hm H locs hP hS ls hl
    rw [f_X1_savingWith_39] at hm
    refine lv_iload_n hx hb dX1_savingWith_39 rfl (lv_at hl 3 rfl) ?_
    refine lv_bipush (v := 10) hx hb dX1_savingWith_40 (by decide) ?_
    refine lv_icmp_ge (tgt := 72) hx hb dX1_savingWith_42 (by decide) (fun b1 => ?_) (fun b1 => ?_)
    · rw [if_pos b1] at hm
      refine lv_iload_n hx hb dX1_savingWith_72 rfl (lv_at hl 2 rfl) ?_
      refine lv_aload_n hx hb dX1_savingWith_73 rfl (lv_at hl 0 rfl) ?_
      refine xg F 2 inX1 hP (kd_k k0 (by decide)) (wc1 k0) rfl (by decide) tk_61 rfl rfl dX1_savingWith_74 ?_
      refine lv_aload_n hx hb dX1_savingWith_77 rfl (lv_at hl 1 rfl) ?_
      refine xg F 2 inX1 hP (kd_k k1 (by decide)) (wc1 k1) rfl (by decide) tk_61 rfl rfl dX1_savingWith_78 ?_
      refine xmn F tk_171 tk_24 tk_2 tk_25 hl.1 (by decide) (Nat.le_of_ble_eq_true rfl) (by decide) (by decide) dX1_savingWith_81 ?_
      refine xmn F tk_171 tk_24 tk_2 tk_25 hl.1 (by decide) (Nat.le_of_ble_eq_true rfl) (by decide) (by decide) dX1_savingWith_84 ?_
      exact xir F hP hS (Option.some.inj hm).symm (by decide) (by decide) dX1_savingWith_87
    · rw [if_neg b1] at hm
      refine lv_aload_n hx hb dX1_savingWith_45 rfl (lv_at hl 0 rfl) ?_
      refine xg F 5 inX1 hP (kd_k k0 (by decide)) (wc1 k0) rfl (by decide) tk_64 rfl rfl dX1_savingWith_46 ?_
      refine lv_iload_n hx hb dX1_savingWith_49 rfl (lv_at hl 3 rfl) ?_
      by_cases b2 : (x3 < 0 ∨ 10 ≤ x3.toNatClampNeg)
      · rw [if_pos b2] at hm
        cases hm
      · rw [if_neg b2] at hm
        refine xil F hP ((kd_ordA _ k0).1) ((kd_ordA _ k0).2) b2 dX1_savingWith_50 ?_
        refine lv_if_le (tgt := 66) hx hb dX1_savingWith_51 (by decide) (fun b3 => ?_) (fun b3 => ?_)
        · rw [if_pos b3] at hm
          refine lv_iinc (v := (x3 + 1)) (lv' := [(3, .int (x3 + 1)), (0, .ref (gA G q0)), (1, .ref (gA G q1)), (2, .int x2)]) hx hb dX1_savingWith_66 hl (k := 3) rfl rfl (by decide) rfl (fun ls hl => ?_)
          refine lv_goto (tgt := 39) hx hb dX1_savingWith_69 (by decide) ?_
          exact ih hm hP hS (lv_sub hl [1, 2, 3, 0] rfl)
        · rw [if_neg b3] at hm
          refine lv_aload_n hx hb dX1_savingWith_54 rfl (lv_at hl 1 rfl) ?_
          refine xg F 5 inX1 hP (kd_k k1 (by decide)) (wc1 k1) rfl (by decide) tk_64 rfl rfl dX1_savingWith_55 ?_
          refine lv_iload_n hx hb dX1_savingWith_58 rfl (lv_at hl 3 rfl) ?_
          refine xil F hP ((kd_ordA _ k1).1) ((kd_ordA _ k1).2) b2 dX1_savingWith_59 ?_
          refine lv_if_le (tgt := 66) hx hb dX1_savingWith_60 (by decide) (fun b4 => ?_) (fun b4 => ?_)
          · rw [if_pos b4] at hm
            refine lv_iinc (v := (x3 + 1)) (lv' := [(3, .int (x3 + 1)), (0, .ref (gA G q0)), (1, .ref (gA G q1)), (2, .int x2)]) hx hb dX1_savingWith_66 hl (k := 3) rfl rfl (by decide) rfl (fun ls hl => ?_)
            refine lv_goto (tgt := 39) hx hb dX1_savingWith_69 (by decide) ?_
            exact ih hm hP hS (lv_sub hl [1, 2, 3, 0] rfl)
          · rw [if_neg b4] at hm
            refine lv_iinc (v := (x2 + 3)) (lv' := [(2, .int (x2 + 3)), (0, .ref (gA G q0)), (1, .ref (gA G q1)), (3, .int x3)]) hx hb dX1_savingWith_63 hl (k := 2) rfl rfl (by decide) rfl (fun ls hl => ?_)
            refine lv_iinc (v := (x3 + 1)) (lv' := [(3, .int (x3 + 1)), (2, .int (x2 + 3)), (0, .ref (gA G q0)), (1, .ref (gA G q1))]) hx hb dX1_savingWith_66 hl (k := 3) rfl rfl (by decide) rfl (fun ls hl => ?_)
            refine lv_goto (tgt := 39) hx hb dX1_savingWith_69 (by decide) ?_
            exact ih hm hP hS (lv_sub hl [2, 3, 1, 0] rfl)
def f_X1_savingWith_37 (σ : St) (q0 : Nat) (q1 : Nat) (x2 : Int32) : Option (RV × St) :=
  f_X1_savingWith_39 σ q0 q1 40 x2 0
set_option maxHeartbeats 4000000 in
set_option maxRecDepth 100000 in
theorem w_X1_savingWith_37 {p : Program} {l : Launch} {e : Env} {s : State} {m : MethodId} {args : Array Value} {below : List Frame} {meth : Method} {c : Code} {G : GT} {lo : Nat → Int64} (F : Fx p l s args m meth c G cX1_savingWith 4 (some .int) RX1) {σ : St} {q0 : Nat} {q1 : Nat} {x2 : Int32} (k0 : kd q0 = 1) (k1 : kd q1 = 1) {r : RV × St} (hm : f_X1_savingWith_37 σ q0 q1 x2 = some r) {H : Heap} {locs : List Loc} (hP : va_P (gD G) vwCl (wld G lo σ) H) (hS : va_S (gF G) s.heap H locs) {ls : Array Slot} (hl : lv_has ls 4 [(0, .ref (gA G q0)), (1, .ref (gA G q1)), (2, .int x2)]) : W p l e (RM 1 21 0 0) s m args below meth c H locs 0 0 (vx_MQ below (QCr G lo r) (XCr G lo r) args s 0 0 (gF G)) (F0 m 37 ls []) := by
  obtain ⟨hx, hb, hrt, hml, hown, hts, hlocks, hC, htab, hst⟩ := id F
  unfold f_X1_savingWith_37 at hm
  refine lv_iconst (v := 0) hx hb dX1_savingWith_37 (by decide) ?_
  refine lv_istore_n (lv' := [(3, .int 0), (0, .ref (gA G q0)), (1, .ref (gA G q1)), (2, .int x2)]) hx hb dX1_savingWith_38 rfl hl (by decide) rfl (fun ls hl => ?_)
  exact w_X1_savingWith_39 F k0 k1 40 hm hP hS (lv_sub hl [1, 2, 3, 0] rfl)
def f_X1_savingWith (σ : St) (q0 : Nat) (q1 : Nat) : Option (RV × St) :=
  if (σ q0 1) = (σ q1 1) then
    f_X1_savingWith_37 σ q0 q1 10
  else
    if (if 0 ≤ ((σ q0 1) - (σ q1 1)) then ((σ q0 1) - (σ q1 1)) else 0 - ((σ q0 1) - (σ q1 1))) = 1 then
      f_X1_savingWith_37 σ q0 q1 5
    else
      f_X1_savingWith_37 σ q0 q1 0
set_option maxHeartbeats 4000000 in
set_option maxRecDepth 100000 in
theorem c_X1_savingWith {l : Launch} {G : GT} {σ : St} {q0 : Nat} {q1 : Nat} (k0 : kd q0 = 1) (k1 : kd q1 = 1) {r : RV × St} (hm : f_X1_savingWith σ q0 q1 = some r) : MC l G yX1_savingWith cX1_savingWith 4 (some .int) 1 21 0 0 [.inr q0, .inr q1] σ r := by
  refine xbody (by decide) (Nat.le_of_ble_eq_true rfl) ?_
  intro lo p e s m args below meth c F hP ls hl
  have F : Fx p l s args m meth c G cX1_savingWith 4 (some .int) RX1 := F
  obtain ⟨hx, hb, hrt, hml, hown, hts, hlocks, hC, htab, hst⟩ := id F
  have hS : va_S (gF G) s.heap s.heap [] := va_S.rf
  have hl : lv_has ls 4 [(0, .ref (gA G q0)), (1, .ref (gA G q1))] := hl
  unfold f_X1_savingWith at hm
  refine lv_iconst (v := 0) hx hb dX1_savingWith_0 (by decide) ?_
  refine lv_istore_n (lv' := [(2, .int 0), (0, .ref (gA G q0)), (1, .ref (gA G q1))]) hx hb dX1_savingWith_1 rfl hl (by decide) rfl (fun ls hl => ?_)
  refine lv_aload_n hx hb dX1_savingWith_2 rfl (lv_at hl 1 rfl) ?_
  refine xg F 1 inX1 hP (kd_k k0 (by decide)) (wc1 k0) rfl (by decide) tk_58 rfl rfl dX1_savingWith_3 ?_
  refine lv_aload_n hx hb dX1_savingWith_6 rfl (lv_at hl 2 rfl) ?_
  refine xg F 1 inX1 hP (kd_k k1 (by decide)) (wc1 k1) rfl (by decide) tk_58 rfl rfl dX1_savingWith_7 ?_
  refine lv_icmp_ne (tgt := 19) hx hb dX1_savingWith_10 (by decide) (fun b1 => ?_) (fun b1 => ?_)
  · rw [if_neg b1] at hm
    refine lv_aload_n hx hb dX1_savingWith_19 rfl (lv_at hl 1 rfl) ?_
    refine xg F 1 inX1 hP (kd_k k0 (by decide)) (wc1 k0) rfl (by decide) tk_58 rfl rfl dX1_savingWith_20 ?_
    refine lv_aload_n hx hb dX1_savingWith_23 rfl (lv_at hl 2 rfl) ?_
    refine xg F 1 inX1 hP (kd_k k1 (by decide)) (wc1 k1) rfl (by decide) tk_58 rfl rfl dX1_savingWith_24 ?_
    refine lv_isub hx hb dX1_savingWith_27 ?_
    refine xab F tk_168 tk_169 tk_2 tk_170 hl.1 (by decide) (Nat.le_of_ble_eq_true rfl) (by decide) (by decide) dX1_savingWith_28 ?_
    refine lv_iconst (v := 1) hx hb dX1_savingWith_31 (by decide) ?_
    refine lv_icmp_ne (tgt := 37) hx hb dX1_savingWith_32 (by decide) (fun b2 => ?_) (fun b2 => ?_)
    · rw [if_neg b2] at hm
      exact w_X1_savingWith_37 F k0 k1 hm hP hS (lv_sub hl [1, 2, 0] rfl)
    · rw [if_pos b2] at hm
      refine lv_iconst (v := 5) hx hb dX1_savingWith_35 (by decide) ?_
      refine lv_istore_n (lv' := [(2, .int 5), (0, .ref (gA G q0)), (1, .ref (gA G q1))]) hx hb dX1_savingWith_36 rfl hl (by decide) rfl (fun ls hl => ?_)
      exact w_X1_savingWith_37 F k0 k1 hm hP hS (lv_sub hl [1, 2, 0] rfl)
  · rw [if_pos b1] at hm
    refine lv_bipush (v := 10) hx hb dX1_savingWith_13 (by decide) ?_
    refine lv_istore_n (lv' := [(2, .int 10), (0, .ref (gA G q0)), (1, .ref (gA G q1))]) hx hb dX1_savingWith_15 rfl hl (by decide) rfl (fun ls hl => ?_)
    refine lv_goto (tgt := 37) hx hb dX1_savingWith_16 (by decide) ?_
    exact w_X1_savingWith_37 F k0 k1 hm hP hS (lv_sub hl [1, 2, 0] rfl)

def f_X3_requireRange (σ : St) (x0 : Int32) (x1 : Int32) (x2 : Int32) : Option (RV × St) :=
  if x0 < x1 then
    some (.inr "java/lang/IllegalArgumentException", σ)
  else
    if x0 ≤ x2 then
      some (.inl none, σ)
    else
      some (.inr "java/lang/IllegalArgumentException", σ)
set_option maxHeartbeats 4000000 in
set_option maxRecDepth 100000 in
theorem c_X3_requireRange {l : Launch} {G : GT} {σ : St} {x0 : Int32} {x1 : Int32} {x2 : Int32} {r : RV × St} (hm : f_X3_requireRange σ x0 x1 x2 = some r) : MC l G yX3_requireRange cX3_requireRange 3 none 6 90 1 6 [.inl x0, .inl x1, .inl x2] σ r := by
  refine xbody (by decide) (Nat.le_of_ble_eq_true rfl) ?_
  intro lo p e s m args below meth c F hP ls hl
  have F : Fx p l s args m meth c G cX3_requireRange 3 none RX3 := F
  obtain ⟨hx, hb, hrt, hml, hown, hts, hlocks, hC, htab, hst⟩ := id F
  have hS : va_S (gF G) s.heap s.heap [] := va_S.rf
  have hl : lv_has ls 3 [(0, .int x0), (1, .int x1), (2, .int x2)] := hl
  unfold f_X3_requireRange at hm
  refine lv_iload_n hx hb dX3_requireRange_0 rfl (lv_at hl 0 rfl) ?_
  refine lv_iload_n hx hb dX3_requireRange_1 rfl (lv_at hl 1 rfl) ?_
  refine lv_icmp_lt (tgt := 10) hx hb dX3_requireRange_2 (by decide) (fun b1 => ?_) (fun b1 => ?_)
  · rw [if_pos b1] at hm
    exact xthr F hP hS (Option.some.inj hm).symm (by decide) (by decide) hl.1 (by decide +kernel) tk_188 tk_10 (List.mem_of_getElem? (i := 0) rfl) xt_158_1 xt_158_2 xt_158_154 dX3_requireRange_10 dX3_requireRange_13 dX3_requireRange_14 dX3_requireRange_16 dX3_requireRange_19 (Nat.le_of_ble_eq_true rfl) (Nat.le_of_ble_eq_true rfl) (Nat.le_of_ble_eq_true rfl) (Nat.le_of_ble_eq_true rfl)
  · rw [if_neg b1] at hm
    refine lv_iload_n hx hb dX3_requireRange_5 rfl (lv_at hl 0 rfl) ?_
    refine lv_iload_n hx hb dX3_requireRange_6 rfl (lv_at hl 2 rfl) ?_
    refine lv_icmp_le (tgt := 20) hx hb dX3_requireRange_7 (by decide) (fun b2 => ?_) (fun b2 => ?_)
    · rw [if_pos b2] at hm
      exact xvr F hP hS (Option.some.inj hm).symm (by decide) (by decide) dX3_requireRange_20
    · rw [if_neg b2] at hm
      exact xthr F hP hS (Option.some.inj hm).symm (by decide) (by decide) hl.1 (by decide +kernel) tk_188 tk_10 (List.mem_of_getElem? (i := 0) rfl) xt_158_1 xt_158_2 xt_158_154 dX3_requireRange_10 dX3_requireRange_13 dX3_requireRange_14 dX3_requireRange_16 dX3_requireRange_19 (Nat.le_of_ble_eq_true rfl) (Nat.le_of_ble_eq_true rfl) (Nat.le_of_ble_eq_true rfl) (Nat.le_of_ble_eq_true rfl)

def f_X3_requireOrder (σ : St) (x1 : Int32) : Option (RV × St) :=
  if x1 < 0 then
    some (.inr "java/util/NoSuchElementException", σ)
  else
    if x1 < (σ 0 4) then
      if x1 < 0 ∨ 16 ≤ x1.toNatClampNeg then none
      else
        some (.inl (some (.inr (26 + 2 * x1.toNatClampNeg))), σ)
    else
      some (.inr "java/util/NoSuchElementException", σ)
set_option maxHeartbeats 4000000 in
set_option maxRecDepth 100000 in
theorem c_X3_requireOrder {l : Launch} {G : GT} {σ : St} {x1 : Int32} {r : RV × St} (hm : f_X3_requireOrder σ x1 = some r) : MC l G yX3_requireOrder cX3_requireOrder 2 (some (.object "WavePlans$Order")) 6 90 1 6 [.inr 0, .inl x1] σ r := by
  refine xbody (by decide) (Nat.le_of_ble_eq_true rfl) ?_
  intro lo p e s m args below meth c F hP ls hl
  have F : Fx p l s args m meth c G cX3_requireOrder 2 (some (.object "WavePlans$Order")) RX3 := F
  obtain ⟨hx, hb, hrt, hml, hown, hts, hlocks, hC, htab, hst⟩ := id F
  have hS : va_S (gF G) s.heap s.heap [] := va_S.rf
  have hl : lv_has ls 2 [(0, .ref (gA G 0)), (1, .int x1)] := hl
  unfold f_X3_requireOrder at hm
  refine lv_iload_n hx hb dX3_requireOrder_0 rfl (lv_at hl 1 rfl) ?_
  refine lv_if_lt (tgt := 12) hx hb dX3_requireOrder_1 (by decide) (fun b1 => ?_) (fun b1 => ?_)
  · rw [if_pos b1] at hm
    exact xthrN F hP hS (Option.some.inj hm).symm (by decide) (by decide) hl.1 tk_286 (List.mem_of_getElem? (i := 2) rfl) dX3_requireOrder_12 dX3_requireOrder_15 dX3_requireOrder_16 dX3_requireOrder_18 dX3_requireOrder_21 (Nat.le_of_ble_eq_true rfl) (Nat.le_of_ble_eq_true rfl) (Nat.le_of_ble_eq_true rfl) (Nat.le_of_ble_eq_true rfl)
  · rw [if_neg b1] at hm
    refine lv_iload_n hx hb dX3_requireOrder_4 rfl (lv_at hl 1 rfl) ?_
    refine lv_aload_n hx hb dX3_requireOrder_5 rfl (lv_at hl 0 rfl) ?_
    refine xg F 4 inX3 hP (kd_k kdc_0 (by decide)) (wc3 kdc_0) rfl (by decide) tk_115 rfl rfl dX3_requireOrder_6 ?_
    refine lv_icmp_lt (tgt := 22) hx hb dX3_requireOrder_9 (by decide) (fun b2 => ?_) (fun b2 => ?_)
    · rw [if_pos b2] at hm
      refine lv_aload_n hx hb dX3_requireOrder_22 rfl (lv_at hl 0 rfl) ?_
      refine xg F 3 inX3 hP (kd_k kdc_0 (by decide)) (wc3 kdc_0) rfl (by decide) tk_114 rfl rfl dX3_requireOrder_23 ?_
      refine lv_iload_n hx hb dX3_requireOrder_26 rfl (lv_at hl 1 rfl) ?_
      by_cases b3 : (x1 < 0 ∨ 16 ≤ x1.toNatClampNeg)
      · rw [if_pos b3] at hm
        cases hm
      · rw [if_neg b3] at hm
        refine xol F hP kdc_6 b3 dX3_requireOrder_27 ?_
        exact xar F hP hS (Option.some.inj hm).symm (by decide) (by decide) dX3_requireOrder_28
    · rw [if_neg b2] at hm
      exact xthrN F hP hS (Option.some.inj hm).symm (by decide) (by decide) hl.1 tk_286 (List.mem_of_getElem? (i := 2) rfl) dX3_requireOrder_12 dX3_requireOrder_15 dX3_requireOrder_16 dX3_requireOrder_18 dX3_requireOrder_21 (Nat.le_of_ble_eq_true rfl) (Nat.le_of_ble_eq_true rfl) (Nat.le_of_ble_eq_true rfl) (Nat.le_of_ble_eq_true rfl)

def f_X3_fits (σ : St) (q1 : Nat) : Option (RV × St) :=
  ni (f_X0_have σ (σ q1 3) (σ q1 0)) (fun x1_ σ1 =>
    if x1_ = 0 ∨ x1_ = 1 then some (.inl (some (.inl x1_)), σ1) else none)
set_option maxHeartbeats 4000000 in
set_option maxRecDepth 100000 in
theorem c_X3_fits {l : Launch} {G : GT} {σ : St} {q1 : Nat} (k1 : kd q1 = 1) {r : RV × St} (hm : f_X3_fits σ q1 = some r) : MC l G yX3_fits cX3_fits 2 (some .boolean) 1 23 0 0 [.inr 0, .inr q1] σ r := by
  refine xbody (by decide) (Nat.le_of_ble_eq_true rfl) ?_
  intro lo p e s m args below meth c F hP ls hl
  have F : Fx p l s args m meth c G cX3_fits 2 (some .boolean) RX3 := F
  obtain ⟨hx, hb, hrt, hml, hown, hts, hlocks, hC, htab, hst⟩ := id F
  have hS : va_S (gF G) s.heap s.heap [] := va_S.rf
  have hl : lv_has ls 2 [(0, .ref (gA G 0)), (1, .ref (gA G q1))] := hl
  unfold f_X3_fits at hm
  refine lv_aload_n hx hb dX3_fits_0 rfl (lv_at hl 0 rfl) ?_
  refine xg F 1 inX3 hP (kd_k kdc_0 (by decide)) (wc3 kdc_0) rfl (by decide) tk_112 rfl rfl dX3_fits_1 ?_
  refine lv_aload_n hx hb dX3_fits_4 rfl (lv_at hl 1 rfl) ?_
  refine xgN F 3 inX1 hP (kd_k k1 (by decide)) (wc1 k1) rfl (by decide) tn_6 rfl rfl dX3_fits_5 ?_
  refine lv_aload_n hx hb dX3_fits_8 rfl (lv_at hl 1 rfl) ?_
  refine xgN F 0 inX1 hP (kd_k k1 (by decide)) (wc1 k1) rfl (by decide) tn_3 rfl rfl dX3_fits_9 ?_
  obtain ⟨x1_, σ1, h1, hm⟩ := ni_inv hm
  refine xVN F (c_X0_have h1) rfl tk_379 tn_30 tk_378 tu_15 tk_3 rfl 2 (by decide +kernel) rfl ⟨Nat.le_of_ble_eq_true rfl, Nat.le_of_ble_eq_true rfl⟩ hP hS (kd_k kdc_1 (by decide)) (wc0 kdc_1) rfl hl.1 rfl (Nat.le_of_ble_eq_true rfl) dX3_fits_12 ⟨Nat.le_of_ble_eq_true rfl, Nat.le_of_ble_eq_true rfl⟩ (fun H locs hP hS => ?_)
  refine W.eq (g2 := F0 m 15 ls [.int x1_]) rfl ?_
  by_cases b2 : (x1_ = 0 ∨ x1_ = 1)
  · rw [if_pos b2] at hm
    exact xzr F hP hS (nar_b b2) (Option.some.inj hm).symm (by decide) (by decide) dX3_fits_15
  · rw [if_neg b2] at hm
    cases hm

def f_X3_order (σ : St) (x1 : Int32) (x2 : Int32) (x3 : Int32) : Option (RV × St) :=
  bv (f_X3_requireRange σ x1 0 100000) (fun σ1 =>
    bv (f_X3_requireRange σ1 x2 0 7) (fun σ2 =>
      bv (f_X3_requireRange σ2 x3 1 10000) (fun σ3 =>
        if (σ3 0 4) < 16 then
          if (σ3 0 4) < 0 ∨ 16 ≤ (σ3 0 4).toNatClampNeg then none
          else
            some (.inl (some (.inl (((up2 (up2 (up2 (up2 σ3 (26 + 2 * (σ3 0 4).toNatClampNeg) 0 x1) (26 + 2 * (σ3 0 4).toNatClampNeg) 1 x2) (26 + 2 * (σ3 0 4).toNatClampNeg) 2 x3) 0 4 (((up2 (up2 (up2 σ3 (26 + 2 * (σ3 0 4).toNatClampNeg) 0 x1) (26 + 2 * (σ3 0 4).toNatClampNeg) 1 x2) (26 + 2 * (σ3 0 4).toNatClampNeg) 2 x3) 0 4) + 1)) 0 4) - 1))), (up2 (up2 (up2 (up2 σ3 (26 + 2 * (σ3 0 4).toNatClampNeg) 0 x1) (26 + 2 * (σ3 0 4).toNatClampNeg) 1 x2) (26 + 2 * (σ3 0 4).toNatClampNeg) 2 x3) 0 4 (((up2 (up2 (up2 σ3 (26 + 2 * (σ3 0 4).toNatClampNeg) 0 x1) (26 + 2 * (σ3 0 4).toNatClampNeg) 1 x2) (26 + 2 * (σ3 0 4).toNatClampNeg) 2 x3) 0 4) + 1)))
        else
          some (.inr "java/lang/UnsupportedOperationException", σ3))))
set_option maxHeartbeats 4000000 in
set_option maxRecDepth 100000 in
theorem c_X3_order {l : Launch} {G : GT} {σ : St} {x1 : Int32} {x2 : Int32} {x3 : Int32} {r : RV × St} (hm : f_X3_order σ x1 x2 x3 = some r) : MC l G yX3_order cX3_order 5 (some .int) 7 112 4 24 [.inr 0, .inl x1, .inl x2, .inl x3] σ r := by
  refine xbody (by decide) (Nat.le_of_ble_eq_true rfl) ?_
  intro lo p e s m args below meth c F hP ls hl
  have F : Fx p l s args m meth c G cX3_order 5 (some .int) RX3 := F
  obtain ⟨hx, hb, hrt, hml, hown, hts, hlocks, hC, htab, hst⟩ := id F
  have hS : va_S (gF G) s.heap s.heap [] := va_S.rf
  have hl : lv_has ls 5 [(0, .ref (gA G 0)), (1, .int x1), (2, .int x2), (3, .int x3)] := hl
  unfold f_X3_order at hm
  refine lv_iload_n hx hb dX3_order_0 rfl (lv_at hl 1 rfl) ?_
  refine lv_iconst (v := 0) hx hb dX3_order_1 (by decide) ?_
  refine lv_ldc (v := 100000) hx hb hown (hts _ tk_184) dX3_order_2 ?_
  rcases bv_inv hm with ⟨σ1, h1, hm⟩ | ⟨E1, σ1, h1, hm⟩
  · refine xSt F (c_X3_requireRange h1) tk_187 tk_185 tk_186 tk_1 rfl 3 (by decide +kernel) rfl ⟨Nat.le_of_ble_eq_true rfl, Nat.le_of_ble_eq_true rfl⟩ hP hS hl.1 rfl (Nat.le_of_ble_eq_true rfl) dX3_order_4 ⟨Nat.le_of_ble_eq_true rfl, Nat.le_of_ble_eq_true rfl⟩ (fun v hv H locs hP hS => ?_) (fun E hE => by cases hE)
    cases hv
    refine W.eq (g2 := F0 m 7 ls []) rfl ?_
    refine lv_iload_n hx hb dX3_order_7 rfl (lv_at hl 2 rfl) ?_
    refine lv_iconst (v := 0) hx hb dX3_order_8 (by decide) ?_
    refine lv_bipush (v := 7) hx hb dX3_order_9 (by decide) ?_
    rcases bv_inv hm with ⟨σ2, h2, hm⟩ | ⟨E2, σ2, h2, hm⟩
    · refine xSt F (c_X3_requireRange h2) tk_187 tk_185 tk_186 tk_1 rfl 3 (by decide +kernel) rfl ⟨Nat.le_of_ble_eq_true rfl, Nat.le_of_ble_eq_true rfl⟩ hP hS hl.1 rfl (Nat.le_of_ble_eq_true rfl) dX3_order_11 ⟨Nat.le_of_ble_eq_true rfl, Nat.le_of_ble_eq_true rfl⟩ (fun v hv H locs hP hS => ?_) (fun E hE => by cases hE)
      cases hv
      refine W.eq (g2 := F0 m 14 ls []) rfl ?_
      refine lv_iload_n hx hb dX3_order_14 rfl (lv_at hl 3 rfl) ?_
      refine lv_iconst (v := 1) hx hb dX3_order_15 (by decide) ?_
      refine lv_sipush (v := 10000) hx hb dX3_order_16 (by decide) ?_
      rcases bv_inv hm with ⟨σ3, h3, hm⟩ | ⟨E3, σ3, h3, hm⟩
      · refine xSt F (c_X3_requireRange h3) tk_187 tk_185 tk_186 tk_1 rfl 3 (by decide +kernel) rfl ⟨Nat.le_of_ble_eq_true rfl, Nat.le_of_ble_eq_true rfl⟩ hP hS hl.1 rfl (Nat.le_of_ble_eq_true rfl) dX3_order_19 ⟨Nat.le_of_ble_eq_true rfl, Nat.le_of_ble_eq_true rfl⟩ (fun v hv H locs hP hS => ?_) (fun E hE => by cases hE)
        cases hv
        refine W.eq (g2 := F0 m 22 ls []) rfl ?_
        refine lv_aload_n hx hb dX3_order_22 rfl (lv_at hl 0 rfl) ?_
        refine xg F 4 inX3 hP (kd_k kdc_0 (by decide)) (wc3 kdc_0) rfl (by decide) tk_115 rfl rfl dX3_order_23 ?_
        refine lv_bipush (v := 16) hx hb dX3_order_26 (by decide) ?_
        refine lv_icmp_lt (tgt := 41) hx hb dX3_order_28 (by decide) (fun b4 => ?_) (fun b4 => ?_)
        · rw [if_pos b4] at hm
          refine lv_aload_n hx hb dX3_order_41 rfl (lv_at hl 0 rfl) ?_
          refine xg F 3 inX3 hP (kd_k kdc_0 (by decide)) (wc3 kdc_0) rfl (by decide) tk_114 rfl rfl dX3_order_42 ?_
          refine lv_aload_n hx hb dX3_order_45 rfl (lv_at hl 0 rfl) ?_
          refine xg F 4 inX3 hP (kd_k kdc_0 (by decide)) (wc3 kdc_0) rfl (by decide) tk_115 rfl rfl dX3_order_46 ?_
          by_cases b5 : ((σ3 0 4) < 0 ∨ 16 ≤ (σ3 0 4).toNatClampNeg)
          · rw [if_pos b5] at hm
            cases hm
          · rw [if_neg b5] at hm
            refine xol F hP kdc_6 b5 dX3_order_49 ?_
            refine lv_astore (lv' := [(4, .ref (gA G (26 + 2 * (σ3 0 4).toNatClampNeg))), (0, .ref (gA G 0)), (1, .int x1), (2, .int x2), (3, .int x3)]) hx hb dX3_order_50 hl (by decide) rfl (fun ls hl => ?_)
            refine lv_aload hx hb dX3_order_52 (lv_at hl 0 rfl) ?_
            refine lv_iload_n hx hb dX3_order_54 rfl (lv_at hl 2 rfl) ?_
            refine xpN F (v := x1) (ty := .int) 0 inX1 tyX1_ok nmX1 hP hS (kd_k (kd_ord b5) (by decide)) (wc1 (kd_ord b5)) (wu1_0 (kd_ord b5)) rfl (by decide) tn_3 rfl rfl rfl rfl rfl (Nat.le_of_ble_eq_true rfl) dX3_order_55 (fun H locs hP hS => ?_)
            refine lv_aload hx hb dX3_order_58 (lv_at hl 0 rfl) ?_
            refine lv_iload_n hx hb dX3_order_60 rfl (lv_at hl 3 rfl) ?_
            refine xpN F (v := x2) (ty := .int) 1 inX1 tyX1_ok nmX1 hP hS (kd_k (kd_ord b5) (by decide)) (wc1 (kd_ord b5)) (wu1_1 (kd_ord b5)) rfl (by decide) tn_4 rfl rfl rfl rfl rfl (Nat.le_of_ble_eq_true rfl) dX3_order_61 (fun H locs hP hS => ?_)
            refine lv_aload hx hb dX3_order_64 (lv_at hl 0 rfl) ?_
            refine lv_iload_n hx hb dX3_order_66 rfl (lv_at hl 4 rfl) ?_
            refine xpN F (v := x3) (ty := .int) 2 inX1 tyX1_ok nmX1 hP hS (kd_k (kd_ord b5) (by decide)) (wc1 (kd_ord b5)) (wu1_2 (kd_ord b5)) rfl (by decide) tn_5 rfl rfl rfl rfl rfl (Nat.le_of_ble_eq_true rfl) dX3_order_67 (fun H locs hP hS => ?_)
            refine lv_aload_n hx hb dX3_order_70 rfl (lv_at hl 1 rfl) ?_
            refine lv_dup hx hb dX3_order_71 rfl ?_
            refine xg F 4 inX3 hP (kd_k kdc_0 (by decide)) (wc3 kdc_0) rfl (by decide) tk_115 rfl rfl dX3_order_72 ?_
            refine lv_iconst (v := 1) hx hb dX3_order_75 (by decide) ?_
            refine lv_iadd hx hb dX3_order_76 ?_
            refine xp F (v := (((up2 (up2 (up2 σ3 (26 + 2 * (σ3 0 4).toNatClampNeg) 0 x1) (26 + 2 * (σ3 0 4).toNatClampNeg) 1 x2) (26 + 2 * (σ3 0 4).toNatClampNeg) 2 x3) 0 4) + 1)) (ty := .int) 4 inX3 tyX3_ok nmX3 hP hS (kd_k kdc_0 (by decide)) (wc3 kdc_0) (wu3_4 kdc_0) rfl (by decide) tk_115 rfl rfl rfl rfl rfl (Nat.le_of_ble_eq_true rfl) dX3_order_77 (fun H locs hP hS => ?_)
            refine lv_aload_n hx hb dX3_order_80 rfl (lv_at hl 1 rfl) ?_
            refine xg F 4 inX3 hP (kd_k kdc_0 (by decide)) (wc3 kdc_0) rfl (by decide) tk_115 rfl rfl dX3_order_81 ?_
            refine lv_iconst (v := 1) hx hb dX3_order_84 (by decide) ?_
            refine lv_isub hx hb dX3_order_85 ?_
            exact xir F hP hS (Option.some.inj hm).symm (by decide) (by decide) dX3_order_86
        · rw [if_neg b4] at hm
          exact xthr F hP hS (Option.some.inj hm).symm (by decide) (by decide) hl.1 (by decide +kernel) tk_257 tk_11 (List.mem_of_getElem? (i := 1) rfl) xt_64_1 xt_64_2 xt_64_60 dX3_order_31 dX3_order_34 dX3_order_35 dX3_order_37 dX3_order_40 (Nat.le_of_ble_eq_true rfl) (Nat.le_of_ble_eq_true rfl) (Nat.le_of_ble_eq_true rfl) (Nat.le_of_ble_eq_true rfl)
      · refine xSt F (c_X3_requireRange h3) tk_187 tk_185 tk_186 tk_1 rfl 3 (by decide +kernel) rfl ⟨Nat.le_of_ble_eq_true rfl, Nat.le_of_ble_eq_true rfl⟩ hP hS hl.1 rfl (Nat.le_of_ble_eq_true rfl) dX3_order_19 ⟨Nat.le_of_ble_eq_true rfl, Nat.le_of_ble_eq_true rfl⟩ (fun v hv => by cases hv) (fun E hE H locs q9 ce hP hS e1 e2 e3 => ?_)
        cases hE
        exact xto F hP hS hm (by decide) (by decide) e1 e2 e3
    · refine xSt F (c_X3_requireRange h2) tk_187 tk_185 tk_186 tk_1 rfl 3 (by decide +kernel) rfl ⟨Nat.le_of_ble_eq_true rfl, Nat.le_of_ble_eq_true rfl⟩ hP hS hl.1 rfl (Nat.le_of_ble_eq_true rfl) dX3_order_11 ⟨Nat.le_of_ble_eq_true rfl, Nat.le_of_ble_eq_true rfl⟩ (fun v hv => by cases hv) (fun E hE H locs q9 ce hP hS e1 e2 e3 => ?_)
      cases hE
      exact xto F hP hS hm (by decide) (by decide) e1 e2 e3
  · refine xSt F (c_X3_requireRange h1) tk_187 tk_185 tk_186 tk_1 rfl 3 (by decide +kernel) rfl ⟨Nat.le_of_ble_eq_true rfl, Nat.le_of_ble_eq_true rfl⟩ hP hS hl.1 rfl (Nat.le_of_ble_eq_true rfl) dX3_order_4 ⟨Nat.le_of_ble_eq_true rfl, Nat.le_of_ble_eq_true rfl⟩ (fun v hv => by cases hv) (fun E hE H locs q9 ce hP hS e1 e2 e3 => ?_)
    cases hE
    exact xto F hP hS hm (by decide) (by decide) e1 e2 e3
end
